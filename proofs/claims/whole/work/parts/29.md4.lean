/-! StripFlagModel: flies, fray, told, seam, strip, left, books -/
set_option maxHeartbeats 4000000 in
set_option maxRecDepth 20000 in
theorem ct_X9_fault (l : Launch) (R : Nat → Nat → Nat) (F : Nat → Nat) (L : Nat → Int64) : Ct l 0 yX9_fault cX9_fault 1 (some .int) [.ref 0] (mdW R F L) (RV (.int (nI (F 1))) (mdW R F L)) := by
  refine Ct.of (by decide) (Nat.le_of_ble_eq_true rfl) (fun K hC hR => ?_)
  show K 0 [(0, .ref 0)] [] _
  refine hC.aload_n dX9_fault_0 rfl ?_
  refine hC.getfield dX9_fault_1 lfX9_86 rfl rfl ?_
  exact hR.ireturn dX9_fault_4 ⟨rfl, rfl⟩
theorem upR_self (R : Nat → Nat → Nat) (k : Nat) : upR R k (R k) = R := by
  funext j
  unfold upR
  by_cases e : j = k
  · rw [if_pos e, e]
  · rw [if_neg e]
set_option maxHeartbeats 4000000 in
set_option maxRecDepth 20000 in
theorem ct_X9_flies (l : Launch) (R : Nat → Nat → Nat) (F : Nat → Nat) (L : Nat → Int64) (h : MdOK R F) (x : Int32) : Ct l 2 yX9_flies cX9_flies 2 (some .int) [.ref 0, .int x] (mdW R F L) (RV (.int (if inR x 9 = true then nI (flyF (EM R) 20 (thF (stM R F) (ix x))) else cO)) (mdW R F L)) := by
  refine Ct.of (by decide) (Nat.le_of_ble_eq_true rfl) (fun K hC hR => ?_)
  show K 0 [(0, .ref 0), (1, .int x)] [] _
  refine hC.iload_n dX9_flies_0 rfl ?_
  refine hC.i2l dX9_flies_1 ?_
  refine hC.lconst dX9_flies_2 (v := lN 0) rfl ?_
  refine hC.ldc2_w (v := lN 9) dX9_flies_3 lcX9_221 ?_
  refine hC.rdS [] dX9_flies_6 lmX9_92 mkX9_in sxX9_in (ct_X9_in l x.toInt64 (lN 0) (lN 9)) ⟨Nat.le_of_ble_eq_true rfl, Nat.le_of_ble_eq_true rfl⟩ rfl rfl (Nat.le_of_ble_eq_true rfl) ⟨by decide, rfl⟩ ?_
  rw [in_R (by decide)]
  refine hC.bz dX9_flies_9 (tgt := 24) rfl (fun c1 => ?_) (fun c1 => ?_)
  · rw [if_neg (by simp [c1])] at hR
    refine hC.ldc dX9_flies_24 lcX9_96 ?_
    exact hR.ireturn dX9_flies_26 ⟨rfl, rfl⟩
  · obtain ⟨k, hk, rfl⟩ := inR_of (by decide) c1
    have hix : ix (nI k) = k := nI_clamp (by omega)
    rw [if_pos c1, hix] at hR
    have ht := thF_lt (stM R F) k
    refine hC.aload_n dX9_flies_12 rfl ?_
    refine hC.aload_n dX9_flies_13 rfl ?_
    refine hC.iload_n dX9_flies_14 rfl ?_
    refine hC.rdV [0, 1, 2, 3, 4, 5, 6, 7, 8, 9, 10, 11, 12, 13, 14, 15, 16, 17, 18, 19, 20, 21, 22, 23, 24, 25] dX9_flies_15 lmX9_198 mkX9_there svX9_there (ct_X9_there l R F L h k (by omega)) ⟨Nat.le_of_ble_eq_true rfl, Nat.le_of_ble_eq_true rfl⟩ rfl rfl (Nat.le_of_ble_eq_true rfl) ⟨by decide, rfl⟩ rfl rfl ?_
    refine hC.rdV [0, 1, 2, 3, 4, 5, 6, 7, 8, 9, 10, 11, 12, 13, 14, 15, 16, 17, 18, 19, 20, 21, 22, 23, 24, 25] dX9_flies_18 lmX9_223 mkX9_flying svX9_flying (ct_X9_flying l R F L h (thF (stM R F) k) (by omega) (fun s hs => Or.inl (thF_v hs))) ⟨Nat.le_of_ble_eq_true rfl, Nat.le_of_ble_eq_true rfl⟩ rfl rfl (Nat.le_of_ble_eq_true rfl) ⟨by decide, rfl⟩ rfl rfl ?_
    refine hC.goto dX9_flies_21 (tgt := 26) rfl ?_
    exact hR.ireturn dX9_flies_26 ⟨rfl, rfl⟩
set_option maxHeartbeats 4000000 in
set_option maxRecDepth 20000 in
theorem ct_X9_tear (l : Launch) (R : Nat → Nat → Nat) (F : Nat → Nat) (L : Nat → Int64) : Ct l 0 yX9_tear cX9_tear 2 (some .int) [.ref 0] (mdW R F L) (RV (.int (nI (F 14))) (mdW R (updN F 14 0) L)) := by
  refine Ct.of (by decide) (Nat.le_of_ble_eq_true rfl) (fun K hC hR => ?_)
  show K 0 [(0, .ref 0)] [] _
  refine hC.aload_n dX9_tear_0 rfl ?_
  refine hC.getfield dX9_tear_1 lfX9_195 rfl rfl ?_
  refine hC.istore_n dX9_tear_4 (by decide) ?_
  refine hC.aload_n dX9_tear_5 rfl ?_
  refine hC.iconst dX9_tear_6 (v := nI 0) rfl ?_
  refine hC.putI dX9_tear_7 lpX9_195 rfl rfl rfl (Nat.le_of_ble_eq_true rfl) ?_
  refine hC.iload_n dX9_tear_10 rfl ?_
  exact hR.ireturn dX9_tear_11 ⟨rfl, rfl⟩
def mLeft (R : Nat → Nat → Nat) (F : Nat → Nat) (x y : Int32) : Int32 × (Nat → Nat → Nat) := if (inB x (F 7) && inB y (2 ^ F 6)) = true then (nI (R 10 (ix x)), upR R 10 (updN (R 10) (ix x) (ix y))) else (cU, R)
set_option maxHeartbeats 4000000 in
set_option maxRecDepth 20000 in
theorem ct_X9_left (l : Launch) (R : Nat → Nat → Nat) (F : Nat → Nat) (L : Nat → Int64) (h : MdOK R F) (x y : Int32) : Ct l 2 yX9_left cX9_left 4 (some .int) [.ref 0, .int x, .int y] (mdW R F L) (RV (.int (mLeft R F x y).1) (mdW (mLeft R F x y).2 F L)) := by
  refine Ct.of (by decide) (Nat.le_of_ble_eq_true rfl) (fun K hC hR => ?_)
  show K 0 [(0, .ref 0), (1, .int x), (2, .int y)] [] _
  have h8 := h.2.1
  have h4 := h.1
  have hp : 2 ^ F 6 ≤ 2 ^ 4 := Nat.pow_le_pow_right (by decide) h4
  have bad : ¬ (inB x (F 7) && inB y (2 ^ F 6)) = true → K 26 [(0, .ref 0), (1, .int x), (2, .int y)] [] (mdW R F L) := by
    intro hne
    rw [mLeft, if_neg hne] at hR
    refine hC.ldc dX9_left_26 lcX9_205 ?_
    exact hR.ireturn dX9_left_28 ⟨rfl, rfl⟩
  refine hC.aload_n dX9_left_0 rfl ?_
  refine hC.iload_n dX9_left_1 rfl ?_
  refine hC.rdV [0, 1, 2, 3, 4, 5, 6, 7, 8, 9, 10, 11, 12, 13, 14, 15, 16, 17, 18, 19, 20, 21, 22, 23, 24, 25] dX9_left_2 lmX9_212 mkX9_isStrip svX9_isStrip (ct_X9_isStrip l R F L (by omega) x) ⟨Nat.le_of_ble_eq_true rfl, Nat.le_of_ble_eq_true rfl⟩ rfl rfl (Nat.le_of_ble_eq_true rfl) ⟨by decide, rfl⟩ rfl rfl ?_
  refine hC.bz dX9_left_5 (tgt := 26) rfl (fun c1 => ?_) (fun c1 => ?_)
  · exact bad (by simp [c1])
  · refine hC.iload_n dX9_left_8 rfl ?_
    refine hC.i2l dX9_left_9 ?_
    refine hC.lconst dX9_left_10 (v := lN 0) rfl ?_
    refine hC.iconst dX9_left_11 (v := nI 1) rfl ?_
    refine hC.aload_n dX9_left_12 rfl ?_
    refine hC.getfield dX9_left_13 lfX9_183 rfl rfl ?_
    refine hC.ishl dX9_left_16 ?_
    rw [nI_shl (by omega), Nat.one_mul]
    refine hC.iconst dX9_left_17 (v := nI 1) rfl ?_
    refine hC.isub dX9_left_18 ?_
    refine hC.i2l dX9_left_19 ?_
    refine hC.rdS [] dX9_left_20 lmX9_92 mkX9_in sxX9_in (ct_X9_in l y.toInt64 (lN 0) (nI (2 ^ F 6) - nI 1).toInt64) ⟨Nat.le_of_ble_eq_true rfl, Nat.le_of_ble_eq_true rfl⟩ rfl rfl (Nat.le_of_ble_eq_true rfl) ⟨by decide, rfl⟩ ?_
    rw [in_B (by omega)]
    refine hC.bnz dX9_left_23 (tgt := 29) rfl (fun c2 => ?_) (fun c2 => ?_)
    · rw [mLeft, if_pos (by simp [c1, c2])] at hR
      obtain ⟨a, ha, rfl⟩ := inB_of c1 (by omega)
      obtain ⟨j, hj, rfl⟩ := inB_of c2 (by omega)
      have hix : ix (nI a) = a := nI_clamp (by omega)
      have hiy : ix (nI j) = j := nI_clamp (by omega)
      rw [hix, hiy] at hR
      refine hC.aload_n dX9_left_29 rfl ?_
      refine hC.getfield dX9_left_30 lfX9_37 rfl rfl ?_
      refine hC.iload_n dX9_left_33 rfl ?_
      refine hC.iaN dX9_left_34 rfl ⟨by omega, by decide⟩ ?_
      refine hC.istore_n dX9_left_35 (by decide) ?_
      refine hC.aload_n dX9_left_36 rfl ?_
      refine hC.getfield dX9_left_37 lfX9_37 rfl rfl ?_
      refine hC.iload_n dX9_left_40 rfl ?_
      refine hC.iload_n dX9_left_41 rfl ?_
      refine hC.isN dX9_left_42 rfl ⟨by omega, by decide⟩ ?_
      refine hC.iload_n dX9_left_43 rfl ?_
      exact hR.ireturn dX9_left_44 ⟨rfl, rfl⟩
    · exact bad (by simp [c2])
def mWrite (R : Nat → Nat → Nat) (F : Nat → Nat) (x y : Int32) : Int32 × (Nat → Nat → Nat) × (Nat → Nat) := if (inB x (F 7) && inB y (F 8)) = true then (if F 14 = 30 then (cF, R, F) else (nI (F 14 + 1), upR (upR R 23 (updN (R 23) (F 14) (ix x))) 24 (updN (R 24) (F 14) (ix y)), updN F 14 (F 14 + 1))) else (cU, R, F)
set_option maxHeartbeats 4000000 in
set_option maxRecDepth 20000 in
theorem ct_X9_write (l : Launch) (R : Nat → Nat → Nat) (F : Nat → Nat) (L : Nat → Int64) (h : MdOK R F) (h30 : F 14 ≤ 30) (x y : Int32) : Ct l 2 yX9_write cX9_write 3 (some .int) [.ref 0, .int x, .int y] (mdW R F L) (RV (.int (mWrite R F x y).1) (mdW (mWrite R F x y).2.1 (mWrite R F x y).2.2 L)) := by
  refine Ct.of (by decide) (Nat.le_of_ble_eq_true rfl) (fun K hC hR => ?_)
  show K 0 [(0, .ref 0), (1, .int x), (2, .int y)] [] _
  have h8 := h.2.1
  have h12 := h.2.2.1
  have bad : ¬ (inB x (F 7) && inB y (F 8)) = true → K 16 [(0, .ref 0), (1, .int x), (2, .int y)] [] (mdW R F L) := by
    intro hne
    rw [mWrite, if_neg hne] at hR
    refine hC.ldc dX9_write_16 lcX9_205 ?_
    exact hR.ireturn dX9_write_18 ⟨rfl, rfl⟩
  refine hC.aload_n dX9_write_0 rfl ?_
  refine hC.iload_n dX9_write_1 rfl ?_
  refine hC.rdV [0, 1, 2, 3, 4, 5, 6, 7, 8, 9, 10, 11, 12, 13, 14, 15, 16, 17, 18, 19, 20, 21, 22, 23, 24, 25] dX9_write_2 lmX9_212 mkX9_isStrip svX9_isStrip (ct_X9_isStrip l R F L (by omega) x) ⟨Nat.le_of_ble_eq_true rfl, Nat.le_of_ble_eq_true rfl⟩ rfl rfl (Nat.le_of_ble_eq_true rfl) ⟨by decide, rfl⟩ rfl rfl ?_
  refine hC.bz dX9_write_5 (tgt := 16) rfl (fun c1 => ?_) (fun c1 => ?_)
  · exact bad (by simp [c1])
  · refine hC.aload_n dX9_write_8 rfl ?_
    refine hC.iload_n dX9_write_9 rfl ?_
    refine hC.rdV [0, 1, 2, 3, 4, 5, 6, 7, 8, 9, 10, 11, 12, 13, 14, 15, 16, 17, 18, 19, 20, 21, 22, 23, 24, 25] dX9_write_10 lmX9_202 mkX9_isSeam svX9_isSeam (ct_X9_isSeam l R F L (by omega) y) ⟨Nat.le_of_ble_eq_true rfl, Nat.le_of_ble_eq_true rfl⟩ rfl rfl (Nat.le_of_ble_eq_true rfl) ⟨by decide, rfl⟩ rfl rfl ?_
    refine hC.bnz dX9_write_13 (tgt := 19) rfl (fun c2 => ?_) (fun c2 => ?_)
    · rw [mWrite, if_pos (by simp [c1, c2])] at hR
      obtain ⟨a, ha, rfl⟩ := inB_of c1 (by omega)
      obtain ⟨j, hj, rfl⟩ := inB_of c2 (by omega)
      have hix : ix (nI a) = a := nI_clamp (by omega)
      have hiy : ix (nI j) = j := nI_clamp (by omega)
      rw [hix, hiy] at hR
      refine hC.aload_n dX9_write_19 rfl ?_
      refine hC.getfield dX9_write_20 lfX9_195 rfl rfl ?_
      refine hC.bipush dX9_write_23 (v := nI 30) rfl ?_
      refine hC.n_ne (by omega) (by omega) dX9_write_25 (tgt := 31) rfl (fun c3 => ?_) (fun c3 => ?_)
      · rw [if_neg c3] at hR
        refine hC.aload_n dX9_write_31 rfl ?_
        refine hC.getfield dX9_write_32 lfX9_77 rfl rfl ?_
        refine hC.aload_n dX9_write_35 rfl ?_
        refine hC.getfield dX9_write_36 lfX9_195 rfl rfl ?_
        refine hC.iload_n dX9_write_39 rfl ?_
        refine hC.isN dX9_write_40 rfl ⟨by omega, by decide⟩ ?_
        refine hC.aload_n dX9_write_41 rfl ?_
        refine hC.getfield dX9_write_42 lfX9_80 rfl rfl ?_
        refine hC.aload_n dX9_write_45 rfl ?_
        refine hC.getfield dX9_write_46 lfX9_195 rfl rfl ?_
        refine hC.iload_n dX9_write_49 rfl ?_
        refine hC.isN dX9_write_50 rfl ⟨by omega, by decide⟩ ?_
        refine hC.aload_n dX9_write_51 rfl ?_
        refine hC.dup dX9_write_52 rfl ?_
        refine hC.getfield dX9_write_53 lfX9_195 rfl rfl ?_
        refine hC.iconst dX9_write_56 (v := nI 1) rfl ?_
        refine hC.iadd dX9_write_57 ?_
        rw [nI_add]
        refine hC.putI dX9_write_58 lpX9_195 rfl rfl rfl (Nat.le_of_ble_eq_true rfl) ?_
        refine hC.aload_n dX9_write_61 rfl ?_
        refine hC.getfield dX9_write_62 lfX9_195 rfl rfl ?_
        exact hR.ireturn dX9_write_65 ⟨rfl, rfl⟩
      · rw [if_pos c3] at hR
        refine hC.ldc dX9_write_28 lcX9_100 ?_
        exact hR.ireturn dX9_write_30 ⟨rfl, rfl⟩
    · exact bad (by simp [c2])
def mSeam (R : Nat → Nat → Nat) (F : Nat → Nat) (x y : Int32) : Int32 := if inB x (F 8) = true then (if inR y 3 = true then (if ix y = 0 then nI (R 11 (ix x)) else if ix y = 1 then (if R 12 (ix x) = 8 then nI NN else nI (R 12 (ix x))) else if ix y = 2 then nI (R 13 (ix x)) else nI ((F 10).testBit (ix x)).toNat) else cO) else cU
set_option maxHeartbeats 4000000 in
set_option maxRecDepth 20000 in
theorem ct_X9_seam (l : Launch) (R : Nat → Nat → Nat) (F : Nat → Nat) (L : Nat → Int64) (h : MdOK R F) (x y : Int32) : Ct l 2 yX9_seam cX9_seam 3 (some .int) [.ref 0, .int x, .int y] (mdW R F L) (RV (.int (mSeam R F x y)) (mdW R F L)) := by
  refine Ct.of (by decide) (Nat.le_of_ble_eq_true rfl) (fun K hC hR => ?_)
  show K 0 [(0, .ref 0), (1, .int x), (2, .int y)] [] _
  have h12 := h.2.2.1
  have hh := h.2.2.2.2.1
  refine hC.aload_n dX9_seam_0 rfl ?_
  refine hC.iload_n dX9_seam_1 rfl ?_
  refine hC.rdV [0, 1, 2, 3, 4, 5, 6, 7, 8, 9, 10, 11, 12, 13, 14, 15, 16, 17, 18, 19, 20, 21, 22, 23, 24, 25] dX9_seam_2 lmX9_202 mkX9_isSeam svX9_isSeam (ct_X9_isSeam l R F L (by omega) x) ⟨Nat.le_of_ble_eq_true rfl, Nat.le_of_ble_eq_true rfl⟩ rfl rfl (Nat.le_of_ble_eq_true rfl) ⟨by decide, rfl⟩ rfl rfl ?_
  refine hC.bnz dX9_seam_5 (tgt := 11) rfl (fun c1 => ?_) (fun c1 => ?_)
  · obtain ⟨j, hj, rfl⟩ := inB_of c1 (by omega)
    have hix : ix (nI j) = j := nI_clamp (by omega)
    have h2 := h.2.2.2.2.2.2.2.1 j
    rw [mSeam, if_pos c1, hix] at hR
    refine hC.iload_n dX9_seam_11 rfl ?_
    refine hC.i2l dX9_seam_12 ?_
    refine hC.lconst dX9_seam_13 (v := lN 0) rfl ?_
    refine hC.ldc2_w (v := lN 3) dX9_seam_14 lcX9_206 ?_
    refine hC.rdS [] dX9_seam_17 lmX9_92 mkX9_in sxX9_in (ct_X9_in l y.toInt64 (lN 0) (lN 3)) ⟨Nat.le_of_ble_eq_true rfl, Nat.le_of_ble_eq_true rfl⟩ rfl rfl (Nat.le_of_ble_eq_true rfl) ⟨by decide, rfl⟩ ?_
    rw [in_R (by decide)]
    refine hC.bnz dX9_seam_20 (tgt := 26) rfl (fun c2 => ?_) (fun c2 => ?_)
    · obtain ⟨k, hk, rfl⟩ := inR_of (by decide) c2
      have hiy : ix (nI k) = k := nI_clamp (by omega)
      rw [if_pos c2, hiy] at hR
      refine hC.iload_n dX9_seam_26 rfl ?_
      refine hC.nnz (by omega) dX9_seam_27 (tgt := 39) rfl (fun c3 => ?_) (fun c3 => ?_)
      · rw [if_neg c3] at hR
        refine hC.iload_n dX9_seam_39 rfl ?_
        refine hC.iconst dX9_seam_40 (v := nI 1) rfl ?_
        refine hC.n_ne (by omega) (by omega) dX9_seam_41 (tgt := 68) rfl (fun c4 => ?_) (fun c4 => ?_)
        · rw [if_neg c4] at hR
          refine hC.iload_n dX9_seam_68 rfl ?_
          refine hC.iconst dX9_seam_69 (v := nI 2) rfl ?_
          refine hC.n_ne (by omega) (by omega) dX9_seam_70 (tgt := 82) rfl (fun c5 => ?_) (fun c5 => ?_)
          · rw [if_neg c5] at hR
            refine hC.aload_n dX9_seam_82 rfl ?_
            refine hC.getfield dX9_seam_83 lfX9_192 rfl rfl ?_
            refine hC.iload_n dX9_seam_86 rfl ?_
            refine hC.ishr dX9_seam_87 ?_
            refine hC.iconst dX9_seam_88 (v := nI 1) rfl ?_
            refine hC.iand dX9_seam_89 ?_
            rw [nI_bit (by omega) (by omega)]
            exact hR.ireturn dX9_seam_90 ⟨rfl, rfl⟩
          · rw [if_pos c5] at hR
            refine hC.aload_n dX9_seam_73 rfl ?_
            refine hC.getfield dX9_seam_74 lfX9_46 rfl rfl ?_
            refine hC.iload_n dX9_seam_77 rfl ?_
            refine hC.iaN dX9_seam_78 rfl ⟨by omega, by decide⟩ ?_
            refine hC.goto dX9_seam_79 (tgt := 90) rfl ?_
            exact hR.ireturn dX9_seam_90 ⟨rfl, rfl⟩
        · rw [if_pos c4] at hR
          refine hC.aload_n dX9_seam_44 rfl ?_
          refine hC.getfield dX9_seam_45 lfX9_43 rfl rfl ?_
          refine hC.iload_n dX9_seam_48 rfl ?_
          refine hC.iaN dX9_seam_49 rfl ⟨by omega, by decide⟩ ?_
          refine hC.bipush dX9_seam_50 (v := nI 8) rfl ?_
          refine hC.n_ne (by omega) (by omega) dX9_seam_52 (tgt := 59) rfl (fun c5 => ?_) (fun c5 => ?_)
          · rw [if_neg c5] at hR
            refine hC.aload_n dX9_seam_59 rfl ?_
            refine hC.getfield dX9_seam_60 lfX9_43 rfl rfl ?_
            refine hC.iload_n dX9_seam_63 rfl ?_
            refine hC.iaN dX9_seam_64 rfl ⟨by omega, by decide⟩ ?_
            refine hC.goto dX9_seam_65 (tgt := 90) rfl ?_
            exact hR.ireturn dX9_seam_90 ⟨rfl, rfl⟩
          · rw [if_pos c5] at hR
            refine hC.iconst dX9_seam_55 (v := (-1)) rfl ?_
            rw [m1_nI]
            refine hC.goto dX9_seam_56 (tgt := 90) rfl ?_
            exact hR.ireturn dX9_seam_90 ⟨rfl, rfl⟩
      · rw [if_pos c3] at hR
        refine hC.aload_n dX9_seam_30 rfl ?_
        refine hC.getfield dX9_seam_31 lfX9_40 rfl rfl ?_
        refine hC.iload_n dX9_seam_34 rfl ?_
        refine hC.iaN dX9_seam_35 rfl ⟨by omega, by decide⟩ ?_
        refine hC.goto dX9_seam_36 (tgt := 90) rfl ?_
        exact hR.ireturn dX9_seam_90 ⟨rfl, rfl⟩
    · rw [if_neg (by simp [c2])] at hR
      refine hC.ldc dX9_seam_23 lcX9_96 ?_
      exact hR.ireturn dX9_seam_25 ⟨rfl, rfl⟩
  · rw [mSeam, if_neg (by simp [c1])] at hR
    refine hC.ldc dX9_seam_8 lcX9_205 ?_
    exact hR.ireturn dX9_seam_10 ⟨rfl, rfl⟩
def mStrip (R : Nat → Nat → Nat) (F : Nat → Nat) (x y : Int32) : Int32 := if inB x (F 7) = true then (if y = nI 0 then nI (R 9 (ix x)) else if y = nI 1 then nI (bs (F 8) (soP R (ix x) (thF (stM R F) 0))) else if y = nI 2 then nI (nearM R F (ix x) (thF (stM R F) 0)) else if y = nI 3 then nI (R 10 (ix x)) else cO) else cU
set_option maxHeartbeats 4000000 in
set_option maxRecDepth 20000 in
theorem ct_X9_strip (l : Launch) (R : Nat → Nat → Nat) (F : Nat → Nat) (L : Nat → Int64) (h : MdOK R F) (x y : Int32) : Ct l 2 yX9_strip cX9_strip 3 (some .int) [.ref 0, .int x, .int y] (mdW R F L) (RV (.int (mStrip R F x y)) (mdW R F L)) := by
  refine Ct.of (by decide) (Nat.le_of_ble_eq_true rfl) (fun K hC hR => ?_)
  show K 0 [(0, .ref 0), (1, .int x), (2, .int y)] [] _
  have h8 := h.2.1
  have ht := thF_lt (stM R F) 0
  refine hC.aload_n dX9_strip_0 rfl ?_
  refine hC.iload_n dX9_strip_1 rfl ?_
  refine hC.rdV [0, 1, 2, 3, 4, 5, 6, 7, 8, 9, 10, 11, 12, 13, 14, 15, 16, 17, 18, 19, 20, 21, 22, 23, 24, 25] dX9_strip_2 lmX9_212 mkX9_isStrip svX9_isStrip (ct_X9_isStrip l R F L (by omega) x) ⟨Nat.le_of_ble_eq_true rfl, Nat.le_of_ble_eq_true rfl⟩ rfl rfl (Nat.le_of_ble_eq_true rfl) ⟨by decide, rfl⟩ rfl rfl ?_
  refine hC.bnz dX9_strip_5 (tgt := 11) rfl (fun c1 => ?_) (fun c1 => ?_)
  · obtain ⟨j, hj, rfl⟩ := inB_of c1 (by omega)
    have hix : ix (nI j) = j := nI_clamp (by omega)
    rw [mStrip, if_pos c1, hix] at hR
    refine hC.iload_n dX9_strip_11 rfl ?_
    by_cases y0 : y = nI 0
    · subst y0
      rw [if_pos rfl] at hR
      refine hC.tabIn dX9_strip_12 (off := 32) (tgt := 44) (by decide) (by decide) rfl rfl ?_
      refine hC.aload_n dX9_strip_44 rfl ?_
      refine hC.getfield dX9_strip_45 lfX9_34 rfl rfl ?_
      refine hC.iload_n dX9_strip_48 rfl ?_
      refine hC.iaN dX9_strip_49 rfl ⟨by omega, by decide⟩ ?_
      exact hR.ireturn dX9_strip_50 ⟨rfl, rfl⟩
    · rw [if_neg y0] at hR
      by_cases y1 : y = nI 1
      · subst y1
        rw [if_pos rfl] at hR
        refine hC.tabIn dX9_strip_12 (off := 39) (tgt := 51) (by decide) (by decide) rfl rfl ?_
        refine hC.aload_n dX9_strip_51 rfl ?_
        refine hC.iload_n dX9_strip_52 rfl ?_
        refine hC.aload_n dX9_strip_53 rfl ?_
        refine hC.iconst dX9_strip_54 (v := nI 0) rfl ?_
        refine hC.rdV [0, 1, 2, 3, 4, 5, 6, 7, 8, 9, 10, 11, 12, 13, 14, 15, 16, 17, 18, 19, 20, 21, 22, 23, 24, 25] dX9_strip_55 lmX9_198 mkX9_there svX9_there (ct_X9_there l R F L h 0 (by decide)) ⟨Nat.le_of_ble_eq_true rfl, Nat.le_of_ble_eq_true rfl⟩ rfl rfl (Nat.le_of_ble_eq_true rfl) ⟨by decide, rfl⟩ rfl rfl ?_
        refine hC.rdV [0, 1, 2, 3, 4, 5, 6, 7, 8, 9, 10, 11, 12, 13, 14, 15, 16, 17, 18, 19, 20, 21, 22, 23, 24, 25] dX9_strip_58 lmX9_215 mkX9_seamsOf svX9_seamsOf (ct_X9_seamsOf l R F L h j (thF (stM R F) 0) (by omega) (by omega)) ⟨Nat.le_of_ble_eq_true rfl, Nat.le_of_ble_eq_true rfl⟩ rfl rfl (Nat.le_of_ble_eq_true rfl) ⟨by decide, rfl⟩ rfl rfl ?_
        exact hR.ireturn dX9_strip_61 ⟨rfl, rfl⟩
      · rw [if_neg y1] at hR
        by_cases y2 : y = nI 2
        · subst y2
          rw [if_pos rfl] at hR
          refine hC.tabIn dX9_strip_12 (off := 50) (tgt := 62) (by decide) (by decide) rfl rfl ?_
          refine hC.aload_n dX9_strip_62 rfl ?_
          refine hC.iload_n dX9_strip_63 rfl ?_
          refine hC.aload_n dX9_strip_64 rfl ?_
          refine hC.iconst dX9_strip_65 (v := nI 0) rfl ?_
          refine hC.rdV [0, 1, 2, 3, 4, 5, 6, 7, 8, 9, 10, 11, 12, 13, 14, 15, 16, 17, 18, 19, 20, 21, 22, 23, 24, 25] dX9_strip_66 lmX9_198 mkX9_there svX9_there (ct_X9_there l R F L h 0 (by decide)) ⟨Nat.le_of_ble_eq_true rfl, Nat.le_of_ble_eq_true rfl⟩ rfl rfl (Nat.le_of_ble_eq_true rfl) ⟨by decide, rfl⟩ rfl rfl ?_
          refine hC.rdV [0, 1, 2, 3, 4, 5, 6, 7, 8, 9, 10, 11, 12, 13, 14, 15, 16, 17, 18, 19, 20, 21, 22, 23, 24, 25] dX9_strip_69 lmX9_218 mkX9_borders svX9_borders (ct_X9_borders l R F L h j (thF (stM R F) 0) (by omega) (by omega)) ⟨Nat.le_of_ble_eq_true rfl, Nat.le_of_ble_eq_true rfl⟩ rfl rfl (Nat.le_of_ble_eq_true rfl) ⟨by decide, rfl⟩ rfl rfl ?_
          exact hR.ireturn dX9_strip_72 ⟨rfl, rfl⟩
        · rw [if_neg y2] at hR
          by_cases y3 : y = nI 3
          · subst y3
            rw [if_pos rfl] at hR
            refine hC.tabIn dX9_strip_12 (off := 61) (tgt := 73) (by decide) (by decide) rfl rfl ?_
            refine hC.aload_n dX9_strip_73 rfl ?_
            refine hC.getfield dX9_strip_74 lfX9_37 rfl rfl ?_
            refine hC.iload_n dX9_strip_77 rfl ?_
            refine hC.iaN dX9_strip_78 rfl ⟨by omega, by decide⟩ ?_
            exact hR.ireturn dX9_strip_79 ⟨rfl, rfl⟩
          · rw [if_neg y3] at hR
            have n0 := y_ne (by decide) y0
            have n1 := y_ne (by decide) y1
            have n2 := y_ne (by decide) y2
            have n3 := y_ne (by decide) y3
            refine hC.tabOut dX9_strip_12 (tgt := 80) (by omega) rfl ?_
            refine hC.ldc dX9_strip_80 lcX9_96 ?_
            exact hR.ireturn dX9_strip_82 ⟨rfl, rfl⟩
  · rw [mStrip, if_neg (by simp [c1])] at hR
    refine hC.ldc dX9_strip_8 lcX9_205 ?_
    exact hR.ireturn dX9_strip_10 ⟨rfl, rfl⟩
def smM (R : Nat → Nat → Nat) (F : Nat → Nat) (m : Nat) : Nat → Nat
  | 0 => m
  | i + 1 => andn (smM R F m i) (2 ^ R 24 i)
theorem smM_lt {R : Nat → Nat → Nat} {F : Nat → Nat} {m : Nat} (h : m < 4096) : ∀ i, smM R F m i < 4096
  | 0 => h
  | i + 1 => andn_b (smM_lt h i)
def jgM (R : Nat → Nat → Nat) (F : Nat → Nat) (m : Nat) : Nat → Nat
  | 0 => NN
  | k + 1 => if jgM R F m k = NN ∧ muB R F (R 23 k) (R 24 k) (smM R F m k) (F 10) = false then k else jgM R F m k
theorem jgM_stop {R : Nat → Nat → Nat} {F : Nat → Nat} {m s : Nat} (h1 : jgM R F m s ≠ NN) : ∀ t, s ≤ t → jgM R F m t = jgM R F m s := by
  intro t ht
  induction t with
  | zero => have : s = 0 := by omega
            subst this; rfl
  | succ t ih =>
    by_cases e : s = t + 1
    · subst e; rfl
    · have := ih (by omega)
      rw [jgM, if_neg (by rw [this]; exact fun z => h1 z.1), this]
set_option maxHeartbeats 4000000 in
set_option maxRecDepth 20000 in
theorem ct_X9_judge (l : Launch) (R : Nat → Nat → Nat) (F : Nat → Nat) (L : Nat → Int64) (h : MdOK R F) (h30 : F 14 ≤ 30) (hbk : ∀ i, i < F 14 → R 23 i < 8 ∧ R 24 i < F 8) : Ct l 3 yX9_judge cX9_judge 3 (some .int) [.ref 0] (mdW R F L) (RV (.int (nI (jgM R F (thF (stM R F) 0) (F 14)))) (mdW R F L)) := by
  refine Ct.of (by decide) (Nat.le_of_ble_eq_true rfl) (fun K hC hR => ?_)
  show K 0 [(0, .ref 0)] [] _
  have hm := thF_lt (stM R F) 0
  have hh := h.2.2.2.2.1
  have h12 := h.2.2.1
  refine hC.aload_n dX9_judge_0 rfl ?_
  refine hC.iconst dX9_judge_1 (v := nI 0) rfl ?_
  refine hC.rdV [0, 1, 2, 3, 4, 5, 6, 7, 8, 9, 10, 11, 12, 13, 14, 15, 16, 17, 18, 19, 20, 21, 22, 23, 24, 25] dX9_judge_2 lmX9_198 mkX9_there svX9_there (ct_X9_there l R F L h 0 (by decide)) ⟨Nat.le_of_ble_eq_true rfl, Nat.le_of_ble_eq_true rfl⟩ rfl rfl (Nat.le_of_ble_eq_true rfl) ⟨by decide, rfl⟩ rfl rfl ?_
  generalize hm0 : thF (stM R F) 0 = m at hm hR ⊢
  refine hC.istore_n dX9_judge_5 (by decide) ?_
  refine hC.iconst dX9_judge_6 (v := nI 0) rfl ?_
  refine hC.istore_n dX9_judge_7 (by decide) ?_
  have loop : ∀ s, s ≤ F 14 → jgM R F m s = NN → K 8 [(0, .ref 0), (1, .int (nI (smM R F m s))), (2, .int (nI s))] [] (mdW R F L) := by
    refine loopUp1 _ (F 14) ?_ (fun s hs ih => ?_)
    · intro hj
      refine hC.iload_n dX9_judge_8 rfl ?_
      refine hC.aload_n dX9_judge_9 rfl ?_
      refine hC.getfield dX9_judge_10 lfX9_195 rfl rfl ?_
      refine hC.n_ge (by omega) (by omega) dX9_judge_13 (tgt := 61) rfl (fun c => ?_) (fun c => ?_)
      · refine hC.iconst dX9_judge_61 (v := (-1)) rfl ?_
        exact hR.ireturn dX9_judge_62 ⟨by rw [hj, ← m1_nI], rfl⟩
      · omega
    · intro hj
      have hb := hbk s hs
      have hsm := smM_lt (R := R) (F := F) hm s
      refine hC.iload_n dX9_judge_8 rfl ?_
      refine hC.aload_n dX9_judge_9 rfl ?_
      refine hC.getfield dX9_judge_10 lfX9_195 rfl rfl ?_
      refine hC.n_ge (by omega) (by omega) dX9_judge_13 (tgt := 61) rfl (fun c => ?_) (fun c => ?_)
      · omega
      · refine hC.aload_n dX9_judge_16 rfl ?_
        refine hC.aload_n dX9_judge_17 rfl ?_
        refine hC.getfield dX9_judge_18 lfX9_77 rfl rfl ?_
        refine hC.iload_n dX9_judge_21 rfl ?_
        refine hC.iaN dX9_judge_22 rfl ⟨by omega, by decide⟩ ?_
        refine hC.aload_n dX9_judge_23 rfl ?_
        refine hC.getfield dX9_judge_24 lfX9_80 rfl rfl ?_
        refine hC.iload_n dX9_judge_27 rfl ?_
        refine hC.iaN dX9_judge_28 rfl ⟨by omega, by decide⟩ ?_
        refine hC.iload_n dX9_judge_29 rfl ?_
        refine hC.aload_n dX9_judge_30 rfl ?_
        refine hC.getfield dX9_judge_31 lfX9_192 rfl rfl ?_
        refine hC.rdV [0, 1, 2, 3, 4, 5, 6, 7, 8, 9, 10, 11, 12, 13, 14, 15, 16, 17, 18, 19, 20, 21, 22, 23, 24, 25] dX9_judge_34 lmX9_226 mkX9_mayUnpick svX9_mayUnpick (ct_X9_mayUnpick l R F L h (R 23 s) (R 24 s) (smM R F m s) (F 10) (by omega) (by omega) (by omega) (by omega)) ⟨Nat.le_of_ble_eq_true rfl, Nat.le_of_ble_eq_true rfl⟩ rfl rfl (Nat.le_of_ble_eq_true rfl) ⟨by decide, rfl⟩ rfl rfl ?_
        refine hC.bnz dX9_judge_37 (tgt := 42) rfl (fun c3 => ?_) (fun c3 => ?_)
        · refine hC.iload_n dX9_judge_42 rfl ?_
          refine hC.iconst dX9_judge_43 (v := nI 1) rfl ?_
          refine hC.aload_n dX9_judge_44 rfl ?_
          refine hC.getfield dX9_judge_45 lfX9_80 rfl rfl ?_
          refine hC.iload_n dX9_judge_48 rfl ?_
          refine hC.iaN dX9_judge_49 rfl ⟨by omega, by decide⟩ ?_
          refine hC.ishl dX9_judge_50 ?_
          rw [nI_shl (by omega), Nat.one_mul]
          refine hC.iconst dX9_judge_51 (v := (-1)) rfl ?_
          refine hC.ixor dX9_judge_52 ?_
          refine hC.iand dX9_judge_53 ?_
          rw [nI_andn]
          refine hC.istore_n dX9_judge_54 (by decide) ?_
          refine hC.iinc dX9_judge_55 rfl (nI_1 _) (by decide) ?_
          refine hC.goto dX9_judge_58 (tgt := 8) rfl ?_
          exact hC.loc rfl (ih (by rw [jgM, if_neg (fun z => by rw [c3] at z; exact absurd z.2 (by decide)), hj]))
        · have e1 : jgM R F m (s + 1) = s := by rw [jgM, if_pos ⟨hj, c3⟩]
          have hne : jgM R F m (s + 1) ≠ NN := by
            rw [e1]
            have : NN = 4294967295 := rfl
            omega
          refine hC.iload_n dX9_judge_40 rfl ?_
          exact hR.ireturn dX9_judge_41 ⟨by rw [jgM_stop hne (F 14) (by omega), e1], rfl⟩
  exact hC.loc rfl (loop 0 (by omega) rfl)
def lsH (R : Nat → Nat → Nat) (F : Nat → Nat) (m a : Nat) : Nat := if cd (bs (F 8) (soP R a m)) = 1 then bs (F 8) (soP R a m) else 0
def lsM (R : Nat → Nat → Nat) (F : Nat → Nat) (m : Nat) : Nat := orF (lsH R F m) (F 7)
theorem so_lt {R : Nat → Nat → Nat} {F : Nat → Nat} (h : MdOK R F) (a m : Nat) : bs (F 8) (soP R a m) < 4096 := Nat.lt_of_lt_of_le (bs_lt _ _) (Nat.pow_le_pow_right (by decide) h.2.2.1)
theorem lsM_lt {R : Nat → Nat → Nat} {F : Nat → Nat} (h : MdOK R F) (m : Nat) : lsM R F m < 4096 := orF_lt (k := 12) (fun a => by unfold lsH; split; exact so_lt h a m; decide) _
def frM (R : Nat → Nat → Nat) (F : Nat → Nat) (w : Nat) : Nat → Nat → Nat := upR R 13 (frG (R 13) (lsM R F (thF (stM R F) 0)) w (F 8))
theorem frG9 {f : Nat → Nat} {g w s : Nat} (h : ∀ j, f j < 131072) : ∀ j, frG f g w s j < 131072 := fun j => by
  have := h j
  unfold frG; split <;> omega
theorem frM_ok {R : Nat → Nat → Nat} {F : Nat → Nat} (h : MdOK R F) (w : Nat) : MdOK (frM R F w) F := md13_ok h (frG9 h.2.2.2.2.2.2.2.2.1)
set_option maxHeartbeats 4000000 in
set_option maxRecDepth 20000 in
theorem ct_X9_frays (l : Launch) (R : Nat → Nat → Nat) (F : Nat → Nat) (L : Nat → Int64) (h : MdOK R F) (w : Nat) (hw : w < 2 ^ 30) : Ct l 2 yX9_frays cX9_frays 6 (some .int) [.ref 0, .int (nI w)] (mdW R F L) (RV (.int (nI (andn (thF (stM R F) 0) (thF (stM (frM R F w) F) 0)))) (mdW (frM R F w) F L)) := by
  refine Ct.of (by decide) (Nat.le_of_ble_eq_true rfl) (fun K hC hR => ?_)
  show K 0 [(0, .ref 0), (1, .int (nI w))] [] _
  have h8 := h.2.1
  have h12 := h.2.2.1
  have h9 := h.2.2.2.2.2.2.2.2.1
  refine hC.aload_n dX9_frays_0 rfl ?_
  refine hC.iconst dX9_frays_1 (v := nI 0) rfl ?_
  refine hC.rdV [0, 1, 2, 3, 4, 5, 6, 7, 8, 9, 10, 11, 12, 13, 14, 15, 16, 17, 18, 19, 20, 21, 22, 23, 24, 25] dX9_frays_2 lmX9_198 mkX9_there svX9_there (ct_X9_there l R F L h 0 (by decide)) ⟨Nat.le_of_ble_eq_true rfl, Nat.le_of_ble_eq_true rfl⟩ rfl rfl (Nat.le_of_ble_eq_true rfl) ⟨by decide, rfl⟩ rfl rfl ?_
  have hm := thF_lt (stM R F) 0
  have hfr : frM R F w = upR R 13 (frG (R 13) (lsM R F (thF (stM R F) 0)) w (F 8)) := rfl
  generalize hm0 : thF (stM R F) 0 = m at hm hfr hR ⊢
  refine hC.istore_n dX9_frays_5 (by decide) ?_
  refine hC.iconst dX9_frays_6 (v := nI 0) rfl ?_
  refine hC.istore_n dX9_frays_7 (by decide) ?_
  refine hC.iconst dX9_frays_8 (v := nI 0) rfl ?_
  refine hC.istore dX9_frays_9 (by decide) ?_
  have loop2 : ∀ s, s ≤ F 8 → K 56 [(0, .ref 0), (1, .int (nI w)), (2, .int (nI m)), (3, .int (nI (lsM R F m))), (4, .int (nI s))] [] (mdW (upR R 13 (frG (R 13) (lsM R F m) w s)) F L) := by
    have hL := lsM_lt h m
    generalize hLg : lsM R F m = g at hL hfr
    refine loopUp1 _ (F 8) ?_ (fun s hs ih => ?_)
    · refine hC.iload dX9_frays_56 rfl ?_
      refine hC.aload_n dX9_frays_58 rfl ?_
      refine hC.getfield dX9_frays_59 lfX9_186 rfl rfl ?_
      refine hC.n_ge (by omega) (by omega) dX9_frays_62 (tgt := 112) rfl (fun c => ?_) (fun c => ?_)
      · refine hC.iload_n dX9_frays_112 rfl ?_
        refine hC.aload_n dX9_frays_113 rfl ?_
        refine hC.iconst dX9_frays_114 (v := nI 0) rfl ?_
        rw [← hfr]
        refine hC.rdV [0, 1, 2, 3, 4, 5, 6, 7, 8, 9, 10, 11, 12, 13, 14, 15, 16, 17, 18, 19, 20, 21, 22, 23, 24, 25] dX9_frays_115 lmX9_198 mkX9_there svX9_there (ct_X9_there l (frM R F w) F L (frM_ok h w) 0 (by decide)) ⟨Nat.le_of_ble_eq_true rfl, Nat.le_of_ble_eq_true rfl⟩ rfl rfl (Nat.le_of_ble_eq_true rfl) ⟨by decide, rfl⟩ rfl rfl ?_
        refine hC.iconst dX9_frays_118 (v := (-1)) rfl ?_
        refine hC.ixor dX9_frays_119 ?_
        refine hC.iand dX9_frays_120 ?_
        rw [nI_andn]
        exact hR.ireturn dX9_frays_121 ⟨rfl, rfl⟩
      · omega
    · have h9s := h9 s
      refine hC.iload dX9_frays_56 rfl ?_
      refine hC.aload_n dX9_frays_58 rfl ?_
      refine hC.getfield dX9_frays_59 lfX9_186 rfl rfl ?_
      refine hC.n_ge (by omega) (by omega) dX9_frays_62 (tgt := 112) rfl (fun c => ?_) (fun c => ?_)
      · omega
      · refine hC.iload_n dX9_frays_65 rfl ?_
        refine hC.iload dX9_frays_66 rfl ?_
        refine hC.ishr dX9_frays_68 ?_
        refine hC.iconst dX9_frays_69 (v := nI 1) rfl ?_
        refine hC.iand dX9_frays_70 ?_
        rw [nI_bit (by omega) (by omega)]
        refine hC.iconst dX9_frays_71 (v := nI 1) rfl ?_
        refine hC.b1_ne dX9_frays_72 (tgt := 106) rfl (fun c1 => ?_) (fun c1 => ?_)
        · refine hC.iinc dX9_frays_106 rfl (nI_1 _) (by decide) ?_
          refine hC.goto dX9_frays_109 (tgt := 56) rfl ?_
          rw [frG_f c1] at ih
          exact hC.loc rfl ih
        · rw [← frG_t c1] at ih
          have fin : ∀ v, v = R 13 s - w → K 105 [(0, .ref 0), (1, .int (nI w)), (2, .int (nI m)), (3, .int (nI g)), (4, .int (nI s))] [.int (nI v), .int (nI s), .ref 13] (mdW (upR R 13 (frG (R 13) g w s)) F L) := by
            intro v hv
            subst hv
            refine hC.isN dX9_frays_105 rfl ⟨by omega, by decide⟩ ?_
            refine hC.iinc dX9_frays_106 rfl (nI_1 _) (by decide) ?_
            refine hC.goto dX9_frays_109 (tgt := 56) rfl ?_
            exact hC.loc rfl ih
          refine hC.aload_n dX9_frays_75 rfl ?_
          refine hC.getfield dX9_frays_76 lfX9_46 rfl rfl ?_
          refine hC.iload dX9_frays_79 rfl ?_
          refine hC.aload_n dX9_frays_81 rfl ?_
          refine hC.getfield dX9_frays_82 lfX9_46 rfl rfl ?_
          refine hC.iload dX9_frays_85 rfl ?_
          refine hC.iaN dX9_frays_87 rfl ⟨by omega, by decide⟩ ?_
          refine hC.iload_n dX9_frays_88 rfl ?_
          have e0 : upR R 13 (frG (R 13) g w s) 13 s = R 13 s := frG_at (R 13) g w s
          rw [e0]
          refine hC.n_le (by omega) (by omega) dX9_frays_89 (tgt := 104) rfl (fun c2 => ?_) (fun c2 => ?_)
          · refine hC.iconst dX9_frays_104 (v := nI 0) rfl ?_
            exact hC.loc rfl (fin 0 (by omega))
          · refine hC.aload_n dX9_frays_92 rfl ?_
            refine hC.getfield dX9_frays_93 lfX9_46 rfl rfl ?_
            refine hC.iload dX9_frays_96 rfl ?_
            refine hC.iaN dX9_frays_98 rfl ⟨by omega, by decide⟩ ?_
            refine hC.iload_n dX9_frays_99 rfl ?_
            rw [e0]
            refine hC.isub dX9_frays_100 ?_
            rw [pk_sub (by omega)]
            refine hC.goto dX9_frays_101 (tgt := 105) rfl ?_
            exact hC.loc rfl (fin _ rfl)
  have loop1 : ∀ s, s ≤ F 7 → K 11 [(0, .ref 0), (1, .int (nI w)), (2, .int (nI m)), (3, .int (nI (orF (lsH R F m) s))), (4, .int (nI s))] [] (mdW R F L) := by
    refine loopUp1 _ (F 7) ?_ (fun s hs ih => ?_)
    · refine hC.iload dX9_frays_11 rfl ?_
      refine hC.aload_n dX9_frays_13 rfl ?_
      refine hC.getfield dX9_frays_14 lfX9_180 rfl rfl ?_
      refine hC.n_ge (by omega) (by omega) dX9_frays_17 (tgt := 53) rfl (fun c => ?_) (fun c => ?_)
      · refine hC.iconst dX9_frays_53 (v := nI 0) rfl ?_
        refine hC.istore dX9_frays_54 (by decide) ?_
        have l0 := loop2 0 (by omega)
        rw [frG_0, upR_self] at l0
        exact hC.loc rfl l0
      · omega
    · have hso := so_lt h s m
      have hcd := cd_le (bs (F 8) (soP R s m))
      refine hC.iload dX9_frays_11 rfl ?_
      refine hC.aload_n dX9_frays_13 rfl ?_
      refine hC.getfield dX9_frays_14 lfX9_180 rfl rfl ?_
      refine hC.n_ge (by omega) (by omega) dX9_frays_17 (tgt := 53) rfl (fun c => ?_) (fun c => ?_)
      · omega
      · refine hC.aload_n dX9_frays_20 rfl ?_
        refine hC.iload dX9_frays_21 rfl ?_
        refine hC.iload_n dX9_frays_23 rfl ?_
        refine hC.rdV [0, 1, 2, 3, 4, 5, 6, 7, 8, 9, 10, 11, 12, 13, 14, 15, 16, 17, 18, 19, 20, 21, 22, 23, 24, 25] dX9_frays_24 lmX9_215 mkX9_seamsOf svX9_seamsOf (ct_X9_seamsOf l R F L h s m (by omega) (by omega)) ⟨Nat.le_of_ble_eq_true rfl, Nat.le_of_ble_eq_true rfl⟩ rfl rfl (Nat.le_of_ble_eq_true rfl) ⟨by decide, rfl⟩ rfl rfl ?_
        refine hC.istore dX9_frays_27 (by decide) ?_
        refine hC.iload_n dX9_frays_29 rfl ?_
        refine hC.iload dX9_frays_30 rfl ?_
        refine hC.rdS [] dX9_frays_32 lmX9_231 mkX9_size sxX9_size (ct_X9_size l (bs (F 8) (soP R s m)) hso) ⟨Nat.le_of_ble_eq_true rfl, Nat.le_of_ble_eq_true rfl⟩ rfl rfl (Nat.le_of_ble_eq_true rfl) ⟨by decide, rfl⟩ ?_
        refine hC.iconst dX9_frays_35 (v := nI 1) rfl ?_
        refine hC.n_ne (by omega) (by omega) dX9_frays_36 (tgt := 44) rfl (fun c2 => ?_) (fun c2 => ?_)
        · refine hC.iconst dX9_frays_44 (v := nI 0) rfl ?_
          refine hC.ior dX9_frays_45 ?_
          rw [nI_or]
          refine hC.istore_n dX9_frays_46 (by decide) ?_
          refine hC.iinc dX9_frays_47 rfl (nI_1 _) (by decide) ?_
          refine hC.goto dX9_frays_50 (tgt := 11) rfl ?_
          rw [show orF (lsH R F m) (s + 1) = orF (lsH R F m) s ||| 0 by rw [orF, lsH, if_neg c2]] at ih
          exact hC.loc rfl ih
        · refine hC.iload dX9_frays_39 rfl ?_
          refine hC.goto dX9_frays_41 (tgt := 45) rfl ?_
          refine hC.ior dX9_frays_45 ?_
          rw [nI_or]
          refine hC.istore_n dX9_frays_46 (by decide) ?_
          refine hC.iinc dX9_frays_47 rfl (nI_1 _) (by decide) ?_
          refine hC.goto dX9_frays_50 (tgt := 11) rfl ?_
          rw [show orF (lsH R F m) (s + 1) = orF (lsH R F m) s ||| bs (F 8) (soP R s m) by rw [orF, lsH, if_pos c2]] at ih
          exact hC.loc rfl ih
  exact hC.loc rfl (loop1 0 (by omega))
