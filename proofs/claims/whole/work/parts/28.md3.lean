/-! StripFlagModel: draws, frays, sew, hem, unpick, dye, seed -/
set_option maxHeartbeats 4000000 in
set_option maxRecDepth 20000 in
theorem ct_X9_draws (l : Launch) (R : Nat → Nat → Nat) (F : Nat → Nat) (L : Nat → Int64) (h : F 11 < 2 ^ 31) (n : Nat) (hn : 0 < n ∧ n < 2 ^ 31) : Ct l 0 yX9_draws cX9_draws 2 (some .int) [.ref 0, .int (nI n)] (mdW R F L) (RV (.int (nI (dvF (seedF (F 11)) n))) (mdW R (updN F 11 (seedF (F 11))) L)) := by
  refine Ct.of (by decide) (Nat.le_of_ble_eq_true rfl) (fun K hC hR => ?_)
  show K 0 [(0, .ref 0), (1, .int (nI n))] [] _
  have h2 := seedF_lt (F 11)
  refine hC.aload_n dX9_draws_0 rfl ?_
  refine hC.aload_n dX9_draws_1 rfl ?_
  refine hC.getfield dX9_draws_2 lfX9_237 rfl rfl ?_
  refine hC.i2l dX9_draws_5 ?_
  rw [nI_l h]
  refine hC.ldc2_w (v := lN 1103515245) dX9_draws_6 lcX9_240 ?_
  refine hC.lmul dX9_draws_9 ?_
  rw [lN_mul]
  refine hC.ldc2_w (v := lN 12345) dX9_draws_10 lcX9_242 ?_
  refine hC.ladd dX9_draws_13 ?_
  rw [lN_add]
  refine hC.ldc2_w (v := lN 2147483647) dX9_draws_14 lcX9_244 ?_
  refine hC.land dX9_draws_17 ?_
  rw [lN_and, show (2147483647 : Nat) = 2 ^ 31 - 1 from rfl, Nat.and_two_pow_sub_one_eq_mod, ← seedF_eq]
  refine hC.l2i dX9_draws_18 ?_
  rw [lN_i]
  refine hC.putI dX9_draws_19 lpX9_237 rfl rfl rfl (Nat.le_of_ble_eq_true rfl) ?_
  refine hC.aload_n dX9_draws_22 rfl ?_
  refine hC.getfield dX9_draws_23 lfX9_237 rfl rfl ?_
  refine hC.ldc (v := nI 65536) dX9_draws_26 lcX9_246 ?_
  refine hC.idiv dX9_draws_28 (by decide) ?_
  rw [pk_div h2 (by decide) (by decide)]
  refine hC.iload_n dX9_draws_29 rfl ?_
  refine hC.irem dX9_draws_30 (fun e => by have := (nI0_iff hn.2).mp e; omega) ?_
  rw [pk_rem (Nat.lt_of_le_of_lt (Nat.div_le_self _ _) h2) hn.1 hn.2, ← dvF_eq]
  exact hR.ireturn dX9_draws_31 ⟨rfl, rfl⟩
theorem in_R {x : Int32} {n : Nat} (hn : n < 2 ^ 31) : decide ((lN 0).toInt ≤ x.toInt64.toInt ∧ x.toInt64.toInt ≤ (lN n).toInt) = inR x n := by
  rw [Int32.toInt_toInt64, lN0_toInt, lN_toInt hn]
  unfold inR inB
  congr 1
  apply propext
  omega
theorem in_L {x : Int32} {m n : Nat} (hm : m < 2 ^ 31) (hn : n < 2 ^ 31) : decide ((lN m).toInt ≤ x.toInt64.toInt ∧ x.toInt64.toInt ≤ (lN n).toInt) = inL x m n := by
  rw [Int32.toInt_toInt64, lN_toInt hm, lN_toInt hn]
  rfl
theorem inR_of {x : Int32} {n : Nat} (hn : n < 2 ^ 30) (h : inR x n = true) : ∃ j, j ≤ n ∧ x = nI j := by
  obtain ⟨j, hj, e⟩ := inB_of (n := n + 1) h (by omega)
  exact ⟨j, by omega, e⟩
def mSew (R : Nat → Nat → Nat) (F : Nat → Nat) (x y : Int32) : Int32 × (Nat → Nat → Nat) := if inB x (F 8) = true then (if inR y 9 = true then (nI (R 13 (ix x)), upR R 13 (updN (R 13) (ix x) (ix y))) else (cO, R)) else (cU, R)
set_option maxHeartbeats 4000000 in
set_option maxRecDepth 20000 in
theorem ct_X9_sew (l : Launch) (R : Nat → Nat → Nat) (F : Nat → Nat) (L : Nat → Int64) (h : MdOK R F) (x y : Int32) : Ct l 2 yX9_sew cX9_sew 4 (some .int) [.ref 0, .int x, .int y] (mdW R F L) (RV (.int (mSew R F x y).1) (mdW (mSew R F x y).2 F L)) := by
  refine Ct.of (by decide) (Nat.le_of_ble_eq_true rfl) (fun K hC hR => ?_)
  show K 0 [(0, .ref 0), (1, .int x), (2, .int y)] [] _
  have h12 := h.2.2.1
  refine hC.aload_n dX9_sew_0 rfl ?_
  refine hC.iload_n dX9_sew_1 rfl ?_
  refine hC.rdV [0, 1, 2, 3, 4, 5, 6, 7, 8, 9, 10, 11, 12, 13, 14, 15, 16, 17, 18, 19, 20, 21, 22, 23, 24, 25] dX9_sew_2 lmX9_202 mkX9_isSeam svX9_isSeam (ct_X9_isSeam l R F L (by omega) x) ⟨Nat.le_of_ble_eq_true rfl, Nat.le_of_ble_eq_true rfl⟩ rfl rfl (Nat.le_of_ble_eq_true rfl) ⟨by decide, rfl⟩ rfl rfl ?_
  refine hC.bnz dX9_sew_5 (tgt := 11) rfl (fun c1 => ?_) (fun c1 => ?_)
  · obtain ⟨j, hj, rfl⟩ := inB_of c1 (by omega)
    have hix : ix (nI j) = j := nI_clamp (by omega)
    rw [mSew, if_pos c1, hix] at hR
    refine hC.iload_n dX9_sew_11 rfl ?_
    refine hC.i2l dX9_sew_12 ?_
    refine hC.lconst dX9_sew_13 (v := lN 0) rfl ?_
    refine hC.ldc2_w (v := lN 9) dX9_sew_14 lcX9_221 ?_
    refine hC.rdS [] dX9_sew_17 lmX9_92 mkX9_in sxX9_in (ct_X9_in l y.toInt64 (lN 0) (lN 9)) ⟨Nat.le_of_ble_eq_true rfl, Nat.le_of_ble_eq_true rfl⟩ rfl rfl (Nat.le_of_ble_eq_true rfl) ⟨by decide, rfl⟩ ?_
    rw [in_R (by decide)]
    refine hC.bnz dX9_sew_20 (tgt := 26) rfl (fun c2 => ?_) (fun c2 => ?_)
    · obtain ⟨k, hk, rfl⟩ := inR_of (by decide) c2
      have hiy : ix (nI k) = k := nI_clamp (by omega)
      rw [if_pos c2, hiy] at hR
      refine hC.aload_n dX9_sew_26 rfl ?_
      refine hC.getfield dX9_sew_27 lfX9_46 rfl rfl ?_
      refine hC.iload_n dX9_sew_30 rfl ?_
      refine hC.iaN dX9_sew_31 rfl ⟨by omega, by decide⟩ ?_
      refine hC.istore_n dX9_sew_32 (by decide) ?_
      refine hC.aload_n dX9_sew_33 rfl ?_
      refine hC.getfield dX9_sew_34 lfX9_46 rfl rfl ?_
      refine hC.iload_n dX9_sew_37 rfl ?_
      refine hC.iload_n dX9_sew_38 rfl ?_
      refine hC.isN dX9_sew_39 rfl ⟨by omega, by decide⟩ ?_
      refine hC.iload_n dX9_sew_40 rfl ?_
      exact hR.ireturn dX9_sew_41 ⟨rfl, rfl⟩
    · rw [if_neg (by simp [c2])] at hR
      refine hC.ldc dX9_sew_23 lcX9_96 ?_
      exact hR.ireturn dX9_sew_25 ⟨rfl, rfl⟩
  · rw [mSew, if_neg (by simp [c1])] at hR
    refine hC.ldc dX9_sew_8 lcX9_205 ?_
    exact hR.ireturn dX9_sew_10 ⟨rfl, rfl⟩
def mHem (F : Nat → Nat) (x : Int32) (b : Bool) : Int32 × (Nat → Nat) := if inB x (F 8) = true then (nI ((F 10).testBit (ix x)).toNat, updN F 10 (if b = true then F 10 ||| 2 ^ ix x else andn (F 10) (2 ^ ix x))) else (cU, F)
set_option maxHeartbeats 4000000 in
set_option maxRecDepth 20000 in
theorem ct_X9_hem (l : Launch) (R : Nat → Nat → Nat) (F : Nat → Nat) (L : Nat → Int64) (h : MdOK R F) (x : Int32) (b : Bool) : Ct l 2 yX9_hem cX9_hem 4 (some .int) [.ref 0, .int x, .int (nI b.toNat)] (mdW R F L) (RV (.int (mHem F x b).1) (mdW R (mHem F x b).2 L)) := by
  refine Ct.of (by decide) (Nat.le_of_ble_eq_true rfl) (fun K hC hR => ?_)
  show K 0 [(0, .ref 0), (1, .int x), (2, .int (nI b.toNat))] [] _
  have h12 := h.2.2.1
  have hh := h.2.2.2.2.1
  refine hC.aload_n dX9_hem_0 rfl ?_
  refine hC.iload_n dX9_hem_1 rfl ?_
  refine hC.rdV [0, 1, 2, 3, 4, 5, 6, 7, 8, 9, 10, 11, 12, 13, 14, 15, 16, 17, 18, 19, 20, 21, 22, 23, 24, 25] dX9_hem_2 lmX9_202 mkX9_isSeam svX9_isSeam (ct_X9_isSeam l R F L (by omega) x) ⟨Nat.le_of_ble_eq_true rfl, Nat.le_of_ble_eq_true rfl⟩ rfl rfl (Nat.le_of_ble_eq_true rfl) ⟨by decide, rfl⟩ rfl rfl ?_
  refine hC.bnz dX9_hem_5 (tgt := 11) rfl (fun c1 => ?_) (fun c1 => ?_)
  · obtain ⟨j, hj, rfl⟩ := inB_of c1 (by omega)
    have hix : ix (nI j) = j := nI_clamp (by omega)
    rw [mHem, if_pos c1, hix] at hR
    refine hC.aload_n dX9_hem_11 rfl ?_
    refine hC.getfield dX9_hem_12 lfX9_192 rfl rfl ?_
    refine hC.iload_n dX9_hem_15 rfl ?_
    refine hC.ishr dX9_hem_16 ?_
    refine hC.iconst dX9_hem_17 (v := nI 1) rfl ?_
    refine hC.iand dX9_hem_18 ?_
    rw [nI_bit (by omega) (by omega)]
    refine hC.istore_n dX9_hem_19 (by decide) ?_
    refine hC.aload_n dX9_hem_20 rfl ?_
    refine hC.iload_n dX9_hem_21 rfl ?_
    refine hC.bz dX9_hem_22 (tgt := 36) rfl (fun c3 => ?_) (fun c3 => ?_)
    · subst c3
      refine hC.aload_n dX9_hem_36 rfl ?_
      refine hC.getfield dX9_hem_37 lfX9_192 rfl rfl ?_
      refine hC.iconst dX9_hem_40 (v := nI 1) rfl ?_
      refine hC.iload_n dX9_hem_41 rfl ?_
      refine hC.ishl dX9_hem_42 ?_
      rw [nI_shl (by omega), Nat.one_mul]
      refine hC.iconst dX9_hem_43 (v := (-1)) rfl ?_
      refine hC.ixor dX9_hem_44 ?_
      refine hC.iand dX9_hem_45 ?_
      rw [nI_andn]
      refine hC.putI dX9_hem_46 lpX9_192 rfl rfl rfl (Nat.le_of_ble_eq_true rfl) ?_
      refine hC.iload_n dX9_hem_49 rfl ?_
      exact hR.ireturn dX9_hem_50 ⟨rfl, rfl⟩
    · subst c3
      refine hC.aload_n dX9_hem_25 rfl ?_
      refine hC.getfield dX9_hem_26 lfX9_192 rfl rfl ?_
      refine hC.iconst dX9_hem_29 (v := nI 1) rfl ?_
      refine hC.iload_n dX9_hem_30 rfl ?_
      refine hC.ishl dX9_hem_31 ?_
      rw [nI_shl (by omega), Nat.one_mul]
      refine hC.ior dX9_hem_32 ?_
      rw [nI_or]
      refine hC.goto dX9_hem_33 (tgt := 46) rfl ?_
      refine hC.putI dX9_hem_46 lpX9_192 rfl rfl rfl (Nat.le_of_ble_eq_true rfl) ?_
      refine hC.iload_n dX9_hem_49 rfl ?_
      exact hR.ireturn dX9_hem_50 ⟨rfl, rfl⟩
  · rw [mHem, if_neg (by simp [c1])] at hR
    refine hC.ldc dX9_hem_8 lcX9_205 ?_
    exact hR.ireturn dX9_hem_10 ⟨rfl, rfl⟩
def mSeed (F : Nat → Nat) (x : Int32) : Int32 × (Nat → Nat) := if x.toInt < 0 then (cO, F) else (nI (F 11), updN F 11 (ix x))
set_option maxHeartbeats 4000000 in
set_option maxRecDepth 20000 in
theorem ct_X9_seed (l : Launch) (R : Nat → Nat → Nat) (F : Nat → Nat) (L : Nat → Int64) (x : Int32) : Ct l 0 yX9_seed cX9_seed 3 (some .int) [.ref 0, .int x] (mdW R F L) (RV (.int (mSeed F x).1) (mdW R (mSeed F x).2 L)) := by
  refine Ct.of (by decide) (Nat.le_of_ble_eq_true rfl) (fun K hC hR => ?_)
  show K 0 [(0, .ref 0), (1, .int x)] [] _
  have e1 := lt0_iff x
  refine hC.iload_n dX9_seed_0 rfl ?_
  refine hC.if_ge dX9_seed_1 (tgt := 7) rfl (fun c => ?_) (fun c => ?_)
  · have c2 : ¬ x < 0 := by rw [e1]; have : (0 : Int32) ≤ x := c; rw [Int32.le_iff_toInt_le, Int32.toInt_zero] at this; omega
    rw [mSeed, if_neg (by rw [e1] at c2; exact c2)] at hR
    obtain ⟨j, hj, rfl⟩ := nI_of c2
    have hix : ix (nI j) = j := nI_clamp hj
    rw [hix] at hR
    refine hC.aload_n dX9_seed_7 rfl ?_
    refine hC.getfield dX9_seed_8 lfX9_237 rfl rfl ?_
    refine hC.istore_n dX9_seed_11 (by decide) ?_
    refine hC.aload_n dX9_seed_12 rfl ?_
    refine hC.iload_n dX9_seed_13 rfl ?_
    refine hC.putI dX9_seed_14 lpX9_237 rfl rfl rfl (Nat.le_of_ble_eq_true rfl) ?_
    refine hC.iload_n dX9_seed_17 rfl ?_
    exact hR.ireturn dX9_seed_18 ⟨rfl, rfl⟩
  · have c2 : x.toInt < 0 := by have : ¬ (0 : Int32) ≤ x := c; rw [Int32.le_iff_toInt_le, Int32.toInt_zero] at this; omega
    rw [mSeed, if_pos c2] at hR
    refine hC.ldc dX9_seed_4 lcX9_96 ?_
    exact hR.ireturn dX9_seed_6 ⟨rfl, rfl⟩
def mDye (R : Nat → Nat → Nat) (F : Nat → Nat) (x y : Int32) : Int32 × (Nat → Nat → Nat) := if (inB x (F 7) && inB y (F 6)) = true then (nI (R 9 (ix x)), upR R 9 (updN (R 9) (ix x) (ix y))) else (cU, R)
set_option maxHeartbeats 4000000 in
set_option maxRecDepth 20000 in
theorem ct_X9_dye (l : Launch) (R : Nat → Nat → Nat) (F : Nat → Nat) (L : Nat → Int64) (h : MdOK R F) (x y : Int32) : Ct l 2 yX9_dye cX9_dye 4 (some .int) [.ref 0, .int x, .int y] (mdW R F L) (RV (.int (mDye R F x y).1) (mdW (mDye R F x y).2 F L)) := by
  refine Ct.of (by decide) (Nat.le_of_ble_eq_true rfl) (fun K hC hR => ?_)
  show K 0 [(0, .ref 0), (1, .int x), (2, .int y)] [] _
  have h8 := h.2.1
  have h4 := h.1
  have bad : ¬ (inB x (F 7) && inB y (F 6)) = true → K 24 [(0, .ref 0), (1, .int x), (2, .int y)] [] (mdW R F L) := by
    intro hne
    rw [mDye, if_neg hne] at hR
    refine hC.ldc dX9_dye_24 lcX9_205 ?_
    exact hR.ireturn dX9_dye_26 ⟨rfl, rfl⟩
  refine hC.aload_n dX9_dye_0 rfl ?_
  refine hC.iload_n dX9_dye_1 rfl ?_
  refine hC.rdV [0, 1, 2, 3, 4, 5, 6, 7, 8, 9, 10, 11, 12, 13, 14, 15, 16, 17, 18, 19, 20, 21, 22, 23, 24, 25] dX9_dye_2 lmX9_212 mkX9_isStrip svX9_isStrip (ct_X9_isStrip l R F L (by omega) x) ⟨Nat.le_of_ble_eq_true rfl, Nat.le_of_ble_eq_true rfl⟩ rfl rfl (Nat.le_of_ble_eq_true rfl) ⟨by decide, rfl⟩ rfl rfl ?_
  refine hC.bz dX9_dye_5 (tgt := 24) rfl (fun c1 => ?_) (fun c1 => ?_)
  · exact bad (by simp [c1])
  · refine hC.iload_n dX9_dye_8 rfl ?_
    refine hC.i2l dX9_dye_9 ?_
    refine hC.lconst dX9_dye_10 (v := lN 0) rfl ?_
    refine hC.aload_n dX9_dye_11 rfl ?_
    refine hC.getfield dX9_dye_12 lfX9_183 rfl rfl ?_
    refine hC.iconst dX9_dye_15 (v := nI 1) rfl ?_
    refine hC.isub dX9_dye_16 ?_
    refine hC.i2l dX9_dye_17 ?_
    refine hC.rdS [] dX9_dye_18 lmX9_92 mkX9_in sxX9_in (ct_X9_in l y.toInt64 (lN 0) (nI (F 6) - nI 1).toInt64) ⟨Nat.le_of_ble_eq_true rfl, Nat.le_of_ble_eq_true rfl⟩ rfl rfl (Nat.le_of_ble_eq_true rfl) ⟨by decide, rfl⟩ ?_
    rw [in_B (by omega)]
    refine hC.bnz dX9_dye_21 (tgt := 27) rfl (fun c2 => ?_) (fun c2 => ?_)
    · rw [mDye, if_pos (by simp [c1, c2])] at hR
      obtain ⟨a, ha, rfl⟩ := inB_of c1 (by omega)
      obtain ⟨j, hj, rfl⟩ := inB_of c2 (by omega)
      have hix : ix (nI a) = a := nI_clamp (by omega)
      have hiy : ix (nI j) = j := nI_clamp (by omega)
      rw [hix, hiy] at hR
      refine hC.aload_n dX9_dye_27 rfl ?_
      refine hC.getfield dX9_dye_28 lfX9_34 rfl rfl ?_
      refine hC.iload_n dX9_dye_31 rfl ?_
      refine hC.iaN dX9_dye_32 rfl ⟨by omega, by decide⟩ ?_
      refine hC.istore_n dX9_dye_33 (by decide) ?_
      refine hC.aload_n dX9_dye_34 rfl ?_
      refine hC.getfield dX9_dye_35 lfX9_34 rfl rfl ?_
      refine hC.iload_n dX9_dye_38 rfl ?_
      refine hC.iload_n dX9_dye_39 rfl ?_
      refine hC.isN dX9_dye_40 rfl ⟨by omega, by decide⟩ ?_
      refine hC.iload_n dX9_dye_41 rfl ?_
      exact hR.ireturn dX9_dye_42 ⟨rfl, rfl⟩
    · exact bad (by simp [c2])
def mUnp (R : Nat → Nat → Nat) (F : Nat → Nat) (x y : Int32) : Int32 × (Nat → Nat → Nat) := if (inB x (F 7) && inB y (F 8)) = true then (if muB R F (ix x) (ix y) (thF (stM R F) 0) (F 10) = true then (nI (cd (thF (stM (upR R 13 (updN (R 13) (ix y) 0)) F) 0)), upR R 13 (updN (R 13) (ix y) 0)) else (cN, R)) else (cU, R)
theorem md13_ok {R : Nat → Nat → Nat} {F : Nat → Nat} (h : MdOK R F) {f : Nat → Nat} (hf : ∀ s, f s < 131072) : MdOK (upR R 13 f) F := ⟨h.1, h.2.1, h.2.2.1, h.2.2.2.1, h.2.2.2.2.1, h.2.2.2.2.2.1, h.2.2.2.2.2.2.1, h.2.2.2.2.2.2.2.1, hf, h.2.2.2.2.2.2.2.2.2⟩
theorem upd9 {f : Nat → Nat} {s v : Nat} (hf : ∀ j, f j < 131072) (hv : v < 131072) : ∀ j, updN f s v j < 131072 := fun j => by
  have := hf j
  unfold updN; split <;> omega
set_option maxHeartbeats 4000000 in
set_option maxRecDepth 20000 in
theorem ct_X9_unpick (l : Launch) (R : Nat → Nat → Nat) (F : Nat → Nat) (L : Nat → Int64) (h : MdOK R F) (x y : Int32) : Ct l 3 yX9_unpick cX9_unpick 3 (some .int) [.ref 0, .int x, .int y] (mdW R F L) (RV (.int (mUnp R F x y).1) (mdW (mUnp R F x y).2 F L)) := by
  refine Ct.of (by decide) (Nat.le_of_ble_eq_true rfl) (fun K hC hR => ?_)
  show K 0 [(0, .ref 0), (1, .int x), (2, .int y)] [] _
  have h8 := h.2.1
  have h12 := h.2.2.1
  have hh := h.2.2.2.2.1
  have bad : ¬ (inB x (F 7) && inB y (F 8)) = true → K 16 [(0, .ref 0), (1, .int x), (2, .int y)] [] (mdW R F L) := by
    intro hne
    rw [mUnp, if_neg hne] at hR
    refine hC.ldc dX9_unpick_16 lcX9_205 ?_
    exact hR.ireturn dX9_unpick_18 ⟨rfl, rfl⟩
  refine hC.aload_n dX9_unpick_0 rfl ?_
  refine hC.iload_n dX9_unpick_1 rfl ?_
  refine hC.rdV [0, 1, 2, 3, 4, 5, 6, 7, 8, 9, 10, 11, 12, 13, 14, 15, 16, 17, 18, 19, 20, 21, 22, 23, 24, 25] dX9_unpick_2 lmX9_212 mkX9_isStrip svX9_isStrip (ct_X9_isStrip l R F L (by omega) x) ⟨Nat.le_of_ble_eq_true rfl, Nat.le_of_ble_eq_true rfl⟩ rfl rfl (Nat.le_of_ble_eq_true rfl) ⟨by decide, rfl⟩ rfl rfl ?_
  refine hC.bz dX9_unpick_5 (tgt := 16) rfl (fun c1 => ?_) (fun c1 => ?_)
  · exact bad (by simp [c1])
  · refine hC.aload_n dX9_unpick_8 rfl ?_
    refine hC.iload_n dX9_unpick_9 rfl ?_
    refine hC.rdV [0, 1, 2, 3, 4, 5, 6, 7, 8, 9, 10, 11, 12, 13, 14, 15, 16, 17, 18, 19, 20, 21, 22, 23, 24, 25] dX9_unpick_10 lmX9_202 mkX9_isSeam svX9_isSeam (ct_X9_isSeam l R F L (by omega) y) ⟨Nat.le_of_ble_eq_true rfl, Nat.le_of_ble_eq_true rfl⟩ rfl rfl (Nat.le_of_ble_eq_true rfl) ⟨by decide, rfl⟩ rfl rfl ?_
    refine hC.bnz dX9_unpick_13 (tgt := 19) rfl (fun c2 => ?_) (fun c2 => ?_)
    · rw [mUnp, if_pos (by simp [c1, c2])] at hR
      obtain ⟨a, ha, rfl⟩ := inB_of c1 (by omega)
      obtain ⟨j, hj, rfl⟩ := inB_of c2 (by omega)
      have hix : ix (nI a) = a := nI_clamp (by omega)
      have hiy : ix (nI j) = j := nI_clamp (by omega)
      rw [hix, hiy] at hR
      have ht := thF_lt (stM R F) 0
      refine hC.aload_n dX9_unpick_19 rfl ?_
      refine hC.iload_n dX9_unpick_20 rfl ?_
      refine hC.iload_n dX9_unpick_21 rfl ?_
      refine hC.aload_n dX9_unpick_22 rfl ?_
      refine hC.iconst dX9_unpick_23 (v := nI 0) rfl ?_
      refine hC.rdV [0, 1, 2, 3, 4, 5, 6, 7, 8, 9, 10, 11, 12, 13, 14, 15, 16, 17, 18, 19, 20, 21, 22, 23, 24, 25] dX9_unpick_24 lmX9_198 mkX9_there svX9_there (ct_X9_there l R F L h 0 (by decide)) ⟨Nat.le_of_ble_eq_true rfl, Nat.le_of_ble_eq_true rfl⟩ rfl rfl (Nat.le_of_ble_eq_true rfl) ⟨by decide, rfl⟩ rfl rfl ?_
      refine hC.aload_n dX9_unpick_27 rfl ?_
      refine hC.getfield dX9_unpick_28 lfX9_192 rfl rfl ?_
      refine hC.rdV [0, 1, 2, 3, 4, 5, 6, 7, 8, 9, 10, 11, 12, 13, 14, 15, 16, 17, 18, 19, 20, 21, 22, 23, 24, 25] dX9_unpick_31 lmX9_226 mkX9_mayUnpick svX9_mayUnpick (ct_X9_mayUnpick l R F L h a j (thF (stM R F) 0) (F 10) (by omega) (by omega) (by omega) (by omega)) ⟨Nat.le_of_ble_eq_true rfl, Nat.le_of_ble_eq_true rfl⟩ rfl rfl (Nat.le_of_ble_eq_true rfl) ⟨by decide, rfl⟩ rfl rfl ?_
      refine hC.bnz dX9_unpick_34 (tgt := 40) rfl (fun c3 => ?_) (fun c3 => ?_)
      · rw [if_pos c3] at hR
        refine hC.aload_n dX9_unpick_40 rfl ?_
        refine hC.getfield dX9_unpick_41 lfX9_46 rfl rfl ?_
        refine hC.iload_n dX9_unpick_44 rfl ?_
        refine hC.iconst dX9_unpick_45 (v := nI 0) rfl ?_
        refine hC.isN dX9_unpick_46 rfl ⟨by omega, by decide⟩ ?_
        refine hC.aload_n dX9_unpick_47 rfl ?_
        refine hC.iconst dX9_unpick_48 (v := nI 0) rfl ?_
        refine hC.rdV [0, 1, 2, 3, 4, 5, 6, 7, 8, 9, 10, 11, 12, 13, 14, 15, 16, 17, 18, 19, 20, 21, 22, 23, 24, 25] dX9_unpick_49 lmX9_198 mkX9_there svX9_there (ct_X9_there l (upR R 13 (updN (R 13) j 0)) F L (md13_ok h (upd9 h.2.2.2.2.2.2.2.2.1 (by omega))) 0 (by decide)) ⟨Nat.le_of_ble_eq_true rfl, Nat.le_of_ble_eq_true rfl⟩ rfl rfl (Nat.le_of_ble_eq_true rfl) ⟨by decide, rfl⟩ rfl rfl ?_
        refine hC.rdS [] dX9_unpick_52 lmX9_231 mkX9_size sxX9_size (ct_X9_size l (thF (stM (upR R 13 (updN (R 13) j 0)) F) 0) (thF_lt _ _)) ⟨Nat.le_of_ble_eq_true rfl, Nat.le_of_ble_eq_true rfl⟩ rfl rfl (Nat.le_of_ble_eq_true rfl) ⟨by decide, rfl⟩ ?_
        exact hR.ireturn dX9_unpick_55 ⟨rfl, rfl⟩
      · rw [if_neg (by simp [c3])] at hR
        refine hC.ldc dX9_unpick_37 lcX9_230 ?_
        exact hR.ireturn dX9_unpick_39 ⟨rfl, rfl⟩
    · exact bad (by simp [c2])
