/-! StripFlagModel (the reference): its world, its small methods -/
abbrev mdW (R : Nat → Nat → Nat) (F : Nat → Nat) (L : Nat → Int64) : List va_E := [.inr (9, [.ref 1, .int (nI (F 0)), .int (nI (F 1)), .int (nI (F 2)), .int (nI (F 3)), .int (nI (F 4)), .int (nI (F 5)), .ref 2, .ref 3, .ref 4, .ref 5, .ref 6, .ref 7, .int (nI (F 6)), .int (nI (F 7)), .int (nI (F 8)), .int (nI (F 9)), .ref 8, .ref 9, .ref 10, .ref 11, .ref 12, .ref 13, .ref 14, .int (nI (F 10)), .int (nI (F 11)), .ref 15, .ref 16, .ref 17, .ref 18, .int (nI (F 12)), .ref 19, .ref 20, .ref 21, .ref 22, .int (nI (F 13)), .int (nI (F 14)), .ref 23, .ref 24, .ref 25]),
  rowI 500 (R 1), rowI 4 (R 2), rowI 4 (R 3), rowI 8 (R 4), rowI 20 (R 5), rowI 20 (R 6), rowI 20 (R 7), rowI 4 (R 8), rowI 8 (R 9), rowI 8 (R 10), rowI 20 (R 11), rowI 20 (R 12), rowI 20 (R 13), rowI 20 (R 14), .inl (2, 4096, .inr (.inl L)), rowI 5 (R 16), rowI 5 (R 17), rowI 5 (R 18), rowI 8 (R 19), rowI 8 (R 20), rowI 8 (R 21), rowI 8 (R 22), rowI 30 (R 23), rowI 30 (R 24), rowI 46 (R 25)]
/-- a seam that was told, or a 'could' -/
def vS (F : Nat → Nat) (s : Nat) : Prop := s < F 8 ∨ (12 ≤ s ∧ s < 12 + F 9)
/-- F: many 0, fault 1, at 2, wrong 3, wrongAt 4, begin 5, colours 6, strips 7, seams 8, coulds 9, hems 10, seed 11, firstMove 12, cheapest 13, entries 14; R by places: ends 11, others 12, strengths 13, threads 14 -/
def MdOK (R : Nat → Nat → Nat) (F : Nat → Nat) : Prop := F 6 ≤ 4 ∧ F 7 ≤ 8 ∧ F 8 ≤ 12 ∧ F 9 ≤ 8 ∧ F 10 < 4096 ∧ F 11 < 2 ^ 31 ∧ (∀ s, R 11 s < 131072) ∧ (∀ s, R 12 s < 131072) ∧ (∀ s, R 13 s < 131072) ∧ (∀ s, R 14 s < 131072) ∧ (∀ s, vS F s → R 11 s < 8 ∧ R 12 s ≤ 8)
theorem lg_lt (x y : Int64) : lg_cmp x y < 0 ↔ x.toInt < y.toInt := by
  have h1 := @Int64.lt_iff_toInt_lt y x
  have h2 := @Int64.toInt_inj x y
  unfold lg_cmp
  by_cases a : y < x
  · have : x > y := a
    simp only [this, if_true]
    rw [h1] at a
    constructor
    · intro h; exact absurd h (by decide)
    · intro h; omega
  · have : ¬ x > y := a
    simp only [this, if_false]
    rw [h1] at a
    by_cases b : x = y
    · simp only [b, if_true]
      constructor
      · intro h; exact absurd h (by decide)
      · intro h; omega
    · simp only [b, if_false]
      constructor
      · intro _
        have : x.toInt ≠ y.toInt := fun e => b (h2.mp e)
        omega
      · intro _; decide
theorem lg_gt (x y : Int64) : 0 < lg_cmp x y ↔ y.toInt < x.toInt := by
  have h1 := @Int64.lt_iff_toInt_lt y x
  unfold lg_cmp
  by_cases a : y < x
  · have : x > y := a
    simp only [this, if_true]
    rw [h1] at a
    constructor
    · intro _; exact a
    · intro _; decide
  · have : ¬ x > y := a
    simp only [this, if_false]
    rw [h1] at a
    constructor
    · intro h
      split at h
      · exact absurd h (by decide)
      · exact absurd h (by decide)
    · intro h; omega
set_option maxHeartbeats 4000000 in
set_option maxRecDepth 20000 in
theorem ct_X9_in (l : Launch) (a b c : Int64) : Ct l 0 yX9_in cX9_in 6 (some .boolean) [.long a, .long b, .long c] ([]) (RV (.int (nI (decide (b.toInt ≤ a.toInt ∧ a.toInt ≤ c.toInt)).toNat)) []) := by
  refine Ct.of (by decide) (Nat.le_of_ble_eq_true rfl) (fun K hC hR => ?_)
  show K 0 [(0, .long a), (2, .long b), (4, .long c)] [] _
  have e1 := lg_lt a b
  have e2 := lg_gt a c
  refine hC.lload_n dX9_in_0 rfl ?_
  refine hC.lload_n dX9_in_1 rfl ?_
  refine hC.lcmp dX9_in_2 ?_
  refine hC.if_lt dX9_in_3 (tgt := 17) rfl (fun c1 => ?_) (fun c1 => ?_)
  · rw [e1] at c1
    refine hC.iconst dX9_in_17 (v := nI 0) rfl ?_
    exact hR.zreturn dX9_in_18 (by first | decide | exact b01 _) ⟨by rw [decide_eq_false (by omega)] <;> rfl, rfl⟩
  · rw [e1] at c1
    refine hC.lload_n dX9_in_6 rfl ?_
    refine hC.lload dX9_in_7 rfl ?_
    refine hC.lcmp dX9_in_9 ?_
    refine hC.if_gt dX9_in_10 (tgt := 17) rfl (fun c2 => ?_) (fun c2 => ?_)
    · rw [e2] at c2
      refine hC.iconst dX9_in_17 (v := nI 0) rfl ?_
      exact hR.zreturn dX9_in_18 (by first | decide | exact b01 _) ⟨by rw [decide_eq_false (by omega)] <;> rfl, rfl⟩
    · rw [e2] at c2
      refine hC.iconst dX9_in_13 (v := nI 1) rfl ?_
      refine hC.goto dX9_in_14 (tgt := 18) rfl ?_
      exact hR.zreturn dX9_in_18 (by first | decide | exact b01 _) ⟨by rw [decide_eq_true (by omega)] <;> rfl, rfl⟩
theorem lN0_toInt : (lN 0).toInt = 0 := rfl
theorem in_B {x : Int32} {n : Nat} (hn : n < 2 ^ 30) : decide ((lN 0).toInt ≤ x.toInt64.toInt ∧ x.toInt64.toInt ≤ (nI n - nI 1).toInt64.toInt) = inB x n := by
  have h1 := pk_sub_toInt hn (show 1 < 2 ^ 30 by decide)
  rw [Int32.toInt_toInt64, Int32.toInt_toInt64, h1, lN0_toInt]
  unfold inB
  congr 1
  apply propext
  omega
set_option maxHeartbeats 4000000 in
set_option maxRecDepth 20000 in
theorem ct_X9_isStrip (l : Launch) (R : Nat → Nat → Nat) (F : Nat → Nat) (L : Nat → Int64) (h : F 7 < 2 ^ 30) (x : Int32) : Ct l 1 yX9_isStrip cX9_isStrip 2 (some .boolean) [.ref 0, .int x] (mdW R F L) (RV (.int (nI (inB x (F 7)).toNat)) (mdW R F L)) := by
  refine Ct.of (by decide) (Nat.le_of_ble_eq_true rfl) (fun K hC hR => ?_)
  show K 0 [(0, .ref 0), (1, .int x)] [] _
  refine hC.iload_n dX9_isStrip_0 rfl ?_
  refine hC.i2l dX9_isStrip_1 ?_
  refine hC.lconst dX9_isStrip_2 (v := lN 0) rfl ?_
  refine hC.aload_n dX9_isStrip_3 rfl ?_
  refine hC.getfield dX9_isStrip_4 lfX9_180 rfl rfl ?_
  refine hC.iconst dX9_isStrip_7 (v := nI 1) rfl ?_
  refine hC.isub dX9_isStrip_8 ?_
  refine hC.i2l dX9_isStrip_9 ?_
  refine hC.rdS [] dX9_isStrip_10 lmX9_92 mkX9_in sxX9_in (ct_X9_in l x.toInt64 (lN 0) (nI (F 7) - nI 1).toInt64) ⟨Nat.le_of_ble_eq_true rfl, Nat.le_of_ble_eq_true rfl⟩ rfl rfl (Nat.le_of_ble_eq_true rfl) ⟨by decide, rfl⟩ ?_
  rw [in_B h]
  exact hR.zreturn dX9_isStrip_13 (by first | decide | exact b01 _) ⟨rfl, rfl⟩
set_option maxHeartbeats 4000000 in
set_option maxRecDepth 20000 in
theorem ct_X9_isSeam (l : Launch) (R : Nat → Nat → Nat) (F : Nat → Nat) (L : Nat → Int64) (h : F 8 < 2 ^ 30) (x : Int32) : Ct l 1 yX9_isSeam cX9_isSeam 2 (some .boolean) [.ref 0, .int x] (mdW R F L) (RV (.int (nI (inB x (F 8)).toNat)) (mdW R F L)) := by
  refine Ct.of (by decide) (Nat.le_of_ble_eq_true rfl) (fun K hC hR => ?_)
  show K 0 [(0, .ref 0), (1, .int x)] [] _
  refine hC.iload_n dX9_isSeam_0 rfl ?_
  refine hC.i2l dX9_isSeam_1 ?_
  refine hC.lconst dX9_isSeam_2 (v := lN 0) rfl ?_
  refine hC.aload_n dX9_isSeam_3 rfl ?_
  refine hC.getfield dX9_isSeam_4 lfX9_186 rfl rfl ?_
  refine hC.iconst dX9_isSeam_7 (v := nI 1) rfl ?_
  refine hC.isub dX9_isSeam_8 ?_
  refine hC.i2l dX9_isSeam_9 ?_
  refine hC.rdS [] dX9_isSeam_10 lmX9_92 mkX9_in sxX9_in (ct_X9_in l x.toInt64 (lN 0) (nI (F 8) - nI 1).toInt64) ⟨Nat.le_of_ble_eq_true rfl, Nat.le_of_ble_eq_true rfl⟩ rfl rfl (Nat.le_of_ble_eq_true rfl) ⟨by decide, rfl⟩ ?_
  rw [in_B h]
  exact hR.zreturn dX9_isSeam_13 (by first | decide | exact b01 _) ⟨rfl, rfl⟩
set_option maxHeartbeats 4000000 in
set_option maxRecDepth 20000 in
theorem ct_X9_areStrips (l : Launch) (R : Nat → Nat → Nat) (F : Nat → Nat) (L : Nat → Int64) (h : F 7 < 30) (x : Int32) : Ct l 1 yX9_areStrips cX9_areStrips 2 (some .boolean) [.ref 0, .int x] (mdW R F L) (RV (.int (nI (inB x (2 ^ F 7)).toNat)) (mdW R F L)) := by
  refine Ct.of (by decide) (Nat.le_of_ble_eq_true rfl) (fun K hC hR => ?_)
  show K 0 [(0, .ref 0), (1, .int x)] [] _
  have hp : 2 ^ F 7 < 2 ^ 30 := Nat.pow_lt_pow_right (by decide) h
  refine hC.iload_n dX9_areStrips_0 rfl ?_
  refine hC.i2l dX9_areStrips_1 ?_
  refine hC.lconst dX9_areStrips_2 (v := lN 0) rfl ?_
  refine hC.iconst dX9_areStrips_3 (v := nI 1) rfl ?_
  refine hC.aload_n dX9_areStrips_4 rfl ?_
  refine hC.getfield dX9_areStrips_5 lfX9_180 rfl rfl ?_
  refine hC.ishl dX9_areStrips_8 ?_
  rw [nI_shl (by omega), Nat.one_mul]
  refine hC.iconst dX9_areStrips_9 (v := nI 1) rfl ?_
  refine hC.isub dX9_areStrips_10 ?_
  refine hC.i2l dX9_areStrips_11 ?_
  refine hC.rdS [] dX9_areStrips_12 lmX9_92 mkX9_in sxX9_in (ct_X9_in l x.toInt64 (lN 0) (nI (2 ^ F 7) - nI 1).toInt64) ⟨Nat.le_of_ble_eq_true rfl, Nat.le_of_ble_eq_true rfl⟩ rfl rfl (Nat.le_of_ble_eq_true rfl) ⟨by decide, rfl⟩ ?_
  rw [in_B hp]
  exact hR.zreturn dX9_areStrips_15 (by first | decide | exact b01 _) ⟨rfl, rfl⟩
theorem size_all : (List.range 4096).all (fun n => decide (n = 0 ∨ (cd (n &&& (n - 1)) + 1 = cd n ∧ n &&& (n - 1) < n))) = true := by decide +kernel
theorem size_step {n : Nat} (hn : n < 4096) (h0 : n ≠ 0) : cd (n &&& (n - 1)) + 1 = cd n ∧ n &&& (n - 1) < n := (of_decide_eq_true (List.all_eq_true.mp size_all n (List.mem_range.mpr hn))).resolve_left h0
set_option maxHeartbeats 4000000 in
set_option maxRecDepth 20000 in
theorem ct_X9_size (l : Launch) (n : Nat) (hn : n < 4096) : Ct l 0 yX9_size cX9_size 3 (some .int) [.int (nI n)] ([]) (RV (.int (nI (cd n))) []) := by
  refine Ct.of (by decide) (Nat.le_of_ble_eq_true rfl) (fun K hC hR => ?_)
  show K 0 [(0, .int (nI n))] [] _
  refine hC.iconst dX9_size_0 (v := nI 0) rfl ?_
  refine hC.istore_n dX9_size_1 (by decide) ?_
  refine hC.iload_n dX9_size_2 rfl ?_
  refine hC.istore_n dX9_size_3 (by decide) ?_
  have loop : ∀ m, m < 4096 → ∀ k, k + cd m = cd n → K 4 [(0, .int (nI n)), (1, .int (nI k)), (2, .int (nI m))] [] [] := by
    intro m
    induction m using Nat.strongRecOn with
    | ind m ih =>
      intro hm k hk
      refine hC.iload_n dX9_size_4 rfl ?_
      refine hC.nz (by omega) dX9_size_5 (tgt := 20) rfl (fun c => ?_) (fun c => ?_)
      · refine hC.iload_n dX9_size_20 rfl ?_
        exact hR.ireturn dX9_size_21 ⟨by rw [← hk, c]; rfl, rfl⟩
      · obtain ⟨e1, e2⟩ := size_step hm c
        refine hC.iinc dX9_size_8 rfl (nI_1 _) (by decide) ?_
        refine hC.iload_n dX9_size_11 rfl ?_
        refine hC.iload_n dX9_size_12 rfl ?_
        refine hC.iconst dX9_size_13 (v := nI 1) rfl ?_
        refine hC.isub dX9_size_14 ?_
        rw [pk_sub (by omega)]
        refine hC.iand dX9_size_15 ?_
        rw [nI_and]
        refine hC.istore_n dX9_size_16 (by decide) ?_
        refine hC.goto dX9_size_17 (tgt := 4) rfl ?_
        exact hC.loc rfl (ih (m &&& (m - 1)) e2 (by omega) (k + 1) (by omega))
  exact hC.loc rfl (loop n hn 0 (by omega))
/-- the strengths of the seams that were told -/
def stM (R : Nat → Nat → Nat) (F : Nat → Nat) : Nat → Nat := fun s => if s < F 8 then R 13 s else 0
theorem bs_more {p : Nat → Bool} {n : Nat} (h : ∀ i, n ≤ i → p i = false) : ∀ m, n ≤ m → bs m p = bs n p := by
  intro m hm
  induction m with
  | zero => have : n = 0 := by omega
            subst this; rfl
  | succ m ih =>
    by_cases e : n = m + 1
    · subst e; rfl
    · rw [bs_f (h m (by omega))]
      exact ih (by omega)
theorem there_eq (R : Nat → Nat → Nat) (F : Nat → Nat) (w : Nat) (h : F 8 ≤ 12) : bs (F 8) (thP (stM R F) w) = thF (stM R F) w :=
  (bs_more (fun i hi => by simp [thP, stM, Nat.not_lt.mpr hi]) 12 h).symm
theorem thF_v {R : Nat → Nat → Nat} {F : Nat → Nat} {w s : Nat} (h : (thF (stM R F) w).testBit s = true) : s < F 8 := by
  rw [thF, bs_tb] at h
  have h2 := (Bool.and_eq_true_iff.mp h).2
  apply Classical.byContradiction
  intro hn
  have e : stM R F s = 0 := if_neg hn
  rw [thP, e] at h2
  exact absurd h2 (by simp)
theorem andn_v {a b s : Nat} (h : (andn a b).testBit s = true) : a.testBit s = true := by
  rw [andn_tb] at h
  exact (Bool.and_eq_true_iff.mp h).1
set_option maxHeartbeats 4000000 in
set_option maxRecDepth 20000 in
theorem ct_X9_there (l : Launch) (R : Nat → Nat → Nat) (F : Nat → Nat) (L : Nat → Int64) (h : MdOK R F) (w : Nat) (hw : w < 2 ^ 31) : Ct l 0 yX9_there cX9_there 4 (some .int) [.ref 0, .int (nI w)] (mdW R F L) (RV (.int (nI (thF (stM R F) w))) (mdW R F L)) := by
  refine Ct.of (by decide) (Nat.le_of_ble_eq_true rfl) (fun K hC hR => ?_)
  show K 0 [(0, .ref 0), (1, .int (nI w))] [] _
  obtain ⟨-, -, h8, -, -, -, -, -, h9, -, -⟩ := h
  refine hC.iconst dX9_there_0 (v := nI 0) rfl ?_
  refine hC.istore_n dX9_there_1 (by decide) ?_
  refine hC.iconst dX9_there_2 (v := nI 0) rfl ?_
  refine hC.istore_n dX9_there_3 (by decide) ?_
  have loop : ∀ s, s ≤ F 8 → K 4 [(0, .ref 0), (1, .int (nI w)), (2, .int (nI (bs s (thP (stM R F) w)))), (3, .int (nI s))] [] (mdW R F L) := by
    refine loopUp1 _ (F 8) ?_ (fun s hs ih => ?_)
    · refine hC.iload_n dX9_there_4 rfl ?_
      refine hC.aload_n dX9_there_5 rfl ?_
      refine hC.getfield dX9_there_6 lfX9_186 rfl rfl ?_
      refine hC.n_ge (by omega) (by omega) dX9_there_9 (tgt := 47) rfl (fun c => ?_) (fun c => ?_)
      · refine hC.iload_n dX9_there_47 rfl ?_
        rw [there_eq R F w h8]
        exact hR.ireturn dX9_there_48 ⟨rfl, rfl⟩
      · omega
    · have h9s := h9 s
      have hst : stM R F s = R 13 s := by simp [stM, hs]
      have fin : ∀ z, bs (s + 1) (thP (stM R F) w) = bs s (thP (stM R F) w) ||| z → K 39 [(0, .ref 0), (1, .int (nI w)), (2, .int (nI (bs s (thP (stM R F) w)))), (3, .int (nI s))] [.int (nI z), .int (nI (bs s (thP (stM R F) w)))] (mdW R F L) := by
        intro z hz
        refine hC.ior dX9_there_39 ?_
        rw [nI_or, ← hz]
        refine hC.istore_n dX9_there_40 (by decide) ?_
        refine hC.iinc dX9_there_41 rfl (nI_1 _) (by decide) ?_
        refine hC.goto dX9_there_44 (tgt := 4) rfl ?_
        exact hC.loc rfl ih
      refine hC.iload_n dX9_there_4 rfl ?_
      refine hC.aload_n dX9_there_5 rfl ?_
      refine hC.getfield dX9_there_6 lfX9_186 rfl rfl ?_
      refine hC.n_ge (by omega) (by omega) dX9_there_9 (tgt := 47) rfl (fun c => ?_) (fun c => ?_)
      · omega
      · refine hC.iload_n dX9_there_12 rfl ?_
        refine hC.aload_n dX9_there_13 rfl ?_
        refine hC.getfield dX9_there_14 lfX9_46 rfl rfl ?_
        refine hC.iload_n dX9_there_17 rfl ?_
        refine hC.iaN dX9_there_18 rfl ⟨by omega, by decide⟩ ?_
        refine hC.z_le (by omega) dX9_there_19 (tgt := 38) rfl (fun c1 => ?_) (fun c1 => ?_)
        · refine hC.iconst dX9_there_38 (v := nI 0) rfl ?_
          exact fin 0 (by rw [bs_f (show thP (stM R F) w s = false by simp [thP, hst, c1])]; simp)
        · refine hC.aload_n dX9_there_22 rfl ?_
          refine hC.getfield dX9_there_23 lfX9_46 rfl rfl ?_
          refine hC.iload_n dX9_there_26 rfl ?_
          refine hC.iaN dX9_there_27 rfl ⟨by omega, by decide⟩ ?_
          refine hC.iload_n dX9_there_28 rfl ?_
          refine hC.n_lt (by omega) (by omega) dX9_there_29 (tgt := 38) rfl (fun c2 => ?_) (fun c2 => ?_)
          · refine hC.iconst dX9_there_38 (v := nI 0) rfl ?_
            exact fin 0 (by rw [bs_f (show thP (stM R F) w s = false by simp [thP, hst]; omega)]; simp)
          · refine hC.iconst dX9_there_32 (v := nI 1) rfl ?_
            refine hC.iload_n dX9_there_33 rfl ?_
            refine hC.ishl dX9_there_34 ?_
            rw [nI_shl (by omega), Nat.one_mul]
            refine hC.goto dX9_there_35 (tgt := 39) rfl ?_
            exact fin _ (bs_t (show thP (stM R F) w s = true by simp [thP, hst]; omega))
  exact hC.loc rfl (loop 0 (by omega))
def onB (R : Nat → Nat → Nat) (s a : Nat) : Bool := decide (R 11 s = a) || decide (R 12 s = a)
set_option maxHeartbeats 4000000 in
set_option maxRecDepth 20000 in
theorem ct_X9_isOn (l : Launch) (R : Nat → Nat → Nat) (F : Nat → Nat) (L : Nat → Int64) (h : MdOK R F) (s a : Nat) (hs : s < 20) (ha : a < 2 ^ 31) : Ct l 0 yX9_isOn cX9_isOn 3 (some .boolean) [.ref 0, .int (nI s), .int (nI a)] (mdW R F L) (RV (.int (nI (onB R s a).toNat)) (mdW R F L)) := by
  refine Ct.of (by decide) (Nat.le_of_ble_eq_true rfl) (fun K hC hR => ?_)
  show K 0 [(0, .ref 0), (1, .int (nI s)), (2, .int (nI a))] [] _
  have h1 := h.2.2.2.2.2.2.1 s
  have h2 := h.2.2.2.2.2.2.2.1 s
  refine hC.aload_n dX9_isOn_0 rfl ?_
  refine hC.getfield dX9_isOn_1 lfX9_40 rfl rfl ?_
  refine hC.iload_n dX9_isOn_4 rfl ?_
  refine hC.iaN dX9_isOn_5 rfl ⟨by omega, by decide⟩ ?_
  refine hC.iload_n dX9_isOn_6 rfl ?_
  refine hC.n_eq (by omega) (by omega) dX9_isOn_7 (tgt := 20) rfl (fun c1 => ?_) (fun c1 => ?_)
  · refine hC.iconst dX9_isOn_20 (v := nI 1) rfl ?_
    refine hC.goto dX9_isOn_21 (tgt := 25) rfl ?_
    exact hR.zreturn dX9_isOn_25 (by first | decide | exact b01 _) ⟨by rw [onB, decide_eq_true c1] <;> rfl, rfl⟩
  · refine hC.aload_n dX9_isOn_10 rfl ?_
    refine hC.getfield dX9_isOn_11 lfX9_43 rfl rfl ?_
    refine hC.iload_n dX9_isOn_14 rfl ?_
    refine hC.iaN dX9_isOn_15 rfl ⟨by omega, by decide⟩ ?_
    refine hC.iload_n dX9_isOn_16 rfl ?_
    refine hC.n_ne (by omega) (by omega) dX9_isOn_17 (tgt := 24) rfl (fun c2 => ?_) (fun c2 => ?_)
    · refine hC.iconst dX9_isOn_24 (v := nI 0) rfl ?_
      exact hR.zreturn dX9_isOn_25 (by first | decide | exact b01 _) ⟨by rw [onB, decide_eq_false c1, decide_eq_false c2] <;> rfl, rfl⟩
    · refine hC.iconst dX9_isOn_20 (v := nI 1) rfl ?_
      refine hC.goto dX9_isOn_21 (tgt := 25) rfl ?_
      exact hR.zreturn dX9_isOn_25 (by first | decide | exact b01 _) ⟨by rw [onB, decide_eq_false c1, decide_eq_true c2] <;> rfl, rfl⟩
