/-! StripFlag$Cuts -/
theorem sub_lt0 {a b : Nat} (ha : a < 2 ^ 30) (hb : b < 2 ^ 30) : nI a - nI b < 0 ↔ a < b := by
  constructor
  · intro h
    apply Classical.byContradiction
    intro h2
    rw [pk_sub (by omega)] at h
    exact nI_pos (n := a - b) (by omega) h
  · intro h; exact pk_sneg hb h
theorem sub_eq0 {a b : Nat} (ha : a < 2 ^ 30) (hb : b < 2 ^ 30) : nI a - nI b = 0 ↔ a = b := by
  constructor
  · intro h
    have h1 := pk_sub_toInt ha hb
    rw [h, Int32.toInt_zero] at h1
    omega
  · intro h; subst h; rw [pk_sub (Nat.le_refl _), Nat.sub_self]; rfl
def lessF (x y : Nat) : Nat := if cd x < cd y ∨ (cd x = cd y ∧ x < y) then x else y
set_option maxHeartbeats 4000000 in
set_option maxRecDepth 20000 in
theorem ct_X2_lesser (l : Launch) (x y : Nat) (hx : x < 4096) (hy : y < 4096) : Ct l 1 yX2_lesser cX2_lesser 3 (some .int) [.int (nI x), .int (nI y)] ([]) (RV (.int (nI (lessF x y))) []) := by
  refine Ct.of (by decide) (Nat.le_of_ble_eq_true rfl) (fun K hC hR => ?_)
  show K 0 [(0, .int (nI x)), (1, .int (nI y))] [] _
  have h1 := cd_le x
  have h2 := cd_le y
  refine hC.iload_n dX2_lesser_0 rfl ?_
  refine hC.rdS [] dX2_lesser_1 lmX2_38 mkJ_bitCount sxJ_bitCount (ct_J_bitCount l x hx) ⟨Nat.le_of_ble_eq_true rfl, Nat.le_of_ble_eq_true rfl⟩ rfl rfl (Nat.le_of_ble_eq_true rfl) ⟨by decide, rfl⟩ ?_
  refine hC.iload_n dX2_lesser_4 rfl ?_
  refine hC.rdS [] dX2_lesser_5 lmX2_38 mkJ_bitCount sxJ_bitCount (ct_J_bitCount l y hy) ⟨Nat.le_of_ble_eq_true rfl, Nat.le_of_ble_eq_true rfl⟩ rfl rfl (Nat.le_of_ble_eq_true rfl) ⟨by decide, rfl⟩ ?_
  refine hC.isub dX2_lesser_8 ?_
  refine hC.istore_n dX2_lesser_9 (by decide) ?_
  refine hC.iload_n dX2_lesser_10 rfl ?_
  refine hC.if_lt dX2_lesser_11 (tgt := 23) rfl (fun c1 => ?_) (fun c1 => ?_)
  · have c1 := (sub_lt0 (by omega) (by omega)).mp c1
    refine hC.iload_n dX2_lesser_23 rfl ?_
    refine hC.goto dX2_lesser_24 (tgt := 28) rfl ?_
    exact hR.ireturn dX2_lesser_28 ⟨by rw [lessF, if_pos (Or.inl c1)], rfl⟩
  · have c1 : ¬ cd x < cd y := fun z => c1 ((sub_lt0 (a := cd x) (b := cd y) (by omega) (by omega)).mpr z)
    refine hC.iload_n dX2_lesser_14 rfl ?_
    refine hC.if_ne dX2_lesser_15 (tgt := 27) rfl (fun c2 => ?_) (fun c2 => ?_)
    · have c2 : ¬ cd x = cd y := fun z => c2 ((sub_eq0 (a := cd x) (b := cd y) (by omega) (by omega)).mpr z)
      refine hC.iload_n dX2_lesser_27 rfl ?_
      exact hR.ireturn dX2_lesser_28 ⟨by rw [lessF, if_neg (by omega)], rfl⟩
    · have c2 := (sub_eq0 (a := cd x) (b := cd y) (by omega) (by omega)).mp c2
      refine hC.iload_n dX2_lesser_18 rfl ?_
      refine hC.iload_n dX2_lesser_19 rfl ?_
      refine hC.n_ge (by omega) (by omega) dX2_lesser_20 (tgt := 27) rfl (fun c3 => ?_) (fun c3 => ?_)
      · refine hC.iload_n dX2_lesser_27 rfl ?_
        exact hR.ireturn dX2_lesser_28 ⟨by rw [lessF, if_neg (by omega)], rfl⟩
      · refine hC.iload_n dX2_lesser_23 rfl ?_
        refine hC.goto dX2_lesser_24 (tgt := 28) rfl ?_
        exact hR.ireturn dX2_lesser_28 ⟨by rw [lessF, if_pos (by omega)], rfl⟩
theorem lessF_lt {x y : Nat} (hx : x < 4096) (hy : y < 4096) : lessF x y < 4096 := by unfold lessF; split <;> assumption
def fwL (P : PlanT) (m a : Nat) : Nat → Nat
  | 0 => crossF P (2 ^ a) m
  | k + 1 => if (k + 1).testBit a = true then lessF (crossF P (k + 1) m) (fwL P m a k) else fwL P m a k
theorem fwL_lt (P : PlanT) (m a : Nat) : ∀ k, fwL P m a k < 4096
  | 0 => crossF_lt _ _ _
  | k + 1 => by
    unfold fwL; split
    · exact lessF_lt (crossF_lt _ _ _) (fwL_lt P m a k)
    · exact fwL_lt P m a k
theorem pow8 {t : Nat} (h : t ≤ 8) : 2 ^ t ≤ 256 ∧ 1 ≤ 2 ^ t := ⟨Nat.pow_le_pow_right (by decide) h, Nat.one_le_two_pow⟩
set_option maxHeartbeats 4000000 in
set_option maxRecDepth 20000 in
theorem ct_X2_fewestSeams (l : Launch) (P : PlanT) (hP : PlanOK P) (m a : Nat) (hm : m < 4096) (ha : a < 8) : Ct l 3 yX2_fewestSeams cX2_fewestSeams 5 (some .int) [.ref 0, .int (nI m), .int (nI a)] (planW P) (RV (.int (nI (fwL P m a (2 ^ P.2 1 - 1)))) (planW P)) := by
  refine Ct.of (by decide) (Nat.le_of_ble_eq_true rfl) (fun K hC hR => ?_)
  show K 0 [(0, .ref 0), (1, .int (nI m)), (2, .int (nI a))] [] _
  have hT := pow8 hP.2.1
  refine hC.aload_n dX2_fewestSeams_0 rfl ?_
  refine hC.iload_n dX2_fewestSeams_1 rfl ?_
  refine hC.iload_n dX2_fewestSeams_2 rfl ?_
  refine hC.rdV [0, 1, 2, 3, 4, 5, 6, 7, 8] dX2_fewestSeams_3 lmX2_18 mkX4_seamsOf svX4_seamsOf (ct_X4_seamsOf l P hP a m (by omega) hm) ⟨Nat.le_of_ble_eq_true rfl, Nat.le_of_ble_eq_true rfl⟩ rfl rfl (Nat.le_of_ble_eq_true rfl) ⟨by decide, rfl⟩ rfl rfl ?_
  refine hC.istore_n dX2_fewestSeams_6 (by decide) ?_
  refine hC.iconst dX2_fewestSeams_7 (v := nI 1) rfl ?_
  refine hC.istore dX2_fewestSeams_8 (by decide) ?_
  have loop : ∀ k, k ≤ 2 ^ P.2 1 - 1 → K 10 [(0, .ref 0), (1, .int (nI m)), (2, .int (nI a)), (3, .int (nI (fwL P m a k))), (4, .int (nI (k + 1)))] [] (planW P) := by
    refine loopUp1 _ (2 ^ P.2 1 - 1) ?_ (fun k hk ih => ?_)
    · refine hC.iload dX2_fewestSeams_10 rfl ?_
      refine hC.aload_n dX2_fewestSeams_12 rfl ?_
      refine hC.rdV [0, 1, 2, 3, 4, 5, 6, 7, 8] dX2_fewestSeams_13 lmX2_24 mkX4_allStrips svX4_allStrips (ct_X4_allStrips l P hP) ⟨Nat.le_of_ble_eq_true rfl, Nat.le_of_ble_eq_true rfl⟩ rfl rfl (Nat.le_of_ble_eq_true rfl) ⟨by decide, rfl⟩ rfl rfl ?_
      refine hC.n_gt (by omega) (by omega) dX2_fewestSeams_16 (tgt := 46) rfl (fun c => ?_) (fun c => ?_)
      · refine hC.iload_n dX2_fewestSeams_46 rfl ?_
        exact hR.ireturn dX2_fewestSeams_47 ⟨rfl, rfl⟩
      · omega
    · refine hC.iload dX2_fewestSeams_10 rfl ?_
      refine hC.aload_n dX2_fewestSeams_12 rfl ?_
      refine hC.rdV [0, 1, 2, 3, 4, 5, 6, 7, 8] dX2_fewestSeams_13 lmX2_24 mkX4_allStrips svX4_allStrips (ct_X4_allStrips l P hP) ⟨Nat.le_of_ble_eq_true rfl, Nat.le_of_ble_eq_true rfl⟩ rfl rfl (Nat.le_of_ble_eq_true rfl) ⟨by decide, rfl⟩ rfl rfl ?_
      refine hC.n_gt (by omega) (by omega) dX2_fewestSeams_16 (tgt := 46) rfl (fun c => ?_) (fun c => ?_)
      · omega
      · refine hC.iload dX2_fewestSeams_19 rfl ?_
        refine hC.iload_n dX2_fewestSeams_21 rfl ?_
        refine hC.rdSN [] dX2_fewestSeams_22 lnX2_28 mkX8_has sxX8_has (ct_X8_has l (k + 1) a (by omega) (by omega)) ⟨Nat.le_of_ble_eq_true rfl, Nat.le_of_ble_eq_true rfl⟩ rfl rfl (Nat.le_of_ble_eq_true rfl) ⟨by decide, rfl⟩ ?_
        refine hC.bz dX2_fewestSeams_25 (tgt := 40) rfl (fun c1 => ?_) (fun c1 => ?_)
        · refine hC.iinc dX2_fewestSeams_40 rfl (nI_1 _) (by decide) ?_
          refine hC.goto dX2_fewestSeams_43 (tgt := 10) rfl ?_
          rw [show fwL P m a (k + 1) = fwL P m a k by rw [fwL, if_neg (by simp [c1])]] at ih
          exact hC.loc rfl ih
        · refine hC.aload_n dX2_fewestSeams_28 rfl ?_
          refine hC.iload dX2_fewestSeams_29 rfl ?_
          refine hC.iload_n dX2_fewestSeams_31 rfl ?_
          refine hC.rdV [0, 1, 2, 3, 4, 5, 6, 7, 8] dX2_fewestSeams_32 lmX2_32 mkX4_crossing svX4_crossing (ct_X4_crossing l P hP (k + 1) m hm) ⟨Nat.le_of_ble_eq_true rfl, Nat.le_of_ble_eq_true rfl⟩ rfl rfl (Nat.le_of_ble_eq_true rfl) ⟨by decide, rfl⟩ rfl rfl ?_
          refine hC.iload_n dX2_fewestSeams_35 rfl ?_
          refine hC.rdS [] dX2_fewestSeams_36 lmX2_35 mkX2_lesser sxX2_lesser (ct_X2_lesser l (crossF P (k + 1) m) (fwL P m a k) (crossF_lt _ _ _) (fwL_lt _ _ _ _)) ⟨Nat.le_of_ble_eq_true rfl, Nat.le_of_ble_eq_true rfl⟩ rfl rfl (Nat.le_of_ble_eq_true rfl) ⟨by decide, rfl⟩ ?_
          refine hC.istore_n dX2_fewestSeams_39 (by decide) ?_
          refine hC.iinc dX2_fewestSeams_40 rfl (nI_1 _) (by decide) ?_
          refine hC.goto dX2_fewestSeams_43 (tgt := 10) rfl ?_
          rw [show fwL P m a (k + 1) = lessF (crossF P (k + 1) m) (fwL P m a k) by rw [fwL, if_pos c1]] at ih
          exact hC.loc rfl ih
  exact hC.loc rfl (loop 0 (by omega))
abbrev CutT : Type := (Nat → Nat) × (Nat → Nat) × Nat
abbrev cutW (Z : CutT) : List va_E := [.inr (2, [.ref 1, .ref 2, .int (nI Z.2.2)]), rowI 256 Z.1, rowI 256 Z.2.1]
set_option maxHeartbeats 4000000 in
set_option maxRecDepth 20000 in
theorem ct_X2_addWeak (l : Launch) (Z : CutT) (x y : Nat) (h : Z.2.2 < 256) : Ct l 0 yX2_addWeak cX2_addWeak 3 none [.ref 0, .int (nI x), .int (nI y)] (cutW Z) (RU (cutW (updN Z.1 Z.2.2 x, updN Z.2.1 Z.2.2 y, Z.2.2 + 1))) := by
  refine Ct.of (by decide) (Nat.le_of_ble_eq_true rfl) (fun K hC hR => ?_)
  show K 0 [(0, .ref 0), (1, .int (nI x)), (2, .int (nI y))] [] _
  refine hC.aload_n dX2_addWeak_0 rfl ?_
  refine hC.getfield dX2_addWeak_1 lfX2_49 rfl rfl ?_
  refine hC.z_lt (by omega) dX2_addWeak_4 (tgt := 47) rfl ?_
  refine hC.aload_n dX2_addWeak_7 rfl ?_
  refine hC.getfield dX2_addWeak_8 lfX2_49 rfl rfl ?_
  refine hC.sipush dX2_addWeak_11 (v := nI 256) rfl ?_
  refine hC.n_ge (by omega) (by omega) dX2_addWeak_14 (tgt := 47) rfl (fun c => ?_) (fun c => ?_)
  · omega
  · refine hC.aload_n dX2_addWeak_17 rfl ?_
    refine hC.getfield dX2_addWeak_18 lfX2_11 rfl rfl ?_
    refine hC.aload_n dX2_addWeak_21 rfl ?_
    refine hC.getfield dX2_addWeak_22 lfX2_49 rfl rfl ?_
    refine hC.iload_n dX2_addWeak_25 rfl ?_
    refine hC.isN dX2_addWeak_26 rfl ⟨by omega, by decide⟩ ?_
    refine hC.aload_n dX2_addWeak_27 rfl ?_
    refine hC.getfield dX2_addWeak_28 lfX2_15 rfl rfl ?_
    refine hC.aload_n dX2_addWeak_31 rfl ?_
    refine hC.getfield dX2_addWeak_32 lfX2_49 rfl rfl ?_
    refine hC.iload_n dX2_addWeak_35 rfl ?_
    refine hC.isN dX2_addWeak_36 rfl ⟨by omega, by decide⟩ ?_
    refine hC.aload_n dX2_addWeak_37 rfl ?_
    refine hC.dup dX2_addWeak_38 rfl ?_
    refine hC.getfield dX2_addWeak_39 lfX2_49 rfl rfl ?_
    refine hC.iconst dX2_addWeak_42 (v := nI 1) rfl ?_
    refine hC.iadd dX2_addWeak_43 ?_
    rw [nI_add]
    refine hC.putI dX2_addWeak_44 lpX2_49 rfl rfl rfl (Nat.le_of_ble_eq_true rfl) ?_
    exact hR.return_ dX2_addWeak_47 ⟨rfl, rfl⟩
def wkC (P : PlanT) (m h set n side : Nat) : Bool := decide (side &&& set ≠ 0) && (decide (crossF P side m &&& h = 0) && decide (cd (crossF P side m) ≤ n))
def wkL (P : PlanT) (m h set n : Nat) (Z : CutT) : Nat → CutT
  | 0 => (Z.1, Z.2.1, 0)
  | k + 1 => if wkC P m h set n (k + 1) = true then (updN (wkL P m h set n Z k).1 (wkL P m h set n Z k).2.2 (crossF P (k + 1) m), updN (wkL P m h set n Z k).2.1 (wkL P m h set n Z k).2.2 (bs (P.2 3) (ccP P (k + 1))), (wkL P m h set n Z k).2.2 + 1) else wkL P m h set n Z k
theorem wkL_le (P : PlanT) (m h set n : Nat) (Z : CutT) : ∀ k, (wkL P m h set n Z k).2.2 ≤ k
  | 0 => Nat.le_refl 0
  | k + 1 => by
    have := wkL_le P m h set n Z k
    unfold wkL; split
    · show _ + 1 ≤ _; omega
    · omega
def ZOK (Z : CutT) : Prop := Z.2.2 ≤ 255 ∧ ∀ i, i < Z.2.2 → Z.1 i < 4096 ∧ Z.2.1 i < 256
theorem bs_lt8 (p : Nat → Bool) {n : Nat} (h : n ≤ 8) : bs n p < 256 := Nat.lt_of_lt_of_le (bs_lt p n) (pow8 h).1
theorem wkL_ok {P : PlanT} (hP : PlanOK P) (m h set n : Nat) (Z : CutT) : ∀ k i, i < (wkL P m h set n Z k).2.2 → (wkL P m h set n Z k).1 i < 4096 ∧ (wkL P m h set n Z k).2.1 i < 256
  | 0, i, hi => by cases hi
  | k + 1, i, hi => by
    have ih := wkL_ok hP m h set n Z k
    unfold wkL at hi ⊢
    split at hi
    next hc =>
      rw [if_pos hc]
      show updN _ _ _ i < _ ∧ updN _ _ _ i < _
      unfold updN
      split
      · exact ⟨crossF_lt _ _ _, bs_lt8 _ hP.2.2.2.1⟩
      · exact ih i (by have h2 : i < _ + 1 := hi; omega)
    next hc =>
      rw [if_neg hc]
      exact ih i hi
abbrev cpcW (Z : CutT) (P : PlanT) (Q : ClothT) : List va_E := [.inr (2, [.ref 1, .ref 2, .int (nI Z.2.2)]), rowI 256 Z.1, rowI 256 Z.2.1, .inr (4, [.ref 4, .ref 5, .ref 6, .ref 7, .ref 8, .ref 9, .ref 10, .ref 11, .int (nI (P.2 0)), .int (nI (P.2 1)), .int (nI (P.2 2)), .int (nI (P.2 3))]), rowI 4 (P.1 0), rowI 8 (P.1 1), rowI 12 (P.1 2), rowI 12 (P.1 3), rowI 12 (P.1 4), rowI 12 (P.1 5), rowI 8 (P.1 6), rowI 8 (P.1 7), .inr (1, [.ref 13, .ref 14, .int (nI Q.2.2.1), .int (nI Q.2.2.2)]), rowI 12 Q.1, rowI 8 Q.2.1]
set_option maxHeartbeats 4000000 in
set_option maxRecDepth 20000 in
theorem ct_X2_findWeak (l : Launch) (Z : CutT) (P : PlanT) (Q : ClothT) (hP : PlanOK P) (hQ : ClothOK Q) (set n : Nat) (hs : set < 2 ^ 31) (hn : n < 2 ^ 31) : Ct l 3 yX2_findWeak cX2_findWeak 8 none [.ref 0, .ref 3, .ref 12, .int (nI set), .int (nI n)] (cpcW Z P Q) (RU (cpcW (wkL P (thF Q.1 0) Q.2.2.1 set n Z (2 ^ P.2 1 - 1)) P Q)) := by
  refine Ct.of (by decide) (Nat.le_of_ble_eq_true rfl) (fun K hC hR => ?_)
  show K 0 [(0, .ref 0), (1, .ref 3), (2, .ref 12), (3, .int (nI set)), (4, .int (nI n))] [] _
  have hT := pow8 hP.2.1
  refine hC.aload_n dX2_findWeak_0 rfl ?_
  refine hC.rdV [12, 13, 14] dX2_findWeak_1 lmX2_44 mkX1_sewn svX1_sewn (ct_X1_sewn l Q hQ) ⟨Nat.le_of_ble_eq_true rfl, Nat.le_of_ble_eq_true rfl⟩ rfl rfl (Nat.le_of_ble_eq_true rfl) ⟨by decide, rfl⟩ rfl rfl ?_
  have hm := thF_lt Q.1 0
  generalize hm0 : thF Q.1 0 = m at hm ⊢
  refine hC.istore dX2_findWeak_4 (by decide) ?_
  refine hC.aload_n dX2_findWeak_6 rfl ?_
  refine hC.iconst dX2_findWeak_7 (v := nI 0) rfl ?_
  refine hC.putI dX2_findWeak_8 lpX2_49 rfl rfl rfl (Nat.le_of_ble_eq_true rfl) ?_
  refine hC.iconst dX2_findWeak_11 (v := nI 1) rfl ?_
  refine hC.istore dX2_findWeak_12 (by decide) ?_
  have loop : ∀ k, k ≤ 2 ^ P.2 1 - 1 → K 14 [(0, .ref 0), (1, .ref 3), (2, .ref 12), (3, .int (nI set)), (4, .int (nI n)), (5, .int (nI m)), (6, .int (nI (k + 1)))] [] (cpcW (wkL P m Q.2.2.1 set n Z k) P Q) := by
    refine loopUp1 _ (2 ^ P.2 1 - 1) ?_ (fun k hk ih => ?_)
    · refine hC.iload dX2_findWeak_14 rfl ?_
      refine hC.aload_n dX2_findWeak_16 rfl ?_
      refine hC.rdV [3, 4, 5, 6, 7, 8, 9, 10, 11] dX2_findWeak_17 lmX2_24 mkX4_allStrips svX4_allStrips (ct_X4_allStrips l P hP) ⟨Nat.le_of_ble_eq_true rfl, Nat.le_of_ble_eq_true rfl⟩ rfl rfl (Nat.le_of_ble_eq_true rfl) ⟨by decide, rfl⟩ rfl rfl ?_
      refine hC.n_gt (by omega) (by omega) dX2_findWeak_20 (tgt := 78) rfl (fun c => ?_) (fun c => ?_)
      · exact hR.return_ dX2_findWeak_78 ⟨rfl, by rw [hm0]⟩
      · omega
    · have hle := wkL_le P m Q.2.2.1 set n Z k
      refine hC.iload dX2_findWeak_14 rfl ?_
      refine hC.aload_n dX2_findWeak_16 rfl ?_
      refine hC.rdV [3, 4, 5, 6, 7, 8, 9, 10, 11] dX2_findWeak_17 lmX2_24 mkX4_allStrips svX4_allStrips (ct_X4_allStrips l P hP) ⟨Nat.le_of_ble_eq_true rfl, Nat.le_of_ble_eq_true rfl⟩ rfl rfl (Nat.le_of_ble_eq_true rfl) ⟨by decide, rfl⟩ rfl rfl ?_
      refine hC.n_gt (by omega) (by omega) dX2_findWeak_20 (tgt := 78) rfl (fun c => ?_) (fun c => ?_)
      · omega
      · refine hC.iload dX2_findWeak_23 rfl ?_
        refine hC.iload_n dX2_findWeak_25 rfl ?_
        refine hC.iand dX2_findWeak_26 ?_
        rw [nI_and]
        refine hC.nz (and_b (by omega)) dX2_findWeak_27 (tgt := 72) rfl (fun c1 => ?_) (fun c1 => ?_)
        · refine hC.iinc dX2_findWeak_72 rfl (nI_1 _) (by decide) ?_
          refine hC.goto dX2_findWeak_75 (tgt := 14) rfl ?_
          rw [show wkL P m Q.2.2.1 set n Z (k + 1) = wkL P m Q.2.2.1 set n Z k by rw [wkL, if_neg (by simp [wkC, c1])]] at ih
          exact hC.loc rfl ih
        · refine hC.aload_n dX2_findWeak_30 rfl ?_
          refine hC.iload dX2_findWeak_31 rfl ?_
          refine hC.iload dX2_findWeak_33 rfl ?_
          refine hC.rdV [3, 4, 5, 6, 7, 8, 9, 10, 11] dX2_findWeak_35 lmX2_32 mkX4_crossing svX4_crossing (ct_X4_crossing l P hP (k + 1) m hm) ⟨Nat.le_of_ble_eq_true rfl, Nat.le_of_ble_eq_true rfl⟩ rfl rfl (Nat.le_of_ble_eq_true rfl) ⟨by decide, rfl⟩ rfl rfl ?_
          have hcl := crossF_lt P (k + 1) m
          refine hC.istore dX2_findWeak_38 (by decide) ?_
          refine hC.iload dX2_findWeak_40 rfl ?_
          refine hC.aload_n dX2_findWeak_42 rfl ?_
          refine hC.getfield dX2_findWeak_43 lfX2_53 rfl rfl ?_
          refine hC.iand dX2_findWeak_46 ?_
          rw [nI_and]
          refine hC.nnz (and_b (by omega)) dX2_findWeak_47 (tgt := 72) rfl (fun c2 => ?_) (fun c2 => ?_)
          · refine hC.iinc dX2_findWeak_72 rfl (nI_1 _) (by decide) ?_
            refine hC.goto dX2_findWeak_75 (tgt := 14) rfl ?_
            rw [show wkL P m Q.2.2.1 set n Z (k + 1) = wkL P m Q.2.2.1 set n Z k by rw [wkL, if_neg (by simp [wkC, c2])]] at ih
            exact hC.loc rfl ih
          · have hcd := cd_le (crossF P (k + 1) m)
            refine hC.iload dX2_findWeak_50 rfl ?_
            refine hC.rdS [] dX2_findWeak_52 lmX2_38 mkJ_bitCount sxJ_bitCount (ct_J_bitCount l (crossF P (k + 1) m) hcl) ⟨Nat.le_of_ble_eq_true rfl, Nat.le_of_ble_eq_true rfl⟩ rfl rfl (Nat.le_of_ble_eq_true rfl) ⟨by decide, rfl⟩ ?_
            refine hC.iload dX2_findWeak_55 rfl ?_
            refine hC.n_gt (by omega) (by omega) dX2_findWeak_57 (tgt := 72) rfl (fun c3 => ?_) (fun c3 => ?_)
            · refine hC.iinc dX2_findWeak_72 rfl (nI_1 _) (by decide) ?_
              refine hC.goto dX2_findWeak_75 (tgt := 14) rfl ?_
              rw [show wkL P m Q.2.2.1 set n Z (k + 1) = wkL P m Q.2.2.1 set n Z k by rw [wkL, if_neg (by simp [wkC]; omega)]] at ih
              exact hC.loc rfl ih
            · refine hC.aload_n dX2_findWeak_60 rfl ?_
              refine hC.iload dX2_findWeak_61 rfl ?_
              refine hC.aload_n dX2_findWeak_63 rfl ?_
              refine hC.iload dX2_findWeak_64 rfl ?_
              refine hC.rdV [3, 4, 5, 6, 7, 8, 9, 10, 11] dX2_findWeak_66 lmX2_56 mkX4_couldsCrossing svX4_couldsCrossing (ct_X4_couldsCrossing l P hP (k + 1)) ⟨Nat.le_of_ble_eq_true rfl, Nat.le_of_ble_eq_true rfl⟩ rfl rfl (Nat.le_of_ble_eq_true rfl) ⟨by decide, rfl⟩ rfl rfl ?_
              have e1 : wkL P m Q.2.2.1 set n Z (k + 1) = (updN (wkL P m Q.2.2.1 set n Z k).1 (wkL P m Q.2.2.1 set n Z k).2.2 (crossF P (k + 1) m), updN (wkL P m Q.2.2.1 set n Z k).2.1 (wkL P m Q.2.2.1 set n Z k).2.2 (bs (P.2 3) (ccP P (k + 1))), (wkL P m Q.2.2.1 set n Z k).2.2 + 1) := by rw [wkL, if_pos (by simp [wkC, c1, c2, c3])]
              refine hC.wuV (hs2 := cpcW (updN (wkL P m Q.2.2.1 set n Z k).1 (wkL P m Q.2.2.1 set n Z k).2.2 (crossF P (k + 1) m), updN (wkL P m Q.2.2.1 set n Z k).2.1 (wkL P m Q.2.2.1 set n Z k).2.2 (bs (P.2 3) (ccP P (k + 1))), (wkL P m Q.2.2.1 set n Z k).2.2 + 1) P Q) [0, 1, 2] dX2_findWeak_69 lmX2_59 mkX2_addWeak svX2_addWeak (ct_X2_addWeak l (wkL P m Q.2.2.1 set n Z k) (crossF P (k + 1) m) (bs (P.2 3) (ccP P (k + 1))) (by omega)) ⟨Nat.le_of_ble_eq_true rfl, Nat.le_of_ble_eq_true rfl⟩ rfl rfl (Nat.le_of_ble_eq_true rfl) ⟨by decide, rfl⟩ rfl rfl rfl ?_
              refine hC.iinc dX2_findWeak_72 rfl (nI_1 _) (by decide) ?_
              refine hC.goto dX2_findWeak_75 (tgt := 14) rfl ?_
              rw [e1] at ih
              exact hC.loc rfl ih
  exact hC.loc rfl (loop 0 (by omega))
def hdB (Z : CutT) (h : Nat) : Bool := decide (∀ i, i < Z.2.2 → Z.1 i &&& h ≠ 0)
set_option maxHeartbeats 4000000 in
set_option maxRecDepth 20000 in
theorem ct_X2_isHeld (l : Launch) (Z : CutT) (hZ : ZOK Z) (h : Nat) : Ct l 0 yX2_isHeld cX2_isHeld 3 (some .boolean) [.ref 0, .int (nI h)] (cutW Z) (RV (.int (nI (hdB Z h).toNat)) (cutW Z)) := by
  refine Ct.of (by decide) (Nat.le_of_ble_eq_true rfl) (fun K hC hR => ?_)
  show K 0 [(0, .ref 0), (1, .int (nI h))] [] _
  have h255 := hZ.1
  refine hC.iconst dX2_isHeld_0 (v := nI 0) rfl ?_
  refine hC.istore_n dX2_isHeld_1 (by decide) ?_
  have loop : ∀ s, s ≤ Z.2.2 → (∀ i, i < s → Z.1 i &&& h ≠ 0) → K 2 [(0, .ref 0), (1, .int (nI h)), (2, .int (nI s))] [] (cutW Z) := by
    refine loopUp1 _ Z.2.2 ?_ (fun s hs ih => ?_)
    · intro hI
      refine hC.iload_n dX2_isHeld_2 rfl ?_
      refine hC.aload_n dX2_isHeld_3 rfl ?_
      refine hC.getfield dX2_isHeld_4 lfX2_49 rfl rfl ?_
      refine hC.n_ge (by omega) (by omega) dX2_isHeld_7 (tgt := 36) rfl (fun c => ?_) (fun c => ?_)
      · refine hC.iconst dX2_isHeld_36 (v := nI 1) rfl ?_
        exact hR.zreturn dX2_isHeld_37 (by first | decide | exact b01 _) ⟨by rw [hdB, decide_eq_true hI] <;> rfl, rfl⟩
      · omega
    · intro hI
      have hb := (hZ.2 s hs).1
      refine hC.iload_n dX2_isHeld_2 rfl ?_
      refine hC.aload_n dX2_isHeld_3 rfl ?_
      refine hC.getfield dX2_isHeld_4 lfX2_49 rfl rfl ?_
      refine hC.n_ge (by omega) (by omega) dX2_isHeld_7 (tgt := 36) rfl (fun c => ?_) (fun c => ?_)
      · omega
      · refine hC.iload_n dX2_isHeld_10 rfl ?_
        refine hC.sipush dX2_isHeld_11 (v := nI 256) rfl ?_
        refine hC.n_ge (by omega) (by omega) dX2_isHeld_14 (tgt := 36) rfl (fun c2 => ?_) (fun c2 => ?_)
        · omega
        · refine hC.aload_n dX2_isHeld_17 rfl ?_
          refine hC.getfield dX2_isHeld_18 lfX2_11 rfl rfl ?_
          refine hC.iload_n dX2_isHeld_21 rfl ?_
          refine hC.iaN dX2_isHeld_22 rfl ⟨by omega, by decide⟩ ?_
          refine hC.iload_n dX2_isHeld_23 rfl ?_
          refine hC.iand dX2_isHeld_24 ?_
          rw [nI_and]
          refine hC.nnz (and_b (by omega)) dX2_isHeld_25 (tgt := 30) rfl (fun c3 => ?_) (fun c3 => ?_)
          · refine hC.iinc dX2_isHeld_30 rfl (nI_1 _) (by decide) ?_
            refine hC.goto dX2_isHeld_33 (tgt := 2) rfl ?_
            exact hC.loc rfl (ih (fun i hi => by
              by_cases e : i = s
              · subst e; exact c3
              · exact hI i (by omega)))
          · refine hC.iconst dX2_isHeld_28 (v := nI 0) rfl ?_
            exact hR.zreturn dX2_isHeld_29 (by first | decide | exact b01 _) ⟨by rw [hdB, decide_eq_false (fun z => z s hs c3)] <;> rfl, rfl⟩
  exact hC.loc rfl (loop 0 (by omega) (fun i hi => by omega))
/-- none, as a number -/
abbrev NN : Nat := 4294967295
theorem nn_eq {x : Nat} (hx : x < 2 ^ 31 ∨ x = NN) : nI x = -1 ↔ x = NN := by
  constructor
  · intro h
    rcases hx with h2 | h2
    · rw [m1_nI] at h
      have := congrArg (fun x : Int32 => x.toBitVec.toNat) h
      rw [pk_tn (by omega), pk_tn (by decide)] at this
      omega
    · exact h2
  · intro h; rw [h]; exact m1_nI.symm
def fhL (Z : CutT) (free : Nat) : Nat → Nat
  | 0 => NN
  | k + 1 => if (fhL Z free k = NN ∨ cd k < cd (fhL Z free k)) ∧ andn k free = 0 ∧ hdB Z k = true then k else fhL Z free k
theorem fhL_lt (Z : CutT) (free : Nat) : ∀ k, fhL Z free k < k ∨ fhL Z free k = NN
  | 0 => Or.inr rfl
  | k + 1 => by
    have := fhL_lt Z free k
    unfold fhL; split <;> omega
set_option maxHeartbeats 4000000 in
set_option maxRecDepth 20000 in
theorem ct_X2_fewestHems (l : Launch) (Z : CutT) (hZ : ZOK Z) (free : Nat) (hf : free < 4096) : Ct l 1 yX2_fewestHems cX2_fewestHems 5 (some .int) [.ref 0, .int (nI free)] (cutW Z) (RV (.int (nI (fhL Z free (free + 1)))) (cutW Z)) := by
  refine Ct.of (by decide) (Nat.le_of_ble_eq_true rfl) (fun K hC hR => ?_)
  show K 0 [(0, .ref 0), (1, .int (nI free))] [] _
  refine hC.iconst dX2_fewestHems_0 (v := (-1)) rfl ?_
  rw [m1_nI]
  refine hC.istore_n dX2_fewestHems_1 (by decide) ?_
  refine hC.iconst dX2_fewestHems_2 (v := nI 0) rfl ?_
  refine hC.istore_n dX2_fewestHems_3 (by decide) ?_
  have loop : ∀ k, k ≤ free + 1 → K 4 [(0, .ref 0), (1, .int (nI free)), (2, .int (nI (fhL Z free k))), (3, .int (nI k))] [] (cutW Z) := by
    refine loopUp1 _ (free + 1) ?_ (fun k hk ih => ?_)
    · refine hC.iload_n dX2_fewestHems_4 rfl ?_
      refine hC.iload_n dX2_fewestHems_5 rfl ?_
      refine hC.n_gt (by omega) (by omega) dX2_fewestHems_6 (tgt := 61) rfl (fun c => ?_) (fun c => ?_)
      · refine hC.iload_n dX2_fewestHems_61 rfl ?_
        exact hR.ireturn dX2_fewestHems_62 ⟨rfl, rfl⟩
      · omega
    · have hlt := fhL_lt Z free k
      have hcd := cd_le k
      have hcd2 := cd_le (fhL Z free k)
      have tail : ∀ b : Bool, b = decide (fhL Z free k = NN ∨ cd k < cd (fhL Z free k)) → K 30 [(0, .ref 0), (1, .int (nI free)), (2, .int (nI (fhL Z free k))), (3, .int (nI k))] [.int (nI b.toNat)] (cutW Z) := by
        intro b hb
        refine hC.istore dX2_fewestHems_30 (by decide) ?_
        refine hC.iload dX2_fewestHems_32 rfl ?_
        refine hC.bz dX2_fewestHems_34 (tgt := 55) rfl (fun c1 => ?_) (fun c1 => ?_)
        · rw [hb] at c1
          have c1 := of_decide_eq_false c1
          refine hC.iinc dX2_fewestHems_55 rfl (nI_1 _) (by decide) ?_
          refine hC.goto dX2_fewestHems_58 (tgt := 4) rfl ?_
          rw [fhL, if_neg (fun h => c1 h.1)] at ih
          exact hC.loc rfl ih
        · rw [hb] at c1
          have c1 := of_decide_eq_true c1
          refine hC.iload_n dX2_fewestHems_37 rfl ?_
          refine hC.iload_n dX2_fewestHems_38 rfl ?_
          refine hC.iconst dX2_fewestHems_39 (v := (-1)) rfl ?_
          refine hC.ixor dX2_fewestHems_40 ?_
          refine hC.iand dX2_fewestHems_41 ?_
          rw [nI_andn]
          refine hC.nnz (andn_b (by omega)) dX2_fewestHems_42 (tgt := 55) rfl (fun c2 => ?_) (fun c2 => ?_)
          · refine hC.iinc dX2_fewestHems_55 rfl (nI_1 _) (by decide) ?_
            refine hC.goto dX2_fewestHems_58 (tgt := 4) rfl ?_
            rw [fhL, if_neg (fun h => c2 h.2.1)] at ih
            exact hC.loc rfl ih
          · refine hC.aload_n dX2_fewestHems_45 rfl ?_
            refine hC.iload_n dX2_fewestHems_46 rfl ?_
            refine hC.rdV [0, 1, 2] dX2_fewestHems_47 lmX2_63 mkX2_isHeld svX2_isHeld (ct_X2_isHeld l Z hZ k) ⟨Nat.le_of_ble_eq_true rfl, Nat.le_of_ble_eq_true rfl⟩ rfl rfl (Nat.le_of_ble_eq_true rfl) ⟨by decide, rfl⟩ rfl rfl ?_
            refine hC.bz dX2_fewestHems_50 (tgt := 55) rfl (fun c3 => ?_) (fun c3 => ?_)
            · refine hC.iinc dX2_fewestHems_55 rfl (nI_1 _) (by decide) ?_
              refine hC.goto dX2_fewestHems_58 (tgt := 4) rfl ?_
              rw [fhL, if_neg (fun h => by rw [c3] at h; exact absurd h.2.2 (by decide))] at ih
              exact hC.loc rfl ih
            · refine hC.iload_n dX2_fewestHems_53 rfl ?_
              refine hC.istore_n dX2_fewestHems_54 (by decide) ?_
              refine hC.iinc dX2_fewestHems_55 rfl (nI_1 _) (by decide) ?_
              refine hC.goto dX2_fewestHems_58 (tgt := 4) rfl ?_
              rw [fhL, if_pos ⟨c1, c2, c3⟩] at ih
              exact hC.loc rfl ih
      refine hC.iload_n dX2_fewestHems_4 rfl ?_
      refine hC.iload_n dX2_fewestHems_5 rfl ?_
      refine hC.n_gt (by omega) (by omega) dX2_fewestHems_6 (tgt := 61) rfl (fun c => ?_) (fun c => ?_)
      · omega
      · refine hC.iload_n dX2_fewestHems_9 rfl ?_
        refine hC.iconst dX2_fewestHems_10 (v := (-1)) rfl ?_
        refine hC.icmp_eq dX2_fewestHems_11 (tgt := 25) rfl (fun c0 => ?_) (fun c0 => ?_)
        · have c0 := (nn_eq (by omega)).mp c0
          refine hC.iconst dX2_fewestHems_25 (v := nI 1) rfl ?_
          refine hC.goto dX2_fewestHems_26 (tgt := 30) rfl ?_
          exact tail true (decide_eq_true (Or.inl c0)).symm
        · have c0 : ¬ fhL Z free k = NN := fun z => c0 ((nn_eq (x := fhL Z free k) (by omega)).mpr z)
          refine hC.iload_n dX2_fewestHems_14 rfl ?_
          refine hC.rdS [] dX2_fewestHems_15 lmX2_38 mkJ_bitCount sxJ_bitCount (ct_J_bitCount l k (by omega)) ⟨Nat.le_of_ble_eq_true rfl, Nat.le_of_ble_eq_true rfl⟩ rfl rfl (Nat.le_of_ble_eq_true rfl) ⟨by decide, rfl⟩ ?_
          refine hC.iload_n dX2_fewestHems_18 rfl ?_
          refine hC.rdS [] dX2_fewestHems_19 lmX2_38 mkJ_bitCount sxJ_bitCount (ct_J_bitCount l (fhL Z free k) (by omega)) ⟨Nat.le_of_ble_eq_true rfl, Nat.le_of_ble_eq_true rfl⟩ rfl rfl (Nat.le_of_ble_eq_true rfl) ⟨by decide, rfl⟩ ?_
          refine hC.n_ge (by omega) (by omega) dX2_fewestHems_22 (tgt := 29) rfl (fun c1 => ?_) (fun c1 => ?_)
          · refine hC.iconst dX2_fewestHems_29 (v := nI 0) rfl ?_
            exact tail false (decide_eq_false (by omega)).symm
          · refine hC.iconst dX2_fewestHems_25 (v := nI 1) rfl ?_
            refine hC.goto dX2_fewestHems_26 (tgt := 30) rfl ?_
            exact tail true (decide_eq_true (Or.inr c1)).symm
  exact hC.loc rfl (loop 0 (by omega))
def mdB (Z : CutT) (co n : Nat) : Bool := decide (∀ i, i < Z.2.2 → n < cd (Z.1 i) + cd (Z.2.1 i &&& co))
set_option maxHeartbeats 4000000 in
set_option maxRecDepth 20000 in
theorem ct_X2_isMended (l : Launch) (Z : CutT) (hZ : ZOK Z) (co n : Nat) (hn : n < 2 ^ 31) : Ct l 1 yX2_isMended cX2_isMended 4 (some .boolean) [.ref 0, .int (nI co), .int (nI n)] (cutW Z) (RV (.int (nI (mdB Z co n).toNat)) (cutW Z)) := by
  refine Ct.of (by decide) (Nat.le_of_ble_eq_true rfl) (fun K hC hR => ?_)
  show K 0 [(0, .ref 0), (1, .int (nI co)), (2, .int (nI n))] [] _
  have h255 := hZ.1
  refine hC.iconst dX2_isMended_0 (v := nI 0) rfl ?_
  refine hC.istore_n dX2_isMended_1 (by decide) ?_
  have loop : ∀ s, s ≤ Z.2.2 → (∀ i, i < s → n < cd (Z.1 i) + cd (Z.2.1 i &&& co)) → K 2 [(0, .ref 0), (1, .int (nI co)), (2, .int (nI n)), (3, .int (nI s))] [] (cutW Z) := by
    refine loopUp1 _ Z.2.2 ?_ (fun s hs ih => ?_)
    · intro hI
      refine hC.iload_n dX2_isMended_2 rfl ?_
      refine hC.aload_n dX2_isMended_3 rfl ?_
      refine hC.getfield dX2_isMended_4 lfX2_49 rfl rfl ?_
      refine hC.n_ge (by omega) (by omega) dX2_isMended_7 (tgt := 50) rfl (fun c => ?_) (fun c => ?_)
      · refine hC.iconst dX2_isMended_50 (v := nI 1) rfl ?_
        exact hR.zreturn dX2_isMended_51 (by first | decide | exact b01 _) ⟨by rw [mdB, decide_eq_true hI] <;> rfl, rfl⟩
      · omega
    · intro hI
      have hb := hZ.2 s hs
      have hc1 := cd_le (Z.1 s)
      have hc2 := cd_le (Z.2.1 s &&& co)
      refine hC.iload_n dX2_isMended_2 rfl ?_
      refine hC.aload_n dX2_isMended_3 rfl ?_
      refine hC.getfield dX2_isMended_4 lfX2_49 rfl rfl ?_
      refine hC.n_ge (by omega) (by omega) dX2_isMended_7 (tgt := 50) rfl (fun c => ?_) (fun c => ?_)
      · omega
      · refine hC.iload_n dX2_isMended_10 rfl ?_
        refine hC.sipush dX2_isMended_11 (v := nI 256) rfl ?_
        refine hC.n_ge (by omega) (by omega) dX2_isMended_14 (tgt := 50) rfl (fun c2 => ?_) (fun c2 => ?_)
        · omega
        · refine hC.aload_n dX2_isMended_17 rfl ?_
          refine hC.getfield dX2_isMended_18 lfX2_11 rfl rfl ?_
          refine hC.iload_n dX2_isMended_21 rfl ?_
          refine hC.iaN dX2_isMended_22 rfl ⟨by omega, by decide⟩ ?_
          refine hC.rdS [] dX2_isMended_23 lmX2_38 mkJ_bitCount sxJ_bitCount (ct_J_bitCount l (Z.1 s) hb.1) ⟨Nat.le_of_ble_eq_true rfl, Nat.le_of_ble_eq_true rfl⟩ rfl rfl (Nat.le_of_ble_eq_true rfl) ⟨by decide, rfl⟩ ?_
          refine hC.aload_n dX2_isMended_26 rfl ?_
          refine hC.getfield dX2_isMended_27 lfX2_15 rfl rfl ?_
          refine hC.iload_n dX2_isMended_30 rfl ?_
          refine hC.iaN dX2_isMended_31 rfl ⟨by omega, by decide⟩ ?_
          refine hC.iload_n dX2_isMended_32 rfl ?_
          refine hC.iand dX2_isMended_33 ?_
          rw [nI_and]
          refine hC.rdS [] dX2_isMended_34 lmX2_38 mkJ_bitCount sxJ_bitCount (ct_J_bitCount l (Z.2.1 s &&& co) (and_b (by omega))) ⟨Nat.le_of_ble_eq_true rfl, Nat.le_of_ble_eq_true rfl⟩ rfl rfl (Nat.le_of_ble_eq_true rfl) ⟨by decide, rfl⟩ ?_
          refine hC.iadd dX2_isMended_37 ?_
          rw [nI_add]
          refine hC.iload_n dX2_isMended_38 rfl ?_
          refine hC.n_gt (by omega) (by omega) dX2_isMended_39 (tgt := 44) rfl (fun c3 => ?_) (fun c3 => ?_)
          · refine hC.iinc dX2_isMended_44 rfl (nI_1 _) (by decide) ?_
            refine hC.goto dX2_isMended_47 (tgt := 2) rfl ?_
            exact hC.loc rfl (ih (fun i hi => by
              by_cases e : i = s
              · subst e; exact c3
              · exact hI i (by omega)))
          · refine hC.iconst dX2_isMended_42 (v := nI 0) rfl ?_
            exact hR.zreturn dX2_isMended_43 (by first | decide | exact b01 _) ⟨by rw [mdB, decide_eq_false (fun z => by have := z s hs; omega)] <;> rfl, rfl⟩
  exact hC.loc rfl (loop 0 (by omega) (fun i hi => by omega))
def tsF (P : PlanT) (m : Nat) : Nat := sm (fun s => if m.testBit s = true then P.1 7 s else 0) 8
def ltL (Z : CutT) (P : PlanT) (n : Nat) : Nat → Nat × Nat
  | 0 => (NN, 0)
  | k + 1 => if ((ltL Z P n k).1 = NN ∨ tsF P k < (ltL Z P n k).2) ∧ mdB Z k n = true then (k, tsF P k) else ltL Z P n k
theorem tsF_le {P : PlanT} (hP : PlanOK P) (m : Nat) : tsF P m ≤ 792 := sm_le (b := 99) (fun s => by split; exact hP.2.2.2.2.2.2.2 s; omega) 8
theorem ltL_lt {Z : CutT} {P : PlanT} (hP : PlanOK P) (n : Nat) : ∀ k, ((ltL Z P n k).1 < k ∨ (ltL Z P n k).1 = NN) ∧ (ltL Z P n k).2 ≤ 792
  | 0 => ⟨Or.inr rfl, Nat.zero_le _⟩
  | k + 1 => by
    have := ltL_lt (Z := Z) hP n k
    have := tsF_le hP k
    unfold ltL; split
    · exact ⟨Or.inl (Nat.lt_succ_self k), by assumption⟩
    · exact ⟨by omega, by omega⟩
abbrev cpW (Z : CutT) (P : PlanT) : List va_E := [.inr (2, [.ref 1, .ref 2, .int (nI Z.2.2)]), rowI 256 Z.1, rowI 256 Z.2.1, .inr (4, [.ref 4, .ref 5, .ref 6, .ref 7, .ref 8, .ref 9, .ref 10, .ref 11, .int (nI (P.2 0)), .int (nI (P.2 1)), .int (nI (P.2 2)), .int (nI (P.2 3))]), rowI 4 (P.1 0), rowI 8 (P.1 1), rowI 12 (P.1 2), rowI 12 (P.1 3), rowI 12 (P.1 4), rowI 12 (P.1 5), rowI 8 (P.1 6), rowI 8 (P.1 7)]
set_option maxHeartbeats 4000000 in
set_option maxRecDepth 20000 in
theorem ct_X2_leastThread (l : Launch) (Z : CutT) (P : PlanT) (hZ : ZOK Z) (hP : PlanOK P) (n : Nat) (hn : n < 2 ^ 31) : Ct l 2 yX2_leastThread cX2_leastThread 7 (some .int) [.ref 0, .ref 3, .int (nI n)] (cpW Z P) (RV (.int (nI (ltL Z P n (2 ^ P.2 3)).1)) (cpW Z P)) := by
  refine Ct.of (by decide) (Nat.le_of_ble_eq_true rfl) (fun K hC hR => ?_)
  show K 0 [(0, .ref 0), (1, .ref 3), (2, .int (nI n))] [] _
  have hU := hP.2.2.2.1
  have hT := pow8 hU
  refine hC.iconst dX2_leastThread_0 (v := (-1)) rfl ?_
  rw [m1_nI]
  refine hC.istore_n dX2_leastThread_1 (by decide) ?_
  refine hC.iconst dX2_leastThread_2 (v := nI 0) rfl ?_
  refine hC.istore dX2_leastThread_3 (by decide) ?_
  refine hC.iconst dX2_leastThread_5 (v := nI 0) rfl ?_
  refine hC.istore dX2_leastThread_6 (by decide) ?_
  have loop : ∀ k, k ≤ 2 ^ P.2 3 → K 8 [(0, .ref 0), (1, .ref 3), (2, .int (nI n)), (3, .int (nI (ltL Z P n k).1)), (4, .int (nI (ltL Z P n k).2)), (5, .int (nI k))] [] (cpW Z P) := by
    refine loopUp1 _ (2 ^ P.2 3) ?_ (fun k hk ih => ?_)
    · refine hC.iload dX2_leastThread_8 rfl ?_
      refine hC.iconst dX2_leastThread_10 (v := nI 1) rfl ?_
      refine hC.aload_n dX2_leastThread_11 rfl ?_
      refine hC.getfield dX2_leastThread_12 lfX2_67 rfl rfl ?_
      refine hC.ishl dX2_leastThread_15 ?_
      rw [nI_shl (by omega), Nat.one_mul]
      refine hC.n_ge (by omega) (by omega) dX2_leastThread_16 (tgt := 62) rfl (fun c => ?_) (fun c => ?_)
      · refine hC.iload_n dX2_leastThread_62 rfl ?_
        exact hR.ireturn dX2_leastThread_63 ⟨rfl, rfl⟩
      · omega
    · have hlt := ltL_lt (Z := Z) hP n k
      have hts := tsF_le hP k
      have tail : ((ltL Z P n k).1 = NN ∨ tsF P k < (ltL Z P n k).2) → K 39 [(0, .ref 0), (1, .ref 3), (2, .int (nI n)), (3, .int (nI (ltL Z P n k).1)), (4, .int (nI (ltL Z P n k).2)), (5, .int (nI k)), (6, .int (nI (tsF P k)))] [] (cpW Z P) := by
        intro h1
        refine hC.aload_n dX2_leastThread_39 rfl ?_
        refine hC.iload dX2_leastThread_40 rfl ?_
        refine hC.iload_n dX2_leastThread_42 rfl ?_
        refine hC.rdV [0, 1, 2] dX2_leastThread_43 lmX2_73 mkX2_isMended svX2_isMended (ct_X2_isMended l Z hZ k n hn) ⟨Nat.le_of_ble_eq_true rfl, Nat.le_of_ble_eq_true rfl⟩ rfl rfl (Nat.le_of_ble_eq_true rfl) ⟨by decide, rfl⟩ rfl rfl ?_
        refine hC.bz dX2_leastThread_46 (tgt := 56) rfl (fun c3 => ?_) (fun c3 => ?_)
        · refine hC.iinc dX2_leastThread_56 rfl (nI_1 _) (by decide) ?_
          refine hC.goto dX2_leastThread_59 (tgt := 8) rfl ?_
          rw [ltL, if_neg (fun h => by rw [c3] at h; exact absurd h.2 (by decide))] at ih
          exact hC.loc rfl ih
        · refine hC.iload dX2_leastThread_49 rfl ?_
          refine hC.istore_n dX2_leastThread_51 (by decide) ?_
          refine hC.iload dX2_leastThread_52 rfl ?_
          refine hC.istore dX2_leastThread_54 (by decide) ?_
          refine hC.iinc dX2_leastThread_56 rfl (nI_1 _) (by decide) ?_
          refine hC.goto dX2_leastThread_59 (tgt := 8) rfl ?_
          rw [ltL, if_pos ⟨h1, c3⟩] at ih
          exact hC.loc rfl ih
      refine hC.iload dX2_leastThread_8 rfl ?_
      refine hC.iconst dX2_leastThread_10 (v := nI 1) rfl ?_
      refine hC.aload_n dX2_leastThread_11 rfl ?_
      refine hC.getfield dX2_leastThread_12 lfX2_67 rfl rfl ?_
      refine hC.ishl dX2_leastThread_15 ?_
      rw [nI_shl (by omega), Nat.one_mul]
      refine hC.n_ge (by omega) (by omega) dX2_leastThread_16 (tgt := 62) rfl (fun c => ?_) (fun c => ?_)
      · omega
      · refine hC.aload_n dX2_leastThread_19 rfl ?_
        refine hC.iload dX2_leastThread_20 rfl ?_
        refine hC.rdV [3, 4, 5, 6, 7, 8, 9, 10, 11] dX2_leastThread_22 lmX2_70 mkX4_threadOf svX4_threadOf (ct_X4_threadOf l P hP k (by omega)) ⟨Nat.le_of_ble_eq_true rfl, Nat.le_of_ble_eq_true rfl⟩ rfl rfl (Nat.le_of_ble_eq_true rfl) ⟨by decide, rfl⟩ rfl rfl ?_
        refine hC.istore dX2_leastThread_25 (by decide) ?_
        refine hC.iload_n dX2_leastThread_27 rfl ?_
        refine hC.iconst dX2_leastThread_28 (v := (-1)) rfl ?_
        refine hC.icmp_eq dX2_leastThread_29 (tgt := 39) rfl (fun c0 => ?_) (fun c0 => ?_)
        · exact hC.loc rfl (tail (Or.inl ((nn_eq (by omega)).mp c0)))
        · have c0 : ¬ (ltL Z P n k).1 = NN := fun z => c0 ((nn_eq (x := (ltL Z P n k).1) (by omega)).mpr z)
          refine hC.iload dX2_leastThread_32 rfl ?_
          refine hC.iload dX2_leastThread_34 rfl ?_
          have c0b := c0
          refine hC.n_ge (a := tsF P k) (by omega) (by omega) dX2_leastThread_36 (tgt := 56) rfl (fun c1 => ?_) (fun c1 => ?_)
          · refine hC.iinc dX2_leastThread_56 rfl (nI_1 _) (by decide) ?_
            refine hC.goto dX2_leastThread_59 (tgt := 8) rfl ?_
            rw [ltL, if_neg (fun h => by have := h.1; omega)] at ih
            exact hC.loc rfl ih
          · exact hC.loc rfl (tail (Or.inr c1))
  exact hC.loc rfl (loop 0 (by omega))
