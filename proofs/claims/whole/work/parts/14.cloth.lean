/-! StripFlag$Cloth: strengths, colours, hems, seed -/
abbrev ClothT : Type := (Nat → Nat) × (Nat → Nat) × Nat × Nat
abbrev clothC (b : Nat) (Q : ClothT) : List va_E := [.inr (1, [.ref (b + 1), .ref (b + 2), .int (nI Q.2.2.1), .int (nI Q.2.2.2)]), rowI 12 Q.1, rowI 8 Q.2.1]
abbrev planC (b : Nat) (P : PlanT) : List va_E := [.inr (4, [.ref (b + 1), .ref (b + 2), .ref (b + 3), .ref (b + 4), .ref (b + 5), .ref (b + 6), .ref (b + 7), .ref (b + 8), .int (nI (P.2 0)), .int (nI (P.2 1)), .int (nI (P.2 2)), .int (nI (P.2 3))]), rowI 4 (P.1 0), rowI 8 (P.1 1), rowI 12 (P.1 2), rowI 12 (P.1 3), rowI 12 (P.1 4), rowI 12 (P.1 5), rowI 8 (P.1 6), rowI 8 (P.1 7)]
abbrev clpW (Q : ClothT) (P : PlanT) : List va_E := [.inr (1, [.ref 1, .ref 2, .int (nI Q.2.2.1), .int (nI Q.2.2.2)]), rowI 12 Q.1, rowI 8 Q.2.1, .inr (4, [.ref 4, .ref 5, .ref 6, .ref 7, .ref 8, .ref 9, .ref 10, .ref 11, .int (nI (P.2 0)), .int (nI (P.2 1)), .int (nI (P.2 2)), .int (nI (P.2 3))]), rowI 4 (P.1 0), rowI 8 (P.1 1), rowI 12 (P.1 2), rowI 12 (P.1 3), rowI 12 (P.1 4), rowI 12 (P.1 5), rowI 8 (P.1 6), rowI 8 (P.1 7)]
def ClothOK (Q : ClothT) : Prop := (∀ s, Q.1 s ≤ 9) ∧ (∀ a, Q.2.1 a < 4) ∧ Q.2.2.1 < 4096 ∧ Q.2.2.2 < 2 ^ 31
def thP (st : Nat → Nat) (w s : Nat) : Bool := decide (0 < st s) && decide (w ≤ st s)
def thF (st : Nat → Nat) (w : Nat) : Nat := bs 12 (thP st w)
theorem thF_lt (st : Nat → Nat) (w : Nat) : thF st w < 4096 := bs_lt _ 12
set_option maxHeartbeats 4000000 in
set_option maxRecDepth 20000 in
theorem ct_X1_holding (l : Launch) (Q : ClothT) (hQ : ClothOK Q) (w : Nat) (hw : w < 2 ^ 31) : Ct l 0 yX1_holding cX1_holding 4 (some .int) [.ref 0, .int (nI w)] (clothC 0 Q) (RV (.int (nI (thF Q.1 w))) (clothC 0 Q)) := by
  refine Ct.of (by decide) (Nat.le_of_ble_eq_true rfl) (fun K hC hR => ?_)
  show K 0 [(0, .ref 0), (1, .int (nI w))] [] _
  have h9 := hQ.1
  refine hC.iconst dX1_holding_0 (v := nI 0) rfl ?_
  refine hC.istore_n dX1_holding_1 (by decide) ?_
  refine hC.iconst dX1_holding_2 (v := nI 0) rfl ?_
  refine hC.istore_n dX1_holding_3 (by decide) ?_
  have loop : ∀ s, s ≤ 12 → K 4 [(0, .ref 0), (1, .int (nI w)), (2, .int (nI (bs s (thP Q.1 w)))), (3, .int (nI s))] [] (clothC 0 Q) := by
    refine loopUp1 _ 12 ?_ (fun s hs ih => ?_)
    · refine hC.iload_n dX1_holding_4 rfl ?_
      refine hC.bipush dX1_holding_5 (v := nI 12) rfl ?_
      refine hC.n_ge (by omega) (by omega) dX1_holding_7 (tgt := 41) rfl (fun c => ?_) (fun c => ?_)
      · refine hC.iload_n dX1_holding_41 rfl ?_
        exact hR.ireturn dX1_holding_42 ⟨rfl, rfl⟩
      · omega
    · have h9s := h9 s
      refine hC.iload_n dX1_holding_4 rfl ?_
      refine hC.bipush dX1_holding_5 (v := nI 12) rfl ?_
      refine hC.n_ge (by omega) (by omega) dX1_holding_7 (tgt := 41) rfl (fun c => ?_) (fun c => ?_)
      · omega
      · refine hC.aload_n dX1_holding_10 rfl ?_
        refine hC.getfield dX1_holding_11 lfX1_9 rfl rfl ?_
        refine hC.iload_n dX1_holding_14 rfl ?_
        refine hC.iaN dX1_holding_15 rfl ⟨by omega, by decide⟩ ?_
        refine hC.z_le (by omega) dX1_holding_16 (tgt := 35) rfl (fun c1 => ?_) (fun c1 => ?_)
        · refine hC.iinc dX1_holding_35 rfl (nI_1 _) (by decide) ?_
          refine hC.goto dX1_holding_38 (tgt := 4) rfl ?_
          rw [bs_f (show thP Q.1 w s = false by simp [thP, c1])] at ih
          exact hC.loc rfl ih
        · refine hC.aload_n dX1_holding_19 rfl ?_
          refine hC.getfield dX1_holding_20 lfX1_9 rfl rfl ?_
          refine hC.iload_n dX1_holding_23 rfl ?_
          refine hC.iaN dX1_holding_24 rfl ⟨by omega, by decide⟩ ?_
          refine hC.iload_n dX1_holding_25 rfl ?_
          refine hC.n_lt (by omega) (by omega) dX1_holding_26 (tgt := 35) rfl (fun c2 => ?_) (fun c2 => ?_)
          · refine hC.iinc dX1_holding_35 rfl (nI_1 _) (by decide) ?_
            refine hC.goto dX1_holding_38 (tgt := 4) rfl ?_
            rw [bs_f (show thP Q.1 w s = false by simp [thP]; omega)] at ih
            exact hC.loc rfl ih
          · refine hC.iload_n dX1_holding_29 rfl ?_
            refine hC.iconst dX1_holding_30 (v := nI 1) rfl ?_
            refine hC.iload_n dX1_holding_31 rfl ?_
            refine hC.ishl dX1_holding_32 ?_
            refine hC.ior dX1_holding_33 ?_
            refine hC.istore_n dX1_holding_34 (by decide) ?_
            refine hC.iinc dX1_holding_35 rfl (nI_1 _) (by decide) ?_
            refine hC.goto dX1_holding_38 (tgt := 4) rfl ?_
            rw [bs_t (show thP Q.1 w s = true by simp [thP]; omega)] at ih
            rw [nI_shl (by omega), nI_or, Nat.one_mul]
            exact hC.loc rfl ih
  exact hC.loc rfl (loop 0 (by omega))
set_option maxHeartbeats 4000000 in
set_option maxRecDepth 20000 in
theorem ct_X1_sewn (l : Launch) (Q : ClothT) (hQ : ClothOK Q) : Ct l 1 yX1_sewn cX1_sewn 1 (some .int) [.ref 0] (clothC 0 Q) (RV (.int (nI (thF Q.1 0))) (clothC 0 Q)) := by
  refine Ct.of (by decide) (Nat.le_of_ble_eq_true rfl) (fun K hC hR => ?_)
  show K 0 [(0, .ref 0)] [] _
  refine hC.aload_n dX1_sewn_0 rfl ?_
  refine hC.iconst dX1_sewn_1 (v := nI 0) rfl ?_
  refine hC.rdV [0, 1, 2] dX1_sewn_2 lmX1_37 mkX1_holding svX1_holding (ct_X1_holding l Q hQ 0 (by decide)) ⟨Nat.le_of_ble_eq_true rfl, Nat.le_of_ble_eq_true rfl⟩ rfl rfl (Nat.le_of_ble_eq_true rfl) ⟨by decide, rfl⟩ rfl rfl ?_
  exact hR.ireturn dX1_sewn_5 ⟨rfl, rfl⟩
def costF (Q : ClothT) (P : PlanT) : Nat → Nat := sm (fun a => priceF P (Q.2.1 a))
set_option maxHeartbeats 4000000 in
set_option maxRecDepth 20000 in
theorem ct_X1_cost (l : Launch) (Q : ClothT) (P : PlanT) (hQ : ClothOK Q) (hP : PlanOK P) : Ct l 2 yX1_cost cX1_cost 4 (some .int) [.ref 0, .ref 3] (clpW Q P) (RV (.int (nI (costF Q P (P.2 1)))) (clpW Q P)) := by
  refine Ct.of (by decide) (Nat.le_of_ble_eq_true rfl) (fun K hC hR => ?_)
  show K 0 [(0, .ref 0), (1, .ref 3)] [] _
  have h1 := hP.2.1
  refine hC.iconst dX1_cost_0 (v := nI 0) rfl ?_
  refine hC.istore_n dX1_cost_1 (by decide) ?_
  refine hC.iconst dX1_cost_2 (v := nI 0) rfl ?_
  refine hC.istore_n dX1_cost_3 (by decide) ?_
  have loop : ∀ s, s ≤ P.2 1 → K 4 [(0, .ref 0), (1, .ref 3), (2, .int (nI (costF Q P s))), (3, .int (nI s))] [] (clpW Q P) := by
    refine loopUp1 _ (P.2 1) ?_ (fun s hs ih => ?_)
    · refine hC.iload_n dX1_cost_4 rfl ?_
      refine hC.aload_n dX1_cost_5 rfl ?_
      refine hC.getfield dX1_cost_6 lfX1_41 rfl rfl ?_
      refine hC.n_ge (by omega) (by omega) dX1_cost_9 (tgt := 37) rfl (fun c => ?_) (fun c => ?_)
      · refine hC.iload_n dX1_cost_37 rfl ?_
        exact hR.ireturn dX1_cost_38 ⟨rfl, rfl⟩
      · omega
    · have h4 := hQ.2.1 s
      refine hC.iload_n dX1_cost_4 rfl ?_
      refine hC.aload_n dX1_cost_5 rfl ?_
      refine hC.getfield dX1_cost_6 lfX1_41 rfl rfl ?_
      refine hC.n_ge (by omega) (by omega) dX1_cost_9 (tgt := 37) rfl (fun c => ?_) (fun c => ?_)
      · omega
      · refine hC.iload_n dX1_cost_12 rfl ?_
        refine hC.bipush dX1_cost_13 (v := nI 8) rfl ?_
        refine hC.n_ge (by omega) (by omega) dX1_cost_15 (tgt := 37) rfl (fun c2 => ?_) (fun c2 => ?_)
        · omega
        · refine hC.iload_n dX1_cost_18 rfl ?_
          refine hC.aload_n dX1_cost_19 rfl ?_
          refine hC.aload_n dX1_cost_20 rfl ?_
          refine hC.getfield dX1_cost_21 lfX1_15 rfl rfl ?_
          refine hC.iload_n dX1_cost_24 rfl ?_
          refine hC.iaN dX1_cost_25 rfl ⟨by omega, by decide⟩ ?_
          refine hC.rdV [3, 4, 5, 6, 7, 8, 9, 10, 11] dX1_cost_26 lmX1_44 mkX4_priceOf svX4_priceOf (ct_X4_priceOf l P hP (Q.2.1 s) (by omega)) ⟨Nat.le_of_ble_eq_true rfl, Nat.le_of_ble_eq_true rfl⟩ rfl rfl (Nat.le_of_ble_eq_true rfl) ⟨by decide, rfl⟩ rfl rfl ?_
          refine hC.iadd dX1_cost_29 ?_
          refine hC.istore_n dX1_cost_30 (by decide) ?_
          refine hC.iinc dX1_cost_31 rfl (nI_1 _) (by decide) ?_
          refine hC.goto dX1_cost_34 (tgt := 4) rfl ?_
          rw [nI_add]
          exact hC.loc rfl ih
  exact hC.loc rfl (loop 0 (by omega))
def lsG (P : PlanT) (m a : Nat) : Nat := if cd (crossF P (2 ^ a) m) = 1 then crossF P (2 ^ a) m else 0
def lsF (P : PlanT) (m : Nat) : Nat := orF (lsG P m) (P.2 1)
theorem crossF_lt (P : PlanT) (n m : Nat) : crossF P n m < 4096 := bs_lt _ 12
theorem lsF_lt (P : PlanT) (m : Nat) : lsF P m < 4096 := orF_lt (k := 12) (fun a => by unfold lsG; split; exact crossF_lt P _ m; decide) _
theorem cd_le (a : Nat) : cd a ≤ 12 := cn_le _ 12
set_option maxHeartbeats 4000000 in
set_option maxRecDepth 20000 in
theorem ct_X1_looseSeams (l : Launch) (Q : ClothT) (P : PlanT) (hQ : ClothOK Q) (hP : PlanOK P) : Ct l 3 yX1_looseSeams cX1_looseSeams 6 (some .int) [.ref 0, .ref 3] (clpW Q P) (RV (.int (nI (lsF P (thF Q.1 0)))) (clpW Q P)) := by
  refine Ct.of (by decide) (Nat.le_of_ble_eq_true rfl) (fun K hC hR => ?_)
  show K 0 [(0, .ref 0), (1, .ref 3)] [] _
  have h1 := hP.2.1
  refine hC.aload_n dX1_looseSeams_0 rfl ?_
  refine hC.rdV [0, 1, 2] dX1_looseSeams_1 lmX1_61 mkX1_sewn svX1_sewn (ct_X1_sewn l Q hQ) ⟨Nat.le_of_ble_eq_true rfl, Nat.le_of_ble_eq_true rfl⟩ rfl rfl (Nat.le_of_ble_eq_true rfl) ⟨by decide, rfl⟩ rfl rfl ?_
  refine hC.istore_n dX1_looseSeams_4 (by decide) ?_
  refine hC.iconst dX1_looseSeams_5 (v := nI 0) rfl ?_
  refine hC.istore_n dX1_looseSeams_6 (by decide) ?_
  refine hC.iconst dX1_looseSeams_7 (v := nI 0) rfl ?_
  refine hC.istore dX1_looseSeams_8 (by decide) ?_
  have loop : ∀ s, s ≤ P.2 1 → K 10 [(0, .ref 0), (1, .ref 3), (2, .int (nI (thF Q.1 0))), (3, .int (nI (orF (lsG P (thF Q.1 0)) s))), (4, .int (nI s))] [] (clpW Q P) := by
    refine loopUp1 _ (P.2 1) ?_ (fun s hs ih => ?_)
    · refine hC.iload dX1_looseSeams_10 rfl ?_
      refine hC.aload_n dX1_looseSeams_12 rfl ?_
      refine hC.getfield dX1_looseSeams_13 lfX1_41 rfl rfl ?_
      refine hC.n_ge (by omega) (by omega) dX1_looseSeams_16 (tgt := 48) rfl (fun c => ?_) (fun c => ?_)
      · refine hC.iload_n dX1_looseSeams_48 rfl ?_
        exact hR.ireturn dX1_looseSeams_49 ⟨rfl, rfl⟩
      · omega
    · have hcd := cd_le (crossF P (2 ^ s) (thF Q.1 0))
      refine hC.iload dX1_looseSeams_10 rfl ?_
      refine hC.aload_n dX1_looseSeams_12 rfl ?_
      refine hC.getfield dX1_looseSeams_13 lfX1_41 rfl rfl ?_
      refine hC.n_ge (by omega) (by omega) dX1_looseSeams_16 (tgt := 48) rfl (fun c => ?_) (fun c => ?_)
      · omega
      · refine hC.aload_n dX1_looseSeams_19 rfl ?_
        refine hC.iload dX1_looseSeams_20 rfl ?_
        refine hC.iload_n dX1_looseSeams_22 rfl ?_
        refine hC.rdV [3, 4, 5, 6, 7, 8, 9, 10, 11] dX1_looseSeams_23 lmX1_65 mkX4_seamsOf svX4_seamsOf (ct_X4_seamsOf l P hP s (thF Q.1 0) (by omega) (thF_lt _ _)) ⟨Nat.le_of_ble_eq_true rfl, Nat.le_of_ble_eq_true rfl⟩ rfl rfl (Nat.le_of_ble_eq_true rfl) ⟨by decide, rfl⟩ rfl rfl ?_
        refine hC.istore dX1_looseSeams_26 (by decide) ?_
        refine hC.iload dX1_looseSeams_28 rfl ?_
        refine hC.rdS [] dX1_looseSeams_30 lmX1_68 mkJ_bitCount sxJ_bitCount (ct_J_bitCount l (crossF P (2 ^ s) (thF Q.1 0)) (crossF_lt _ _ _)) ⟨Nat.le_of_ble_eq_true rfl, Nat.le_of_ble_eq_true rfl⟩ rfl rfl (Nat.le_of_ble_eq_true rfl) ⟨by decide, rfl⟩ ?_
        refine hC.iconst dX1_looseSeams_33 (v := nI 1) rfl ?_
        refine hC.n_ne (by omega) (by omega) dX1_looseSeams_34 (tgt := 42) rfl (fun c2 => ?_) (fun c2 => ?_)
        · refine hC.iinc dX1_looseSeams_42 rfl (nI_1 _) (by decide) ?_
          refine hC.goto dX1_looseSeams_45 (tgt := 10) rfl ?_
          rw [show orF (lsG P (thF Q.1 0)) (s + 1) = orF (lsG P (thF Q.1 0)) s by simp [orF, lsG, c2]] at ih
          exact hC.loc rfl ih
        · refine hC.iload_n dX1_looseSeams_37 rfl ?_
          refine hC.iload dX1_looseSeams_38 rfl ?_
          refine hC.ior dX1_looseSeams_40 ?_
          refine hC.istore_n dX1_looseSeams_41 (by decide) ?_
          refine hC.iinc dX1_looseSeams_42 rfl (nI_1 _) (by decide) ?_
          refine hC.goto dX1_looseSeams_45 (tgt := 10) rfl ?_
          rw [show orF (lsG P (thF Q.1 0)) (s + 1) = orF (lsG P (thF Q.1 0)) s ||| crossF P (2 ^ s) (thF Q.1 0) by simp [orF, lsG, c2]] at ih
          rw [nI_or]
          exact hC.loc rfl ih
  exact hC.loc rfl (loop 0 (by omega))
