/-! StripFlag.has, and StripFlag$Plan: what a text told; its methods that only read -/
set_option maxHeartbeats 4000000 in
set_option maxRecDepth 20000 in
theorem ct_X8_has (l : Launch) (n k : Nat) (hn : n < 2 ^ 31) (hk : k < 32) : Ct l 0 yX8_has cX8_has 2 (some .boolean) [.int (nI n), .int (nI k)] ([]) (RV (.int (nI (n.testBit k).toNat)) []) := by
  refine Ct.of (by decide) (Nat.le_of_ble_eq_true rfl) (fun K hC hR => ?_)
  show K 0 [(0, .int (nI n)), (1, .int (nI k))] [] _
  refine hC.iload_n dX8_has_0 rfl ?_
  refine hC.iload_n dX8_has_1 rfl ?_
  refine hC.ishr dX8_has_2 ?_
  refine hC.iconst dX8_has_3 (v := nI 1) rfl ?_
  refine hC.iand dX8_has_4 ?_
  rw [nI_one_and hn hk]
  cases hb : n.testBit k
  · refine hC.if_eq dX8_has_5 (tgt := 12) rfl (fun c => ?_) (fun c => ?_)
    · refine hC.iconst dX8_has_12 (v := nI 0) rfl ?_
      exact hR.zreturn dX8_has_13 (by decide) ⟨by rw [hb] <;> rfl, rfl⟩
    · exact absurd rfl c
  · refine hC.if_eq dX8_has_5 (tgt := 12) rfl (fun c => ?_) (fun c => ?_)
    · exact absurd c (by decide)
    · refine hC.iconst dX8_has_8 (v := nI 1) rfl ?_
      refine hC.goto dX8_has_9 (tgt := 13) rfl ?_
      exact hR.zreturn dX8_has_13 (by decide) ⟨by rw [hb] <;> rfl, rfl⟩
/-- the numbers of a Plan: rows prices, dyes, from, to, strengths, ends, couldEnds, threads; counts colours, strips, seams, coulds -/
abbrev PlanT : Type := (Nat → Nat → Nat) × (Nat → Nat)
abbrev rowI (n : Nat) (f : Nat → Nat) : va_E := .inl (0, n, .inl (fun j => nI (f j)))
abbrev planW (P : PlanT) : List va_E := [.inr (4, [.ref 1, .ref 2, .ref 3, .ref 4, .ref 5, .ref 6, .ref 7, .ref 8, .int (nI (P.2 0)), .int (nI (P.2 1)), .int (nI (P.2 2)), .int (nI (P.2 3))]), rowI 4 (P.1 0), rowI 8 (P.1 1), rowI 12 (P.1 2), rowI 12 (P.1 3), rowI 12 (P.1 4), rowI 12 (P.1 5), rowI 8 (P.1 6), rowI 8 (P.1 7)]
def PlanOK (P : PlanT) : Prop := P.2 0 ≤ 4 ∧ P.2 1 ≤ 8 ∧ P.2 2 ≤ 12 ∧ P.2 3 ≤ 8 ∧ (∀ s, P.1 5 s < 512) ∧ (∀ s, P.1 6 s < 512) ∧ (∀ s, P.1 0 s ≤ 99) ∧ (∀ s, P.1 7 s ≤ 99)
/-- a number of a call is one of the first n -/
def inB (x : Int32) (n : Nat) : Bool := decide (0 ≤ x.toInt ∧ x.toInt < (n : Int))
theorem inB_nI {j n : Nat} (hj : j < 2 ^ 31) : inB (nI j) n = decide (j < n) := by
  unfold inB
  rw [nI_toInt hj]
  by_cases h : j < n
  · simp [h]
  · simp [h]
theorem inB_of {x : Int32} {n : Nat} (h : inB x n = true) (hn : n < 2 ^ 31) : ∃ j, j < n ∧ x = nI j := vp_in_of (vp_in_iff.mpr (of_decide_eq_true h)) hn
theorem lt0_iff (x : Int32) : x < 0 ↔ x.toInt < 0 := by rw [Int32.lt_iff_toInt_lt, Int32.toInt_zero]
theorem le_nI_iff (x : Int32) {n : Nat} (hn : n < 2 ^ 31) : nI n ≤ x ↔ (n : Int) ≤ x.toInt := by rw [Int32.le_iff_toInt_le, nI_toInt hn]
set_option maxHeartbeats 4000000 in
set_option maxRecDepth 20000 in
theorem ct_X4_hasStrip (l : Launch) (P : PlanT) (hP : P.2 1 ≤ 8) (x : Int32) : Ct l 0 yX4_hasStrip cX4_hasStrip 2 (some .boolean) [.ref 0, .int x] (planW P) (RV (.int (nI (inB x (P.2 1)).toNat)) (planW P)) := by
  refine Ct.of (by decide) (Nat.le_of_ble_eq_true rfl) (fun K hC hR => ?_)
  show K 0 [(0, .ref 0), (1, .int x)] [] _
  have hN : P.2 1 < 2 ^ 31 := by omega
  have hl1 := lt0_iff x
  have hl2 := le_nI_iff x hN
  have hl3 := le_nI_iff x (n := 8) (by decide)
  refine hC.iload_n dX4_hasStrip_0 rfl ?_
  refine hC.if_lt dX4_hasStrip_1 (tgt := 22) rfl (fun c1 => ?_) (fun c1 => ?_)
  · have e : inB x (P.2 1) = false := by unfold inB; simp only [hl1] at c1; simp; omega
    refine hC.iconst dX4_hasStrip_22 (v := nI 0) rfl ?_
    exact hR.zreturn dX4_hasStrip_23 (by decide) ⟨by rw [e] <;> rfl, rfl⟩
  · refine hC.iload_n dX4_hasStrip_4 rfl ?_
    refine hC.aload_n dX4_hasStrip_5 rfl ?_
    refine hC.getfield dX4_hasStrip_6 lfX4_40 rfl rfl ?_
    refine hC.icmp_ge dX4_hasStrip_9 (tgt := 22) rfl (fun c2 => ?_) (fun c2 => ?_)
    · have e : inB x (P.2 1) = false := by unfold inB; simp only [hl2] at c2; simp; omega
      refine hC.iconst dX4_hasStrip_22 (v := nI 0) rfl ?_
      exact hR.zreturn dX4_hasStrip_23 (by decide) ⟨by rw [e] <;> rfl, rfl⟩
    · refine hC.iload_n dX4_hasStrip_12 rfl ?_
      refine hC.bipush dX4_hasStrip_13 (v := nI 8) rfl ?_
      refine hC.icmp_ge dX4_hasStrip_15 (tgt := 22) rfl (fun c3 => ?_) (fun c3 => ?_)
      · have e : inB x (P.2 1) = false := by unfold inB; simp only [hl3] at c3; simp; omega
        refine hC.iconst dX4_hasStrip_22 (v := nI 0) rfl ?_
        exact hR.zreturn dX4_hasStrip_23 (by decide) ⟨by rw [e] <;> rfl, rfl⟩
      · have e : inB x (P.2 1) = true := by unfold inB; simp only [hl1] at c1; simp only [hl2] at c2; simp; omega
        refine hC.iconst dX4_hasStrip_18 (v := nI 1) rfl ?_
        refine hC.goto dX4_hasStrip_19 (tgt := 23) rfl ?_
        exact hR.zreturn dX4_hasStrip_23 (by decide) ⟨by rw [e] <;> rfl, rfl⟩
set_option maxHeartbeats 4000000 in
set_option maxRecDepth 20000 in
theorem ct_X4_hasSeam (l : Launch) (P : PlanT) (hP : P.2 2 ≤ 12) (x : Int32) : Ct l 0 yX4_hasSeam cX4_hasSeam 2 (some .boolean) [.ref 0, .int x] (planW P) (RV (.int (nI (inB x (P.2 2)).toNat)) (planW P)) := by
  refine Ct.of (by decide) (Nat.le_of_ble_eq_true rfl) (fun K hC hR => ?_)
  show K 0 [(0, .ref 0), (1, .int x)] [] _
  have hN : P.2 2 < 2 ^ 31 := by omega
  have hl1 := lt0_iff x
  have hl2 := le_nI_iff x hN
  have hl3 := le_nI_iff x (n := 12) (by decide)
  refine hC.iload_n dX4_hasSeam_0 rfl ?_
  refine hC.if_lt dX4_hasSeam_1 (tgt := 22) rfl (fun c1 => ?_) (fun c1 => ?_)
  · have e : inB x (P.2 2) = false := by unfold inB; simp only [hl1] at c1; simp; omega
    refine hC.iconst dX4_hasSeam_22 (v := nI 0) rfl ?_
    exact hR.zreturn dX4_hasSeam_23 (by decide) ⟨by rw [e] <;> rfl, rfl⟩
  · refine hC.iload_n dX4_hasSeam_4 rfl ?_
    refine hC.aload_n dX4_hasSeam_5 rfl ?_
    refine hC.getfield dX4_hasSeam_6 lfX4_43 rfl rfl ?_
    refine hC.icmp_ge dX4_hasSeam_9 (tgt := 22) rfl (fun c2 => ?_) (fun c2 => ?_)
    · have e : inB x (P.2 2) = false := by unfold inB; simp only [hl2] at c2; simp; omega
      refine hC.iconst dX4_hasSeam_22 (v := nI 0) rfl ?_
      exact hR.zreturn dX4_hasSeam_23 (by decide) ⟨by rw [e] <;> rfl, rfl⟩
    · refine hC.iload_n dX4_hasSeam_12 rfl ?_
      refine hC.bipush dX4_hasSeam_13 (v := nI 12) rfl ?_
      refine hC.icmp_ge dX4_hasSeam_15 (tgt := 22) rfl (fun c3 => ?_) (fun c3 => ?_)
      · have e : inB x (P.2 2) = false := by unfold inB; simp only [hl3] at c3; simp; omega
        refine hC.iconst dX4_hasSeam_22 (v := nI 0) rfl ?_
        exact hR.zreturn dX4_hasSeam_23 (by decide) ⟨by rw [e] <;> rfl, rfl⟩
      · have e : inB x (P.2 2) = true := by unfold inB; simp only [hl1] at c1; simp only [hl2] at c2; simp; omega
        refine hC.iconst dX4_hasSeam_18 (v := nI 1) rfl ?_
        refine hC.goto dX4_hasSeam_19 (tgt := 23) rfl ?_
        exact hR.zreturn dX4_hasSeam_23 (by decide) ⟨by rw [e] <;> rfl, rfl⟩
set_option maxHeartbeats 4000000 in
set_option maxRecDepth 20000 in
theorem ct_X4_hasColour (l : Launch) (P : PlanT) (hP : P.2 0 ≤ 4) (x : Int32) : Ct l 0 yX4_hasColour cX4_hasColour 2 (some .boolean) [.ref 0, .int x] (planW P) (RV (.int (nI (inB x (P.2 0)).toNat)) (planW P)) := by
  refine Ct.of (by decide) (Nat.le_of_ble_eq_true rfl) (fun K hC hR => ?_)
  show K 0 [(0, .ref 0), (1, .int x)] [] _
  have hN : P.2 0 < 2 ^ 31 := by omega
  have hl1 := lt0_iff x
  have hl2 := le_nI_iff x hN
  have hl3 := le_nI_iff x (n := 4) (by decide)
  refine hC.iload_n dX4_hasColour_0 rfl ?_
  refine hC.if_lt dX4_hasColour_1 (tgt := 21) rfl (fun c1 => ?_) (fun c1 => ?_)
  · have e : inB x (P.2 0) = false := by unfold inB; simp only [hl1] at c1; simp; omega
    refine hC.iconst dX4_hasColour_21 (v := nI 0) rfl ?_
    exact hR.zreturn dX4_hasColour_22 (by decide) ⟨by rw [e] <;> rfl, rfl⟩
  · refine hC.iload_n dX4_hasColour_4 rfl ?_
    refine hC.aload_n dX4_hasColour_5 rfl ?_
    refine hC.getfield dX4_hasColour_6 lfX4_36 rfl rfl ?_
    refine hC.icmp_ge dX4_hasColour_9 (tgt := 21) rfl (fun c2 => ?_) (fun c2 => ?_)
    · have e : inB x (P.2 0) = false := by unfold inB; simp only [hl2] at c2; simp; omega
      refine hC.iconst dX4_hasColour_21 (v := nI 0) rfl ?_
      exact hR.zreturn dX4_hasColour_22 (by decide) ⟨by rw [e] <;> rfl, rfl⟩
    · refine hC.iload_n dX4_hasColour_12 rfl ?_
      refine hC.iconst dX4_hasColour_13 (v := nI 4) rfl ?_
      refine hC.icmp_ge dX4_hasColour_14 (tgt := 21) rfl (fun c3 => ?_) (fun c3 => ?_)
      · have e : inB x (P.2 0) = false := by unfold inB; simp only [hl3] at c3; simp; omega
        refine hC.iconst dX4_hasColour_21 (v := nI 0) rfl ?_
        exact hR.zreturn dX4_hasColour_22 (by decide) ⟨by rw [e] <;> rfl, rfl⟩
      · have e : inB x (P.2 0) = true := by unfold inB; simp only [hl1] at c1; simp only [hl2] at c2; simp; omega
        refine hC.iconst dX4_hasColour_17 (v := nI 1) rfl ?_
        refine hC.goto dX4_hasColour_18 (tgt := 22) rfl ?_
        exact hR.zreturn dX4_hasColour_22 (by decide) ⟨by rw [e] <;> rfl, rfl⟩
/-- the seams among m that cross from the side n -/
def crossP (P : PlanT) (n m s : Nat) : Bool := m.testBit s && (decide (P.1 5 s &&& n ≠ 0) && decide (andn (P.1 5 s) n ≠ 0))
def crossF (P : PlanT) (n m : Nat) : Nat := bs 12 (crossP P n m)
set_option maxHeartbeats 4000000 in
set_option maxRecDepth 20000 in
theorem ct_X4_crossing (l : Launch) (P : PlanT) (hP : PlanOK P) (n m : Nat) (hm : m < 4096) : Ct l 1 yX4_crossing cX4_crossing 5 (some .int) [.ref 0, .int (nI n), .int (nI m)] (planW P) (RV (.int (nI (crossF P n m))) (planW P)) := by
  refine Ct.of (by decide) (Nat.le_of_ble_eq_true rfl) (fun K hC hR => ?_)
  show K 0 [(0, .ref 0), (1, .int (nI n)), (2, .int (nI m))] [] _
  have hE := hP.2.2.2.2.1
  refine hC.iconst dX4_crossing_0 (v := nI 0) rfl ?_
  refine hC.istore_n dX4_crossing_1 (by decide) ?_
  refine hC.iconst dX4_crossing_2 (v := nI 0) rfl ?_
  refine hC.istore dX4_crossing_3 (by decide) ?_
  have loop : ∀ s, s ≤ 12 → K 5 [(0, .ref 0), (1, .int (nI n)), (2, .int (nI m)), (3, .int (nI (bs s (crossP P n m)))), (4, .int (nI s))] [] (planW P) := by
    refine loopUp1 _ 12 ?_ (fun s hs ih => ?_)
    · refine hC.iload dX4_crossing_5 rfl ?_
      refine hC.bipush dX4_crossing_7 (v := nI 12) rfl ?_
      refine hC.n_ge (by omega) (by omega) dX4_crossing_9 (tgt := 60) rfl (fun c => ?_) (fun c => ?_)
      · refine hC.iload_n dX4_crossing_60 rfl ?_
        exact hR.ireturn dX4_crossing_61 ⟨rfl, rfl⟩
      · omega
    · have hs2 := Nat.lt_trans (hE s) (show 512 < 2 ^ 31 by decide)
      refine hC.iload dX4_crossing_5 rfl ?_
      refine hC.bipush dX4_crossing_7 (v := nI 12) rfl ?_
      refine hC.n_ge (by omega) (by omega) dX4_crossing_9 (tgt := 60) rfl (fun c => ?_) (fun c => ?_)
      · omega
      · refine hC.iload_n dX4_crossing_12 rfl ?_
        refine hC.iload dX4_crossing_13 rfl ?_
        refine hC.rdSN [] dX4_crossing_15 lnX4_66 mkX8_has sxX8_has (ct_X8_has l m s (by omega) (by omega)) ⟨Nat.le_of_ble_eq_true rfl, Nat.le_of_ble_eq_true rfl⟩ rfl rfl (Nat.le_of_ble_eq_true rfl) ⟨by decide, rfl⟩ ?_
        refine hC.bz dX4_crossing_18 (tgt := 54) rfl (fun c1 => ?_) (fun c1 => ?_)
        · refine hC.iinc dX4_crossing_54 rfl (nI_1 _) (by decide) ?_
          refine hC.goto dX4_crossing_57 (tgt := 5) rfl ?_
          rw [bs_f (show crossP P n m s = false by simp [crossP, c1])] at ih
          exact hC.loc rfl ih
        · refine hC.aload_n dX4_crossing_21 rfl ?_
          refine hC.getfield dX4_crossing_22 lfX4_27 rfl rfl ?_
          refine hC.iload dX4_crossing_25 rfl ?_
          refine hC.iaN dX4_crossing_27 rfl ⟨by omega, by decide⟩ ?_
          refine hC.iload_n dX4_crossing_28 rfl ?_
          refine hC.iand dX4_crossing_29 ?_
          rw [nI_and]
          refine hC.nz (and_b hs2) dX4_crossing_30 (tgt := 54) rfl (fun c2 => ?_) (fun c2 => ?_)
          · refine hC.iinc dX4_crossing_54 rfl (nI_1 _) (by decide) ?_
            refine hC.goto dX4_crossing_57 (tgt := 5) rfl ?_
            rw [bs_f (show crossP P n m s = false by simp [crossP, c2])] at ih
            exact hC.loc rfl ih
          · refine hC.aload_n dX4_crossing_33 rfl ?_
            refine hC.getfield dX4_crossing_34 lfX4_27 rfl rfl ?_
            refine hC.iload dX4_crossing_37 rfl ?_
            refine hC.iaN dX4_crossing_39 rfl ⟨by omega, by decide⟩ ?_
            refine hC.iload_n dX4_crossing_40 rfl ?_
            refine hC.iconst dX4_crossing_41 (v := (-1)) rfl ?_
            refine hC.ixor dX4_crossing_42 ?_
            refine hC.iand dX4_crossing_43 ?_
            rw [nI_andn]
            refine hC.nz (andn_b hs2) dX4_crossing_44 (tgt := 54) rfl (fun c3 => ?_) (fun c3 => ?_)
            · refine hC.iinc dX4_crossing_54 rfl (nI_1 _) (by decide) ?_
              refine hC.goto dX4_crossing_57 (tgt := 5) rfl ?_
              rw [bs_f (show crossP P n m s = false by simp [crossP, c3])] at ih
              exact hC.loc rfl ih
            · refine hC.iload_n dX4_crossing_47 rfl ?_
              refine hC.iconst dX4_crossing_48 (v := nI 1) rfl ?_
              refine hC.iload dX4_crossing_49 rfl ?_
              refine hC.ishl dX4_crossing_51 ?_
              refine hC.ior dX4_crossing_52 ?_
              refine hC.istore_n dX4_crossing_53 (by decide) ?_
              refine hC.iinc dX4_crossing_54 rfl (nI_1 _) (by decide) ?_
              refine hC.goto dX4_crossing_57 (tgt := 5) rfl ?_
              rw [bs_t (show crossP P n m s = true by simp [crossP, c1, c2, c3])] at ih
              rw [nI_shl (by omega), nI_or, Nat.one_mul]
              exact hC.loc rfl ih
  exact hC.loc rfl (loop 0 (by omega))
