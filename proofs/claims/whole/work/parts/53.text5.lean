/-! StripFlag$Text: readClause, read -/
set_option maxHeartbeats 4000000 in
set_option maxRecDepth 20000 in
theorem ct_X5_readClause (l : Launch) (g : Nat → Int32) (t : Nat → Nat) (n q i b : Nat) (P : PlanT) (T : ToldT) (hn : n ≤ 500) (ht : txB g t n) (hi : i ≤ n) (hx : PlX P) (hT : tdP P T) (hc : TC T) : Ct l 6 yX5_readClause cX5_readClause 4 none [.ref 0, .ref 2] (tpW g n 0 q i b P) (fun r h2 => r = none ∧ clX g n q (clT t n T i) h2) := by
  refine Ct.of (by decide) (Nat.le_of_ble_eq_true rfl) (fun K hC hR => ?_)
  show K 0 [(0, .ref 0), (1, .ref 2)] [] _
  have hel := sc_le (p := ltB t) hi
  have hwc := wcF_cases t i (sc (ltB t) n i)
  have hcl : clT t n T i = if wcF t i (sc (ltB t) n i) = NN ∨ (wcF t i (sc (ltB t) n i) ≠ 0 ∧ T.2 0 = 0) then .error (1, i) else if (wcF t i (sc (ltB t) n i) = 0 ∧ T.2 0 ≠ 0) ∨ (wcF t i (sc (ltB t) n i) = 1 ∧ T.2 1 = 8) ∨ ((wcF t i (sc (ltB t) n i) = 2 ∨ wcF t i (sc (ltB t) n i) = 3) ∧ T.2 2 = 12) ∨ (wcF t i (sc (ltB t) n i) = 4 ∧ T.2 3 = 8) then .error (3, i) else if wcF t i (sc (ltB t) n i) = 0 then coT t n 4 T (sc (ltB t) n i) else if wcF t i (sc (ltB t) n i) = 1 then stT t n T (sc (ltB t) n i) else seT t n T (wcF t i (sc (ltB t) n i)) (sc (ltB t) n i) := rfl
  refine hC.aload_n dX5_readClause_0 rfl ?_
  refine hC.getfield dX5_readClause_1 lfX5_30 rfl rfl ?_
  refine hC.istore_n dX5_readClause_4 (by decide) ?_
  refine hC.aload_n dX5_readClause_5 rfl ?_
  refine hC.wrV (hs2 := tpW g n 0 q (sc (ltB t) n i) b P) [0, 1] dX5_readClause_6 lmX5_44 mkX5_readWord svX5_readWord (ct_X5_readWord l g t n 0 q i b hn ht hi) ⟨Nat.le_of_ble_eq_true rfl, Nat.le_of_ble_eq_true rfl⟩ rfl rfl (Nat.le_of_ble_eq_true rfl) ⟨by decide, rfl⟩ rfl rfl rfl ?_
  generalize sc (ltB t) n i = e at hel hwc hcl ⊢
  generalize wcF t i e = wd at hwc hcl ⊢
  obtain ⟨C, hCg⟩ : ∃ C, clT t n T i = C := ⟨_, rfl⟩
  rw [hCg] at hcl hR
  have p0 := hT.1 0 (by decide)
  have p1 := hT.1 1 (by decide)
  have p2 := hT.1 2 (by decide)
  have p3 := hT.1 3 (by decide)
  obtain ⟨hc0, hc1, hc2, hc3⟩ := id hc
  have hend : ∀ (ls : AL) (h2 : List va_E), clX g n q C h2 → K 71 ls [] h2 := by
    intro ls h2 hs
    exact hR.return_ dX5_readClause_71 ⟨rfl, hs⟩
  have kf1 : C = .error (1, i) → ∀ x3, K 26 [(0, .ref 0), (1, .ref 2), (2, .int (nI i)), (3, .int x3)] [] (tpW g n 0 q e b P) := by
    intro hce x3
    rw [hce] at hend
    refine hC.aload_n dX5_readClause_26 rfl ?_
    refine hC.iconst dX5_readClause_27 (v := nI 1) rfl ?_
    refine hC.iload_n dX5_readClause_28 rfl ?_
    refine hC.wuV (hs2 := tpW g n 1 i e b P) [0, 1] dX5_readClause_29 lmX5_50 mkX5_fail svX5_fail (ct_X5_fail l g n 0 q e b 1 i (by omega)) ⟨Nat.le_of_ble_eq_true rfl, Nat.le_of_ble_eq_true rfl⟩ rfl rfl (Nat.le_of_ble_eq_true rfl) ⟨by decide, rfl⟩ rfl rfl rfl ?_
    refine hC.goto dX5_readClause_32 (tgt := 71) rfl ?_
    exact hend _ _ ⟨P, e, b, by decide, by decide, hel, hx, rfl⟩
  have k35 : ∀ W, (W = 1 ∨ W = 2 ∨ W = 3 ∨ W = 4 ∨ W = 5) → (tmB P W = true → C = .error (3, i)) → (tmB P W = false → W = 1 → T.2 0 = 0 ∧ C = coT t n 4 T e) → (tmB P W = false → W ≠ 1 → C = rnT t n T W e ∧ (W = 2 → T.2 1 < 8) ∧ (W = 3 ∨ W = 4 → T.2 2 < 12) ∧ (W = 5 → T.2 3 < 8)) → K 35 [(0, .ref 0), (1, .ref 2), (2, .int (nI i)), (3, .int (nI W))] [] (tpW g n 0 q e b P) := by
    intro W hW h1 h2 h3
    refine hC.aload_n dX5_readClause_35 rfl ?_
    refine hC.iload_n dX5_readClause_36 rfl ?_
    refine hC.rdS [2, 3, 4, 5, 6, 7, 8, 9, 10] dX5_readClause_37 lmX5_54 mkX5_isTooMany sxX5_isTooMany (ct_X5_isTooMany l P W hW (by omega) (by omega) (by omega) (by omega)) ⟨Nat.le_of_ble_eq_true rfl, Nat.le_of_ble_eq_true rfl⟩ rfl rfl (Nat.le_of_ble_eq_true rfl) ⟨by decide, rfl⟩ ?_
    refine hC.bz dX5_readClause_40 (tgt := 52) rfl (fun c => ?_) (fun c => ?_)
    · refine hC.iload_n dX5_readClause_52 rfl ?_
      refine hC.iconst dX5_readClause_53 (v := nI 1) rfl ?_
      refine hC.n_ne (by omega) (by omega) dX5_readClause_54 (tgt := 65) rfl (fun c2 => ?_) (fun c2 => ?_)
      · obtain ⟨g1, g2, g3, g4⟩ := h3 c c2
        refine hC.aload_n dX5_readClause_65 rfl ?_
        refine hC.aload_n dX5_readClause_66 rfl ?_
        refine hC.iload_n dX5_readClause_67 rfl ?_
        refine hC.callV [0, 1, 2, 3, 4, 5, 6, 7, 8, 9, 10] dX5_readClause_68 lmX5_61 mkX5_readNumbers svX5_readNumbers (ct_X5_readNumbers l g t n q e b W P T hn ht hel hx hT hc (by omega) g2 g3 g4) ⟨Nat.le_of_ble_eq_true rfl, Nat.le_of_ble_eq_true rfl⟩ rfl rfl (Nat.le_of_ble_eq_true rfl) ⟨by decide, rfl⟩ rfl rfl (fun r hc2 hp hl => ?_)
        obtain ⟨rfl, hp⟩ := hp
        rw [← g1] at hp
        have hlen : hc2.length = 11 := hl
        have hid : pb [0, 1, 2, 3, 4, 5, 6, 7, 8, 9, 10] (hc2.map (te (fun t => t) (rn [0, 1, 2, 3, 4, 5, 6, 7, 8, 9, 10]))) (tpW g n 0 q e b P) = hc2 := by
          cases hCc : C with
          | error x =>
            obtain ⟨k, p⟩ := x
            rw [hCc] at hp
            obtain ⟨P2, i2, b2, -, -, -, -, rfl⟩ := hp
            rfl
          | ok y =>
            obtain ⟨T2, i2⟩ := y
            rw [hCc] at hp
            obtain ⟨P2, b2, -, -, -, -, rfl⟩ := hp
            rfl
        rw [hid]
        exact hend _ _ hp
      · obtain ⟨g1, g2⟩ := h2 c c2
        refine hC.aload_n dX5_readClause_57 rfl ?_
        refine hC.aload_n dX5_readClause_58 rfl ?_
        refine hC.callV [0, 1, 2, 3, 4, 5, 6, 7, 8, 9, 10] dX5_readClause_59 lmX5_58 mkX5_readColours svX5_readColours (ct_X5_readColours l g t n q e b P T hn ht hel hx hT g1 hc) ⟨Nat.le_of_ble_eq_true rfl, Nat.le_of_ble_eq_true rfl⟩ rfl rfl (Nat.le_of_ble_eq_true rfl) ⟨by decide, rfl⟩ rfl rfl (fun r hc2 hp hl => ?_)
        obtain ⟨rfl, hp⟩ := hp
        rw [← g2] at hp
        have hid : pb [0, 1, 2, 3, 4, 5, 6, 7, 8, 9, 10] (hc2.map (te (fun t => t) (rn [0, 1, 2, 3, 4, 5, 6, 7, 8, 9, 10]))) (tpW g n 0 q e b P) = hc2 := by
          cases hCc : C with
          | error x =>
            obtain ⟨k, p⟩ := x
            rw [hCc] at hp
            obtain ⟨P2, i2, b2, -, -, -, -, rfl⟩ := hp
            rfl
          | ok y =>
            obtain ⟨T2, i2⟩ := y
            rw [hCc] at hp
            obtain ⟨P2, b2, -, -, -, -, rfl⟩ := hp
            rfl
        rw [hid]
        refine hC.goto dX5_readClause_62 (tgt := 71) rfl ?_
        exact hend _ _ hp
    · have hC3 := h1 c
      rw [hC3] at hend
      refine hC.aload_n dX5_readClause_43 rfl ?_
      refine hC.iconst dX5_readClause_44 (v := nI 3) rfl ?_
      refine hC.iload_n dX5_readClause_45 rfl ?_
      refine hC.wuV (hs2 := tpW g n 3 i e b P) [0, 1] dX5_readClause_46 lmX5_50 mkX5_fail svX5_fail (ct_X5_fail l g n 0 q e b 3 i (by omega)) ⟨Nat.le_of_ble_eq_true rfl, Nat.le_of_ble_eq_true rfl⟩ rfl rfl (Nat.le_of_ble_eq_true rfl) ⟨by decide, rfl⟩ rfl rfl rfl ?_
      refine hC.goto dX5_readClause_49 (tgt := 71) rfl ?_
      exact hend _ _ ⟨P, e, b, by decide, by decide, hel, hx, rfl⟩
  refine hC.istore_n dX5_readClause_9 (by decide) ?_
  refine hC.iload_n dX5_readClause_10 rfl ?_
  rcases hwc with rfl | rfl | rfl | rfl | rfl | rfl
  · rw [if_pos (Or.inl rfl)] at hcl
    refine hC.if_eq dX5_readClause_11 (tgt := 26) rfl (fun _ => ?_) (fun c => absurd (by decide) c)
    exact hC.loc rfl (kf1 hcl _)
  · rw [if_neg (fun z => z.elim (fun z => absurd z (by decide)) (fun z => z.1 rfl))] at hcl
    refine hC.if_eq dX5_readClause_11 (tgt := 26) rfl (fun c => absurd c (by decide)) (fun _ => ?_)
    refine hC.iload_n dX5_readClause_14 rfl ?_
    refine hC.iconst dX5_readClause_15 (v := nI 1) rfl ?_
    refine hC.icmp_eq dX5_readClause_16 (tgt := 35) rfl (fun _ => ?_) (fun c => absurd (by decide) c)
    refine hC.loc rfl (k35 1 (by omega) (fun h => ?_) (fun h _ => ?_) (fun _ z => absurd rfl z))
    · have h := of_decide_eq_true h
      rw [hcl, if_pos (Or.inl ⟨rfl, by omega⟩)]
    · have h := of_decide_eq_false h
      rw [hcl, if_neg (by omega), if_pos rfl]
      exact ⟨by omega, rfl⟩
  · by_cases h0 : T.2 0 = 0
    · rw [if_pos (Or.inr ⟨by decide, h0⟩)] at hcl
      refine hC.if_eq dX5_readClause_11 (tgt := 26) rfl (fun c => absurd c (by decide)) (fun _ => ?_)
      refine hC.iload_n dX5_readClause_14 rfl ?_
      refine hC.iconst dX5_readClause_15 (v := nI 1) rfl ?_
      refine hC.icmp_eq dX5_readClause_16 (tgt := 35) rfl (fun c => absurd c (by decide)) (fun _ => ?_)
      refine hC.aload_n dX5_readClause_19 rfl ?_
      refine hC.getfield dX5_readClause_20 lfX5_47 rfl rfl ?_
      refine hC.nnz (x := P.2 0) (by omega) dX5_readClause_23 (tgt := 35) rfl (fun c => absurd (p0.trans h0) c) (fun _ => ?_)
      exact hC.loc rfl (kf1 hcl _)
    · rw [if_neg (fun z => z.elim (fun z => absurd z (by decide)) (fun z => h0 z.2))] at hcl
      refine hC.if_eq dX5_readClause_11 (tgt := 26) rfl (fun c => absurd c (by decide)) (fun _ => ?_)
      refine hC.iload_n dX5_readClause_14 rfl ?_
      refine hC.iconst dX5_readClause_15 (v := nI 1) rfl ?_
      refine hC.icmp_eq dX5_readClause_16 (tgt := 35) rfl (fun c => absurd c (by decide)) (fun _ => ?_)
      refine hC.aload_n dX5_readClause_19 rfl ?_
      refine hC.getfield dX5_readClause_20 lfX5_47 rfl rfl ?_
      refine hC.nnz (x := P.2 0) (by omega) dX5_readClause_23 (tgt := 35) rfl (fun _ => ?_) (fun c => absurd (p0.symm.trans c) h0)
      refine hC.loc rfl (k35 2 (by omega) (fun h => ?_) (fun _ z => absurd z (by decide)) (fun h _ => ?_))
      · have h := of_decide_eq_true (show decide (8 ≤ P.2 1) = true from h)
        rw [hcl, if_pos (Or.inr (Or.inl ⟨rfl, by omega⟩))]
      · have h := of_decide_eq_false (show decide (8 ≤ P.2 1) = false from h)
        rw [hcl, if_neg (by omega), if_neg (by decide), if_pos rfl]
        exact ⟨rfl, fun _ => by omega, fun z => by omega, fun z => by omega⟩
  · by_cases h0 : T.2 0 = 0
    · rw [if_pos (Or.inr ⟨by decide, h0⟩)] at hcl
      refine hC.if_eq dX5_readClause_11 (tgt := 26) rfl (fun c => absurd c (by decide)) (fun _ => ?_)
      refine hC.iload_n dX5_readClause_14 rfl ?_
      refine hC.iconst dX5_readClause_15 (v := nI 1) rfl ?_
      refine hC.icmp_eq dX5_readClause_16 (tgt := 35) rfl (fun c => absurd c (by decide)) (fun _ => ?_)
      refine hC.aload_n dX5_readClause_19 rfl ?_
      refine hC.getfield dX5_readClause_20 lfX5_47 rfl rfl ?_
      refine hC.nnz (x := P.2 0) (by omega) dX5_readClause_23 (tgt := 35) rfl (fun c => absurd (p0.trans h0) c) (fun _ => ?_)
      exact hC.loc rfl (kf1 hcl _)
    · rw [if_neg (fun z => z.elim (fun z => absurd z (by decide)) (fun z => h0 z.2))] at hcl
      refine hC.if_eq dX5_readClause_11 (tgt := 26) rfl (fun c => absurd c (by decide)) (fun _ => ?_)
      refine hC.iload_n dX5_readClause_14 rfl ?_
      refine hC.iconst dX5_readClause_15 (v := nI 1) rfl ?_
      refine hC.icmp_eq dX5_readClause_16 (tgt := 35) rfl (fun c => absurd c (by decide)) (fun _ => ?_)
      refine hC.aload_n dX5_readClause_19 rfl ?_
      refine hC.getfield dX5_readClause_20 lfX5_47 rfl rfl ?_
      refine hC.nnz (x := P.2 0) (by omega) dX5_readClause_23 (tgt := 35) rfl (fun _ => ?_) (fun c => absurd (p0.symm.trans c) h0)
      refine hC.loc rfl (k35 3 (by omega) (fun h => ?_) (fun _ z => absurd z (by decide)) (fun h _ => ?_))
      · have h := of_decide_eq_true (show decide (12 ≤ P.2 2) = true from h)
        rw [hcl, if_pos (Or.inr (Or.inr (Or.inl ⟨Or.inl rfl, by omega⟩)))]
      · have h := of_decide_eq_false (show decide (12 ≤ P.2 2) = false from h)
        rw [hcl, if_neg (by omega), if_neg (by decide), if_neg (by decide)]
        exact ⟨rfl, fun z => by omega, fun _ => by omega, fun z => by omega⟩
  · by_cases h0 : T.2 0 = 0
    · rw [if_pos (Or.inr ⟨by decide, h0⟩)] at hcl
      refine hC.if_eq dX5_readClause_11 (tgt := 26) rfl (fun c => absurd c (by decide)) (fun _ => ?_)
      refine hC.iload_n dX5_readClause_14 rfl ?_
      refine hC.iconst dX5_readClause_15 (v := nI 1) rfl ?_
      refine hC.icmp_eq dX5_readClause_16 (tgt := 35) rfl (fun c => absurd c (by decide)) (fun _ => ?_)
      refine hC.aload_n dX5_readClause_19 rfl ?_
      refine hC.getfield dX5_readClause_20 lfX5_47 rfl rfl ?_
      refine hC.nnz (x := P.2 0) (by omega) dX5_readClause_23 (tgt := 35) rfl (fun c => absurd (p0.trans h0) c) (fun _ => ?_)
      exact hC.loc rfl (kf1 hcl _)
    · rw [if_neg (fun z => z.elim (fun z => absurd z (by decide)) (fun z => h0 z.2))] at hcl
      refine hC.if_eq dX5_readClause_11 (tgt := 26) rfl (fun c => absurd c (by decide)) (fun _ => ?_)
      refine hC.iload_n dX5_readClause_14 rfl ?_
      refine hC.iconst dX5_readClause_15 (v := nI 1) rfl ?_
      refine hC.icmp_eq dX5_readClause_16 (tgt := 35) rfl (fun c => absurd c (by decide)) (fun _ => ?_)
      refine hC.aload_n dX5_readClause_19 rfl ?_
      refine hC.getfield dX5_readClause_20 lfX5_47 rfl rfl ?_
      refine hC.nnz (x := P.2 0) (by omega) dX5_readClause_23 (tgt := 35) rfl (fun _ => ?_) (fun c => absurd (p0.symm.trans c) h0)
      refine hC.loc rfl (k35 4 (by omega) (fun h => ?_) (fun _ z => absurd z (by decide)) (fun h _ => ?_))
      · have h := of_decide_eq_true (show decide (12 ≤ P.2 2) = true from h)
        rw [hcl, if_pos (Or.inr (Or.inr (Or.inl ⟨Or.inr rfl, by omega⟩)))]
      · have h := of_decide_eq_false (show decide (12 ≤ P.2 2) = false from h)
        rw [hcl, if_neg (by omega), if_neg (by decide), if_neg (by decide)]
        exact ⟨rfl, fun z => by omega, fun _ => by omega, fun z => by omega⟩
  · by_cases h0 : T.2 0 = 0
    · rw [if_pos (Or.inr ⟨by decide, h0⟩)] at hcl
      refine hC.if_eq dX5_readClause_11 (tgt := 26) rfl (fun c => absurd c (by decide)) (fun _ => ?_)
      refine hC.iload_n dX5_readClause_14 rfl ?_
      refine hC.iconst dX5_readClause_15 (v := nI 1) rfl ?_
      refine hC.icmp_eq dX5_readClause_16 (tgt := 35) rfl (fun c => absurd c (by decide)) (fun _ => ?_)
      refine hC.aload_n dX5_readClause_19 rfl ?_
      refine hC.getfield dX5_readClause_20 lfX5_47 rfl rfl ?_
      refine hC.nnz (x := P.2 0) (by omega) dX5_readClause_23 (tgt := 35) rfl (fun c => absurd (p0.trans h0) c) (fun _ => ?_)
      exact hC.loc rfl (kf1 hcl _)
    · rw [if_neg (fun z => z.elim (fun z => absurd z (by decide)) (fun z => h0 z.2))] at hcl
      refine hC.if_eq dX5_readClause_11 (tgt := 26) rfl (fun c => absurd c (by decide)) (fun _ => ?_)
      refine hC.iload_n dX5_readClause_14 rfl ?_
      refine hC.iconst dX5_readClause_15 (v := nI 1) rfl ?_
      refine hC.icmp_eq dX5_readClause_16 (tgt := 35) rfl (fun c => absurd c (by decide)) (fun _ => ?_)
      refine hC.aload_n dX5_readClause_19 rfl ?_
      refine hC.getfield dX5_readClause_20 lfX5_47 rfl rfl ?_
      refine hC.nnz (x := P.2 0) (by omega) dX5_readClause_23 (tgt := 35) rfl (fun _ => ?_) (fun c => absurd (p0.symm.trans c) h0)
      refine hC.loc rfl (k35 5 (by omega) (fun h => ?_) (fun _ z => absurd z (by decide)) (fun h _ => ?_))
      · have h := of_decide_eq_true (show decide (8 ≤ P.2 3) = true from h)
        rw [hcl, if_pos (Or.inr (Or.inr (Or.inr ⟨rfl, by omega⟩)))]
      · have h := of_decide_eq_false (show decide (8 ≤ P.2 3) = false from h)
        rw [hcl, if_neg (by omega), if_neg (by decide), if_neg (by decide)]
        exact ⟨rfl, fun z => by omega, fun z => by omega, fun _ => by omega⟩
def reX (g : Nat → Int32) (n : Nat) (x : Except FaT ToldT) (h2 : List va_E) : Prop := match x with
  | .error (k, p) => ∃ P2 i2 b2, k ≠ 0 ∧ k < 10 ∧ PlX P2 ∧ h2 = tpW g n k p i2 b2 P2
  | .ok T => ∃ P2 i2 b2, PlX P2 ∧ tdP P2 T ∧ TC T ∧ h2 = tpW g n 0 NN i2 b2 P2
def clP (P : PlanT) : PlanT := (fun k => if k = 4 then (fun j => if j < 12 then 0 else P.1 4 j) else P.1 k, fun _ => 0)
theorem clP_x {P : PlanT} (h : PlX P) : PlX (clP P) := by
  obtain ⟨⟨x1, x2, x3, x4, x5, x6, x7, x8⟩, y1, y2⟩ := h
  refine ⟨⟨Nat.zero_le _, Nat.zero_le _, Nat.zero_le _, Nat.zero_le _, x5, x6, x7, x8⟩, fun s => ?_, y2⟩
  show (if s < 12 then 0 else P.1 4 s) ≤ 9
  split
  · decide
  · exact y1 s
theorem clP_t (P : PlanT) : tdP (clP P) T0 := ⟨fun _ _ => rfl, fun k hk => absurd hk (Nat.not_lt_zero k), fun k hk => absurd hk (Nat.not_lt_zero k), fun k hk => absurd hk (Nat.not_lt_zero k), fun k hk => absurd hk (Nat.not_lt_zero k), fun k _ hk => if_pos hk⟩
set_option maxHeartbeats 4000000 in
set_option maxRecDepth 20000 in
theorem ct_X5_read (l : Launch) (g : Nat → Int32) (t : Nat → Nat) (n f q i b : Nat) (P : PlanT) (hn : n ≤ 500) (ht : txB g t n) (hx : PlX P) : Ct l 7 yX5_read cX5_read 3 none [.ref 0, .ref 2] (tpW g n f q i b P) (fun r h2 => r = none ∧ reX g n (paT t n 501 T0 0) h2) := by
  refine Ct.of (by decide) (Nat.le_of_ble_eq_true rfl) (fun K hC hR => ?_)
  show K 0 [(0, .ref 0), (1, .ref 2)] [] _
  obtain ⟨C, hCg⟩ : ∃ C, paT t n 501 T0 0 = C := ⟨_, rfl⟩
  rw [hCg] at hR
  have kerr : ∀ k p c i2 b2 P2, C = .error (k, p) → k ≠ 0 → k < 10 → i2 ≤ n → PlX P2 → c ≤ 501 → K 21 [(0, .ref 0), (1, .ref 2), (2, .int (nI c))] [] (tpW g n k p i2 b2 P2) := by
    intro k p c i2 b2 P2 he hk0 hk10 hi2 hx2 hc
    rw [he] at hR
    have hle := sc_le (p := spB t) hi2
    refine hC.iload_n dX5_read_21 rfl ?_
    refine hC.sipush dX5_read_22 (v := nI 500) rfl ?_
    refine hC.n_gt (by omega) (by omega) dX5_read_25 (tgt := 61) rfl (fun c1 => ?_) (fun c1 => ?_)
    · exact hR.return_ dX5_read_61 ⟨rfl, P2, i2, b2, hk0, hk10, hx2, rfl⟩
    · refine hC.aload_n dX5_read_28 rfl ?_
      refine hC.wuV (hs2 := tpW g n k p (sc (spB t) n i2) b2 P2) [0, 1] dX5_read_29 lmX5_33 mkX5_skipBlanks svX5_skipBlanks (ct_X5_skipBlanks l g t n k p i2 b2 hn ht hi2) ⟨Nat.le_of_ble_eq_true rfl, Nat.le_of_ble_eq_true rfl⟩ rfl rfl (Nat.le_of_ble_eq_true rfl) ⟨by decide, rfl⟩ rfl rfl rfl ?_
      refine hC.aload_n dX5_read_32 rfl ?_
      refine hC.rdV [0, 1] dX5_read_33 lmX5_36 mkX5_sign svX5_sign (ct_X5_sign l g t n k p (sc (spB t) n i2) b2 hn ht hle) ⟨Nat.le_of_ble_eq_true rfl, Nat.le_of_ble_eq_true rfl⟩ rfl rfl (Nat.le_of_ble_eq_true rfl) ⟨by decide, rfl⟩ rfl rfl ?_
      refine hC.iconst dX5_read_36 (v := (-1)) rfl ?_
      refine hC.icmp_eq dX5_read_37 (tgt := 61) rfl (fun c2 => ?_) (fun c2 => ?_)
      · exact hR.return_ dX5_read_61 ⟨rfl, P2, _, b2, hk0, hk10, hx2, rfl⟩
      · refine hC.aload_n dX5_read_40 rfl ?_
        refine hC.getfield dX5_read_41 lfX5_27 rfl rfl ?_
        refine hC.nz (x := k) (by omega) dX5_read_44 (tgt := 50) rfl (fun c => absurd c hk0) (fun _ => ?_)
        refine hC.goto dX5_read_47 (tgt := 61) rfl ?_
        exact hR.return_ dX5_read_61 ⟨rfl, P2, _, b2, hk0, hk10, hx2, rfl⟩
  have loop : ∀ k c (T : ToldT) (P2 : PlanT) (i2 b2 : Nat), c + k = 501 → i2 ≤ n → PlX P2 → tdP P2 T → TC T → C = paT t n k T i2 → K 21 [(0, .ref 0), (1, .ref 2), (2, .int (nI c))] [] (tpW g n 0 NN i2 b2 P2) := by
    intro k
    induction k with
    | zero =>
      intro c T P2 i2 b2 hk hi2 hx2 hT hcT heq
      have heq : C = .ok T := heq
      rw [heq] at hR
      refine hC.iload_n dX5_read_21 rfl ?_
      refine hC.sipush dX5_read_22 (v := nI 500) rfl ?_
      refine hC.n_gt (by omega) (by omega) dX5_read_25 (tgt := 61) rfl (fun c1 => ?_) (fun c1 => ?_)
      · exact hR.return_ dX5_read_61 ⟨rfl, P2, i2, b2, hx2, hT, hcT, rfl⟩
      · omega
    | succ k ih =>
      intro c T P2 i2 b2 hk hi2 hx2 hT hcT heq
      have hle := sc_le (p := spB t) hi2
      have hst : paT t n (k + 1) T i2 = if sc (spB t) n i2 = n then .ok T else match clT t n T (sc (spB t) n i2) with
        | .error x => .error x
        | .ok (T2, i3) => paT t n k T2 i3 := rfl
      rw [hst] at heq
      refine hC.iload_n dX5_read_21 rfl ?_
      refine hC.sipush dX5_read_22 (v := nI 500) rfl ?_
      refine hC.n_gt (by omega) (by omega) dX5_read_25 (tgt := 61) rfl (fun c1 => ?_) (fun c1 => ?_)
      · omega
      · refine hC.aload_n dX5_read_28 rfl ?_
        refine hC.wuV (hs2 := tpW g n 0 NN (sc (spB t) n i2) b2 P2) [0, 1] dX5_read_29 lmX5_33 mkX5_skipBlanks svX5_skipBlanks (ct_X5_skipBlanks l g t n 0 NN i2 b2 hn ht hi2) ⟨Nat.le_of_ble_eq_true rfl, Nat.le_of_ble_eq_true rfl⟩ rfl rfl (Nat.le_of_ble_eq_true rfl) ⟨by decide, rfl⟩ rfl rfl rfl ?_
        generalize sc (spB t) n i2 = j at hle heq ⊢
        refine hC.aload_n dX5_read_32 rfl ?_
        refine hC.rdV [0, 1] dX5_read_33 lmX5_36 mkX5_sign svX5_sign (ct_X5_sign l g t n 0 NN j b2 hn ht hle) ⟨Nat.le_of_ble_eq_true rfl, Nat.le_of_ble_eq_true rfl⟩ rfl rfl (Nat.le_of_ble_eq_true rfl) ⟨by decide, rfl⟩ rfl rfl ?_
        refine hC.iconst dX5_read_36 (v := (-1)) rfl ?_
        rw [m1_nI]
        refine hC.icmp_eq dX5_read_37 (tgt := 61) rfl (fun c2 => ?_) (fun c2 => ?_)
        · have hjn : j = n := by
            apply Classical.byContradiction
            intro hne
            have htj := (ht j (by omega)).2
            rw [sgF, if_pos (by omega)] at c2
            have := congrArg Int32.toInt c2
            rw [nI_toInt (show t j < 2 ^ 31 by omega), show (nI 4294967295).toInt = -1 by decide] at this
            omega
          rw [if_pos hjn] at heq
          rw [heq] at hR
          exact hR.return_ dX5_read_61 ⟨rfl, P2, _, b2, hx2, hT, hcT, rfl⟩
        · have hjn : ¬ j = n := by
            intro hjn
            apply c2
            rw [sgF, if_neg (by omega)]
          rw [if_neg hjn] at heq
          refine hC.aload_n dX5_read_40 rfl ?_
          refine hC.getfield dX5_read_41 lfX5_27 rfl rfl ?_
          refine hC.nz (x := 0) (by omega) dX5_read_44 (tgt := 50) rfl (fun _ => ?_) (fun c => absurd rfl c)
          refine hC.aload_n dX5_read_50 rfl ?_
          refine hC.aload_n dX5_read_51 rfl ?_
          refine hC.callV [0, 1, 2, 3, 4, 5, 6, 7, 8, 9, 10] dX5_read_52 lmX5_40 mkX5_readClause svX5_readClause (ct_X5_readClause l g t n NN j b2 P2 T hn ht hle hx2 hT hcT) ⟨Nat.le_of_ble_eq_true rfl, Nat.le_of_ble_eq_true rfl⟩ rfl rfl (Nat.le_of_ble_eq_true rfl) ⟨by decide, rfl⟩ rfl rfl (fun r hc2 hp hl => ?_)
          obtain ⟨rfl, hp⟩ := hp
          cases hcl : clT t n T j with
          | error x =>
            obtain ⟨k2, p⟩ := x
            rw [hcl] at hp heq
            obtain ⟨P3, i3, b3, hk0, hk10, hi3, hx3, rfl⟩ := hp
            have heq : C = .error (k2, p) := heq
            show K 55 _ [] (tpW g n k2 p i3 b3 P3)
            refine hC.iinc dX5_read_55 rfl (nI_1 _) (by decide) ?_
            refine hC.goto dX5_read_58 (tgt := 21) rfl ?_
            exact hC.loc rfl (kerr k2 p (c + 1) i3 b3 P3 heq hk0 hk10 hi3 hx3 (by omega))
          | ok y =>
            obtain ⟨T2, i3⟩ := y
            rw [hcl] at hp heq
            obtain ⟨P3, b3, hi3, hx3, hT3, hc3, rfl⟩ := hp
            have heq : C = paT t n k T2 i3 := heq
            show K 55 _ [] (tpW g n 0 NN i3 b3 P3)
            refine hC.iinc dX5_read_55 rfl (nI_1 _) (by decide) ?_
            refine hC.goto dX5_read_58 (tgt := 21) rfl ?_
            exact hC.loc rfl (ih (c + 1) T2 P3 i3 b3 (by omega) hi3 hx3 hT3 hc3 heq)
  refine hC.aload_n dX5_read_0 rfl ?_
  refine hC.wuV (hs2 := tpW g n f q i b (clP P)) [2, 3, 4, 5, 6, 7, 8, 9, 10] dX5_read_1 lmX5_22 mkX4_clear svX4_clear (ct_X4_clear l P) ⟨Nat.le_of_ble_eq_true rfl, Nat.le_of_ble_eq_true rfl⟩ rfl rfl (Nat.le_of_ble_eq_true rfl) ⟨by decide, rfl⟩ rfl rfl rfl ?_
  refine hC.aload_n dX5_read_4 rfl ?_
  refine hC.iconst dX5_read_5 (v := nI 0) rfl ?_
  refine hC.putI dX5_read_6 lpX5_27 rfl rfl rfl (Nat.le_of_ble_eq_true rfl) ?_
  refine hC.aload_n dX5_read_9 rfl ?_
  refine hC.iconst dX5_read_10 (v := (-1)) rfl ?_
  rw [m1_nI]
  refine hC.putI dX5_read_11 lpX5_15 rfl rfl rfl (Nat.le_of_ble_eq_true rfl) ?_
  refine hC.aload_n dX5_read_14 rfl ?_
  refine hC.iconst dX5_read_15 (v := nI 0) rfl ?_
  refine hC.putI dX5_read_16 lpX5_30 rfl rfl rfl (Nat.le_of_ble_eq_true rfl) ?_
  refine hC.iconst dX5_read_19 (v := nI 0) rfl ?_
  refine hC.istore_n dX5_read_20 (by decide) ?_
  exact hC.loc rfl (loop 501 0 T0 (clP P) 0 b (by omega) (Nat.zero_le _) (clP_x hx) (clP_t P) ⟨by decide, by decide, by decide, by decide⟩ hCg.symm)
