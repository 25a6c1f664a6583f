/-! StripFlag$Text: readNumbers, readClause, read -/
def rnT (t : Nat → Nat) (n : Nat) (T : ToldT) (w i : Nat) : Except FaT (ToldT × Nat) := if w = 2 then stT t n T i else seT t n T (w - 1) i
theorem endB8 {b : Nat} (h : b < 8) : endB b = 2 ^ b := by unfold endB; rw [if_neg (by omega)]
set_option maxHeartbeats 4000000 in
set_option maxRecDepth 20000 in
theorem ct_X5_readNumbers (l : Launch) (g : Nat → Int32) (t : Nat → Nat) (n q i b w : Nat) (P : PlanT) (T : ToldT) (hn : n ≤ 500) (ht : txB g t n) (hi : i ≤ n) (hx : PlX P) (hT : tdP P T) (hc : TC T) (hw : w = 2 ∨ w = 3 ∨ w = 4 ∨ w = 5) (h2 : w = 2 → T.2 1 < 8) (h34 : w = 3 ∨ w = 4 → T.2 2 < 12) (h5 : w = 5 → T.2 3 < 8) : Ct l 4 yX5_readNumbers cX5_readNumbers 6 none [.ref 0, .ref 2, .int (nI w)] (tpW g n 0 q i b P) (fun r h2 => r = none ∧ clX g n q (rnT t n T w i) h2) := by
  refine Ct.of (by decide) (Nat.le_of_ble_eq_true rfl) (fun K hC hR => ?_)
  show K 0 [(0, .ref 0), (1, .ref 2), (2, .int (nI w))] [] _
  obtain ⟨C, hCg⟩ : ∃ C, rnT t n T w i = C := ⟨_, rfl⟩
  rw [hCg] at hR
  have p0 := hT.1 0 (by decide)
  have p1 := hT.1 1 (by decide)
  have p2 := hT.1 2 (by decide)
  have p3 := hT.1 3 (by decide)
  obtain ⟨hc0, hc1, hc2, hc3⟩ := id hc
  have k106e : ∀ k p i2 b2 z3 z4 z5, C = .error (k, p) → k ≠ 0 → k < 10 → i2 ≤ n → K 106 [(0, .ref 0), (1, .ref 2), (2, .int (nI w)), (3, .int z3), (4, .int z4), (5, .int z5)] [] (tpW g n k p i2 b2 P) := by
    intro k p i2 b2 z3 z4 z5 he hk0 hk10 hi2
    rw [he] at hR
    refine hC.aload_n dX5_readNumbers_106 rfl ?_
    refine hC.callV [0, 1] dX5_readNumbers_107 lmX5_85 mkX5_readEnd svX5_readEnd (ct_X5_readEnd l g t n k p i2 b2 hn ht hi2 hk10) ⟨Nat.le_of_ble_eq_true rfl, Nat.le_of_ble_eq_true rfl⟩ rfl rfl (Nat.le_of_ble_eq_true rfl) ⟨by decide, rfl⟩ rfl rfl (fun r hc2 hp hl => ?_)
    obtain ⟨rfl, i3, b3, hi3, h1, -⟩ := hp
    have h1 := h1 hk0
    subst h1
    show K 110 _ [] (tpW g n k p i3 b3 P)
    refine hC.aload_n dX5_readNumbers_110 rfl ?_
    refine hC.getfield dX5_readNumbers_111 lfX5_27 rfl rfl ?_
    refine hC.nnz (x := k) (by omega) dX5_readNumbers_114 (tgt := 127) rfl (fun _ => ?_) (fun c => absurd c hk0)
    exact hR.return_ dX5_readNumbers_127 ⟨rfl, P, i3, b3, hk0, hk10, hi3, hx, rfl⟩
  have k72e : ∀ k p i2 b2 z3 z4, C = .error (k, p) → k ≠ 0 → k < 10 → i2 ≤ n → K 72 [(0, .ref 0), (1, .ref 2), (2, .int (nI w)), (3, .int z3), (4, .int z4)] [] (tpW g n k p i2 b2 P) := by
    intro k p i2 b2 z3 z4 he hk0 hk10 hi2
    refine hC.iconst dX5_readNumbers_72 (v := nI 0) rfl ?_
    refine hC.istore dX5_readNumbers_73 (by decide) ?_
    refine hC.iload_n dX5_readNumbers_75 rfl ?_
    refine hC.iconst dX5_readNumbers_76 (v := nI 5) rfl ?_
    refine hC.n_ne (by omega) (by omega) dX5_readNumbers_77 (tgt := 92) rfl (fun c => ?_) (fun c => ?_)
    · refine hC.iload_n dX5_readNumbers_92 rfl ?_
      refine hC.iconst dX5_readNumbers_93 (v := nI 2) rfl ?_
      refine hC.n_eq (by omega) (by omega) dX5_readNumbers_94 (tgt := 106) rfl (fun c2 => ?_) (fun c2 => ?_)
      · exact hC.loc rfl (k106e k p i2 b2 _ _ _ he hk0 hk10 hi2)
      · refine hC.aload_n dX5_readNumbers_97 rfl ?_
        refine hC.iconst dX5_readNumbers_98 (v := nI 1) rfl ?_
        refine hC.bipush dX5_readNumbers_99 (v := nI 9) rfl ?_
        rw [n9]
        refine hC.callV [0, 1] dX5_readNumbers_101 lmX5_74 mkX5_readNumber svX5_readNumber (ct_X5_readNumber l g t n k p i2 b2 1 10 hn ht hi2 hk10 (by decide) (by decide)) ⟨Nat.le_of_ble_eq_true rfl, Nat.le_of_ble_eq_true rfl⟩ rfl rfl (Nat.le_of_ble_eq_true rfl) ⟨by decide, rfl⟩ rfl rfl (fun r hc2 hp hl => ?_)
        obtain ⟨v, i3, b3, hv, hi3, rfl, h1, -⟩ := hp
        have h1 := h1 hk0
        subst h1
        show K 104 _ [.int (nI v)] (tpW g n k p i3 b3 P)
        refine hC.istore dX5_readNumbers_104 (by decide) ?_
        exact hC.loc rfl (k106e k p i3 b3 _ _ _ he hk0 hk10 hi3)
    · refine hC.aload_n dX5_readNumbers_80 rfl ?_
      refine hC.iconst dX5_readNumbers_81 (v := nI 0) rfl ?_
      refine hC.bipush dX5_readNumbers_82 (v := nI 99) rfl ?_
      rw [n99]
      refine hC.callV [0, 1] dX5_readNumbers_84 lmX5_74 mkX5_readNumber svX5_readNumber (ct_X5_readNumber l g t n k p i2 b2 0 100 hn ht hi2 hk10 (by decide) (by decide)) ⟨Nat.le_of_ble_eq_true rfl, Nat.le_of_ble_eq_true rfl⟩ rfl rfl (Nat.le_of_ble_eq_true rfl) ⟨by decide, rfl⟩ rfl rfl (fun r hc2 hp hl => ?_)
      obtain ⟨v, i3, b3, hv, hi3, rfl, h1, -⟩ := hp
      have h1 := h1 hk0
      subst h1
      show K 87 _ [.int (nI v)] (tpW g n k p i3 b3 P)
      refine hC.istore dX5_readNumbers_87 (by decide) ?_
      refine hC.goto dX5_readNumbers_89 (tgt := 106) rfl ?_
      exact hC.loc rfl (k106e k p i3 b3 _ _ _ he hk0 hk10 hi3)
  have k50e : ∀ k p i2 b2 v3 v4, v3 < 1000 → v4 < 1000 → C = .error (k, p) → k ≠ 0 → k < 10 → i2 ≤ n → b2 < 2 ^ 32 → K 50 [(0, .ref 0), (1, .ref 2), (2, .int (nI w)), (3, .int (nI v3))] [.int (nI v4)] (tpW g n k p i2 b2 P) := by
    intro k p i2 b2 v3 v4 hv3 hv4 he hk0 hk10 hi2 _
    refine hC.istore dX5_readNumbers_50 (by decide) ?_
    refine hC.iload_n dX5_readNumbers_52 rfl ?_
    refine hC.iconst dX5_readNumbers_53 (v := nI 4) rfl ?_
    refine hC.n_ne (by omega) (by omega) dX5_readNumbers_54 (tgt := 72) rfl (fun c => ?_) (fun c => ?_)
    · exact hC.loc rfl (k72e k p i2 b2 _ _ he hk0 hk10 hi2)
    · refine hC.iload_n dX5_readNumbers_57 rfl ?_
      refine hC.iload dX5_readNumbers_58 rfl ?_
      refine hC.n_ne (by omega) (by omega) dX5_readNumbers_60 (tgt := 72) rfl (fun c2 => ?_) (fun c2 => ?_)
      · exact hC.loc rfl (k72e k p i2 b2 _ _ he hk0 hk10 hi2)
      · refine hC.aload_n dX5_readNumbers_63 rfl ?_
        refine hC.iconst dX5_readNumbers_64 (v := nI 4) rfl ?_
        refine hC.aload_n dX5_readNumbers_65 rfl ?_
        refine hC.getfield dX5_readNumbers_66 lfX5_82 rfl rfl ?_
        refine hC.wuV (hs2 := tpW g n (if k = 0 then 4 else k) (if k = 0 then b2 else p) i2 b2 P) [0, 1] dX5_readNumbers_69 lmX5_50 mkX5_fail svX5_fail (ct_X5_fail l g n k p i2 b2 4 b2 (by omega)) ⟨Nat.le_of_ble_eq_true rfl, Nat.le_of_ble_eq_true rfl⟩ rfl rfl (Nat.le_of_ble_eq_true rfl) ⟨by decide, rfl⟩ rfl rfl rfl ?_
        rw [if_neg hk0, if_neg hk0]
        exact hC.loc rfl (k72e k p i2 b2 _ _ he hk0 hk10 hi2)
  have k25e : ∀ k p i2 b2 v, v < 1000 → C = .error (k, p) → k ≠ 0 → k < 10 → i2 ≤ n → K 25 [(0, .ref 0), (1, .ref 2), (2, .int (nI w))] [.int (nI v)] (tpW g n k p i2 b2 P) := by
    intro k p i2 b2 v hv he hk0 hk10 hi2
    have k39 : K 39 [(0, .ref 0), (1, .ref 2), (2, .int (nI w)), (3, .int (nI v))] [] (tpW g n k p i2 b2 P) := by
      refine hC.aload_n dX5_readNumbers_39 rfl ?_
      refine hC.iconst dX5_readNumbers_40 (v := nI 0) rfl ?_
      refine hC.aload_n dX5_readNumbers_41 rfl ?_
      refine hC.getfield dX5_readNumbers_42 lfX5_65 rfl rfl ?_
      refine hC.iconst dX5_readNumbers_45 (v := nI 1) rfl ?_
      refine hC.isub dX5_readNumbers_46 ?_
      refine hC.callV [0, 1] dX5_readNumbers_47 lmX5_74 mkX5_readNumber svX5_readNumber (ct_X5_readNumber l g t n k p i2 b2 0 (P.2 1) hn ht hi2 hk10 (by decide) (by omega)) ⟨Nat.le_of_ble_eq_true rfl, Nat.le_of_ble_eq_true rfl⟩ rfl rfl (Nat.le_of_ble_eq_true rfl) ⟨by decide, rfl⟩ rfl rfl (fun r hc2 hp hl => ?_)
      obtain ⟨v4, i3, b3, hv4, hi3, rfl, h1, -⟩ := hp
      have h1 := h1 hk0
      subst h1
      show K 50 _ [.int (nI v4)] (tpW g n k p i3 b3 P)
      refine hC.istore dX5_readNumbers_50 (by decide) ?_
      refine hC.iload_n dX5_readNumbers_52 rfl ?_
      refine hC.iconst dX5_readNumbers_53 (v := nI 4) rfl ?_
      refine hC.n_ne (by omega) (by omega) dX5_readNumbers_54 (tgt := 72) rfl (fun c => ?_) (fun c => ?_)
      · exact hC.loc rfl (k72e k p i3 b3 _ _ he hk0 hk10 hi3)
      · refine hC.iload_n dX5_readNumbers_57 rfl ?_
        refine hC.iload dX5_readNumbers_58 rfl ?_
        refine hC.n_ne (by omega) (by omega) dX5_readNumbers_60 (tgt := 72) rfl (fun c2 => ?_) (fun c2 => ?_)
        · exact hC.loc rfl (k72e k p i3 b3 _ _ he hk0 hk10 hi3)
        · refine hC.aload_n dX5_readNumbers_63 rfl ?_
          refine hC.iconst dX5_readNumbers_64 (v := nI 4) rfl ?_
          refine hC.aload_n dX5_readNumbers_65 rfl ?_
          refine hC.getfield dX5_readNumbers_66 lfX5_82 rfl rfl ?_
          refine hC.wuV (hs2 := tpW g n (if k = 0 then 4 else k) (if k = 0 then b3 else p) i3 b3 P) [0, 1] dX5_readNumbers_69 lmX5_50 mkX5_fail svX5_fail (ct_X5_fail l g n k p i3 b3 4 b3 (by omega)) ⟨Nat.le_of_ble_eq_true rfl, Nat.le_of_ble_eq_true rfl⟩ rfl rfl (Nat.le_of_ble_eq_true rfl) ⟨by decide, rfl⟩ rfl rfl rfl ?_
          rw [if_neg hk0, if_neg hk0]
          exact hC.loc rfl (k72e k p i3 b3 _ _ he hk0 hk10 hi3)
    refine hC.istore_n dX5_readNumbers_25 (by decide) ?_
    refine hC.iconst dX5_readNumbers_26 (v := (-1)) rfl ?_
    refine hC.istore dX5_readNumbers_27 (by decide) ?_
    refine hC.iload_n dX5_readNumbers_29 rfl ?_
    refine hC.iconst dX5_readNumbers_30 (v := nI 4) rfl ?_
    refine hC.n_eq (by omega) (by omega) dX5_readNumbers_31 (tgt := 39) rfl (fun c => ?_) (fun c => ?_)
    · exact hC.loc rfl k39
    · refine hC.iload_n dX5_readNumbers_34 rfl ?_
      refine hC.iconst dX5_readNumbers_35 (v := nI 5) rfl ?_
      refine hC.n_ne (by omega) (by omega) dX5_readNumbers_36 (tgt := 72) rfl (fun c2 => ?_) (fun c2 => ?_)
      · exact hC.loc rfl (k72e k p i2 b2 _ _ he hk0 hk10 hi2)
      · exact hC.loc rfl k39
  have k106o : ∀ i2 b2 a bC s T2, i2 ≤ n → a < 8 → s < 1000 → (w = 5 → bC < 8) → (w = 3 ∨ w = 4 → bC < 8 ∨ bC = 4294967295) → (C = match enT t n i2 with
      | .error x => .error x
      | .ok i3 => .ok (T2, i3)) → PlX (adP P w a bC s) → tdP (adP P w a bC s) T2 → TC T2 → K 106 [(0, .ref 0), (1, .ref 2), (2, .int (nI w)), (3, .int (nI a)), (4, .int (nI bC)), (5, .int (nI s))] [] (tpW g n 0 q i2 b2 P) := by
    intro i2 b2 a bC s T2 hi2 ha hs hb5 hb34 he hx3 hT3 hc3'
    refine hC.aload_n dX5_readNumbers_106 rfl ?_
    refine hC.callV [0, 1] dX5_readNumbers_107 lmX5_85 mkX5_readEnd svX5_readEnd (ct_X5_readEnd l g t n 0 q i2 b2 hn ht hi2 (by decide)) ⟨Nat.le_of_ble_eq_true rfl, Nat.le_of_ble_eq_true rfl⟩ rfl rfl (Nat.le_of_ble_eq_true rfl) ⟨by decide, rfl⟩ rfl rfl (fun r hc2 hp hl => ?_)
    obtain ⟨rfl, i3, b3, hi3, -, h1⟩ := hp
    have h1 := h1 rfl
    cases hen : enT t n i2 with
    | error x =>
      obtain ⟨k, p⟩ := x
      rw [hen] at h1 he
      obtain ⟨hk0, hk10, rfl⟩ := h1
      have he : C = .error (k, p) := he
      rw [he] at hR
      show K 110 _ [] (tpW g n k p i3 b3 P)
      refine hC.aload_n dX5_readNumbers_110 rfl ?_
      refine hC.getfield dX5_readNumbers_111 lfX5_27 rfl rfl ?_
      refine hC.nnz (x := k) (by omega) dX5_readNumbers_114 (tgt := 127) rfl (fun _ => ?_) (fun c => absurd c hk0)
      exact hR.return_ dX5_readNumbers_127 ⟨rfl, P, i3, b3, hk0, hk10, hi3, hx, rfl⟩
    | ok e =>
      rw [hen] at h1 he
      obtain ⟨rfl, rfl⟩ := h1
      have he : C = .ok (T2, i3) := he
      rw [he] at hR
      show K 110 _ [] (tpW g n 0 q i3 b3 P)
      refine hC.aload_n dX5_readNumbers_110 rfl ?_
      refine hC.getfield dX5_readNumbers_111 lfX5_27 rfl rfl ?_
      refine hC.nnz (x := 0) (by omega) dX5_readNumbers_114 (tgt := 127) rfl (fun c => absurd rfl c) (fun _ => ?_)
      refine hC.aload_n dX5_readNumbers_117 rfl ?_
      refine hC.iload_n dX5_readNumbers_118 rfl ?_
      refine hC.iload_n dX5_readNumbers_119 rfl ?_
      refine hC.iload dX5_readNumbers_120 rfl ?_
      refine hC.iload dX5_readNumbers_122 rfl ?_
      refine hC.wuS (hs2 := tpW g n 0 q i3 b3 (adP P w a bC s)) [2, 3, 4, 5, 6, 7, 8, 9, 10] dX5_readNumbers_124 lmX5_88 mkX5_addTold sxX5_addTold (ct_X5_addTold l P w a bC s (by omega) (fun z => by have := h2 z; omega) (fun z => ⟨by have := h5 z; omega, ha, hb5 z⟩) (fun z1 z2 => ⟨by have := h34 (by omega); omega, ha, hb34 (by omega)⟩)) ⟨Nat.le_of_ble_eq_true rfl, Nat.le_of_ble_eq_true rfl⟩ rfl rfl (Nat.le_of_ble_eq_true rfl) ⟨by decide, rfl⟩ rfl ?_
      exact hR.return_ dX5_readNumbers_127 ⟨rfl, _, b3, hi3, hx3, hT3, hc3', rfl⟩
  have k72o : ∀ i2 b2 a bC bS, w ≠ 2 → i2 ≤ n → a < 8 → bS ≤ 8 → (w = 5 → bC < 8 ∧ (if bC = a then 256 else 2 ^ bC) = 2 ^ bS) → (w = 3 ∨ w = 4 → (bC < 8 ∨ bC = 4294967295) ∧ endB bC = 2 ^ bS ∧ (if bS = 8 then NN else bS) = bC) → C = bdT t n T (w - 1) a bS i2 → K 72 [(0, .ref 0), (1, .ref 2), (2, .int (nI w)), (3, .int (nI a)), (4, .int (nI bC))] [] (tpW g n 0 q i2 b2 P) := by
    intro i2 b2 a bC bS hw2 hi2 ha hbS g5 g34 he
    have hst : bdT t n T (w - 1) a bS i2 = match nuT t n (if w - 1 = 4 then 0 else 1) (if w - 1 = 4 then 100 else 10) i2 with
      | .error x => .error x
      | .ok (s, _, e) => match enT t n e with
        | .error x => .error x
        | .ok i3 => .ok (adE T (w - 1) a bS s, i3) := rfl
    rw [hst] at he
    refine hC.iconst dX5_readNumbers_72 (v := nI 0) rfl ?_
    refine hC.istore dX5_readNumbers_73 (by decide) ?_
    refine hC.iload_n dX5_readNumbers_75 rfl ?_
    refine hC.iconst dX5_readNumbers_76 (v := nI 5) rfl ?_
    refine hC.n_ne (by omega) (by omega) dX5_readNumbers_77 (tgt := 92) rfl (fun c => ?_) (fun c => ?_)
    · rw [if_neg (by omega), if_neg (by omega)] at he
      refine hC.iload_n dX5_readNumbers_92 rfl ?_
      refine hC.iconst dX5_readNumbers_93 (v := nI 2) rfl ?_
      refine hC.n_eq (by omega) (by omega) dX5_readNumbers_94 (tgt := 106) rfl (fun c2 => ?_) (fun c2 => ?_)
      · omega
      · refine hC.aload_n dX5_readNumbers_97 rfl ?_
        refine hC.iconst dX5_readNumbers_98 (v := nI 1) rfl ?_
        refine hC.bipush dX5_readNumbers_99 (v := nI 9) rfl ?_
        rw [n9]
        refine hC.callV [0, 1] dX5_readNumbers_101 lmX5_74 mkX5_readNumber svX5_readNumber (ct_X5_readNumber l g t n 0 q i2 b2 1 10 hn ht hi2 (by decide) (by decide) (by decide)) ⟨Nat.le_of_ble_eq_true rfl, Nat.le_of_ble_eq_true rfl⟩ rfl rfl (Nat.le_of_ble_eq_true rfl) ⟨by decide, rfl⟩ rfl rfl (fun r hc2 hp hl => ?_)
        obtain ⟨v, i3, b3, hv, hi3, rfl, -, h1⟩ := hp
        have h1 := h1 rfl
        cases hnu : nuT t n 1 10 i2 with
        | error x =>
          obtain ⟨k, p⟩ := x
          rw [hnu] at h1 he
          obtain ⟨hk0, hk10, rfl⟩ := h1
          show K 104 _ [.int (nI v)] (tpW g n k p i3 b3 P)
          refine hC.istore dX5_readNumbers_104 (by decide) ?_
          exact hC.loc rfl (k106e k p i3 b3 _ _ _ he hk0 hk10 hi3)
        | ok y =>
          obtain ⟨s, js, e⟩ := y
          have hs := nuT_lt hnu
          rw [hnu] at h1 he
          obtain ⟨rfl, rfl, rfl, rfl⟩ := h1
          obtain ⟨g1, g2, g3⟩ := g34 (by omega)
          obtain ⟨hT3, hx3⟩ := tdP_seam (w := w) (wd := w - 1) (s := v) hT hx (by omega) (h34 (by omega)) ha hbS (by omega) g2 g3 hw2 c
          show K 104 _ [.int (nI v)] (tpW g n 0 q i3 b3 P)
          refine hC.istore dX5_readNumbers_104 (by decide) ?_
          exact hC.loc rfl (k106o i3 b3 a bC v _ hi3 ha (by omega) (fun z => absurd z c) (fun _ => g1) he hx3 hT3 (TC_adE hc (fun _ => h34 (by omega)) (fun z => by omega)))
    · rw [if_pos (by omega), if_pos (by omega)] at he
      obtain ⟨g1, g2⟩ := g5 c
      refine hC.aload_n dX5_readNumbers_80 rfl ?_
      refine hC.iconst dX5_readNumbers_81 (v := nI 0) rfl ?_
      refine hC.bipush dX5_readNumbers_82 (v := nI 99) rfl ?_
      rw [n99]
      refine hC.callV [0, 1] dX5_readNumbers_84 lmX5_74 mkX5_readNumber svX5_readNumber (ct_X5_readNumber l g t n 0 q i2 b2 0 100 hn ht hi2 (by decide) (by decide) (by decide)) ⟨Nat.le_of_ble_eq_true rfl, Nat.le_of_ble_eq_true rfl⟩ rfl rfl (Nat.le_of_ble_eq_true rfl) ⟨by decide, rfl⟩ rfl rfl (fun r hc2 hp hl => ?_)
      obtain ⟨v, i3, b3, hv, hi3, rfl, -, h1⟩ := hp
      have h1 := h1 rfl
      cases hnu : nuT t n 0 100 i2 with
      | error x =>
        obtain ⟨k, p⟩ := x
        rw [hnu] at h1 he
        obtain ⟨hk0, hk10, rfl⟩ := h1
        show K 87 _ [.int (nI v)] (tpW g n k p i3 b3 P)
        refine hC.istore dX5_readNumbers_87 (by decide) ?_
        refine hC.goto dX5_readNumbers_89 (tgt := 106) rfl ?_
        exact hC.loc rfl (k106e k p i3 b3 _ _ _ he hk0 hk10 hi3)
      | ok y =>
        obtain ⟨s, js, e⟩ := y
        have hs := nuT_lt hnu
        rw [hnu] at h1 he
        obtain ⟨rfl, rfl, rfl, rfl⟩ := h1
        subst c
        obtain ⟨hT3, hx3⟩ := tdP_could (s := v) hT hx (h5 rfl) hc2 ha hbS (by omega) g2
        show K 87 _ [.int (nI v)] (tpW g n 0 q i3 b3 P)
        refine hC.istore dX5_readNumbers_87 (by decide) ?_
        refine hC.goto dX5_readNumbers_89 (tgt := 106) rfl ?_
        exact hC.loc rfl (k106o i3 b3 a bC v _ hi3 ha (by omega) (fun _ => g1) (fun z => by omega) he hx3 hT3 (TC_adE hc (fun z => absurd rfl z) (fun _ => h5 rfl)))
  by_cases hw2 : w = 2
  · subst hw2
    have he : C = match nuT t n 0 (T.2 0) i with
      | .error x => .error x
      | .ok (a, _, e) => match enT t n e with
        | .error x => .error x
        | .ok i2 => .ok (adS T a, i2) := by rw [← hCg]; rfl
    refine hC.aload_n dX5_readNumbers_0 rfl ?_
    refine hC.iconst dX5_readNumbers_1 (v := nI 0) rfl ?_
    refine hC.iload_n dX5_readNumbers_2 rfl ?_
    refine hC.iconst dX5_readNumbers_3 (v := nI 2) rfl ?_
    refine hC.icmp_ne dX5_readNumbers_4 (tgt := 16) rfl (fun c => absurd c (by decide)) (fun _ => ?_)
    refine hC.aload_n dX5_readNumbers_7 rfl ?_
    refine hC.getfield dX5_readNumbers_8 lfX5_47 rfl rfl ?_
    refine hC.iconst dX5_readNumbers_11 (v := nI 1) rfl ?_
    refine hC.isub dX5_readNumbers_12 ?_
    refine hC.goto dX5_readNumbers_13 (tgt := 22) rfl ?_
    refine hC.callV [0, 1] dX5_readNumbers_22 lmX5_74 mkX5_readNumber svX5_readNumber (ct_X5_readNumber l g t n 0 q i b 0 (P.2 0) hn ht hi (by decide) (by decide) (by omega)) ⟨Nat.le_of_ble_eq_true rfl, Nat.le_of_ble_eq_true rfl⟩ rfl rfl (Nat.le_of_ble_eq_true rfl) ⟨by decide, rfl⟩ rfl rfl (fun r hc2 hp hl => ?_)
    obtain ⟨v, i3, b3, hv, hi3, rfl, -, h1⟩ := hp
    have h1 := h1 rfl
    rw [p0] at h1
    cases hnu : nuT t n 0 (T.2 0) i with
    | error x =>
      obtain ⟨k, p⟩ := x
      rw [hnu] at h1 he
      obtain ⟨hk0, hk10, rfl⟩ := h1
      exact hC.loc rfl (k25e k p i3 b3 v hv he hk0 hk10 hi3)
    | ok y =>
      obtain ⟨a, ja, e⟩ := y
      have hal := nuT_lt hnu
      rw [hnu] at h1 he
      obtain ⟨rfl, rfl, rfl, rfl⟩ := h1
      obtain ⟨hT3, hx3⟩ := tdP_strip (b := NN) (s := 0) hT hx (h2 rfl) (show v < 4 by omega)
      show K 25 _ [.int (nI v)] (tpW g n 0 q i3 b3 P)
      refine hC.istore_n dX5_readNumbers_25 (by decide) ?_
      refine hC.iconst dX5_readNumbers_26 (v := (-1)) rfl ?_
      rw [m1_nI]
      refine hC.istore dX5_readNumbers_27 (by decide) ?_
      refine hC.iload_n dX5_readNumbers_29 rfl ?_
      refine hC.iconst dX5_readNumbers_30 (v := nI 4) rfl ?_
      refine hC.icmp_eq dX5_readNumbers_31 (tgt := 39) rfl (fun c => absurd c (by decide)) (fun _ => ?_)
      refine hC.iload_n dX5_readNumbers_34 rfl ?_
      refine hC.iconst dX5_readNumbers_35 (v := nI 5) rfl ?_
      refine hC.icmp_ne dX5_readNumbers_36 (tgt := 72) rfl (fun _ => ?_) (fun c => absurd c (by decide))
      refine hC.iconst dX5_readNumbers_72 (v := nI 0) rfl ?_
      refine hC.istore dX5_readNumbers_73 (by decide) ?_
      refine hC.iload_n dX5_readNumbers_75 rfl ?_
      refine hC.iconst dX5_readNumbers_76 (v := nI 5) rfl ?_
      refine hC.icmp_ne dX5_readNumbers_77 (tgt := 92) rfl (fun _ => ?_) (fun c => absurd c (by decide))
      refine hC.iload_n dX5_readNumbers_92 rfl ?_
      refine hC.iconst dX5_readNumbers_93 (v := nI 2) rfl ?_
      refine hC.icmp_eq dX5_readNumbers_94 (tgt := 106) rfl (fun _ => ?_) (fun c => absurd (by decide) c)
      exact hC.loc rfl (k106o i3 b3 v NN 0 _ hi3 (by omega) (by decide) (fun z => absurd z (by decide)) (fun z => by omega) he hx3 hT3 ⟨hc0, show T.2 1 + 1 ≤ 8 by have := h2 rfl; omega, hc2, hc3⟩)
  · have he : C = match nuT t n 0 (T.2 1) i with
      | .error x => .error x
      | .ok (a, _, e) => if w - 1 = 2 then bdT t n T (w - 1) a 8 e else match nuT t n 0 (T.2 1) e with
        | .error x => .error x
        | .ok (b, jb, e2) => if w - 1 = 3 ∧ b = a then .error (4, jb) else bdT t n T (w - 1) a (if b = a then 8 else b) e2 := by rw [← hCg, rnT, if_neg hw2]; rfl
    refine hC.aload_n dX5_readNumbers_0 rfl ?_
    refine hC.iconst dX5_readNumbers_1 (v := nI 0) rfl ?_
    refine hC.iload_n dX5_readNumbers_2 rfl ?_
    refine hC.iconst dX5_readNumbers_3 (v := nI 2) rfl ?_
    refine hC.n_ne (by omega) (by omega) dX5_readNumbers_4 (tgt := 16) rfl (fun c0 => ?_) (fun c0 => ?_)
    · refine hC.aload_n dX5_readNumbers_16 rfl ?_
      refine hC.getfield dX5_readNumbers_17 lfX5_65 rfl rfl ?_
      refine hC.iconst dX5_readNumbers_20 (v := nI 1) rfl ?_
      refine hC.isub dX5_readNumbers_21 ?_
      refine hC.callV [0, 1] dX5_readNumbers_22 lmX5_74 mkX5_readNumber svX5_readNumber (ct_X5_readNumber l g t n 0 q i b 0 (P.2 1) hn ht hi (by decide) (by decide) (by omega)) ⟨Nat.le_of_ble_eq_true rfl, Nat.le_of_ble_eq_true rfl⟩ rfl rfl (Nat.le_of_ble_eq_true rfl) ⟨by decide, rfl⟩ rfl rfl (fun r hc2 hp hl => ?_)
      obtain ⟨v, i3, b3, hv, hi3, rfl, -, h1⟩ := hp
      have h1 := h1 rfl
      rw [p1] at h1
      cases hnu : nuT t n 0 (T.2 1) i with
      | error x =>
        obtain ⟨k, p⟩ := x
        rw [hnu] at h1 he
        obtain ⟨hk0, hk10, rfl⟩ := h1
        exact hC.loc rfl (k25e k p i3 b3 v hv he hk0 hk10 hi3)
      | ok y =>
        obtain ⟨a, ja, e⟩ := y
        have hal := nuT_lt hnu
        rw [hnu] at h1 he
        obtain ⟨rfl, rfl, rfl, rfl⟩ := h1
        have he : C = if w - 1 = 2 then bdT t n T (w - 1) v 8 i3 else match nuT t n 0 (T.2 1) i3 with
          | .error x => .error x
          | .ok (b, jb, e2) => if w - 1 = 3 ∧ b = v then .error (4, jb) else bdT t n T (w - 1) v (if b = v then 8 else b) e2 := he
        have k39 : w ≠ 3 → K 39 [(0, .ref 0), (1, .ref 2), (2, .int (nI w)), (3, .int (nI v))] [] (tpW g n 0 q i3 b3 P) := by
          intro hw3
          rw [if_neg (by omega)] at he
          refine hC.aload_n dX5_readNumbers_39 rfl ?_
          refine hC.iconst dX5_readNumbers_40 (v := nI 0) rfl ?_
          refine hC.aload_n dX5_readNumbers_41 rfl ?_
          refine hC.getfield dX5_readNumbers_42 lfX5_65 rfl rfl ?_
          refine hC.iconst dX5_readNumbers_45 (v := nI 1) rfl ?_
          refine hC.isub dX5_readNumbers_46 ?_
          refine hC.callV [0, 1] dX5_readNumbers_47 lmX5_74 mkX5_readNumber svX5_readNumber (ct_X5_readNumber l g t n 0 q i3 b3 0 (P.2 1) hn ht hi3 (by decide) (by decide) (by omega)) ⟨Nat.le_of_ble_eq_true rfl, Nat.le_of_ble_eq_true rfl⟩ rfl rfl (Nat.le_of_ble_eq_true rfl) ⟨by decide, rfl⟩ rfl rfl (fun r hc2 hp hl => ?_)
          obtain ⟨v4, i4, b4, hv4, hi4, rfl, -, h1⟩ := hp
          have h1 := h1 rfl
          rw [p1] at h1
          cases hnu2 : nuT t n 0 (T.2 1) i3 with
          | error x =>
            obtain ⟨k, p⟩ := x
            rw [hnu2] at h1 he
            obtain ⟨hk0, hk10, rfl⟩ := h1
            have he : C = .error (k, p) := he
            show K 50 _ [.int (nI v4)] (tpW g n k p i4 b4 P)
            refine hC.istore dX5_readNumbers_50 (by decide) ?_
            refine hC.iload_n dX5_readNumbers_52 rfl ?_
            refine hC.iconst dX5_readNumbers_53 (v := nI 4) rfl ?_
            refine hC.n_ne (by omega) (by omega) dX5_readNumbers_54 (tgt := 72) rfl (fun c => ?_) (fun c => ?_)
            · exact hC.loc rfl (k72e k p i4 b4 _ _ he hk0 hk10 hi4)
            · refine hC.iload_n dX5_readNumbers_57 rfl ?_
              refine hC.iload dX5_readNumbers_58 rfl ?_
              refine hC.n_ne (by omega) (by omega) dX5_readNumbers_60 (tgt := 72) rfl (fun c2 => ?_) (fun c2 => ?_)
              · exact hC.loc rfl (k72e k p i4 b4 _ _ he hk0 hk10 hi4)
              · refine hC.aload_n dX5_readNumbers_63 rfl ?_
                refine hC.iconst dX5_readNumbers_64 (v := nI 4) rfl ?_
                refine hC.aload_n dX5_readNumbers_65 rfl ?_
                refine hC.getfield dX5_readNumbers_66 lfX5_82 rfl rfl ?_
                refine hC.wuV (hs2 := tpW g n (if k = 0 then 4 else k) (if k = 0 then b4 else p) i4 b4 P) [0, 1] dX5_readNumbers_69 lmX5_50 mkX5_fail svX5_fail (ct_X5_fail l g n k p i4 b4 4 b4 (by omega)) ⟨Nat.le_of_ble_eq_true rfl, Nat.le_of_ble_eq_true rfl⟩ rfl rfl (Nat.le_of_ble_eq_true rfl) ⟨by decide, rfl⟩ rfl rfl rfl ?_
                rw [if_neg hk0, if_neg hk0]
                exact hC.loc rfl (k72e k p i4 b4 _ _ he hk0 hk10 hi4)
          | ok y =>
            obtain ⟨bb, jb, e2⟩ := y
            have hbl := nuT_lt hnu2
            rw [hnu2] at h1 he
            obtain ⟨rfl, rfl, rfl, rfl⟩ := h1
            have he : C = if w - 1 = 3 ∧ v4 = v then .error (4, b4) else bdT t n T (w - 1) v (if v4 = v then 8 else v4) i4 := he
            have h8 : (if v4 = v then 8 else v4) ≤ 8 := by split <;> omega
            have k72 : ¬ (w - 1 = 3 ∧ v4 = v) → K 72 [(0, .ref 0), (1, .ref 2), (2, .int (nI w)), (3, .int (nI v)), (4, .int (nI v4))] [] (tpW g n 0 q i4 b4 P) := by
              intro hno
              rw [if_neg hno] at he
              refine k72o i4 b4 v v4 (if v4 = v then 8 else v4) hw2 hi4 (by omega) h8 (fun _ => ⟨by omega, ?_⟩) (fun z => ?_) he
              · by_cases ev : v4 = v
                · rw [if_pos ev, if_pos ev]
                · rw [if_neg ev, if_neg ev]
              · have ev : ¬ v4 = v := fun z2 => hno ⟨by omega, z2⟩
                rw [if_neg ev]
                exact ⟨Or.inl (by omega), endB8 (by omega), if_neg (by omega)⟩
            show K 50 _ [.int (nI v4)] (tpW g n 0 q i4 b4 P)
            refine hC.istore dX5_readNumbers_50 (by decide) ?_
            refine hC.iload_n dX5_readNumbers_52 rfl ?_
            refine hC.iconst dX5_readNumbers_53 (v := nI 4) rfl ?_
            refine hC.n_ne (by omega) (by omega) dX5_readNumbers_54 (tgt := 72) rfl (fun c => ?_) (fun c => ?_)
            · exact hC.loc rfl (k72 (fun z => by omega))
            · refine hC.iload_n dX5_readNumbers_57 rfl ?_
              refine hC.iload dX5_readNumbers_58 rfl ?_
              refine hC.n_ne (by omega) (by omega) dX5_readNumbers_60 (tgt := 72) rfl (fun c2 => ?_) (fun c2 => ?_)
              · exact hC.loc rfl (k72 (fun z => c2 z.2.symm))
              · rw [if_pos ⟨by omega, c2.symm⟩] at he
                refine hC.aload_n dX5_readNumbers_63 rfl ?_
                refine hC.iconst dX5_readNumbers_64 (v := nI 4) rfl ?_
                refine hC.aload_n dX5_readNumbers_65 rfl ?_
                refine hC.getfield dX5_readNumbers_66 lfX5_82 rfl rfl ?_
                refine hC.wuV (hs2 := tpW g n 4 b4 i4 b4 P) [0, 1] dX5_readNumbers_69 lmX5_50 mkX5_fail svX5_fail (ct_X5_fail l g n 0 q i4 b4 4 b4 (by omega)) ⟨Nat.le_of_ble_eq_true rfl, Nat.le_of_ble_eq_true rfl⟩ rfl rfl (Nat.le_of_ble_eq_true rfl) ⟨by decide, rfl⟩ rfl rfl rfl ?_
                exact hC.loc rfl (k72e 4 b4 i4 b4 _ _ he (by decide) (by decide) hi4)
        show K 25 _ [.int (nI v)] (tpW g n 0 q i3 b3 P)
        refine hC.istore_n dX5_readNumbers_25 (by decide) ?_
        refine hC.iconst dX5_readNumbers_26 (v := (-1)) rfl ?_
        rw [m1_nI]
        refine hC.istore dX5_readNumbers_27 (by decide) ?_
        refine hC.iload_n dX5_readNumbers_29 rfl ?_
        refine hC.iconst dX5_readNumbers_30 (v := nI 4) rfl ?_
        refine hC.n_eq (by omega) (by omega) dX5_readNumbers_31 (tgt := 39) rfl (fun c => ?_) (fun c => ?_)
        · exact hC.loc rfl (k39 (by omega))
        · refine hC.iload_n dX5_readNumbers_34 rfl ?_
          refine hC.iconst dX5_readNumbers_35 (v := nI 5) rfl ?_
          refine hC.n_ne (by omega) (by omega) dX5_readNumbers_36 (tgt := 72) rfl (fun c2 => ?_) (fun c2 => ?_)
          · rw [if_pos (by omega)] at he
            exact hC.loc rfl (k72o i3 b3 v NN 8 hw2 hi3 (by omega) (by decide) (fun z => absurd z c2) (fun _ => ⟨Or.inr rfl, rfl, rfl⟩) he)
          · exact hC.loc rfl (k39 (by omega))
    · omega
