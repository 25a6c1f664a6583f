/-! StripFlag$Text: readColours, readNumbers, readClause, read -/
abbrev tpW (g : Nat → Int32) (n f q i b : Nat) (P : PlanT) : List va_E := [.inr (5, [.ref 1, .int (nI n), .int (nI f), .int (nI q), .int (nI i), .int (nI b)]), .inl (1, 500, .inl g), .inr (4, [.ref 3, .ref 4, .ref 5, .ref 6, .ref 7, .ref 8, .ref 9, .ref 10, .int (nI (P.2 0)), .int (nI (P.2 1)), .int (nI (P.2 2)), .int (nI (P.2 3))]), rowI 4 (P.1 0), rowI 8 (P.1 1), rowI 12 (P.1 2), rowI 12 (P.1 3), rowI 12 (P.1 4), rowI 12 (P.1 5), rowI 8 (P.1 6), rowI 8 (P.1 7)]
def PlX (P : PlanT) : Prop := PlanOK P ∧ (∀ s, P.1 4 s ≤ 9) ∧ (∀ a, P.1 1 a < 4)
def tdP (P : PlanT) (T : ToldT) : Prop := (∀ i, i < 4 → P.2 i = T.2 i) ∧ (∀ k, k < T.2 0 → P.1 0 k = T.1 0 k) ∧ (∀ k, k < T.2 1 → P.1 1 k = T.1 1 k) ∧ (∀ k, k < T.2 2 → P.1 2 k = T.1 2 k ∧ P.1 3 k = (if T.1 3 k = 8 then NN else T.1 3 k) ∧ P.1 4 k = T.1 4 k ∧ P.1 5 k = 2 ^ T.1 2 k ||| 2 ^ T.1 3 k) ∧ (∀ k, k < T.2 3 → P.1 6 k = 2 ^ T.1 2 (12 + k) ||| 2 ^ T.1 3 (12 + k) ∧ P.1 7 k = T.1 4 (12 + k)) ∧ (∀ k, T.2 2 ≤ k → k < 12 → P.1 4 k = 0)
theorem upd_all {p : Nat → Prop} {f : Nat → Nat} {k v : Nat} (hf : ∀ j, p (f j)) (hv : p v) (j : Nat) : p (updN f k v j) := by
  unfold updN; split
  · exact hv
  · exact hf j
theorem updN_if (f : Nat → Nat) (k v j : Nat) : updN f k v j = if j = k then v else f j := rfl
theorem tdP_col {P : PlanT} {T : ToldT} {v : Nat} (h : tdP P T) (hx : PlX P) (hc : T.2 0 < 4) (hv : v ≤ 99) : tdP (plV (plU P 0 (updN (P.1 0) (P.2 0) v)) 0 (P.2 0 + 1)) (adC T v) ∧ PlX (plV (plU P 0 (updN (P.1 0) (P.2 0) v)) 0 (P.2 0 + 1)) := by
  obtain ⟨h1, h2, h3, h4, h5, h6⟩ := h
  obtain ⟨⟨x1, x2, x3, x4, x5, x6, x7, x8⟩, y1, y2⟩ := hx
  have e := h1 0 (by decide)
  refine ⟨⟨fun i hi => ?_, fun k hk => ?_, h3, h4, h5, h6⟩, ⟨?_, x2, x3, x4, x5, x6, fun s => upd_all (p := fun z => z ≤ 99) x7 hv s, x8⟩, y1, y2⟩
  · show (if i = 0 then P.2 0 + 1 else P.2 i) = if i = 0 then T.2 0 + 1 else T.2 i
    split
    · rw [e]
    · exact h1 i hi
  · have hk : k < T.2 0 + 1 := hk
    show updN (P.1 0) (P.2 0) v k = updN (T.1 0) (T.2 0) v k
    rw [e, updN_if, updN_if]
    split
    · rfl
    · exact h2 k (by omega)
  · show P.2 0 + 1 ≤ 4
    omega
theorem tdP_strip {P : PlanT} {T : ToldT} {a b s : Nat} (h : tdP P T) (hx : PlX P) (hc : T.2 1 < 8) (ha : a < 4) : tdP (adP P 2 a b s) (adS T a) ∧ PlX (adP P 2 a b s) := by
  obtain ⟨h1, h2, h3, h4, h5, h6⟩ := h
  obtain ⟨⟨x1, x2, x3, x4, x5, x6, x7, x8⟩, y1, y2⟩ := hx
  have e := h1 1 (by decide)
  refine ⟨⟨fun i hi => ?_, h2, fun k hk => ?_, h4, h5, h6⟩, ⟨x1, ?_, x3, x4, x5, x6, x7, x8⟩, y1, fun s => upd_all (p := fun z => z < 4) y2 ha s⟩
  · show (if i = 1 then P.2 1 + 1 else P.2 i) = if i = 1 then T.2 1 + 1 else T.2 i
    split
    · rw [e]
    · exact h1 i hi
  · have hk : k < T.2 1 + 1 := hk
    show updN (P.1 1) (P.2 1) a k = updN (T.1 1) (T.2 1) a k
    rw [e, updN_if, updN_if]
    split
    · rfl
    · exact h3 k (by omega)
  · show P.2 1 + 1 ≤ 8
    omega
theorem tdP_seam {P : PlanT} {T : ToldT} {wd a bS bC s w : Nat} (h : tdP P T) (hx : PlX P) (hwd : wd ≠ 4) (hc : T.2 2 < 12) (ha : a < 8) (hb : bS ≤ 8) (hs : s ≤ 9) (he : endB bC = 2 ^ bS) (hN : (if bS = 8 then NN else bS) = bC) (hw2 : w ≠ 2) (hw5 : w ≠ 5) : tdP (adP P w a bC s) (adE T wd a bS s) ∧ PlX (adP P w a bC s) := by
  obtain ⟨h1, h2, h3, h4, h5, h6⟩ := h
  obtain ⟨⟨x1, x2, x3, x4, x5, x6, x7, x8⟩, y1, y2⟩ := hx
  have e := h1 2 (by decide)
  have e1 : adP P w a bC s = plV (plU (plU (plU (plU P 2 (updN (P.1 2) (P.2 2) a)) 3 (updN (P.1 3) (P.2 2) bC)) 5 (updN (P.1 5) (P.2 2) (2 ^ a ||| endB bC))) 4 (updN (P.1 4) (P.2 2) s)) 2 (P.2 2 + 1) := by unfold adP; rw [if_neg hw2, if_neg hw5]
  have e2 : adE T wd a bS s = (upR (upR (upR T.1 2 (updN (T.1 2) (T.2 2) a)) 3 (updN (T.1 3) (T.2 2) bS)) 4 (updN (T.1 4) (T.2 2) s), updN T.2 2 (T.2 2 + 1)) := by unfold adE; simp only [if_neg hwd]
  have h512 : 2 ^ a ||| endB bC < 512 := by
    rw [he]
    exact or_b 9 (Nat.pow_lt_pow_right (by decide) (by omega)) (Nat.pow_lt_pow_right (by decide) (by omega))
  rw [e1, e2]
  refine ⟨⟨fun i hi => ?_, h2, h3, fun k hk => ?_, fun k hk => ?_, fun k hk hk2 => ?_⟩, ⟨x1, x2, ?_, x4, fun s => upd_all (p := fun z => z < 512) x5 h512 s, x6, x7, x8⟩, fun j => upd_all (p := fun z => z ≤ 9) y1 hs j, y2⟩
  · show (if i = 2 then P.2 2 + 1 else P.2 i) = if i = 2 then T.2 2 + 1 else T.2 i
    split
    · rw [e]
    · exact h1 i hi
  · have hk : k < T.2 2 + 1 := hk
    show updN (P.1 2) (P.2 2) a k = updN (T.1 2) (T.2 2) a k ∧ updN (P.1 3) (P.2 2) bC k = (if updN (T.1 3) (T.2 2) bS k = 8 then NN else updN (T.1 3) (T.2 2) bS k) ∧ updN (P.1 4) (P.2 2) s k = updN (T.1 4) (T.2 2) s k ∧ updN (P.1 5) (P.2 2) (2 ^ a ||| endB bC) k = 2 ^ updN (T.1 2) (T.2 2) a k ||| 2 ^ updN (T.1 3) (T.2 2) bS k
    rw [e]
    by_cases ek : k = T.2 2
    · subst ek
      rw [updN_s, updN_s, updN_s, updN_s, updN_s, updN_s, updN_s, he]
      exact ⟨rfl, hN.symm, rfl, rfl⟩
    · rw [updN_n ek, updN_n ek, updN_n ek, updN_n ek, updN_n ek, updN_n ek, updN_n ek]
      exact h4 k (by omega)
  · have hk : k < T.2 3 := hk
    show P.1 6 k = 2 ^ updN (T.1 2) (T.2 2) a (12 + k) ||| 2 ^ updN (T.1 3) (T.2 2) bS (12 + k) ∧ P.1 7 k = updN (T.1 4) (T.2 2) s (12 + k)
    rw [updN_n (by omega), updN_n (by omega), updN_n (by omega)]
    exact h5 k hk
  · have hk : T.2 2 + 1 ≤ k := hk
    show updN (P.1 4) (P.2 2) s k = 0
    rw [updN_n (by omega)]
    exact h6 k (by omega) hk2
  · show P.2 2 + 1 ≤ 12
    omega
theorem tdP_could {P : PlanT} {T : ToldT} {a bS bC s : Nat} (h : tdP P T) (hx : PlX P) (hc : T.2 3 < 8) (hc2 : T.2 2 ≤ 12) (ha : a < 8) (hb : bS ≤ 8) (hs : s ≤ 99) (he : (if bC = a then 256 else 2 ^ bC) = 2 ^ bS) : tdP (adP P 5 a bC s) (adE T 4 a bS s) ∧ PlX (adP P 5 a bC s) := by
  obtain ⟨h1, h2, h3, h4, h5, h6⟩ := h
  obtain ⟨⟨x1, x2, x3, x4, x5, x6, x7, x8⟩, y1, y2⟩ := hx
  have e := h1 3 (by decide)
  have e1 : adP P 5 a bC s = plV (plU (plU P 6 (updN (P.1 6) (P.2 3) (2 ^ a ||| (if bC = a then 256 else 2 ^ bC)))) 7 (updN (P.1 7) (P.2 3) s)) 3 (P.2 3 + 1) := rfl
  have e2 : adE T 4 a bS s = (upR (upR (upR T.1 2 (updN (T.1 2) (12 + T.2 3) a)) 3 (updN (T.1 3) (12 + T.2 3) bS)) 4 (updN (T.1 4) (12 + T.2 3) s), updN T.2 3 (T.2 3 + 1)) := rfl
  have h512 : 2 ^ a ||| (if bC = a then 256 else 2 ^ bC) < 512 := by
    rw [he]
    exact or_b 9 (Nat.pow_lt_pow_right (by decide) (by omega)) (Nat.pow_lt_pow_right (by decide) (by omega))
  rw [e1, e2]
  refine ⟨⟨fun i hi => ?_, h2, h3, fun k hk => ?_, fun k hk => ?_, h6⟩, ⟨x1, x2, x3, ?_, x5, fun s => upd_all (p := fun z => z < 512) x6 h512 s, x7, fun j => upd_all (p := fun z => z ≤ 99) x8 hs j⟩, y1, y2⟩
  · show (if i = 3 then P.2 3 + 1 else P.2 i) = if i = 3 then T.2 3 + 1 else T.2 i
    split
    · rw [e]
    · exact h1 i hi
  · have hk : k < T.2 2 := hk
    show P.1 2 k = updN (T.1 2) (12 + T.2 3) a k ∧ P.1 3 k = (if updN (T.1 3) (12 + T.2 3) bS k = 8 then NN else updN (T.1 3) (12 + T.2 3) bS k) ∧ P.1 4 k = updN (T.1 4) (12 + T.2 3) s k ∧ P.1 5 k = 2 ^ updN (T.1 2) (12 + T.2 3) a k ||| 2 ^ updN (T.1 3) (12 + T.2 3) bS k
    rw [updN_n (by omega), updN_n (by omega), updN_n (by omega)]
    exact h4 k hk
  · have hk : k < T.2 3 + 1 := hk
    show updN (P.1 6) (P.2 3) (2 ^ a ||| (if bC = a then 256 else 2 ^ bC)) k = 2 ^ updN (T.1 2) (12 + T.2 3) a (12 + k) ||| 2 ^ updN (T.1 3) (12 + T.2 3) bS (12 + k) ∧ updN (P.1 7) (P.2 3) s k = updN (T.1 4) (12 + T.2 3) s (12 + k)
    rw [e]
    by_cases ek : k = T.2 3
    · subst ek
      rw [updN_s, updN_s, updN_s, updN_s, updN_s, he]
      exact ⟨rfl, rfl⟩
    · rw [updN_n ek, updN_n ek, updN_n (by omega), updN_n (by omega), updN_n (by omega)]
      exact h5 k (by omega)
  · show P.2 3 + 1 ≤ 8
    omega
def clX (g : Nat → Int32) (n q : Nat) (x : Except FaT (ToldT × Nat)) (h2 : List va_E) : Prop := match x with
  | .error (k, p) => ∃ P2 i2 b2, k ≠ 0 ∧ k < 10 ∧ i2 ≤ n ∧ PlX P2 ∧ h2 = tpW g n k p i2 b2 P2
  | .ok (T2, i2) => ∃ P2 b2, i2 ≤ n ∧ PlX P2 ∧ tdP P2 T2 ∧ TC T2 ∧ h2 = tpW g n 0 q i2 b2 P2
theorem nuT_lt {t : Nat → Nat} {n lo hx i a j e : Nat} (h : nuT t n lo hx i = .ok (a, j, e)) : lo ≤ a ∧ a < hx := by
  unfold nuT at h
  split at h
  · cases h
  · split at h
    · cases h
    · next hh => cases h; omega
set_option maxHeartbeats 4000000 in
set_option maxRecDepth 20000 in
theorem ct_X5_readColours (l : Launch) (g : Nat → Int32) (t : Nat → Nat) (n q i b : Nat) (P : PlanT) (T : ToldT) (hn : n ≤ 500) (ht : txB g t n) (hi : i ≤ n) (hx : PlX P) (hT : tdP P T) (h0 : T.2 0 = 0) (hc : TC T) : Ct l 4 yX5_readColours cX5_readColours 5 none [.ref 0, .ref 2] (tpW g n 0 q i b P) (fun r h2 => r = none ∧ clX g n q (coT t n 4 T i) h2) := by
  refine Ct.of (by decide) (Nat.le_of_ble_eq_true rfl) (fun K hC hR => ?_)
  show K 0 [(0, .ref 0), (1, .ref 2)] [] _
  obtain ⟨C, hCg⟩ : ∃ C, coT t n 4 T i = C := ⟨_, rfl⟩
  rw [hCg] at hR
  have k63e : ∀ k p i2 b2 z1 z2 z3 P2, C = .error (k, p) → k ≠ 0 → k < 10 → i2 ≤ n → PlX P2 → K 63 [(0, .ref 0), (1, .ref 2), (2, .int z1), (3, .int z2), (4, .int z3)] [] (tpW g n k p i2 b2 P2) := by
    intro k p i2 b2 z1 z2 z3 P2 he hk0 hk10 hi2 hx2
    rw [he] at hR
    refine hC.aload_n dX5_readColours_63 rfl ?_
    refine hC.getfield dX5_readColours_64 lfX5_27 rfl rfl ?_
    refine hC.nz (x := k) (by omega) dX5_readColours_67 (tgt := 71) rfl (fun c => absurd c hk0) (fun _ => ?_)
    exact hR.return_ dX5_readColours_70 ⟨rfl, P2, i2, b2, hk0, hk10, hi2, hx2, rfl⟩
  have loop : ∀ r (T2 : ToldT) (P2 : PlanT) (i2 b2 : Nat), T2.2 0 + (r + 1) = 4 → i2 ≤ n → PlX P2 → tdP P2 T2 → TC T2 → C = coT t n (r + 1) T2 i2 → K 2 [(0, .ref 0), (1, .ref 2), (2, .int (nI (T2.2 0)))] [] (tpW g n 0 q i2 b2 P2) := by
    intro r
    induction r using Nat.strongRecOn with
    | ind r ih =>
      intro T2 P2 i2 b2 hr hi2 hx2 hT2 hc2 heq
      have hst : coT t n (r + 1) T2 i2 = match nuT t n 0 100 i2 with
        | .error x => .error x
        | .ok (v, _, e) => if sc (spB t) n e < n ∧ t (sc (spB t) n e) = 59 then .ok (adC T2 v, sc (spB t) n e + 1) else if sc (spB t) n e < n ∧ t (sc (spB t) n e) = 44 ∧ r ≠ 0 then coT t n r (adC T2 v) (sc (spB t) n e + 1) else .error (1, sc (spB t) n e) := rfl
      rw [hst] at heq
      refine hC.iload_n dX5_readColours_2 rfl ?_
      refine hC.iconst dX5_readColours_3 (v := nI 4) rfl ?_
      refine hC.n_ge (a := T2.2 0) (b := 4) (by omega) (by omega) dX5_readColours_4 (tgt := 98) rfl (fun c => ?_) (fun _ => ?_)
      · omega
      · refine hC.aload_n dX5_readColours_7 rfl ?_
        refine hC.iconst dX5_readColours_8 (v := nI 0) rfl ?_
        refine hC.bipush dX5_readColours_9 (v := nI 99) rfl ?_
        rw [n99]
        refine hC.callV [0, 1] dX5_readColours_11 lmX5_74 mkX5_readNumber svX5_readNumber (ct_X5_readNumber l g t n 0 q i2 b2 0 100 hn ht hi2 (by decide) (by decide) (by decide)) ⟨Nat.le_of_ble_eq_true rfl, Nat.le_of_ble_eq_true rfl⟩ rfl rfl (Nat.le_of_ble_eq_true rfl) ⟨by decide, rfl⟩ rfl rfl (fun r hc2 hp hl => ?_)
        obtain ⟨v, i3, b3, hv, hi3, rfl, -, hp⟩ := hp
        have hp := hp rfl
        cases hnu : nuT t n 0 100 i2 with
        | error x =>
          obtain ⟨k, p⟩ := x
          rw [hnu] at hp heq
          obtain ⟨hk0, hk10, rfl⟩ := hp
          have heq : C = .error (k, p) := heq
          show K 14 _ [.int (nI v)] (tpW g n k p i3 b3 P2)
          have hj := sc_le (p := spB t) hi3
          have k35 : ∀ p2 : Bool, K 35 [(0, .ref 0), (1, .ref 2), (2, .int (nI (T2.2 0))), (3, .int (nI v)), (4, .int (nI p2.toNat))] [] (tpW g n k p (sc (spB t) n i3) b3 P2) := by
            intro p2
            have kf : K 54 [(0, .ref 0), (1, .ref 2), (2, .int (nI (T2.2 0))), (3, .int (nI v)), (4, .int (nI p2.toNat))] [] (tpW g n k p (sc (spB t) n i3) b3 P2) := by
              refine hC.aload_n dX5_readColours_54 rfl ?_
              refine hC.iconst dX5_readColours_55 (v := nI 1) rfl ?_
              refine hC.aload_n dX5_readColours_56 rfl ?_
              refine hC.getfield dX5_readColours_57 lfX5_30 rfl rfl ?_
              refine hC.wuV (hs2 := tpW g n (if k = 0 then 1 else k) (if k = 0 then sc (spB t) n i3 else p) (sc (spB t) n i3) b3 P2) [0, 1] dX5_readColours_60 lmX5_50 mkX5_fail svX5_fail (ct_X5_fail l g n k p (sc (spB t) n i3) b3 1 (sc (spB t) n i3) (by omega)) ⟨Nat.le_of_ble_eq_true rfl, Nat.le_of_ble_eq_true rfl⟩ rfl rfl (Nat.le_of_ble_eq_true rfl) ⟨by decide, rfl⟩ rfl rfl rfl ?_
              rw [if_neg hk0, if_neg hk0]
              exact k63e k p _ b3 _ _ _ P2 heq hk0 hk10 hj hx2
            refine hC.iload dX5_readColours_35 rfl ?_
            refine hC.bnz dX5_readColours_37 (tgt := 63) rfl (fun c1 => ?_) (fun c1 => ?_)
            · exact hC.loc rfl (k63e k p _ b3 _ _ _ P2 heq hk0 hk10 hj hx2)
            · refine hC.aload_n dX5_readColours_40 rfl ?_
              refine hC.rdV [0, 1] dX5_readColours_41 lmX5_36 mkX5_sign svX5_sign (ct_X5_sign l g t n k p (sc (spB t) n i3) b3 hn ht hj) ⟨Nat.le_of_ble_eq_true rfl, Nat.le_of_ble_eq_true rfl⟩ rfl rfl (Nat.le_of_ble_eq_true rfl) ⟨by decide, rfl⟩ rfl rfl ?_
              refine hC.bipush dX5_readColours_44 (v := nI 44) rfl ?_
              refine hC.icmp_ne dX5_readColours_46 (tgt := 54) rfl (fun c2 => ?_) (fun c2 => ?_)
              · exact hC.loc rfl kf
              · refine hC.iload_n dX5_readColours_49 rfl ?_
                refine hC.iconst dX5_readColours_50 (v := nI 3) rfl ?_
                refine hC.n_ne (by omega) (by omega) dX5_readColours_51 (tgt := 63) rfl (fun c3 => ?_) (fun c3 => ?_)
                · exact hC.loc rfl (k63e k p _ b3 _ _ _ P2 heq hk0 hk10 hj hx2)
                · exact hC.loc rfl kf
          refine hC.istore_n dX5_readColours_14 (by decide) ?_
          refine hC.aload_n dX5_readColours_15 rfl ?_
          refine hC.wuV (hs2 := tpW g n k p (sc (spB t) n i3) b3 P2) [0, 1] dX5_readColours_16 lmX5_33 mkX5_skipBlanks svX5_skipBlanks (ct_X5_skipBlanks l g t n k p i3 b3 hn ht hi3) ⟨Nat.le_of_ble_eq_true rfl, Nat.le_of_ble_eq_true rfl⟩ rfl rfl (Nat.le_of_ble_eq_true rfl) ⟨by decide, rfl⟩ rfl rfl rfl ?_
          refine hC.aload_n dX5_readColours_19 rfl ?_
          refine hC.rdV [0, 1] dX5_readColours_20 lmX5_36 mkX5_sign svX5_sign (ct_X5_sign l g t n k p (sc (spB t) n i3) b3 hn ht hj) ⟨Nat.le_of_ble_eq_true rfl, Nat.le_of_ble_eq_true rfl⟩ rfl rfl (Nat.le_of_ble_eq_true rfl) ⟨by decide, rfl⟩ rfl rfl ?_
          refine hC.bipush dX5_readColours_23 (v := nI 59) rfl ?_
          refine hC.icmp_ne dX5_readColours_25 (tgt := 32) rfl (fun c => ?_) (fun c => ?_)
          · refine hC.iconst dX5_readColours_32 (v := nI 0) rfl ?_
            refine hC.istore dX5_readColours_33 (by decide) ?_
            exact hC.loc rfl (k35 false)
          · refine hC.iconst dX5_readColours_28 (v := nI 1) rfl ?_
            refine hC.goto dX5_readColours_29 (tgt := 33) rfl ?_
            refine hC.istore dX5_readColours_33 (by decide) ?_
            exact hC.loc rfl (k35 true)
        | ok y =>
          obtain ⟨a, jb, e⟩ := y
          have hva := nuT_lt hnu
          rw [hnu] at hp heq
          obtain ⟨rfl, rfl, rfl, rfl⟩ := hp
          have heq : C = if sc (spB t) n i3 < n ∧ t (sc (spB t) n i3) = 59 then .ok (adC T2 v, sc (spB t) n i3 + 1) else if sc (spB t) n i3 < n ∧ t (sc (spB t) n i3) = 44 ∧ r ≠ 0 then coT t n r (adC T2 v) (sc (spB t) n i3 + 1) else .error (1, sc (spB t) n i3) := heq
          show K 14 _ [.int (nI v)] (tpW g n 0 q i3 b3 P2)
          have hj := sc_le (p := spB t) hi3
          obtain ⟨hT3, hx3⟩ := tdP_col hT2 hx2 (show T2.2 0 < 4 by omega) (show v ≤ 99 by omega)
          have hc3 : TC (adC T2 v) := ⟨show T2.2 0 + 1 ≤ 4 by omega, hc2.2.1, hc2.2.2.1, hc2.2.2.2⟩
          have h20 := hT2.1 0 (by decide)
          refine hC.istore_n dX5_readColours_14 (by decide) ?_
          refine hC.aload_n dX5_readColours_15 rfl ?_
          refine hC.wuV (hs2 := tpW g n 0 q (sc (spB t) n i3) b3 P2) [0, 1] dX5_readColours_16 lmX5_33 mkX5_skipBlanks svX5_skipBlanks (ct_X5_skipBlanks l g t n 0 q i3 b3 hn ht hi3) ⟨Nat.le_of_ble_eq_true rfl, Nat.le_of_ble_eq_true rfl⟩ rfl rfl (Nat.le_of_ble_eq_true rfl) ⟨by decide, rfl⟩ rfl rfl rfl ?_
          generalize sc (spB t) n i3 = j at hj heq ⊢
          have k71 : j < n → ∀ p2 : Bool, K 86 [(0, .ref 0), (1, .ref 2), (2, .int (nI (T2.2 0))), (3, .int (nI v)), (4, .int (nI p2.toNat))] [] (tpW g n 0 q (j + 1) b3 (plV (plU P2 0 (updN (P2.1 0) (P2.2 0) v)) 0 (P2.2 0 + 1))) → K 63 [(0, .ref 0), (1, .ref 2), (2, .int (nI (T2.2 0))), (3, .int (nI v)), (4, .int (nI p2.toNat))] [] (tpW g n 0 q j b3 P2) := by
            intro hjn p2 hk
            refine hC.aload_n dX5_readColours_63 rfl ?_
            refine hC.getfield dX5_readColours_64 lfX5_27 rfl rfl ?_
            refine hC.nz (x := 0) (by omega) dX5_readColours_67 (tgt := 71) rfl (fun _ => ?_) (fun c => absurd rfl c)
            refine hC.aload_n dX5_readColours_71 rfl ?_
            refine hC.iload_n dX5_readColours_72 rfl ?_
            refine hC.wuV (hs2 := tpW g n 0 q j b3 (plV (plU P2 0 (updN (P2.1 0) (P2.2 0) v)) 0 (P2.2 0 + 1))) [2, 3, 4, 5, 6, 7, 8, 9, 10] dX5_readColours_73 lmX5_78 mkX4_addColour svX4_addColour (ct_X4_addColour l P2 v (by omega)) ⟨Nat.le_of_ble_eq_true rfl, Nat.le_of_ble_eq_true rfl⟩ rfl rfl (Nat.le_of_ble_eq_true rfl) ⟨by decide, rfl⟩ rfl rfl rfl ?_
            refine hC.aload_n dX5_readColours_76 rfl ?_
            refine hC.dup dX5_readColours_77 rfl ?_
            refine hC.getfield dX5_readColours_78 lfX5_30 rfl rfl ?_
            refine hC.iconst dX5_readColours_81 (v := nI 1) rfl ?_
            refine hC.iadd dX5_readColours_82 ?_
            rw [nI_add]
            refine hC.putI dX5_readColours_83 lpX5_30 rfl rfl rfl (Nat.le_of_ble_eq_true rfl) ?_
            exact hC.loc rfl hk
          refine hC.aload_n dX5_readColours_19 rfl ?_
          refine hC.rdV [0, 1] dX5_readColours_20 lmX5_36 mkX5_sign svX5_sign (ct_X5_sign l g t n 0 q j b3 hn ht hj) ⟨Nat.le_of_ble_eq_true rfl, Nat.le_of_ble_eq_true rfl⟩ rfl rfl (Nat.le_of_ble_eq_true rfl) ⟨by decide, rfl⟩ rfl rfl ?_
          refine hC.bipush dX5_readColours_23 (v := nI 59) rfl ?_
          refine hC.icmp_ne dX5_readColours_25 (tgt := 32) rfl (fun c => ?_) (fun c => ?_)
          · have c1 : ¬ (j < n ∧ t j = 59) := fun z => c ((sg_eq (sg_lt ht j) (by decide)).mpr ((sg_of (by decide)).mpr z))
            rw [if_neg c1] at heq
            have k54 : ¬ (j < n ∧ t j = 44 ∧ r ≠ 0) → K 54 [(0, .ref 0), (1, .ref 2), (2, .int (nI (T2.2 0))), (3, .int (nI v)), (4, .int (nI 0))] [] (tpW g n 0 q j b3 P2) := by
              intro hno
              rw [if_neg hno] at heq
              refine hC.aload_n dX5_readColours_54 rfl ?_
              refine hC.iconst dX5_readColours_55 (v := nI 1) rfl ?_
              refine hC.aload_n dX5_readColours_56 rfl ?_
              refine hC.getfield dX5_readColours_57 lfX5_30 rfl rfl ?_
              refine hC.wuV (hs2 := tpW g n 1 j j b3 P2) [0, 1] dX5_readColours_60 lmX5_50 mkX5_fail svX5_fail (ct_X5_fail l g n 0 q j b3 1 j (by omega)) ⟨Nat.le_of_ble_eq_true rfl, Nat.le_of_ble_eq_true rfl⟩ rfl rfl (Nat.le_of_ble_eq_true rfl) ⟨by decide, rfl⟩ rfl rfl rfl ?_
              exact k63e 1 j j b3 _ _ _ P2 heq (by decide) (by decide) hj hx2
            refine hC.iconst dX5_readColours_32 (v := nI 0) rfl ?_
            refine hC.istore dX5_readColours_33 (by decide) ?_
            refine hC.iload dX5_readColours_35 rfl ?_
            refine hC.if_ne dX5_readColours_37 (tgt := 63) rfl (fun c => absurd c (by decide)) (fun _ => ?_)
            refine hC.aload_n dX5_readColours_40 rfl ?_
            refine hC.rdV [0, 1] dX5_readColours_41 lmX5_36 mkX5_sign svX5_sign (ct_X5_sign l g t n 0 q j b3 hn ht hj) ⟨Nat.le_of_ble_eq_true rfl, Nat.le_of_ble_eq_true rfl⟩ rfl rfl (Nat.le_of_ble_eq_true rfl) ⟨by decide, rfl⟩ rfl rfl ?_
            refine hC.bipush dX5_readColours_44 (v := nI 44) rfl ?_
            refine hC.icmp_ne dX5_readColours_46 (tgt := 54) rfl (fun c2 => ?_) (fun c2 => ?_)
            · exact hC.loc rfl (k54 (fun z => c2 ((sg_eq (sg_lt ht j) (by decide)).mpr ((sg_of (by decide)).mpr ⟨z.1, z.2.1⟩))))
            · have c3 := (sg_of (by decide)).mp ((sg_eq (sg_lt ht j) (by decide)).mp c2)
              refine hC.iload_n dX5_readColours_49 rfl ?_
              refine hC.iconst dX5_readColours_50 (v := nI 3) rfl ?_
              refine hC.n_ne (a := T2.2 0) (b := 3) (by omega) (by omega) dX5_readColours_51 (tgt := 63) rfl (fun c4 => ?_) (fun c4 => ?_)
              · obtain ⟨r2, rfl⟩ : ∃ r2, r = r2 + 1 := ⟨r - 1, by omega⟩
                rw [if_pos ⟨c3.1, c3.2, by omega⟩] at heq
                have k2 := ih r2 (by omega) (adC T2 v) _ (j + 1) b3 (show T2.2 0 + 1 + (r2 + 1) = 4 by omega) (by omega) hx3 hT3 hc3 heq
                refine hC.loc rfl (k71 c3.1 false ?_)
                refine hC.iload dX5_readColours_86 rfl ?_
                refine hC.if_eq dX5_readColours_88 (tgt := 92) rfl (fun _ => ?_) (fun c => absurd (by decide) c)
                refine hC.iinc dX5_readColours_92 rfl (nI_1 _) (by decide) ?_
                refine hC.goto dX5_readColours_95 (tgt := 2) rfl ?_
                exact hC.loc rfl k2
              · exact hC.loc rfl (k54 (fun z => z.2.2 (by omega)))
          · have c1 := (sg_of (by decide)).mp ((sg_eq (sg_lt ht j) (by decide)).mp c)
            rw [if_pos c1] at heq
            refine hC.iconst dX5_readColours_28 (v := nI 1) rfl ?_
            refine hC.goto dX5_readColours_29 (tgt := 33) rfl ?_
            refine hC.istore dX5_readColours_33 (by decide) ?_
            refine hC.iload dX5_readColours_35 rfl ?_
            refine hC.if_ne dX5_readColours_37 (tgt := 63) rfl (fun _ => ?_) (fun c => absurd c (by decide))
            refine hC.loc rfl (k71 c1.1 true ?_)
            rw [heq] at hR
            refine hC.iload dX5_readColours_86 rfl ?_
            refine hC.if_eq dX5_readColours_88 (tgt := 92) rfl (fun c => absurd c (by decide)) (fun _ => ?_)
            exact hR.return_ dX5_readColours_91 ⟨rfl, _, b3, by omega, hx3, hT3, hc3, rfl⟩
  refine hC.iconst dX5_readColours_0 (v := nI 0) rfl ?_
  refine hC.istore_n dX5_readColours_1 (by decide) ?_
  have l0 := loop 3 T P i b (by omega) hi hx hT hc hCg.symm
  rw [h0] at l0
  exact hC.loc rfl l0
