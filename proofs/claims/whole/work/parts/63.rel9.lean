/-! the two sides' answers: colours -/
section ANS7
variable {P : PlanT} {Q : ClothT} {R : Nat → Nat → Nat} {F : Nat → Nat}
theorem alB_all {p : Nat → Bool} : ∀ n, alB p n = true ↔ ∀ i, i < n → p i = true
  | 0 => ⟨fun _ i hi => by omega, fun _ => rfl⟩
  | n + 1 => by
    rw [alB, Bool.and_eq_true, alB_all n]
    constructor
    · rintro ⟨h1, h2⟩ i hi
      by_cases e : i = n
      · subst e; exact h2
      · exact h1 i (by omega)
    · intro h
      exact ⟨fun i hi => h i (by omega), h n (by omega)⟩
theorem apB_all {nr f : Nat → Nat} {a : Nat} : apB nr f a = true ↔ ∀ b, b < a → (nr a).testBit b = true → f b ≠ f a := by
  rw [apB, alB_all]
  constructor
  · intro h b hb hn
    have := h b hb
    rw [apP, hn] at this
    simpa using this
  · intro h b hb
    rw [apP]
    cases hn : (nr a).testBit b
    · rfl
    · simpa using h b hb hn
theorem unF_tb {T : PaintT} {a c : Nat} : (unF T a).testBit c = true ↔ ∃ b, b < a ∧ (T.2.2.2 1 a).testBit b = true ∧ T.2.2.2 3 b = c := by
  rw [unF, orF_tb]
  constructor
  · rintro ⟨b, h1, h2⟩
    unfold unG at h2
    split at h2
    · next h => rw [Nat.testBit_two_pow, decide_eq_true_eq] at h2; exact ⟨b, h1, h, h2⟩
    · simp at h2
  · rintro ⟨b, h1, h2, h3⟩
    exact ⟨b, h1, by rw [unG, if_pos h2, h3]; exact Nat.testBit_two_pow_self⟩
/-- a colour of a strip is apart from those before it: on both sides alike -/
theorem un_ap {T : PaintT} {nr f : Nat → Nat} {a c : Nat} (hn : T.2.2.2 1 a = nr a) (hf : ∀ j, j < a → T.2.2.2 3 j = f j) : (!(unF T a).testBit c) = apB nr (updN f a c) a := by
  have : (unF T a).testBit c = true ↔ ¬ apB nr (updN f a c) a = true := by
    rw [unF_tb, apB_all, updN_s]
    constructor
    · rintro ⟨b, h1, h2, h3⟩ h
      refine h b h1 (hn ▸ h2) ?_
      rw [updN_n (by omega), ← hf b h1, h3]
    · intro h
      apply Classical.byContradiction
      intro hne
      refine h (fun b h1 h2 e => hne ⟨b, h1, by rw [hn]; exact h2, ?_⟩)
      rw [updN_n (by omega)] at e
      rw [hf b h1, e]
  cases h1 : (unF T a).testBit c <;> cases h2 : apB nr (updN f a c) a
  · rw [h1, h2] at this; exact absurd (this.mpr (by decide)) (by decide)
  · rfl
  · rfl
  · rw [h1, h2] at this; exact absurd rfl (this.mp rfl)
theorem lfS_ne {pr : Nat → Nat} {S : Nat} : ∀ (xs : List (Nat → Nat)) (σ : RwT), σ.1 ≠ 0 → (∀ g ∈ xs, σ.2.1 ≤ sm (fun j => pr (g j)) S) → (xs.foldl (lfS pr S) σ).1 ≠ 0 ∧ (xs.foldl (lfS pr S) σ).2.1 = σ.2.1 ∧ (xs.foldl (lfS pr S) σ).2.2.2 = σ.2.2.2
  | [], σ, h, _ => ⟨h, rfl, rfl⟩
  | x :: xs, σ, h, hx => by
    rw [List.foldl_cons]
    have h1 := hx x List.mem_cons_self
    have hn : ¬ (σ.1 = 0 ∨ sm (fun j => pr (x j)) S < σ.2.1) := by omega
    have e1 : (lfS pr S σ x).2.1 = σ.2.1 := if_neg hn
    have e2 : (lfS pr S σ x).2.2.2 = σ.2.2.2 := if_neg hn
    obtain ⟨r1, r2, r3⟩ := lfS_ne (pr := pr) (S := S) xs (lfS pr S σ x) (Nat.succ_ne_zero _) (fun g hg => by rw [e1]; exact hx g (List.mem_cons_of_mem _ hg))
    exact ⟨r1, r2.trans e1, r3.trans e2⟩
theorem sm_low {pr f g : Nat → Nat} {a ch : Nat} (h1 : ∀ j, j < a → g j = f j) : ∀ k, (∀ j, a ≤ j → j < a + k → ch ≤ pr (g j)) → sm (fun j => pr (f j)) a + k * ch ≤ sm (fun j => pr (g j)) (a + k)
  | 0, _ => by
    rw [Nat.zero_mul]
    exact Nat.le_of_eq (sm_cg a (fun j hj => by rw [h1 j hj]))
  | k + 1, h2 => by
    have ih := sm_low h1 k (fun j ha hb => h2 j ha (by omega))
    have := h2 (a + k) (by omega) (by omega)
    rw [show a + (k + 1) = (a + k) + 1 from rfl, sm, Nat.succ_mul]
    omega
/-- what a painter and what rows keeps: found, least, the least one -/
def StP (S : Nat) (X : PaintT) (σ : RwT) : Prop := (X.1 = true ↔ σ.1 ≠ 0) ∧ (X.1 = true → X.2.1 = σ.2.1 ∧ ∀ j, j < S → X.2.2.2 0 j = σ.2.2.2 j)
def KpP (a : Nat) (X Y : PaintT) : Prop := Y.2.2.1 = X.2.2.1 ∧ Y.2.2.2 1 = X.2.2.2 1 ∧ Y.2.2.2 2 = X.2.2.2 2 ∧ ∀ j, j < a → Y.2.2.2 3 j = X.2.2.2 3 j
theorem KpP_rf (a : Nat) (X : PaintT) : KpP a X X := ⟨rfl, rfl, rfl, fun _ _ => rfl⟩
theorem pf_fold {nr lf pr : Nat → Nat} (hC4 : P.2 0 ≤ 4) (hpr : ∀ c, c < P.2 0 → priceF P c = pr c) : ∀ k a X σ f, a + k = P.2 1 → (∀ j, j < P.2 1 → X.2.2.2 1 j = nr j) → (∀ c, c < P.2 0 → X.2.2.1 ≤ pr c) → (∀ j, j < a → X.2.2.2 3 j = f j) → StP (P.2 1) X σ → StP (P.2 1) (pfX P k (sm (fun j => pr (f j)) a) X) ((colL nr lf true (P.2 0) k a f).foldl (lfS pr (P.2 1)) σ) ∧ KpP a X (pfX P k (sm (fun j => pr (f j)) a) X)
  | 0, a, X, σ, f, ha, hn, hc, hf, hs => by
    have ha : a = P.2 1 := by omega
    obtain ⟨s1, s2⟩ := hs
    rw [pfX, colL, List.foldl_cons, List.foldl_nil, ← ha]
    rw [← ha] at s2
    by_cases c : X.1 = true ∧ X.2.1 ≤ sm (fun j => pr (f j)) a
    · rw [if_pos c]
      refine ⟨⟨⟨fun _ => Nat.succ_ne_zero _, fun _ => c.1⟩, fun h => ?_⟩, KpP_rf _ _⟩
      obtain ⟨e1, e2⟩ := s2 h
      have hn : ¬ (σ.1 = 0 ∨ sm (fun j => pr (f j)) a < σ.2.1) := by
        have := s1.mp h
        have := c.2
        omega
      refine ⟨e1.trans (if_neg hn).symm, fun j hj => (e2 j hj).trans ?_⟩
      show _ = (if σ.1 = 0 ∨ sm (fun j => pr (f j)) a < σ.2.1 then rowL f σ.2.2.2 a else σ.2.2.2) j
      rw [if_neg hn]
    · rw [if_neg c]
      have hy : σ.1 = 0 ∨ sm (fun j => pr (f j)) a < σ.2.1 := by
        by_cases hz : σ.1 = 0
        · exact Or.inl hz
        · have h := s1.mpr hz
          obtain ⟨e1, e2⟩ := s2 h
          refine Or.inr ?_
          apply Classical.byContradiction
          intro hh
          exact c ⟨h, by omega⟩
      refine ⟨⟨⟨fun _ => Nat.succ_ne_zero _, fun _ => rfl⟩, fun _ => ⟨(if_pos hy).symm, fun j hj => ?_⟩⟩, rfl, rfl, rfl, fun _ _ => rfl⟩
      show upR X.2.2.2 0 (X.2.2.2 3) 0 j = (if σ.1 = 0 ∨ sm (fun j => pr (f j)) a < σ.2.1 then rowL f σ.2.2.2 a else σ.2.2.2) j
      rw [if_pos hy, rowL, if_pos hj]
      exact hf j hj
  | k + 1, a, X, σ, f, ha, hn, hc, hf, hs => by
    have ea : P.2 1 - (k + 1) = a := by omega
    rw [pfX, ea]
    by_cases c : X.1 = true ∧ X.2.1 ≤ sm (fun j => pr (f j)) a + (k + 1) * X.2.2.1
    · rw [if_pos c]
      obtain ⟨s1, s2⟩ := hs
      obtain ⟨e1, e2⟩ := s2 c.1
      obtain ⟨r1, r2, r3⟩ := lfS_ne (pr := pr) (S := P.2 1) (colL nr lf true (P.2 0) (k + 1) a f) σ (s1.mp c.1) (fun g hg => by
        obtain ⟨m1, m2⟩ := colL_mem _ _ _ g hg
        have := sm_low (pr := pr) (f := f) (g := g) (a := a) (ch := X.2.2.1) m1 (k + 1) (fun j h1 h2 => hc _ (m2 j h1 h2))
        rw [ha] at this
        have := c.2
        omega)
      exact ⟨⟨⟨fun _ => r1, fun _ => c.1⟩, fun _ => ⟨e1.trans r2.symm, fun j hj => (e2 j hj).trans (by rw [r3])⟩⟩, KpP_rf _ _⟩
    · rw [if_neg c, colL]
      have ih := pf_fold (nr := nr) (lf := lf) hC4 hpr k (a + 1)
      have hmay : ∀ c, (andn (2 ^ P.2 0 - 1) (unF X a)).testBit c = (decide (c < P.2 0) && okC nr lf true f a c) := fun c => by
        rw [andn_tb, Nat.testBit_two_pow_sub_one, okC, un_ap (hn a (by omega)) hf]
        rfl
      have lp : ∀ C, C ≤ P.2 0 → StP (P.2 1) (ptL (fun c Y => pfX P k (sm (fun j => pr (f j)) a + priceF P c) (setR Y 3 (updN (Y.2.2.2 3) a c))) (andn (2 ^ P.2 0 - 1) (unF X a)) X C) ((apl (fun c => if okC nr lf true f a c = true then colL nr lf true (P.2 0) k (a + 1) (updN f a c) else []) C).foldl (lfS pr (P.2 1)) σ) ∧ KpP a X (ptL (fun c Y => pfX P k (sm (fun j => pr (f j)) a + priceF P c) (setR Y 3 (updN (Y.2.2.2 3) a c))) (andn (2 ^ P.2 0 - 1) (unF X a)) X C) := by
        intro C
        induction C with
        | zero => intro _; exact ⟨hs, KpP_rf _ _⟩
        | succ C ihC =>
          intro hCC
          obtain ⟨i1, i2⟩ := ihC (by omega)
          rw [ptL, apl, List.foldl_append, hmay, decide_eq_true (show C < P.2 0 by omega), Bool.true_and]
          generalize ptL (fun c Y => pfX P k (sm (fun j => pr (f j)) a + priceF P c) (setR Y 3 (updN (Y.2.2.2 3) a c))) (andn (2 ^ P.2 0 - 1) (unF X a)) X C = Y at i1 i2 ⊢
          generalize (apl (fun c => if okC nr lf true f a c = true then colL nr lf true (P.2 0) k (a + 1) (updN f a c) else []) C).foldl (lfS pr (P.2 1)) σ = τ at i1 ⊢
          by_cases ho : okC nr lf true f a C = true
          · rw [if_pos ho, if_pos ho]
            obtain ⟨k1, k2, k3, k4⟩ := i2
            have hsm : sm (fun j => pr (updN f a C j)) (a + 1) = sm (fun j => pr (f j)) a + priceF P C := by
              rw [sm, updN_s, hpr C (by omega)]
              congr 1
              exact sm_cg a (fun j hj => by rw [updN_n (by omega)])
            obtain ⟨j1, j2⟩ := ih (setR Y 3 (updN (Y.2.2.2 3) a C)) τ (updN f a C) (by omega) (fun j hj => by
              show Y.2.2.2 1 j = _
              exact (congrFun k2 j).trans (hn j hj)) (fun c hcc => by
              show Y.2.2.1 ≤ _
              rw [k1]; exact hc c hcc) (fun j hj => by
              show updN (Y.2.2.2 3) a C j = updN f a C j
              unfold updN; split
              · rfl
              · exact (k4 j (by omega)).trans (hf j (by omega))) i1
            rw [hsm] at j1 j2
            obtain ⟨q1, q2, q3, q4⟩ := j2
            refine ⟨j1, q1.trans k1, q2.trans k2, q3.trans k3, fun j hj => (q4 j (by omega)).trans ?_⟩
            show updN (Y.2.2.2 3) a C j = _
            rw [updN_n (by omega)]
            exact k4 j hj
          · rw [if_neg ho, if_neg ho]
            exact ⟨i1, i2⟩
      have up : ∀ d, ptL (fun c Y => pfX P k (sm (fun j => pr (f j)) a + priceF P c) (setR Y 3 (updN (Y.2.2.2 3) a c))) (andn (2 ^ P.2 0 - 1) (unF X a)) X (P.2 0 + d) = ptL (fun c Y => pfX P k (sm (fun j => pr (f j)) a + priceF P c) (setR Y 3 (updN (Y.2.2.2 3) a c))) (andn (2 ^ P.2 0 - 1) (unF X a)) X (P.2 0) := by
        intro d
        induction d with
        | zero => rfl
        | succ d ihd =>
          rw [show P.2 0 + (d + 1) = (P.2 0 + d) + 1 from rfl, ptL, if_neg (by rw [hmay, decide_eq_false (show ¬ P.2 0 + d < P.2 0 by omega)]; simp), ihd]
      have e4 := up (4 - P.2 0)
      rw [show P.2 0 + (4 - P.2 0) = 4 by omega] at e4
      rw [e4]
      exact lp (P.2 0) (Nat.le_refl _)
theorem chF_min (P : PlanT) : ∀ n c, c < n → chF P n ≤ P.1 0 c
  | 0, c, h => by omega
  | n + 1, c, h => by
    rw [chF]
    by_cases e : c = n
    · subst e; exact Nat.min_le_right _ _
    · exact Nat.le_trans (Nat.min_le_left _ _) (chF_min P n c (by omega))
theorem PR.nr (hP : PR P R F) {m j : Nat} (hv : ∀ s, m.testBit s = true → s < F 8) (hj : j < F 7) : bdF P j m = rowL (nrG R F m) (R 22) 8 j := by
  have h8 := hP.2.1.2.1
  rw [rowL, if_pos (by omega), nrG, if_pos hj, hP.near (by omega) hv]
theorem a_col (hP : PR P R F) (hQ : CR Q R F) (T : PaintT) (x : Int32) : (sCol P Q T x).1 = mCol R F x := by
  obtain ⟨g6, g7, g8, g9⟩ := hP.2.2.1
  have h8 := hP.2.1.2.1
  have h4 := hP.2.1.1
  have hv : ∀ s, (thF (stM R F) 0).testBit s = true → s < F 8 := fun s hs => thF_v hs
  have hpr : ∀ c, c < P.2 0 → priceF P c = R 8 c := fun c hc => by
    rw [priceF, if_pos hc]
    exact (hP.2.2.2.1 c (by omega)).symm
  have key := (pf_fold (P := P) (nr := rowL (nrG R F (thF (stM R F) 0)) (R 22) 8) (lf := R 10) (pr := R 8) (by omega) hpr (P.2 1) 0 (pnX T P (thF Q.1 0)) (0, 0, rowL (fun _ => 0) (R 21) 8, R 20) (rowL (fun _ => NN) (R 19) 8) (by omega) (fun j hj => by
      show rowL (fun a => bdF P a (thF Q.1 0)) (T.2.2.2 1) 8 j = _
      rw [rowL, if_pos (by omega), thF_e hQ]
      exact hP.nr hv (by omega)) (fun c hc => by
      show chF P (P.2 0) ≤ _
      rw [hP.2.2.2.1 c (by omega)]
      exact chF_min P _ c hc) (fun j hj => by omega) ⟨⟨fun z => absurd (show false = true from z) (by decide), fun z => absurd rfl z⟩, fun z => absurd (show false = true from z) (by decide)⟩).1
  rw [← g6, ← g7] at key
  have e : (colL (rowL (nrG R F (thF (stM R F) 0)) (R 22) 8) (R 10) true (F 6) (F 7) 0 (rowL (fun _ => NN) (R 19) 8)).foldl (lfS (R 8) (F 7)) (0, 0, rowL (fun _ => 0) (R 21) 8, R 20) = rwF R F true := rfl
  rw [e] at key
  have e2 : pnT P Q T = pfX P (F 7) (sm (fun j => R 8 (rowL (fun _ => NN) (R 19) 8 j)) 0) (pnX T P (thF Q.1 0)) := by rw [pnT, ← g7]; rfl
  rw [← e2] at key
  rw [sCol, mCol, m1_nI, ← g7]
  generalize pnT P Q T = Y at key ⊢
  generalize rwF R F true = σ at key ⊢
  obtain ⟨s1, s2⟩ := key
  by_cases c1 : x = nI NN ∨ inB x (F 7) = true
  · rw [if_pos c1, if_pos c1]
    by_cases c2 : Y.1 = true
    · obtain ⟨t1, t2⟩ := s2 c2
      show (if Y.1 = true then (if x = nI NN then nI Y.2.1 else nI (Y.2.2.2 0 (ix x))) else nI NN) = _
      rw [if_pos c2, if_neg (s1.mp c2)]
      by_cases c3 : x = nI NN
      · rw [if_pos c3, if_pos c3, t1]
      · rw [if_neg c3, if_neg c3]
        obtain ⟨a, ha, rfl⟩ := inB_of (c1.resolve_left c3) (by omega)
        rw [show ix (nI a) = a from nI_clamp (by omega), t2 a ha]
    · show (if Y.1 = true then (if x = nI NN then nI Y.2.1 else nI (Y.2.2.2 0 (ix x))) else nI NN) = _
      rw [if_neg c2, if_pos (Classical.byContradiction (fun z => c2 (s1.mpr z)))]
  · rw [if_neg c1, if_neg c1]
end ANS7
