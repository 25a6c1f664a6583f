/-! what a text tells keeps to what was told before -/
section TBS
def TdB (T : ToldT) : Prop := (∀ k, k < T.2 1 → T.1 1 k < T.2 0) ∧ ∀ k, k < T.2 2 ∨ (12 ≤ k ∧ k < 12 + T.2 3) → T.1 2 k < T.2 1 ∧ (T.1 3 k < T.2 1 ∨ T.1 3 k = 8) ∧ T.1 2 k ≠ T.1 3 k
theorem TB_0 : TdB T0 := ⟨fun k hk => absurd hk (Nat.not_lt_zero k), fun k hk => by
  have hk : k < 0 ∨ (12 ≤ k ∧ k < 12 + 0) := hk
  omega⟩
theorem TB_C {T : ToldT} {v : Nat} (h : TdB T) : TdB (adC T v) := ⟨fun k hk => Nat.lt_succ_of_lt (h.1 k hk), h.2⟩
theorem TB_S {T : ToldT} {a : Nat} (h : TdB T) (ha : a < T.2 0) : TdB (adS T a) := by
  refine ⟨fun k hk => ?_, fun k hk => ?_⟩
  · have hk : k < T.2 1 + 1 := hk
    show updN (T.1 1) (T.2 1) a k < T.2 0
    unfold updN; split
    · exact ha
    · exact h.1 k (by omega)
  · obtain ⟨h1, h2, h3⟩ := h.2 k hk
    have h2 : T.1 3 k < T.2 1 ∨ T.1 3 k = 8 := h2
    exact ⟨Nat.lt_succ_of_lt h1, (by show T.1 3 k < T.2 1 + 1 ∨ T.1 3 k = 8; omega), h3⟩
theorem TB_E {T : ToldT} {wd a b s : Nat} (h : TdB T) (h12 : T.2 2 ≤ 12) (hw : wd ≠ 4 → T.2 2 < 12) (ha : a < T.2 1) (hb : b < T.2 1 ∨ b = 8) (hab : a ≠ b) : TdB (adE T wd a b s) := by
  by_cases e : wd = 4
  · subst e
    refine ⟨h.1, fun k hk => ?_⟩
    have hk : k < T.2 2 ∨ (12 ≤ k ∧ k < 12 + (T.2 3 + 1)) := hk
    show updN (T.1 2) (12 + T.2 3) a k < T.2 1 ∧ (updN (T.1 3) (12 + T.2 3) b k < T.2 1 ∨ updN (T.1 3) (12 + T.2 3) b k = 8) ∧ updN (T.1 2) (12 + T.2 3) a k ≠ updN (T.1 3) (12 + T.2 3) b k
    by_cases e2 : k = 12 + T.2 3
    · subst e2; rw [updN_s, updN_s]; exact ⟨ha, hb, hab⟩
    · rw [updN_n e2, updN_n e2]
      exact h.2 k (by omega)
  · have hw := hw e
    have e1 : adE T wd a b s = (upR (upR (upR T.1 2 (updN (T.1 2) (T.2 2) a)) 3 (updN (T.1 3) (T.2 2) b)) 4 (updN (T.1 4) (T.2 2) s), updN T.2 2 (T.2 2 + 1)) := by
      unfold adE
      rw [if_neg e, if_neg e]
    rw [e1]
    refine ⟨h.1, fun k hk => ?_⟩
    have hk : k < T.2 2 + 1 ∨ (12 ≤ k ∧ k < 12 + T.2 3) := hk
    show updN (T.1 2) (T.2 2) a k < T.2 1 ∧ (updN (T.1 3) (T.2 2) b k < T.2 1 ∨ updN (T.1 3) (T.2 2) b k = 8) ∧ updN (T.1 2) (T.2 2) a k ≠ updN (T.1 3) (T.2 2) b k
    by_cases e2 : k = T.2 2
    · subst e2; rw [updN_s, updN_s]; exact ⟨ha, hb, hab⟩
    · rw [updN_n e2, updN_n e2]
      exact h.2 k (by omega)
theorem coT_TB {t : Nat → Nat} {n : Nat} : ∀ r T i T2 i2, TdB T → coT t n r T i = .ok (T2, i2) → TdB T2 ∧ T2.2 1 = T.2 1 ∧ T2.2 2 = T.2 2 ∧ T2.2 3 = T.2 3 ∧ T2.2 0 ≤ T.2 0 + r
  | 0, T, i, T2, i2, hT, h => by rw [coT] at h; cases h
  | r + 1, T, i, T2, i2, hT, h => by
    rw [coT] at h
    split at h
    · cases h
    · split at h
      · cases h; exact ⟨TB_C hT, rfl, rfl, rfl, by show T.2 0 + 1 ≤ T.2 0 + (r + 1); omega⟩
      · split at h
        · obtain ⟨h1, h2, h3, h4, h5⟩ := coT_TB r _ _ _ _ (TB_C hT) h
          refine ⟨h1, h2, h3, h4, ?_⟩
          have h5 : T2.2 0 ≤ T.2 0 + 1 + r := h5
          omega
        · cases h
theorem bdT_TB {t : Nat → Nat} {n wd a b i i2 : Nat} {T T2 : ToldT} (hT : TdB T) (h12 : T.2 2 ≤ 12) (hw : wd ≠ 4 → T.2 2 < 12) (ha : a < T.2 1) (hb : b < T.2 1 ∨ b = 8) (hab : a ≠ b) (h : bdT t n T wd a b i = .ok (T2, i2)) : TdB T2 := by
  unfold bdT at h
  split at h
  · cases h
  · split at h
    · cases h
    · cases h; exact TB_E hT h12 hw ha hb hab
theorem seT_TB {t : Nat → Nat} {n wd i i2 : Nat} {T T2 : ToldT} (hT : TdB T) (hC : TC T) (hw : wd ≠ 4 → T.2 2 < 12) (h : seT t n T wd i = .ok (T2, i2)) : TdB T2 := by
  obtain ⟨-, c1, c2, -⟩ := hC
  unfold seT at h
  split at h
  · cases h
  · next a ja e hnu =>
    have h1 := (nuT_lt hnu).2
    split at h
    · exact bdT_TB hT c2 hw h1 (Or.inr rfl) (by omega) h
    · split at h
      · cases h
      · next b jb e2 hnu2 =>
        have h2 := (nuT_lt hnu2).2
        split at h
        · cases h
        · by_cases e : b = a
          · rw [if_pos e] at h
            exact bdT_TB hT c2 hw h1 (Or.inr rfl) (by omega) h
          · rw [if_neg e] at h
            exact bdT_TB hT c2 hw h1 (Or.inl h2) (fun z => e z.symm) h
theorem stT_TB {t : Nat → Nat} {n i i2 : Nat} {T T2 : ToldT} (hT : TdB T) (h : stT t n T i = .ok (T2, i2)) : TdB T2 := by
  unfold stT at h
  split at h
  · cases h
  · next a ja e hnu =>
    have h1 := (nuT_lt hnu).2
    split at h
    · cases h
    · cases h; exact TB_S hT h1
theorem clT_TB {t : Nat → Nat} {n j i2 : Nat} {T T2 : ToldT} (hT : TdB T) (hC : TC T) (h : clT t n T j = .ok (T2, i2)) : TdB T2 := by
  unfold clT at h
  split at h
  · cases h
  · next h1 =>
    split at h
    · cases h
    · next h2 =>
      split at h
      · exact (coT_TB _ _ _ _ _ hT h).1
      · next h3 =>
        split at h
        · exact stT_TB hT h
        · next h4 =>
          refine seT_TB hT hC (fun h5 => ?_) h
          obtain ⟨-, -, c2, -⟩ := hC
          apply Classical.byContradiction
          intro h6
          have hw : wcF t j (sc (ltB t) n j) = 0 ∨ wcF t j (sc (ltB t) n j) = 1 ∨ wcF t j (sc (ltB t) n j) = 2 ∨ wcF t j (sc (ltB t) n j) = 3 ∨ wcF t j (sc (ltB t) n j) = 4 ∨ wcF t j (sc (ltB t) n j) = NN := by
            generalize sc (ltB t) n j = e
            unfold wcF
            split
            · exact Or.inl rfl
            · split
              · exact Or.inr (Or.inl rfl)
              · split
                · exact Or.inr (Or.inr (Or.inl rfl))
                · split
                  · exact Or.inr (Or.inr (Or.inr (Or.inl rfl)))
                  · split
                    · exact Or.inr (Or.inr (Or.inr (Or.inr (Or.inl rfl))))
                    · exact Or.inr (Or.inr (Or.inr (Or.inr (Or.inr rfl))))
          generalize wcF t j (sc (ltB t) n j) = w at h1 h2 h3 h4 h5 hw
          rcases hw with hw | hw | hw | hw | hw | hw
          · exact h3 hw
          · exact h4 hw
          · exact h2 (Or.inr (Or.inr (Or.inl ⟨Or.inl hw, by omega⟩)))
          · exact h2 (Or.inr (Or.inr (Or.inl ⟨Or.inr hw, by omega⟩)))
          · exact h5 hw
          · exact h1 (Or.inl hw)
theorem wcF_c (t : Nat → Nat) (j e : Nat) : wcF t j e = 0 ∨ wcF t j e = 1 ∨ wcF t j e = 2 ∨ wcF t j e = 3 ∨ wcF t j e = 4 ∨ wcF t j e = NN := by
  unfold wcF
  split
  · exact Or.inl rfl
  · split
    · exact Or.inr (Or.inl rfl)
    · split
      · exact Or.inr (Or.inr (Or.inl rfl))
      · split
        · exact Or.inr (Or.inr (Or.inr (Or.inl rfl)))
        · split
          · exact Or.inr (Or.inr (Or.inr (Or.inr (Or.inl rfl))))
          · exact Or.inr (Or.inr (Or.inr (Or.inr (Or.inr rfl))))
theorem seT_E {t : Nat → Nat} {n wd i i2 : Nat} {T T2 : ToldT} (h : seT t n T wd i = .ok (T2, i2)) : ∃ a b s, T2 = adE T wd a b s := by
  have hb : ∀ a b i, bdT t n T wd a b i = .ok (T2, i2) → ∃ a b s, T2 = adE T wd a b s := fun a b i h => by
    unfold bdT at h
    split at h
    · cases h
    · split at h
      · cases h
      · cases h; exact ⟨_, _, _, rfl⟩
  unfold seT at h
  split at h
  · cases h
  · split at h
    · exact hb _ _ _ h
    · split at h
      · cases h
      · split at h
        · cases h
        · exact hb _ _ _ h
theorem clT_TC {t : Nat → Nat} {n j i2 : Nat} {T T2 : ToldT} (hT : TdB T) (hC : TC T) (h : clT t n T j = .ok (T2, i2)) : TC T2 := by
  obtain ⟨c0, c1, c2, c3⟩ := hC
  unfold clT at h
  split at h
  · cases h
  · next h1 =>
    split at h
    · cases h
    · next h2 =>
      split at h
      · next h3 =>
        have e0 : T.2 0 = 0 := Classical.byContradiction (fun z => h2 (Or.inl ⟨h3, z⟩))
        obtain ⟨-, g1, g2, g3, g4⟩ := coT_TB _ _ _ _ _ hT h
        exact ⟨by omega, by omega, by omega, by omega⟩
      · next h3 =>
        split at h
        · next h4 =>
          have e1 : T.2 1 ≠ 8 := fun z => h2 (Or.inr (Or.inl ⟨h4, z⟩))
          unfold stT at h
          split at h
          · cases h
          · split at h
            · cases h
            · cases h
              exact ⟨c0, by show T.2 1 + 1 ≤ 8; omega, c2, c3⟩
        · next h4 =>
          obtain ⟨a, b, s, rfl⟩ := seT_E h
          have hw := wcF_c t j (sc (ltB t) n j)
          generalize wcF t j (sc (ltB t) n j) = w at h1 h2 h3 h4 hw ⊢
          by_cases e : w = 4
          · subst e
            have e3 : T.2 3 ≠ 8 := fun z => h2 (Or.inr (Or.inr (Or.inr ⟨rfl, z⟩)))
            exact ⟨c0, c1, c2, by show T.2 3 + 1 ≤ 8; omega⟩
          · have e1 : (adE T w a b s).2 = updN T.2 2 (T.2 2 + 1) := by
              show updN T.2 (if w = 4 then 3 else 2) (T.2 (if w = 4 then 3 else 2) + 1) = _
              rw [if_neg e]
            have e2 : T.2 2 ≠ 12 := fun z => h2 (Or.inr (Or.inr (Or.inl ⟨(by
              rcases hw with hw | hw | hw | hw | hw | hw
              · exact absurd hw h3
              · exact absurd hw h4
              · exact Or.inl hw
              · exact Or.inr hw
              · exact absurd hw e
              · exact absurd (Or.inl hw) h1), z⟩)))
            unfold TC
            rw [e1]
            exact ⟨c0, c1, by show T.2 2 + 1 ≤ 12; omega, c3⟩
theorem paT_TB {t : Nat → Nat} {n : Nat} : ∀ k T i To, TdB T → TC T → paT t n k T i = .ok To → TdB To
  | 0, T, i, To, hT, _, h => by rw [paT] at h; cases h; exact hT
  | k + 1, T, i, To, hT, hC, h => by
    rw [paT] at h
    split at h
    · cases h; exact hT
    · split at h
      · cases h
      · next T2 i2 hcl => exact paT_TB k T2 i2 To (clT_TB hT hC hcl) (clT_TC hT hC hcl) h
theorem pa_TB {t : Nat → Nat} {n k i : Nat} {To : ToldT} (h : paT t n k T0 i = .ok To) : TdB To := paT_TB k T0 i To TB_0 ⟨by decide, by decide, by decide, by decide⟩ h
end TBS
