/-! the two sides' states; what they see alike -/
def PR (P : PlanT) (R : Nat → Nat → Nat) (F : Nat → Nat) : Prop :=
  PlX P ∧ MdOK R F ∧ (F 6 = P.2 0 ∧ F 7 = P.2 1 ∧ F 8 = P.2 2 ∧ F 9 = P.2 3) ∧ (∀ k, k < F 6 → R 8 k = P.1 0 k) ∧ (∀ k, R 8 k ≤ 99) ∧
  (∀ s, s < F 8 → R 11 s = P.1 2 s ∧ P.1 3 s = (if R 12 s = 8 then NN else R 12 s) ∧ P.1 5 s = 2 ^ R 11 s ||| 2 ^ R 12 s ∧ R 11 s < F 7 ∧ (R 12 s < F 7 ∨ R 12 s = 8) ∧ R 11 s ≠ R 12 s) ∧
  (∀ k, k < F 9 → P.1 6 k = 2 ^ R 11 (12 + k) ||| 2 ^ R 12 (12 + k) ∧ P.1 7 k = R 14 (12 + k) ∧ R 11 (12 + k) < F 7 ∧ (R 12 (12 + k) < F 7 ∨ R 12 (12 + k) = 8) ∧ R 11 (12 + k) ≠ R 12 (12 + k))
def CR (Q : ClothT) (R : Nat → Nat → Nat) (F : Nat → Nat) : Prop :=
  ClothOK Q ∧ (∀ s, s < F 8 → R 13 s = Q.1 s) ∧ (∀ s, F 8 ≤ s → s < 12 → Q.1 s = 0) ∧ (∀ a, a < F 7 → R 9 a = Q.2.1 a ∧ R 9 a < F 6) ∧ (∀ j, R 9 j < 4) ∧ F 10 = Q.2.2.1 ∧ F 11 = Q.2.2.2
theorem thF_e {Q : ClothT} {R : Nat → Nat → Nat} {F : Nat → Nat} (h : CR Q R F) (w : Nat) : thF Q.1 w = thF (stM R F) w := by
  obtain ⟨-, h1, h2, -⟩ := h
  refine bs_congr (fun s hs => ?_)
  have e : Q.1 s = stM R F s := by
    unfold stM
    split
    next hc => exact (h1 s hc).symm
    next hc => exact h2 s (by omega) hs
  rw [thP, thP, e]
theorem flyF_cg {E E' : Nat → Nat} {N N' m : Nat} (h : ∀ s, m.testBit s = true → s < N ∧ s < N' ∧ E s = E' s) : flyF E N m = flyF E' N' m := by
  have hc : ∀ X, closedX E N m X ↔ closedX E' N' m X := fun X => ⟨fun hX s _ hb => by
    obtain ⟨h1, h2, h3⟩ := h s hb
    rw [← h3]
    exact hX s h1 hb, fun hX s _ hb => by
    obtain ⟨h1, h2, h3⟩ := h s hb
    rw [h3]
    exact hX s h2 hb⟩
  have hf : ∀ a, flyB E N m a = flyB E' N' m a := fun a => propext ⟨fun hX X h1 h2 h3 => hX X h1 h2 ((hc X).mpr h3), fun hX X h1 h2 h3 => hX X h1 h2 ((hc X).mp h3)⟩
  refine bs_congr (fun a _ => ?_)
  rw [hf a]
theorem en_tb (A B i : Nat) : (2 ^ A ||| 2 ^ B).testBit i = (decide (A = i) || decide (B = i)) := by
  rw [Nat.testBit_or, Nat.testBit_two_pow, Nat.testBit_two_pow]
section PRS
variable {P : PlanT} {Q : ClothT} {R : Nat → Nat → Nat} {F : Nat → Nat}
theorem PR.em (h : PR P R F) {s : Nat} (hs : s < F 8) : P.1 5 s = EM R s := by
  obtain ⟨-, hm, -, -, -, h1, -⟩ := h
  have := hm.2.2.2.2.2.2.2.2.2.2 s (Or.inl hs)
  rw [EM_of this]
  exact (h1 s hs).2.2.1
theorem PR.fly (h : PR P R F) {m : Nat} (hm : ∀ s, m.testBit s = true → s < F 8) : flyF (P.1 5) 12 m = flyF (EM R) 20 m := by
  have h12 := h.2.1.2.2.1
  exact flyF_cg (fun s hs => ⟨by have := hm s hs; omega, by have := hm s hs; omega, h.em (hm s hs)⟩)
theorem PR.cross (h : PR P R F) {a m : Nat} (hm : ∀ s, m.testBit s = true → s < F 8) : crossF P (2 ^ a) m = bs (F 8) (soP R a m) := by
  have h12 := h.2.1.2.2.1
  apply Nat.eq_of_testBit_eq
  intro i
  rw [crossF, bs_tb, bs_tb, crossP, soP]
  cases hb : m.testBit i
  · simp
  · have hi := hm i hb
    obtain ⟨-, -, h5, -, -, hne⟩ := h.2.2.2.2.2.1 i hi
    have e1 : decide (P.1 5 i &&& 2 ^ a ≠ 0) = onB R i a := by
      rw [onB, ← en_tb, ← h5]
      cases ht : (P.1 5 i).testBit a
      · simp [tb_and0.mpr ht]
      · have : P.1 5 i &&& 2 ^ a ≠ 0 := fun z => by rw [tb_and0.mp z] at ht; exact absurd ht (by decide)
        simp [this]
    have e2 : andn (P.1 5 i) (2 ^ a) ≠ 0 := by
      intro z
      have z := eq0_tb.mp z
      have t : ∀ j, (j = R 11 i ∨ j = R 12 i) → j = a := fun j hj => by
        have hz := z j
        rw [andn_tb, h5, en_tb, Nat.testBit_two_pow] at hz
        apply Classical.byContradiction
        intro hja
        have e1 : (decide (R 11 i = j) || decide (R 12 i = j)) = true := by rcases hj with hj | hj <;> simp [hj]
        rw [e1, decide_eq_false (fun e => hja e.symm)] at hz
        exact absurd hz (by decide)
      exact hne ((t _ (Or.inl rfl)).trans (t _ (Or.inr rfl)).symm)
    rw [e1, decide_eq_true e2, decide_eq_true (show i < 12 by omega), decide_eq_true hi]
    simp
theorem PR.near (h : PR P R F) {a m : Nat} (ha : a < 8) (hm : ∀ s, m.testBit s = true → s < F 8) : bdF P a m = nearM R F a m := by
  have h12 := h.2.1.2.2.1
  apply Nat.eq_of_testBit_eq
  intro i
  have key : (bdF P a m).testBit i = true ↔ (nearM R F a m).testBit i = true := by
    rw [bdF, andn_tb, andn_tb, show (256 : Nat) = 2 ^ 8 from rfl, Nat.testBit_two_pow, Nat.testBit_two_pow, nearM, orF_tb]
    simp only [Bool.and_eq_true, Bool.not_eq_true', decide_eq_false_iff_not]
    rw [orF_tb]
    constructor
    · rintro ⟨⟨⟨s, hs, hb⟩, h8⟩, hia⟩
      unfold nrF at hb
      split at hb
      · next hc =>
        obtain ⟨hc1, hc2⟩ := Bool.and_eq_true_iff.mp hc
        have hsF := hm s hc1
        obtain ⟨-, -, h5, h11, h12', hne⟩ := h.2.2.2.2.2.1 s hsF
        have h7 := h.2.1.2.1
        rw [h5, en_tb] at hb hc2
        simp only [Bool.or_eq_true, decide_eq_true_eq] at hb hc2
        refine ⟨s, hsF, ?_⟩
        have hbo : boP R a m s = true := by
          rw [boP, hc1, onB]
          simp only [Bool.true_and, Bool.and_eq_true, Bool.or_eq_true, decide_eq_true_eq, Bool.not_eq_true', decide_eq_false_iff_not]
          omega
        rw [boG, if_pos hbo, Nat.testBit_two_pow, decide_eq_true_eq]
        omega
      · simp at hb
    · rintro ⟨s, hsF, hb⟩
      unfold boG at hb
      split at hb
      · next hc =>
        have hc1 := hc
        simp only [boP, onB, Bool.and_eq_true, Bool.or_eq_true, decide_eq_true_eq, Bool.not_eq_true', decide_eq_false_iff_not] at hc1
        obtain ⟨c1, c2, c3⟩ := hc1
        obtain ⟨-, -, h5, h11, h12', hne⟩ := h.2.2.2.2.2.1 s hsF
        have h7 := h.2.1.2.1
        rw [Nat.testBit_two_pow, decide_eq_true_eq] at hb
        refine ⟨⟨⟨s, by omega, ?_⟩, by omega⟩, by omega⟩
        have hna : (m.testBit s && (P.1 5 s).testBit a) = true := by
          rw [c1, h5, en_tb]
          simp only [Bool.true_and, Bool.or_eq_true, decide_eq_true_eq]
          omega
        rw [nrF, if_pos hna, h5, en_tb]
        simp only [Bool.or_eq_true, decide_eq_true_eq]
        omega
      · simp at hb
  cases h1 : (bdF P a m).testBit i <;> cases h2 : (nearM R F a m).testBit i
  · rfl
  · rw [key.mpr h2] at h1; exact absurd h1 (by decide)
  · rw [key.mp h1] at h2; exact absurd h2 (by decide)
  · rfl
theorem PR.may (h : PR P R F) {a s m hh : Nat} (ha : a < 8) (hs : s < F 8) (hm : ∀ s, m.testBit s = true → s < F 8) : (upF P a m hh).testBit s = muB R F a s m hh := by
  have h12 := h.2.1.2.2.1
  have h7 := h.2.1.2.1
  have hnl := nearM_lt h.2.1 a m
  obtain ⟨-, -, h5, h11, h12', hne⟩ := h.2.2.2.2.2.1 s hs
  have hv := h.2.1.2.2.2.2.2.2.2.2.2.2 s (Or.inl hs)
  rw [upF, bs_tb, upP, andn_tb, h.near ha hm, muB, decide_eq_true (show s < 12 by omega)]
  have e1 : (P.1 5 s).testBit a = onB R s a := by rw [h5, en_tb, onB]
  have e2 : decide (P.1 5 s &&& nearM R F a m ≠ 0) = ((nearM R F a m).testBit (R 11 s) || (!decide (R 12 s = 8) && (nearM R F a m).testBit (R 12 s))) := by
    rw [h.em hs, EM_and hv]
    congr 1
    by_cases e8 : R 12 s = 8
    · rw [e8, tb_lt (n := 8) hnl (by decide)]; simp
    · simp [e8]
  rw [e1, e2]
  simp [Bool.and_assoc]
end PRS
