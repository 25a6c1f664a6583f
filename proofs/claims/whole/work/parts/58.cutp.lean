/-! sides and sets: what falls, falls by what crosses from a side -/
def sub (a b : Nat) : Prop := ∀ i, a.testBit i = true → b.testBit i = true
theorem sub_le {x y : Nat} (h : sub x y) : x ≤ y := by
  have e : x = x &&& y := by
    apply Nat.eq_of_testBit_eq
    intro i
    rw [Nat.testBit_and]
    cases hx : x.testBit i
    · rfl
    · rw [h i hx]; rfl
  rw [e]; exact Nat.and_le_right
def crN (E : Nat → Nat) (N m side : Nat) : Nat := bs N (fun s => m.testBit s && (decide (E s &&& side ≠ 0) && decide (andn (E s) side ≠ 0)))
theorem crN_tb {E : Nat → Nat} {N m side s : Nat} : (crN E N m side).testBit s = true ↔ s < N ∧ m.testBit s = true ∧ (∃ i, (E s).testBit i = true ∧ side.testBit i = true) ∧ (∃ i, (E s).testBit i = true ∧ side.testBit i = false) := by
  have e1 : E s &&& side ≠ 0 ↔ ∃ i, (E s).testBit i = true ∧ side.testBit i = true := by
    constructor
    · intro h
      obtain ⟨i, hi⟩ := ne0_tb h
      rw [Nat.testBit_and] at hi
      exact ⟨i, Bool.and_eq_true_iff.mp hi⟩
    · rintro ⟨i, h1, h2⟩ h
      have := eq0_tb.mp h i
      rw [Nat.testBit_and, h1, h2] at this
      exact absurd this (by decide)
  have e2 : andn (E s) side ≠ 0 ↔ ∃ i, (E s).testBit i = true ∧ side.testBit i = false := by
    constructor
    · intro h
      obtain ⟨i, hi⟩ := ne0_tb h
      rw [andn_tb] at hi
      obtain ⟨h1, h2⟩ := Bool.and_eq_true_iff.mp hi
      exact ⟨i, h1, by simpa using h2⟩
    · rintro ⟨i, h1, h2⟩ h
      have := eq0_tb.mp h i
      rw [andn_tb, h1, h2] at this
      exact absurd this (by decide)
  rw [crN, bs_tb]
  simp only [Bool.and_eq_true, decide_eq_true_eq]
  rw [e1, e2]
theorem crN_sub (E : Nat → Nat) (N m side : Nat) : sub (crN E N m side) m := fun _ h => (crN_tb.mp h).2.1
theorem cr_cuts {E : Nat → Nat} {N m side a : Nat} (hE : ∀ s, E s < 512) (h8 : side.testBit 8 = false) (ha : side.testBit a = true) (ha9 : a < 9) : ¬ flyB E N (andn m (crN E N m side)) a := by
  intro h
  have t511 : ∀ i, i < 9 → (511 : Nat).testBit i = true := by decide
  have h2 := h (andn 511 side) (andn_b (by decide)) (by rw [andn_tb, h8, t511 8 (by decide)]; rfl) (fun s hs hb hne i hi => by
    rw [andn_tb] at hb
    obtain ⟨hb1, hb2⟩ := Bool.and_eq_true_iff.mp hb
    obtain ⟨j, hj⟩ := ne0_tb hne
    rw [Nat.testBit_and, andn_tb] at hj
    simp only [Bool.and_eq_true, Bool.not_eq_true'] at hj hb2
    have hi9 : i < 9 := by
      apply Classical.byContradiction
      intro hc
      rw [tb_lt (n := 9) (hE s) (by omega)] at hi
      exact absurd hi (by decide)
    rw [andn_tb, t511 i hi9]
    cases hsi : side.testBit i
    · rfl
    · have : (crN E N m side).testBit s = true := crN_tb.mpr ⟨hs, hb1, ⟨i, hi, hsi⟩, ⟨j, hj.1, hj.2.2⟩⟩
      rw [this] at hb2
      exact absurd hb2 (by decide))
  rw [andn_tb, ha] at h2
  simp at h2
theorem cut_side {E : Nat → Nat} {N m st a S : Nat} (ha : a < S) (hends : ∀ s, s < N → m.testBit s = true → ∀ i, (E s).testBit i = true → i < S ∨ i = 8) (hn : ¬ flyB E N (andn m st) a) : ∃ side, side < 2 ^ S ∧ side.testBit a = true ∧ sub (crN E N m side) st := by
  have htb : ∀ i, (bs S (fun i => @decide (¬ flyB E N (andn m st) i) (Classical.propDecidable _))).testBit i = true ↔ i < S ∧ ¬ flyB E N (andn m st) i := fun i => by
    rw [bs_tb, Bool.and_eq_true, decide_eq_true_eq, @decide_eq_true_iff _ (Classical.propDecidable _)]
  refine ⟨bs S (fun i => @decide (¬ flyB E N (andn m st) i) (Classical.propDecidable _)), bs_lt _ _, (htb a).mpr ⟨ha, hn⟩, fun s hs => ?_⟩
  obtain ⟨h1, h2, ⟨j, hj1, hj2⟩, ⟨i, hi1, hi2⟩⟩ := crN_tb.mp hs
  apply Classical.byContradiction
  intro hst
  have hms : (andn m st).testBit s = true := by
    rw [andn_tb, h2]
    cases hq : st.testBit s
    · rfl
    · exact absurd hq hst
  have hfi : flyB E N (andn m st) i := by
    rcases hends s h1 h2 i hi1 with hiS | hi8
    · apply Classical.byContradiction
      intro hc
      rw [(htb i).mpr ⟨hiS, hc⟩] at hi2
      exact absurd hi2 (by decide)
    · subst hi8
      exact fun X _ h8 _ => h8
  refine ((htb j).mp hj2).2 (fun X hX1 hX2 hX3 => hX3 s h1 hms ?_ j hj1)
  intro h0
  have := eq0_tb.mp h0 i
  rw [Nat.testBit_and, hi1, hfi X hX1 hX2 hX3] at this
  exact absurd this (by decide)
def le2 (x y : Nat) : Prop := cd x < cd y ∨ (cd x = cd y ∧ x ≤ y)
theorem le2_rf (x : Nat) : le2 x x := Or.inr ⟨rfl, Nat.le_refl x⟩
theorem le2_tr {x y z : Nat} (h1 : le2 x y) (h2 : le2 y z) : le2 x z := by
  unfold le2 at *; omega
theorem le2_as {x y : Nat} (h1 : le2 x y) (h2 : le2 y x) : x = y := by
  unfold le2 at *; omega
theorem sub_le2 {x y : Nat} (h : sub x y) : le2 x y := by
  have h1 : cd x ≤ cd y := cn_mono 12 (fun i _ hi => h i hi)
  have h2 := sub_le h
  unfold le2; omega
theorem less_l (x y : Nat) : le2 (lessF x y) x ∧ le2 (lessF x y) y ∧ (lessF x y = x ∨ lessF x y = y) := by
  unfold lessF le2
  split
  · exact ⟨Or.inr ⟨rfl, Nat.le_refl _⟩, by omega, Or.inl rfl⟩
  · exact ⟨by omega, Or.inr ⟨rfl, Nat.le_refl _⟩, Or.inr rfl⟩
theorem fw_min (P : PlanT) (m a : Nat) : ∀ k, (∀ side, 1 ≤ side → side ≤ k → side.testBit a = true → le2 (fwL P m a k) (crossF P side m)) ∧ le2 (fwL P m a k) (crossF P (2 ^ a) m) ∧ ∃ side, side.testBit a = true ∧ (side = 2 ^ a ∨ side ≤ k) ∧ fwL P m a k = crossF P side m
  | 0 => ⟨fun side h1 h2 => by omega, le2_rf _, 2 ^ a, Nat.testBit_two_pow_self, Or.inl rfl, rfl⟩
  | k + 1 => by
    obtain ⟨h1, h2, s0, h3, h4, h5⟩ := fw_min P m a k
    rw [fwL]
    by_cases hb : (k + 1).testBit a = true
    · rw [if_pos hb]
      obtain ⟨g1, g2, g3⟩ := less_l (crossF P (k + 1) m) (fwL P m a k)
      refine ⟨fun side hs1 hs2 hsa => ?_, le2_tr g2 h2, ?_⟩
      · by_cases e : side = k + 1
        · subst e; exact g1
        · exact le2_tr g2 (h1 side hs1 (by omega) hsa)
      · rcases g3 with g3 | g3
        · exact ⟨k + 1, hb, Or.inr (Nat.le_refl _), g3⟩
        · exact ⟨s0, h3, by omega, g3.trans h5⟩
    · rw [if_neg hb]
      refine ⟨fun side hs1 hs2 hsa => ?_, h2, s0, h3, by omega, h5⟩
      by_cases e : side = k + 1
      · subst e; exact absurd hsa hb
      · exact h1 side hs1 (by omega) hsa
theorem ct_min {R : Nat → Nat → Nat} {M a th : Nat} (h0 : (flyF (EM R) 20 (andn th th)).testBit a = false) : ∀ i, i ≤ 2 ^ M → (andn (ctL R M a th i) th = 0 ∧ (flyF (EM R) 20 (andn th (ctL R M a th i))).testBit a = false) ∧ ∀ st, 2 ^ M - i ≤ st → st < 2 ^ M → andn st th = 0 → (flyF (EM R) 20 (andn th st)).testBit a = false → le2 (ctL R M a th i) st
  | 0, _ => ⟨⟨eq0_tb.mpr (fun i => by show (andn th th).testBit i = false; rw [andn_tb]; simp), h0⟩, fun st h1 h2 => by omega⟩
  | i + 1, hi => by
    obtain ⟨h1, h2⟩ := ct_min (M := M) h0 i (by omega)
    rw [ctL]
    by_cases hc : andn (2 ^ M - 1 - i) th = 0 ∧ cd (2 ^ M - 1 - i) ≤ cd (ctL R M a th i) ∧ (flyF (EM R) 20 (andn th (2 ^ M - 1 - i))).testBit a = false
    · rw [if_pos hc]
      refine ⟨⟨hc.1, hc.2.2⟩, fun st g1 g2 g3 g4 => ?_⟩
      by_cases e : st = 2 ^ M - 1 - i
      · rw [e]; exact le2_rf _
      · have := h2 st (by omega) g2 g3 g4
        unfold le2 at *; omega
    · rw [if_neg hc]
      refine ⟨h1, fun st g1 g2 g3 g4 => ?_⟩
      by_cases e : st = 2 ^ M - 1 - i
      · subst e
        unfold le2
        apply Classical.byContradiction
        intro hn
        exact hc ⟨g3, by omega, g4⟩
      · exact h2 st (by omega) g2 g3 g4
def c20 (x : Nat) : Nat := cn x.testBit 20
theorem cn_or (p q : Nat → Bool) : ∀ n, cn (fun i => p i || q i) n ≤ cn p n + cn q n
  | 0 => Nat.le_refl 0
  | n + 1 => by
    have := cn_or p q n
    simp only [cn]
    cases p n <;> cases q n <;> simp <;> omega
theorem cn_cg {p q : Nat → Bool} : ∀ n, (∀ i, i < n → p i = q i) → cn p n = cn q n
  | 0, _ => rfl
  | n + 1, h => by simp only [cn]; rw [cn_cg n (fun i hi => h i (by omega)), h n (by omega)]
theorem cn_0 {p : Nat → Bool} : ∀ n, (∀ i, i < n → p i = false) → cn p n = 0
  | 0, _ => rfl
  | n + 1, h => by simp only [cn]; rw [cn_0 n (fun i hi => h i (by omega)), h n (by omega)]; rfl
theorem cn_one {p : Nat → Bool} {a : Nat} (h : ∀ i, p i = true → i = a) : ∀ n, cn p n ≤ 1
  | 0 => Nat.zero_le 1
  | n + 1 => by
    have ih := cn_one h n
    simp only [cn]
    cases hp : p n
    · simpa using ih
    · have e := h n hp
      have := cn_0 (p := p) n (fun i hi => by
        cases hq : p i
        · rfl
        · have := h i hq; omega)
      rw [this]; simp
theorem c20_or (x y : Nat) : c20 (x ||| y) ≤ c20 x + c20 y := by
  have h := cn_or x.testBit y.testBit 20
  have e : cn (x ||| y).testBit 20 = cn (fun i => x.testBit i || y.testBit i) 20 := cn_cg 20 (fun i _ => Nat.testBit_or x y i)
  unfold c20
  rw [e]; exact h
theorem c20_one (g a : Nat) : c20 (g &&& 2 ^ a) ≤ 1 := cn_one (a := a) (fun i hi => by
  rw [Nat.testBit_and, Nat.testBit_two_pow] at hi
  simp only [Bool.and_eq_true, decide_eq_true_eq] at hi
  exact hi.2.symm) 20
theorem c20_mono {x y : Nat} (h : sub x y) : c20 x ≤ c20 y := cn_mono 20 (fun i _ hi => h i hi)
/-- the greatest of a set, and the set without it -/
theorem c20_top {st : Nat} (hl : st < 2 ^ 20) (h0 : st ≠ 0) : ∃ a, a < 20 ∧ st.testBit a = true ∧ (∀ i, st.testBit i = true → i ≤ a) ∧ c20 (andn st (2 ^ a)) + 1 ≤ c20 st := by
  have key : ∀ n, n ≤ 20 → (∃ i, i < n ∧ st.testBit i = true) → ∃ a, a < n ∧ st.testBit a = true ∧ ∀ i, i < n → st.testBit i = true → i ≤ a := by
    intro n
    induction n with
    | zero => rintro _ ⟨i, hi, -⟩; omega
    | succ n ih =>
      rintro hn ⟨i, hi, hb⟩
      cases hq : st.testBit n
      · obtain ⟨a, h1, h2, h3⟩ := ih (by omega) ⟨i, by
          by_cases e : i = n
          · rw [e, hq] at hb; exact absurd hb (by decide)
          · omega, hb⟩
        exact ⟨a, by omega, h2, fun j hj hjb => by
          by_cases e : j = n
          · rw [e, hq] at hjb; exact absurd hjb (by decide)
          · exact h3 j (by omega) hjb⟩
      · exact ⟨n, by omega, hq, fun j hj _ => by omega⟩
  obtain ⟨i, hi⟩ := ne0_tb h0
  have hi20 : i < 20 := by
    apply Classical.byContradiction
    intro hc
    rw [tb_lt hl (by omega)] at hi
    exact absurd hi (by decide)
  obtain ⟨a, h1, h2, h3⟩ := key 20 (Nat.le_refl _) ⟨i, hi20, hi⟩
  refine ⟨a, h1, h2, fun j hj => h3 j (by
    apply Classical.byContradiction
    intro hc
    rw [tb_lt hl (by omega)] at hj
    exact absurd hj (by decide)) hj, ?_⟩
  have h4 : cn (andn st (2 ^ a)).testBit 20 < cn st.testBit 20 := cn_lt 20 (fun i _ hi => andn_v hi) ⟨a, h1, by rw [andn_tb, Nat.testBit_two_pow]; simp, h2⟩
  unfold c20
  omega
