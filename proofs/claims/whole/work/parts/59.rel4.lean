/-! the two sides' answers: cut, lasts, hems, thread -/
section ANS3
variable {P : PlanT} {Q : ClothT} {R : Nat → Nat → Nat} {F : Nat → Nat}
theorem PR.cr (h : PR P R F) {m : Nat} (hm : ∀ s, m.testBit s = true → s < F 8) (side : Nat) : crossF P side m = crN (EM R) 20 m side := by
  have h12 := h.2.1.2.2.1
  apply Nat.eq_of_testBit_eq
  intro i
  rw [crossF, bs_tb, crN, bs_tb, crossP]
  cases hb : m.testBit i
  · simp
  · have hi := hm i hb
    rw [h.em hi, decide_eq_true (show i < 12 by omega), decide_eq_true (show i < 20 by omega)]
theorem PR.ends (h : PR P R F) {s : Nat} (hs : vS F s) {i : Nat} (hi : (EM R s).testBit i = true) : i < F 7 ∨ i = 8 := by
  have hv := h.2.1.2.2.2.2.2.2.2.2.2.2 s hs
  rw [EM_of hv, en_tb] at hi
  simp only [Bool.or_eq_true, decide_eq_true_eq] at hi
  rcases hs with hs | ⟨hs1, hs2⟩
  · obtain ⟨-, -, -, g1, g2, -⟩ := h.2.2.2.2.2.1 s hs
    omega
  · obtain ⟨-, -, g1, g2, -⟩ := h.2.2.2.2.2.2 (s - 12) (by omega)
    rw [show 12 + (s - 12) = s by omega] at g1 g2
    omega
theorem a_cut (hP : PR P R F) (hQ : CR Q R F) (x y : Int32) : sCut P Q x y = mCut R F x y := by
  obtain ⟨g6, g7, g8, g9⟩ := hP.2.2.1
  have h8 := hP.2.1.2.1
  have h12 := hP.2.1.2.2.1
  have hE := EM_lt R
  rw [sCut, mCut, ← g7]
  by_cases c1 : inB x (F 7) = true
  · rw [if_pos c1, if_pos c1]
    obtain ⟨a, ha, rfl⟩ := inB_of c1 (by omega)
    rw [show ix (nI a) = a from nI_clamp (by omega)]
    have key : fwL P (thF Q.1 0) a (2 ^ F 7 - 1) = ctB R F a := by
      have hv : ∀ s, (thF (stM R F) 0).testBit s = true → s < F 8 := fun s hs => thF_v hs
      have hlt : thF (stM R F) 0 < 2 ^ F 8 := by
        apply Nat.lt_pow_two_of_testBit
        intro i hi
        cases hb : (thF (stM R F) 0).testBit i
        · rfl
        · have := hv i hb; omega
      rw [ctB, thF_e hQ]
      generalize thF (stM R F) 0 = m at hv hlt
      obtain ⟨f1, f2, s0, f3, f4, f5⟩ := fw_min P m a (2 ^ F 7 - 1)
      have hp7 : 2 ^ F 7 ≤ 2 ^ 8 := Nat.pow_le_pow_right (by decide) h8
      have hpa : 2 ^ a < 2 ^ 8 := Nat.pow_lt_pow_right (by decide) (by omega)
      have hs0 : s0 < 2 ^ 8 := by rcases f4 with f4 | f4 <;> omega
      have hends : ∀ s, s < 20 → m.testBit s = true → ∀ i, (EM R s).testBit i = true → i < F 7 ∨ i = 8 := fun s _ hs i hi => hP.ends (Or.inl (hv s hs)) hi
      have hside : ∀ st, (flyF (EM R) 20 (andn m st)).testBit a = false → le2 (fwL P m a (2 ^ F 7 - 1)) st := by
        intro st hst
        have hn : ¬ flyB (EM R) 20 (andn m st) a := fun hf => by
          rw [(flyF_tb _ _ _ _).mpr ⟨by omega, hf⟩] at hst
          exact absurd hst (by decide)
        obtain ⟨side, d1, d2, d3⟩ := cut_side ha hends hn
        have d4 : 1 ≤ side := by
          apply Nat.pos_of_ne_zero
          intro h0
          rw [h0] at d2
          simp at d2
        refine le2_tr (f1 side d4 (by omega) d2) ?_
        rw [hP.cr hv]
        exact sub_le2 d3
      by_cases hf : (flyF (EM R) 20 m).testBit a = true
      · rw [if_pos hf]
        have hc0 : (flyF (EM R) 20 (andn m m)).testBit a = false := by
          cases hq : (flyF (EM R) 20 (andn m m)).testBit a
          · rfl
          · exfalso
            have h1 := ((flyF_tb _ _ _ _).mp hq).2
            have h2 := h1 256 (by decide) (by decide) (fun s _ hb _ => by
              rw [andn_tb] at hb
              simp at hb)
            rw [show (256 : Nat) = 2 ^ 8 from rfl, Nat.testBit_two_pow] at h2
            simp at h2
            omega
        obtain ⟨⟨e1, e2⟩, e3⟩ := ct_min (R := R) (M := F 8) (a := a) (th := m) hc0 (2 ^ F 8) (Nat.le_refl _)
        have w1 := hside _ e2
        have hsub : sub (fwL P m a (2 ^ F 7 - 1)) m := by rw [f5, hP.cr hv]; exact crN_sub _ _ _ _
        have w2 : le2 (ctL R (F 8) a m (2 ^ F 8)) (fwL P m a (2 ^ F 7 - 1)) := by
          refine e3 _ (by omega) (Nat.lt_of_le_of_lt (sub_le hsub) hlt) (eq0_tb.mpr (fun i => ?_)) ?_
          · rw [andn_tb]
            cases hq : (fwL P m a (2 ^ F 7 - 1)).testBit i
            · rfl
            · rw [hsub i hq]; rfl
          · cases hq : (flyF (EM R) 20 (andn m (fwL P m a (2 ^ F 7 - 1)))).testBit a
            · rfl
            · exfalso
              rw [f5, hP.cr hv] at hq
              exact cr_cuts hE (tb_lt (n := 8) hs0 (Nat.le_refl 8)) f3 (by omega) ((flyF_tb _ _ _ _).mp hq).2
        exact le2_as w1 w2
      · rw [if_neg hf]
        have hf0 : (flyF (EM R) 20 (andn m 0)).testBit a = false := by
          rw [show andn m 0 = m by unfold andn; rw [Nat.and_zero, Nat.xor_zero]]
          simpa using hf
        have := hside 0 hf0
        have hcd : cd 0 = 0 := cn_0 12 (fun i _ => by simp)
        unfold le2 at this
        omega
    rw [key]
    by_cases c2 : inR y 1 = true
    · rw [if_pos c2, if_pos c2]
      obtain ⟨k, hk, rfl⟩ := inR_of (by decide) c2
      rw [show ix (nI k) = k from nI_clamp (by omega)]
      have hk2 : k = 0 ∨ k = 1 := by omega
      rcases hk2 with rfl | rfl
      · rw [if_pos rfl, if_pos rfl]
      · rw [if_neg (by decide), if_neg (by decide)]
    · rw [if_neg c2, if_neg c2]
  · rw [if_neg c1, if_neg c1]
/-- strips t last n where those of g may go -/
def lastP (R : Nat → Nat → Nat) (t m g n : Nat) : Prop := ∀ st, sub st g → c20 st ≤ n → andn t (flyF (EM R) 20 (andn m st)) = 0
theorem andn_0 (m : Nat) : andn m 0 = m := by unfold andn; rw [Nat.and_zero, Nat.xor_zero]
theorem dlT_sub (g n a b c : Nat) : sub (dlT g n a b c) g := by
  have h : ∀ z, sub (g &&& 2 ^ z) g := fun z i hi => by rw [Nat.testBit_and] at hi; exact (Bool.and_eq_true_iff.mp hi).1
  have ho : ∀ x y, sub x g → sub y g → sub (x ||| y) g := fun x y h1 h2 i hi => by
    rw [Nat.testBit_or, Bool.or_eq_true] at hi
    exact hi.elim (h1 i) (h2 i)
  unfold dlT
  split
  · split
    · exact ho _ _ (ho _ _ (h _) (h _)) (h _)
    · exact ho _ _ (h _) (h _)
  · split
    · exact ho _ _ (h _) (h _)
    · exact h _
theorem dlT_c (g n a b c : Nat) (hn : 0 < n) : c20 (dlT g n a b c) ≤ n := by
  have h1 := c20_one g a
  have h2 := c20_one g b
  have h3 := c20_one g c
  have h4 := c20_or (g &&& 2 ^ a) (g &&& 2 ^ b)
  have h5 := c20_or (g &&& 2 ^ a ||| g &&& 2 ^ b) (g &&& 2 ^ c)
  have h6 := c20_or (g &&& 2 ^ a) (g &&& 2 ^ c)
  unfold dlT
  split
  · split <;> omega
  · split <;> omega
theorem and_one {g st a : Nat} (h : sub st g) (ha : st.testBit a = true) (i : Nat) : (g &&& 2 ^ a).testBit i = decide (i = a) := by
  rw [Nat.testBit_and, Nat.testBit_two_pow]
  by_cases e : i = a
  · subst e; rw [h i ha]; simp
  · have : ¬ a = i := fun z => e z.symm
    simp [e, this]
theorem dlB_last {t m g n : Nat} (hg : g < 2 ^ 20) (hn : n ≤ 3) : dlB R t m g n = true ↔ lastP R t m g n := by
  rw [dlB, @decide_eq_true_iff _ (Classical.propDecidable _)]
  constructor
  · rintro ⟨h0, hA⟩ st hst hc
    by_cases z0 : st = 0
    · rw [z0, andn_0]; exact h0
    · have hl : st < 2 ^ 20 := Nat.lt_of_le_of_lt (sub_le hst) hg
      obtain ⟨a, a1, a2, a3, a4⟩ := c20_top hl z0
      have hn0 : 0 < n := by omega
      have hga : g &&& 2 ^ a ≠ 0 := fun z => by
        have := eq0_tb.mp z a
        rw [and_one hst a2] at this
        simp at this
      have fin : ∀ b c, b ≤ a → (n ≤ 1 → b = 0) → c ≤ b → (n ≤ 2 → c = 0) → dlT g n a b c = st → andn t (flyF (EM R) 20 (andn m st)) = 0 := fun b c h1 h2 h3 h4 he => by
        have := hA a (Nat.zero_le a) a1 hn0 b (Nat.zero_le b) h1 hga h2 c (Nat.zero_le c) h3 h4
        unfold dlOk at this
        rw [he] at this
        exact this
      have l1 : andn st (2 ^ a) < 2 ^ 20 := andn_b hl
      have bit1 : ∀ i, (andn st (2 ^ a)).testBit i = (st.testBit i && !decide (i = a)) := fun i => by
        rw [andn_tb, Nat.testBit_two_pow]
        congr 2
        by_cases e : i = a
        · simp [e]
        · have : ¬ a = i := fun z => e z.symm
          simp [e, this]
      have ba := and_one hst a2
      by_cases z1 : andn st (2 ^ a) = 0
      · have only : ∀ i, st.testBit i = decide (i = a) := fun i => by
          have := eq0_tb.mp z1 i
          rw [bit1] at this
          by_cases e : i = a
          · subst e; rw [a2]; simp
          · simp [e] at this
            simp [this, e]
        have eqA : g &&& 2 ^ a = st := Nat.eq_of_testBit_eq (fun i => by rw [ba, only])
        by_cases n1 : n ≤ 1
        · exact fin 0 0 (Nat.zero_le _) (fun _ => rfl) (Nat.le_refl _) (fun _ => rfl) (by rw [dlT, if_neg (by omega), if_neg (by omega), eqA])
        · by_cases n2 : n ≤ 2
          · exact fin a 0 (Nat.le_refl _) (fun z => absurd z n1) (Nat.zero_le _) (fun _ => rfl) (by rw [dlT, if_neg (by omega), if_pos (by omega), eqA, Nat.or_self])
          · exact fin a a (Nat.le_refl _) (fun z => absurd z n1) (Nat.le_refl _) (fun z => absurd z n2) (by rw [dlT, if_pos (by omega), if_pos (by omega), eqA, Nat.or_self, Nat.or_self])
      · obtain ⟨b, b1, b2, b3, b4⟩ := c20_top l1 z1
        have n1 : ¬ n ≤ 1 := by omega
        rw [bit1] at b2
        simp only [Bool.and_eq_true, Bool.not_eq_true', decide_eq_false_iff_not] at b2
        have hba := a3 b b2.1
        have bb := and_one hst b2.1
        have bit2 : ∀ i, (andn (andn st (2 ^ a)) (2 ^ b)).testBit i = ((st.testBit i && !decide (i = a)) && !decide (i = b)) := fun i => by
          rw [andn_tb, bit1, Nat.testBit_two_pow]
          congr 2
          by_cases e : i = b
          · simp [e]
          · have : ¬ b = i := fun z => e z.symm
            simp [e, this]
        by_cases z2 : andn (andn st (2 ^ a)) (2 ^ b) = 0
        · have only : ∀ i, st.testBit i = (decide (i = a) || decide (i = b)) := fun i => by
            have := eq0_tb.mp z2 i
            rw [bit2] at this
            by_cases e : i = a
            · subst e; rw [a2]; simp
            · by_cases e2 : i = b
              · subst e2; rw [b2.1]; simp
              · simp [e, e2] at this
                simp [this, e, e2]
          have eqA : g &&& 2 ^ a ||| g &&& 2 ^ b = st := Nat.eq_of_testBit_eq (fun i => by rw [Nat.testBit_or, ba, bb, only])
          by_cases n2 : n ≤ 2
          · exact fin b 0 hba (fun z => absurd z n1) (Nat.zero_le _) (fun _ => rfl) (by rw [dlT, if_neg (by omega), if_pos (by omega), eqA])
          · refine fin b b hba (fun z => absurd z n1) (Nat.le_refl _) (fun z => absurd z n2) ?_
            rw [dlT, if_pos (by omega), if_pos (by omega), eqA]
            refine Nat.eq_of_testBit_eq (fun i => ?_)
            rw [Nat.testBit_or, bb]
            by_cases e2 : i = b
            · subst e2; rw [b2.1]; rfl
            · simp [e2]
        · obtain ⟨c, c1, c2, c3, c4⟩ := c20_top (andn_b l1) z2
          have n2 : ¬ n ≤ 2 := by omega
          rw [bit2] at c2
          simp only [Bool.and_eq_true, Bool.not_eq_true', decide_eq_false_iff_not] at c2
          have hcb : c ≤ b := b3 c (by rw [bit1]; simp [c2.1.1, c2.1.2])
          have bc := and_one hst c2.1.1
          have hz : c20 (andn (andn (andn st (2 ^ a)) (2 ^ b)) (2 ^ c)) = 0 := by omega
          have only : ∀ i, st.testBit i = ((decide (i = a) || decide (i = b)) || decide (i = c)) := fun i => by
            by_cases e : i = a
            · subst e; rw [a2]; simp
            · by_cases e2 : i = b
              · subst e2; rw [b2.1]; simp
              · by_cases e3 : i = c
                · subst e3; rw [c2.1.1]; simp
                · cases hq : st.testBit i
                  · simp [e, e2, e3]
                  · exfalso
                    have hi20 : i < 20 := by
                      apply Classical.byContradiction
                      intro hcc
                      rw [tb_lt hl (by omega)] at hq
                      exact absurd hq (by decide)
                    have hone : cn (fun _ => false) 20 < cn (andn (andn (andn st (2 ^ a)) (2 ^ b)) (2 ^ c)).testBit 20 := cn_lt 20 (fun _ _ z => absurd z (by decide)) ⟨i, hi20, rfl, by
                      rw [andn_tb, bit2, Nat.testBit_two_pow]
                      have : ¬ c = i := fun z => e3 z.symm
                      simp [hq, e, e2, this]⟩
                    unfold c20 at hz
                    omega
          refine fin b c hba (fun z => absurd z n1) hcb (fun z => absurd z n2) ?_
          rw [dlT, if_pos (by omega), if_pos (by omega)]
          exact Nat.eq_of_testBit_eq (fun i => by rw [Nat.testBit_or, Nat.testBit_or, ba, bb, bc, only])
  · intro hL
    refine ⟨?_, fun a _ a1 hn0 b _ b1 _ _ c _ c1 _ => hL _ (dlT_sub _ _ _ _ _) (dlT_c g n a b c hn0)⟩
    have := hL 0 (fun i hi => by simp at hi) (by rw [show c20 0 = 0 from cn_0 20 (fun i _ => by simp)]; exact Nat.zero_le _)
    rw [andn_0] at this
    exact this
theorem last_sides {t m g n S : Nat} (hS : S ≤ 8) (ht : t < 2 ^ S) (hends : ∀ s, s < 20 → m.testBit s = true → ∀ i, (EM R s).testBit i = true → i < S ∨ i = 8) : lastP R t m g n ↔ ∀ side, 1 ≤ side → side ≤ 2 ^ S - 1 → side &&& t ≠ 0 → sub (crN (EM R) 20 m side) g → n < c20 (crN (EM R) 20 m side) := by
  have hp : 2 ^ S ≤ 2 ^ 8 := Nat.pow_le_pow_right (by decide) hS
  have hE := EM_lt R
  constructor
  · intro hL side h1 h2 h3 h4
    apply Classical.byContradiction
    intro hn
    have h5 := hL _ h4 (by omega)
    obtain ⟨a, ha⟩ := ne0_tb h3
    rw [Nat.testBit_and] at ha
    obtain ⟨ha1, ha2⟩ := Bool.and_eq_true_iff.mp ha
    have h6 := eq0_tb.mp h5 a
    rw [andn_tb, ha2] at h6
    simp only [Bool.true_and, Bool.not_eq_false'] at h6
    obtain ⟨h7, h8⟩ := (flyF_tb _ _ _ _).mp h6
    exact cr_cuts hE (tb_lt (n := 8) (show side < 2 ^ 8 by omega) (Nat.le_refl 8)) ha1 (by omega) h8
  · intro h st hst hc
    apply Classical.byContradiction
    intro hne
    obtain ⟨a, ha⟩ := ne0_tb hne
    rw [andn_tb] at ha
    obtain ⟨ha1, ha2⟩ := Bool.and_eq_true_iff.mp ha
    have haS : a < S := by
      apply Classical.byContradiction
      intro hcc
      rw [tb_lt ht (by omega)] at ha1
      exact absurd ha1 (by decide)
    have hn : ¬ flyB (EM R) 20 (andn m st) a := fun hf => by
      rw [(flyF_tb _ _ _ _).mpr ⟨by omega, hf⟩] at ha2
      exact absurd ha2 (by decide)
    obtain ⟨side, d1, d2, d3⟩ := cut_side haS hends hn
    have d4 : 1 ≤ side := by
      apply Nat.pos_of_ne_zero
      intro h0
      rw [h0] at d2
      simp at d2
    have h9 := h side d4 (by omega) (fun z => by
      have := eq0_tb.mp z a
      rw [Nat.testBit_and, d2, ha1] at this
      exact absurd this (by decide)) (fun i hi => hst i (d3 i hi))
    have := c20_mono d3
    omega
theorem wk_all (Pr : Nat → Nat → Prop) (m h set n : Nat) (Z : CutT) : ∀ k, (∀ i, i < (wkL P m h set n Z k).2.2 → Pr ((wkL P m h set n Z k).1 i) ((wkL P m h set n Z k).2.1 i)) ↔ ∀ side, 1 ≤ side → side ≤ k → wkC P m h set n side = true → Pr (crossF P side m) (bs (P.2 3) (ccP P side))
  | 0 => ⟨fun _ side h1 h2 => by omega, fun _ i hi => absurd hi (Nat.not_lt_zero i)⟩
  | k + 1 => by
    have ih := wk_all Pr m h set n Z k
    rw [wkL]
    by_cases hc : wkC P m h set n (k + 1) = true
    · rw [if_pos hc]
      constructor
      · intro hA side h1 h2 h3
        by_cases e : side = k + 1
        · subst e
          have := hA (wkL P m h set n Z k).2.2 (Nat.lt_succ_self _)
          have : Pr (updN (wkL P m h set n Z k).1 (wkL P m h set n Z k).2.2 (crossF P (k + 1) m) (wkL P m h set n Z k).2.2) (updN (wkL P m h set n Z k).2.1 (wkL P m h set n Z k).2.2 (bs (P.2 3) (ccP P (k + 1))) (wkL P m h set n Z k).2.2) := this
          rw [updN_s, updN_s] at this
          exact this
        · refine ih.mp (fun i hi => ?_) side h1 (by omega) h3
          have := hA i (Nat.lt_succ_of_lt hi)
          have : Pr (updN (wkL P m h set n Z k).1 (wkL P m h set n Z k).2.2 (crossF P (k + 1) m) i) (updN (wkL P m h set n Z k).2.1 (wkL P m h set n Z k).2.2 (bs (P.2 3) (ccP P (k + 1))) i) := this
          rw [updN_n (by omega), updN_n (by omega)] at this
          exact this
      · intro hA i hi
        have hi : i < (wkL P m h set n Z k).2.2 + 1 := hi
        show Pr (updN (wkL P m h set n Z k).1 (wkL P m h set n Z k).2.2 (crossF P (k + 1) m) i) (updN (wkL P m h set n Z k).2.1 (wkL P m h set n Z k).2.2 (bs (P.2 3) (ccP P (k + 1))) i)
        by_cases e : i = (wkL P m h set n Z k).2.2
        · subst e
          rw [updN_s, updN_s]
          exact hA (k + 1) (by omega) (Nat.le_refl _) hc
        · rw [updN_n e, updN_n e]
          exact ih.mpr (fun side h1 h2 h3 => hA side h1 (by omega) h3) i (by omega)
    · rw [if_neg hc, ih]
      constructor
      · intro hA side h1 h2 h3
        by_cases e : side = k + 1
        · subst e; exact absurd h3 hc
        · exact hA side h1 (by omega) h3
      · intro hA side h1 h2 h3
        exact hA side h1 (by omega) h3
theorem wkC_iff {m h set n side : Nat} : wkC P m h set n side = true ↔ side &&& set ≠ 0 ∧ crossF P side m &&& h = 0 ∧ cd (crossF P side m) ≤ n := by
  rw [wkC]
  simp only [Bool.and_eq_true, decide_eq_true_eq]
theorem c20_cd {x : Nat} (h : x < 4096) : c20 x = cd x := by
  have : ∀ k, cn x.testBit (12 + k) = cn x.testBit 12 := fun k => by
    induction k with
    | zero => rfl
    | succ k ih =>
      rw [show 12 + (k + 1) = (12 + k) + 1 from rfl, cn, ih, tb_lt (n := 12) h (by omega)]
      simp
  exact this 8
theorem sub_andn {x m h : Nat} (hx : sub x m) : sub x (andn m h) ↔ x &&& h = 0 := by
  constructor
  · intro hs
    refine eq0_tb.mpr (fun i => ?_)
    rw [Nat.testBit_and]
    cases hq : x.testBit i
    · rfl
    · have := hs i hq
      rw [andn_tb] at this
      simp only [Bool.and_eq_true, Bool.not_eq_true'] at this
      rw [this.2]; rfl
  · intro h0 i hi
    have := eq0_tb.mp h0 i
    rw [Nat.testBit_and, hi] at this
    rw [andn_tb, hx i hi]
    simpa using this
/-- lasting, by the sides that the class finds weak -/
theorem PR.last (hP : PR P R F) {t m h n : Nat} (hv : ∀ s, m.testBit s = true → s < F 8) (ht : t < 2 ^ F 7) (hn : n ≤ 3) (Z : CutT) (k : Nat) (hk : k < 4096) : dlB R t m (andn (andn m h) k) n = true ↔ ∀ i, i < (wkL P m h t n Z (2 ^ F 7 - 1)).2.2 → (wkL P m h t n Z (2 ^ F 7 - 1)).1 i &&& k ≠ 0 := by
  have h12 := hP.2.1.2.2.1
  have hm : m < 4096 := by
    have : m < 2 ^ 12 := Nat.lt_pow_two_of_testBit m (fun i hi => by
      cases hb : m.testBit i
      · rfl
      · have := hv i hb; omega)
    exact this
  rw [dlB_last (Nat.lt_of_lt_of_le (andn_b (andn_b hm)) (by decide)) hn, last_sides hP.2.1.2.1 ht (fun s _ hs i hi => hP.ends (Or.inl (hv s hs)) hi), wk_all (fun x _ => x &&& k ≠ 0)]
  have hcl := fun side => crossF_lt P side m
  constructor
  · intro hA side h1 h2 h3
    obtain ⟨w1, w2, w3⟩ := wkC_iff.mp h3
    intro h0
    have hs1 : sub (crN (EM R) 20 m side) (andn (andn m h) k) := by
      rw [← hP.cr hv side]
      have a1 : sub (crossF P side m) m := by rw [hP.cr hv]; exact crN_sub _ _ _ _
      exact (sub_andn ((sub_andn a1).mpr w2)).mpr h0
    have := hA side h1 h2 w1 hs1
    rw [← hP.cr hv side, c20_cd (hcl side)] at this
    omega
  · intro hA side h1 h2 h3 h4
    apply Classical.byContradiction
    intro hnn
    rw [← hP.cr hv side] at h4 hnn
    rw [c20_cd (hcl side)] at hnn
    have a1 : sub (crossF P side m) m := by rw [hP.cr hv]; exact crN_sub _ _ _ _
    have a2 : sub (crossF P side m) (andn m h) := fun i hi => andn_v (h4 i hi)
    exact hA side h1 h2 (wkC_iff.mpr ⟨h3, (sub_andn a1).mp a2, by omega⟩) ((sub_andn a2).mp h4)
theorem a_lasts (hP : PR P R F) (hQ : CR Q R F) (Z : CutT) (x y : Int32) : (sLasts P Q Z x y).1 = mLasts R F x y := by
  obtain ⟨g6, g7, g8, g9⟩ := hP.2.2.1
  have hp7 : 2 ^ F 7 ≤ 2 ^ 8 := Nat.pow_le_pow_right (by decide) hP.2.1.2.1
  have e10 : F 10 = Q.2.2.1 := hQ.2.2.2.2.2.1
  rw [sLasts, mLasts, ← g7]
  by_cases c1 : inB x (2 ^ F 7) = true
  · rw [if_pos c1, if_pos c1]
    obtain ⟨t, ht, rfl⟩ := inB_of c1 (by omega)
    rw [show ix (nI t) = t from nI_clamp (by omega)]
    by_cases c2 : inR y 3 = true
    · rw [if_pos c2, if_pos c2]
      obtain ⟨n, hn, rfl⟩ := inR_of (by decide) c2
      rw [show ix (nI n) = n from nI_clamp (by omega)]
      have hv : ∀ s, (thF (stM R F) 0).testBit s = true → s < F 8 := fun s hs => thF_v hs
      have h0 := hP.last (h := F 10) hv ht hn Z 0 (by decide)
      rw [andn_0] at h0
      show (if (wkZ P Q Z t n).2.2 = 0 then nI 1 else nI 0) = _
      rw [wkZ, ← g7, thF_e hQ, ← e10]
      generalize wkL P (thF (stM R F) 0) (F 10) t n Z (2 ^ F 7 - 1) = W at h0 ⊢
      by_cases hc : W.2.2 = 0
      · rw [if_pos hc, h0.mpr (fun i hi => by omega)]; rfl
      · rw [if_neg hc]
        have : dlB R t (thF (stM R F) 0) (andn (thF (stM R F) 0) (F 10)) n = false := by
          cases hq : dlB R t (thF (stM R F) 0) (andn (thF (stM R F) 0) (F 10)) n
          · rfl
          · exact absurd (Nat.and_zero _) (h0.mp hq 0 (by omega))
        rw [this]; rfl
    · rw [if_neg c2, if_neg c2]
  · rw [if_neg c1, if_neg c1]
theorem a_hems (hP : PR P R F) (hQ : CR Q R F) (Z : CutT) (x y : Int32) : (sHems P Q Z x y).1 = mHems R F x y := by
  obtain ⟨g6, g7, g8, g9⟩ := hP.2.2.1
  have h12 := hP.2.1.2.2.1
  have hp7 : 2 ^ F 7 ≤ 2 ^ 8 := Nat.pow_le_pow_right (by decide) hP.2.1.2.1
  have hp8 : 2 ^ F 8 ≤ 2 ^ 12 := Nat.pow_le_pow_right (by decide) h12
  have e10 : F 10 = Q.2.2.1 := hQ.2.2.2.2.2.1
  rw [sHems, mHems, ← g7]
  by_cases c1 : inB x (2 ^ F 7) = true
  · rw [if_pos c1, if_pos c1]
    obtain ⟨t, ht, rfl⟩ := inB_of c1 (by omega)
    rw [show ix (nI t) = t from nI_clamp (by omega)]
    by_cases c2 : inL y 1 2 = true
    · rw [if_pos c2, if_pos c2]
      have c2b := of_decide_eq_true (show decide (((1 : Nat) : Int) ≤ y.toInt ∧ y.toInt ≤ ((2 : Nat) : Int)) = true from c2)
      obtain ⟨n, hn31, rfl⟩ := nI_of (x := y) (by rw [lt0_iff]; omega)
      rw [nI_toInt hn31] at c2b
      rw [show ix (nI n) = n from nI_clamp (by omega)]
      have hv : ∀ s, (thF (stM R F) 0).testBit s = true → s < F 8 := fun s hs => thF_v hs
      have hlt : thF (stM R F) 0 < 2 ^ F 8 := by
        apply Nat.lt_pow_two_of_testBit
        intro i hi
        cases hb : (thF (stM R F) 0).testBit i
        · rfl
        · have := hv i hb; omega
      show nI (fhL (wkZ P Q Z t n) (andn (thF Q.1 0) Q.2.2.1) (andn (thF Q.1 0) Q.2.2.1 + 1)) = _
      rw [wkZ, ← g7, thF_e hQ, ← e10]
      have h0 := fun k hk => hP.last (h := F 10) hv ht (show n ≤ 3 by omega) Z k hk
      have hfr : andn (thF (stM R F) 0) (F 10) < 2 ^ F 8 := andn_b hlt
      generalize wkL P (thF (stM R F) 0) (F 10) t n Z (2 ^ F 7 - 1) = W at h0 ⊢
      generalize thF (stM R F) 0 = m at h0 hfr ⊢
      generalize andn m (F 10) = fr at h0 hfr ⊢
      have key : ∀ k, k ≤ 2 ^ F 8 → fhL W fr k = mhL R t m fr n k := by
        intro k
        induction k with
        | zero => intro _; rfl
        | succ k ih =>
          intro hk
          rw [fhL, mhL, ih (by omega)]
          have hb : hdB W k = true ↔ dlB R t m (andn fr k) n = true := by
            rw [h0 k (by omega), hdB, decide_eq_true_eq]
          by_cases c3 : (mhL R t m fr n k = NN ∨ cd k < cd (mhL R t m fr n k)) ∧ andn k fr = 0 ∧ hdB W k = true
          · rw [if_pos c3, if_pos ⟨⟨c3.2.1, c3.1⟩, hb.mp c3.2.2⟩]
          · rw [if_neg c3, if_neg (fun z => c3 ⟨z.1.2, z.1.1, hb.mpr z.2⟩)]
      have stop : ∀ d, mhL R t m fr n (fr + 1 + d) = mhL R t m fr n (fr + 1) := by
        intro d
        induction d with
        | zero => rfl
        | succ d ih =>
          show mhL R t m fr n (fr + 1 + d + 1) = _
          rw [mhL, if_neg (fun z => by
            have h1 := z.1.1
            have h2 : sub (fr + 1 + d) fr := fun i hi => by
              have := eq0_tb.mp h1 i
              rw [andn_tb, hi] at this
              simpa using this
            have := sub_le h2
            omega), ih]
      rw [key (fr + 1) (by omega), ← stop (2 ^ F 8 - (fr + 1)), show fr + 1 + (2 ^ F 8 - (fr + 1)) = 2 ^ F 8 by omega]
    · rw [if_neg c2, if_neg c2]
  · rw [if_neg c1, if_neg c1]
end ANS3
