/-! the two sides' answers: odds -/
section ANS5
variable {P : PlanT} {Q : ClothT} {R : Nat → Nat → Nat} {F : Nat → Nat}
theorem fly_mono {E : Nat → Nat} {N x y a : Nat} (h : sub x y) (hf : (flyF E N x).testBit a = true) : (flyF E N y).testBit a = true := by
  obtain ⟨h1, h2⟩ := (flyF_tb _ _ _ _).mp hf
  exact (flyF_tb _ _ _ _).mpr ⟨h1, fun X a1 a2 a3 => h2 X a1 a2 (fun s hs hb => a3 s hs (h s hb))⟩
theorem sm_two (f : Nat → Nat) : ∀ n, sm f (2 * n) = sm (fun t => f (2 * t)) n + sm (fun t => f (2 * t + 1)) n
  | 0 => rfl
  | n + 1 => by
    rw [show 2 * (n + 1) = (2 * n + 1) + 1 by omega, sm, sm, sm_two f n, sm, sm]
    omega
theorem sm_0 {f : Nat → Nat} : ∀ n, (∀ i, i < n → f i = 0) → sm f n = 0
  | 0, _ => rfl
  | n + 1, h => by rw [sm, sm_0 n (fun i hi => h i (by omega)), h n (by omega)]
theorem sm_ge {f : Nat → Nat} : ∀ n i, i < n → f i ≤ sm f n
  | 0, i, h => by omega
  | n + 1, i, h => by
    rw [sm]
    by_cases e : i = n
    · subst e; omega
    · have := sm_ge (f := f) n i (by omega); omega
/-- the two halves of a seam that may fray, or not -/
theorem pt_two {q may b0 s j : Nat} (hq : q ≤ 100) (hj : j < 2 ^ s) : ptF q may b0 (s + 1) j + ptF q may b0 (s + 1) (j + 2 ^ s) = ptF q may b0 s j := by
  have e := pow_s s
  rw [ptF, ptF]
  by_cases hm : may.testBit s = true
  · rw [if_pos hm, if_pos hm, if_pos hj, if_neg (show ¬ j + 2 ^ s < 2 ^ s by omega), if_pos (by omega), show j + 2 ^ s - 2 ^ s = j by omega]
    have := goes_le (part := ptF q may b0 s j) hq
    omega
  · rw [if_neg hm, if_neg hm, ptF_0 q may b0 s (j + 2 ^ s) (by omega)]; rfl
theorem half_sum (f : Nat → Nat) (j s n : Nat) : sm (fun t => f (j + t * 2 ^ s)) (2 * n) = sm (fun t => f (j + t * 2 ^ (s + 1))) n + sm (fun t => f (j + 2 ^ s + t * 2 ^ (s + 1))) n := by
  rw [sm_two]
  congr 1
  · exact sm_cg n (fun t _ => by
      rw [show j + 2 * t * 2 ^ s = j + t * 2 ^ (s + 1) by rw [pow_s, Nat.mul_comm 2 t, Nat.mul_assoc]])
  · exact sm_cg n (fun t _ => by
      rw [show j + (2 * t + 1) * 2 ^ s = j + 2 ^ s + t * 2 ^ (s + 1) by rw [pow_s, Nat.mul_comm 2 t, Nat.add_mul, Nat.one_mul, Nat.mul_assoc]; omega])
theorem mass {q may b0 : Nat} (hq : q ≤ 100) : ∀ d s j, j < 2 ^ s → sm (fun t => ptF q may b0 (s + d) (j + t * 2 ^ s)) (2 ^ d) = ptF q may b0 s j
  | 0, s, j, _ => by
    show sm _ (0 + 1) = _
    rw [sm, sm]; simp
  | d + 1, s, j, hj => by
    have e := pow_s s
    rw [show 2 ^ (d + 1) = 2 * 2 ^ d from pow_s d, half_sum (fun z => ptF q may b0 (s + (d + 1)) z), show s + (d + 1) = s + 1 + d by omega, mass hq d (s + 1) j (by omega), mass hq d (s + 1) (j + 2 ^ s) (by omega), pt_two hq hj]
theorem pt_sub {q may b0 : Nat} : ∀ s j, 0 < ptF q may b0 s j → sub j may
  | 0, j, h => by
    rw [ptF] at h
    split at h
    · next e => subst e; intro i hi; simp at hi
    · omega
  | s + 1, j, h => by
    have e := pow_s s
    rw [ptF] at h
    split at h
    · next hm =>
      split at h
      · refine pt_sub (q := q) (b0 := b0) s j (Nat.pos_of_ne_zero (fun z => ?_))
        rw [z] at h; simp at h
      · next hge =>
        split at h
        · next hlt =>
          have h1 : 0 < ptF q may b0 s (j - 2 ^ s) := by
            apply Nat.pos_of_ne_zero
            intro z
            rw [z] at h; simp at h
          have h2 := pt_sub s _ h1
          intro i hi
          by_cases ei : i = s
          · subst ei; exact hm
          · refine h2 i ?_
            have ej : j = (j - 2 ^ s) ||| 2 ^ s := by rw [or_pow (by omega)]; omega
            rw [ej, Nat.testBit_or, Nat.testBit_two_pow, decide_eq_false (fun z => ei z.symm)] at hi
            simpa using hi
        · omega
    · exact pt_sub s j h
theorem lo_tb {j t s i : Nat} (hj : j < 2 ^ s) : (j + t * 2 ^ s).testBit i = if i < s then j.testBit i else t.testBit (i - s) := by
  have e := Nat.two_pow_add_eq_or_of_lt hj t
  rw [show j + t * 2 ^ s = 2 ^ s * t + j by rw [Nat.mul_comm t]; omega, e, Nat.testBit_or, Nat.mul_comm, Nat.testBit_mul_two_pow]
  by_cases h : i < s
  · rw [if_pos h, decide_eq_false (show ¬ i ≥ s by omega)]; simp
  · rw [if_neg h, decide_eq_true (show i ≥ s by omega), tb_lt hj (by omega)]; simp
/-- the seams of may from s on -/
def opF (may s : Nat) : Nat := andn may (2 ^ s - 1)
theorem opF_tb (may s i : Nat) : (opF may s).testBit i = (may.testBit i && decide (s ≤ i)) := by
  rw [opF, andn_tb, Nat.testBit_two_pow_sub_one]
  by_cases h : i < s
  · rw [decide_eq_true h, decide_eq_false (by omega)]; simp
  · rw [decide_eq_false h, decide_eq_true (by omega)]; simp
theorem pf_sum (hP : PR P R F) {m may a q b0 S : Nat} (hv : ∀ s, m.testBit s = true → s < F 8) (hms : sub may m) (hS : may < 2 ^ S) (hS12 : S ≤ 12) (hq : q ≤ 100) : ∀ d s j, s + d = S → j < 2 ^ s → pfF P a q (12 - s) (andn (andn m j) (opF may s)) (opF may s) (ptF q may b0 s j) = sm (fun t => odG R m a q may b0 S (j + t * 2 ^ s)) (2 ^ d) := by
  have hfl : ∀ w, sub w m → flyF (P.1 5) 12 w = flyF (EM R) 20 w := fun w hw => hP.fly (fun s hs => hv s (hw s hs))
  have leaf : ∀ d s j, s + d = S → j < 2 ^ s → sm (fun t => odG R m a q may b0 S (j + t * 2 ^ s)) (2 ^ d) ≤ ptF q may b0 s j ∧ (ptF q may b0 s j = 0 ∨ (flyF (EM R) 20 (andn m j)).testBit a = false → sm (fun t => odG R m a q may b0 S (j + t * 2 ^ s)) (2 ^ d) = 0) ∧ ((flyF (EM R) 20 (andn (andn m j) (opF may s))).testBit a = true → sm (fun t => odG R m a q may b0 S (j + t * 2 ^ s)) (2 ^ d) = ptF q may b0 s j) := by
    intro d s j hd hj
    have hms2 := mass (q := q) (may := may) (b0 := b0) hq d s j hj
    rw [hd] at hms2
    have hz : ptF q may b0 s j = 0 → ∀ t, t < 2 ^ d → ptF q may b0 S (j + t * 2 ^ s) = 0 := fun h0 t ht => by
      have := sm_ge (f := fun t => ptF q may b0 S (j + t * 2 ^ s)) (2 ^ d) t ht
      omega
    have hle : ∀ n, sm (fun t => odG R m a q may b0 S (j + t * 2 ^ s)) n ≤ sm (fun t => ptF q may b0 S (j + t * 2 ^ s)) n := by
      intro n
      induction n with
      | zero => exact Nat.le_refl 0
      | succ n ih =>
        rw [sm, sm]
        have : odG R m a q may b0 S (j + n * 2 ^ s) ≤ ptF q may b0 S (j + n * 2 ^ s) := by unfold odG; split <;> omega
        omega
    refine ⟨by have := hle (2 ^ d); omega, ?_, ?_⟩
    · rintro (h0 | h0)
      · have := hle (2 ^ d); omega
      · refine sm_0 _ (fun t _ => ?_)
        rw [odG, if_neg (fun z => ?_)]
        have h1 : sub (andn m (j + t * 2 ^ s)) (andn m j) := fun i hi => by
          rw [andn_tb] at hi ⊢
          simp only [Bool.and_eq_true, Bool.not_eq_true'] at hi ⊢
          refine ⟨hi.1, ?_⟩
          rw [lo_tb hj] at hi
          by_cases c : i < s
          · rw [if_pos c] at hi; exact hi.2
          · exact tb_lt hj (by omega)
        rw [fly_mono h1 z.2] at h0
        exact absurd h0 (by decide)
    · intro hf
      rw [← hms2]
      refine sm_cg _ (fun t _ => ?_)
      unfold odG
      by_cases c : 0 < ptF q may b0 S (j + t * 2 ^ s)
      · have h1 : sub (andn (andn m j) (opF may s)) (andn m (j + t * 2 ^ s)) := fun i hi => by
          rw [andn_tb, andn_tb, opF_tb] at hi
          rw [andn_tb]
          simp only [Bool.and_eq_true, Bool.not_eq_true', Bool.and_eq_false_iff, decide_eq_false_iff_not] at hi ⊢
          refine ⟨hi.1.1, ?_⟩
          cases hb : (j + t * 2 ^ s).testBit i
          · rfl
          · exfalso
            have h2 := pt_sub S _ c i hb
            rw [lo_tb hj] at hb
            rcases hi.2 with h3 | h3
            · rw [h2] at h3; exact absurd h3 (by decide)
            · rw [if_pos (by omega), hi.1.2] at hb
              exact absurd hb (by decide)
        rw [if_pos ⟨c, fly_mono h1 hf⟩]
      · rw [if_neg (fun z => c z.1)]; omega
  have un : ∀ s j, j < 2 ^ s → ptF q may b0 s j ≠ 0 → andn (andn m j) (opF may s) ||| opF may s = andn m j := fun s j hj _ => by
    apply Nat.eq_of_testBit_eq
    intro i
    rw [Nat.testBit_or, andn_tb, opF_tb, andn_tb]
    by_cases c : s ≤ i
    · rw [decide_eq_true c, tb_lt hj c]
      cases h1 : may.testBit i
      · simp
      · rw [hms i h1]; simp
    · rw [decide_eq_false c]; simp
  intro d
  induction d with
  | zero =>
    intro s j hd hj
    have hd : s = S := by omega
    obtain ⟨l1, l2, l3⟩ := leaf 0 s j (by omega) hj
    rw [pfF_eq _ _ _ _ _ _ _ (by omega)]
    by_cases h0 : ptF q may b0 s j = 0
    · rw [if_pos (Or.inl h0), l2 (Or.inl h0)]
    · rw [un s j hj h0, hfl _ (fun i hi => andn_v hi)]
      have e0 : opF may s = 0 := eq0_tb.mpr (fun i => by
        rw [opF_tb]
        by_cases c : s ≤ i
        · rw [tb_lt hS (by omega)]; rfl
        · rw [decide_eq_false c]; simp)
      have e1 : andn (andn m j) (opF may s) = andn m j := by rw [e0, andn_0]
      rw [e1] at l3 ⊢
      rw [hfl _ (fun i hi => andn_v hi)]
      by_cases hf : (flyF (EM R) 20 (andn m j)).testBit a = false
      · rw [if_pos (Or.inr hf), l2 (Or.inr hf)]
      · have hf2 : (flyF (EM R) 20 (andn m j)).testBit a = true := by simpa using hf
        rw [if_neg (fun z => z.elim h0 hf), if_pos (Or.inr hf2), l3 hf2]
  | succ d ih =>
    intro s j hd hj
    have e := pow_s s
    obtain ⟨l1, l2, l3⟩ := leaf (d + 1) s j (by omega) hj
    rw [pfF_eq _ _ _ _ _ _ _ (by omega)]
    by_cases h0 : ptF q may b0 s j = 0
    · rw [if_pos (Or.inl h0), l2 (Or.inl h0)]
    · rw [un s j hj h0, hfl _ (fun i hi => andn_v hi), hfl (andn (andn m j) (opF may s)) (fun i hi => andn_v (andn_v hi))]
      by_cases hf : (flyF (EM R) 20 (andn m j)).testBit a = false
      · rw [if_pos (Or.inr hf), l2 (Or.inr hf)]
      · rw [if_neg (fun z => z.elim h0 hf)]
        by_cases hf2 : (flyF (EM R) 20 (andn (andn m j) (opF may s))).testBit a = true
        · rw [if_pos (Or.inr hf2), l3 hf2]
        · rw [if_neg (fun z => z.elim (by omega) hf2), show 12 - (12 - s) = s by omega, show 12 - s - 1 = 12 - (s + 1) by omega, show 2 ^ (d + 1) = 2 * 2 ^ d from pow_s d, half_sum (fun z => odG R m a q may b0 S z)]
          have i1 := ih (s + 1) j (by omega) (by omega)
          have i2 := ih (s + 1) (j + 2 ^ s) (by omega) (by omega)
          have eo : andn (opF may s) (2 ^ s) = opF may (s + 1) := Nat.eq_of_testBit_eq (fun i => by
            rw [andn_tb, opF_tb, opF_tb, Nat.testBit_two_pow]
            by_cases c : s = i
            · subst c; simp
            · by_cases c2 : s ≤ i
              · rw [decide_eq_true c2, decide_eq_true (show s + 1 ≤ i by omega), decide_eq_false c]; simp
              · rw [decide_eq_false c2, decide_eq_false (show ¬ s + 1 ≤ i by omega)]; simp)
          have js : ∀ i, (j + 2 ^ s).testBit i = (j.testBit i || decide (s = i)) := fun i => by
            rw [Nat.add_comm, ← or_pow hj, Nat.testBit_or, Nat.testBit_two_pow]
          by_cases hb : may.testBit s = true
          · have hb2 : ¬ opF may s &&& 2 ^ s = 0 := fun z => by
              have := tb_and0.mp z
              rw [opF_tb, hb] at this
              simp at this
            rw [if_neg hb2, eo]
            rw [ptF, if_pos hb, if_pos hj] at i1
            rw [ptF, if_pos hb, if_neg (show ¬ j + 2 ^ s < 2 ^ s by omega), if_pos (by omega), show j + 2 ^ s - 2 ^ s = j by omega] at i2
            have e2 : andn (andn m (j + 2 ^ s)) (opF may (s + 1)) = andn (andn m j) (opF may s) := Nat.eq_of_testBit_eq (fun i => by
              simp only [andn_tb, js, opF_tb]
              by_cases c : s = i
              · subst c; rw [hb]; simp
              · rw [decide_eq_false c]
                by_cases c2 : s ≤ i
                · rw [decide_eq_true c2, decide_eq_true (show s + 1 ≤ i by omega)]; simp
                · rw [decide_eq_false c2, decide_eq_false (show ¬ s + 1 ≤ i by omega)]; simp)
            have e3 : andn (andn m j) (opF may (s + 1)) = andn (andn m j) (opF may s) ||| 2 ^ s := Nat.eq_of_testBit_eq (fun i => by
              simp only [Nat.testBit_or, andn_tb, opF_tb, Nat.testBit_two_pow]
              by_cases c : s = i
              · subst c; rw [hms s hb, tb_lt hj (Nat.le_refl _)]; simp
              · rw [decide_eq_false c]
                by_cases c2 : s ≤ i
                · rw [decide_eq_true c2, decide_eq_true (show s + 1 ≤ i by omega)]; simp
                · rw [decide_eq_false c2, decide_eq_false (show ¬ s + 1 ≤ i by omega)]; simp)
            rw [e2] at i2
            rw [e3] at i1
            rw [i1, i2]; omega
          · have hb : may.testBit s = false := by simpa using hb
            have hb2 : opF may s &&& 2 ^ s = 0 := tb_and0.mpr (by rw [opF_tb, hb]; rfl)
            rw [if_pos hb2]
            rw [ptF, if_neg (by rw [hb]; decide)] at i1
            have e4 : opF may (s + 1) = opF may s := Nat.eq_of_testBit_eq (fun i => by
              rw [opF_tb, opF_tb]
              by_cases c : s = i
              · subst c; rw [hb]; rfl
              · by_cases c2 : s ≤ i
                · rw [decide_eq_true c2, decide_eq_true (show s + 1 ≤ i by omega)]
                · rw [decide_eq_false c2, decide_eq_false (show ¬ s + 1 ≤ i by omega)])
            rw [e4] at i1
            have z2 := (leaf d (s + 1) (j + 2 ^ s) (by omega) (by omega)).2.1 (Or.inl (by
              rw [ptF, if_neg (by rw [hb]; decide), ptF_0 q may b0 s (j + 2 ^ s) (by omega)]))
            rw [i1, z2]; rfl
theorem a_odds (hP : PR P R F) (hQ : CR Q R F) (Y : Nat × Nat) (x y : Int32) : (sOdds P Q Y x y).1 = mOdds R F x y := by
  obtain ⟨g6, g7, g8, g9⟩ := hP.2.2.1
  have h8 := hP.2.1.2.1
  have e10 : F 10 = Q.2.2.1 := hQ.2.2.2.2.2.1
  rw [sOdds, mOdds, ← g7]
  by_cases c1 : inB x (F 7) = true
  · rw [if_pos c1, if_pos c1]
    obtain ⟨a, ha, rfl⟩ := inB_of c1 (by omega)
    by_cases c2 : inR y 100 = true
    · rw [if_pos c2, if_pos c2]
      obtain ⟨q, hq, rfl⟩ := inR_of (by decide) c2
      rw [show ix (nI a) = a from nI_clamp (by omega), show ix (nI q) = q from nI_clamp (by omega), thF_e hQ, ← e10]
      have hv : ∀ s, (thF (stM R F) 0).testBit s = true → s < F 8 := fun s hs => thF_v hs
      generalize thF (stM R F) 0 = m at hv
      have hms : sub (andn m (F 10)) m := fun i hi => andn_v hi
      have hlt : andn m (F 10) < 2 ^ F 8 := by
        apply Nat.lt_pow_two_of_testBit
        intro i hi
        cases hb : (andn m (F 10)).testBit i
        · rfl
        · have := hv i (hms i hb); omega
      generalize 1000000000 = b0
      have key := pf_sum (a := a) (q := q) (b0 := b0) hP hv hms hlt hP.2.1.2.2.1 (by omega) (F 8) 0 0 (by omega) (by decide)
      have e0 : opF (andn m (F 10)) 0 = andn m (F 10) := Nat.eq_of_testBit_eq (fun i => by rw [opF_tb, decide_eq_true (Nat.zero_le i), Bool.and_true])
      have e1 : andn (andn m 0) (andn m (F 10)) = m &&& F 10 := Nat.eq_of_testBit_eq (fun i => by
        rw [andn_0, andn_tb, andn_tb, Nat.testBit_and]
        cases m.testBit i <;> cases (F 10).testBit i <;> rfl)
      rw [e0, e1, show ptF q (andn m (F 10)) b0 0 0 = b0 from rfl] at key
      show nI (pfF P a q (12 - 0) (m &&& F 10) (andn m (F 10)) b0) = _
      rw [key]
      congr 1
      exact sm_cg _ (fun t _ => by rw [Nat.zero_add, Nat.pow_zero, Nat.mul_one])
    · rw [if_neg c2, if_neg c2]
  · rw [if_neg c1, if_neg c1]
end ANS5
