/-! the two sides' answers: thread -/
section ANS4
variable {P : PlanT} {Q : ClothT} {R : Nat → Nat → Nat} {F : Nat → Nat}
theorem cn_add (p : Nat → Bool) (a : Nat) : ∀ n, cn p (a + n) = cn p a + cn (fun i => p (a + i)) n
  | 0 => rfl
  | n + 1 => by
    rw [show a + (n + 1) = (a + n) + 1 from rfl, cn, cn_add p a n, cn]
    omega
theorem hi_tb {x y i : Nat} (hx : x < 4096) : (x ||| y * 2 ^ 12).testBit i = if i < 12 then x.testBit i else y.testBit (i - 12) := by
  rw [Nat.testBit_or, Nat.testBit_mul_two_pow]
  by_cases h : i < 12
  · rw [if_pos h, decide_eq_false (by omega)]; simp
  · rw [if_neg h, decide_eq_true (show i ≥ 12 by omega), tb_lt (n := 12) hx (by omega)]; simp
theorem c20_hi {x y : Nat} (hx : x < 4096) (hy : y < 256) : c20 (x ||| y * 2 ^ 12) = cd x + cd y := by
  have e : c20 (x ||| y * 2 ^ 12) = cn (x ||| y * 2 ^ 12).testBit (12 + 8) := rfl
  have e2 : cd y = cn y.testBit (8 + 4) := rfl
  rw [e, cn_add, e2, cn_add y.testBit 8 4, cn_0 (p := fun i => y.testBit (8 + i)) 4 (fun i _ => tb_lt (n := 8) hy (by omega)), Nat.add_zero]
  congr 1
  · exact cn_cg 12 (fun i hi => by rw [hi_tb hx, if_pos hi])
  · exact cn_cg 8 (fun i hi => by rw [hi_tb hx, if_neg (by omega), show 12 + i - 12 = i by omega])
theorem sm_up {f : Nat → Nat} (n : Nat) (h : ∀ i, n ≤ i → f i = 0) : ∀ d, sm f (n + d) = sm f n
  | 0 => rfl
  | d + 1 => by
    rw [show n + (d + 1) = (n + d) + 1 from rfl, sm, sm_up n h d, h (n + d) (by omega)]; rfl
theorem PR.cr2 (hP : PR P R F) {m k : Nat} (hv : ∀ s, m.testBit s = true → s < F 8) (hm : m < 4096) (hk : k < 2 ^ F 9) (side : Nat) : crN (EM R) 20 (m ||| k * 2 ^ 12) side = crossF P side m ||| (bs (P.2 3) (ccP P side) &&& k) * 2 ^ 12 := by
  obtain ⟨g6, g7, g8, g9⟩ := hP.2.2.1
  have h9 := hP.2.1.2.2.2.1
  apply Nat.eq_of_testBit_eq
  intro i
  rw [hi_tb (crossF_lt P side m), crN, bs_tb, hi_tb hm, hP.cr hv, crN, bs_tb]
  by_cases h : i < 12
  · rw [if_pos h, if_pos h]
  · rw [if_neg h, if_neg h, Nat.testBit_and, bs_tb]
    by_cases hb : k.testBit (i - 12) = true
    · have hu : i - 12 < F 9 := by
        apply Classical.byContradiction
        intro hcc
        rw [tb_lt hk (by omega)] at hb
        exact absurd hb (by decide)
      obtain ⟨e6, -, -⟩ := hP.2.2.2.2.2.2 (i - 12) hu
      have hvv := hP.2.1.2.2.2.2.2.2.2.2.2.2 i (Or.inr ⟨by omega, by omega⟩)
      rw [show 12 + (i - 12) = i by omega] at e6
      rw [hb, ← g9, decide_eq_true hu, decide_eq_true (show i < 20 by omega), ccP, e6, EM_of hvv]
      simp
    · have hb : k.testBit (i - 12) = false := by simpa using hb
      rw [hb]; simp
theorem PR.thread (hP : PR P R F) {m h n k : Nat} (hv : ∀ s, m.testBit s = true → s < F 8) (hm : m < 4096) (hh : h < 4096) (hn : n ≤ 3) (hk : k < 2 ^ F 9) (Z : CutT) : dlB R (2 ^ F 7 - 1) (m ||| k * 2 ^ 12) (andn (m ||| k * 2 ^ 12) h) n = mdB (wkL P m h (2 ^ F 7 - 1) n Z (2 ^ F 7 - 1)) k n := by
  obtain ⟨g6, g7, g8, g9⟩ := hP.2.2.1
  have h9 := hP.2.1.2.2.2.1
  have hk8 : k < 256 := Nat.lt_of_lt_of_le hk (pow8 h9).1
  have hk20 : k * 2 ^ 12 < 2 ^ 20 := by omega
  have hM : m ||| k * 2 ^ 12 < 2 ^ 20 := or_b 20 (by omega) hk20
  have hends : ∀ s, s < 20 → (m ||| k * 2 ^ 12).testBit s = true → ∀ i, (EM R s).testBit i = true → i < F 7 ∨ i = 8 := fun s _ hs i hi => hP.ends (by
    rw [hi_tb hm] at hs
    by_cases c : s < 12
    · rw [if_pos c] at hs
      exact Or.inl (hv s hs)
    · rw [if_neg c] at hs
      refine Or.inr ⟨by omega, ?_⟩
      apply Classical.byContradiction
      intro hcc
      rw [tb_lt hk (by omega)] at hs
      exact absurd hs (by decide)) hi
  have hcl := fun side => crossF_lt P side m
  have hand : ∀ side, crN (EM R) 20 (m ||| k * 2 ^ 12) side &&& h = 0 ↔ crossF P side m &&& h = 0 := fun side => by
    rw [hP.cr2 hv hm hk]
    constructor
    · intro z
      refine eq0_tb.mpr (fun i => ?_)
      have := eq0_tb.mp z i
      rw [Nat.testBit_and, hi_tb (hcl side)] at this
      rw [Nat.testBit_and]
      by_cases c : i < 12
      · rw [if_pos c] at this; exact this
      · rw [tb_lt (n := 12) (hcl side) (by omega)]; rfl
    · intro z
      refine eq0_tb.mpr (fun i => ?_)
      have := eq0_tb.mp z i
      rw [Nat.testBit_and] at this
      rw [Nat.testBit_and, hi_tb (hcl side)]
      by_cases c : i < 12
      · rw [if_pos c]; exact this
      · rw [tb_lt (n := 12) hh (by omega)]; simp
  have hc20 : ∀ side, c20 (crN (EM R) 20 (m ||| k * 2 ^ 12) side) = cd (crossF P side m) + cd (bs (P.2 3) (ccP P side) &&& k) := fun side => by
    rw [hP.cr2 hv hm hk, c20_hi (hcl side) (Nat.lt_of_le_of_lt Nat.and_le_right hk8)]
  have key : dlB R (2 ^ F 7 - 1) (m ||| k * 2 ^ 12) (andn (m ||| k * 2 ^ 12) h) n = true ↔ mdB (wkL P m h (2 ^ F 7 - 1) n Z (2 ^ F 7 - 1)) k n = true := by
    rw [dlB_last (andn_b hM) hn, last_sides hP.2.1.2.1 (by have := (pow8 hP.2.1.2.1).2; omega) hends, mdB, decide_eq_true_eq, wk_all (fun x y => n < cd x + cd (y &&& k))]
    constructor
    · intro hA side h1 h2 h3
      obtain ⟨w1, w2, w3⟩ := wkC_iff.mp h3
      have := hA side h1 h2 w1 ((sub_andn (crN_sub _ _ _ _)).mpr ((hand side).mpr w2))
      rw [hc20] at this
      exact this
    · intro hA side h1 h2 h3 h4
      have w2 := (hand side).mp ((sub_andn (crN_sub _ _ _ _)).mp h4)
      rw [hc20]
      by_cases c : cd (crossF P side m) ≤ n
      · exact hA side h1 h2 (wkC_iff.mpr ⟨h3, w2, c⟩)
      · omega
  cases h1 : dlB R (2 ^ F 7 - 1) (m ||| k * 2 ^ 12) (andn (m ||| k * 2 ^ 12) h) n <;> cases h2 : mdB (wkL P m h (2 ^ F 7 - 1) n Z (2 ^ F 7 - 1)) k n
  · rfl
  · rw [key.mpr h2] at h1; exact absurd h1 (by decide)
  · rw [key.mp h1] at h2; exact absurd h2 (by decide)
  · rfl
theorem ts_eq (hP : PR P R F) {k : Nat} (hk : k < 2 ^ F 9) : tsF P k = tmF R k (F 9) := by
  have h9 := hP.2.1.2.2.2.1
  rw [tsF, tmF, show 8 = F 9 + (8 - F 9) by omega, sm_up (F 9) (fun i hi => by rw [tb_lt hk hi]; rfl)]
  refine sm_cg _ (fun i hi => ?_)
  obtain ⟨-, e7, -⟩ := hP.2.2.2.2.2.2 i hi
  cases k.testBit i
  · simp
  · simp [e7]
theorem lt_eq (hP : PR P R F) {m n : Nat} (hv : ∀ s, m.testBit s = true → s < F 8) (hm : m < 4096) (hh : F 10 < 4096) (hn : n ≤ 3) (Z : CutT) : ∀ k, k ≤ 2 ^ F 9 → ltL (wkL P m (F 10) (2 ^ F 7 - 1) n Z (2 ^ F 7 - 1)) P n k = mtL R F m n k ∧ ((mtL R F m n k).1 = NN ∨ (mtL R F m n k).2 = tsF P (mtL R F m n k).1)
  | 0, _ => ⟨rfl, Or.inl rfl⟩
  | k + 1, hk => by
    obtain ⟨ih1, ih2⟩ := lt_eq hP hv hm hh hn Z k (by omega)
    rw [ltL, mtL, ih1, ← hP.thread hv hm hh hn (by omega) Z, ts_eq hP (show k < 2 ^ F 9 by omega)]
    refine ⟨rfl, ?_⟩
    split
    · exact Or.inr (ts_eq hP (by omega)).symm
    · exact ih2
theorem a_thread (hP : PR P R F) (hQ : CR Q R F) (Z : CutT) (x y : Int32) : (sThread P Q Z x y).1 = mThread R F x y := by
  obtain ⟨g6, g7, g8, g9⟩ := hP.2.2.1
  have e10 : F 10 = Q.2.2.1 := hQ.2.2.2.2.2.1
  have hh : F 10 < 4096 := hP.2.1.2.2.2.2.1
  rw [sThread, mThread]
  by_cases c : (inR x 2 && inR y 1) = true
  · rw [if_pos c, if_pos c]
    obtain ⟨c1, c2⟩ := Bool.and_eq_true_iff.mp c
    obtain ⟨n, hn, rfl⟩ := inR_of (by decide) c1
    obtain ⟨j, hj, rfl⟩ := inR_of (by decide) c2
    rw [show ix (nI n) = n from nI_clamp (by omega), show ix (nI j) = j from nI_clamp (by omega)]
    have hv : ∀ s, (thF (stM R F) 0).testBit s = true → s < F 8 := fun s hs => thF_v hs
    have hm := thF_lt (stM R F) 0
    show (if nI j = nI 1 ∨ thZ P Q Z n = NN then nI (thZ P Q Z n) else nI (tsF P (thZ P Q Z n))) = _
    rw [thZ, wkZ, ← g7, ← g9, thF_e hQ, ← e10]
    obtain ⟨l1, l2⟩ := lt_eq hP hv hm hh (show n ≤ 3 by omega) Z (2 ^ F 9) (Nat.le_refl _)
    rw [l1]
    generalize mtL R F (thF (stM R F) 0) n (2 ^ F 9) = b at l2 ⊢
    by_cases c3 : b.1 = NN
    · rw [if_pos c3, if_pos (Or.inr c3), c3]
    · rw [if_neg c3]
      have hj2 : j = 0 ∨ j = 1 := by omega
      rcases hj2 with rfl | rfl
      · rw [if_neg (fun z => z.elim (by decide) c3), if_pos rfl, l2.resolve_left c3]
      · rw [if_pos (Or.inl rfl), if_neg (by decide)]
  · rw [if_neg c, if_neg c]
end ANS4
