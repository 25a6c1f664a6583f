/-! the two sides' answers: turns -/
section ANS6
variable {P : PlanT} {Q : ClothT} {R : Nat → Nat → Nat} {F : Nat → Nat}
theorem wa_eq (hP : PR P R F) {a b n m : Nat} (hv : ∀ s, m.testBit s = true → s < F 8) : waF P m (mvF a b n) (mvF a b (n + 1)) = if n % 2 = 0 then woF R m a b else -(woF R m a b) := by
  unfold waF woF mvF
  rw [hP.fly hv]
  by_cases c : n % 2 = 0
  · rw [if_pos c, if_neg (by omega), if_pos c]
  · rw [if_neg c, if_pos (by omega), if_neg c]; omega
theorem ngL_mono {g : Nat → Int} {p : Nat → Bool} {z : Int} (s : Nat) : (ngL g p z s).1 ≤ (ngL g p z (s + 1)).1 := by
  rw [ngL]
  split
  · next h => exact Int.le_of_lt h.2
  · exact Int.le_refl _
theorem ngL_val (g : Nat → Int) (p : Nat → Bool) (z : Int) (s : Nat) : (ngL g p z (s + 1)).1 = if p s = true then max (ngL g p z s).1 (g s) else (ngL g p z s).1 := by
  rw [ngL]
  by_cases h : p s = true
  · rw [if_pos h]
    by_cases h2 : (ngL g p z s).1 < g s
    · rw [if_pos ⟨h, h2⟩, Int.max_eq_right (by omega)]
    · rw [if_neg (fun c => h2 c.2), Int.max_eq_left (by omega)]
  · rw [if_neg h, if_neg (fun c => h c.1)]
theorem sub_v {x m : Nat} {n : Nat} (h : ∀ s, m.testBit s = true → s < n) : ∀ s, (andn m x).testBit s = true → s < n := fun s hs => h s (andn_v hs)
/-- what a search between two bounds says of the worth -/
theorem ab_ng (hP : PR P R F) {a b n : Nat} (ha : a < 8) (hb : b < 8) : ∀ k m lo hi, (∀ s, m.testBit s = true → s < F 8) → (lo < abF P a b n (F 10) k m lo hi → abF P a b n (F 10) k m lo hi ≤ ngF R F a b n k m) ∧ (abF P a b n (F 10) k m lo hi < hi → ngF R F a b n k m ≤ abF P a b n (F 10) k m lo hi)
  | 0, m, lo, hi, hv => by
    rw [abF, ngF, wa_eq hP hv]
    exact ⟨fun _ => Int.le_refl _, fun _ => Int.le_refl _⟩
  | k + 1, m, lo, hi, hv => by
    have h12 := hP.2.1.2.2.1
    have ih := ab_ng hP (n := n) ha hb k
    rw [abF, ngF]
    have hmv : mvF a b (n - (k + 1)) < 8 := mvF_lt ha hb
    have step : ∀ s, s ≤ F 8 → (lo < lpF (fun s z => -(abF P a b n (F 10) k (andn m (2 ^ s)) (-hi) (-(max lo z)))) hi (upF P (mvF a b (n - (k + 1))) m (F 10)) (-(abF P a b n (F 10) k m (-hi) (-lo))) s → lpF (fun s z => -(abF P a b n (F 10) k (andn m (2 ^ s)) (-hi) (-(max lo z)))) hi (upF P (mvF a b (n - (k + 1))) m (F 10)) (-(abF P a b n (F 10) k m (-hi) (-lo))) s ≤ (ngL (fun s => -(ngF R F a b n k (andn m (2 ^ s)))) (fun s => muB R F (mvF a b (n - (k + 1))) s m (F 10)) (-(ngF R F a b n k m)) s).1) ∧ (lpF (fun s z => -(abF P a b n (F 10) k (andn m (2 ^ s)) (-hi) (-(max lo z)))) hi (upF P (mvF a b (n - (k + 1))) m (F 10)) (-(abF P a b n (F 10) k m (-hi) (-lo))) s < hi → (ngL (fun s => -(ngF R F a b n k (andn m (2 ^ s)))) (fun s => muB R F (mvF a b (n - (k + 1))) s m (F 10)) (-(ngF R F a b n k m)) s).1 ≤ lpF (fun s z => -(abF P a b n (F 10) k (andn m (2 ^ s)) (-hi) (-(max lo z)))) hi (upF P (mvF a b (n - (k + 1))) m (F 10)) (-(abF P a b n (F 10) k m (-hi) (-lo))) s) := by
      intro s
      induction s with
      | zero =>
        intro _
        obtain ⟨i1, i2⟩ := ih m (-hi) (-lo) hv
        show (lo < -(abF P a b n (F 10) k m (-hi) (-lo)) → -(abF P a b n (F 10) k m (-hi) (-lo)) ≤ -(ngF R F a b n k m)) ∧ (-(abF P a b n (F 10) k m (-hi) (-lo)) < hi → -(ngF R F a b n k m) ≤ -(abF P a b n (F 10) k m (-hi) (-lo)))
        constructor
        · intro h; have := i2 (by omega); omega
        · intro h; have := i1 (by omega); omega
      | succ s ihs =>
        intro hs
        have ihs := ihs (by omega)
        rw [ngL_val, lpF]
        have hmay := hP.may (a := mvF a b (n - (k + 1))) (s := s) (m := m) (hh := F 10) hmv (by omega) hv
        generalize (ngL (fun s => -(ngF R F a b n k (andn m (2 ^ s)))) (fun s => muB R F (mvF a b (n - (k + 1))) s m (F 10)) (-(ngF R F a b n k m)) s).1 = V at ihs ⊢
        generalize lpF (fun s z => -(abF P a b n (F 10) k (andn m (2 ^ s)) (-hi) (-(max lo z)))) hi (upF P (mvF a b (n - (k + 1))) m (F 10)) (-(abF P a b n (F 10) k m (-hi) (-lo))) s = b1 at ihs ⊢
        obtain ⟨j1, j2⟩ := ihs
        obtain ⟨i1, i2⟩ := ih (andn m (2 ^ s)) (-hi) (-(max lo b1)) (sub_v hv)
        by_cases c : muB R F (mvF a b (n - (k + 1))) s m (F 10) = true
        · rw [if_pos c]
          by_cases c2 : b1 < hi
          · rw [if_pos ⟨c2, hmay.trans c⟩]
            show (lo < max b1 (-(abF P a b n (F 10) k (andn m (2 ^ s)) (-hi) (-(max lo b1)))) → max b1 (-(abF P a b n (F 10) k (andn m (2 ^ s)) (-hi) (-(max lo b1)))) ≤ max V (-(ngF R F a b n k (andn m (2 ^ s))))) ∧ (max b1 (-(abF P a b n (F 10) k (andn m (2 ^ s)) (-hi) (-(max lo b1)))) < hi → max V (-(ngF R F a b n k (andn m (2 ^ s)))) ≤ max b1 (-(abF P a b n (F 10) k (andn m (2 ^ s)) (-hi) (-(max lo b1)))))
            generalize abF P a b n (F 10) k (andn m (2 ^ s)) (-hi) (-(max lo b1)) = r at i1 i2 ⊢
            generalize ngF R F a b n k (andn m (2 ^ s)) = v at i1 i2 ⊢
            constructor
            · intro h; omega
            · intro h; omega
          · rw [if_neg (fun z => c2 z.1)]
            show (lo < b1 → b1 ≤ max V (-(ngF R F a b n k (andn m (2 ^ s))))) ∧ (b1 < hi → max V (-(ngF R F a b n k (andn m (2 ^ s)))) ≤ b1)
            constructor
            · intro h; have := j1 h; omega
            · intro h; omega
        · rw [if_neg c, if_neg (fun z => c (hmay.symm.trans z.2))]
          exact ⟨j1, j2⟩
    have tail : ∀ (f : Nat → Int → Int) (b0 : Int) (d : Nat), lpF f hi (upF P (mvF a b (n - (k + 1))) m (F 10)) b0 (F 8 + d) = lpF f hi (upF P (mvF a b (n - (k + 1))) m (F 10)) b0 (F 8) := by
      intro f b0 d
      induction d with
      | zero => rfl
      | succ d ihd =>
        rw [show F 8 + (d + 1) = (F 8 + d) + 1 from rfl, lpF, if_neg (fun z => ?_), ihd]
        have h1 := z.2
        rw [upF, bs_tb, upP] at h1
        simp only [Bool.and_eq_true] at h1
        have := hv _ (andn_v h1.2.1)
        omega
    rw [show 12 = F 8 + (12 - F 8) by omega, tail]
    exact step (F 8) (Nat.le_refl _)
theorem pl_ng (hP : PR P R F) {a b n k m : Nat} (ha : a < 8) (hb : b < 8) (hn : n = k + 1) (hv : ∀ s, m.testBit s = true → s < F 8) : ∀ s, s ≤ F 8 → plL P a b n (F 10) m s = ngM R F a b n k m s
  | 0, _ => by
    obtain ⟨i1, i2⟩ := ab_ng hP (n := n) ha hb k m (-3) 3 hv
    have b1 := abF_b P a b n (F 10) k m (-3) 3
    have b2 := ngF_b R F a b n k m
    rw [plL, ngM, ngL, show n - 1 = k by omega]
    have : abF P a b n (F 10) k m (-3) 3 = ngF R F a b n k m := by omega
    rw [this]
  | s + 1, hs => by
    have ih := pl_ng hP ha hb hn hv s (by omega)
    have h12 := hP.2.1.2.2.1
    have hmay := hP.may (a := mvF a b (n - (k + 1))) (s := s) (m := m) (hh := F 10) (mvF_lt ha hb) (by omega) hv
    rw [show mvF a b (n - (k + 1)) = a by rw [hn, Nat.sub_self]; rfl] at hmay
    have b3 := plL_b P a b n (F 10) m s
    have hstep : ngM R F a b n k m (s + 1) = if muB R F a s m (F 10) = true ∧ (ngM R F a b n k m s).1 < -(ngF R F a b n k (andn m (2 ^ s))) then (-(ngF R F a b n k (andn m (2 ^ s))), s) else ngM R F a b n k m s := by
      show ngL _ _ _ (s + 1) = _
      rw [ngL]
      show (if muB R F (mvF a b (n - (k + 1))) s m (F 10) = true ∧ (ngM R F a b n k m s).1 < -(ngF R F a b n k (andn m (2 ^ s))) then (-(ngF R F a b n k (andn m (2 ^ s))), s) else ngM R F a b n k m s) = _
      rw [show mvF a b (n - (k + 1)) = a by rw [hn, Nat.sub_self]; rfl]
    rw [plL, hstep, ih, hmay, show n - 1 = k by omega]
    rw [ih] at b3
    generalize ngM R F a b n k m s = q at b3 ⊢
    obtain ⟨i1, i2⟩ := ab_ng hP (n := n) ha hb k (andn m (2 ^ s)) (-3) (-q.1) (sub_v hv)
    have b1 := abF_b P a b n (F 10) k (andn m (2 ^ s)) (-3) (-q.1)
    have b2 := ngF_b R F a b n k (andn m (2 ^ s))
    generalize abF P a b n (F 10) k (andn m (2 ^ s)) (-3) (-q.1) = r at i1 i2 b1 ⊢
    generalize ngF R F a b n k (andn m (2 ^ s)) = v at i1 i2 b2 ⊢
    by_cases c : muB R F a s m (F 10) = true
    · by_cases c2 : q.1 < 3 ∧ q.1 < -r
      · have : r = v := by omega
        rw [if_pos ⟨c2.1, c, c2.2⟩, this, if_pos ⟨c, by omega⟩]
      · rw [if_neg (fun z => c2 ⟨z.1, z.2.2⟩), if_neg (fun z => c2 (by have := z.2; omega))]
    · rw [if_neg (fun z => c z.2.1), if_neg (fun z => c z.1)]
theorem plL_up (hP : PR P R F) {a b n m : Nat} (hv : ∀ s, m.testBit s = true → s < F 8) : ∀ d, plL P a b n (F 10) m (F 8 + d) = plL P a b n (F 10) m (F 8)
  | 0 => rfl
  | d + 1 => by
    rw [show F 8 + (d + 1) = (F 8 + d) + 1 from rfl, plL, if_neg (fun z => ?_), plL_up hP hv d]
    have h1 := z.2.1
    rw [upF, bs_tb, upP] at h1
    simp only [Bool.and_eq_true] at h1
    have := hv _ (andn_v h1.2.1)
    omega
theorem pl_eq (hP : PR P R F) {a b n m : Nat} (ha : a < 8) (hb : b < 8) (hv : ∀ s, m.testBit s = true → s < F 8) : (plF P a b n (F 10) m).1 = ngF R F a b n n m ∧ (plF P a b n (F 10) m).2 = fmF R F a b n n m 0 NN := by
  have h12 := hP.2.1.2.2.1
  cases n with
  | zero =>
    rw [plF, if_pos rfl, ngF, if_pos rfl, fmF, if_pos rfl]
    have := wa_eq hP (a := a) (b := b) (n := 0) hv
    exact ⟨this, rfl⟩
  | succ k =>
    have e : plF P a b (k + 1) (F 10) m = ngM R F a b (k + 1) k m (F 8) := by
      rw [plF, if_neg (by omega), show 12 = F 8 + (12 - F 8) by omega, plL_up hP hv, pl_ng hP ha hb rfl hv (F 8) (Nat.le_refl _)]
    rw [e, fmF, if_pos rfl]
    exact ⟨rfl, rfl⟩
theorem a_turns (hP : PR P R F) (hQ : CR Q R F) (O : TuT) (x y z w : Int32) : (sTurns P Q O x y z w).1 = mTurns R F x y z w := by
  obtain ⟨g6, g7, g8, g9⟩ := hP.2.2.1
  have h8 := hP.2.1.2.1
  have hP2 : PR P R (updN F 12 NN) := hP.upF (by omega)
  have hQ2 : CR Q R (updN F 12 NN) := hQ.upF (by omega)
  have e10 : F 10 = Q.2.2.1 := hQ.2.2.2.2.2.1
  rw [sTurns, mTurns, ← g7]
  by_cases c1 : inB x (F 7) = true
  · by_cases c2 : inB y (F 7) = true
    · by_cases c3 : x = y
      · rw [if_neg (by simp [c3]), if_neg (fun z => z.2 c3)]
      · rw [if_pos (show (inB x (F 7) && (inB y (F 7) && !decide (x = y))) = true by simp [c1, c2, c3]), if_pos (show (inB x (F 7) && inB y (F 7)) = true ∧ x ≠ y from ⟨by simp [c1, c2], c3⟩)]
        obtain ⟨a, ha, rfl⟩ := inB_of c1 (by omega)
        obtain ⟨b, hb, rfl⟩ := inB_of c2 (by omega)
        by_cases c4 : (inR z 4 && inR w 1) = true
        · rw [if_pos c4, if_pos c4]
          obtain ⟨d1, d2⟩ := Bool.and_eq_true_iff.mp c4
          obtain ⟨n, hn, rfl⟩ := inR_of (by decide) d1
          obtain ⟨j, hj, rfl⟩ := inR_of (by decide) d2
          rw [show ix (nI a) = a from nI_clamp (by omega), show ix (nI b) = b from nI_clamp (by omega), show ix (nI n) = n from nI_clamp (by omega), show ix (nI j) = j from nI_clamp (by omega)]
          have hv : ∀ s, (thF (stM R (updN F 12 NN)) 0).testBit s = true → s < (updN F 12 NN) 8 := fun s hs => thF_v hs
          have key := pl_eq hP2 (a := a) (b := b) (n := n) (by omega) (by omega) hv
          rw [← thF_e hQ2, show (updN F 12 NN) 10 = F 10 from rfl, e10] at key
          rw [← thF_e hQ2, ← key.1, ← key.2]
          have hj2 : j = 0 ∨ j = 1 := by omega
          rcases hj2 with rfl | rfl
          · rw [if_pos rfl, if_pos rfl]
          · rw [if_neg (by decide), if_neg (by decide)]
        · rw [if_neg c4, if_neg c4]
    · rw [if_neg (by simp [c2]), if_neg (fun z => by have := z.1; simp [c2] at this)]
  · rw [if_neg (by simp [c1]), if_neg (fun z => by have := z.1; simp [c1] at this)]
end ANS6
