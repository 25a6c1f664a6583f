/-! the two sides' answers: fits, sure -/
section ANS8
variable {P : PlanT} {Q : ClothT} {R : Nat → Nat → Nat} {F : Nat → Nat}
theorem apl_length {α : Type} (g : Nat → List α) : ∀ C, (apl g C).length = sm (fun c => (g c).length) C
  | 0 => rfl
  | C + 1 => by rw [apl, List.length_append, apl_length g C, sm]
theorem apl_mem {α : Type} {g : Nat → List α} {x : α} : ∀ C, x ∈ apl g C ↔ ∃ c, c < C ∧ x ∈ g c
  | 0 => ⟨fun h => absurd h List.not_mem_nil, fun ⟨c, h, _⟩ => by omega⟩
  | C + 1 => by
    rw [apl, List.mem_append, apl_mem C]
    constructor
    · rintro (⟨c, h1, h2⟩ | h)
      · exact ⟨c, by omega, h2⟩
      · exact ⟨C, by omega, h⟩
    · rintro ⟨c, h1, h2⟩
      by_cases e : c = C
      · subst e; exact Or.inr h2
      · exact Or.inl ⟨c, by omega, h2⟩
theorem apB_cg {nr f g : Nat → Nat} {a : Nat} (ha : f a = g a) (h : ∀ b, b < a → (nr a).testBit b = true → f b = g b) : apB nr f a = apB nr g a := by
  have : apB nr f a = true ↔ apB nr g a = true := by
    rw [apB_all, apB_all]
    constructor
    · intro z b h1 h2; rw [← h b h1 h2, ← ha]; exact z b h1 h2
    · intro z b h1 h2; rw [h b h1 h2, ha]; exact z b h1 h2
  cases h1 : apB nr f a <;> cases h2 : apB nr g a
  · rfl
  · rw [h1, h2] at this; exact this.mpr rfl
  · rw [h1, h2] at this; exact (this.mp rfl).symm
  · rfl
/-- how many ways go on hangs on the strips alone that border on what comes -/
theorem len_cg {nr lf : Nat → Nat} {ch : Bool} {C : Nat} : ∀ k a f g, (∀ j, j < a → (∃ b, a ≤ b ∧ b < a + k ∧ (nr b).testBit j = true) → f j = g j) → (colL nr lf ch C k a f).length = (colL nr lf ch C k a g).length
  | 0, _, _, _, _ => rfl
  | k + 1, a, f, g, h => by
    rw [colL, colL, apl_length, apl_length]
    refine sm_cg C (fun c _ => ?_)
    have ho : okC nr lf ch f a c = okC nr lf ch g a c := by
      rw [okC, okC]
      congr 1
      exact apB_cg (by rw [updN_s, updN_s]) (fun b h1 h2 => by
        rw [updN_n (by omega), updN_n (by omega)]
        exact h b h1 ⟨a, Nat.le_refl a, by omega, h2⟩)
    rw [ho]
    split
    · exact len_cg k (a + 1) _ _ (fun j hj ⟨b, h1, h2, h3⟩ => by
        by_cases e : j = a
        · subst e; rw [updN_s, updN_s]
        · rw [updN_n e, updN_n e]
          exact h j (by omega) ⟨b, by omega, by omega, h3⟩)
    · rfl
theorem sm_if (p : Nat → Bool) (L : Nat) : ∀ n, sm (fun c => if p c = true then L else 0) n = cn p n * L
  | 0 => by show 0 = 0 * L; rw [Nat.zero_mul]
  | n + 1 => by
    rw [sm, sm_if p L n, cn, Nat.add_mul]
    cases p n
    · simp
    · simp
theorem wy_len {nr lf : Nat → Nat} (hC4 : P.2 0 ≤ 4) (hlf : ∀ j, j < P.2 1 → lf j < 2 ^ P.2 0) (hsy : ∀ a b, a < P.2 1 → b < P.2 1 → (nr a).testBit b = (nr b).testBit a) : ∀ k a X f, a + k = P.2 1 → (∀ j, j < P.2 1 → X.2.2.2 1 j = nr j) → (∀ j, j < P.2 1 → X.2.2.2 2 j = lf j) → (∀ j, j < a → X.2.2.2 3 j = f j) → (wyX P k X).1 = (colL nr lf false (P.2 0) k a f).length ∧ KpP a X (wyX P k X).2
  | 0, a, X, f, _, _, _, _ => ⟨rfl, KpP_rf _ _⟩
  | k + 1, a, X, f, ha, hn, ho, hf => by
    have ea : P.2 1 - (k + 1) = a := by omega
    have ih := wy_len (nr := nr) (lf := lf) hC4 hlf hsy k (a + 1)
    have hmay : ∀ c, (andn (lf a) (unF X a)).testBit c = okC nr lf false f a c := fun c => by
      rw [andn_tb, okC, un_ap (hn a (by omega)) hf]
      rfl
    have hhi : ∀ c, P.2 0 ≤ c → okC nr lf false f a c = false := fun c hc => by
      rw [← hmay, andn_tb, tb_lt (hlf a (by omega)) hc]; rfl
    have hlen : (colL nr lf false (P.2 0) (k + 1) a f).length = sm (fun c => (if okC nr lf false f a c = true then colL nr lf false (P.2 0) k (a + 1) (updN f a c) else []).length) (P.2 0) := by rw [colL, apl_length]
    rw [wyX, ea, hn a (by omega), ho a (by omega), hlen]
    by_cases c : nr a / 2 ^ a = 0
    · rw [if_pos c]
      have hlo : ∀ b, a ≤ b → (nr a).testBit b = false := fun b hb => by
        have := @Nat.testBit_div_two_pow a (nr a) (b - a)
        rw [c, show b - a + a = b by omega] at this
        simpa using this.symm
      by_cases c2 : andn (lf a) (unF X a) = 0
      · rw [if_pos c2]
        refine ⟨(sm_0 _ (fun c _ => ?_)).symm, KpP_rf _ _⟩
        have := eq0_tb.mp c2 c
        rw [hmay] at this
        rw [this]; rfl
      · rw [if_neg c2]
        obtain ⟨i1, k1, k2, k3, k4⟩ := ih X (updN f a (X.2.2.2 3 a)) (by omega) hn ho (fun j hj => by
          unfold updN; split
          · next e => rw [e]
          · exact hf j (by omega))
        refine ⟨?_, k1, k2, k3, fun j hj => k4 j (by omega)⟩
        show cd (andn (lf a) (unF X a)) * (wyX P k X).1 = _
        have hcd : cd (andn (lf a) (unF X a)) = cn (okC nr lf false f a) (P.2 0) := by
          show cn _ 12 = _
          rw [cn_cg 12 (fun c _ => hmay c), show 12 = P.2 0 + (12 - P.2 0) by omega, cn_add, cn_0 (12 - P.2 0) (fun i _ => hhi _ (by omega)), Nat.add_zero]
        rw [hcd, i1, ← sm_if]
        refine sm_cg _ (fun c _ => ?_)
        by_cases c3 : okC nr lf false f a c = true
        · rw [if_pos c3, if_pos c3]
          refine len_cg k (a + 1) _ _ (fun j hj ⟨b, h1, h2, h3⟩ => ?_)
          by_cases e : j = a
          · subst e
            rw [hsy b j (by omega) (by omega), hlo b (by omega)] at h3
            exact absurd h3 (by decide)
          · rw [updN_n e, updN_n e]
        · rw [if_neg c3, if_neg c3]; rfl
    · rw [if_neg c]
      have lp : ∀ C, C ≤ P.2 0 → (wyL (fun c Y => wyX P k (setR Y 3 (updN (Y.2.2.2 3) a c))) (andn (lf a) (unF X a)) X C).1 = sm (fun c => (if okC nr lf false f a c = true then colL nr lf false (P.2 0) k (a + 1) (updN f a c) else []).length) C ∧ KpP a X (wyL (fun c Y => wyX P k (setR Y 3 (updN (Y.2.2.2 3) a c))) (andn (lf a) (unF X a)) X C).2 := by
        intro C
        induction C with
        | zero => intro _; exact ⟨rfl, KpP_rf _ _⟩
        | succ C ihC =>
          intro hCC
          obtain ⟨i1, i2⟩ := ihC (by omega)
          rw [wyL, sm, hmay, ← i1]
          generalize wyL (fun c Y => wyX P k (setR Y 3 (updN (Y.2.2.2 3) a c))) (andn (lf a) (unF X a)) X C = Y at i2 ⊢
          by_cases h : okC nr lf false f a C = true
          · rw [if_pos h, if_pos h]
            obtain ⟨k1, k2, k3, k4⟩ := i2
            obtain ⟨j1, q1, q2, q3, q4⟩ := ih (setR Y.2 3 (updN (Y.2.2.2.2 3) a C)) (updN f a C) (by omega) (fun j hj => by
              show Y.2.2.2.2 1 j = _
              exact (congrFun k2 j).trans (hn j hj)) (fun j hj => by
              show Y.2.2.2.2 2 j = _
              exact (congrFun k3 j).trans (ho j hj)) (fun j hj => by
              show updN (Y.2.2.2.2 3) a C j = updN f a C j
              unfold updN; split
              · rfl
              · exact (k4 j (by omega)).trans (hf j (by omega)))
            refine ⟨by show Y.1 + _ = _; rw [j1], q1.trans k1, q2.trans k2, q3.trans k3, fun j hj => (q4 j (by omega)).trans ?_⟩
            show updN (Y.2.2.2.2 3) a C j = _
            rw [updN_n (by omega)]
            exact k4 j hj
          · rw [if_neg h, if_neg h]
            exact ⟨rfl, i2⟩
      have up : ∀ d, wyL (fun c Y => wyX P k (setR Y 3 (updN (Y.2.2.2 3) a c))) (andn (lf a) (unF X a)) X (P.2 0 + d) = wyL (fun c Y => wyX P k (setR Y 3 (updN (Y.2.2.2 3) a c))) (andn (lf a) (unF X a)) X (P.2 0) := by
        intro d
        induction d with
        | zero => rfl
        | succ d ihd =>
          rw [show P.2 0 + (d + 1) = (P.2 0 + d) + 1 from rfl, wyL, if_neg (by rw [hmay, hhi _ (by omega)]; decide), ihd]
      have e4 := up (4 - P.2 0)
      rw [show P.2 0 + (4 - P.2 0) = 4 by omega] at e4
      rw [e4]
      exact lp (P.2 0) (Nat.le_refl _)
theorem near_sym {a b m : Nat} (h : (nearM R F a m).testBit b = true) : (nearM R F b m).testBit a = true := by
  rw [nearM, orF_tb] at h ⊢
  obtain ⟨s, hs, h1⟩ := h
  unfold boG at h1
  split at h1
  · next hc =>
    rw [Nat.testBit_two_pow, decide_eq_true_eq] at h1
    simp only [boP, onB, Bool.and_eq_true, Bool.or_eq_true, decide_eq_true_eq, Bool.not_eq_true', decide_eq_false_iff_not] at hc
    obtain ⟨c1, c2, c3⟩ := hc
    refine ⟨s, hs, ?_⟩
    have hb : boP R b m s = true := by
      simp only [boP, onB, Bool.and_eq_true, Bool.or_eq_true, decide_eq_true_eq, Bool.not_eq_true', decide_eq_false_iff_not]
      exact ⟨c1, by omega, c3⟩
    rw [boG, if_pos hb, Nat.testBit_two_pow, decide_eq_true_eq]
    omega
  · simp at h1
theorem nr_sym {m a b : Nat} (h8 : F 7 ≤ 8) (ha : a < F 7) (hb : b < F 7) : (rowL (nrG R F m) (R 22) 8 a).testBit b = (rowL (nrG R F m) (R 22) 8 b).testBit a := by
  rw [rowL, if_pos (by omega), rowL, if_pos (by omega), nrG, if_pos ha, nrG, if_pos hb]
  cases h1 : (nearM R F a m).testBit b <;> cases h2 : (nearM R F b m).testBit a
  · rfl
  · rw [near_sym h2] at h1; exact absurd h1 (by decide)
  · rw [near_sym h1] at h2; exact absurd h2 (by decide)
  · rfl
theorem lb_rows {g : Nat → Nat} (hP : PR P R F) (hQ : CR Q R F) (hg : LR g R F) (T : PaintT) : (∀ j, j < P.2 1 → (lbT P Q T g).2.2.2 1 j = rowL (nrG R F (thF (stM R F) 0)) (R 22) 8 j) ∧ (∀ j, j < P.2 1 → (lbT P Q T g).2.2.2 2 j = R 10 j) ∧ (∀ j, j < P.2 1 → R 10 j < 2 ^ P.2 0) := by
  obtain ⟨g6, g7, g8, g9⟩ := hP.2.2.1
  have h8 := hP.2.1.2.1
  have hv : ∀ s, (thF (stM R F) 0).testBit s = true → s < F 8 := fun s hs => thF_v hs
  refine ⟨fun j hj => ?_, fun j hj => ?_, fun j hj => ?_⟩
  · show rowL (fun a => bdF P a (thF Q.1 0)) (T.2.2.2 1) 8 j = _
    rw [rowL, if_pos (by omega), thF_e hQ]
    exact hP.nr hv (by omega)
  · show rowL g (T.2.2.2 2) 8 j = _
    rw [rowL, if_pos (by omega)]
    exact (hg.1 j (by omega)).1.symm
  · rw [(hg.1 j (by omega)).1, ← g6]
    exact (hg.1 j (by omega)).2
theorem a_fits {g : Nat → Nat} (hP : PR P R F) (hQ : CR Q R F) (hg : LR g R F) (T : PaintT) : (wyX P (P.2 1) (lbT P Q T g)).1 = (rwF R F false).1 := by
  obtain ⟨g6, g7, g8, g9⟩ := hP.2.2.1
  have h8 := hP.2.1.2.1
  have h4 := hP.2.1.1
  obtain ⟨l1, l2, l3⟩ := lb_rows hP hQ hg T
  have key := (wy_len (P := P) (nr := rowL (nrG R F (thF (stM R F) 0)) (R 22) 8) (lf := R 10) (by omega) l3 (fun a b ha hb => nr_sym h8 (by omega) (by omega)) (P.2 1) 0 (lbT P Q T g) (rowL (fun _ => NN) (R 19) 8) (by omega) l1 l2 (fun j hj => by omega)).1
  rw [key, rwF, lfS_len, ← g6, ← g7]
  exact (Nat.zero_add _).symm
theorem colL_iff {nr lf : Nat → Nat} {ch : Bool} {C : Nat} {g : Nat → Nat} : ∀ k a f, g ∈ colL nr lf ch C k a f ↔ (∀ j, (j < a ∨ a + k ≤ j) → g j = f j) ∧ ∀ j, a ≤ j → j < a + k → g j < C ∧ (ch || (lf j).testBit (g j)) = true ∧ apB nr g j = true
  | 0, a, f => by
    rw [colL, List.mem_singleton]
    constructor
    · intro h; subst h; exact ⟨fun _ _ => rfl, fun j h1 h2 => by omega⟩
    · intro ⟨h, _⟩; funext j; exact h j (by omega)
  | k + 1, a, f => by
    rw [colL, apl_mem]
    constructor
    · rintro ⟨c, hc, h⟩
      split at h
      · next ho =>
        obtain ⟨m1, m2⟩ := (colL_iff k (a + 1) (updN f a c)).mp h
        have hga : g a = c := by rw [m1 a (Or.inl (by omega)), updN_s]
        rw [okC, Bool.and_eq_true] at ho
        refine ⟨fun j hj => by rw [m1 j (by omega), updN_n (by omega)], fun j h1 h2 => ?_⟩
        by_cases e : j = a
        · subst e
          refine ⟨by omega, by rw [hga]; exact ho.1, ?_⟩
          rw [← ho.2]
          exact apB_cg (by rw [updN_s, hga]) (fun b hb _ => m1 b (Or.inl (by omega)))
        · exact m2 j (by omega) (by omega)
      · exact absurd h List.not_mem_nil
    · rintro ⟨m1, m2⟩
      obtain ⟨c1, c2, c3⟩ := m2 a (Nat.le_refl a) (by omega)
      refine ⟨g a, c1, ?_⟩
      have hb : ∀ b, b ≤ a → g b = updN f a (g a) b := fun b hb => by
        unfold updN; split
        · next e => rw [e]
        · exact m1 b (by omega)
      have ho : okC nr lf ch f a (g a) = true := by
        rw [okC, c2, Bool.true_and, ← c3]
        exact apB_cg (hb a (Nat.le_refl a)).symm (fun b hb2 _ => (hb b (by omega)).symm)
      rw [if_pos ho]
      refine (colL_iff k (a + 1) (updN f a (g a))).mpr ⟨fun j hj => ?_, fun j h1 h2 => m2 j (by omega) (by omega)⟩
      rcases hj with hj | hj
      · exact hb j (by omega)
      · rw [updN_n (by omega)]; exact m1 j (by omega)
theorem mb_tb {pr : Nat → Nat} {S c : Nat} : ∀ (xs : List (Nat → Nat)) (σ : RwT) (j : Nat), j < S → (((xs.foldl (lfS pr S) σ).2.2.1 j).testBit c = true ↔ (σ.2.2.1 j).testBit c = true ∨ ∃ g ∈ xs, g j = c)
  | [], σ, j, hj => ⟨fun h => Or.inl h, fun h => h.elim id (fun ⟨g, hg, _⟩ => absurd hg List.not_mem_nil)⟩
  | x :: xs, σ, j, hj => by
    rw [List.foldl_cons, mb_tb xs _ j hj]
    have e : (lfS pr S σ x).2.2.1 j = σ.2.2.1 j ||| 2 ^ x j := by
      show rowL (fun j => σ.2.2.1 j ||| 2 ^ x j) σ.2.2.1 S j = _
      rw [rowL, if_pos hj]
    rw [e, Nat.testBit_or, Nat.testBit_two_pow, Bool.or_eq_true, decide_eq_true_eq]
    constructor
    · rintro ((h | h) | ⟨g, hg, h⟩)
      · exact Or.inl h
      · exact Or.inr ⟨x, List.mem_cons_self, h⟩
      · exact Or.inr ⟨g, List.mem_cons_of_mem _ hg, h⟩
    · rintro (h | ⟨g, hg, h⟩)
      · exact Or.inl (Or.inl h)
      · rcases List.mem_cons.mp hg with e | hg
        · subst e; exact Or.inl (Or.inr h)
        · exact Or.inr ⟨g, hg, h⟩
theorem fo_some {pr : Nat → Nat} {S : Nat} : ∀ (xs : List (Nat → Nat)) (σ : RwT), σ.1 ≠ 0 → (xs.foldl (lfS pr S) σ).2.2.2 = σ.2.2.2 ∨ ∃ g ∈ xs, ∀ j, j < S → (xs.foldl (lfS pr S) σ).2.2.2 j = g j
  | [], σ, _ => Or.inl rfl
  | x :: xs, σ, h => by
    rw [List.foldl_cons]
    rcases fo_some (pr := pr) (S := S) xs (lfS pr S σ x) (Nat.succ_ne_zero _) with e | ⟨g, hg, e⟩
    · by_cases c : σ.1 = 0 ∨ sm (fun j => pr (x j)) S < σ.2.1
      · refine Or.inr ⟨x, List.mem_cons_self, fun j hj => ?_⟩
        rw [e, show (lfS pr S σ x).2.2.2 = rowL x σ.2.2.2 S from if_pos c, rowL, if_pos hj]
      · exact Or.inl (e.trans (if_neg c))
    · exact Or.inr ⟨g, List.mem_cons_of_mem _ hg, e⟩
theorem fo_first {pr : Nat → Nat} {S : Nat} {xs : List (Nat → Nat)} {σ : RwT} (h : σ.1 = 0) (hx : xs ≠ []) : ∃ g ∈ xs, ∀ j, j < S → (xs.foldl (lfS pr S) σ).2.2.2 j = g j := by
  cases xs with
  | nil => exact absurd rfl hx
  | cons x xs =>
    rw [List.foldl_cons]
    rcases fo_some (pr := pr) (S := S) xs (lfS pr S σ x) (Nat.succ_ne_zero _) with e | ⟨g, hg, e⟩
    · refine ⟨x, List.mem_cons_self, fun j hj => ?_⟩
      rw [e, show (lfS pr S σ x).2.2.2 = rowL x σ.2.2.2 S from if_pos (Or.inl h), rowL, if_pos hj]
    · exact ⟨g, List.mem_cons_of_mem _ hg, e⟩
theorem cn_ge1 {p : Nat → Bool} {n d : Nat} (hd : d < n) (h : p d = true) : 1 ≤ cn p n := by
  have := cn_lt (p := fun _ => false) (q := p) n (fun _ _ z => absurd z (by decide)) ⟨d, hd, rfl, h⟩
  omega
theorem cn_ge2 {p : Nat → Bool} {n d e : Nat} (hd : d < n) (he : e < n) (hne : d ≠ e) (h1 : p d = true) (h2 : p e = true) : 2 ≤ cn p n := by
  have a1 := cn_lt (p := fun i => p i && !decide (i = d)) (q := p) n (fun i _ z => by simp only [Bool.and_eq_true] at z; exact z.1) ⟨d, hd, by simp, h1⟩
  have a2 := cn_ge1 (p := fun i => p i && !decide (i = d)) he (by
    have : ¬ e = d := fun z => hne z.symm
    simp [h2, this])
  omega
theorem oc_inv {W : Nat → Prop} {X0 : PaintT} {nr lf f0 : Nat → Nat} (hC4 : P.2 0 ≤ 4) (hlf : ∀ j, j < P.2 1 → lf j < 2 ^ P.2 0) (hsy : ∀ a b, a < P.2 1 → b < P.2 1 → (nr a).testBit b = (nr b).testBit a) {a : Nat} (ha : a < P.2 1) (hW : ∀ c, W c ↔ ∃ g ∈ colL nr lf false (P.2 0) (P.2 1) 0 f0, g a = c) (hn : ∀ j, j < P.2 1 → X0.2.2.2 1 j = nr j) (ho : ∀ j, j < P.2 1 → X0.2.2.2 2 j = lf j) : ∀ c, c ≤ 4 → ((∀ j, j < P.2 1 → (ocL P a (lf a) X0 c).2.1.2.2.2 1 j = nr j) ∧ (∀ j, j < P.2 1 → j ≠ a → (ocL P a (lf a) X0 c).2.1.2.2.2 2 j = lf j)) ∧ ((ocL P a (lf a) X0 c).2.2 = true → (ocL P a (lf a) X0 c).1 = NN ∧ ∃ d e, d < c ∧ e < c ∧ d ≠ e ∧ W d ∧ W e) ∧ ((ocL P a (lf a) X0 c).2.2 = false → ((ocL P a (lf a) X0 c).1 = NN ∧ ∀ d, d < c → ¬ W d) ∨ ((ocL P a (lf a) X0 c).1 < c ∧ W (ocL P a (lf a) X0 c).1 ∧ ∀ d, d < c → W d → d = (ocL P a (lf a) X0 c).1))
  | 0, _ => ⟨⟨hn, fun j hj _ => ho j hj⟩, fun z => absurd (show false = true from z) (by decide), fun _ => Or.inl ⟨rfl, fun d hd => by omega⟩⟩
  | c + 1, hc4 => by
    obtain ⟨⟨r1, r2⟩, i1, i2⟩ := oc_inv hC4 hlf hsy ha hW hn ho c (by omega)
    rw [ocL]
    generalize ocL P a (lf a) X0 c = Y at r1 r2 i1 i2 ⊢
    by_cases c1 : Y.2.2 = true
    · rw [if_pos c1]
      obtain ⟨e1, d, e, h1, h2, h3⟩ := i1 c1
      exact ⟨⟨r1, r2⟩, fun _ => ⟨e1, d, e, by omega, by omega, h3⟩, fun z => by rw [c1] at z; exact absurd z (by decide)⟩
    · rw [if_neg c1]
      have i2 := i2 (by simpa using c1)
      have hlf2 : ∀ j, j < P.2 1 → updN lf a (lf a &&& 2 ^ c) j < 2 ^ P.2 0 := fun j hj => by
        unfold updN; split
        · exact Nat.lt_of_le_of_lt Nat.and_le_left (hlf a ha)
        · exact hlf j hj
      obtain ⟨w1, w2, w3, w4, w5⟩ := wy_len (P := P) (nr := nr) (lf := updN lf a (lf a &&& 2 ^ c)) hC4 hlf2 hsy (P.2 1) 0 (setR Y.2.1 2 (updN (Y.2.1.2.2.2 2) a (lf a &&& 2 ^ c))) f0 (by omega) r1 (fun j hj => by
        show updN (Y.2.1.2.2.2 2) a (lf a &&& 2 ^ c) j = updN lf a (lf a &&& 2 ^ c) j
        unfold updN; split
        · rfl
        · next hne => exact r2 j hj hne) (fun j hj => by omega)
      have hpos : 0 < (ocX P a (lf a) c Y.2.1).1 ↔ W c := by
        rw [ocX, w1, hW, List.length_pos_iff_exists_mem]
        constructor
        · rintro ⟨g, hg⟩
          obtain ⟨m1, m2⟩ := (colL_iff _ _ _).mp hg
          have hga : (lf a).testBit (g a) = true ∧ g a = c := by
            have := (m2 a (Nat.zero_le a) (by omega)).2.1
            rw [updN_s, Bool.false_or, Nat.testBit_and, Nat.testBit_two_pow] at this
            simp only [Bool.and_eq_true, decide_eq_true_eq] at this
            exact ⟨this.1, this.2.symm⟩
          refine ⟨g, (colL_iff _ _ _).mpr ⟨m1, fun j h1 h2 => ?_⟩, hga.2⟩
          obtain ⟨q1, q2, q3⟩ := m2 j h1 h2
          refine ⟨q1, ?_, q3⟩
          by_cases e : j = a
          · subst e; rw [Bool.false_or]; exact hga.1
          · rw [updN_n e] at q2; exact q2
        · rintro ⟨g, hg, hga⟩
          obtain ⟨m1, m2⟩ := (colL_iff _ _ _).mp hg
          refine ⟨g, (colL_iff _ _ _).mpr ⟨m1, fun j h1 h2 => ?_⟩⟩
          obtain ⟨q1, q2, q3⟩ := m2 j h1 h2
          refine ⟨q1, ?_, q3⟩
          by_cases e : j = a
          · subst e
            rw [updN_s, Bool.false_or, Nat.testBit_and, Nat.testBit_two_pow, hga]
            rw [Bool.false_or, hga] at q2
            rw [q2]; simp
          · rw [updN_n e]; exact q2
      have rows : (∀ j, j < P.2 1 → (ocX P a (lf a) c Y.2.1).2.2.2.2 1 j = nr j) ∧ (∀ j, j < P.2 1 → j ≠ a → (ocX P a (lf a) c Y.2.1).2.2.2.2 2 j = lf j) := by
        refine ⟨fun j hj => ?_, fun j hj hne => ?_⟩
        · exact (congrFun w3 j).trans (r1 j hj)
        · refine (congrFun w4 j).trans ?_
          show updN (Y.2.1.2.2.2 2) a (lf a &&& 2 ^ c) j = _
          rw [updN_n hne]
          exact r2 j hj hne
      have hNN : c ≠ NN := by show c ≠ 4294967295; omega
      by_cases c2 : 0 < (ocX P a (lf a) c Y.2.1).1
      · have hwc := hpos.mp c2
        rw [if_pos c2]
        by_cases c3 : Y.1 = NN
        · rw [if_pos c3]
          refine ⟨rows, fun z => absurd (show false = true from z) (by decide), fun _ => Or.inr ⟨by show c < c + 1; omega, hwc, fun d hd hwd => ?_⟩⟩
          rcases i2 with ⟨-, h2⟩ | ⟨h1, -⟩
          · apply Classical.byContradiction
            intro hne
            exact h2 d (by have : d ≠ c := hne; omega) hwd
          · exfalso; have : NN = 4294967295 := rfl; omega
        · rw [if_neg c3]
          refine ⟨rows, fun _ => ⟨rfl, ?_⟩, fun z => absurd (show true = false from z) (by decide)⟩
          rcases i2 with ⟨h1, -⟩ | ⟨h1, h2, -⟩
          · exact absurd h1 c3
          · exact ⟨Y.1, c, by omega, by omega, by omega, h2, hwc⟩
      · have hwc : ¬ W c := fun z => c2 (hpos.mpr z)
        rw [if_neg c2]
        refine ⟨rows, fun z => absurd (show false = true from z) (by decide), fun _ => ?_⟩
        rcases i2 with ⟨h1, h2⟩ | ⟨h1, h2, h3⟩
        · refine Or.inl ⟨h1, fun d hd => ?_⟩
          by_cases e : d = c
          · subst e; exact hwc
          · exact h2 d (by omega)
        · refine Or.inr ⟨by show Y.1 < c + 1; omega, h2, fun d hd hwd => ?_⟩
          by_cases e : d = c
          · subst e; exact absurd hwd hwc
          · exact h3 d (by omega) hwd
theorem a_sure {g : Nat → Nat} (hP : PR P R F) (hQ : CR Q R F) (hg : LR g R F) (T : PaintT) (x : Int32) : (sSure P Q T g x).1 = mSure R F x := by
  obtain ⟨g6, g7, g8, g9⟩ := hP.2.2.1
  have h8 := hP.2.1.2.1
  have h4 := hP.2.1.1
  rw [sSure, mSure, ← g7]
  by_cases c1 : inB x (F 7) = true
  · rw [if_pos c1, if_pos c1]
    obtain ⟨a, ha, rfl⟩ := inB_of c1 (by omega)
    rw [show ix (nI a) = a from nI_clamp (by omega)]
    show nI (ocT P Q T g a).1 = _
    obtain ⟨l1, l2, l3⟩ := lb_rows hP hQ hg T
    have e0 : (lbT P Q T g).2.2.2 2 a = R 10 a := l2 a (by omega)
    have key := oc_inv (P := P) (X0 := lbT P Q T g) (nr := rowL (nrG R F (thF (stM R F) 0)) (R 22) 8) (lf := R 10) (f0 := rowL (fun _ => NN) (R 19) 8) (by omega) l3 (fun a b ha hb => nr_sym h8 (by omega) (by omega)) (a := a) (by omega) (W := fun c => ∃ g ∈ colL (rowL (nrG R F (thF (stM R F) 0)) (R 22) 8) (R 10) false (P.2 0) (P.2 1) 0 (rowL (fun _ => NN) (R 19) 8), g a = c) (fun c => Iff.rfl) l1 l2 4 (Nat.le_refl _)
    rw [← e0] at key
    have e1 : ocL P a ((lbT P Q T g).2.2.2 2 a) (lbT P Q T g) 4 = ocT P Q T g a := rfl
    rw [e1, ← g6, ← g7] at key
    obtain ⟨-, i1, i2⟩ := key
    have hmb : ∀ c, ((rwF R F false).2.2.1 a).testBit c = true ↔ ∃ g ∈ colL (rowL (nrG R F (thF (stM R F) 0)) (R 22) 8) (R 10) false (F 6) (F 7) 0 (rowL (fun _ => NN) (R 19) 8), g a = c := fun c => by
      rw [rwF, mb_tb _ _ a ha]
      constructor
      · rintro (h | h)
        · exfalso
          have e : ((0, 0, rowL (fun _ => 0) (R 21) 8, R 20) : RwT).2.2.1 a = 0 := by
            show rowL (fun _ => 0) (R 21) 8 a = 0
            rw [rowL, if_pos (by omega)]
          rw [e] at h
          simp at h
        · exact h
      · exact Or.inr
    have hlen : (rwF R F false).1 = (colL (rowL (nrG R F (thF (stM R F) 0)) (R 22) 8) (R 10) false (F 6) (F 7) 0 (rowL (fun _ => NN) (R 19) 8)).length := by
      rw [rwF, lfS_len]; exact Nat.zero_add _
    have hfo : 0 < (rwF R F false).1 → ∃ g ∈ colL (rowL (nrG R F (thF (stM R F) 0)) (R 22) 8) (R 10) false (F 6) (F 7) 0 (rowL (fun _ => NN) (R 19) 8), (rwF R F false).2.2.2 a = g a := fun h => by
      rw [hlen] at h
      obtain ⟨g, hg, e⟩ := fo_first (pr := R 8) (S := F 7) (σ := (0, 0, rowL (fun _ => 0) (R 21) 8, R 20)) rfl (List.ne_nil_of_length_pos h)
      exact ⟨g, hg, e a ha⟩
    have hm16 := rwF_mb hP.2.1 false ha
    generalize (rwF R F false).2.2.1 a = mb at hmb hm16 ⊢
    generalize (rwF R F false).2.2.2 a = fo at hfo ⊢
    generalize (rwF R F false).1 = cnt at hlen hfo ⊢
    generalize colL (rowL (nrG R F (thF (stM R F) 0)) (R 22) 8) (R 10) false (F 6) (F 7) 0 (rowL (fun _ => NN) (R 19) 8) = L at i1 i2 hmb hlen hfo
    generalize ocT P Q T g a = Y at i1 i2 ⊢
    cases hb : Y.2.2 with
    | true =>
      obtain ⟨e, d1, d2, h1, h2, h3, h4, h5⟩ := i1 hb
      have := cn_ge2 (p := mb.testBit) (n := 12) (show d1 < 12 by omega) (show d2 < 12 by omega) h3 ((hmb d1).mpr h4) ((hmb d2).mpr h5)
      rw [if_neg (fun z => by have h6 : cn mb.testBit 12 = 1 := z.2; omega), e]
    | false =>
      rcases i2 hb with ⟨e, h2⟩ | ⟨h1, h2, h3⟩
      · rw [if_neg (fun z => ?_), e]
        have : cn mb.testBit 12 = 0 := cn_0 12 (fun i _ => by
          by_cases c : i < 4
          · cases hq : mb.testBit i
            · rfl
            · exact absurd ((hmb i).mp hq) (h2 i c)
          · exact tb_lt (n := 4) hm16 (by omega))
        have h6 : cn mb.testBit 12 = 1 := z.2
        omega
      · have hone : cd mb = 1 := by
          have a1 := cn_ge1 (p := mb.testBit) (n := 12) (show Y.1 < 12 by omega) ((hmb Y.1).mpr h2)
          have a2 := cn_one (p := mb.testBit) (a := Y.1) (fun i hi => h3 i (by
            apply Classical.byContradiction
            intro hc
            rw [tb_lt (n := 4) hm16 (by omega)] at hi
            exact absurd hi (by decide)) ((hmb i).mp hi)) 12
          show cn mb.testBit 12 = 1
          omega
        have hcnt : 0 < cnt := by
          obtain ⟨g, hg, -⟩ := h2
          rw [hlen]
          exact List.length_pos_of_mem hg
        rw [if_pos ⟨hcnt, hone⟩]
        obtain ⟨g, hg, e⟩ := hfo hcnt
        rw [e]
        have hbit := (hmb (g a)).mpr ⟨g, hg, rfl⟩
        rw [h3 (g a) (by
          apply Classical.byContradiction
          intro hc
          rw [tb_lt (n := 4) hm16 (by omega)] at hbit
          exact absurd hbit (by decide)) ⟨g, hg, rfl⟩]
  · rw [if_neg c1, if_neg c1]
end ANS8
