/-! sums, unions; what flies; StripFlag$Plan's other reads -/
def sm (f : Nat → Nat) : Nat → Nat
  | 0 => 0
  | n + 1 => sm f n + f n
def orF (f : Nat → Nat) : Nat → Nat
  | 0 => 0
  | n + 1 => orF f n ||| f n
theorem orF_tb (f : Nat → Nat) : ∀ n i, (orF f n).testBit i = true ↔ ∃ s, s < n ∧ (f s).testBit i = true
  | 0, i => by simp [orF]
  | n + 1, i => by
    show (orF f n ||| f n).testBit i = true ↔ _
    rw [Nat.testBit_or, Bool.or_eq_true, orF_tb f n i]
    constructor
    · rintro (⟨s, h1, h2⟩ | h)
      · exact ⟨s, by omega, h2⟩
      · exact ⟨n, by omega, h⟩
    · rintro ⟨s, h1, h2⟩
      by_cases h : s = n
      · subst h; exact Or.inr h2
      · exact Or.inl ⟨s, by omega, h2⟩
theorem orF_lt {f : Nat → Nat} {k : Nat} (h : ∀ s, f s < 2 ^ k) : ∀ n, orF f n < 2 ^ k
  | 0 => Nat.two_pow_pos k
  | n + 1 => or_b k (orF_lt h n) (h n)
theorem sm_le {f : Nat → Nat} {b : Nat} (h : ∀ s, f s ≤ b) : ∀ n, sm f n ≤ n * b
  | 0 => Nat.zero_le _
  | n + 1 => by have := sm_le h n; have := h n; simp only [sm, Nat.add_mul]; omega
theorem cn_le (p : Nat → Bool) : ∀ n, cn p n ≤ n
  | 0 => Nat.le_refl 0
  | n + 1 => by have := cn_le p n; simp only [cn]; cases p n <;> simp <;> omega
theorem cn_mono {p q : Nat → Bool} : ∀ n, (∀ i, i < n → p i = true → q i = true) → cn p n ≤ cn q n
  | 0, _ => Nat.le_refl 0
  | n + 1, h => by
    have h1 := cn_mono n (fun i hi => h i (by omega))
    have h2 := h n (by omega)
    simp only [cn]
    cases hp : p n
    · simp; omega
    · rw [h2 hp]; simp; omega
theorem cn_lt {p q : Nat → Bool} : ∀ n, (∀ i, i < n → p i = true → q i = true) → (∃ i, i < n ∧ p i = false ∧ q i = true) → cn p n < cn q n
  | 0, _, ⟨i, hi, _⟩ => by omega
  | n + 1, h, ⟨i, hi, h1, h2⟩ => by
    simp only [cn]
    by_cases hin : i = n
    · subst hin
      have := cn_mono (p := p) (q := q) i (fun j hj => h j (by omega))
      rw [h1, h2]; simp; omega
    · have h3 := cn_lt n (fun j hj => h j (by omega)) ⟨i, by omega, h1, h2⟩
      have h4 := h n (by omega)
      cases hp : p n
      · simp; omega
      · rw [h4 hp]; simp; omega
theorem cn_full {p : Nat → Bool} : ∀ n, n ≤ cn p n → ∀ i, i < n → p i = true
  | 0, _, i, hi => by omega
  | n + 1, h, i, hi => by
    have h1 := cn_le p n
    simp only [cn] at h
    cases hp : p n
    · rw [hp] at h; simp at h; omega
    · by_cases hin : i = n
      · subst hin; exact hp
      · exact cn_full n (by rw [hp] at h; simp at h; omega) i (by omega)
def closedX (E : Nat → Nat) (N m X : Nat) : Prop := ∀ s, s < N → m.testBit s = true → E s &&& X ≠ 0 → ∀ i, (E s).testBit i = true → X.testBit i = true
def flyB (E : Nat → Nat) (N m a : Nat) : Prop := ∀ X, X < 512 → X.testBit 8 = true → closedX E N m X → X.testBit a = true
noncomputable def flyF (E : Nat → Nat) (N m : Nat) : Nat := bs 8 (fun a => @decide (flyB E N m a) (Classical.propDecidable _))
theorem flyF_tb (E : Nat → Nat) (N m a : Nat) : (flyF E N m).testBit a = true ↔ a < 8 ∧ flyB E N m a := by
  unfold flyF
  rw [bs_tb]
  simp
theorem flyF_lt (E : Nat → Nat) (N m : Nat) : flyF E N m < 256 := bs_lt _ 8
/-- a closed set, reached from the pole, is what flies -/
theorem flyF_of {E : Nat → Nat} {N m R : Nat} (h1 : R < 512) (h2 : R.testBit 8 = true) (h3 : closedX E N m R) (h4 : ∀ a, R.testBit a = true → flyB E N m a) : andn R 256 = flyF E N m := by
  refine set_ext (n := 9) (andn_b h1) (Nat.lt_trans (flyF_lt E N m) (by decide)) (fun i hi => ?_)
  have e : (andn R 256).testBit i = true ↔ (flyF E N m).testBit i = true := by
    rw [andn_tb, flyF_tb, show (256 : Nat) = 2 ^ 8 from rfl, Nat.testBit_two_pow]
    constructor
    · intro h
      simp at h
      exact ⟨by omega, h4 i h.1⟩
    · rintro ⟨g1, g2⟩
      have := g2 R h1 h2 h3
      simp [this]; omega
  cases ha : (andn R 256).testBit i <;> cases hb : (flyF E N m).testBit i
  · rfl
  · rw [e.mpr hb] at ha; cases ha
  · rw [e.mp ha] at hb; cases hb
  · rfl
def sprF (E : Nat → Nat) (m h : Nat) : Nat → Nat
  | 0 => h
  | n + 1 => if (m.testBit n && decide (E n &&& sprF E m h n ≠ 0)) = true then sprF E m h n ||| E n else sprF E m h n
theorem sprF_lt {E : Nat → Nat} {m h : Nat} (hE : ∀ s, E s < 512) (hh : h < 512) : ∀ n, sprF E m h n < 512
  | 0 => hh
  | n + 1 => by
    have h1 := sprF_lt (m := m) hE hh n
    unfold sprF
    split
    · exact or_b 9 h1 (hE n)
    · exact h1
theorem sprF_sup {E : Nat → Nat} {m h : Nat} : ∀ n k, n ≤ k → ∀ i, (sprF E m h n).testBit i = true → (sprF E m h k).testBit i = true := by
  intro n k hk
  induction k with
  | zero => intro i hi; have : n = 0 := by omega
            subst this; exact hi
  | succ k ih =>
    intro i hi
    by_cases e : n = k + 1
    · subst e; exact hi
    · have := ih (by omega) i hi
      show (sprF E m h (k + 1)).testBit i = true
      unfold sprF
      split
      · rw [Nat.testBit_or, this]; rfl
      · exact this
theorem sprF_sub {E : Nat → Nat} {N m h X : Nat} (hc : closedX E N m X) (hh : ∀ i, h.testBit i = true → X.testBit i = true) : ∀ n, n ≤ N → ∀ i, (sprF E m h n).testBit i = true → X.testBit i = true
  | 0, _, i, hi => hh i hi
  | n + 1, hn, i, hi => by
    have ih := sprF_sub hc hh n (by omega)
    unfold sprF at hi
    split at hi
    next hcond =>
      simp only [Bool.and_eq_true, decide_eq_true_eq] at hcond
      rw [Nat.testBit_or, Bool.or_eq_true] at hi
      rcases hi with hi | hi
      · exact ih i hi
      · refine hc n (by omega) hcond.1 ?_ i hi
        obtain ⟨j, hj⟩ := ne0_tb hcond.2
        rw [Nat.testBit_and, Bool.and_eq_true] at hj
        intro h0
        have := eq0_tb.mp h0 j
        rw [Nat.testBit_and, hj.1, ih j hj.2] at this
        cases this
    next => exact ih i hi
theorem sprF_closed {E : Nat → Nat} {N m h : Nat} (e : sprF E m h N = h) : closedX E N m h := by
  have eq : ∀ n, n ≤ N → sprF E m h n = h := by
    intro n hn
    apply Nat.eq_of_testBit_eq
    intro i
    cases hh : h.testBit i
    · cases hs : (sprF E m h n).testBit i
      · rfl
      · have := sprF_sup n N hn i hs
        rw [e, hh] at this; cases this
    · exact sprF_sup 0 n (Nat.zero_le n) i hh
  intro s hs hm hne i hi
  have h1 := eq (s + 1) hs
  unfold sprF at h1
  rw [eq s (by omega)] at h1
  rw [if_pos (by simp [hm, hne])] at h1
  rw [← h1, Nat.testBit_or, hi]; simp
theorem closed_all {E : Nat → Nat} {N m h : Nat} (hE : ∀ s, E s < 512) (hf : ∀ i, i < 9 → h.testBit i = true) : closedX E N m h := by
  intro s hs hm hne i hi
  by_cases h9 : i < 9
  · exact hf i h9
  · have := tb_lt (n := 9) (hE s) (i := i) (by omega)
    rw [this] at hi; cases hi
theorem nI_m257 (x : Nat) : nI x &&& (-257) = nI (andn x 256) := nI_andn x 256
set_option maxHeartbeats 4000000 in
set_option maxRecDepth 20000 in
theorem ct_X4_threadOf (l : Launch) (P : PlanT) (hP : PlanOK P) (m : Nat) (hm : m < 256) : Ct l 1 yX4_threadOf cX4_threadOf 4 (some .int) [.ref 0, .int (nI m)] (planW P) (RV (.int (nI (sm (fun s => if m.testBit s = true then P.1 7 s else 0) 8))) (planW P)) := by
  refine Ct.of (by decide) (Nat.le_of_ble_eq_true rfl) (fun K hC hR => ?_)
  show K 0 [(0, .ref 0), (1, .int (nI m))] [] _
  refine hC.iconst dX4_threadOf_0 (v := nI 0) rfl ?_
  refine hC.istore_n dX4_threadOf_1 (by decide) ?_
  refine hC.iconst dX4_threadOf_2 (v := nI 0) rfl ?_
  refine hC.istore_n dX4_threadOf_3 (by decide) ?_
  have loop : ∀ s, s ≤ 8 → K 4 [(0, .ref 0), (1, .int (nI m)), (2, .int (nI (sm (fun s => if m.testBit s = true then P.1 7 s else 0) s))), (3, .int (nI s))] [] (planW P) := by
    refine loopUp1 _ 8 ?_ (fun s hs ih => ?_)
    · refine hC.iload_n dX4_threadOf_4 rfl ?_
      refine hC.bipush dX4_threadOf_5 (v := nI 8) rfl ?_
      refine hC.n_ge (by omega) (by omega) dX4_threadOf_7 (tgt := 33) rfl (fun c => ?_) (fun c => ?_)
      · refine hC.iload_n dX4_threadOf_33 rfl ?_
        exact hR.ireturn dX4_threadOf_34 ⟨rfl, rfl⟩
      · omega
    · refine hC.iload_n dX4_threadOf_4 rfl ?_
      refine hC.bipush dX4_threadOf_5 (v := nI 8) rfl ?_
      refine hC.n_ge (by omega) (by omega) dX4_threadOf_7 (tgt := 33) rfl (fun c => ?_) (fun c => ?_)
      · omega
      · refine hC.iload_n dX4_threadOf_10 rfl ?_
        refine hC.iload_n dX4_threadOf_11 rfl ?_
        refine hC.rdSN [] dX4_threadOf_12 lnX4_66 mkX8_has sxX8_has (ct_X8_has l m s (by omega) (by omega)) ⟨Nat.le_of_ble_eq_true rfl, Nat.le_of_ble_eq_true rfl⟩ rfl rfl (Nat.le_of_ble_eq_true rfl) ⟨by decide, rfl⟩ ?_
        refine hC.bz dX4_threadOf_15 (tgt := 27) rfl (fun c1 => ?_) (fun c1 => ?_)
        · refine hC.iinc dX4_threadOf_27 rfl (nI_1 _) (by decide) ?_
          refine hC.goto dX4_threadOf_30 (tgt := 4) rfl ?_
          simp only [sm, c1, Bool.false_eq_true, if_false, Nat.add_zero] at ih
          exact hC.loc rfl ih
        · refine hC.iload_n dX4_threadOf_18 rfl ?_
          refine hC.aload_n dX4_threadOf_19 rfl ?_
          refine hC.getfield dX4_threadOf_20 lfX4_33 rfl rfl ?_
          refine hC.iload_n dX4_threadOf_23 rfl ?_
          refine hC.iaN dX4_threadOf_24 rfl ⟨by omega, by decide⟩ ?_
          refine hC.iadd dX4_threadOf_25 ?_
          refine hC.istore_n dX4_threadOf_26 (by decide) ?_
          refine hC.iinc dX4_threadOf_27 rfl (nI_1 _) (by decide) ?_
          refine hC.goto dX4_threadOf_30 (tgt := 4) rfl ?_
          rw [nI_add]
          simp only [sm, c1, if_true] at ih
          exact hC.loc rfl ih
  exact hC.loc rfl (loop 0 (by omega))
def ccP (P : PlanT) (n s : Nat) : Bool := decide (P.1 6 s &&& n ≠ 0) && decide (andn (P.1 6 s) n ≠ 0)
set_option maxHeartbeats 4000000 in
set_option maxRecDepth 20000 in
theorem ct_X4_couldsCrossing (l : Launch) (P : PlanT) (hP : PlanOK P) (n : Nat) : Ct l 1 yX4_couldsCrossing cX4_couldsCrossing 4 (some .int) [.ref 0, .int (nI n)] (planW P) (RV (.int (nI (bs (P.2 3) (ccP P n)))) (planW P)) := by
  refine Ct.of (by decide) (Nat.le_of_ble_eq_true rfl) (fun K hC hR => ?_)
  show K 0 [(0, .ref 0), (1, .int (nI n))] [] _
  have hE := hP.2.2.2.2.2.1
  have h8 := hP.2.2.2.1
  refine hC.iconst dX4_couldsCrossing_0 (v := nI 0) rfl ?_
  refine hC.istore_n dX4_couldsCrossing_1 (by decide) ?_
  refine hC.iconst dX4_couldsCrossing_2 (v := nI 0) rfl ?_
  refine hC.istore_n dX4_couldsCrossing_3 (by decide) ?_
  have loop : ∀ s, s ≤ P.2 3 → K 4 [(0, .ref 0), (1, .int (nI n)), (2, .int (nI (bs s (ccP P n)))), (3, .int (nI s))] [] (planW P) := by
    refine loopUp1 _ (P.2 3) ?_ (fun s hs ih => ?_)
    · refine hC.iload_n dX4_couldsCrossing_4 rfl ?_
      refine hC.aload_n dX4_couldsCrossing_5 rfl ?_
      refine hC.getfield dX4_couldsCrossing_6 lfX4_46 rfl rfl ?_
      refine hC.n_ge (by omega) (by omega) dX4_couldsCrossing_9 (tgt := 54) rfl (fun c => ?_) (fun c => ?_)
      · refine hC.iload_n dX4_couldsCrossing_54 rfl ?_
        exact hR.ireturn dX4_couldsCrossing_55 ⟨rfl, rfl⟩
      · omega
    · have hs2 := Nat.lt_trans (hE s) (show 512 < 2 ^ 31 by decide)
      refine hC.iload_n dX4_couldsCrossing_4 rfl ?_
      refine hC.aload_n dX4_couldsCrossing_5 rfl ?_
      refine hC.getfield dX4_couldsCrossing_6 lfX4_46 rfl rfl ?_
      refine hC.n_ge (by omega) (by omega) dX4_couldsCrossing_9 (tgt := 54) rfl (fun c => ?_) (fun c => ?_)
      · omega
      · refine hC.iload_n dX4_couldsCrossing_12 rfl ?_
        refine hC.bipush dX4_couldsCrossing_13 (v := nI 8) rfl ?_
        refine hC.n_ge (by omega) (by omega) dX4_couldsCrossing_15 (tgt := 54) rfl (fun c0 => ?_) (fun c0 => ?_)
        · omega
        · refine hC.aload_n dX4_couldsCrossing_18 rfl ?_
          refine hC.getfield dX4_couldsCrossing_19 lfX4_30 rfl rfl ?_
          refine hC.iload_n dX4_couldsCrossing_22 rfl ?_
          refine hC.iaN dX4_couldsCrossing_23 rfl ⟨by omega, by decide⟩ ?_
          refine hC.iload_n dX4_couldsCrossing_24 rfl ?_
          refine hC.iand dX4_couldsCrossing_25 ?_
          rw [nI_and]
          refine hC.nz (and_b hs2) dX4_couldsCrossing_26 (tgt := 48) rfl (fun c2 => ?_) (fun c2 => ?_)
          · refine hC.iinc dX4_couldsCrossing_48 rfl (nI_1 _) (by decide) ?_
            refine hC.goto dX4_couldsCrossing_51 (tgt := 4) rfl ?_
            rw [bs_f (show ccP P n s = false by simp [ccP, c2])] at ih
            exact hC.loc rfl ih
          · refine hC.aload_n dX4_couldsCrossing_29 rfl ?_
            refine hC.getfield dX4_couldsCrossing_30 lfX4_30 rfl rfl ?_
            refine hC.iload_n dX4_couldsCrossing_33 rfl ?_
            refine hC.iaN dX4_couldsCrossing_34 rfl ⟨by omega, by decide⟩ ?_
            refine hC.iload_n dX4_couldsCrossing_35 rfl ?_
            refine hC.iconst dX4_couldsCrossing_36 (v := (-1)) rfl ?_
            refine hC.ixor dX4_couldsCrossing_37 ?_
            refine hC.iand dX4_couldsCrossing_38 ?_
            rw [nI_andn]
            refine hC.nz (andn_b hs2) dX4_couldsCrossing_39 (tgt := 48) rfl (fun c3 => ?_) (fun c3 => ?_)
            · refine hC.iinc dX4_couldsCrossing_48 rfl (nI_1 _) (by decide) ?_
              refine hC.goto dX4_couldsCrossing_51 (tgt := 4) rfl ?_
              rw [bs_f (show ccP P n s = false by simp [ccP, c3])] at ih
              exact hC.loc rfl ih
            · refine hC.iload_n dX4_couldsCrossing_42 rfl ?_
              refine hC.iconst dX4_couldsCrossing_43 (v := nI 1) rfl ?_
              refine hC.iload_n dX4_couldsCrossing_44 rfl ?_
              refine hC.ishl dX4_couldsCrossing_45 ?_
              refine hC.ior dX4_couldsCrossing_46 ?_
              refine hC.istore_n dX4_couldsCrossing_47 (by decide) ?_
              refine hC.iinc dX4_couldsCrossing_48 rfl (nI_1 _) (by decide) ?_
              refine hC.goto dX4_couldsCrossing_51 (tgt := 4) rfl ?_
              rw [bs_t (show ccP P n s = true by simp [ccP, c2, c3])] at ih
              rw [nI_shl (by omega), nI_or, Nat.one_mul]
              exact hC.loc rfl ih
  exact hC.loc rfl (loop 0 (by omega))
set_option maxHeartbeats 4000000 in
set_option maxRecDepth 20000 in
theorem ct_X4_seamsOf (l : Launch) (P : PlanT) (hP : PlanOK P) (a m : Nat) (ha : a < 32) (hm : m < 4096) : Ct l 2 yX4_seamsOf cX4_seamsOf 3 (some .int) [.ref 0, .int (nI a), .int (nI m)] (planW P) (RV (.int (nI (crossF P (2 ^ a) m))) (planW P)) := by
  refine Ct.of (by decide) (Nat.le_of_ble_eq_true rfl) (fun K hC hR => ?_)
  show K 0 [(0, .ref 0), (1, .int (nI a)), (2, .int (nI m))] [] _
  refine hC.aload_n dX4_seamsOf_0 rfl ?_
  refine hC.iconst dX4_seamsOf_1 (v := nI 1) rfl ?_
  refine hC.iload_n dX4_seamsOf_2 rfl ?_
  refine hC.ishl dX4_seamsOf_3 ?_
  refine hC.iload_n dX4_seamsOf_4 rfl ?_
  rw [nI_shl ha, Nat.one_mul]
  refine hC.rdV [0, 1, 2, 3, 4, 5, 6, 7, 8] dX4_seamsOf_5 lmX4_70 mkX4_crossing svX4_crossing (ct_X4_crossing l P hP (2 ^ a) m hm) ⟨Nat.le_of_ble_eq_true rfl, Nat.le_of_ble_eq_true rfl⟩ rfl rfl (Nat.le_of_ble_eq_true rfl) ⟨by decide, rfl⟩ rfl rfl ?_
  exact hR.ireturn dX4_seamsOf_8 ⟨rfl, rfl⟩
def nrF (E : Nat → Nat) (m a : Nat) : Nat → Nat := fun s => if (m.testBit s && (E s).testBit a) = true then E s else 0
def bdF (P : PlanT) (a m : Nat) : Nat := andn (andn (orF (nrF (P.1 5) m a) 12) 256) (2 ^ a)
theorem nrF_lt {E : Nat → Nat} (hE : ∀ s, E s < 512) (m a s : Nat) : nrF E m a s < 2 ^ 9 := by
  unfold nrF; split
  · exact hE s
  · decide
theorem bdF_lt {P : PlanT} (hP : PlanOK P) (a m : Nat) : bdF P a m < 512 := andn_b (andn_b (orF_lt (k := 9) (nrF_lt hP.2.2.2.2.1 m a) 12))
set_option maxHeartbeats 4000000 in
set_option maxRecDepth 20000 in
theorem ct_X4_bordering (l : Launch) (P : PlanT) (hP : PlanOK P) (a m : Nat) (ha : a < 31) (hm : m < 4096) : Ct l 1 yX4_bordering cX4_bordering 5 (some .int) [.ref 0, .int (nI a), .int (nI m)] (planW P) (RV (.int (nI (bdF P a m))) (planW P)) := by
  refine Ct.of (by decide) (Nat.le_of_ble_eq_true rfl) (fun K hC hR => ?_)
  show K 0 [(0, .ref 0), (1, .int (nI a)), (2, .int (nI m))] [] _
  have hE := hP.2.2.2.2.1
  refine hC.iconst dX4_bordering_0 (v := nI 0) rfl ?_
  refine hC.istore_n dX4_bordering_1 (by decide) ?_
  refine hC.iconst dX4_bordering_2 (v := nI 0) rfl ?_
  refine hC.istore dX4_bordering_3 (by decide) ?_
  have loop : ∀ s, s ≤ 12 → K 5 [(0, .ref 0), (1, .int (nI a)), (2, .int (nI m)), (3, .int (nI (orF (nrF (P.1 5) m a) s))), (4, .int (nI s))] [] (planW P) := by
    refine loopUp1 _ 12 ?_ (fun s hs ih => ?_)
    · refine hC.iload dX4_bordering_5 rfl ?_
      refine hC.bipush dX4_bordering_7 (v := nI 12) rfl ?_
      refine hC.n_ge (by omega) (by omega) dX4_bordering_9 (tgt := 51) rfl (fun c => ?_) (fun c => ?_)
      · refine hC.iload_n dX4_bordering_51 rfl ?_
        refine hC.sipush dX4_bordering_52 (v := (-257)) rfl ?_
        refine hC.iand dX4_bordering_55 ?_
        rw [nI_m257]
        refine hC.iconst dX4_bordering_56 (v := nI 1) rfl ?_
        refine hC.iload_n dX4_bordering_57 rfl ?_
        refine hC.ishl dX4_bordering_58 ?_
        refine hC.iconst dX4_bordering_59 (v := (-1)) rfl ?_
        refine hC.ixor dX4_bordering_60 ?_
        refine hC.iand dX4_bordering_61 ?_
        rw [nI_shl (by omega), Nat.one_mul, nI_andn]
        exact hR.ireturn dX4_bordering_62 ⟨rfl, rfl⟩
      · omega
    · have hs2 := Nat.lt_trans (hE s) (show 512 < 2 ^ 31 by decide)
      refine hC.iload dX4_bordering_5 rfl ?_
      refine hC.bipush dX4_bordering_7 (v := nI 12) rfl ?_
      refine hC.n_ge (by omega) (by omega) dX4_bordering_9 (tgt := 51) rfl (fun c => ?_) (fun c => ?_)
      · omega
      · refine hC.iload_n dX4_bordering_12 rfl ?_
        refine hC.iload dX4_bordering_13 rfl ?_
        refine hC.rdSN [] dX4_bordering_15 lnX4_66 mkX8_has sxX8_has (ct_X8_has l m s (by omega) (by omega)) ⟨Nat.le_of_ble_eq_true rfl, Nat.le_of_ble_eq_true rfl⟩ rfl rfl (Nat.le_of_ble_eq_true rfl) ⟨by decide, rfl⟩ ?_
        refine hC.bz dX4_bordering_18 (tgt := 45) rfl (fun c1 => ?_) (fun c1 => ?_)
        · refine hC.iinc dX4_bordering_45 rfl (nI_1 _) (by decide) ?_
          refine hC.goto dX4_bordering_48 (tgt := 5) rfl ?_
          rw [show orF (nrF (P.1 5) m a) (s + 1) = orF (nrF (P.1 5) m a) s by simp [orF, nrF, c1]] at ih
          exact hC.loc rfl ih
        · refine hC.aload_n dX4_bordering_21 rfl ?_
          refine hC.getfield dX4_bordering_22 lfX4_27 rfl rfl ?_
          refine hC.iload dX4_bordering_25 rfl ?_
          refine hC.iaN dX4_bordering_27 rfl ⟨by omega, by decide⟩ ?_
          refine hC.iload_n dX4_bordering_28 rfl ?_
          refine hC.rdSN [] dX4_bordering_29 lnX4_66 mkX8_has sxX8_has (ct_X8_has l (P.1 5 s) a hs2 (by omega)) ⟨Nat.le_of_ble_eq_true rfl, Nat.le_of_ble_eq_true rfl⟩ rfl rfl (Nat.le_of_ble_eq_true rfl) ⟨by decide, rfl⟩ ?_
          refine hC.bz dX4_bordering_32 (tgt := 45) rfl (fun c2 => ?_) (fun c2 => ?_)
          · refine hC.iinc dX4_bordering_45 rfl (nI_1 _) (by decide) ?_
            refine hC.goto dX4_bordering_48 (tgt := 5) rfl ?_
            rw [show orF (nrF (P.1 5) m a) (s + 1) = orF (nrF (P.1 5) m a) s by simp [orF, nrF, c2]] at ih
            exact hC.loc rfl ih
          · refine hC.iload_n dX4_bordering_35 rfl ?_
            refine hC.aload_n dX4_bordering_36 rfl ?_
            refine hC.getfield dX4_bordering_37 lfX4_27 rfl rfl ?_
            refine hC.iload dX4_bordering_40 rfl ?_
            refine hC.iaN dX4_bordering_42 rfl ⟨by omega, by decide⟩ ?_
            refine hC.ior dX4_bordering_43 ?_
            refine hC.istore_n dX4_bordering_44 (by decide) ?_
            refine hC.iinc dX4_bordering_45 rfl (nI_1 _) (by decide) ?_
            refine hC.goto dX4_bordering_48 (tgt := 5) rfl ?_
            rw [nI_or]
            rw [show orF (nrF (P.1 5) m a) (s + 1) = orF (nrF (P.1 5) m a) s ||| P.1 5 s by simp [orF, nrF, c1, c2]] at ih
            exact hC.loc rfl ih
  exact hC.loc rfl (loop 0 (by omega))
def upP (P : PlanT) (a m h s : Nat) : Bool := (andn m h).testBit s && (!(P.1 5 s).testBit a && decide (P.1 5 s &&& bdF P a m ≠ 0))
def upF (P : PlanT) (a m h : Nat) : Nat := bs 12 (upP P a m h)
set_option maxHeartbeats 4000000 in
set_option maxRecDepth 20000 in
theorem ct_X4_unpickable (l : Launch) (P : PlanT) (hP : PlanOK P) (a m h : Nat) (ha : a < 31) (hm : m < 4096) : Ct l 2 yX4_unpickable cX4_unpickable 7 (some .int) [.ref 0, .int (nI a), .int (nI m), .int (nI h)] (planW P) (RV (.int (nI (upF P a m h))) (planW P)) := by
  refine Ct.of (by decide) (Nat.le_of_ble_eq_true rfl) (fun K hC hR => ?_)
  show K 0 [(0, .ref 0), (1, .int (nI a)), (2, .int (nI m)), (3, .int (nI h))] [] _
  have hE := hP.2.2.2.2.1
  refine hC.aload_n dX4_unpickable_0 rfl ?_
  refine hC.iload_n dX4_unpickable_1 rfl ?_
  refine hC.iload_n dX4_unpickable_2 rfl ?_
  refine hC.rdV [0, 1, 2, 3, 4, 5, 6, 7, 8] dX4_unpickable_3 lmX4_73 mkX4_bordering svX4_bordering (ct_X4_bordering l P hP a m ha hm) ⟨Nat.le_of_ble_eq_true rfl, Nat.le_of_ble_eq_true rfl⟩ rfl rfl (Nat.le_of_ble_eq_true rfl) ⟨by decide, rfl⟩ rfl rfl ?_
  refine hC.istore dX4_unpickable_6 (by decide) ?_
  refine hC.iconst dX4_unpickable_8 (v := nI 0) rfl ?_
  refine hC.istore dX4_unpickable_9 (by decide) ?_
  refine hC.iconst dX4_unpickable_11 (v := nI 0) rfl ?_
  refine hC.istore dX4_unpickable_12 (by decide) ?_
  have loop : ∀ s, s ≤ 12 → K 14 [(0, .ref 0), (1, .int (nI a)), (2, .int (nI m)), (3, .int (nI h)), (4, .int (nI (bdF P a m))), (5, .int (nI (bs s (upP P a m h)))), (6, .int (nI s))] [] (planW P) := by
    refine loopUp1 _ 12 ?_ (fun s hs ih => ?_)
    · refine hC.iload dX4_unpickable_14 rfl ?_
      refine hC.bipush dX4_unpickable_16 (v := nI 12) rfl ?_
      refine hC.n_ge (by omega) (by omega) dX4_unpickable_18 (tgt := 76) rfl (fun c => ?_) (fun c => ?_)
      · refine hC.iload dX4_unpickable_76 rfl ?_
        exact hR.ireturn dX4_unpickable_78 ⟨rfl, rfl⟩
      · omega
    · have hs2 := Nat.lt_trans (hE s) (show 512 < 2 ^ 31 by decide)
      refine hC.iload dX4_unpickable_14 rfl ?_
      refine hC.bipush dX4_unpickable_16 (v := nI 12) rfl ?_
      refine hC.n_ge (by omega) (by omega) dX4_unpickable_18 (tgt := 76) rfl (fun c => ?_) (fun c => ?_)
      · omega
      · refine hC.iload_n dX4_unpickable_21 rfl ?_
        refine hC.iload_n dX4_unpickable_22 rfl ?_
        refine hC.iconst dX4_unpickable_23 (v := (-1)) rfl ?_
        refine hC.ixor dX4_unpickable_24 ?_
        refine hC.iand dX4_unpickable_25 ?_
        refine hC.iload dX4_unpickable_26 rfl ?_
        rw [nI_andn]
        refine hC.rdSN [] dX4_unpickable_28 lnX4_66 mkX8_has sxX8_has (ct_X8_has l (andn m h) s (andn_b (Nat.lt_trans hm (by decide))) (by omega)) ⟨Nat.le_of_ble_eq_true rfl, Nat.le_of_ble_eq_true rfl⟩ rfl rfl (Nat.le_of_ble_eq_true rfl) ⟨by decide, rfl⟩ ?_
        refine hC.bz dX4_unpickable_31 (tgt := 70) rfl (fun c1 => ?_) (fun c1 => ?_)
        · refine hC.iinc dX4_unpickable_70 rfl (nI_1 _) (by decide) ?_
          refine hC.goto dX4_unpickable_73 (tgt := 14) rfl ?_
          rw [bs_f (show upP P a m h s = false by simp [upP, c1])] at ih
          exact hC.loc rfl ih
        · refine hC.aload_n dX4_unpickable_34 rfl ?_
          refine hC.getfield dX4_unpickable_35 lfX4_27 rfl rfl ?_
          refine hC.iload dX4_unpickable_38 rfl ?_
          refine hC.iaN dX4_unpickable_40 rfl ⟨by omega, by decide⟩ ?_
          refine hC.iload_n dX4_unpickable_41 rfl ?_
          refine hC.rdSN [] dX4_unpickable_42 lnX4_66 mkX8_has sxX8_has (ct_X8_has l (P.1 5 s) a hs2 (by omega)) ⟨Nat.le_of_ble_eq_true rfl, Nat.le_of_ble_eq_true rfl⟩ rfl rfl (Nat.le_of_ble_eq_true rfl) ⟨by decide, rfl⟩ ?_
          refine hC.bnz dX4_unpickable_45 (tgt := 70) rfl (fun c2 => ?_) (fun c2 => ?_)
          · refine hC.iinc dX4_unpickable_70 rfl (nI_1 _) (by decide) ?_
            refine hC.goto dX4_unpickable_73 (tgt := 14) rfl ?_
            rw [bs_f (show upP P a m h s = false by simp [upP, c2])] at ih
            exact hC.loc rfl ih
          · refine hC.aload_n dX4_unpickable_48 rfl ?_
            refine hC.getfield dX4_unpickable_49 lfX4_27 rfl rfl ?_
            refine hC.iload dX4_unpickable_52 rfl ?_
            refine hC.iaN dX4_unpickable_54 rfl ⟨by omega, by decide⟩ ?_
            refine hC.iload dX4_unpickable_55 rfl ?_
            refine hC.iand dX4_unpickable_57 ?_
            rw [nI_and]
            refine hC.nz (and_b hs2) dX4_unpickable_58 (tgt := 70) rfl (fun c3 => ?_) (fun c3 => ?_)
            · refine hC.iinc dX4_unpickable_70 rfl (nI_1 _) (by decide) ?_
              refine hC.goto dX4_unpickable_73 (tgt := 14) rfl ?_
              rw [bs_f (show upP P a m h s = false by simp [upP, c3])] at ih
              exact hC.loc rfl ih
            · refine hC.iload dX4_unpickable_61 rfl ?_
              refine hC.iconst dX4_unpickable_63 (v := nI 1) rfl ?_
              refine hC.iload dX4_unpickable_64 rfl ?_
              refine hC.ishl dX4_unpickable_66 ?_
              refine hC.ior dX4_unpickable_67 ?_
              refine hC.istore dX4_unpickable_68 (by decide) ?_
              refine hC.iinc dX4_unpickable_70 rfl (nI_1 _) (by decide) ?_
              refine hC.goto dX4_unpickable_73 (tgt := 14) rfl ?_
              rw [bs_t (show upP P a m h s = true by simp [upP, c1, c2, c3])] at ih
              rw [nI_shl (by omega), nI_or, Nat.one_mul]
              exact hC.loc rfl ih
  exact hC.loc rfl (loop 0 (by omega))
set_option maxHeartbeats 4000000 in
set_option maxRecDepth 20000 in
theorem ct_X4_spread (l : Launch) (P : PlanT) (hP : PlanOK P) (w m : Nat) (hw : w < 512) (hm : m < 4096) : Ct l 1 yX4_spread cX4_spread 5 (some .int) [.ref 0, .int (nI w), .int (nI m)] (planW P) (RV (.int (nI (sprF (P.1 5) m w 12))) (planW P)) := by
  refine Ct.of (by decide) (Nat.le_of_ble_eq_true rfl) (fun K hC hR => ?_)
  show K 0 [(0, .ref 0), (1, .int (nI w)), (2, .int (nI m))] [] _
  have hE := hP.2.2.2.2.1
  refine hC.iload_n dX4_spread_0 rfl ?_
  refine hC.istore_n dX4_spread_1 (by decide) ?_
  refine hC.iconst dX4_spread_2 (v := nI 0) rfl ?_
  refine hC.istore dX4_spread_3 (by decide) ?_
  have loop : ∀ s, s ≤ 12 → K 5 [(0, .ref 0), (1, .int (nI w)), (2, .int (nI m)), (3, .int (nI (sprF (P.1 5) m w s))), (4, .int (nI s))] [] (planW P) := by
    refine loopUp1 _ 12 ?_ (fun s hs ih => ?_)
    · refine hC.iload dX4_spread_5 rfl ?_
      refine hC.bipush dX4_spread_7 (v := nI 12) rfl ?_
      refine hC.n_ge (by omega) (by omega) dX4_spread_9 (tgt := 49) rfl (fun c => ?_) (fun c => ?_)
      · refine hC.iload_n dX4_spread_49 rfl ?_
        exact hR.ireturn dX4_spread_50 ⟨rfl, rfl⟩
      · omega
    · have hs2 := Nat.lt_trans (hE s) (show 512 < 2 ^ 31 by decide)
      refine hC.iload dX4_spread_5 rfl ?_
      refine hC.bipush dX4_spread_7 (v := nI 12) rfl ?_
      refine hC.n_ge (by omega) (by omega) dX4_spread_9 (tgt := 49) rfl (fun c => ?_) (fun c => ?_)
      · omega
      · refine hC.iload_n dX4_spread_12 rfl ?_
        refine hC.iload dX4_spread_13 rfl ?_
        refine hC.rdSN [] dX4_spread_15 lnX4_66 mkX8_has sxX8_has (ct_X8_has l m s (by omega) (by omega)) ⟨Nat.le_of_ble_eq_true rfl, Nat.le_of_ble_eq_true rfl⟩ rfl rfl (Nat.le_of_ble_eq_true rfl) ⟨by decide, rfl⟩ ?_
        refine hC.bz dX4_spread_18 (tgt := 43) rfl (fun c1 => ?_) (fun c1 => ?_)
        · refine hC.iinc dX4_spread_43 rfl (nI_1 _) (by decide) ?_
          refine hC.goto dX4_spread_46 (tgt := 5) rfl ?_
          rw [show sprF (P.1 5) m w (s + 1) = sprF (P.1 5) m w s by rw [sprF, if_neg (by simp [c1])]] at ih
          exact hC.loc rfl ih
        · refine hC.aload_n dX4_spread_21 rfl ?_
          refine hC.getfield dX4_spread_22 lfX4_27 rfl rfl ?_
          refine hC.iload dX4_spread_25 rfl ?_
          refine hC.iaN dX4_spread_27 rfl ⟨by omega, by decide⟩ ?_
          refine hC.iload_n dX4_spread_28 rfl ?_
          refine hC.iand dX4_spread_29 ?_
          rw [nI_and]
          refine hC.nz (and_b hs2) dX4_spread_30 (tgt := 43) rfl (fun c2 => ?_) (fun c2 => ?_)
          · refine hC.iinc dX4_spread_43 rfl (nI_1 _) (by decide) ?_
            refine hC.goto dX4_spread_46 (tgt := 5) rfl ?_
            rw [show sprF (P.1 5) m w (s + 1) = sprF (P.1 5) m w s by rw [sprF, if_neg (by simp [c2])]] at ih
            exact hC.loc rfl ih
          · refine hC.iload_n dX4_spread_33 rfl ?_
            refine hC.aload_n dX4_spread_34 rfl ?_
            refine hC.getfield dX4_spread_35 lfX4_27 rfl rfl ?_
            refine hC.iload dX4_spread_38 rfl ?_
            refine hC.iaN dX4_spread_40 rfl ⟨by omega, by decide⟩ ?_
            refine hC.ior dX4_spread_41 ?_
            refine hC.istore_n dX4_spread_42 (by decide) ?_
            refine hC.iinc dX4_spread_43 rfl (nI_1 _) (by decide) ?_
            refine hC.goto dX4_spread_46 (tgt := 5) rfl ?_
            rw [nI_or]
            rw [show sprF (P.1 5) m w (s + 1) = sprF (P.1 5) m w s ||| P.1 5 s by rw [sprF, if_pos (by simp [c1, c2])]] at ih
            exact hC.loc rfl ih
  exact hC.loc rfl (loop 0 (by omega))
set_option maxHeartbeats 4000000 in
set_option maxRecDepth 20000 in
theorem ct_X4_flying (l : Launch) (P : PlanT) (hP : PlanOK P) (m : Nat) (hm : m < 4096) : Ct l 2 yX4_flying cX4_flying 5 (some .int) [.ref 0, .int (nI m)] (planW P) (RV (.int (nI (flyF (P.1 5) 12 m))) (planW P)) := by
  refine Ct.of (by decide) (Nat.le_of_ble_eq_true rfl) (fun K hC hR => ?_)
  show K 0 [(0, .ref 0), (1, .int (nI m))] [] _
  have hE := hP.2.2.2.2.1
  refine hC.sipush dX4_flying_0 (v := nI 256) rfl ?_
  refine hC.istore_n dX4_flying_3 (by decide) ?_
  refine hC.iconst dX4_flying_4 (v := nI 0) rfl ?_
  refine hC.istore_n dX4_flying_5 (by decide) ?_
  have fin : ∀ (ls : AL) (w : Nat), lk ls 2 = some (.int (nI w)) → w < 512 → w.testBit 8 = true → closedX (P.1 5) 12 m w → (∀ a, w.testBit a = true → flyB (P.1 5) 12 m a) → K 38 ls [] (planW P) := by
    intro ls w hl h1 h2 h3 h4
    refine hC.iload_n dX4_flying_38 hl ?_
    refine hC.sipush dX4_flying_39 (v := (-257)) rfl ?_
    refine hC.iand dX4_flying_42 ?_
    rw [nI_m257, flyF_of h1 h2 h3 h4]
    exact hR.ireturn dX4_flying_43 ⟨rfl, rfl⟩
  have loop : ∀ t, t ≤ 8 → ∀ w, w < 512 → w.testBit 8 = true → (∀ a, w.testBit a = true → flyB (P.1 5) 12 m a) → t + 1 ≤ cn w.testBit 9 → K 6 [(0, .ref 0), (1, .int (nI m)), (2, .int (nI w)), (3, .int (nI t))] [] (planW P) := by
    refine loopUp1 _ 8 ?_ (fun t ht ih => ?_)
    · intro w h1 h2 h3 h4
      refine hC.iload_n dX4_flying_6 rfl ?_
      refine hC.bipush dX4_flying_7 (v := nI 8) rfl ?_
      refine hC.n_ge (by omega) (by omega) dX4_flying_9 (tgt := 38) rfl (fun c => ?_) (fun c => ?_)
      · exact fin _ w rfl h1 h2 (closed_all hE (cn_full 9 (by omega))) h3
      · omega
    · intro w h1 h2 h3 h4
      have hsup := sprF_sup (E := P.1 5) (m := m) (h := w) 0 12 (by omega)
      have hlt := sprF_lt (m := m) hE h1 12
      refine hC.iload_n dX4_flying_6 rfl ?_
      refine hC.bipush dX4_flying_7 (v := nI 8) rfl ?_
      refine hC.n_ge (by omega) (by omega) dX4_flying_9 (tgt := 38) rfl (fun c => ?_) (fun c => ?_)
      · omega
      · refine hC.aload_n dX4_flying_12 rfl ?_
        refine hC.iload_n dX4_flying_13 rfl ?_
        refine hC.iload_n dX4_flying_14 rfl ?_
        refine hC.rdV [0, 1, 2, 3, 4, 5, 6, 7, 8] dX4_flying_15 lmX4_76 mkX4_spread svX4_spread (ct_X4_spread l P hP w m h1 hm) ⟨Nat.le_of_ble_eq_true rfl, Nat.le_of_ble_eq_true rfl⟩ rfl rfl (Nat.le_of_ble_eq_true rfl) ⟨by decide, rfl⟩ rfl rfl ?_
        refine hC.istore dX4_flying_18 (by decide) ?_
        refine hC.iload dX4_flying_20 rfl ?_
        refine hC.iload_n dX4_flying_22 rfl ?_
        refine hC.n_ne (by omega) (by omega) dX4_flying_23 (tgt := 29) rfl (fun c1 => ?_) (fun c1 => ?_)
        · refine hC.iload dX4_flying_29 rfl ?_
          refine hC.istore_n dX4_flying_31 (by decide) ?_
          refine hC.iinc dX4_flying_32 rfl (nI_1 _) (by decide) ?_
          refine hC.goto dX4_flying_35 (tgt := 6) rfl ?_
          refine hC.loc rfl (ih _ hlt (hsup 8 h2) (fun a ha X hX1 hX2 hX3 => sprF_sub hX3 (fun i hi => h3 i hi X hX1 hX2 hX3) 12 (Nat.le_refl 12) a ha) ?_)
          have hd : ∃ i, i < 9 ∧ w.testBit i = false ∧ (sprF (P.1 5) m w 12).testBit i = true := by
            apply Classical.byContradiction
            intro hno
            refine c1 (set_ext (n := 9) hlt h1 (fun i hi => ?_))
            cases hw : w.testBit i
            · cases hs : (sprF (P.1 5) m w 12).testBit i
              · rfl
              · exact absurd ⟨i, hi, hw, hs⟩ hno
            · exact hsup i hw
          have : cn w.testBit 9 < cn (sprF (P.1 5) m w 12).testBit 9 := cn_lt 9 (fun i _ hi => hsup i hi) hd
          omega
        · refine hC.goto dX4_flying_26 (tgt := 38) rfl ?_
          exact fin _ w rfl h1 h2 (sprF_closed c1) h3
  refine hC.loc rfl (loop 0 (by omega) 256 (by decide) (by decide) (fun a ha X _ h8 _ => ?_) (by decide))
  rw [show (256 : Nat) = 2 ^ 8 from rfl, Nat.testBit_two_pow] at ha
  have : 8 = a := by simpa using ha
  rw [← this]; exact h8
