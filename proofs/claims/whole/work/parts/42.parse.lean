/-! how a text is read: what both sides find -/
def scK (p : Nat → Bool) : Nat → Nat → Nat
  | 0, i => i
  | k + 1, i => if p i = true then scK p k (i + 1) else i
/-- the first place from i on without p, n at most -/
def sc (p : Nat → Bool) (n i : Nat) : Nat := scK p (n - i) i
theorem scK_ge (p : Nat → Bool) : ∀ k i, i ≤ scK p k i ∧ scK p k i ≤ i + k
  | 0, i => ⟨Nat.le_refl i, Nat.le_refl i⟩
  | k + 1, i => by
    have := scK_ge p k (i + 1)
    unfold scK; split <;> omega
theorem sc_ge (p : Nat → Bool) (n i : Nat) : i ≤ sc p n i := (scK_ge p _ i).1
theorem sc_le {p : Nat → Bool} {n i : Nat} (h : i ≤ n) : sc p n i ≤ n := by
  have := (scK_ge p (n - i) i).2
  unfold sc; omega
theorem sc_t {p : Nat → Bool} {n i : Nat} (h : i < n) (hp : p i = true) : sc p n i = sc p n (i + 1) := by
  unfold sc
  rw [show n - i = (n - (i + 1)) + 1 by omega, scK, if_pos hp]
theorem sc_f {p : Nat → Bool} {n i : Nat} (hp : p i = false) : sc p n i = i := by
  unfold sc
  cases n - i with
  | zero => rfl
  | succ k => rw [scK, if_neg (by rw [hp]; decide)]
theorem sc_n (p : Nat → Bool) (n : Nat) : sc p n n = n := by unfold sc; rw [Nat.sub_self]; rfl
theorem sc_ind {p : Nat → Bool} {n : Nat} (W : Nat → Prop) (hn : W n) (hf : ∀ i, i < n → p i = false → W i) (ht : ∀ i, i < n → p i = true → W (i + 1) → W i) : ∀ i, i ≤ n → W i := by
  have key : ∀ k i, i + k = n → W i := by
    intro k
    induction k with
    | zero => intro i h; have : i = n := by omega
              subst this; exact hn
    | succ k ih =>
      intro i h
      cases hp : p i
      · exact hf i (by omega) hp
      · exact ht i (by omega) hp (ih (i + 1) (by omega))
  intro i h
  exact key (n - i) i (by omega)
theorem sc_end {p : Nat → Bool} {n : Nat} : ∀ i, i ≤ n → sc p n i = n ∨ (sc p n i < n ∧ p (sc p n i) = false) := by
  refine sc_ind (p := p) _ (Or.inl (sc_n p n)) (fun i hi hp => Or.inr ?_) (fun i hi hp ih => ?_)
  · rw [sc_f hp]; exact ⟨hi, hp⟩
  · rw [sc_t hi hp]; exact ih
theorem sc_all {p : Nat → Bool} {n : Nat} : ∀ i, i ≤ n → ∀ j, i ≤ j → j < sc p n i → p j = true := by
  refine sc_ind (p := p) _ (fun j h1 h2 => ?_) (fun i hi hp j h1 h2 => ?_) (fun i hi hp ih j h1 h2 => ?_)
  · rw [sc_n] at h2; omega
  · rw [sc_f hp] at h2; omega
  · rw [sc_t hi hp] at h2
    by_cases e : j = i
    · rw [e]; exact hp
    · exact ih j (by omega) h2
theorem sc_loop {p : Nat → Bool} {n : Nat} (W : Nat → Prop) (hs : ∀ i, i < n → p i = true → W (i + 1) → W i) : ∀ i, i ≤ n → W (sc p n i) → W i := by
  refine sc_ind (p := p) (fun i => W (sc p n i) → W i) (fun h => ?_) (fun i hi hp h => ?_) (fun i hi hp ih h => ?_)
  · rw [sc_n] at h; exact h
  · rw [sc_f hp] at h; exact h
  · rw [sc_t hi hp] at h; exact hs i hi hp (ih h)
def spB (t : Nat → Nat) (j : Nat) : Bool := decide (t j = 32)
def dgB (t : Nat → Nat) (j : Nat) : Bool := decide (48 ≤ t j ∧ t j ≤ 57)
def ltB (t : Nat → Nat) (j : Nat) : Bool := decide (97 ≤ t j ∧ t j ≤ 122)
/-- the number of k figures from j on, as long as it is small -/
def caK (t : Nat → Nat) (j : Nat) : Nat → Nat
  | 0 => 0
  | k + 1 => if 9999 < caK t j k then caK t j k else 10 * caK t j k + t (j + k) - 48
theorem caK_le {t : Nat → Nat} {j : Nat} (ht : ∀ i, t i < 256) : ∀ k, caK t j k < 131072
  | 0 => by rw [caK]; decide
  | k + 1 => by
    have := caK_le (j := j) ht k
    have := ht (j + k)
    unfold caK; split <;> omega
def isWK (t : Nat → Nat) : Nat → List Nat → Bool
  | _, [] => true
  | j, c :: cs => decide (t j = c) && isWK t (j + 1) cs
def isW (t : Nat → Nat) (j e : Nat) (cs : List Nat) : Bool := decide (e - j = cs.length) && isWK t j cs
/-- which word stands from j to e -/
def wcF (t : Nat → Nat) (j e : Nat) : Nat := if isW t j e [99, 111, 108, 111, 117, 114, 115] = true then 0 else if isW t j e [115, 116, 114, 105, 112] = true then 1 else if isW t j e [112, 111, 108, 101] = true then 2 else if isW t j e [115, 101, 97, 109] = true then 3 else if isW t j e [99, 111, 117, 108, 100] = true then 4 else NN
def wdN (t : Nat → Nat) (j : Nat) : Nat → Nat
  | 0 => 0
  | k + 1 => wdN t j k * 256 + t (j + k)
def wdV (t : Nat → Nat) (j : Nat) : Nat → Int64
  | 0 => lN 0
  | k + 1 => if 7 < k then -1 else wdV t j k * lN 256 + lN (t (j + k))
theorem wdV_N (t : Nat → Nat) (j : Nat) : ∀ k, k ≤ 8 → wdV t j k = lN (wdN t j k)
  | 0, _ => rfl
  | k + 1, h => by rw [wdV, if_neg (by omega), wdV_N t j k (by omega), lN_mul, lN_add]; rfl
theorem wdV_9 (t : Nat → Nat) (j : Nat) : ∀ k, 9 ≤ k → wdV t j k = -1
  | k + 1, h => by rw [wdV, if_pos (by omega)]
set_option maxHeartbeats 4000000 in
theorem wd_eq {t : Nat → Nat} {j k : Nat} (ht : ∀ i, i < k → 97 ≤ t (j + i) ∧ t (j + i) ≤ 122) : (wdV t j k = lN 27988534211474035 ↔ isW t j (j + k) [99, 111, 108, 111, 117, 114, 115] = true) ∧ (wdV t j k = lN 495874894192 ↔ isW t j (j + k) [115, 116, 114, 105, 112] = true) ∧ (wdV t j k = lN 1886350437 ↔ isW t j (j + k) [112, 111, 108, 101] = true) ∧ (wdV t j k = lN 1936023917 ↔ isW t j (j + k) [115, 101, 97, 109] = true) ∧ (wdV t j k = lN 427071728740 ↔ isW t j (j + k) [99, 111, 117, 108, 100] = true) := by
  by_cases h9 : 9 ≤ k
  · rw [wdV_9 t j k h9]
    have e : ∀ cs : List Nat, cs.length < 9 → isW t j (j + k) cs = false := fun cs hcs => by rw [isW, decide_eq_false (by omega)]; rfl
    rw [e _ (by decide), e _ (by decide), e _ (by decide), e _ (by decide), e _ (by decide)]
    refine ⟨?_, ?_, ?_, ?_, ?_⟩ <;> exact ⟨fun h => absurd h (by decide), fun h => absurd h (by decide)⟩
  · rw [wdV_N t j k (by omega)]
    simp only [isW, isWK, Bool.and_eq_true, decide_eq_true_eq, Nat.add_sub_cancel_left, List.length_cons, List.length_nil, and_true, Nat.add_assoc]
    have hb : wdN t j k < 2 ^ 63 ∧ (wdN t j k = 27988534211474035 ↔ k = 7 ∧ t j = 99 ∧ t (j + 1) = 111 ∧ t (j + 2) = 108 ∧ t (j + 3) = 111 ∧ t (j + 4) = 117 ∧ t (j + 5) = 114 ∧ t (j + 6) = 115) ∧ (wdN t j k = 495874894192 ↔ k = 5 ∧ t j = 115 ∧ t (j + 1) = 116 ∧ t (j + 2) = 114 ∧ t (j + 3) = 105 ∧ t (j + 4) = 112) ∧ (wdN t j k = 1886350437 ↔ k = 4 ∧ t j = 112 ∧ t (j + 1) = 111 ∧ t (j + 2) = 108 ∧ t (j + 3) = 101) ∧ (wdN t j k = 1936023917 ↔ k = 4 ∧ t j = 115 ∧ t (j + 1) = 101 ∧ t (j + 2) = 97 ∧ t (j + 3) = 109) ∧ (wdN t j k = 427071728740 ↔ k = 5 ∧ t j = 99 ∧ t (j + 1) = 111 ∧ t (j + 2) = 117 ∧ t (j + 3) = 108 ∧ t (j + 4) = 100) := by
      have h8 : k = 0 ∨ k = 1 ∨ k = 2 ∨ k = 3 ∨ k = 4 ∨ k = 5 ∨ k = 6 ∨ k = 7 ∨ k = 8 := by omega
      have g0 := ht 0
      have g1 := ht 1
      have g2 := ht 2
      have g3 := ht 3
      have g4 := ht 4
      have g5 := ht 5
      have g6 := ht 6
      have g7 := ht 7
      rw [Nat.add_zero] at g0
      rcases h8 with rfl | rfl | rfl | rfl | rfl | rfl | rfl | rfl | rfl <;> simp only [wdN, Nat.add_zero, true_and, false_and] <;> refine ⟨by omega, ⟨fun h => ?_, fun h => ?_⟩, ⟨fun h => ?_, fun h => ?_⟩, ⟨fun h => ?_, fun h => ?_⟩, ⟨fun h => ?_, fun h => ?_⟩, ⟨fun h => ?_, fun h => ?_⟩⟩ <;> first | omega | exact h.elim
    obtain ⟨h0, h1, h2, h3, h4, h5⟩ := hb
    rw [pk_lEQ h0 (by decide), pk_lEQ h0 (by decide), pk_lEQ h0 (by decide), pk_lEQ h0 (by decide), pk_lEQ h0 (by decide)]
    refine ⟨h1, h2, h3, h4, h5⟩
theorem lg_eq0 (x y : Int64) : lg_cmp x y = 0 ↔ x = y := by
  have h1 := lg_lt x y
  have h2 := lg_gt x y
  have h3 := @Int64.toInt_inj x y
  constructor
  · intro h
    rw [h] at h1 h2
    apply h3.mp
    have a1 : ¬ x.toInt < y.toInt := fun z => absurd (h1.mpr z) (by decide)
    have a2 : ¬ y.toInt < x.toInt := fun z => absurd (h2.mpr z) (by decide)
    omega
  · intro h
    subst h
    unfold lg_cmp
    simp
/-! what a text tells: rows 0 prices, 1 colours of strips, 2 A, 3 B (8: the pole), 4 S (20 places: seams, from 12 on 'could'); counts 0 .. 3 -/
abbrev ToldT : Type := (Nat → Nat → Nat) × (Nat → Nat)
abbrev FaT : Type := Nat × Nat
def nuT (t : Nat → Nat) (n lo hx i : Nat) : Except FaT (Nat × Nat × Nat) :=
  if sc (dgB t) n (sc (spB t) n i) = sc (spB t) n i then .error (1, sc (spB t) n i) else if 3 < sc (dgB t) n (sc (spB t) n i) - sc (spB t) n i ∨ ¬ (lo ≤ caK t (sc (spB t) n i) (sc (dgB t) n (sc (spB t) n i) - sc (spB t) n i) ∧ caK t (sc (spB t) n i) (sc (dgB t) n (sc (spB t) n i) - sc (spB t) n i) < hx) then .error (2, sc (spB t) n i) else .ok (caK t (sc (spB t) n i) (sc (dgB t) n (sc (spB t) n i) - sc (spB t) n i), sc (spB t) n i, sc (dgB t) n (sc (spB t) n i))
def enT (t : Nat → Nat) (n i : Nat) : Except FaT Nat := if sc (spB t) n i < n ∧ t (sc (spB t) n i) = 59 then .ok (sc (spB t) n i + 1) else .error (1, sc (spB t) n i)
def adC (T : ToldT) (v : Nat) : ToldT := (upR T.1 0 (updN (T.1 0) (T.2 0) v), updN T.2 0 (T.2 0 + 1))
def adS (T : ToldT) (v : Nat) : ToldT := (upR T.1 1 (updN (T.1 1) (T.2 1) v), updN T.2 1 (T.2 1 + 1))
def adE (T : ToldT) (wd a b s : Nat) : ToldT := (upR (upR (upR T.1 2 (updN (T.1 2) (if wd = 4 then 12 + T.2 3 else T.2 2) a)) 3 (updN (T.1 3) (if wd = 4 then 12 + T.2 3 else T.2 2) b)) 4 (updN (T.1 4) (if wd = 4 then 12 + T.2 3 else T.2 2) s), updN T.2 (if wd = 4 then 3 else 2) (T.2 (if wd = 4 then 3 else 2) + 1))
def coT (t : Nat → Nat) (n : Nat) : Nat → ToldT → Nat → Except FaT (ToldT × Nat)
  | 0, _, i => .error (1, i)
  | r + 1, T, i => match nuT t n 0 100 i with
    | .error x => .error x
    | .ok (v, _, e) => if sc (spB t) n e < n ∧ t (sc (spB t) n e) = 59 then .ok (adC T v, sc (spB t) n e + 1) else if sc (spB t) n e < n ∧ t (sc (spB t) n e) = 44 ∧ r ≠ 0 then coT t n r (adC T v) (sc (spB t) n e + 1) else .error (1, sc (spB t) n e)
def bdT (t : Nat → Nat) (n : Nat) (T : ToldT) (wd a b i : Nat) : Except FaT (ToldT × Nat) :=
  match nuT t n (if wd = 4 then 0 else 1) (if wd = 4 then 100 else 10) i with
  | .error x => .error x
  | .ok (s, _, e) => match enT t n e with
    | .error x => .error x
    | .ok i2 => .ok (adE T wd a b s, i2)
def seT (t : Nat → Nat) (n : Nat) (T : ToldT) (wd i : Nat) : Except FaT (ToldT × Nat) :=
  match nuT t n 0 (T.2 1) i with
  | .error x => .error x
  | .ok (a, _, e) => if wd = 2 then bdT t n T wd a 8 e else match nuT t n 0 (T.2 1) e with
    | .error x => .error x
    | .ok (b, jb, e2) => if wd = 3 ∧ b = a then .error (4, jb) else bdT t n T wd a (if b = a then 8 else b) e2
def stT (t : Nat → Nat) (n : Nat) (T : ToldT) (i : Nat) : Except FaT (ToldT × Nat) :=
  match nuT t n 0 (T.2 0) i with
  | .error x => .error x
  | .ok (a, _, e) => match enT t n e with
    | .error x => .error x
    | .ok i2 => .ok (adS T a, i2)
/-- a clause, its first letter at j -/
def clT (t : Nat → Nat) (n : Nat) (T : ToldT) (j : Nat) : Except FaT (ToldT × Nat) :=
  if wcF t j (sc (ltB t) n j) = NN ∨ (wcF t j (sc (ltB t) n j) ≠ 0 ∧ T.2 0 = 0) then .error (1, j)
  else if (wcF t j (sc (ltB t) n j) = 0 ∧ T.2 0 ≠ 0) ∨ (wcF t j (sc (ltB t) n j) = 1 ∧ T.2 1 = 8) ∨ ((wcF t j (sc (ltB t) n j) = 2 ∨ wcF t j (sc (ltB t) n j) = 3) ∧ T.2 2 = 12) ∨ (wcF t j (sc (ltB t) n j) = 4 ∧ T.2 3 = 8) then .error (3, j)
  else if wcF t j (sc (ltB t) n j) = 0 then coT t n 4 T (sc (ltB t) n j) else if wcF t j (sc (ltB t) n j) = 1 then stT t n T (sc (ltB t) n j) else seT t n T (wcF t j (sc (ltB t) n j)) (sc (ltB t) n j)
def paT (t : Nat → Nat) (n : Nat) : Nat → ToldT → Nat → Except FaT ToldT
  | 0, T, _ => .ok T
  | k + 1, T, i => if sc (spB t) n i = n then .ok T else match clT t n T (sc (spB t) n i) with
    | .error x => .error x
    | .ok (T2, i2) => paT t n k T2 i2
def T0 : ToldT := (fun _ _ => 0, fun _ => 0)
