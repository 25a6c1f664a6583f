/-! the walk's rules over numbers nI n, n a Nat -/
theorem and_b {a b N : Nat} (h : a < N) : a &&& b < N := Nat.lt_of_le_of_lt Nat.and_le_left h
theorem and_b2 {a b N : Nat} (h : b < N) : a &&& b < N := Nat.lt_of_le_of_lt Nat.and_le_right h
theorem andn_le (a b : Nat) : andn a b ≤ a := by
  apply Nat.le_of_not_lt
  intro h
  have h1 : ∀ x y : Nat, (∀ i, x.testBit i = true → y.testBit i = true) → x ≤ y := by
    intro x y hxy
    have e : x = x &&& y := by
      apply Nat.eq_of_testBit_eq
      intro i
      rw [Nat.testBit_and]
      cases hx : x.testBit i
      · rfl
      · rw [hxy i hx]; rfl
    rw [e]; exact Nat.and_le_right
  have := h1 (andn a b) a (fun i hi => by rw [andn_tb] at hi; simp at hi; exact hi.1)
  omega
theorem andn_b {a b N : Nat} (h : a < N) : andn a b < N := Nat.lt_of_le_of_lt (andn_le a b) h
theorem or_b {a b : Nat} (n : Nat) (ha : a < 2 ^ n) (hb : b < 2 ^ n) : a ||| b < 2 ^ n := Nat.or_lt_two_pow ha hb
def updN (f : Nat → Nat) (k v : Nat) : Nat → Nat := fun j => if j = k then v else f j
theorem updN_s (f : Nat → Nat) (k v : Nat) : updN f k v k = v := by simp [updN]
theorem updN_n {f : Nat → Nat} {k v j : Nat} (h : j ≠ k) : updN f k v j = f j := by simp [updN, h]
theorem upd_nI (f : Nat → Nat) (k v : Nat) : upd (fun j => nI (f j)) k (nI v) = fun j => nI (updN f k v j) := by
  funext j
  by_cases h : j = k
  · subst h; simp [upd, updN]
  · simp [upd, updN, h]
theorem b01 (b : Bool) : narrow .boolean (.int (nI b.toNat)) = .int (nI b.toNat) := by cases b <;> decide
section CLN
variable {l : Launch} {cc : ByteArray} {own : String} {nL : Nat} {R : Room} {K : AK} {pc : Nat} {ls : AL} {st : List Value} {hs : List va_E}
theorem Cl.bz (h : Cl l cc own nL R K) {b : Bool} {off : Int} {tgt : Nat} (hd : decode cc pc = .ok (.ifCond .eq off, 3)) (ht : (pc : Int) + off = (tgt : Int)) (kf : b = false → K tgt ls st hs) (kt : b = true → K (pc + 3) ls st hs) : K pc ls (.int (nI b.toNat) :: st) hs := by
  cases b
  · exact h.if_eq hd ht (fun _ => kf rfl) (fun c => absurd rfl c)
  · exact h.if_eq hd ht (fun c => absurd c (by decide)) (fun _ => kt rfl)
theorem Cl.bnz (h : Cl l cc own nL R K) {b : Bool} {off : Int} {tgt : Nat} (hd : decode cc pc = .ok (.ifCond .ne off, 3)) (ht : (pc : Int) + off = (tgt : Int)) (kt : b = true → K tgt ls st hs) (kf : b = false → K (pc + 3) ls st hs) : K pc ls (.int (nI b.toNat) :: st) hs := by
  cases b
  · exact h.if_ne hd ht (fun c => absurd rfl c) (fun _ => kf rfl)
  · exact h.if_ne hd ht (fun _ => kt rfl) (fun c => absurd c (by decide))
theorem nI0_iff {x : Nat} (hx : x < 2 ^ 31) : nI x = 0 ↔ x = 0 := nI_eq (b := 0) hx (by decide)
theorem Cl.nz (h : Cl l cc own nL R K) {x : Nat} (hx : x < 2 ^ 31) {off : Int} {tgt : Nat} (hd : decode cc pc = .ok (.ifCond .eq off, 3)) (ht : (pc : Int) + off = (tgt : Int)) (kt : x = 0 → K tgt ls st hs) (kf : x ≠ 0 → K (pc + 3) ls st hs) : K pc ls (.int (nI x) :: st) hs :=
  h.if_eq hd ht (fun c => kt ((nI0_iff hx).mp c)) (fun c => kf (fun e => c ((nI0_iff hx).mpr e)))
theorem Cl.nnz (h : Cl l cc own nL R K) {x : Nat} (hx : x < 2 ^ 31) {off : Int} {tgt : Nat} (hd : decode cc pc = .ok (.ifCond .ne off, 3)) (ht : (pc : Int) + off = (tgt : Int)) (kf : x ≠ 0 → K tgt ls st hs) (kt : x = 0 → K (pc + 3) ls st hs) : K pc ls (.int (nI x) :: st) hs :=
  h.if_ne hd ht (fun c => kf (fun e => c ((nI0_iff hx).mpr e))) (fun c => kt ((nI0_iff hx).mp c))
theorem Cl.n_ge (h : Cl l cc own nL R K) {a b : Nat} (ha : a < 2 ^ 31) (hb : b < 2 ^ 31) {off : Int} {tgt : Nat} (hd : decode cc pc = .ok (.if_icmp .ge off, 3)) (ht : (pc : Int) + off = (tgt : Int)) (kt : b ≤ a → K tgt ls st hs) (kf : a < b → K (pc + 3) ls st hs) : K pc ls (.int (nI b) :: .int (nI a) :: st) hs := by
  have e1 := @nI_leI a b ha hb
  have e2 := @nI_leI b a hb ha
  have e3 := @nI_ltI a b ha hb
  have e4 := @nI_ltI b a hb ha
  have e5 := @nI_eq a b ha hb
  refine h.icmp_ge hd ht (fun c => kt ?_) (fun c => kf ?_)
  all_goals simp only [e1, e2, e3, e4, e5] at c
  all_goals omega
theorem Cl.n_lt (h : Cl l cc own nL R K) {a b : Nat} (ha : a < 2 ^ 31) (hb : b < 2 ^ 31) {off : Int} {tgt : Nat} (hd : decode cc pc = .ok (.if_icmp .lt off, 3)) (ht : (pc : Int) + off = (tgt : Int)) (kt : a < b → K tgt ls st hs) (kf : b ≤ a → K (pc + 3) ls st hs) : K pc ls (.int (nI b) :: .int (nI a) :: st) hs := by
  have e1 := @nI_leI a b ha hb
  have e2 := @nI_leI b a hb ha
  have e3 := @nI_ltI a b ha hb
  have e4 := @nI_ltI b a hb ha
  have e5 := @nI_eq a b ha hb
  refine h.icmp_lt hd ht (fun c => kt ?_) (fun c => kf ?_)
  all_goals simp only [e1, e2, e3, e4, e5] at c
  all_goals omega
theorem Cl.n_le (h : Cl l cc own nL R K) {a b : Nat} (ha : a < 2 ^ 31) (hb : b < 2 ^ 31) {off : Int} {tgt : Nat} (hd : decode cc pc = .ok (.if_icmp .le off, 3)) (ht : (pc : Int) + off = (tgt : Int)) (kt : a ≤ b → K tgt ls st hs) (kf : b < a → K (pc + 3) ls st hs) : K pc ls (.int (nI b) :: .int (nI a) :: st) hs := by
  have e1 := @nI_leI a b ha hb
  have e2 := @nI_leI b a hb ha
  have e3 := @nI_ltI a b ha hb
  have e4 := @nI_ltI b a hb ha
  have e5 := @nI_eq a b ha hb
  refine h.icmp_le hd ht (fun c => kt ?_) (fun c => kf ?_)
  all_goals simp only [e1, e2, e3, e4, e5] at c
  all_goals omega
theorem Cl.n_gt (h : Cl l cc own nL R K) {a b : Nat} (ha : a < 2 ^ 31) (hb : b < 2 ^ 31) {off : Int} {tgt : Nat} (hd : decode cc pc = .ok (.if_icmp .gt off, 3)) (ht : (pc : Int) + off = (tgt : Int)) (kt : b < a → K tgt ls st hs) (kf : a ≤ b → K (pc + 3) ls st hs) : K pc ls (.int (nI b) :: .int (nI a) :: st) hs := by
  have e1 := @nI_leI a b ha hb
  have e2 := @nI_leI b a hb ha
  have e3 := @nI_ltI a b ha hb
  have e4 := @nI_ltI b a hb ha
  have e5 := @nI_eq a b ha hb
  refine h.icmp_gt hd ht (fun c => kt ?_) (fun c => kf ?_)
  all_goals simp only [e1, e2, e3, e4, e5] at c
  all_goals omega
theorem Cl.n_eq (h : Cl l cc own nL R K) {a b : Nat} (ha : a < 2 ^ 31) (hb : b < 2 ^ 31) {off : Int} {tgt : Nat} (hd : decode cc pc = .ok (.if_icmp .eq off, 3)) (ht : (pc : Int) + off = (tgt : Int)) (kt : a = b → K tgt ls st hs) (kf : a ≠ b → K (pc + 3) ls st hs) : K pc ls (.int (nI b) :: .int (nI a) :: st) hs := by
  have e1 := @nI_leI a b ha hb
  have e2 := @nI_leI b a hb ha
  have e3 := @nI_ltI a b ha hb
  have e4 := @nI_ltI b a hb ha
  have e5 := @nI_eq a b ha hb
  refine h.icmp_eq hd ht (fun c => kt ?_) (fun c => kf ?_)
  all_goals simp only [e1, e2, e3, e4, e5] at c
  all_goals omega
theorem Cl.n_ne (h : Cl l cc own nL R K) {a b : Nat} (ha : a < 2 ^ 31) (hb : b < 2 ^ 31) {off : Int} {tgt : Nat} (hd : decode cc pc = .ok (.if_icmp .ne off, 3)) (ht : (pc : Int) + off = (tgt : Int)) (kt : a ≠ b → K tgt ls st hs) (kf : a = b → K (pc + 3) ls st hs) : K pc ls (.int (nI b) :: .int (nI a) :: st) hs := by
  have e1 := @nI_leI a b ha hb
  have e2 := @nI_leI b a hb ha
  have e3 := @nI_ltI a b ha hb
  have e4 := @nI_ltI b a hb ha
  have e5 := @nI_eq a b ha hb
  refine h.icmp_ne hd ht (fun c => kt ?_) (fun c => kf ?_)
  all_goals simp only [e1, e2, e3, e4, e5] at c
  all_goals omega
theorem Cl.iaN (h : Cl l cc own nL R K) {a n s : Nat} {f : Nat → Int32} (hd : decode cc pc = .ok (.iaload, 1)) (ha : hs[a]? = some (.inl (0, n, .inl f))) (hi : s < n ∧ n < 2 ^ 31) (k : K (pc + 1) ls (.int (f s) :: st) hs) : K pc ls (.int (nI s) :: .ref a :: st) hs :=
  h.iaload hd ha (vp_in_nI hi.1 hi.2) (by rw [nI_clamp (Nat.lt_trans hi.1 hi.2)]; exact k)
theorem Cl.baN (h : Cl l cc own nL R K) {a n s : Nat} {f : Nat → Int32} (hd : decode cc pc = .ok (.baload, 1)) (ha : hs[a]? = some (.inl (1, n, .inl f))) (hi : s < n ∧ n < 2 ^ 31) (k : K (pc + 1) ls (.int (f s) :: st) hs) : K pc ls (.int (nI s) :: .ref a :: st) hs :=
  h.baload hd ha (vp_in_nI hi.1 hi.2) (by rw [nI_clamp (Nat.lt_trans hi.1 hi.2)]; exact k)
theorem Cl.laN (h : Cl l cc own nL R K) {a n s : Nat} {f : Nat → Int64} (hd : decode cc pc = .ok (.laload, 1)) (ha : hs[a]? = some (.inl (2, n, .inr (.inl f)))) (hi : s < n ∧ n < 2 ^ 31) (k : K (pc + 1) ls (.long (f s) :: st) hs) : K pc ls (.int (nI s) :: .ref a :: st) hs :=
  h.laload hd ha (vp_in_nI hi.1 hi.2) (by rw [nI_clamp (Nat.lt_trans hi.1 hi.2)]; exact k)
theorem Cl.isN (h : Cl l cc own nL R K) {a n s v : Nat} {f : Nat → Nat} (hd : decode cc pc = .ok (.iastore, 1)) (ha : hs[a]? = some (.inl (0, n, .inl (fun j => nI (f j))))) (hi : s < n ∧ n < 2 ^ 31) (k : K (pc + 1) ls st (hs.set a (.inl (0, n, .inl (fun j => nI (updN f s v j)))))) : K pc ls (.int (nI v) :: .int (nI s) :: .ref a :: st) hs :=
  h.iastore hd ha (vp_in_nI hi.1 hi.2) (by rw [nI_clamp (Nat.lt_trans hi.1 hi.2), upd_nI]; exact k)
end CLN
