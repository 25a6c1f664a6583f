/-! the two sides' answers: drift, left, write, judge -/
section ANS2
variable {P : PlanT} {Q : ClothT} {R : Nat → Nat → Nat} {F : Nat → Nat}
theorem upR_id (R : Nat → Nat → Nat) (k : Nat) : upR R k (R k) = R := by
  funext j
  unfold upR
  split
  next h => rw [h]
  next => rfl
theorem d_rel (hP : PR P R F) (hQ : CR Q R F) : PR P R (dF F) ∧ CR (drQ Q) R (dF F) := by
  have e : F 11 = Q.2.2.2 := hQ.2.2.2.2.2.2
  have hs := seedF_lt Q.2.2.2
  have h1 := hQ.seed hs
  refine ⟨hP.upF (Or.inr (Or.inr (Or.inr (Or.inl ⟨rfl, seedF_lt _⟩)))), ?_⟩
  rw [dF, e]
  exact h1
theorem ys_rel (hP : PR P R F) (hQ : CR Q R F) {a : Nat} (ha : a < F 7) : PR P (ysM a (R, F)).1 (ysM a (R, F)).2 ∧ CR (yrS P a Q) (ysM a (R, F)).1 (ysM a (R, F)).2 := by
  obtain ⟨g6, g7, g8, g9⟩ := hP.2.2.1
  have h8 := hP.2.1.2.1
  have e11 : F 11 = Q.2.2.2 := hQ.2.2.2.2.2.2
  have e10 : F 10 = Q.2.2.1 := hQ.2.2.2.2.2.1
  obtain ⟨p1, q1⟩ := d_rel hP hQ
  obtain ⟨p2, q2⟩ := d_rel p1 q1
  have hM : ysM a (R, F) = if dvF (seedF (F 11)) 3 = 0 ∧ 0 < F 8 then (upR R 13 (updN (R 13) (dvF (seedF (dF F 11)) (F 8)) (if muB R (dF (dF F)) a (dvF (seedF (dF F 11)) (F 8)) (thF (stM R (dF (dF F))) 0) (F 10) = true then 0 else R 13 (dvF (seedF (dF F 11)) (F 8)))), dF (dF F)) else (R, dF F) := rfl
  have hY : yrS P a Q = if dvF (seedF Q.2.2.2) 3 = 0 ∧ 0 < P.2 2 then tuF P a (dvF (seedF (seedF Q.2.2.2)) (P.2 2)) (drQ (drQ Q)) else drQ Q := rfl
  have hd11 : dF F 11 = seedF Q.2.2.2 := by rw [dF, updN_s, e11]
  rw [hM, hY, e11, ← g8, hd11]
  by_cases c : dvF (seedF Q.2.2.2) 3 = 0 ∧ 0 < F 8
  · rw [if_pos c, if_pos c]
    have hds : dvF (seedF (seedF Q.2.2.2)) (F 8) < F 8 := dvF_lt c.2
    generalize dvF (seedF (seedF Q.2.2.2)) (F 8) = d at hds ⊢
    have hm : (upF P a (thF (drQ (drQ Q)).1 0) (drQ (drQ Q)).2.2.1).testBit d = muB R (dF (dF F)) a d (thF (stM R (dF (dF F))) 0) (F 10) := by
      rw [p2.may (by omega) hds (fun s hs => th_v q2 hs), thF_e q2, ← q2.2.2.2.2.2.1]
      rfl
    rw [tuF, hm, ← g8, decide_eq_true hds, Bool.true_and]
    by_cases c2 : muB R (dF (dF F)) a d (thF (stM R (dF (dF F))) 0) (F 10) = true
    · rw [if_pos c2, if_pos c2]
      exact ⟨p2.up13 (fun s => upd_all (p := fun z => z < 131072) hP.b13 (by decide) s), q2.set hds (Nat.zero_le 9)⟩
    · rw [if_neg c2, if_neg c2, updN_id rfl, upR_id]
      exact ⟨p2, q2⟩
  · rw [if_neg c, if_neg c]
    exact ⟨p1, q1⟩
theorem ysM_7 (a : Nat) (X : MdT) : (ysM a X).2 7 = X.2 7 := by
  unfold ysM; split <;> rfl
theorem ylM_7 (X : MdT) : ∀ n, (ylM X n).2 7 = X.2 7
  | 0 => rfl
  | n + 1 => by
    show (ysM n (ylM X n)).2 7 = _
    rw [ysM_7, ylM_7 X n]
theorem yl_rel (hP : PR P R F) (hQ : CR Q R F) : ∀ n, n ≤ F 7 → PR P (ylM (R, F) n).1 (ylM (R, F) n).2 ∧ CR (yrL P Q n) (ylM (R, F) n).1 (ylM (R, F) n).2
  | 0, _ => ⟨hP, hQ⟩
  | n + 1, h => by
    obtain ⟨p, q⟩ := yl_rel hP hQ n (by omega)
    have h7 := ylM_7 (R, F) n
    exact ys_rel p q (by rw [h7]; exact h)
theorem yr_rel (hP : PR P R F) (hQ : CR Q R F) : PR P (yrM (R, F)).1 (yrM (R, F)).2 ∧ CR (yrF P Q) (yrM (R, F)).1 (yrM (R, F)).2 := by
  obtain ⟨g6, g7, g8, g9⟩ := hP.2.2.1
  obtain ⟨p, q⟩ := yl_rel hP hQ (F 7) (Nat.le_refl _)
  obtain ⟨p1, q1⟩ := d_rel p q
  have e : (ylM (R, F) (F 7)).2 11 = (yrL P Q (F 7)).2.2.2 := q.2.2.2.2.2.2
  have hY : yrF P Q = frF P (dvF (seedF (yrL P Q (P.2 1)).2.2.2) 3) (drQ (yrL P Q (P.2 1))) := rfl
  have hM : yrM (R, F) = (frM (ylM (R, F) (F 7)).1 (dF (ylM (R, F) (F 7)).2) (dvF (seedF ((ylM (R, F) (F 7)).2 11)) 3), dF (ylM (R, F) (F 7)).2) := rfl
  rw [hY, hM, e, ← g7]
  exact (a_frays p1 q1 _).2
theorem yn_rel (hP : PR P R F) (hQ : CR Q R F) : ∀ n, PR P (ynM (R, F) n).1 (ynM (R, F) n).2 ∧ CR (yrN P Q n) (ynM (R, F) n).1 (ynM (R, F) n).2
  | 0 => ⟨hP, hQ⟩
  | n + 1 => by
    obtain ⟨p, q⟩ := yn_rel hP hQ n
    exact yr_rel p q
theorem a_drift (hP : PR P R F) (hQ : CR Q R F) (x : Int32) : (sDrift P Q x).1 = (mDrift (R, F) x).1 ∧ PR P (mDrift (R, F) x).2.1 (mDrift (R, F) x).2.2 ∧ CR (sDrift P Q x).2 (mDrift (R, F) x).2.1 (mDrift (R, F) x).2.2 := by
  obtain ⟨g6, g7, g8, g9⟩ := hP.2.2.1
  have hM : mDrift (R, F) x = if inL x 1 99 = true then (if F 7 = 0 then (cN, (R, F)) else (nI (flyF (EM (ynM (R, F) (ix x)).1) 20 (thF (stM (ynM (R, F) (ix x)).1 (ynM (R, F) (ix x)).2) 0)), ynM (R, F) (ix x))) else (cO, (R, F)) := rfl
  rw [hM, sDrift, ← g7]
  by_cases c1 : inL x 1 99 = true
  · rw [if_pos c1, if_pos c1]
    by_cases c2 : F 7 = 0
    · rw [if_pos c2, if_pos c2]
      exact ⟨rfl, hP, hQ⟩
    · rw [if_neg c2, if_neg c2]
      obtain ⟨p, q⟩ := yn_rel hP hQ (ix x)
      exact ⟨by rw [p.fly (fun s hs => th_v q hs), thF_e q], p, q⟩
  · rw [if_neg c1, if_neg c1]
    exact ⟨rfl, hP, hQ⟩
def LR (g : Nat → Nat) (R : Nat → Nat → Nat) (F : Nat → Nat) : Prop := (∀ a, a < F 7 → R 10 a = g a ∧ g a < 2 ^ F 6) ∧ (∀ j, R 10 j < 16) ∧ ∀ j, g j < 16
theorem a_left {g : Nat → Nat} (hP : PR P R F) (hQ : CR Q R F) (hg : LR g R F) (x y : Int32) : (sLeft P g x y).1 = (mLeft R F x y).1 ∧ PR P (mLeft R F x y).2 F ∧ CR Q (mLeft R F x y).2 F ∧ LR (sLeft P g x y).2 (mLeft R F x y).2 F := by
  obtain ⟨g6, g7, g8, g9⟩ := hP.2.2.1
  have h8 := hP.2.1.2.1
  have h4 := hP.2.1.1
  have hp : 2 ^ F 6 ≤ 2 ^ 4 := Nat.pow_le_pow_right (by decide) h4
  rw [sLeft, mLeft, ← g7, ← g6]
  by_cases c1 : (inB x (F 7) && inB y (2 ^ F 6)) = true
  · rw [if_pos c1, if_pos c1]
    obtain ⟨c2, c3⟩ := Bool.and_eq_true_iff.mp c1
    obtain ⟨a, ha, rfl⟩ := inB_of c2 (by omega)
    obtain ⟨j, hj, rfl⟩ := inB_of c3 (by omega)
    rw [show ix (nI a) = a from nI_clamp (by omega), show ix (nI j) = j from nI_clamp (by omega)]
    refine ⟨?_, hP.up9 (Or.inr (Or.inr (Or.inl rfl))), hQ.up1 (Or.inr (Or.inl rfl)), fun b hb => ?_, fun b => upd_all (p := fun z => z < 16) hg.2.1 (by omega) b, fun b => upd_all (p := fun z => z < 16) hg.2.2 (by omega) b⟩
    · show nI (g a) = nI (R 10 a)
      rw [(hg.1 a ha).1]
    · show updN (R 10) a j b = updN g a j b ∧ updN g a j b < 2 ^ F 6
      rw [updN_if, updN_if]
      split
      · exact ⟨rfl, hj⟩
      · exact hg.1 b hb
  · rw [if_neg c1, if_neg c1]
    exact ⟨rfl, hP, hQ, hg⟩
def BR (B : BookT) (R : Nat → Nat → Nat) (F : Nat → Nat) : Prop := F 14 = B.2.2 ∧ F 14 ≤ 30 ∧ ∀ i, i < F 14 → R 23 i = B.1 i ∧ R 24 i = B.2.1 i ∧ B.1 i < F 7 ∧ B.2.1 i < F 8
theorem a_write {B : BookT} (hP : PR P R F) (hQ : CR Q R F) (hB : BR B R F) (x y : Int32) : (sWrite P B x y).1 = (mWrite R F x y).1 ∧ PR P (mWrite R F x y).2.1 (mWrite R F x y).2.2 ∧ CR Q (mWrite R F x y).2.1 (mWrite R F x y).2.2 ∧ BR (sWrite P B x y).2 (mWrite R F x y).2.1 (mWrite R F x y).2.2 := by
  obtain ⟨g6, g7, g8, g9⟩ := hP.2.2.1
  have h8 := hP.2.1.2.1
  have h12 := hP.2.1.2.2.1
  obtain ⟨b1, b2, b3⟩ := hB
  rw [sWrite, mWrite, ← g7, ← g8, ← b1]
  by_cases c1 : (inB x (F 7) && inB y (F 8)) = true
  · rw [if_pos c1, if_pos c1]
    obtain ⟨c2, c3⟩ := Bool.and_eq_true_iff.mp c1
    obtain ⟨a, ha, rfl⟩ := inB_of c2 (by omega)
    obtain ⟨j, hj, rfl⟩ := inB_of c3 (by omega)
    rw [show ix (nI a) = a from nI_clamp (by omega), show ix (nI j) = j from nI_clamp (by omega)]
    by_cases c4 : F 14 = 30
    · rw [if_neg (by omega), if_pos c4]
      exact ⟨rfl, hP, hQ, b1, b2, b3⟩
    · rw [if_pos (show F 14 < 30 by omega), if_neg c4]
      refine ⟨rfl, ((hP.up9 (k := 23) (Or.inr (Or.inr (Or.inr (by decide))))).up9 (k := 24) (Or.inr (Or.inr (Or.inr (by decide))))).upF (Or.inr (Or.inr (Or.inr (Or.inr (by decide))))), ((hQ.up1 (k := 23) (Or.inr (Or.inr (by decide)))).up1 (k := 24) (Or.inr (Or.inr (by decide)))).upF (Or.inr (Or.inr (by decide))), ?_, ?_, fun i hi => ?_⟩
      · show updN F 14 (F 14 + 1) 14 = F 14 + 1
        rw [updN_s]
      · show updN F 14 (F 14 + 1) 14 ≤ 30
        rw [updN_s]; omega
      · have hi : i < updN F 14 (F 14 + 1) 14 := hi
        rw [updN_s] at hi
        show updN (R 23) (F 14) a i = updN B.1 (F 14) a i ∧ updN (R 24) (F 14) j i = updN B.2.1 (F 14) j i ∧ updN B.1 (F 14) a i < updN F 14 (F 14 + 1) 7 ∧ updN B.2.1 (F 14) j i < updN F 14 (F 14 + 1) 8
        rw [updN_n (show (7 : Nat) ≠ 14 by decide), updN_n (show (8 : Nat) ≠ 14 by decide)]
        by_cases e : i = F 14
        · subst e
          rw [updN_s, updN_s, updN_s, updN_s]
          exact ⟨rfl, rfl, ha, hj⟩
        · rw [updN_n e, updN_n e, updN_n e, updN_n e]
          exact b3 i (by omega)
  · rw [if_neg c1, if_neg c1]
    exact ⟨rfl, hP, hQ, b1, b2, b3⟩
theorem a_judge {B : BookT} (hP : PR P R F) (hQ : CR Q R F) (hB : BR B R F) : jgL B P (thF Q.1 0) Q.2.2.1 B.2.2 = jgM R F (thF (stM R F) 0) (F 14) := by
  obtain ⟨b1, b2, b3⟩ := hB
  have h8 := hP.2.1.2.1
  have hv : ∀ s, (thF (stM R F) 0).testBit s = true → s < F 8 := fun s hs => thF_v hs
  rw [← b1, thF_e hQ, ← hQ.2.2.2.2.2.1]
  generalize thF (stM R F) 0 = m at hv
  have hs : ∀ k, k ≤ F 14 → smL B m k = smM R F m k ∧ ∀ s, (smM R F m k).testBit s = true → s < F 8 := by
    intro k
    induction k with
    | zero => intro _; exact ⟨rfl, hv⟩
    | succ k ih =>
      intro hk
      obtain ⟨e1, e2⟩ := ih (by omega)
      have e3 := (b3 k (by omega)).2.1
      rw [smL, smM, e1, e3]
      exact ⟨rfl, fun s hs => e2 s (andn_v hs)⟩
  have key : ∀ k, k ≤ F 14 → jgL B P m (F 10) k = jgM R F m k := by
    intro k
    induction k with
    | zero => intro _; rfl
    | succ k ih =>
      intro hk
      obtain ⟨e1, e2⟩ := hs k (by omega)
      obtain ⟨c1, c2, c3, c4⟩ := b3 k (by omega)
      rw [jgL, jgM, ih (by omega), e1, c1, c2, hP.may (by omega) c4 e2]
  exact key (F 14) (Nat.le_refl _)
end ANS2
