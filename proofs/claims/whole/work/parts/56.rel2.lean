/-! the two sides' answers: what is told, flies, is unpicked, sewn, hemmed, frayed, dyed, drifts -/
section ANS
variable {P : PlanT} {Q : ClothT} {R : Nat → Nat → Nat} {F : Nat → Nat}
theorem sm_cg {f g : Nat → Nat} : ∀ n, (∀ i, i < n → f i = g i) → sm f n = sm g n
  | 0, _ => rfl
  | n + 1, h => by rw [sm, sm, sm_cg n (fun i hi => h i (by omega)), h n (by omega)]
theorem orF_cg {f g : Nat → Nat} : ∀ n, (∀ i, i < n → f i = g i) → orF f n = orF g n
  | 0, _ => rfl
  | n + 1, h => by rw [orF, orF, orF_cg n (fun i hi => h i (by omega)), h n (by omega)]
theorem th_v (hQ : CR Q R F) {w s : Nat} (h : (thF Q.1 w).testBit s = true) : s < F 8 := by
  rw [thF_e hQ] at h
  exact thF_v h
theorem a_told {X : TextT} {B : BookT} (hP : PR P R F) (hQ : CR Q R F) (hX : F 0 = X.2 0) (hB : F 14 = B.2.2) (x : Int32) : sTold X P Q B x = mTold R F x := by
  obtain ⟨g6, g7, g8, g9⟩ := hP.2.2.1
  have hc : costF Q P (P.2 1) = sumM R (F 7) := by
    rw [costF, sumM, ← g7]
    refine sm_cg _ (fun a ha => ?_)
    obtain ⟨e1, e2⟩ := hQ.2.2.2.1 a ha
    rw [priceF, ← g6, ← e1, if_pos e2]
    exact (hP.2.2.2.1 _ e2).symm
  rw [sTold, mTold, hc, ← g6, ← g7, ← g8, ← g9, hX, hB, thF_e hQ, hQ.2.2.2.2.2.1]
theorem inR_nI {x : Int32} {n : Nat} (hn : n < 2 ^ 30) {j : Nat} (hj : j ≤ n) (e : x = nI j) : inR x n = true := by
  rw [e, inR, inB_nI (by omega)]
  exact decide_eq_true (by omega)
theorem a_seam (hP : PR P R F) (hQ : CR Q R F) (x y : Int32) : sSeam P Q x y = mSeam R F x y := by
  obtain ⟨g6, g7, g8, g9⟩ := hP.2.2.1
  have h12 := hP.2.1.2.2.1
  rw [sSeam, mSeam, ← g8]
  by_cases c1 : inB x (F 8) = true
  · rw [if_pos c1, if_pos c1]
    obtain ⟨j, hj, rfl⟩ := inB_of c1 (by omega)
    rw [show ix (nI j) = j from nI_clamp (by omega)]
    obtain ⟨e1, e2, -⟩ := hP.2.2.2.2.2.1 j hj
    have e3 := hQ.2.1 j hj
    by_cases c2 : inR y 3 = true
    · rw [if_pos c2]
      obtain ⟨k, hk, rfl⟩ := inR_of (by decide) c2
      rw [show ix (nI k) = k from nI_clamp (by omega)]
      have hk4 : k = 0 ∨ k = 1 ∨ k = 2 ∨ k = 3 := by omega
      rcases hk4 with rfl | rfl | rfl | rfl
      · rw [if_pos rfl, if_pos rfl, e1]
      · rw [if_neg (by decide), if_pos rfl, if_neg (by decide), if_pos rfl, e2]
        split <;> rfl
      · rw [if_neg (by decide), if_neg (by decide), if_pos rfl, if_neg (by decide), if_neg (by decide), if_pos rfl, e3]
      · rw [if_neg (by decide), if_neg (by decide), if_neg (by decide), if_pos rfl, if_neg (by decide), if_neg (by decide), if_neg (by decide), hQ.2.2.2.2.2.1]
    · rw [if_neg c2, if_neg (fun e => c2 (inR_nI (by decide) (by decide) e)), if_neg (fun e => c2 (inR_nI (by decide) (by decide) e)), if_neg (fun e => c2 (inR_nI (by decide) (by decide) e)), if_neg (fun e => c2 (inR_nI (by decide) (by decide) e))]
  · rw [if_neg c1, if_neg c1]
theorem a_strip {g : Nat → Nat} (hP : PR P R F) (hQ : CR Q R F) (hg : ∀ a, a < F 7 → R 10 a = g a) (x y : Int32) : sStrip P Q g x y = mStrip R F x y := by
  obtain ⟨g6, g7, g8, g9⟩ := hP.2.2.1
  have h8 := hP.2.1.2.1
  rw [sStrip, mStrip, ← g7]
  by_cases c1 : inB x (F 7) = true
  · rw [if_pos c1, if_pos c1]
    obtain ⟨j, hj, rfl⟩ := inB_of c1 (by omega)
    rw [show ix (nI j) = j from nI_clamp (by omega), hP.cross (fun s hs => th_v hQ hs), hP.near (by omega) (fun s hs => th_v hQ hs), thF_e hQ, (hQ.2.2.2.1 j hj).1, hg j hj]
  · rw [if_neg c1, if_neg c1]
theorem a_flies (hP : PR P R F) (hQ : CR Q R F) (x : Int32) : (@ite _ (0 ≤ x.toInt ∧ x.toInt ≤ 9) (Classical.propDecidable _) (nI (flyF (P.1 5) 12 (thF Q.1 (ix x)))) cO) = (if inR x 9 = true then nI (flyF (EM R) 20 (thF (stM R F) (ix x))) else cO) := by
  have e : inR x 9 = decide (0 ≤ x.toInt ∧ x.toInt ≤ 9) := by
    unfold inR inB
    congr 1
    apply propext
    omega
  by_cases c : 0 ≤ x.toInt ∧ x.toInt ≤ 9
  · rw [if_pos c, if_pos (by rw [e]; exact decide_eq_true c), hP.fly (fun s hs => th_v hQ hs), thF_e hQ]
  · rw [if_neg c, if_neg (by rw [e, decide_eq_false c]; decide)]
/-- a new row of strengths on both sides -/
theorem PR.up13 (h : PR P R F) {f : Nat → Nat} (hf : ∀ s, f s < 131072) : PR P (upR R 13 f) F := ⟨h.1, md13_ok h.2.1 hf, h.2.2.1, h.2.2.2.1, h.2.2.2.2.1, h.2.2.2.2.2.1, h.2.2.2.2.2.2⟩
theorem CR.up (h : CR Q R F) {q f : Nat → Nat} (hq : ∀ s, q s ≤ 9) (h1 : ∀ s, s < F 8 → f s = q s) (h2 : ∀ s, F 8 ≤ s → s < 12 → q s = 0) : CR (q, Q.2) (upR R 13 f) F := ⟨⟨hq, h.1.2.1, h.1.2.2.1, h.1.2.2.2⟩, h1, h2, h.2.2.2.1, h.2.2.2.2.1, h.2.2.2.2.2.1, h.2.2.2.2.2.2⟩
theorem CR.set (h : CR Q R F) {s v : Nat} (hs : s < F 8) (hv : v ≤ 9) : CR (updN Q.1 s v, Q.2) (upR R 13 (updN (R 13) s v)) F := by
  refine h.up (fun j => upd_all (p := fun z => z ≤ 9) h.1.1 hv j) (fun j hj => ?_) (fun j hj1 hj2 => ?_)
  · rw [updN_if, updN_if, h.2.1 j hj]
  · rw [updN_n (by omega)]
    exact h.2.2.1 j hj1 hj2
theorem PR.b13 (h : PR P R F) (s : Nat) : R 13 s < 131072 := h.2.1.2.2.2.2.2.2.2.2.1 s
/-- an answer with the two new states behind it -/
theorem a_unpick (hP : PR P R F) (hQ : CR Q R F) (x y : Int32) : (sUnp P Q x y).1 = (mUnp R F x y).1 ∧ PR P (mUnp R F x y).2 F ∧ CR (sUnp P Q x y).2 (mUnp R F x y).2 F := by
  obtain ⟨g6, g7, g8, g9⟩ := hP.2.2.1
  have h8 := hP.2.1.2.1
  have h12 := hP.2.1.2.2.1
  rw [sUnp, mUnp, mayU, ← g7, ← g8]
  by_cases c1 : (inB x (F 7) && inB y (F 8)) = true
  · rw [if_pos c1, if_pos c1]
    obtain ⟨c2, c3⟩ := Bool.and_eq_true_iff.mp c1
    obtain ⟨a, ha, rfl⟩ := inB_of c2 (by omega)
    obtain ⟨j, hj, rfl⟩ := inB_of c3 (by omega)
    rw [show ix (nI a) = a from nI_clamp (by omega), show ix (nI j) = j from nI_clamp (by omega), hP.may (by omega) hj (fun s hs => th_v hQ hs), thF_e hQ, hQ.2.2.2.2.2.1]
    by_cases c4 : muB R F a j (thF (stM R F) 0) Q.2.2.1 = true
    · rw [if_pos c4, if_pos c4]
      have h1 := hQ.set hj (Nat.zero_le 9)
      have h2 := hP.up13 (f := updN (R 13) j 0) (fun s => upd_all (p := fun z => z < 131072) hP.b13 (by decide) s)
      refine ⟨?_, h2, h1⟩
      show nI (cd (thF (updN Q.1 j 0) 0)) = _
      rw [show thF (updN Q.1 j 0) 0 = thF (updN Q.1 j 0, Q.2).1 0 from rfl, thF_e h1]
    · rw [if_neg c4, if_neg c4]
      exact ⟨rfl, hP, hQ⟩
  · rw [if_neg c1, if_neg c1]
    exact ⟨rfl, hP, hQ⟩
theorem a_sew (hP : PR P R F) (hQ : CR Q R F) (x y : Int32) : (sSew P Q x y).1 = (mSew R F x y).1 ∧ PR P (mSew R F x y).2 F ∧ CR (sSew P Q x y).2 (mSew R F x y).2 F := by
  obtain ⟨g6, g7, g8, g9⟩ := hP.2.2.1
  have h12 := hP.2.1.2.2.1
  rw [sSew, mSew, ← g8]
  by_cases c1 : inB x (F 8) = true
  · rw [if_pos c1, if_pos c1]
    obtain ⟨j, hj, rfl⟩ := inB_of c1 (by omega)
    rw [show ix (nI j) = j from nI_clamp (by omega)]
    by_cases c2 : inR y 9 = true
    · rw [if_pos c2, if_pos c2]
      obtain ⟨k, hk, rfl⟩ := inR_of (by decide) c2
      rw [show ix (nI k) = k from nI_clamp (by omega)]
      refine ⟨?_, hP.up13 (fun s => upd_all (p := fun z => z < 131072) hP.b13 (by omega) s), hQ.set hj hk⟩
      show nI (Q.1 j) = nI (R 13 j)
      rw [hQ.2.1 j hj]
    · rw [if_neg c2, if_neg c2]
      exact ⟨rfl, hP, hQ⟩
  · rw [if_neg c1, if_neg c1]
    exact ⟨rfl, hP, hQ⟩
/-- a number of the reference that both relations leave alone, or hems and seed -/
theorem PR.upF (h : PR P R F) {k v : Nat} (hk : k = 0 ∨ k = 1 ∨ (k = 10 ∧ v < 4096) ∨ (k = 11 ∧ v < 2 ^ 31) ∨ 12 ≤ k) : PR P R (updN F k v) := by
  have e : ∀ j, 6 ≤ j → j ≤ 9 → updN F k v j = F j := fun j h1 h2 => updN_n (by omega)
  obtain ⟨hx, ⟨m1, m2, m3, m4, m5, m6, m7, m8, m9, m10, m11⟩, ⟨g6, g7, g8, g9⟩, h3, h4, h5, h6⟩ := h
  unfold PR MdOK vS
  rw [e 6 (by omega) (by omega), e 7 (by omega) (by omega), e 8 (by omega) (by omega), e 9 (by omega) (by omega)]
  refine ⟨hx, ⟨m1, m2, m3, m4, ?_, ?_, m7, m8, m9, m10, m11⟩, ⟨g6, g7, g8, g9⟩, h3, h4, h5, h6⟩
  · rw [updN_if]; split <;> omega
  · rw [updN_if]; split <;> omega
theorem CR.upF (h : CR Q R F) {k v : Nat} (hk : k = 0 ∨ k = 1 ∨ 12 ≤ k) : CR Q R (updN F k v) := by
  have e : ∀ j, 6 ≤ j → j ≤ 11 → updN F k v j = F j := fun j h1 h2 => updN_n (by omega)
  unfold CR
  rw [e 6 (by omega) (by omega), e 7 (by omega) (by omega), e 8 (by omega) (by omega), e 10 (by omega) (by omega), e 11 (by omega) (by omega)]
  exact h
theorem CR.hem (h : CR Q R F) {v : Nat} (hv : v < 4096) : CR (Q.1, Q.2.1, v, Q.2.2.2) R (updN F 10 v) := by
  obtain ⟨h1, h2, h3, h4, h5, h6, h7⟩ := h
  exact ⟨⟨h1.1, h1.2.1, hv, h1.2.2.2⟩, h2, h3, h4, h5, rfl, h7⟩
theorem CR.seed (h : CR Q R F) {v : Nat} (hv : v < 2 ^ 31) : CR (Q.1, Q.2.1, Q.2.2.1, v) R (updN F 11 v) := by
  obtain ⟨h1, h2, h3, h4, h5, h6, h7⟩ := h
  exact ⟨⟨h1.1, h1.2.1, h1.2.2.1, hv⟩, h2, h3, h4, h5, h6, rfl⟩
theorem a_hem (hP : PR P R F) (hQ : CR Q R F) (x : Int32) (b : Bool) : (sHem P Q x b).1 = (mHem F x b).1 ∧ PR P R (mHem F x b).2 ∧ CR (sHem P Q x b).2 R (mHem F x b).2 := by
  obtain ⟨g6, g7, g8, g9⟩ := hP.2.2.1
  have h12 := hP.2.1.2.2.1
  have hh := hP.2.1.2.2.2.2.1
  have e10 := hQ.2.2.2.2.2.1
  rw [sHem, mHem, ← g8]
  by_cases c1 : inB x (F 8) = true
  · rw [if_pos c1, if_pos c1]
    obtain ⟨j, hj, rfl⟩ := inB_of c1 (by omega)
    rw [show ix (nI j) = j from nI_clamp (by omega), e10]
    have hp : 2 ^ j < 2 ^ 12 := Nat.pow_lt_pow_right (by decide) (by omega)
    have hv : (if b = true then Q.2.2.1 ||| 2 ^ j else andn Q.2.2.1 (2 ^ j)) < 4096 := by
      split
      · exact or_b 12 (by omega) hp
      · exact andn_b (by omega)
    exact ⟨rfl, hP.upF (Or.inr (Or.inr (Or.inl ⟨rfl, hv⟩))), hQ.hem hv⟩
  · rw [if_neg c1, if_neg c1]
    exact ⟨rfl, hP, hQ⟩
theorem a_seed (hP : PR P R F) (hQ : CR Q R F) (x : Int32) : (sSeed Q x).1 = (mSeed F x).1 ∧ PR P R (mSeed F x).2 ∧ CR (sSeed Q x).2 R (mSeed F x).2 := by
  rw [sSeed, mSeed]
  by_cases c1 : x.toInt < 0
  · rw [if_pos c1, if_pos c1]
    exact ⟨rfl, hP, hQ⟩
  · rw [if_neg c1, if_neg c1]
    obtain ⟨j, hj, rfl⟩ := nI_of (x := x) (by rw [lt0_iff]; exact c1)
    rw [show ix (nI j) = j from nI_clamp hj, hQ.2.2.2.2.2.2]
    exact ⟨rfl, hP.upF (Or.inr (Or.inr (Or.inr (Or.inl ⟨rfl, hj⟩)))), hQ.seed hj⟩
theorem PR.up9 (h : PR P R F) {f : Nat → Nat} {k : Nat} (hk : k = 1 ∨ k = 9 ∨ k = 10 ∨ 15 ≤ k) : PR P (upR R k f) F := by
  have e : ∀ j, (j = 8 ∨ (11 ≤ j ∧ j ≤ 14)) → upR R k f j = R j := fun j hj => by unfold upR; rw [if_neg (by omega)]
  unfold PR MdOK
  rw [e 8 (by omega), e 11 (by omega), e 12 (by omega), e 13 (by omega), e 14 (by omega)]
  exact h
theorem CR.up1 (h : CR Q R F) {f : Nat → Nat} {k : Nat} (hk : k = 1 ∨ k = 10 ∨ 15 ≤ k) : CR Q (upR R k f) F := by
  have e : ∀ j, (j = 9 ∨ j = 13) → upR R k f j = R j := fun j hj => by unfold upR; rw [if_neg (by omega)]
  unfold CR
  rw [e 9 (by omega), e 13 (by omega)]
  exact h
theorem a_dye (hP : PR P R F) (hQ : CR Q R F) (x y : Int32) : (sDye P Q x y).1 = (mDye R F x y).1 ∧ PR P (mDye R F x y).2 F ∧ CR (sDye P Q x y).2 (mDye R F x y).2 F := by
  obtain ⟨g6, g7, g8, g9⟩ := hP.2.2.1
  have h8 := hP.2.1.2.1
  have h4 := hP.2.1.1
  rw [sDye, mDye, ← g7, ← g6]
  by_cases c1 : (inB x (F 7) && inB y (F 6)) = true
  · rw [if_pos c1, if_pos c1]
    obtain ⟨c2, c3⟩ := Bool.and_eq_true_iff.mp c1
    obtain ⟨a, ha, rfl⟩ := inB_of c2 (by omega)
    obtain ⟨j, hj, rfl⟩ := inB_of c3 (by omega)
    rw [show ix (nI a) = a from nI_clamp (by omega), show ix (nI j) = j from nI_clamp (by omega)]
    refine ⟨?_, hP.up9 (Or.inr (Or.inl rfl)), ?_⟩
    · show nI (Q.2.1 a) = nI (R 9 a)
      rw [(hQ.2.2.2.1 a ha).1]
    · obtain ⟨h1, h2, h3, h4', h5, h6, h7⟩ := hQ
      refine ⟨⟨h1.1, fun b => upd_all (p := fun z => z < 4) h1.2.1 (by omega) b, h1.2.2.1, h1.2.2.2⟩, h2, h3, fun b hb => ?_, fun b => upd_all (p := fun z => z < 4) h5 (by omega) b, h6, h7⟩
      show updN (R 9) a j b = updN Q.2.1 a j b ∧ updN (R 9) a j b < F 6
      rw [updN_if, updN_if]
      split
      · exact ⟨rfl, hj⟩
      · exact h4' b hb
  · rw [if_neg c1, if_neg c1]
    exact ⟨rfl, hP, hQ⟩
theorem PR.ls (h : PR P R F) {m : Nat} (hm : ∀ s, m.testBit s = true → s < F 8) : lsF P m = lsM R F m := by
  rw [lsF, lsM, ← h.2.2.1.2.1]
  refine orF_cg _ (fun a ha => ?_)
  rw [lsG, lsH, h.cross hm]
theorem so_v {a m s : Nat} (h : (bs (F 8) (soP R a m)).testBit s = true) : s < F 8 ∧ m.testBit s = true := by
  rw [bs_tb, soP] at h
  simp only [Bool.and_eq_true, decide_eq_true_eq] at h
  exact ⟨h.1, h.2.1⟩
theorem lsM_v {m s : Nat} (h : (lsM R F m).testBit s = true) : s < F 8 ∧ m.testBit s = true := by
  rw [lsM, orF_tb] at h
  obtain ⟨a, -, ha⟩ := h
  unfold lsH at ha
  split at ha
  · exact so_v ha
  · simp at ha
theorem a_frays (hP : PR P R F) (hQ : CR Q R F) (w : Nat) : frR P w Q = andn (thF (stM R F) 0) (thF (stM (frM R F w) F) 0) ∧ PR P (frM R F w) F ∧ CR (frF P w Q) (frM R F w) F := by
  have h12 := hP.2.1.2.2.1
  have hls : lsF P (thF Q.1 0) = lsM R F (thF (stM R F) 0) := by rw [hP.ls (fun s hs => th_v hQ hs), thF_e hQ]
  have hC : CR (frF P w Q) (frM R F w) F := by
    rw [frF, frM, hls]
    refine hQ.up (fun s => ?_) (fun s hs => ?_) (fun s h1 h2 => ?_)
    · have := hQ.1.1 s
      unfold frG; split <;> omega
    · unfold frG
      rw [hQ.2.1 s hs, decide_eq_true hs, decide_eq_true (show s < 12 by omega)]
    · have := hQ.2.2.1 s h1 h2
      unfold frG; split <;> omega
  refine ⟨?_, hP.up13 (fun s => frG9 hP.b13 s), hC⟩
  have tb1 : ∀ f : Nat → Nat, ∀ i, (thF f 0).testBit i = (decide (i < 12) && decide (0 < f i)) := fun f i => by
    rw [thF, bs_tb, thP]; simp
  have hfr : (frF P w Q).1 = frG Q.1 (lsM R F (thF (stM R F) 0)) w 12 := by rw [frF, hls]
  have hv : ∀ i, (lsM R F (thF (stM R F) 0)).testBit i = true → 0 < Q.1 i := fun i hl => by
    have := (lsM_v hl).2
    rw [← thF_e hQ, tb1] at this
    simp only [Bool.and_eq_true, decide_eq_true_eq] at this
    exact this.2
  rw [← thF_e hC, frR, hls, hfr]
  rw [← thF_e hQ] at hv ⊢
  generalize lsM R F (thF Q.1 0) = g at hv ⊢
  apply Nat.eq_of_testBit_eq
  intro i
  have hvi := hv i
  rw [bs_tb, andn_tb, tb1, tb1, frP]
  by_cases hi : i < 12
  · rw [decide_eq_true hi]
    unfold frG
    cases hl : g.testBit i
    · simp
    · have h0 := hvi hl
      simp only [hi, decide_true, Bool.and_self, if_true, h0, Bool.true_and]
      by_cases e : Q.1 i - w = 0
      · simp [e]
      · have : 0 < Q.1 i - w := by omega
        simp [e, this]
  · simp [hi]
theorem a_fray (hP : PR P R F) (hQ : CR Q R F) (x : Int32) : (sFray P Q x).1 = (mFray R F x).1 ∧ PR P (mFray R F x).2 F ∧ CR (sFray P Q x).2 (mFray R F x).2 F := by
  rw [sFray, mFray]
  by_cases c1 : inR x 9 = true
  · rw [if_pos c1, if_pos c1]
    obtain ⟨e1, e2, e3⟩ := a_frays hP hQ (ix x)
    exact ⟨by rw [← e1], e2, e3⟩
  · rw [if_neg c1, if_neg c1]
    exact ⟨rfl, hP, hQ⟩
end ANS
