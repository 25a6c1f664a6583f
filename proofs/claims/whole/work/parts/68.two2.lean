/-! one call on both sides: keep, goBack, feed, flag -/
section TWO2
variable {s : Sf} {R : Nat → Nat → Nat} {F : Nat → Nat}
theorem itU_at {base : Nat → Nat} {off : Nat} {g : Nat → Nat} : ∀ n j, itU base off g n j = if off ≤ j ∧ j < off + n then g (j - off) else base j
  | 0, j => by rw [itU, if_neg (by omega)]
  | n + 1, j => by
    rw [itU]
    by_cases e : j = off + n
    · rw [e, updN_s, if_pos (by omega), show off + n - off = n by omega]
    · rw [updN_n e, itU_at n j]
      by_cases c : off ≤ j ∧ j < off + n
      · rw [if_pos c, if_pos (by omega)]
      · rw [if_neg c, if_neg (by omega)]
theorem kpR_at (R : Nat → Nat → Nat) (F : Nat → Nat) (k j : Nat) : kpR R F k j = if k + 15 ≤ j ∧ j < k + 15 + 8 then R 9 (j - (k + 15)) else if k + 3 ≤ j ∧ j < k + 3 + 12 then R 13 (j - (k + 3)) else if j = k + 2 then F 11 else if j = k + 1 then F 10 else if j = k then 1 else R 25 j := by
  rw [kpR, itU_at, itU_at]
  rfl
theorem IR_kp (h : FR s R F) (k : Nat) : IR s.Q k (upR R 25 (kpR R F k)) F := by
  have hm := h.md
  have h8 := hm.2.1
  have h12 := hm.2.2.1
  obtain ⟨q1, q2, q3, q4, q5, q6, q7⟩ := h.2.1
  have e : ∀ j, upR R 25 (kpR R F k) 25 j = kpR R F k j := fun j => rfl
  refine ⟨?_, ?_, fun i hi => ?_, fun i h1 h2 => q3 i h1 h2, fun i hi => ?_, fun a ha => ?_, fun a ha => ?_⟩
  · rw [e, kpR_at, if_neg (by omega), if_neg (by omega), if_neg (by omega), if_pos rfl, q6]
  · rw [e, kpR_at, if_neg (by omega), if_neg (by omega), if_pos rfl, q7]
  · rw [e, kpR_at, if_neg (by omega), if_pos (by omega), show k + 3 + i - (k + 3) = i by omega]
    exact q2 i hi
  · rw [e, kpR_at, if_neg (by omega), if_pos (by omega)]
    exact hm.2.2.2.2.2.2.2.2.1 _
  · rw [e, kpR_at, if_pos (by omega), show k + 15 + a - (k + 15) = a by omega]
    exact q4 a ha
  · rw [e, kpR_at, if_pos (by omega)]
    exact q5 _
theorem IR_ot {J : ClothT} {k : Nat} (hm : MdOK R F) (h : IR J k R F) {f : Nat → Nat} (hf : ∀ j, k ≤ j → j < k + 23 → f j = R 25 j) : IR J k (upR R 25 f) F := by
  have e : ∀ j, upR R 25 f 25 j = f j := fun j => rfl
  have h8 := hm.2.1
  have h12 := hm.2.2.1
  obtain ⟨h1, h2, h3, h4, h5, h6, h7⟩ := h
  refine ⟨by rw [e, hf _ (by omega) (by omega)]; exact h1, by rw [e, hf _ (by omega) (by omega)]; exact h2, fun s hs => by rw [e, hf _ (by omega) (by omega)]; exact h3 s hs, h4, fun s hs => by rw [e, hf _ (by omega) (by omega)]; exact h5 s hs, fun a ha => by rw [e, hf _ (by omega) (by omega)]; exact h6 a ha, fun a ha => by rw [e, hf _ (by omega) (by omega)]; exact h7 a ha⟩
theorem kpR_b (h : FR s R F) (k j : Nat) : kpR R F k j < 2 ^ 31 := by
  have hm := h.md
  have a1 := h.2.1.2.2.2.2.1 (j - (k + 15))
  have a2 := hm.2.2.2.2.2.2.2.2.1 (j - (k + 3))
  have a3 := hm.2.2.2.2.2.1
  have a4 := hm.2.2.2.2.1
  have a5 := h.2.2.2.2.1.2.2.2.1 j
  rw [kpR_at]
  split
  · omega
  · split
    · omega
    · split
      · exact a3
      · split
        · omega
        · split
          · omega
          · exact a5
theorem FR.img (h : FR s R F) {f : Nat → Nat} {a b : ClothT} {k : Nat} (hK : KR a b k (upR R 25 f) F) : FR (s.setJ a b k) (upR R 25 f) F := by
  obtain ⟨hP, hQ, hg, hB, -, hX, h3⟩ := h
  have hk : ∀ j, j ≠ 25 → upR R 25 f j = R j := fun j hj => by unfold upR; rw [if_neg hj]
  exact ⟨hP.cg (fun j hj => hk j (by omega)) (fun _ _ _ => rfl), hQ.cg (fun j hj => hk j (by omega)) (fun _ _ _ => rfl), hg.cg (hk 10 (by decide)) rfl rfl, hB.cg (hk 23 (by decide)) (hk 24 (by decide)) rfl rfl rfl, hK, hX.cg (fun j hj => hk j (by omega)) rfl rfl, h3⟩
theorem or_tb (x k i : Nat) : (x ||| 2 ^ k).testBit i = (x.testBit i || decide (k = i)) := by rw [Nat.testBit_or, Nat.testBit_two_pow]
theorem fr_keep (h : FR s R F) (x : Int32) : (sKeep s.Q (s.I0, s.I1, s.kp) x).1 = (mKeep R F x).1 ∧ FR (s.setJ (sKeep s.Q (s.I0, s.I1, s.kp) x).2.1 (sKeep s.Q (s.I0, s.I1, s.kp) x).2.2.1 (sKeep s.Q (s.I0, s.I1, s.kp) x).2.2.2) (mKeep R F x).2 F := by
  have hK := h.2.2.2.2.1
  obtain ⟨k1, k2, k3, k4, k5, k6, k7, k8⟩ := hK
  have hQ := h.2.1.1
  have e : ∀ f j, upR R 25 f 25 j = f j := fun f j => rfl
  have hkr := h
  by_cases c : inR x 1 = true
  · obtain ⟨j, hj, rfl⟩ := inR_of (by decide) c
    rw [mKeep, if_pos c, show ix (nI j) = j from nI_clamp (by omega)]
    rcases (show j = 0 ∨ j = 1 by omega) with rfl | rfl
    · rw [sKeep, if_pos rfl]
      refine ⟨rfl, h.img ⟨or_b 2 k1 (by decide), hQ, k3, fun j => by rw [e]; exact kpR_b h _ j, ?_, ?_, fun _ => IR_kp h 0, fun z => ?_⟩⟩
      · rw [e, kpR_at, if_neg (by omega), if_neg (by omega), if_neg (by omega), if_neg (by omega), if_pos rfl]
        show (s.kp ||| 2 ^ 0).testBit 0 = true ↔ _
        rw [or_tb]; simp
      · rw [e, kpR_at, if_neg (by omega), if_neg (by omega), if_neg (by omega), if_neg (by omega), if_neg (by omega), ← k6]
        show (s.kp ||| 2 ^ 0).testBit 1 = true ↔ _
        rw [or_tb]; simp
      · have z : (s.kp ||| 2 ^ 0).testBit 1 = true := z
        rw [or_tb] at z
        exact IR_ot h.md (k8 (by simpa using z)) (fun j h1 h2 => by rw [kpR_at, if_neg (by omega), if_neg (by omega), if_neg (by omega), if_neg (by omega), if_neg (by omega)])
    · rw [sKeep, if_neg (by decide), if_pos rfl]
      refine ⟨rfl, h.img ⟨or_b 2 k1 (by decide), k2, hQ, fun j => by rw [e]; exact kpR_b h _ j, ?_, ?_, fun z => ?_, fun _ => IR_kp h 23⟩⟩
      · rw [e, kpR_at, if_neg (by omega), if_neg (by omega), if_neg (by omega), if_neg (by omega), if_neg (by omega), ← k5]
        show (s.kp ||| 2 ^ 1).testBit 0 = true ↔ _
        rw [or_tb]; simp
      · rw [e, kpR_at, if_neg (by omega), if_neg (by omega), if_neg (by omega), if_neg (by omega), if_pos rfl]
        show (s.kp ||| 2 ^ 1).testBit 1 = true ↔ _
        rw [or_tb]; simp
      · have z : (s.kp ||| 2 ^ 1).testBit 0 = true := z
        rw [or_tb] at z
        exact IR_ot h.md (k7 (by simpa using z)) (fun j h1 h2 => by rw [kpR_at, if_neg (by omega), if_neg (by omega), if_neg (by omega), if_neg (by omega), if_neg (by omega)])
  · have c0 : ∀ j, j ≤ 1 → x ≠ nI j := fun j hj ex => c (inR_nI (by decide) hj ex)
    rw [mKeep, if_neg c, sKeep, if_neg (c0 0 (by decide)), if_neg (c0 1 (by decide))]
    exact ⟨rfl, h⟩
theorem fr_gb (h : FR s R F) {J : ClothT} {k : Nat} (hJ : ClothOK J) (hI : IR J k R F) : FR (s.setQ J) (gbR R k) (gbF R F k) := by
  have hm := h.md
  have h8 := hm.2.1
  have h12 := hm.2.2.1
  obtain ⟨i1, i2, i3, i4, i5, i6, i7⟩ := hI
  obtain ⟨q1, q2, q3, q4, q5, q6, q7⟩ := h.2.1
  have hc : mdC R F (gbR R k) (gbF R F k) := (((mdC_rf R F).r13 _).r9 _).f10 _ |>.f11 _
  have b13 : ∀ j, gbR R k 13 j < 131072 := fun j => by
    show rowL (fun i => R 25 (k + 3 + i)) (R 13) 12 j < 131072
    unfold rowL; split
    · next c => exact i5 j c
    · exact hm.2.2.2.2.2.2.2.2.1 j
  have hF : ∀ n, n ≠ 10 → n ≠ 11 → gbF R F k n = F n := hc.2
  have hmd : MdOK (gbR R k) (gbF R F k) := by
    obtain ⟨m1, m2, m3, m4, m5, m6, m7, m8, m9, m10, m11⟩ := hm
    refine ⟨m1, m2, m3, m4, ?_, ?_, m7, m8, b13, m10, m11⟩
    · show R 25 (k + 1) < 4096
      rw [i1]; exact hJ.2.2.1
    · show R 25 (k + 2) < 2 ^ 31
      rw [i2]; exact hJ.2.2.2
  have hP : PR s.P (gbR R k) (gbF R F k) := ⟨h.1.1, hmd, h.1.2.2⟩
  refine h.cloth hc hP ⟨hJ, fun i hi => ?_, i4, fun a ha => ?_, fun j => ?_, ?_, ?_⟩
  · have hi : i < F 8 := hi
    show rowL (fun i => R 25 (k + 3 + i)) (R 13) 12 i = _
    rw [rowL, if_pos (by omega)]
    exact i3 i hi
  · have ha : a < F 7 := ha
    show rowL (fun i => R 25 (k + 15 + i)) (R 9) 8 a = _ ∧ rowL (fun i => R 25 (k + 15 + i)) (R 9) 8 a < F 6
    rw [rowL, if_pos (by omega)]
    exact i6 a ha
  · show rowL (fun i => R 25 (k + 15 + i)) (R 9) 8 j < 4
    unfold rowL; split
    · next c => exact i7 j c
    · exact q5 j
  · exact i1
  · exact i2
theorem fr_back (h : FR s R F) (x : Int32) : (sBack s.Q (s.I0, s.I1, s.kp) x).1 = (mBack R F x).1 ∧ FR (s.setQ (sBack s.Q (s.I0, s.I1, s.kp) x).2) (mBack R F x).2.1 (mBack R F x).2.2 := by
  obtain ⟨k1, k2, k3, k4, k5, k6, k7, k8⟩ := h.2.2.2.2.1
  by_cases c : inR x 1 = true
  · obtain ⟨j, hj, rfl⟩ := inR_of (by decide) c
    rw [mBack, if_pos c, show ix (nI j) = j from nI_clamp (by omega)]
    rcases (show j = 0 ∨ j = 1 by omega) with rfl | rfl
    · rw [sBack, if_pos rfl]
      by_cases c2 : s.kp.testBit 0 = true
      · rw [if_pos c2, if_neg (k5.mp c2)]
        exact ⟨rfl, fr_gb h k2 (k7 c2)⟩
      · rw [if_neg c2, if_pos (Classical.byContradiction (fun z => c2 (k5.mpr z)))]
        exact ⟨rfl, h⟩
    · rw [sBack, if_neg (by decide), if_pos rfl]
      by_cases c2 : s.kp.testBit 1 = true
      · rw [if_pos c2, if_neg (k6.mp c2)]
        exact ⟨rfl, fr_gb h k3 (k8 c2)⟩
      · rw [if_neg c2, if_pos (Classical.byContradiction (fun z => c2 (k6.mpr z)))]
        exact ⟨rfl, h⟩
  · have c0 : ∀ j, j ≤ 1 → x ≠ nI j := fun j hj ex => c (inR_nI (by decide) hj ex)
    rw [mBack, if_neg c, sBack, if_neg (c0 0 (by decide)), if_neg (c0 1 (by decide))]
    exact ⟨rfl, h⟩
theorem two_keep (l : Launch) (L : Nat → Int64) (h : FR s R F) (x : Int32) : Two l yX8_keep cX8_keep 2 yX9_keep cX9_keep 4 [.int x] s R F L := Two.rv (s2 := s.setJ (sKeep s.Q (s.I0, s.I1, s.kp) x).2.1 (sKeep s.Q (s.I0, s.I1, s.kp) x).2.2.1 (sKeep s.Q (s.I0, s.I1, s.kp) x).2.2.2) (R2 := (mKeep R F x).2) (F2 := F) (L2 := L) (ct_X8_keep l s.X s.Q s.I0 s.I1 s.B s.Z s.Y s.W s.V s.U s.T s.g s.P s.S s.kp h.ok x) (ct_X9_keep l R F L x) (fr_keep h x).1 (fr_keep h x).2 (by unfold rmOk; decide) (by unfold rmOk; decide)
theorem two_goBack (l : Launch) (L : Nat → Int64) (h : FR s R F) (x : Int32) : Two l yX8_goBack cX8_goBack 2 yX9_goBack cX9_goBack 4 [.int x] s R F L := Two.rv (s2 := s.setQ (sBack s.Q (s.I0, s.I1, s.kp) x).2) (R2 := (mBack R F x).2.1) (F2 := (mBack R F x).2.2) (L2 := L) (ct_X8_goBack l s.X s.Q s.I0 s.I1 s.B s.Z s.Y s.W s.V s.U s.T s.g s.P s.S s.kp h.ok x) (ct_X9_goBack l R F L h.2.2.2.2.1.2.2.2.1 x) (fr_back h x).1 (fr_back h x).2 (by unfold rmOk; decide) (by unfold rmOk; decide)
theorem fdT_b {f : Nat → Nat} {m : Nat} {y : Int64} {n : Nat} (h : ∀ j, f j < 256) : ∀ i j, fdT f m y n i j < 256
  | 0, j => h j
  | i + 1, j => by
    rw [fdT]
    unfold updN; split
    · exact byV_lt _
    · exact fdT_b h i j
theorem two_feed (l : Launch) (L : Nat → Int64) (h : FR s R F) (x : Int32) (y : Int64) : Two l yX8_feed cX8_feed 4 yX9_feed cX9_feed 5 [.int x, .long y] s R F L := by
  obtain ⟨t1, t2, t3, t4, t5, t6⟩ := h.2.2.2.2.2.1
  have hv : sFeed s.X x = (mFeed R F x y).1 := by
    rw [sFeed, mFeed, ← t1]
    split
    · split <;> rfl
    · rfl
  refine ⟨sFeed s.X x, 2, 1, fun s2 _ => ∃ X2, fdX s.X x y X2 ∧ s2 = s.setX X2, fun a b _ => a = (mFeed R F x y).2.1 ∧ b = (mFeed R F x y).2.2, by unfold rmOk; decide, by unfold rmOk; decide, (ct_X8_feed l s.X s.Q s.I0 s.I1 s.B s.Z s.Y s.W s.V s.U s.T s.g s.P s.S s.kp h.ok x y).mono (fun r h2 ⟨X2, e1, e2, e3⟩ => ⟨e1, s.setX X2, ⟨X2, e2, rfl⟩, Or.inl e3⟩), (ct_X9_feed l R F L (by omega) x y).mono (fun r h2 hp => ⟨by rw [hv]; exact hp.1, _, _, L, ⟨rfl, rfl⟩, hp.2⟩), ?_⟩
  rintro s2 h2 R2 F2 L2 ⟨X2, hX2, rfl⟩ ⟨rfl, rfl⟩
  unfold fdX at hX2
  obtain ⟨hP, hQ, hg, hB, hK, -, h3⟩ := h
  by_cases c : inL x 1 8 = true ∧ s.X.2 0 + ix x ≤ 500
  · rw [if_pos c] at hX2
    obtain ⟨e1, e2⟩ := hX2
    rw [mFeed, if_pos c.1, if_pos (by omega)]
    have e3 := e2 (R 1) t3
    have hk : ∀ j, j ≠ 1 → upR R 1 (fdT (R 1) (F 0) y (ix x) (ix x)) j = R j := fun j hj => by unfold upR; rw [if_neg hj]
    have hF : ∀ k, k ≠ 0 → updN F 0 (F 0 + ix x) k = F k := fun k hk => updN_n hk
    refine ⟨hP.cg (fun j hj => hk j (by omega)) (fun k a1 a2 => hF k (by omega)), hQ.cg (fun j hj => hk j (by omega)) (fun k a1 a2 => hF k (by omega)), hg.cg (hk 10 (by decide)) (hF 6 (by decide)) (hF 7 (by decide)), hB.cg (hk 23 (by decide)) (hk 24 (by decide)) (hF 7 (by decide)) (hF 8 (by decide)) (hF 14 (by decide)), hK.cg (hk 25 (by decide)) (hF 6 (by decide)) (hF 7 (by decide)) (hF 8 (by decide)), ?_, h3⟩
    have x0 : X2.2 0 = s.X.2 0 + ix x := by rw [e1, updN_s]
    have x2 : X2.2 2 = s.X.2 2 := by rw [e1, updN_n (by decide)]
    refine ⟨?_, ?_, ?_, fun j => fdT_b t4 _ j, ?_, t6⟩
    · show F 0 + ix x = X2.2 0
      rw [x0, t1]
    · show X2.2 0 ≤ 500
      rw [x0]; exact c.2
    · show txB X2.1 (fdT (R 1) (F 0) y (ix x) (ix x)) (X2.2 0)
      rw [x0, t1]; exact e3
    · show F 1 = X2.2 2
      rw [x2]; exact t5
  · rw [if_neg c] at hX2
    subst hX2
    have e4 : mFeed R F x y = ((mFeed R F x y).1, R, F) := by
      rw [mFeed]
      by_cases c1 : inL x 1 8 = true
      · rw [if_pos c1, if_neg (fun z => c ⟨c1, by omega⟩)]
      · rw [if_neg c1]
    rw [e4]
    exact ⟨hP, hQ, hg, hB, hK, ⟨t1, t2, t3, t4, t5, t6⟩, h3⟩
/-- a text that was told, on both sides -/
theorem fr_told (h : FR s R F) {To : ToldT} {P2 : PlanT} {g2 : Nat → Nat} {i b i2 q2 b2 : Nat} {R3 : Nat → Nat → Nat} (hTB : TdB To) (hC : TC To) (hx : PlX P2) (hp : tdP P2 To) (hg1 : ∀ a, a < 8 → g2 a = 2 ^ To.2 0 - 1) (hg2 : ∀ a, 8 ≤ a → g2 a = s.g a) (hk : rdK R R3) (hb : rdB R3) (ht : tdM R3 To) : FR ((s.X.1, xF 0 0 NN i b), (P2.1 4, P2.1 1, 0, s.Q.2.2.2), s.I0, s.I1, (s.B.1, s.B.2.1, 0), s.Z, s.Y, s.W, s.V, s.U, s.T, g2, P2, s.P, 0) (tkR R3) (updN (updN (updN (updN (updN (tkF R3 (updN F 1 NN)) 0 0) 2 i2) 3 0) 4 q2) 5 b2) := by
  obtain ⟨p1, p2, p3, p4, p5, p6⟩ := hp
  obtain ⟨m1, m2, m3, m4⟩ := ht
  obtain ⟨c0, c1, c2, c3⟩ := hC
  obtain ⟨t1, t2⟩ := hTB
  obtain ⟨⟨x1, x2, x3, x4, x5, x6, x7, x8⟩, y1, y2⟩ := id hx
  obtain ⟨hP, hQ, hg, hB, hK, hX, hS, hT, hBk⟩ := h
  have hm := hP.2.1
  have z0 : R3 2 0 = To.2 0 := m1 0 (by decide)
  have z1 : R3 2 1 = To.2 1 := m1 1 (by decide)
  have z2 : R3 2 2 = To.2 2 := m1 2 (by decide)
  have z3 : R3 2 3 = To.2 3 := m1 3 (by decide)
  have w0 : P2.2 0 = To.2 0 := p1 0 (by decide)
  have w1 : P2.2 1 = To.2 1 := p1 1 (by decide)
  have w2 : P2.2 2 = To.2 2 := p1 2 (by decide)
  have w3 : P2.2 3 = To.2 3 := p1 3 (by decide)
  have r8 : ∀ k, tkR R3 8 k = if k < To.2 0 then R3 3 k else R 8 k := fun k => by
    rw [← z0, ← hk 8 (by decide)]; rfl
  have r9 : ∀ k, tkR R3 9 k = if k < To.2 1 then R3 4 k else R 9 k := fun k => by
    rw [← z1, ← hk 9 (by decide)]; rfl
  have r10 : ∀ k, tkR R3 10 k = if k < To.2 1 then 2 ^ To.2 0 - 1 else R 10 k := fun k => by
    rw [← z1, ← z0, ← hk 10 (by decide)]; rfl
  have r11 : ∀ k, tkR R3 11 k = if k < 20 then R3 5 k else R 11 k := fun k => by
    rw [← hk 11 (by decide)]; rfl
  have r12 : ∀ k, tkR R3 12 k = if k < 20 then R3 6 k else R 12 k := fun k => by
    rw [← hk 12 (by decide)]; rfl
  have r13 : ∀ k, tkR R3 13 k = if k < 20 then (if k < 12 then R3 7 k else 9) else R 13 k := fun k => by
    rw [← hk 13 (by decide)]; rfl
  have r14 : ∀ k, tkR R3 14 k = if k < 20 then R3 7 k else R 14 k := fun k => by
    rw [← hk 14 (by decide)]; rfl
  have r25 : tkR R3 25 = updN (updN (R 25) 0 0) 23 0 := by rw [← hk 25 (by decide)]; rfl
  have r1 : tkR R3 1 = R 1 := hk 1 (by decide)
  have hc : 2 ^ To.2 0 ≤ 2 ^ 4 := Nat.pow_le_pow_right (by decide) c0
  have seam : ∀ k, k < To.2 2 ∨ (12 ≤ k ∧ k < 12 + To.2 3) → tkR R3 11 k = To.1 2 k ∧ tkR R3 12 k = To.1 3 k ∧ tkR R3 14 k = To.1 4 k := fun k hk2 => by
    obtain ⟨a1, a2, a3⟩ := m4 k hk2
    rw [r11, r12, r14, if_pos (by omega), if_pos (by omega), if_pos (by omega)]
    exact ⟨a1, a2, a3⟩
  have hmd : MdOK (tkR R3) (updN (updN (updN (updN (updN (tkF R3 (updN F 1 NN)) 0 0) 2 i2) 3 0) 4 q2) 5 b2) := by
    obtain ⟨-, -, -, -, -, n6, n7, n8, n9, n10, -⟩ := hm
    refine ⟨?_, ?_, ?_, ?_, (show (0 : Nat) < 4096 by decide), n6, fun k => ?_, fun k => ?_, fun k => ?_, fun k => ?_, fun k hk2 => ?_⟩
    · show R3 2 0 ≤ 4; omega
    · show R3 2 1 ≤ 8; omega
    · show R3 2 2 ≤ 12; omega
    · show R3 2 3 ≤ 8; omega
    · rw [r11]; split
      · exact (hb k).1
      · exact n7 k
    · rw [r12]; split
      · exact (hb k).2.1
      · exact n8 k
    · rw [r13]; split
      · split
        · exact (hb k).2.2
        · decide
      · exact n9 k
    · rw [r14]; split
      · exact (hb k).2.2
      · exact n10 k
    · have hk2 : k < R3 2 2 ∨ (12 ≤ k ∧ k < 12 + R3 2 3) := hk2
      rw [z2, z3] at hk2
      obtain ⟨a1, a2, -⟩ := seam k hk2
      obtain ⟨d1, d2, -⟩ := t2 k hk2
      omega
  have l20 : ∀ k, k < 12 → (if k < 20 then (if k < 12 then R3 7 k else 9) else R 13 k) = R3 7 k := fun k hk2 => by rw [if_pos (by omega), if_pos hk2]
  refine ⟨⟨hx, hmd, ⟨z0.trans w0.symm, z1.trans w1.symm, z2.trans w2.symm, z3.trans w3.symm⟩, fun k hk2 => ?_, fun k => ?_, fun k hk2 => ?_, fun k hk2 => ?_⟩, ⟨⟨y1, y2, (show (0 : Nat) < 4096 by decide), hQ.1.2.2.2⟩, fun k hk2 => ?_, fun k a1 a2 => ?_, fun k hk2 => ?_, fun k => ?_, rfl, hQ.2.2.2.2.2.2⟩, ⟨fun a ha => ?_, fun j => ?_, fun j => ?_⟩, ⟨rfl, Nat.zero_le _, fun k hk2 => absurd hk2 (Nat.not_lt_zero k)⟩, ⟨(show (0 : Nat) < 4 by decide), hK.2.1, hK.2.2.1, fun j => ?_, ?_, ?_, fun z => absurd (show (0 : Nat).testBit 0 = true from z) (by decide), fun z => absurd (show (0 : Nat).testBit 1 = true from z) (by decide)⟩, ⟨rfl, Nat.zero_le _, fun j hj => absurd hj (Nat.not_lt_zero j), fun j => by rw [r1]; exact hX.2.2.2.1 j, rfl, hb⟩, hP.1, hT, ⟨Nat.zero_le _, fun k hk2 => absurd hk2 (Nat.not_lt_zero k)⟩⟩
  · have hk2 : k < R3 2 0 := hk2
    rw [r8, if_pos (by omega), m2 k (by omega)]
    exact (p2 k (by omega)).symm
  · rw [r8]; split
    · next c => rw [m2 k c, ← p2 k c]; exact x7 k
    · exact hP.2.2.2.2.1 k
  · have hk2 : k < R3 2 2 := hk2
    rw [z2] at hk2
    obtain ⟨a1, a2, -⟩ := seam k (Or.inl hk2)
    obtain ⟨d1, d2, d3⟩ := t2 k (Or.inl hk2)
    obtain ⟨e1, e2, e3, e4⟩ := p4 k hk2
    show tkR R3 11 k = P2.1 2 k ∧ P2.1 3 k = (if tkR R3 12 k = 8 then NN else tkR R3 12 k) ∧ P2.1 5 k = 2 ^ tkR R3 11 k ||| 2 ^ tkR R3 12 k ∧ tkR R3 11 k < R3 2 1 ∧ (tkR R3 12 k < R3 2 1 ∨ tkR R3 12 k = 8) ∧ tkR R3 11 k ≠ tkR R3 12 k
    rw [a1, a2, z1]
    exact ⟨e1.symm, e2, e4, d1, d2, d3⟩
  · have hk2 : k < R3 2 3 := hk2
    rw [z3] at hk2
    obtain ⟨a1, a2, a3⟩ := seam (12 + k) (Or.inr ⟨by omega, by omega⟩)
    obtain ⟨d1, d2, d3⟩ := t2 (12 + k) (Or.inr ⟨by omega, by omega⟩)
    obtain ⟨e1, e2⟩ := p5 k hk2
    show P2.1 6 k = 2 ^ tkR R3 11 (12 + k) ||| 2 ^ tkR R3 12 (12 + k) ∧ P2.1 7 k = tkR R3 14 (12 + k) ∧ tkR R3 11 (12 + k) < R3 2 1 ∧ (tkR R3 12 (12 + k) < R3 2 1 ∨ tkR R3 12 (12 + k) = 8) ∧ tkR R3 11 (12 + k) ≠ tkR R3 12 (12 + k)
    rw [a1, a2, a3, z1]
    exact ⟨e1, e2, d1, d2, d3⟩
  · have hk2 : k < R3 2 2 := hk2
    rw [z2] at hk2
    rw [r13, l20 k (by omega), (m4 k (Or.inl hk2)).2.2]
    exact (p4 k hk2).2.2.1.symm
  · have a1 : R3 2 2 ≤ k := a1
    exact p6 k (by omega) a2
  · have hk2 : k < R3 2 1 := hk2
    rw [z1] at hk2
    show tkR R3 9 k = P2.1 1 k ∧ tkR R3 9 k < R3 2 0
    rw [r9, if_pos hk2, m3 k hk2, z0]
    exact ⟨(p3 k hk2).symm, t1 k hk2⟩
  · rw [r9]; split
    · next c => rw [m3 k c]; have := t1 k c; omega
    · exact hQ.2.2.2.2.1 k
  · have ha : a < R3 2 1 := ha
    rw [z1] at ha
    show tkR R3 10 a = g2 a ∧ g2 a < 2 ^ R3 2 0
    have := Nat.one_le_two_pow (n := To.2 0)
    rw [r10, if_pos ha, hg1 a (by omega), z0]
    exact ⟨rfl, by omega⟩
  · rw [r10]; split
    · omega
    · exact hg.2.1 j
  · show g2 j < 16
    by_cases c : j < 8
    · rw [hg1 j c]; omega
    · rw [hg2 j (by omega)]; exact hg.2.2 j
  · rw [r25]
    unfold updN; split
    · decide
    · split
      · decide
      · exact hK.2.2.2.1 j
  · rw [r25]
    constructor
    · intro z; exact absurd (show (0 : Nat).testBit 0 = true from z) (by decide)
    · intro z; exact absurd rfl z
  · rw [r25]
    constructor
    · intro z; exact absurd (show (0 : Nat).testBit 1 = true from z) (by decide)
    · intro z; exact absurd rfl z
theorem fr_fail (h : FR s R F) {P2 : PlanT} {f p i b i2 w2 b2 : Nat} {R2 : Nat → Nat → Nat} (hx : PlX P2) (hk : rdK R R2) (hb : rdB R2) : FR ((s.X.1, xF 0 f p i b), s.Q, s.I0, s.I1, s.B, s.Z, s.Y, s.W, s.V, s.U, s.T, s.g, s.P, P2, s.kp) R2 (updN (updN (updN (updN (updN (updN F 1 p) 0 0) 2 i2) 3 w2) 4 p) 5 b2) := by
  obtain ⟨hP, hQ, hg, hB, hK, hX, hS, hT, hBk⟩ := h
  have hF : ∀ k, 6 ≤ k → updN (updN (updN (updN (updN (updN F 1 p) 0 0) 2 i2) 3 w2) 4 p) 5 b2 k = F k := fun k hk2 => by
    rw [updN_n (by omega), updN_n (by omega), updN_n (by omega), updN_n (by omega), updN_n (by omega), updN_n (by omega)]
  exact ⟨hP.cg (fun j hj => hk j (by omega)) (fun k a1 a2 => hF k a1), hQ.cg (fun j hj => hk j (by omega)) (fun k a1 a2 => hF k a1), hg.cg (hk 10 (by decide)) (hF 6 (by decide)) (hF 7 (by decide)), hB.cg (hk 23 (by decide)) (hk 24 (by decide)) (hF 7 (by decide)) (hF 8 (by decide)) (hF 14 (by decide)), hK.cg (hk 25 (by decide)) (hF 6 (by decide)) (hF 7 (by decide)) (hF 8 (by decide)), ⟨rfl, Nat.zero_le _, fun j hj => absurd hj (Nat.not_lt_zero j), fun j => by rw [hk 1 (by decide)]; exact hX.2.2.2.1 j, rfl, hb⟩, hx, hT, hBk⟩
theorem two_flag (l : Launch) (L : Nat → Int64) (h : FR s R F) : Two l yX8_flag cX8_flag 3 yX9_flag cX9_flag 2 [] s R F L := by
  obtain ⟨t1, t2, t3, t4, t5, t6⟩ := h.2.2.2.2.2.1
  have hS := ct_X8_flag l s.X s.Q s.I0 s.I1 s.B s.Z s.Y s.W s.V s.U s.T s.g s.P s.S s.kp h.ok (R 1) t3 h.2.2.2.2.2.2.1
  have hM := ct_X9_flag l R F L (by omega) t4 t6
  rw [t1] at hM
  cases hC : paT (R 1) (s.X.2 0) 501 T0 0 with
  | error x =>
    obtain ⟨k, p⟩ := x
    rw [hC] at hS hM
    refine ⟨(-10 : Int32) - nI k, 8, 5, fun s2 _ => ∃ (f i b : Nat) (P2 : PlanT), PlX P2 ∧ s2 = ((s.X.1, xF 0 f p i b), s.Q, s.I0, s.I1, s.B, s.Z, s.Y, s.W, s.V, s.U, s.T, s.g, s.P, P2, s.kp), fun a b _ => ∃ (R2 : Nat → Nat → Nat) (i2 w2 b2 : Nat), rdK R R2 ∧ rdB R2 ∧ a = R2 ∧ b = updN (updN (updN (updN (updN (updN F 1 p) 0 0) 2 i2) 3 w2) 4 p) 5 b2, by unfold rmOk; decide, by unfold rmOk; decide, hS.mono (fun r h2 hp => by obtain ⟨f, i, b, P2, e1, e2, e3⟩ := hp; exact ⟨e1, _, ⟨f, i, b, P2, e2, rfl⟩, Or.inl e3⟩), hM.mono (fun r h2 hp => by obtain ⟨R2, i2, w2, b2, e1, e2, e3, e4⟩ := hp; exact ⟨e3, R2, _, L, ⟨R2, i2, w2, b2, e1, e2, rfl, rfl⟩, e4⟩), ?_⟩
    rintro s2 h2 R2 F2 L2 ⟨f, i, b, P2, g1, rfl⟩ ⟨R3, i2, w2, b2, g2, g3, rfl, rfl⟩
    exact fr_fail h g1 g2 g3
  | ok To =>
    rw [hC] at hS hM
    refine ⟨nI (To.2 1), 8, 5, fun s2 _ => ∃ (i b : Nat) (P2 : PlanT) (g2 : Nat → Nat), PlX P2 ∧ tdP P2 To ∧ TC To ∧ (∀ a, a < 8 → g2 a = 2 ^ To.2 0 - 1) ∧ (∀ a, 8 ≤ a → g2 a = s.g a) ∧ s2 = ((s.X.1, xF 0 0 NN i b), (P2.1 4, P2.1 1, 0, s.Q.2.2.2), s.I0, s.I1, (s.B.1, s.B.2.1, 0), s.Z, s.Y, s.W, s.V, s.U, s.T, g2, P2, s.P, 0), fun a b _ => ∃ (R3 : Nat → Nat → Nat) (i2 q2 b2 : Nat), rdK R R3 ∧ rdB R3 ∧ tdM R3 To ∧ a = tkR R3 ∧ b = updN (updN (updN (updN (updN (tkF R3 (updN F 1 NN)) 0 0) 2 i2) 3 0) 4 q2) 5 b2, by unfold rmOk; decide, by unfold rmOk; decide, hS.mono (fun r h2 hp => by obtain ⟨i, b, P2, g2, e1, e2, e3, e4, e5, e6, e7⟩ := hp; exact ⟨e1, _, ⟨i, b, P2, g2, e2, e3, e4, e5, e6, rfl⟩, Or.inr e7⟩), hM.mono (fun r h2 hp => by obtain ⟨R3, i2, q2, b2, e1, e2, e3, e4, e5, e6⟩ := hp; exact ⟨e5, _, _, L, ⟨R3, i2, q2, b2, e1, e2, e3, rfl, rfl⟩, e6⟩), ?_⟩
    rintro s2 h2 R2 F2 L2 ⟨i, b, P2, g2, a1, a2, a3, a4, a5, rfl⟩ ⟨R3, i2, q2, b2, b1, b3, b4, rfl, rfl⟩
    exact fr_told h (pa_TB hC) a3 a1 a2 a4 a5 b1 b3 b4
end TWO2
