/-! one call on both sides: 27 of the 29 -/
section TWO
variable {s : Sf} {R : Nat → Nat → Nat} {F : Nat → Nat}
theorem mUnp_c (R : Nat → Nat → Nat) (F : Nat → Nat) (x y : Int32) : mdC R F (mUnp R F x y).2 F := by
  unfold mUnp
  split
  · split
    · exact (mdC_rf R F).r13 _
    · exact mdC_rf R F
  · exact mdC_rf R F
theorem mSew_c (R : Nat → Nat → Nat) (F : Nat → Nat) (x y : Int32) : mdC R F (mSew R F x y).2 F := by
  unfold mSew
  split
  · split
    · exact (mdC_rf R F).r13 _
    · exact mdC_rf R F
  · exact mdC_rf R F
theorem mHem_c (R : Nat → Nat → Nat) (F : Nat → Nat) (x : Int32) (b : Bool) : mdC R F R (mHem F x b).2 := by
  unfold mHem
  split
  · exact (mdC_rf R F).f10 _
  · exact mdC_rf R F
theorem mSeed_c (R : Nat → Nat → Nat) (F : Nat → Nat) (x : Int32) : mdC R F R (mSeed F x).2 := by
  unfold mSeed
  split
  · exact mdC_rf R F
  · exact (mdC_rf R F).f11 _
theorem mDye_c (R : Nat → Nat → Nat) (F : Nat → Nat) (x y : Int32) : mdC R F (mDye R F x y).2 F := by
  unfold mDye
  split
  · exact (mdC_rf R F).r9 _
  · exact mdC_rf R F
theorem mFray_c (R : Nat → Nat → Nat) (F : Nat → Nat) (x : Int32) : mdC R F (mFray R F x).2 F := by
  unfold mFray
  split
  · exact (mdC_rf R F).r13 _
  · exact mdC_rf R F
theorem ysM_c {a : Nat} {X : MdT} (h : mdC R F X.1 X.2) : mdC R F (ysM a X).1 (ysM a X).2 := by
  unfold ysM dF
  split
  · exact ((h.r13 _).f11 _).f11 _
  · exact h.f11 _
theorem ylM_c {X : MdT} (h : mdC R F X.1 X.2) : ∀ n, mdC R F (ylM X n).1 (ylM X n).2
  | 0 => h
  | n + 1 => ysM_c (ylM_c h n)
theorem yrM_c {X : MdT} (h : mdC R F X.1 X.2) : mdC R F (yrM X).1 (yrM X).2 := by
  unfold yrM dF frM
  exact ((ylM_c h _).r13 _).f11 _
theorem ynM_c {X : MdT} (h : mdC R F X.1 X.2) : ∀ n, mdC R F (ynM X n).1 (ynM X n).2
  | 0 => h
  | n + 1 => yrM_c (ynM_c h n)
theorem mDrift_c (R : Nat → Nat → Nat) (F : Nat → Nat) (x : Int32) : mdC R F (mDrift (R, F) x).2.1 (mDrift (R, F) x).2.2 := by
  unfold mDrift
  split
  · split
    · exact mdC_rf R F
    · exact ynM_c (mdC_rf R F) _
  · exact mdC_rf R F
theorem BR.ok {B : BookT} (h : BR B R F) (hm : MdOK R F) : BookOK B := by
  obtain ⟨h1, h2, h3⟩ := h
  have h8 := hm.2.1
  have h12 := hm.2.2.1
  refine ⟨by omega, fun i hi => ?_⟩
  obtain ⟨-, -, a1, a2⟩ := h3 i (by omega)
  omega
theorem FR.pt (h : FR s R F) {T : PaintT} (hT : PaintOK T) : FR (s.setT T) R F := ⟨h.1, h.2.1, h.2.2.1, h.2.2.2.1, h.2.2.2.2.1, h.2.2.2.2.2.1, h.2.2.2.2.2.2.1, hT, h.2.2.2.2.2.2.2.2⟩
theorem pnT_ok (h : FR s R F) : PaintOK (pnT s.P s.Q s.T) := by
  have hok := h.ok
  have h8 := hok.1.2.1
  exact pfX_ok hok.1 _ _ _ (by omega) (pnX_ok hok.2.2.2.2.2.1 hok.1 _)
theorem lbT_okF (h : FR s R F) : PaintOK (lbT s.P s.Q s.T s.g) := lbT_ok h.ok.1 h.ok.2.2.2.2.2.1 h.ok.2.2.2.2.2.2.1
theorem two_fault (l : Launch) (L : Nat → Int64) (h : FR s R F) : Two l yX8_fault cX8_fault 1 yX9_fault cX9_fault 1 [] s R F L := Two.rv (s2 := s) (R2 := R) (F2 := F) (L2 := L) (ct_X8_fault l s.X s.Q s.I0 s.I1 s.B s.Z s.Y s.W s.V s.U s.T s.g s.P s.S s.kp h.ok ) (ct_X9_fault l R F L ) (congrArg nI h.2.2.2.2.2.1.2.2.2.2.1.symm) h (by unfold rmOk; decide) (by unfold rmOk; decide)
theorem two_told (l : Launch) (L : Nat → Int64) (h : FR s R F) (x : Int32) : Two l yX8_told cX8_told 2 yX9_told cX9_told 4 [.int x] s R F L := Two.rv (s2 := s) (R2 := R) (F2 := F) (L2 := L) (ct_X8_told l s.X s.Q s.I0 s.I1 s.B s.Z s.Y s.W s.V s.U s.T s.g s.P s.S s.kp h.ok x) (ct_X9_told l R F L h.md h.2.1.2.2.2.2.1 x) (a_told h.1 h.2.1 h.2.2.2.2.2.1.1 h.2.2.2.1.1 x) h (by unfold rmOk; decide) (by unfold rmOk; decide)
theorem two_seam (l : Launch) (L : Nat → Int64) (h : FR s R F) (x y : Int32) : Two l yX8_seam cX8_seam 3 yX9_seam cX9_seam 3 [.int x, .int y] s R F L := Two.rv (s2 := s) (R2 := R) (F2 := F) (L2 := L) (ct_X8_seam l s.X s.Q s.I0 s.I1 s.B s.Z s.Y s.W s.V s.U s.T s.g s.P s.S s.kp h.ok x y) (ct_X9_seam l R F L h.md x y) (a_seam h.1 h.2.1 x y) h (by unfold rmOk; decide) (by unfold rmOk; decide)
theorem two_strip (l : Launch) (L : Nat → Int64) (h : FR s R F) (x y : Int32) : Two l yX8_strip cX8_strip 3 yX9_strip cX9_strip 3 [.int x, .int y] s R F L := Two.rv (s2 := s) (R2 := R) (F2 := F) (L2 := L) (ct_X8_strip l s.X s.Q s.I0 s.I1 s.B s.Z s.Y s.W s.V s.U s.T s.g s.P s.S s.kp h.ok x y) (ct_X9_strip l R F L h.md x y) (a_strip h.1 h.2.1 (fun a ha => (h.2.2.1.1 a ha).1) x y) h (by unfold rmOk; decide) (by unfold rmOk; decide)
theorem two_flies (l : Launch) (L : Nat → Int64) (h : FR s R F) (x : Int32) : Two l yX8_flies cX8_flies 2 yX9_flies cX9_flies 2 [.int x] s R F L := Two.rv (s2 := s) (R2 := R) (F2 := F) (L2 := L) (ct_X8_flies l s.X s.Q s.I0 s.I1 s.B s.Z s.Y s.W s.V s.U s.T s.g s.P s.S s.kp h.ok x) (ct_X9_flies l R F L h.md x) (a_flies h.1 h.2.1 x) h (by unfold rmOk; decide) (by unfold rmOk; decide)
theorem two_unpick (l : Launch) (L : Nat → Int64) (h : FR s R F) (x y : Int32) : Two l yX8_unpick cX8_unpick 3 yX9_unpick cX9_unpick 3 [.int x, .int y] s R F L := Two.rv (s2 := s.setQ (sUnp s.P s.Q x y).2) (R2 := (mUnp R F x y).2) (F2 := F) (L2 := L) (ct_X8_unpick l s.X s.Q s.I0 s.I1 s.B s.Z s.Y s.W s.V s.U s.T s.g s.P s.S s.kp h.ok x y) (ct_X9_unpick l R F L h.md x y) (a_unpick h.1 h.2.1 x y).1 (h.cloth (mUnp_c R F x y) (a_unpick h.1 h.2.1 x y).2.1 (a_unpick h.1 h.2.1 x y).2.2) (by unfold rmOk; decide) (by unfold rmOk; decide)
theorem two_sew (l : Launch) (L : Nat → Int64) (h : FR s R F) (x y : Int32) : Two l yX8_sew cX8_sew 4 yX9_sew cX9_sew 4 [.int x, .int y] s R F L := Two.rv (s2 := s.setQ (sSew s.P s.Q x y).2) (R2 := (mSew R F x y).2) (F2 := F) (L2 := L) (ct_X8_sew l s.X s.Q s.I0 s.I1 s.B s.Z s.Y s.W s.V s.U s.T s.g s.P s.S s.kp h.ok x y) (ct_X9_sew l R F L h.md x y) (a_sew h.1 h.2.1 x y).1 (h.cloth (mSew_c R F x y) (a_sew h.1 h.2.1 x y).2.1 (a_sew h.1 h.2.1 x y).2.2) (by unfold rmOk; decide) (by unfold rmOk; decide)
theorem two_hem (l : Launch) (L : Nat → Int64) (h : FR s R F) (x : Int32) (b : Bool) : Two l yX8_hem cX8_hem 4 yX9_hem cX9_hem 4 [.int x, .int (nI b.toNat)] s R F L := Two.rv (s2 := s.setQ (sHem s.P s.Q x b).2) (R2 := R) (F2 := (mHem F x b).2) (L2 := L) (ct_X8_hem l s.X s.Q s.I0 s.I1 s.B s.Z s.Y s.W s.V s.U s.T s.g s.P s.S s.kp h.ok x b) (ct_X9_hem l R F L h.md x b) (a_hem h.1 h.2.1 x b).1 (h.cloth (mHem_c R F x b) (a_hem h.1 h.2.1 x b).2.1 (a_hem h.1 h.2.1 x b).2.2) (by unfold rmOk; decide) (by unfold rmOk; decide)
theorem two_fray (l : Launch) (L : Nat → Int64) (h : FR s R F) (x : Int32) : Two l yX8_fray cX8_fray 2 yX9_fray cX9_fray 2 [.int x] s R F L := Two.rv (s2 := s.setQ (sFray s.P s.Q x).2) (R2 := (mFray R F x).2) (F2 := F) (L2 := L) (ct_X8_fray l s.X s.Q s.I0 s.I1 s.B s.Z s.Y s.W s.V s.U s.T s.g s.P s.S s.kp h.ok x) (ct_X9_fray l R F L h.md x) (a_fray h.1 h.2.1 x).1 (h.cloth (mFray_c R F x) (a_fray h.1 h.2.1 x).2.1 (a_fray h.1 h.2.1 x).2.2) (by unfold rmOk; decide) (by unfold rmOk; decide)
theorem two_dye (l : Launch) (L : Nat → Int64) (h : FR s R F) (x y : Int32) : Two l yX8_dye cX8_dye 4 yX9_dye cX9_dye 4 [.int x, .int y] s R F L := Two.rv (s2 := s.setQ (sDye s.P s.Q x y).2) (R2 := (mDye R F x y).2) (F2 := F) (L2 := L) (ct_X8_dye l s.X s.Q s.I0 s.I1 s.B s.Z s.Y s.W s.V s.U s.T s.g s.P s.S s.kp h.ok x y) (ct_X9_dye l R F L h.md x y) (a_dye h.1 h.2.1 x y).1 (h.cloth (mDye_c R F x y) (a_dye h.1 h.2.1 x y).2.1 (a_dye h.1 h.2.1 x y).2.2) (by unfold rmOk; decide) (by unfold rmOk; decide)
theorem two_drift (l : Launch) (L : Nat → Int64) (h : FR s R F) (x : Int32) : Two l yX8_drift cX8_drift 3 yX9_drift cX9_drift 5 [.int x] s R F L := Two.rv (s2 := s.setQ (sDrift s.P s.Q x).2) (R2 := (mDrift (R, F) x).2.1) (F2 := (mDrift (R, F) x).2.2) (L2 := L) (ct_X8_drift l s.X s.Q s.I0 s.I1 s.B s.Z s.Y s.W s.V s.U s.T s.g s.P s.S s.kp h.ok x) (ct_X9_drift l R F L h.md x) (a_drift h.1 h.2.1 x).1 (h.cloth (mDrift_c R F x) (a_drift h.1 h.2.1 x).2.1 (a_drift h.1 h.2.1 x).2.2) (by unfold rmOk; decide) (by unfold rmOk; decide)
theorem two_seed (l : Launch) (L : Nat → Int64) (h : FR s R F) (x : Int32) : Two l yX8_seed cX8_seed 3 yX9_seed cX9_seed 3 [.int x] s R F L := Two.rv (s2 := s.setQ (sSeed s.Q x).2) (R2 := R) (F2 := (mSeed F x).2) (L2 := L) (ct_X8_seed l s.X s.Q s.I0 s.I1 s.B s.Z s.Y s.W s.V s.U s.T s.g s.P s.S s.kp h.ok x) (ct_X9_seed l R F L x) (a_seed h.1 h.2.1 x).1 (h.cloth (mSeed_c R F x) (a_seed h.1 h.2.1 x).2.1 (a_seed h.1 h.2.1 x).2.2) (by unfold rmOk; decide) (by unfold rmOk; decide)
theorem two_cut (l : Launch) (L : Nat → Int64) (h : FR s R F) (x y : Int32) : Two l yX8_cut cX8_cut 4 yX9_cut cX9_cut 8 [.int x, .int y] s R F L := Two.rv (s2 := s) (R2 := R) (F2 := F) (L2 := L) (ct_X8_cut l s.X s.Q s.I0 s.I1 s.B s.Z s.Y s.W s.V s.U s.T s.g s.P s.S s.kp h.ok x y) (ct_X9_cut l R F L h.md x y) (a_cut h.1 h.2.1 x y) h (by unfold rmOk; decide) (by unfold rmOk; decide)
theorem two_lasts (l : Launch) (L : Nat → Int64) (h : FR s R F) (x y : Int32) : Two l yX8_lasts cX8_lasts 3 yX9_lasts cX9_lasts 3 [.int x, .int y] s R F L := Two.rv (s2 := s.setZ (sLasts s.P s.Q s.Z x y).2) (R2 := R) (F2 := F) (L2 := L) (ct_X8_lasts l s.X s.Q s.I0 s.I1 s.B s.Z s.Y s.W s.V s.U s.T s.g s.P s.S s.kp h.ok x y) (ct_X9_lasts l R F L h.md x y) (a_lasts h.1 h.2.1 s.Z x y) h (by unfold rmOk; decide) (by unfold rmOk; decide)
theorem two_hems (l : Launch) (L : Nat → Int64) (h : FR s R F) (x y : Int32) : Two l yX8_hems cX8_hems 3 yX9_hems cX9_hems 7 [.int x, .int y] s R F L := Two.rv (s2 := s.setZ (sHems s.P s.Q s.Z x y).2) (R2 := R) (F2 := F) (L2 := L) (ct_X8_hems l s.X s.Q s.I0 s.I1 s.B s.Z s.Y s.W s.V s.U s.T s.g s.P s.S s.kp h.ok x y) (ct_X9_hems l R F L h.md x y) (a_hems h.1 h.2.1 s.Z x y) h (by unfold rmOk; decide) (by unfold rmOk; decide)
theorem two_thread (l : Launch) (L : Nat → Int64) (h : FR s R F) (x y : Int32) : Two l yX8_thread cX8_thread 4 yX9_thread cX9_thread 9 [.int x, .int y] s R F L := Two.rv (s2 := s.setZ (sThread s.P s.Q s.Z x y).2) (R2 := R) (F2 := F) (L2 := L) (ct_X8_thread l s.X s.Q s.I0 s.I1 s.B s.Z s.Y s.W s.V s.U s.T s.g s.P s.S s.kp h.ok x y) (ct_X9_thread l R F L h.md x y) (a_thread h.1 h.2.1 s.Z x y) h (by unfold rmOk; decide) (by unfold rmOk; decide)
theorem two_odds (l : Launch) (L : Nat → Int64) (h : FR s R F) (x y : Int32) : Two l yX8_odds cX8_odds 3 yX9_odds cX9_odds 9 [.int x, .int y] s R F L := Two.q (s2 := s.setY (sOdds s.P s.Q s.Y x y).2) (ct_X8_odds l s.X s.Q s.I0 s.I1 s.B s.Z s.Y s.W s.V s.U s.T s.g s.P s.S s.kp h.ok x y) (ct_X9_odds l R F L h.md x y) (fun r h2 ⟨L2, e1, e2⟩ => ⟨e1, R, F, L2, mdQ_rf R F, e2⟩) (a_odds h.1 h.2.1 s.Y x y) h (by unfold rmOk; decide) (by unfold rmOk; decide)
theorem two_turnsOf (l : Launch) (L : Nat → Int64) (h : FR s R F) (x y z w : Int32) : Two l yX8_turnsOf cX8_turnsOf 5 yX9_turnsOf cX9_turnsOf 6 [.int x, .int y, .int z, .int w] s R F L := Two.q (s2 := s.setO (sTurns s.P s.Q (s.W, s.V, s.U) x y z w).2.1 (sTurns s.P s.Q (s.W, s.V, s.U) x y z w).2.2.1 (sTurns s.P s.Q (s.W, s.V, s.U) x y z w).2.2.2) (ct_X8_turnsOf l s.X s.Q s.I0 s.I1 s.B s.Z s.Y s.W s.V s.U s.T s.g s.P s.S s.kp h.ok x y z w) (ct_X9_turnsOf l R F L h.md x y z w) (fun r h2 ⟨f, g, e, q, e1, e2⟩ => ⟨e1, _, _, L, mdQ_p R F f g e q, e2⟩) (a_turns h.1 h.2.1 (s.W, s.V, s.U) x y z w) h (by unfold rmOk; decide) (by unfold rmOk; decide)
theorem two_colours (l : Launch) (L : Nat → Int64) (h : FR s R F) (x : Int32) : Two l yX8_colours cX8_colours 2 yX9_colours cX9_colours 2 [.int x] s R F L := Two.q (s2 := s.setT (sCol s.P s.Q s.T x).2) (ct_X8_colours l s.X s.Q s.I0 s.I1 s.B s.Z s.Y s.W s.V s.U s.T s.g s.P s.S s.kp h.ok x) (ct_X9_colours l R F L h.md h.1.2.2.2.2.1 h.2.2.1.2.1 x) (fun r h2 ⟨R2, F2, e1, e2, e3⟩ => ⟨e1, R2, F2, L, e3, e2⟩) (a_col h.1 h.2.1 s.T x) (h.pt (by unfold sCol; split; exact pnT_ok h; exact h.ok.2.2.2.2.2.1)) (by unfold rmOk; decide) (by unfold rmOk; decide)
theorem two_fits (l : Launch) (L : Nat → Int64) (h : FR s R F) : Two l yX8_fits cX8_fits 1 yX9_fits cX9_fits 1 [] s R F L := Two.q (s2 := s.setT (wyX s.P (s.P.2 1) (lbT s.P s.Q s.T s.g)).2) (ct_X8_fits l s.X s.Q s.I0 s.I1 s.B s.Z s.Y s.W s.V s.U s.T s.g s.P s.S s.kp h.ok ) (ct_X9_fits l R F L h.md h.1.2.2.2.2.1 h.2.2.1.2.1 ) (fun r h2 ⟨R2, F2, e1, e2, e3⟩ => ⟨e1, R2, F2, L, e3, e2⟩) (congrArg nI (a_fits h.1 h.2.1 h.2.2.1 s.T)) (h.pt (wyX_ok _ _ _ (lbT_okF h))) (by unfold rmOk; decide) (by unfold rmOk; decide)
theorem two_sure (l : Launch) (L : Nat → Int64) (h : FR s R F) (x : Int32) : Two l yX8_sure cX8_sure 2 yX9_sure cX9_sure 3 [.int x] s R F L := Two.q (s2 := s.setT (sSure s.P s.Q s.T s.g x).2) (ct_X8_sure l s.X s.Q s.I0 s.I1 s.B s.Z s.Y s.W s.V s.U s.T s.g s.P s.S s.kp h.ok x) (ct_X9_sure l R F L h.md h.1.2.2.2.2.1 h.2.2.1.2.1 x) (fun r h2 ⟨R2, F2, e1, e2, e3⟩ => ⟨e1, R2, F2, L, e3, e2⟩) (a_sure h.1 h.2.1 h.2.2.1 s.T x) (h.pt (by unfold sSure; split; exact (ocL_ok ((lbT_okF h).2.2.2.1 _) (lbT_okF h) 4).1; exact h.ok.2.2.2.2.2.1)) (by unfold rmOk; decide) (by unfold rmOk; decide)
theorem fr_left (h : FR s R F) (x y : Int32) : FR (s.setG (sLeft s.P s.g x y).2) (mLeft R F x y).2 F := by
  obtain ⟨a1, a2, a3, a4⟩ := a_left h.1 h.2.1 h.2.2.1 x y
  have hk : ∀ j, j ≠ 10 → (mLeft R F x y).2 j = R j := fun j hj => by
    unfold mLeft
    split
    · show upR R 10 _ j = R j
      unfold upR
      rw [if_neg hj]
    · rfl
  obtain ⟨-, -, -, hB, hK, hX, h3⟩ := h
  exact ⟨a2, a3, a4, hB.cg (hk 23 (by decide)) (hk 24 (by decide)) rfl rfl rfl, hK.cg (hk 25 (by decide)) rfl rfl rfl, hX.cg (fun j hj => hk j (by omega)) rfl rfl, h3⟩
theorem fr_write (h : FR s R F) (x y : Int32) : FR (s.setB (sWrite s.P s.B x y).2) (mWrite R F x y).2.1 (mWrite R F x y).2.2 := by
  obtain ⟨a1, a2, a3, a4⟩ := a_write h.1 h.2.1 h.2.2.2.1 x y
  have hk : (∀ j, j ≠ 23 → j ≠ 24 → (mWrite R F x y).2.1 j = R j) ∧ ∀ k, k ≠ 14 → (mWrite R F x y).2.2 k = F k := by
    unfold mWrite
    split
    · split
      · exact ⟨fun _ _ _ => rfl, fun _ _ => rfl⟩
      · refine ⟨fun j h1 h2 => ?_, fun k hk => updN_n hk⟩
        show upR (upR R 23 _) 24 _ j = R j
        unfold upR
        rw [if_neg h2, if_neg h1]
    · exact ⟨fun _ _ _ => rfl, fun _ _ => rfl⟩
  obtain ⟨hR, hF⟩ := hk
  obtain ⟨-, -, hg, -, hK, hX, h3, h4, -⟩ := h
  exact ⟨a2, a3, hg.cg (hR 10 (by decide) (by decide)) (hF 6 (by decide)) (hF 7 (by decide)), a4, hK.cg (hR 25 (by decide) (by decide)) (hF 6 (by decide)) (hF 7 (by decide)) (hF 8 (by decide)), hX.cg (fun j hj => hR j (by omega) (by omega)) (hF 0 (by decide)) (hF 1 (by decide)), h3, h4, a4.ok a2.2.1⟩
theorem fr_tear (h : FR s R F) : FR (s.setB (s.B.1, s.B.2.1, 0)) R (updN F 14 0) := by
  have hF : ∀ k, k ≠ 14 → updN F 14 0 k = F k := fun k hk => updN_n hk
  obtain ⟨hP, hQ, hg, hB, hK, hX, h3, h4, -⟩ := h
  exact ⟨hP.upF (by omega), hQ.upF (by omega), hg.cg rfl (hF 6 (by decide)) (hF 7 (by decide)), ⟨rfl, Nat.zero_le _, fun i hi => absurd hi (Nat.not_lt_zero i)⟩, hK.cg rfl (hF 6 (by decide)) (hF 7 (by decide)) (hF 8 (by decide)), hX.cg (fun _ _ => rfl) (hF 0 (by decide)) (hF 1 (by decide)), h3, h4, ⟨Nat.zero_le _, fun i hi => absurd hi (Nat.not_lt_zero i)⟩⟩
theorem FR.bk (h : FR s R F) : ∀ i, i < F 14 → R 23 i < 8 ∧ R 24 i < F 8 := fun i hi => by
  obtain ⟨h1, h2, h3, h4⟩ := h.2.2.2.1.2.2 i hi
  have h8 := h.md.2.1
  omega
theorem two_left (l : Launch) (L : Nat → Int64) (h : FR s R F) (x y : Int32) : Two l yX8_left cX8_left 4 yX9_left cX9_left 4 [.int x, .int y] s R F L := Two.rv (s2 := s.setG (sLeft s.P s.g x y).2) (R2 := (mLeft R F x y).2) (F2 := F) (L2 := L) (ct_X8_left l s.X s.Q s.I0 s.I1 s.B s.Z s.Y s.W s.V s.U s.T s.g s.P s.S s.kp h.ok x y) (ct_X9_left l R F L h.md x y) (a_left h.1 h.2.1 h.2.2.1 x y).1 (fr_left h x y) (by unfold rmOk; decide) (by unfold rmOk; decide)
theorem two_write (l : Launch) (L : Nat → Int64) (h : FR s R F) (x y : Int32) : Two l yX8_write cX8_write 3 yX9_write cX9_write 3 [.int x, .int y] s R F L := Two.rv (s2 := s.setB (sWrite s.P s.B x y).2) (R2 := (mWrite R F x y).2.1) (F2 := (mWrite R F x y).2.2) (L2 := L) (ct_X8_write l s.X s.Q s.I0 s.I1 s.B s.Z s.Y s.W s.V s.U s.T s.g s.P s.S s.kp h.ok x y) (ct_X9_write l R F L h.md h.2.2.2.1.2.1 x y) (a_write h.1 h.2.1 h.2.2.2.1 x y).1 (fr_write h x y) (by unfold rmOk; decide) (by unfold rmOk; decide)
theorem two_tear (l : Launch) (L : Nat → Int64) (h : FR s R F) : Two l yX8_tear cX8_tear 2 yX9_tear cX9_tear 2 [] s R F L := Two.rv (s2 := s.setB (s.B.1, s.B.2.1, 0)) (R2 := R) (F2 := (updN F 14 0)) (L2 := L) (ct_X8_tear l s.X s.Q s.I0 s.I1 s.B s.Z s.Y s.W s.V s.U s.T s.g s.P s.S s.kp h.ok ) (ct_X9_tear l R F L ) (congrArg nI h.2.2.2.1.1.symm) (fr_tear h) (by unfold rmOk; decide) (by unfold rmOk; decide)
theorem two_judge (l : Launch) (L : Nat → Int64) (h : FR s R F) : Two l yX8_judge cX8_judge 1 yX9_judge cX9_judge 3 [] s R F L := Two.rv (s2 := s) (R2 := R) (F2 := F) (L2 := L) (ct_X8_judge l s.X s.Q s.I0 s.I1 s.B s.Z s.Y s.W s.V s.U s.T s.g s.P s.S s.kp h.ok ) (ct_X9_judge l R F L h.md h.2.2.2.1.2.1 h.bk ) (congrArg nI (a_judge h.1 h.2.1 h.2.2.2.1)) h (by unfold rmOk; decide) (by unfold rmOk; decide)
end TWO
