/-! the two sides' states held together -/
abbrev Sf : Type := TextT × ClothT × ClothT × ClothT × BookT × CutT × (Nat × Nat) × Int32 × Int32 × (Nat → Nat) × PaintT × (Nat → Nat) × PlanT × PlanT × Nat
abbrev Sf.X (s : Sf) : TextT := s.1
abbrev Sf.Q (s : Sf) : ClothT := s.2.1
abbrev Sf.I0 (s : Sf) : ClothT := s.2.2.1
abbrev Sf.I1 (s : Sf) : ClothT := s.2.2.2.1
abbrev Sf.B (s : Sf) : BookT := s.2.2.2.2.1
abbrev Sf.Z (s : Sf) : CutT := s.2.2.2.2.2.1
abbrev Sf.Y (s : Sf) : Nat × Nat := s.2.2.2.2.2.2.1
abbrev Sf.W (s : Sf) : Int32 := s.2.2.2.2.2.2.2.1
abbrev Sf.V (s : Sf) : Int32 := s.2.2.2.2.2.2.2.2.1
abbrev Sf.U (s : Sf) : Nat → Nat := s.2.2.2.2.2.2.2.2.2.1
abbrev Sf.T (s : Sf) : PaintT := s.2.2.2.2.2.2.2.2.2.2.1
abbrev Sf.g (s : Sf) : Nat → Nat := s.2.2.2.2.2.2.2.2.2.2.2.1
abbrev Sf.P (s : Sf) : PlanT := s.2.2.2.2.2.2.2.2.2.2.2.2.1
abbrev Sf.S (s : Sf) : PlanT := s.2.2.2.2.2.2.2.2.2.2.2.2.2.1
abbrev Sf.kp (s : Sf) : Nat := s.2.2.2.2.2.2.2.2.2.2.2.2.2.2
abbrev Sf.setQ (s : Sf) (q : ClothT) : Sf := (s.1, q, s.2.2)
abbrev Sf.setX (s : Sf) (q : TextT) : Sf := (q, s.2)
abbrev Sf.setB (s : Sf) (q : BookT) : Sf := (s.1, s.2.1, s.2.2.1, s.2.2.2.1, q, s.2.2.2.2.2)
abbrev Sf.setZ (s : Sf) (q : CutT) : Sf := (s.1, s.2.1, s.2.2.1, s.2.2.2.1, s.2.2.2.2.1, q, s.2.2.2.2.2.2)
abbrev Sf.setY (s : Sf) (q : Nat × Nat) : Sf := (s.1, s.2.1, s.2.2.1, s.2.2.2.1, s.2.2.2.2.1, s.2.2.2.2.2.1, q, s.2.2.2.2.2.2.2)
abbrev Sf.setO (s : Sf) (w v : Int32) (u : Nat → Nat) : Sf := (s.1, s.2.1, s.2.2.1, s.2.2.2.1, s.2.2.2.2.1, s.2.2.2.2.2.1, s.2.2.2.2.2.2.1, w, v, u, s.2.2.2.2.2.2.2.2.2.2)
abbrev Sf.setT (s : Sf) (q : PaintT) : Sf := (s.1, s.2.1, s.2.2.1, s.2.2.2.1, s.2.2.2.2.1, s.2.2.2.2.2.1, s.2.2.2.2.2.2.1, s.2.2.2.2.2.2.2.1, s.2.2.2.2.2.2.2.2.1, s.2.2.2.2.2.2.2.2.2.1, q, s.2.2.2.2.2.2.2.2.2.2.2)
abbrev Sf.setG (s : Sf) (q : Nat → Nat) : Sf := (s.1, s.2.1, s.2.2.1, s.2.2.2.1, s.2.2.2.2.1, s.2.2.2.2.2.1, s.2.2.2.2.2.2.1, s.2.2.2.2.2.2.2.1, s.2.2.2.2.2.2.2.2.1, s.2.2.2.2.2.2.2.2.2.1, s.2.2.2.2.2.2.2.2.2.2.1, q, s.2.2.2.2.2.2.2.2.2.2.2.2)
abbrev Sf.setJ (s : Sf) (a b : ClothT) (k : Nat) : Sf := (s.1, s.2.1, a, b, s.2.2.2.2.1, s.2.2.2.2.2.1, s.2.2.2.2.2.2.1, s.2.2.2.2.2.2.2.1, s.2.2.2.2.2.2.2.2.1, s.2.2.2.2.2.2.2.2.2.1, s.2.2.2.2.2.2.2.2.2.2.1, s.2.2.2.2.2.2.2.2.2.2.2.1, s.2.2.2.2.2.2.2.2.2.2.2.2.1, s.2.2.2.2.2.2.2.2.2.2.2.2.2.1, k)
abbrev Sf.w (s : Sf) : List va_E := sfW s.X s.Q s.I0 s.I1 s.B s.Z s.Y s.W s.V s.U s.T s.g s.P s.S s.kp
abbrev Sf.v (s : Sf) : List va_E := sfV s.X s.Q s.I0 s.I1 s.B s.Z s.Y s.W s.V s.U s.T s.g s.P s.S s.kp
def TR (X : TextT) (R : Nat → Nat → Nat) (F : Nat → Nat) : Prop := F 0 = X.2 0 ∧ X.2 0 ≤ 500 ∧ txB X.1 (R 1) (X.2 0) ∧ (∀ j, R 1 j < 256) ∧ F 1 = X.2 2 ∧ rdB R
def IR (J : ClothT) (k : Nat) (R : Nat → Nat → Nat) (F : Nat → Nat) : Prop := R 25 (k + 1) = J.2.2.1 ∧ R 25 (k + 2) = J.2.2.2 ∧ (∀ s, s < F 8 → R 25 (k + 3 + s) = J.1 s) ∧ (∀ s, F 8 ≤ s → s < 12 → J.1 s = 0) ∧ (∀ s, s < 12 → R 25 (k + 3 + s) < 131072) ∧ (∀ a, a < F 7 → R 25 (k + 15 + a) = J.2.1 a ∧ R 25 (k + 15 + a) < F 6) ∧ ∀ a, a < 8 → R 25 (k + 15 + a) < 4
def KR (I0 I1 : ClothT) (kp : Nat) (R : Nat → Nat → Nat) (F : Nat → Nat) : Prop := kp < 4 ∧ ClothOK I0 ∧ ClothOK I1 ∧ (∀ j, R 25 j < 2 ^ 31) ∧ (kp.testBit 0 = true ↔ R 25 0 ≠ 0) ∧ (kp.testBit 1 = true ↔ R 25 23 ≠ 0) ∧ (kp.testBit 0 = true → IR I0 0 R F) ∧ (kp.testBit 1 = true → IR I1 23 R F)
def FR (s : Sf) (R : Nat → Nat → Nat) (F : Nat → Nat) : Prop := PR s.P R F ∧ CR s.Q R F ∧ LR s.g R F ∧ BR s.B R F ∧ KR s.I0 s.I1 s.kp R F ∧ TR s.X R F ∧ PlX s.S ∧ PaintOK s.T ∧ BookOK s.B
section FRS
variable {s : Sf} {R R2 : Nat → Nat → Nat} {F F2 : Nat → Nat} {P : PlanT} {Q : ClothT}
theorem FR.ok (h : FR s R F) : SfOK s.X s.Q s.I0 s.I1 s.B s.T s.g s.P s.kp := ⟨h.1.1.1, h.2.1.1, h.2.2.2.2.1.2.1, h.2.2.2.2.1.2.2.1, h.2.2.2.2.2.2.2.2, h.2.2.2.2.2.2.2.1, h.2.2.1.2.2, h.2.2.2.2.1.1, h.2.2.2.2.2.1.2.1⟩
theorem FR.md (h : FR s R F) : MdOK R F := h.1.2.1
theorem MdOK.cg (h : MdOK R F) (hR : ∀ j, 11 ≤ j → j ≤ 14 → R2 j = R j) (hF : ∀ k, 6 ≤ k → k ≤ 11 → F2 k = F k) : MdOK R2 F2 := by
  have e6 := hF 6 (by decide) (by decide)
  have e7 := hF 7 (by decide) (by decide)
  have e8 := hF 8 (by decide) (by decide)
  have e9 := hF 9 (by decide) (by decide)
  have e10 := hF 10 (by decide) (by decide)
  have e11 := hF 11 (by decide) (by decide)
  have r11 := hR 11 (by decide) (by decide)
  have r12 := hR 12 (by decide) (by decide)
  have r13 := hR 13 (by decide) (by decide)
  have r14 := hR 14 (by decide) (by decide)
  unfold MdOK vS at h ⊢
  rw [e6, e7, e8, e9, e10, e11, r11, r12, r13, r14]
  exact h
theorem PR.cg (h : PR P R F) (hR : ∀ j, j = 8 ∨ (11 ≤ j ∧ j ≤ 14) → R2 j = R j) (hF : ∀ k, 6 ≤ k → k ≤ 11 → F2 k = F k) : PR P R2 F2 := by
  have hm := h.2.1.cg (R2 := R2) (F2 := F2) (fun j h1 h2 => hR j (by omega)) hF
  have e6 := hF 6 (by decide) (by decide)
  have e7 := hF 7 (by decide) (by decide)
  have e8 := hF 8 (by decide) (by decide)
  have e9 := hF 9 (by decide) (by decide)
  have r8 := hR 8 (by decide)
  have r11 := hR 11 (by decide)
  have r12 := hR 12 (by decide)
  have r14 := hR 14 (by decide)
  obtain ⟨h1, -, h3⟩ := h
  refine ⟨h1, hm, ?_⟩
  rw [e6, e7, e8, e9, r8, r11, r12, r14]
  exact h3
theorem CR.cg (h : CR Q R F) (hR : ∀ j, j = 13 ∨ j = 9 → R2 j = R j) (hF : ∀ k, 6 ≤ k → k ≤ 11 → F2 k = F k) : CR Q R2 F2 := by
  have e6 := hF 6 (by decide) (by decide)
  have e7 := hF 7 (by decide) (by decide)
  have e8 := hF 8 (by decide) (by decide)
  have e10 := hF 10 (by decide) (by decide)
  have e11 := hF 11 (by decide) (by decide)
  have r13 := hR 13 (by decide)
  have r9 := hR 9 (by decide)
  unfold CR at h ⊢
  rw [e6, e7, e8, e10, e11, r13, r9]
  exact h
theorem LR.cg {g : Nat → Nat} (h : LR g R F) (hR : R2 10 = R 10) (h6 : F2 6 = F 6) (h7 : F2 7 = F 7) : LR g R2 F2 := by
  unfold LR at h ⊢
  rw [hR, h6, h7]; exact h
theorem BR.cg {B : BookT} (h : BR B R F) (h23 : R2 23 = R 23) (h24 : R2 24 = R 24) (h7 : F2 7 = F 7) (h8 : F2 8 = F 8) (h14 : F2 14 = F 14) : BR B R2 F2 := by
  unfold BR at h ⊢
  rw [h23, h24, h7, h8, h14]; exact h
theorem KR.cg {I0 I1 : ClothT} {kp : Nat} (h : KR I0 I1 kp R F) (hR : R2 25 = R 25) (h6 : F2 6 = F 6) (h7 : F2 7 = F 7) (h8 : F2 8 = F 8) : KR I0 I1 kp R2 F2 := by
  unfold KR IR at h ⊢
  rw [hR, h6, h7, h8]; exact h
theorem TR.cg {X : TextT} (h : TR X R F) (hR : ∀ j, j = 1 ∨ (5 ≤ j ∧ j ≤ 7) → R2 j = R j) (h0 : F2 0 = F 0) (h1 : F2 1 = F 1) : TR X R2 F2 := by
  have r1 := hR 1 (by decide)
  have r5 := hR 5 (by decide)
  have r6 := hR 6 (by decide)
  have r7 := hR 7 (by decide)
  unfold TR rdB at h ⊢
  rw [r1, r5, r6, r7, h0, h1]; exact h
theorem FR.cg (h : FR s R F) (hR : ∀ j, j < 16 ∨ 22 < j → R2 j = R j) (hF : ∀ k, k ≠ 12 → k ≠ 13 → F2 k = F k) : FR s R2 F2 := by
  obtain ⟨hP, hQ, hg, hB, hK, hX, h3⟩ := h
  exact ⟨hP.cg (fun j hj => hR j (by omega)) (fun k h1 h2 => hF k (by omega) (by omega)), hQ.cg (fun j hj => hR j (by omega)) (fun k h1 h2 => hF k (by omega) (by omega)), hg.cg (hR 10 (by decide)) (hF 6 (by decide) (by decide)) (hF 7 (by decide) (by decide)), hB.cg (hR 23 (by decide)) (hR 24 (by decide)) (hF 7 (by decide) (by decide)) (hF 8 (by decide) (by decide)) (hF 14 (by decide) (by decide)), hK.cg (hR 25 (by decide)) (hF 6 (by decide) (by decide)) (hF 7 (by decide) (by decide)) (hF 8 (by decide) (by decide)), hX.cg (fun j hj => hR j (by omega)) (hF 0 (by decide) (by decide)) (hF 1 (by decide) (by decide)), h3⟩
/-- only the cloth has changed -/
def mdC (R : Nat → Nat → Nat) (F : Nat → Nat) (R2 : Nat → Nat → Nat) (F2 : Nat → Nat) : Prop := (∀ j, j ≠ 13 → j ≠ 9 → R2 j = R j) ∧ ∀ k, k ≠ 10 → k ≠ 11 → F2 k = F k
theorem mdC_rf (R : Nat → Nat → Nat) (F : Nat → Nat) : mdC R F R F := ⟨fun _ _ _ => rfl, fun _ _ _ => rfl⟩
theorem mdC.r13 (h : mdC R F R2 F2) (f : Nat → Nat) : mdC R F (upR R2 13 f) F2 := ⟨fun j h1 h2 => by
  unfold upR
  rw [if_neg h1]; exact h.1 j h1 h2, h.2⟩
theorem mdC.r9 (h : mdC R F R2 F2) (f : Nat → Nat) : mdC R F (upR R2 9 f) F2 := ⟨fun j h1 h2 => by
  unfold upR
  rw [if_neg h2]; exact h.1 j h1 h2, h.2⟩
theorem mdC.f10 (h : mdC R F R2 F2) (v : Nat) : mdC R F R2 (updN F2 10 v) := ⟨h.1, fun k h1 h2 => by rw [updN_n h1]; exact h.2 k h1 h2⟩
theorem mdC.f11 (h : mdC R F R2 F2) (v : Nat) : mdC R F R2 (updN F2 11 v) := ⟨h.1, fun k h1 h2 => by rw [updN_n h2]; exact h.2 k h1 h2⟩
theorem FR.cloth (h : FR s R F) (hc : mdC R F R2 F2) (hP : PR s.P R2 F2) (hQ : CR Q R2 F2) : FR (s.setQ Q) R2 F2 := by
  obtain ⟨-, -, hg, hB, hK, hX, h3⟩ := h
  obtain ⟨hR, hF⟩ := hc
  exact ⟨hP, hQ, hg.cg (hR 10 (by decide) (by decide)) (hF 6 (by decide) (by decide)) (hF 7 (by decide) (by decide)), hB.cg (hR 23 (by decide) (by decide)) (hR 24 (by decide) (by decide)) (hF 7 (by decide) (by decide)) (hF 8 (by decide) (by decide)) (hF 14 (by decide) (by decide)), hK.cg (hR 25 (by decide) (by decide)) (hF 6 (by decide) (by decide)) (hF 7 (by decide) (by decide)) (hF 8 (by decide) (by decide)), hX.cg (fun j hj => hR j (by omega) (by omega)) (hF 0 (by decide) (by decide)) (hF 1 (by decide) (by decide)), h3⟩
end FRS
/-- one call on both sides: the same answer, states held together again -/
def Two (l : Launch) (yS : MethodName) (bS : ByteArray) (mS : Nat) (yM : MethodName) (bM : ByteArray) (mM : Nat) (as : List Value) (s : Sf) (R : Nat → Nat → Nat) (F : Nat → Nat) (L : Nat → Int64) : Prop :=
  ∃ (v : Int32) (dS dM : Nat) (PS : Sf → List va_E → Prop) (PM : (Nat → Nat → Nat) → (Nat → Nat) → (Nat → Int64) → Prop), rmOk dS mS (rmD 20) ∧ rmOk dM mM (rmD 20) ∧
  Ct l dS yS bS mS (some .int) (.ref 0 :: as) s.w (fun r h2 => r = some (.int v) ∧ ∃ s2, PS s2 h2 ∧ (h2 = s2.w ∨ h2 = s2.v)) ∧
  Ct l dM yM bM mM (some .int) (.ref 0 :: as) (mdW R F L) (fun r h2 => r = some (.int v) ∧ ∃ R2 F2 L2, PM R2 F2 L2 ∧ h2 = mdW R2 F2 L2) ∧
  ∀ s2 h2 R2 F2 L2, PS s2 h2 → PM R2 F2 L2 → FR s2 R2 F2
theorem Two.rv {l : Launch} {yS yM : MethodName} {bS bM : ByteArray} {mS mM dS dM : Nat} {as : List Value} {s s2 : Sf} {R R2 : Nat → Nat → Nat} {F F2 : Nat → Nat} {L L2 : Nat → Int64} {v1 v2 : Int32} (hS : Ct l dS yS bS mS (some .int) (.ref 0 :: as) s.w (RV (.int v1) s2.w)) (hM : Ct l dM yM bM mM (some .int) (.ref 0 :: as) (mdW R F L) (RV (.int v2) (mdW R2 F2 L2))) (e : v1 = v2) (hF : FR s2 R2 F2) (h1 : rmOk dS mS (rmD 20)) (h2 : rmOk dM mM (rmD 20)) : Two l yS bS mS yM bM mM as s R F L := by
  subst e
  exact ⟨v1, dS, dM, fun x _ => x = s2, fun a b c => a = R2 ∧ b = F2 ∧ c = L2, h1, h2, hS.mono (fun r h2 hp => ⟨hp.1, s2, rfl, Or.inl hp.2⟩), hM.mono (fun r h2 hp => ⟨hp.1, R2, F2, L2, ⟨rfl, rfl, rfl⟩, hp.2⟩), fun _ _ _ _ _ e1 ⟨e2, e3, _⟩ => by subst e1; subst e2; subst e3; exact hF⟩
theorem Two.q {l : Launch} {yS yM : MethodName} {bS bM : ByteArray} {mS mM dS dM : Nat} {as : List Value} {s s2 : Sf} {R : Nat → Nat → Nat} {F : Nat → Nat} {L : Nat → Int64} {v1 v2 : Int32} {post : Option Value → List va_E → Prop} (hS : Ct l dS yS bS mS (some .int) (.ref 0 :: as) s.w (RV (.int v1) s2.w)) (hM : Ct l dM yM bM mM (some .int) (.ref 0 :: as) (mdW R F L) post) (hp : ∀ r h2, post r h2 → r = some (.int v2) ∧ ∃ R2 F2 L2, mdQ R F R2 F2 ∧ h2 = mdW R2 F2 L2) (e : v1 = v2) (hF : FR s2 R F) (h1 : rmOk dS mS (rmD 20)) (h2 : rmOk dM mM (rmD 20)) : Two l yS bS mS yM bM mM as s R F L := by
  subst e
  exact ⟨v1, dS, dM, fun x _ => x = s2, fun a b c => mdQ R F a b, h1, h2, hS.mono (fun r h2 hp => ⟨hp.1, s2, rfl, Or.inl hp.2⟩), hM.mono hp, fun _ _ R2 F2 _ e1 q => by subst e1; exact hF.cg q.1 q.2⟩
