/-! StripFlag: the world of the whole object, and its short methods -/
abbrev TextT : Type := (Nat → Int32) × (Nat → Nat)
abbrev sfW (X : TextT) (Q I0 I1 : ClothT) (B : BookT) (Z : CutT) (Y : Nat × Nat) (W V : Int32) (U : Nat → Nat) (T : PaintT) (g : Nat → Nat) (P S : PlanT) (kp : Nat) : List va_E := [.inr (8, [.ref 1, .ref 3, .ref 6, .ref 13, .ref 16, .ref 19, .ref 20, .ref 21, .ref 26, .ref 27, .ref 36, .int (nI kp)]),
  .inr (5, [.ref 2, .int (nI (X.2 0)), .int (nI (X.2 1)), .int (nI (X.2 2)), .int (nI (X.2 3)), .int (nI (X.2 4))]), .inl (1, 500, .inl X.1),
  .inr (1, [.ref 4, .ref 5, .int (nI Q.2.2.1), .int (nI Q.2.2.2)]), rowI 12 Q.1, rowI 8 Q.2.1,
  .inl (3, 2, .inr (.inr (.inr (.inr (fun j => if j = 0 then some 7 else some 10))))),
  .inr (1, [.ref 8, .ref 9, .int (nI I0.2.2.1), .int (nI I0.2.2.2)]), rowI 12 I0.1, rowI 8 I0.2.1,
  .inr (1, [.ref 11, .ref 12, .int (nI I1.2.2.1), .int (nI I1.2.2.2)]), rowI 12 I1.1, rowI 8 I1.2.1,
  .inr (0, [.ref 14, .ref 15, .int (nI B.2.2)]), rowI 30 B.1, rowI 30 B.2.1,
  .inr (2, [.ref 17, .ref 18, .int (nI Z.2.2)]), rowI 256 Z.1, rowI 256 Z.2.1,
  .inr (7, [.int (nI Y.1), .int (nI Y.2)]),
  .inr (6, [.int W, .int V, .int (nI (U 0)), .int (nI (U 1)), .int (nI (U 2)), .int (nI (U 3))]),
  .inr (3, [.int (nI T.1.toNat), .int (nI T.2.1), .ref 22, .ref 23, .ref 24, .ref 25, .int (nI T.2.2.1)]), rowI 8 (T.2.2.2 0), rowI 8 (T.2.2.2 1), rowI 8 (T.2.2.2 2), rowI 8 (T.2.2.2 3),
  rowI 8 g,
  .inr (4, [.ref 28, .ref 29, .ref 30, .ref 31, .ref 32, .ref 33, .ref 34, .ref 35, .int (nI (P.2 0)), .int (nI (P.2 1)), .int (nI (P.2 2)), .int (nI (P.2 3))]), rowI 4 (P.1 0), rowI 8 (P.1 1), rowI 12 (P.1 2), rowI 12 (P.1 3), rowI 12 (P.1 4), rowI 12 (P.1 5), rowI 8 (P.1 6), rowI 8 (P.1 7),
  .inr (4, [.ref 37, .ref 38, .ref 39, .ref 40, .ref 41, .ref 42, .ref 43, .ref 44, .int (nI (S.2 0)), .int (nI (S.2 1)), .int (nI (S.2 2)), .int (nI (S.2 3))]), rowI 4 (S.1 0), rowI 8 (S.1 1), rowI 12 (S.1 2), rowI 12 (S.1 3), rowI 12 (S.1 4), rowI 12 (S.1 5), rowI 8 (S.1 6), rowI 8 (S.1 7)]
def SfOK (X : TextT) (Q I0 I1 : ClothT) (B : BookT) (T : PaintT) (g : Nat → Nat) (P : PlanT) (kp : Nat) : Prop := PlanOK P ∧ ClothOK Q ∧ ClothOK I0 ∧ ClothOK I1 ∧ BookOK B ∧ PaintOK T ∧ (∀ j, g j < 16) ∧ kp < 4 ∧ X.2 0 ≤ 500
def cU : Int32 := -1000000001
def cO : Int32 := -1000000002
def cN : Int32 := -1000000003
def cF : Int32 := -1000000004
abbrev ix (x : Int32) : Nat := x.toNatClampNeg
set_option maxHeartbeats 4000000 in
set_option maxRecDepth 20000 in
theorem ct_X8_fault (l : Launch) (X : TextT) (Q I0 I1 : ClothT) (B : BookT) (Z : CutT) (Y : Nat × Nat) (W V : Int32) (U : Nat → Nat) (T : PaintT) (g : Nat → Nat) (P S : PlanT) (kp : Nat) (hok : SfOK X Q I0 I1 B T g P kp) : Ct l 0 yX8_fault cX8_fault 1 (some .int) [.ref 0] (sfW X Q I0 I1 B Z Y W V U T g P S kp) (RV (.int (nI (X.2 2))) (sfW X Q I0 I1 B Z Y W V U T g P S kp)) := by
  refine Ct.of (by decide) (Nat.le_of_ble_eq_true rfl) (fun K hC hR => ?_)
  show K 0 [(0, .ref 0)] [] _
  refine hC.aload_n dX8_fault_0 rfl ?_
  refine hC.getfield dX8_fault_1 lfX8_12 rfl rfl ?_
  refine hC.getfield dX8_fault_4 lfX8_113 rfl rfl ?_
  exact hR.ireturn dX8_fault_7 ⟨rfl, rfl⟩
theorem y_ne {y : Int32} {k : Nat} (hk : k < 100) (h : ¬ y = nI k) : y.toInt ≠ k := by
  intro e
  apply h
  apply Int32.toInt_inj.mp
  rw [e, nI_toInt (by omega)]
def sSeam (P : PlanT) (Q : ClothT) (x y : Int32) : Int32 := if inB x (P.2 2) = true then (if y = nI 0 then nI (P.1 2 (ix x)) else if y = nI 1 then nI (P.1 3 (ix x)) else if y = nI 2 then nI (Q.1 (ix x)) else if y = nI 3 then nI (Q.2.2.1.testBit (ix x)).toNat else cO) else cU
set_option maxHeartbeats 4000000 in
set_option maxRecDepth 20000 in
theorem ct_X8_seam (l : Launch) (X : TextT) (Q I0 I1 : ClothT) (B : BookT) (Z : CutT) (Y : Nat × Nat) (W V : Int32) (U : Nat → Nat) (T : PaintT) (g : Nat → Nat) (P S : PlanT) (kp : Nat) (hok : SfOK X Q I0 I1 B T g P kp) (x y : Int32) : Ct l 1 yX8_seam cX8_seam 3 (some .int) [.ref 0, .int x, .int y] (sfW X Q I0 I1 B Z Y W V U T g P S kp) (RV (.int (sSeam P Q x y)) (sfW X Q I0 I1 B Z Y W V U T g P S kp)) := by
  refine Ct.of (by decide) (Nat.le_of_ble_eq_true rfl) (fun K hC hR => ?_)
  show K 0 [(0, .ref 0), (1, .int x), (2, .int y)] [] _
  obtain ⟨hP, hQ, -⟩ := hok
  have h12 := hP.2.2.1
  refine hC.aload_n dX8_seam_0 rfl ?_
  refine hC.getfield dX8_seam_1 lfX8_69 rfl rfl ?_
  refine hC.iload_n dX8_seam_4 rfl ?_
  refine hC.rdV [27, 28, 29, 30, 31, 32, 33, 34, 35] dX8_seam_5 lmX8_135 mkX4_hasSeam svX4_hasSeam (ct_X4_hasSeam l P h12 x) ⟨Nat.le_of_ble_eq_true rfl, Nat.le_of_ble_eq_true rfl⟩ rfl rfl (Nat.le_of_ble_eq_true rfl) ⟨by decide, rfl⟩ rfl rfl ?_
  refine hC.bnz dX8_seam_8 (tgt := 14) rfl (fun c1 => ?_) (fun c1 => ?_)
  · obtain ⟨j, hj, rfl⟩ := inB_of c1 (by omega)
    have hix : ix (nI j) = j := nI_clamp (by omega)
    rw [sSeam, if_pos c1, hix] at hR
    have hh := hQ.2.2.1
    refine hC.iload_n dX8_seam_14 rfl ?_
    by_cases y0 : y = nI 0
    · subst y0
      rw [if_pos rfl] at hR
      refine hC.tabIn dX8_seam_15 (off := 29) (tgt := 44) (by decide) (by decide) rfl rfl ?_
      refine hC.aload_n dX8_seam_44 rfl ?_
      refine hC.getfield dX8_seam_45 lfX8_69 rfl rfl ?_
      refine hC.getfield dX8_seam_48 lfX8_139 rfl rfl ?_
      refine hC.iload_n dX8_seam_51 rfl ?_
      refine hC.iaN dX8_seam_52 rfl ⟨by omega, by decide⟩ ?_
      exact hR.ireturn dX8_seam_53 ⟨rfl, rfl⟩
    · rw [if_neg y0] at hR
      by_cases y1 : y = nI 1
      · subst y1
        rw [if_pos rfl] at hR
        refine hC.tabIn dX8_seam_15 (off := 39) (tgt := 54) (by decide) (by decide) rfl rfl ?_
        refine hC.aload_n dX8_seam_54 rfl ?_
        refine hC.getfield dX8_seam_55 lfX8_69 rfl rfl ?_
        refine hC.getfield dX8_seam_58 lfX8_142 rfl rfl ?_
        refine hC.iload_n dX8_seam_61 rfl ?_
        refine hC.iaN dX8_seam_62 rfl ⟨by omega, by decide⟩ ?_
        exact hR.ireturn dX8_seam_63 ⟨rfl, rfl⟩
      · rw [if_neg y1] at hR
        by_cases y2 : y = nI 2
        · subst y2
          rw [if_pos rfl] at hR
          refine hC.tabIn dX8_seam_15 (off := 49) (tgt := 64) (by decide) (by decide) rfl rfl ?_
          refine hC.aload_n dX8_seam_64 rfl ?_
          refine hC.getfield dX8_seam_65 lfX8_19 rfl rfl ?_
          refine hC.getfield dX8_seam_68 lfX8_145 rfl rfl ?_
          refine hC.iload_n dX8_seam_71 rfl ?_
          refine hC.iaN dX8_seam_72 rfl ⟨by omega, by decide⟩ ?_
          exact hR.ireturn dX8_seam_73 ⟨rfl, rfl⟩
        · rw [if_neg y2] at hR
          by_cases y3 : y = nI 3
          · subst y3
            rw [if_pos rfl] at hR
            refine hC.tabIn dX8_seam_15 (off := 59) (tgt := 74) (by decide) (by decide) rfl rfl ?_
            refine hC.aload_n dX8_seam_74 rfl ?_
            refine hC.getfield dX8_seam_75 lfX8_19 rfl rfl ?_
            refine hC.getfield dX8_seam_78 lfX8_128 rfl rfl ?_
            refine hC.iload_n dX8_seam_81 rfl ?_
            refine hC.rdS [] dX8_seam_82 lmX8_148 mkX8_has sxX8_has (ct_X8_has l Q.2.2.1 j (by omega) (by omega)) ⟨Nat.le_of_ble_eq_true rfl, Nat.le_of_ble_eq_true rfl⟩ rfl rfl (Nat.le_of_ble_eq_true rfl) ⟨by decide, rfl⟩ ?_
            refine hC.bz dX8_seam_85 (tgt := 92) rfl (fun c2 => ?_) (fun c2 => ?_)
            · refine hC.iconst dX8_seam_92 (v := nI 0) rfl ?_
              exact hR.ireturn dX8_seam_93 ⟨by rw [c2] <;> rfl, rfl⟩
            · refine hC.iconst dX8_seam_88 (v := nI 1) rfl ?_
              refine hC.goto dX8_seam_89 (tgt := 93) rfl ?_
              exact hR.ireturn dX8_seam_93 ⟨by rw [c2] <;> rfl, rfl⟩
          · rw [if_neg y3] at hR
            have n0 := y_ne (by decide) y0
            have n1 := y_ne (by decide) y1
            have n2 := y_ne (by decide) y2
            have n3 := y_ne (by decide) y3
            refine hC.tabOut dX8_seam_15 (tgt := 94) (by omega) rfl ?_
            refine hC.ldc dX8_seam_94 lcX8_76 ?_
            exact hR.ireturn dX8_seam_96 ⟨rfl, rfl⟩
  · refine hC.ldc dX8_seam_11 lcX8_138 ?_
    exact hR.ireturn dX8_seam_13 ⟨by rw [sSeam, if_neg (by simp [c1])] <;> rfl, rfl⟩
theorem rng {x : Int32} {n : Nat} (hn : n < 2 ^ 30) (h1 : ¬ x < 0) (h2 : x ≤ nI n) : ∃ j, j ≤ n ∧ x = nI j := by
  obtain ⟨j, hj, rfl⟩ := nI_of h1
  exact ⟨j, (nI_leI hj (by omega)).mp h2, rfl⟩
theorem le_nI_iff2 (x : Int32) {n : Nat} (hn : n < 2 ^ 31) : x ≤ nI n ↔ x.toInt ≤ (n : Int) := by rw [Int32.le_iff_toInt_le, nI_toInt hn]
set_option maxHeartbeats 4000000 in
set_option maxRecDepth 20000 in
theorem ct_X8_flies (l : Launch) (X : TextT) (Q I0 I1 : ClothT) (B : BookT) (Z : CutT) (Y : Nat × Nat) (W V : Int32) (U : Nat → Nat) (T : PaintT) (g : Nat → Nat) (P S : PlanT) (kp : Nat) (hok : SfOK X Q I0 I1 B T g P kp) (x : Int32) : Ct l 3 yX8_flies cX8_flies 2 (some .int) [.ref 0, .int x] (sfW X Q I0 I1 B Z Y W V U T g P S kp) (RV (.int (@ite _ (0 ≤ x.toInt ∧ x.toInt ≤ 9) (Classical.propDecidable _) (nI (flyF (P.1 5) 12 (thF Q.1 (ix x)))) cO)) (sfW X Q I0 I1 B Z Y W V U T g P S kp)) := by
  refine Ct.of (by decide) (Nat.le_of_ble_eq_true rfl) (fun K hC hR => ?_)
  show K 0 [(0, .ref 0), (1, .int x)] [] _
  obtain ⟨hP, hQ, -⟩ := hok
  have e1 := lt0_iff x
  have e2 := le_nI_iff2 x (n := 9) (by decide)
  have bad : ¬ (0 ≤ x.toInt ∧ x.toInt ≤ 9) → K 10 [(0, .ref 0), (1, .int x)] [] (sfW X Q I0 I1 B Z Y W V U T g P S kp) := by
    intro hne
    rw [if_neg hne] at hR
    refine hC.ldc dX8_flies_10 lcX8_76 ?_
    exact hR.ireturn dX8_flies_12 ⟨rfl, rfl⟩
  refine hC.iload_n dX8_flies_0 rfl ?_
  refine hC.if_lt dX8_flies_1 (tgt := 10) rfl (fun c1 => ?_) (fun c1 => ?_)
  · exact bad (by rw [e1] at c1; omega)
  · refine hC.iload_n dX8_flies_4 rfl ?_
    refine hC.bipush dX8_flies_5 (v := nI 9) rfl ?_
    refine hC.icmp_le dX8_flies_7 (tgt := 13) rfl (fun c2 => ?_) (fun c2 => ?_)
    · obtain ⟨j, hj, rfl⟩ := rng (by decide) c1 c2
      have hix : ix (nI j) = j := nI_clamp (by omega)
      rw [if_pos (by rw [e1] at c1; rw [e2] at c2; omega), hix] at hR
      refine hC.aload_n dX8_flies_13 rfl ?_
      refine hC.getfield dX8_flies_14 lfX8_69 rfl rfl ?_
      refine hC.aload_n dX8_flies_17 rfl ?_
      refine hC.getfield dX8_flies_18 lfX8_19 rfl rfl ?_
      refine hC.iload_n dX8_flies_21 rfl ?_
      refine hC.rdV [3, 4, 5] dX8_flies_22 lmX8_164 mkX1_holding svX1_holding (ct_X1_holding l Q hQ j (by omega)) ⟨Nat.le_of_ble_eq_true rfl, Nat.le_of_ble_eq_true rfl⟩ rfl rfl (Nat.le_of_ble_eq_true rfl) ⟨by decide, rfl⟩ rfl rfl ?_
      refine hC.rdV [27, 28, 29, 30, 31, 32, 33, 34, 35] dX8_flies_25 lmX8_168 mkX4_flying svX4_flying (ct_X4_flying l P hP (thF Q.1 j) (thF_lt _ _)) ⟨Nat.le_of_ble_eq_true rfl, Nat.le_of_ble_eq_true rfl⟩ rfl rfl (Nat.le_of_ble_eq_true rfl) ⟨by decide, rfl⟩ rfl rfl ?_
      exact hR.ireturn dX8_flies_28 ⟨rfl, rfl⟩
    · exact bad (by rw [e2] at c2; omega)
set_option maxHeartbeats 4000000 in
set_option maxRecDepth 20000 in
theorem ct_X8_tear (l : Launch) (X : TextT) (Q I0 I1 : ClothT) (B : BookT) (Z : CutT) (Y : Nat × Nat) (W V : Int32) (U : Nat → Nat) (T : PaintT) (g : Nat → Nat) (P S : PlanT) (kp : Nat) (hok : SfOK X Q I0 I1 B T g P kp) : Ct l 0 yX8_tear cX8_tear 2 (some .int) [.ref 0] (sfW X Q I0 I1 B Z Y W V U T g P S kp) (RV (.int (nI B.2.2)) (sfW X Q I0 I1 (B.1, B.2.1, 0) Z Y W V U T g P S kp)) := by
  refine Ct.of (by decide) (Nat.le_of_ble_eq_true rfl) (fun K hC hR => ?_)
  show K 0 [(0, .ref 0)] [] _
  refine hC.aload_n dX8_tear_0 rfl ?_
  refine hC.getfield dX8_tear_1 lfX8_30 rfl rfl ?_
  refine hC.getfield dX8_tear_4 lfX8_104 rfl rfl ?_
  refine hC.istore_n dX8_tear_7 (by decide) ?_
  refine hC.aload_n dX8_tear_8 rfl ?_
  refine hC.getfield dX8_tear_9 lfX8_30 rfl rfl ?_
  refine hC.iconst dX8_tear_12 (v := nI 0) rfl ?_
  refine hC.putI dX8_tear_13 lpX8_104 rfl rfl rfl (Nat.le_of_ble_eq_true rfl) ?_
  refine hC.iload_n dX8_tear_16 rfl ?_
  exact hR.ireturn dX8_tear_17 ⟨rfl, rfl⟩
set_option maxHeartbeats 4000000 in
set_option maxRecDepth 20000 in
theorem ct_X8_judge (l : Launch) (X : TextT) (Q I0 I1 : ClothT) (B : BookT) (Z : CutT) (Y : Nat × Nat) (W V : Int32) (U : Nat → Nat) (T : PaintT) (g : Nat → Nat) (P S : PlanT) (kp : Nat) (hok : SfOK X Q I0 I1 B T g P kp) : Ct l 4 yX8_judge cX8_judge 1 (some .int) [.ref 0] (sfW X Q I0 I1 B Z Y W V U T g P S kp) (RV (.int (nI (jgL B P (thF Q.1 0) Q.2.2.1 B.2.2))) (sfW X Q I0 I1 B Z Y W V U T g P S kp)) := by
  refine Ct.of (by decide) (Nat.le_of_ble_eq_true rfl) (fun K hC hR => ?_)
  show K 0 [(0, .ref 0)] [] _
  refine hC.aload_n dX8_judge_0 rfl ?_
  refine hC.getfield dX8_judge_1 lfX8_30 rfl rfl ?_
  refine hC.aload_n dX8_judge_4 rfl ?_
  refine hC.getfield dX8_judge_5 lfX8_69 rfl rfl ?_
  refine hC.aload_n dX8_judge_8 rfl ?_
  refine hC.getfield dX8_judge_9 lfX8_19 rfl rfl ?_
  refine hC.rdV [13, 14, 15, 27, 28, 29, 30, 31, 32, 33, 34, 35, 3, 4, 5] dX8_judge_12 lmX8_262 mkX0_firstWrong svX0_firstWrong (ct_X0_firstWrong l B P Q hok.2.2.2.2.1 hok.1 hok.2.1) ⟨Nat.le_of_ble_eq_true rfl, Nat.le_of_ble_eq_true rfl⟩ rfl rfl (Nat.le_of_ble_eq_true rfl) ⟨by decide, rfl⟩ rfl rfl ?_
  exact hR.ireturn dX8_judge_15 ⟨rfl, rfl⟩
