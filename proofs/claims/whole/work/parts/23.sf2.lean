/-! StripFlag: what is done -/
theorem out_rng {x : Int32} {n : Nat} (hn : n < 2 ^ 30) : (0 ≤ x.toInt ∧ x.toInt ≤ (n : Int)) ↔ (¬ x < 0 ∧ x ≤ nI n) := by
  rw [lt0_iff, le_nI_iff2 x (by omega)]; omega
/-- x is one of 0 .. n -/
def inR (x : Int32) (n : Nat) : Bool := inB x (n + 1)
theorem inR_f1 {x : Int32} {n : Nat} (h : x < 0) : inR x n = false := by
  rw [lt0_iff] at h
  unfold inR inB; simp; omega
theorem inR_f2 {x : Int32} {n : Nat} (hn : n < 2 ^ 30) (h : ¬ x ≤ nI n) : inR x n = false := by
  rw [le_nI_iff2 x (by omega)] at h
  unfold inR inB; simp; omega
theorem inR_t {x : Int32} {n : Nat} (hn : n < 2 ^ 30) (h1 : ¬ x < 0) (h2 : x ≤ nI n) : inR x n = true ∧ ∃ j, j ≤ n ∧ x = nI j := by
  refine ⟨?_, rng hn h1 h2⟩
  rw [lt0_iff] at h1
  rw [le_nI_iff2 x (by omega)] at h2
  unfold inR inB; simp; omega
def sStrip (P : PlanT) (Q : ClothT) (g : Nat → Nat) (x y : Int32) : Int32 := if inB x (P.2 1) = true then (if y = nI 0 then nI (Q.2.1 (ix x)) else if y = nI 1 then nI (crossF P (2 ^ ix x) (thF Q.1 0)) else if y = nI 2 then nI (bdF P (ix x) (thF Q.1 0)) else if y = nI 3 then nI (g (ix x)) else cO) else cU
set_option maxHeartbeats 4000000 in
set_option maxRecDepth 20000 in
theorem ct_X8_strip (l : Launch) (X : TextT) (Q I0 I1 : ClothT) (B : BookT) (Z : CutT) (Y : Nat × Nat) (W V : Int32) (U : Nat → Nat) (T : PaintT) (g : Nat → Nat) (P S : PlanT) (kp : Nat) (hok : SfOK X Q I0 I1 B T g P kp) (x y : Int32) : Ct l 3 yX8_strip cX8_strip 3 (some .int) [.ref 0, .int x, .int y] (sfW X Q I0 I1 B Z Y W V U T g P S kp) (RV (.int (sStrip P Q g x y)) (sfW X Q I0 I1 B Z Y W V U T g P S kp)) := by
  refine Ct.of (by decide) (Nat.le_of_ble_eq_true rfl) (fun K hC hR => ?_)
  show K 0 [(0, .ref 0), (1, .int x), (2, .int y)] [] _
  obtain ⟨hP, hQ, -⟩ := hok
  have h8 := hP.2.1
  refine hC.aload_n dX8_strip_0 rfl ?_
  refine hC.getfield dX8_strip_1 lfX8_69 rfl rfl ?_
  refine hC.iload_n dX8_strip_4 rfl ?_
  refine hC.rdV [27, 28, 29, 30, 31, 32, 33, 34, 35] dX8_strip_5 lmX8_152 mkX4_hasStrip svX4_hasStrip (ct_X4_hasStrip l P h8 x) ⟨Nat.le_of_ble_eq_true rfl, Nat.le_of_ble_eq_true rfl⟩ rfl rfl (Nat.le_of_ble_eq_true rfl) ⟨by decide, rfl⟩ rfl rfl ?_
  refine hC.bnz dX8_strip_8 (tgt := 14) rfl (fun c1 => ?_) (fun c1 => ?_)
  · obtain ⟨j, hj, rfl⟩ := inB_of c1 (by omega)
    have hix : ix (nI j) = j := nI_clamp (by omega)
    rw [sStrip, if_pos c1, hix] at hR
    refine hC.iload_n dX8_strip_14 rfl ?_
    by_cases y0 : y = nI 0
    · subst y0
      rw [if_pos rfl] at hR
      refine hC.tabIn dX8_strip_15 (off := 29) (tgt := 44) (by decide) (by decide) rfl rfl ?_
      refine hC.aload_n dX8_strip_44 rfl ?_
      refine hC.getfield dX8_strip_45 lfX8_19 rfl rfl ?_
      refine hC.getfield dX8_strip_48 lfX8_155 rfl rfl ?_
      refine hC.iload_n dX8_strip_51 rfl ?_
      refine hC.iaN dX8_strip_52 rfl ⟨by omega, by decide⟩ ?_
      exact hR.ireturn dX8_strip_53 ⟨rfl, rfl⟩
    · rw [if_neg y0] at hR
      by_cases y1 : y = nI 1
      · subst y1
        rw [if_pos rfl] at hR
        refine hC.tabIn dX8_strip_15 (off := 39) (tgt := 54) (by decide) (by decide) rfl rfl ?_
        refine hC.aload_n dX8_strip_54 rfl ?_
        refine hC.getfield dX8_strip_55 lfX8_69 rfl rfl ?_
        refine hC.iload_n dX8_strip_58 rfl ?_
        refine hC.aload_n dX8_strip_59 rfl ?_
        refine hC.getfield dX8_strip_60 lfX8_19 rfl rfl ?_
        refine hC.rdV [3, 4, 5] dX8_strip_63 lmX8_125 mkX1_sewn svX1_sewn (ct_X1_sewn l Q hQ) ⟨Nat.le_of_ble_eq_true rfl, Nat.le_of_ble_eq_true rfl⟩ rfl rfl (Nat.le_of_ble_eq_true rfl) ⟨by decide, rfl⟩ rfl rfl ?_
        refine hC.rdV [27, 28, 29, 30, 31, 32, 33, 34, 35] dX8_strip_66 lmX8_157 mkX4_seamsOf svX4_seamsOf (ct_X4_seamsOf l P hP j (thF Q.1 0) (by omega) (thF_lt _ _)) ⟨Nat.le_of_ble_eq_true rfl, Nat.le_of_ble_eq_true rfl⟩ rfl rfl (Nat.le_of_ble_eq_true rfl) ⟨by decide, rfl⟩ rfl rfl ?_
        exact hR.ireturn dX8_strip_69 ⟨rfl, rfl⟩
      · rw [if_neg y1] at hR
        by_cases y2 : y = nI 2
        · subst y2
          rw [if_pos rfl] at hR
          refine hC.tabIn dX8_strip_15 (off := 55) (tgt := 70) (by decide) (by decide) rfl rfl ?_
          refine hC.aload_n dX8_strip_70 rfl ?_
          refine hC.getfield dX8_strip_71 lfX8_69 rfl rfl ?_
          refine hC.iload_n dX8_strip_74 rfl ?_
          refine hC.aload_n dX8_strip_75 rfl ?_
          refine hC.getfield dX8_strip_76 lfX8_19 rfl rfl ?_
          refine hC.rdV [3, 4, 5] dX8_strip_79 lmX8_125 mkX1_sewn svX1_sewn (ct_X1_sewn l Q hQ) ⟨Nat.le_of_ble_eq_true rfl, Nat.le_of_ble_eq_true rfl⟩ rfl rfl (Nat.le_of_ble_eq_true rfl) ⟨by decide, rfl⟩ rfl rfl ?_
          refine hC.rdV [27, 28, 29, 30, 31, 32, 33, 34, 35] dX8_strip_82 lmX8_161 mkX4_bordering svX4_bordering (ct_X4_bordering l P hP j (thF Q.1 0) (by omega) (thF_lt _ _)) ⟨Nat.le_of_ble_eq_true rfl, Nat.le_of_ble_eq_true rfl⟩ rfl rfl (Nat.le_of_ble_eq_true rfl) ⟨by decide, rfl⟩ rfl rfl ?_
          exact hR.ireturn dX8_strip_85 ⟨rfl, rfl⟩
        · rw [if_neg y2] at hR
          by_cases y3 : y = nI 3
          · subst y3
            rw [if_pos rfl] at hR
            refine hC.tabIn dX8_strip_15 (off := 71) (tgt := 86) (by decide) (by decide) rfl rfl ?_
            refine hC.aload_n dX8_strip_86 rfl ?_
            refine hC.getfield dX8_strip_87 lfX8_62 rfl rfl ?_
            refine hC.iload_n dX8_strip_90 rfl ?_
            refine hC.iaN dX8_strip_91 rfl ⟨by omega, by decide⟩ ?_
            exact hR.ireturn dX8_strip_92 ⟨rfl, rfl⟩
          · rw [if_neg y3] at hR
            have n0 := y_ne (by decide) y0
            have n1 := y_ne (by decide) y1
            have n2 := y_ne (by decide) y2
            have n3 := y_ne (by decide) y3
            refine hC.tabOut dX8_strip_15 (tgt := 93) (by omega) rfl ?_
            refine hC.ldc dX8_strip_93 lcX8_76 ?_
            exact hR.ireturn dX8_strip_95 ⟨rfl, rfl⟩
  · refine hC.ldc dX8_strip_11 lcX8_138 ?_
    exact hR.ireturn dX8_strip_13 ⟨by rw [sStrip, if_neg (by simp [c1])] <;> rfl, rfl⟩
def sTold (X : TextT) (P : PlanT) (Q : ClothT) (B : BookT) (x : Int32) : Int32 := if x = nI 0 then nI (P.2 0) else if x = nI 1 then nI (P.2 1) else if x = nI 2 then nI (P.2 2) else if x = nI 3 then nI (P.2 3) else if x = nI 4 then nI (X.2 0) else if x = nI 5 then nI (thF Q.1 0) else if x = nI 6 then nI Q.2.2.1 else if x = nI 7 then nI (costF Q P (P.2 1)) else if x = nI 8 then nI B.2.2 else cO
set_option maxHeartbeats 4000000 in
set_option maxRecDepth 20000 in
theorem ct_X8_told (l : Launch) (X : TextT) (Q I0 I1 : ClothT) (B : BookT) (Z : CutT) (Y : Nat × Nat) (W V : Int32) (U : Nat → Nat) (T : PaintT) (g : Nat → Nat) (P S : PlanT) (kp : Nat) (hok : SfOK X Q I0 I1 B T g P kp) (x : Int32) : Ct l 4 yX8_told cX8_told 2 (some .int) [.ref 0, .int x] (sfW X Q I0 I1 B Z Y W V U T g P S kp) (RV (.int (sTold X P Q B x)) (sfW X Q I0 I1 B Z Y W V U T g P S kp)) := by
  refine Ct.of (by decide) (Nat.le_of_ble_eq_true rfl) (fun K hC hR => ?_)
  show K 0 [(0, .ref 0), (1, .int x)] [] _
  obtain ⟨hP, hQ, -⟩ := hok
  rw [sTold] at hR
  refine hC.iload_n dX8_told_0 rfl ?_
  by_cases x0 : x = nI 0
  · subst x0
    rw [if_pos rfl] at hR
    refine hC.tabIn dX8_told_1 (off := 51) (tgt := 52) (by decide) (by decide) rfl rfl ?_
    refine hC.aload_n dX8_told_52 rfl ?_
    refine hC.getfield dX8_told_53 lfX8_69 rfl rfl ?_
    refine hC.getfield dX8_told_56 lfX8_116 rfl rfl ?_
    exact hR.ireturn dX8_told_59 ⟨rfl, rfl⟩
  rw [if_neg x0] at hR
  by_cases x1 : x = nI 1
  · subst x1
    rw [if_pos rfl] at hR
    refine hC.tabIn dX8_told_1 (off := 59) (tgt := 60) (by decide) (by decide) rfl rfl ?_
    refine hC.aload_n dX8_told_60 rfl ?_
    refine hC.getfield dX8_told_61 lfX8_69 rfl rfl ?_
    refine hC.getfield dX8_told_64 lfX8_110 rfl rfl ?_
    exact hR.ireturn dX8_told_67 ⟨rfl, rfl⟩
  rw [if_neg x1] at hR
  by_cases x2 : x = nI 2
  · subst x2
    rw [if_pos rfl] at hR
    refine hC.tabIn dX8_told_1 (off := 67) (tgt := 68) (by decide) (by decide) rfl rfl ?_
    refine hC.aload_n dX8_told_68 rfl ?_
    refine hC.getfield dX8_told_69 lfX8_69 rfl rfl ?_
    refine hC.getfield dX8_told_72 lfX8_119 rfl rfl ?_
    exact hR.ireturn dX8_told_75 ⟨rfl, rfl⟩
  rw [if_neg x2] at hR
  by_cases x3 : x = nI 3
  · subst x3
    rw [if_pos rfl] at hR
    refine hC.tabIn dX8_told_1 (off := 75) (tgt := 76) (by decide) (by decide) rfl rfl ?_
    refine hC.aload_n dX8_told_76 rfl ?_
    refine hC.getfield dX8_told_77 lfX8_69 rfl rfl ?_
    refine hC.getfield dX8_told_80 lfX8_122 rfl rfl ?_
    exact hR.ireturn dX8_told_83 ⟨rfl, rfl⟩
  rw [if_neg x3] at hR
  by_cases x4 : x = nI 4
  · subst x4
    rw [if_pos rfl] at hR
    refine hC.tabIn dX8_told_1 (off := 83) (tgt := 84) (by decide) (by decide) rfl rfl ?_
    refine hC.aload_n dX8_told_84 rfl ?_
    refine hC.getfield dX8_told_85 lfX8_12 rfl rfl ?_
    refine hC.getfield dX8_told_88 lfX8_86 rfl rfl ?_
    exact hR.ireturn dX8_told_91 ⟨rfl, rfl⟩
  rw [if_neg x4] at hR
  by_cases x5 : x = nI 5
  · subst x5
    rw [if_pos rfl] at hR
    refine hC.tabIn dX8_told_1 (off := 91) (tgt := 92) (by decide) (by decide) rfl rfl ?_
    refine hC.aload_n dX8_told_92 rfl ?_
    refine hC.getfield dX8_told_93 lfX8_19 rfl rfl ?_
    refine hC.rdV [3, 4, 5] dX8_told_96 lmX8_125 mkX1_sewn svX1_sewn (ct_X1_sewn l Q hQ) ⟨Nat.le_of_ble_eq_true rfl, Nat.le_of_ble_eq_true rfl⟩ rfl rfl (Nat.le_of_ble_eq_true rfl) ⟨by decide, rfl⟩ rfl rfl ?_
    exact hR.ireturn dX8_told_99 ⟨rfl, rfl⟩
  rw [if_neg x5] at hR
  by_cases x6 : x = nI 6
  · subst x6
    rw [if_pos rfl] at hR
    refine hC.tabIn dX8_told_1 (off := 99) (tgt := 100) (by decide) (by decide) rfl rfl ?_
    refine hC.aload_n dX8_told_100 rfl ?_
    refine hC.getfield dX8_told_101 lfX8_19 rfl rfl ?_
    refine hC.getfield dX8_told_104 lfX8_128 rfl rfl ?_
    exact hR.ireturn dX8_told_107 ⟨rfl, rfl⟩
  rw [if_neg x6] at hR
  by_cases x7 : x = nI 7
  · subst x7
    rw [if_pos rfl] at hR
    refine hC.tabIn dX8_told_1 (off := 107) (tgt := 108) (by decide) (by decide) rfl rfl ?_
    refine hC.aload_n dX8_told_108 rfl ?_
    refine hC.getfield dX8_told_109 lfX8_19 rfl rfl ?_
    refine hC.aload_n dX8_told_112 rfl ?_
    refine hC.getfield dX8_told_113 lfX8_69 rfl rfl ?_
    refine hC.rdV [3, 4, 5, 27, 28, 29, 30, 31, 32, 33, 34, 35] dX8_told_116 lmX8_131 mkX1_cost svX1_cost (ct_X1_cost l Q P hQ hP) ⟨Nat.le_of_ble_eq_true rfl, Nat.le_of_ble_eq_true rfl⟩ rfl rfl (Nat.le_of_ble_eq_true rfl) ⟨by decide, rfl⟩ rfl rfl ?_
    exact hR.ireturn dX8_told_119 ⟨rfl, rfl⟩
  rw [if_neg x7] at hR
  by_cases x8 : x = nI 8
  · subst x8
    rw [if_pos rfl] at hR
    refine hC.tabIn dX8_told_1 (off := 119) (tgt := 120) (by decide) (by decide) rfl rfl ?_
    refine hC.aload_n dX8_told_120 rfl ?_
    refine hC.getfield dX8_told_121 lfX8_30 rfl rfl ?_
    refine hC.getfield dX8_told_124 lfX8_104 rfl rfl ?_
    exact hR.ireturn dX8_told_127 ⟨rfl, rfl⟩
  rw [if_neg x8] at hR
  have n0 := y_ne (by decide) x0
  have n1 := y_ne (by decide) x1
  have n2 := y_ne (by decide) x2
  have n3 := y_ne (by decide) x3
  have n4 := y_ne (by decide) x4
  have n5 := y_ne (by decide) x5
  have n6 := y_ne (by decide) x6
  have n7 := y_ne (by decide) x7
  have n8 := y_ne (by decide) x8
  refine hC.tabOut dX8_told_1 (tgt := 128) (by omega) rfl ?_
  refine hC.ldc dX8_told_128 lcX8_76 ?_
  exact hR.ireturn dX8_told_130 ⟨rfl, rfl⟩
/-- unpick: may it be; the cloth behind it -/
def mayU (P : PlanT) (Q : ClothT) (x y : Int32) : Bool := (upF P (ix x) (thF Q.1 0) Q.2.2.1).testBit (ix y)
def sUnp (P : PlanT) (Q : ClothT) (x y : Int32) : Int32 × ClothT := if (inB x (P.2 1) && inB y (P.2 2)) = true then (if mayU P Q x y = true then (nI (cd (thF (updN Q.1 (ix y) 0) 0)), (updN Q.1 (ix y) 0, Q.2)) else (cN, Q)) else (cU, Q)
theorem upd0_ok {Q : ClothT} (h : ClothOK Q) (s : Nat) : ClothOK (updN Q.1 s 0, Q.2) := by
  refine ⟨fun j => ?_, h.2⟩
  have := h.1 j
  show updN Q.1 s 0 j ≤ 9
  unfold updN; split <;> omega
set_option maxHeartbeats 4000000 in
set_option maxRecDepth 20000 in
theorem ct_X8_unpick (l : Launch) (X : TextT) (Q I0 I1 : ClothT) (B : BookT) (Z : CutT) (Y : Nat × Nat) (W V : Int32) (U : Nat → Nat) (T : PaintT) (g : Nat → Nat) (P S : PlanT) (kp : Nat) (hok : SfOK X Q I0 I1 B T g P kp) (x y : Int32) : Ct l 3 yX8_unpick cX8_unpick 3 (some .int) [.ref 0, .int x, .int y] (sfW X Q I0 I1 B Z Y W V U T g P S kp) (RV (.int (sUnp P Q x y).1) (sfW X (sUnp P Q x y).2 I0 I1 B Z Y W V U T g P S kp)) := by
  refine Ct.of (by decide) (Nat.le_of_ble_eq_true rfl) (fun K hC hR => ?_)
  show K 0 [(0, .ref 0), (1, .int x), (2, .int y)] [] _
  obtain ⟨hP, hQ, -⟩ := hok
  have h8 := hP.2.1
  have h12 := hP.2.2.1
  have bad : ¬ (inB x (P.2 1) && inB y (P.2 2)) = true → K 22 [(0, .ref 0), (1, .int x), (2, .int y)] [] (sfW X Q I0 I1 B Z Y W V U T g P S kp) := by
    intro hne
    rw [sUnp, if_neg hne] at hR
    refine hC.ldc dX8_unpick_22 lcX8_138 ?_
    exact hR.ireturn dX8_unpick_24 ⟨rfl, rfl⟩
  refine hC.aload_n dX8_unpick_0 rfl ?_
  refine hC.getfield dX8_unpick_1 lfX8_69 rfl rfl ?_
  refine hC.iload_n dX8_unpick_4 rfl ?_
  refine hC.rdV [27, 28, 29, 30, 31, 32, 33, 34, 35] dX8_unpick_5 lmX8_152 mkX4_hasStrip svX4_hasStrip (ct_X4_hasStrip l P h8 x) ⟨Nat.le_of_ble_eq_true rfl, Nat.le_of_ble_eq_true rfl⟩ rfl rfl (Nat.le_of_ble_eq_true rfl) ⟨by decide, rfl⟩ rfl rfl ?_
  refine hC.bz dX8_unpick_8 (tgt := 22) rfl (fun c1 => ?_) (fun c1 => ?_)
  · exact bad (by simp [c1])
  · refine hC.aload_n dX8_unpick_11 rfl ?_
    refine hC.getfield dX8_unpick_12 lfX8_69 rfl rfl ?_
    refine hC.iload_n dX8_unpick_15 rfl ?_
    refine hC.rdV [27, 28, 29, 30, 31, 32, 33, 34, 35] dX8_unpick_16 lmX8_135 mkX4_hasSeam svX4_hasSeam (ct_X4_hasSeam l P h12 y) ⟨Nat.le_of_ble_eq_true rfl, Nat.le_of_ble_eq_true rfl⟩ rfl rfl (Nat.le_of_ble_eq_true rfl) ⟨by decide, rfl⟩ rfl rfl ?_
    refine hC.bnz dX8_unpick_19 (tgt := 25) rfl (fun c2 => ?_) (fun c2 => ?_)
    · rw [sUnp, if_pos (by simp [c1, c2])] at hR
      obtain ⟨a, ha, rfl⟩ := inB_of c1 (by omega)
      obtain ⟨j, hj, rfl⟩ := inB_of c2 (by omega)
      have hix : ix (nI a) = a := nI_clamp (by omega)
      have hiy : ix (nI j) = j := nI_clamp (by omega)
      rw [mayU, hix, hiy] at hR
      refine hC.aload_n dX8_unpick_25 rfl ?_
      refine hC.getfield dX8_unpick_26 lfX8_69 rfl rfl ?_
      refine hC.iload_n dX8_unpick_29 rfl ?_
      refine hC.aload_n dX8_unpick_30 rfl ?_
      refine hC.getfield dX8_unpick_31 lfX8_19 rfl rfl ?_
      refine hC.rdV [3, 4, 5] dX8_unpick_34 lmX8_125 mkX1_sewn svX1_sewn (ct_X1_sewn l Q hQ) ⟨Nat.le_of_ble_eq_true rfl, Nat.le_of_ble_eq_true rfl⟩ rfl rfl (Nat.le_of_ble_eq_true rfl) ⟨by decide, rfl⟩ rfl rfl ?_
      refine hC.aload_n dX8_unpick_37 rfl ?_
      refine hC.getfield dX8_unpick_38 lfX8_19 rfl rfl ?_
      refine hC.getfield dX8_unpick_41 lfX8_128 rfl rfl ?_
      refine hC.rdV [27, 28, 29, 30, 31, 32, 33, 34, 35] dX8_unpick_44 lmX8_171 mkX4_unpickable svX4_unpickable (ct_X4_unpickable l P hP a (thF Q.1 0) Q.2.2.1 (by omega) (thF_lt _ _)) ⟨Nat.le_of_ble_eq_true rfl, Nat.le_of_ble_eq_true rfl⟩ rfl rfl (Nat.le_of_ble_eq_true rfl) ⟨by decide, rfl⟩ rfl rfl ?_
      refine hC.iload_n dX8_unpick_47 rfl ?_
      refine hC.rdS [] dX8_unpick_48 lmX8_148 mkX8_has sxX8_has (ct_X8_has l (upF P a (thF Q.1 0) Q.2.2.1) j (Nat.lt_trans (bs_lt _ 12) (by decide)) (by omega)) ⟨Nat.le_of_ble_eq_true rfl, Nat.le_of_ble_eq_true rfl⟩ rfl rfl (Nat.le_of_ble_eq_true rfl) ⟨by decide, rfl⟩ ?_
      refine hC.bnz dX8_unpick_51 (tgt := 57) rfl (fun c3 => ?_) (fun c3 => ?_)
      · rw [if_pos c3] at hR
        refine hC.aload_n dX8_unpick_57 rfl ?_
        refine hC.getfield dX8_unpick_58 lfX8_19 rfl rfl ?_
        refine hC.getfield dX8_unpick_61 lfX8_145 rfl rfl ?_
        refine hC.iload_n dX8_unpick_64 rfl ?_
        refine hC.iconst dX8_unpick_65 (v := nI 0) rfl ?_
        refine hC.isN dX8_unpick_66 rfl ⟨by omega, by decide⟩ ?_
        refine hC.aload_n dX8_unpick_67 rfl ?_
        refine hC.getfield dX8_unpick_68 lfX8_19 rfl rfl ?_
        refine hC.rdV [3, 4, 5] dX8_unpick_71 lmX8_125 mkX1_sewn svX1_sewn (ct_X1_sewn l (updN Q.1 j 0, Q.2) (upd0_ok hQ j)) ⟨Nat.le_of_ble_eq_true rfl, Nat.le_of_ble_eq_true rfl⟩ rfl rfl (Nat.le_of_ble_eq_true rfl) ⟨by decide, rfl⟩ rfl rfl ?_
        refine hC.rdS [] dX8_unpick_74 lmX8_176 mkJ_bitCount sxJ_bitCount (ct_J_bitCount l (thF (updN Q.1 j 0) 0) (thF_lt _ _)) ⟨Nat.le_of_ble_eq_true rfl, Nat.le_of_ble_eq_true rfl⟩ rfl rfl (Nat.le_of_ble_eq_true rfl) ⟨by decide, rfl⟩ ?_
        exact hR.ireturn dX8_unpick_77 ⟨rfl, rfl⟩
      · rw [if_neg (by simp [c3])] at hR
        refine hC.ldc dX8_unpick_54 lcX8_175 ?_
        exact hR.ireturn dX8_unpick_56 ⟨rfl, rfl⟩
    · exact bad (by simp [c2])
def sSew (P : PlanT) (Q : ClothT) (x y : Int32) : Int32 × ClothT := if inB x (P.2 2) = true then (if inR y 9 = true then (nI (Q.1 (ix x)), (updN Q.1 (ix x) (ix y), Q.2)) else (cO, Q)) else (cU, Q)
set_option maxHeartbeats 4000000 in
set_option maxRecDepth 20000 in
theorem ct_X8_sew (l : Launch) (X : TextT) (Q I0 I1 : ClothT) (B : BookT) (Z : CutT) (Y : Nat × Nat) (W V : Int32) (U : Nat → Nat) (T : PaintT) (g : Nat → Nat) (P S : PlanT) (kp : Nat) (hok : SfOK X Q I0 I1 B T g P kp) (x y : Int32) : Ct l 1 yX8_sew cX8_sew 4 (some .int) [.ref 0, .int x, .int y] (sfW X Q I0 I1 B Z Y W V U T g P S kp) (RV (.int (sSew P Q x y).1) (sfW X (sSew P Q x y).2 I0 I1 B Z Y W V U T g P S kp)) := by
  refine Ct.of (by decide) (Nat.le_of_ble_eq_true rfl) (fun K hC hR => ?_)
  show K 0 [(0, .ref 0), (1, .int x), (2, .int y)] [] _
  obtain ⟨hP, hQ, -⟩ := hok
  have h12 := hP.2.2.1
  refine hC.aload_n dX8_sew_0 rfl ?_
  refine hC.getfield dX8_sew_1 lfX8_69 rfl rfl ?_
  refine hC.iload_n dX8_sew_4 rfl ?_
  refine hC.rdV [27, 28, 29, 30, 31, 32, 33, 34, 35] dX8_sew_5 lmX8_135 mkX4_hasSeam svX4_hasSeam (ct_X4_hasSeam l P h12 x) ⟨Nat.le_of_ble_eq_true rfl, Nat.le_of_ble_eq_true rfl⟩ rfl rfl (Nat.le_of_ble_eq_true rfl) ⟨by decide, rfl⟩ rfl rfl ?_
  refine hC.bnz dX8_sew_8 (tgt := 14) rfl (fun c1 => ?_) (fun c1 => ?_)
  · obtain ⟨j, hj, rfl⟩ := inB_of c1 (by omega)
    have hix : ix (nI j) = j := nI_clamp (by omega)
    rw [sSew, if_pos c1, hix] at hR
    have bad : inR y 9 = false → K 24 [(0, .ref 0), (1, .int (nI j)), (2, .int y)] [] (sfW X Q I0 I1 B Z Y W V U T g P S kp) := by
      intro hne
      rw [if_neg (by simp [hne])] at hR
      refine hC.ldc dX8_sew_24 lcX8_76 ?_
      exact hR.ireturn dX8_sew_26 ⟨rfl, rfl⟩
    refine hC.iload_n dX8_sew_14 rfl ?_
    refine hC.if_lt dX8_sew_15 (tgt := 24) rfl (fun c2 => ?_) (fun c2 => ?_)
    · exact bad (inR_f1 c2)
    · refine hC.iload_n dX8_sew_18 rfl ?_
      refine hC.bipush dX8_sew_19 (v := nI 9) rfl ?_
      refine hC.icmp_le dX8_sew_21 (tgt := 27) rfl (fun c3 => ?_) (fun c3 => ?_)
      · obtain ⟨e, k, hk, rfl⟩ := inR_t (by decide) c2 c3
        have hiy : ix (nI k) = k := nI_clamp (by omega)
        rw [if_pos e, hiy] at hR
        refine hC.aload_n dX8_sew_27 rfl ?_
        refine hC.getfield dX8_sew_28 lfX8_19 rfl rfl ?_
        refine hC.getfield dX8_sew_31 lfX8_145 rfl rfl ?_
        refine hC.iload_n dX8_sew_34 rfl ?_
        refine hC.iaN dX8_sew_35 rfl ⟨by omega, by decide⟩ ?_
        refine hC.istore_n dX8_sew_36 (by decide) ?_
        refine hC.aload_n dX8_sew_37 rfl ?_
        refine hC.getfield dX8_sew_38 lfX8_19 rfl rfl ?_
        refine hC.getfield dX8_sew_41 lfX8_145 rfl rfl ?_
        refine hC.iload_n dX8_sew_44 rfl ?_
        refine hC.iload_n dX8_sew_45 rfl ?_
        refine hC.isN dX8_sew_46 rfl ⟨by omega, by decide⟩ ?_
        refine hC.iload_n dX8_sew_47 rfl ?_
        exact hR.ireturn dX8_sew_48 ⟨rfl, rfl⟩
      · exact bad (inR_f2 (by decide) c3)
  · refine hC.ldc dX8_sew_11 lcX8_138 ?_
    exact hR.ireturn dX8_sew_13 ⟨by rw [sSew, if_neg (by simp [c1])] <;> rfl, by rw [sSew, if_neg (by simp [c1])]⟩
def sHem (P : PlanT) (Q : ClothT) (x : Int32) (b : Bool) : Int32 × ClothT := if inB x (P.2 2) = true then (nI (Q.2.2.1.testBit (ix x)).toNat, (Q.1, Q.2.1, (if b = true then Q.2.2.1 ||| 2 ^ ix x else andn Q.2.2.1 (2 ^ ix x)), Q.2.2.2)) else (cU, Q)
set_option maxHeartbeats 4000000 in
set_option maxRecDepth 20000 in
theorem ct_X8_hem (l : Launch) (X : TextT) (Q I0 I1 : ClothT) (B : BookT) (Z : CutT) (Y : Nat × Nat) (W V : Int32) (U : Nat → Nat) (T : PaintT) (g : Nat → Nat) (P S : PlanT) (kp : Nat) (hok : SfOK X Q I0 I1 B T g P kp) (x : Int32) (b : Bool) : Ct l 1 yX8_hem cX8_hem 4 (some .int) [.ref 0, .int x, .int (nI b.toNat)] (sfW X Q I0 I1 B Z Y W V U T g P S kp) (RV (.int (sHem P Q x b).1) (sfW X (sHem P Q x b).2 I0 I1 B Z Y W V U T g P S kp)) := by
  refine Ct.of (by decide) (Nat.le_of_ble_eq_true rfl) (fun K hC hR => ?_)
  show K 0 [(0, .ref 0), (1, .int x), (2, .int (nI b.toNat))] [] _
  obtain ⟨hP, hQ, -⟩ := hok
  have h12 := hP.2.2.1
  have hh := hQ.2.2.1
  refine hC.aload_n dX8_hem_0 rfl ?_
  refine hC.getfield dX8_hem_1 lfX8_69 rfl rfl ?_
  refine hC.iload_n dX8_hem_4 rfl ?_
  refine hC.rdV [27, 28, 29, 30, 31, 32, 33, 34, 35] dX8_hem_5 lmX8_135 mkX4_hasSeam svX4_hasSeam (ct_X4_hasSeam l P h12 x) ⟨Nat.le_of_ble_eq_true rfl, Nat.le_of_ble_eq_true rfl⟩ rfl rfl (Nat.le_of_ble_eq_true rfl) ⟨by decide, rfl⟩ rfl rfl ?_
  refine hC.bnz dX8_hem_8 (tgt := 14) rfl (fun c1 => ?_) (fun c1 => ?_)
  · obtain ⟨j, hj, rfl⟩ := inB_of c1 (by omega)
    have hix : ix (nI j) = j := nI_clamp (by omega)
    rw [sHem, if_pos c1, hix] at hR
    refine hC.aload_n dX8_hem_14 rfl ?_
    refine hC.getfield dX8_hem_15 lfX8_19 rfl rfl ?_
    refine hC.getfield dX8_hem_18 lfX8_128 rfl rfl ?_
    refine hC.iload_n dX8_hem_21 rfl ?_
    refine hC.rdS [] dX8_hem_22 lmX8_148 mkX8_has sxX8_has (ct_X8_has l Q.2.2.1 j (by omega) (by omega)) ⟨Nat.le_of_ble_eq_true rfl, Nat.le_of_ble_eq_true rfl⟩ rfl rfl (Nat.le_of_ble_eq_true rfl) ⟨by decide, rfl⟩ ?_
    have k33 : ∀ p : Bool, p = Q.2.2.1.testBit j → K 33 [(0, .ref 0), (1, .int (nI j)), (2, .int (nI b.toNat))] [.int (nI p.toNat)] (sfW X Q I0 I1 B Z Y W V U T g P S kp) := by
      intro p hp
      refine hC.istore_n dX8_hem_33 (by decide) ?_
      refine hC.aload_n dX8_hem_34 rfl ?_
      refine hC.getfield dX8_hem_35 lfX8_19 rfl rfl ?_
      refine hC.iload_n dX8_hem_38 rfl ?_
      refine hC.bz dX8_hem_39 (tgt := 56) rfl (fun c3 => ?_) (fun c3 => ?_)
      · subst c3
        refine hC.aload_n dX8_hem_56 rfl ?_
        refine hC.getfield dX8_hem_57 lfX8_19 rfl rfl ?_
        refine hC.getfield dX8_hem_60 lfX8_128 rfl rfl ?_
        refine hC.iconst dX8_hem_63 (v := nI 1) rfl ?_
        refine hC.iload_n dX8_hem_64 rfl ?_
        refine hC.ishl dX8_hem_65 ?_
        rw [nI_shl (by omega), Nat.one_mul]
        refine hC.iconst dX8_hem_66 (v := (-1)) rfl ?_
        refine hC.ixor dX8_hem_67 ?_
        refine hC.iand dX8_hem_68 ?_
        rw [nI_andn]
        refine hC.putI dX8_hem_69 lpX8_128 rfl rfl rfl (Nat.le_of_ble_eq_true rfl) ?_
        refine hC.iload_n dX8_hem_72 rfl ?_
        exact hR.ireturn dX8_hem_73 ⟨by rw [hp], rfl⟩
      · subst c3
        refine hC.aload_n dX8_hem_42 rfl ?_
        refine hC.getfield dX8_hem_43 lfX8_19 rfl rfl ?_
        refine hC.getfield dX8_hem_46 lfX8_128 rfl rfl ?_
        refine hC.iconst dX8_hem_49 (v := nI 1) rfl ?_
        refine hC.iload_n dX8_hem_50 rfl ?_
        refine hC.ishl dX8_hem_51 ?_
        rw [nI_shl (by omega), Nat.one_mul]
        refine hC.ior dX8_hem_52 ?_
        rw [nI_or]
        refine hC.goto dX8_hem_53 (tgt := 69) rfl ?_
        refine hC.putI dX8_hem_69 lpX8_128 rfl rfl rfl (Nat.le_of_ble_eq_true rfl) ?_
        refine hC.iload_n dX8_hem_72 rfl ?_
        exact hR.ireturn dX8_hem_73 ⟨by rw [hp], rfl⟩
    refine hC.bz dX8_hem_25 (tgt := 32) rfl (fun c2 => ?_) (fun c2 => ?_)
    · refine hC.iconst dX8_hem_32 (v := nI 0) rfl ?_
      exact k33 false c2.symm
    · refine hC.iconst dX8_hem_28 (v := nI 1) rfl ?_
      refine hC.goto dX8_hem_29 (tgt := 33) rfl ?_
      exact k33 true c2.symm
  · refine hC.ldc dX8_hem_11 lcX8_138 ?_
    exact hR.ireturn dX8_hem_13 ⟨by rw [sHem, if_neg (by simp [c1])] <;> rfl, by rw [sHem, if_neg (by simp [c1])]⟩
def sFray (P : PlanT) (Q : ClothT) (x : Int32) : Int32 × ClothT := if inR x 9 = true then (nI (frR P (ix x) Q), frF P (ix x) Q) else (cO, Q)
set_option maxHeartbeats 4000000 in
set_option maxRecDepth 20000 in
theorem ct_X8_fray (l : Launch) (X : TextT) (Q I0 I1 : ClothT) (B : BookT) (Z : CutT) (Y : Nat × Nat) (W V : Int32) (U : Nat → Nat) (T : PaintT) (g : Nat → Nat) (P S : PlanT) (kp : Nat) (hok : SfOK X Q I0 I1 B T g P kp) (x : Int32) : Ct l 5 yX8_fray cX8_fray 2 (some .int) [.ref 0, .int x] (sfW X Q I0 I1 B Z Y W V U T g P S kp) (RV (.int (sFray P Q x).1) (sfW X (sFray P Q x).2 I0 I1 B Z Y W V U T g P S kp)) := by
  refine Ct.of (by decide) (Nat.le_of_ble_eq_true rfl) (fun K hC hR => ?_)
  show K 0 [(0, .ref 0), (1, .int x)] [] _
  obtain ⟨hP, hQ, -⟩ := hok
  have bad : inR x 9 = false → K 10 [(0, .ref 0), (1, .int x)] [] (sfW X Q I0 I1 B Z Y W V U T g P S kp) := by
    intro hne
    rw [sFray, if_neg (by simp [hne])] at hR
    refine hC.ldc dX8_fray_10 lcX8_76 ?_
    exact hR.ireturn dX8_fray_12 ⟨rfl, rfl⟩
  refine hC.iload_n dX8_fray_0 rfl ?_
  refine hC.if_lt dX8_fray_1 (tgt := 10) rfl (fun c1 => ?_) (fun c1 => ?_)
  · exact bad (inR_f1 c1)
  · refine hC.iload_n dX8_fray_4 rfl ?_
    refine hC.bipush dX8_fray_5 (v := nI 9) rfl ?_
    refine hC.icmp_le dX8_fray_7 (tgt := 13) rfl (fun c2 => ?_) (fun c2 => ?_)
    · obtain ⟨e, j, hj, rfl⟩ := inR_t (by decide) c1 c2
      have hix : ix (nI j) = j := nI_clamp (by omega)
      rw [sFray, if_pos e, hix] at hR
      refine hC.aload_n dX8_fray_13 rfl ?_
      refine hC.getfield dX8_fray_14 lfX8_19 rfl rfl ?_
      refine hC.aload_n dX8_fray_17 rfl ?_
      refine hC.getfield dX8_fray_18 lfX8_69 rfl rfl ?_
      refine hC.iload_n dX8_fray_21 rfl ?_
      refine hC.wrV (hs2 := sfW X (frF P j Q) I0 I1 B Z Y W V U T g P S kp) [3, 4, 5, 27, 28, 29, 30, 31, 32, 33, 34, 35] dX8_fray_22 lmX8_181 mkX1_frayEnds svX1_frayEnds (ct_X1_frayEnds l Q P hQ hP j (by omega)) ⟨Nat.le_of_ble_eq_true rfl, Nat.le_of_ble_eq_true rfl⟩ rfl rfl (Nat.le_of_ble_eq_true rfl) ⟨by decide, rfl⟩ rfl rfl rfl ?_
      exact hR.ireturn dX8_fray_25 ⟨rfl, rfl⟩
    · exact bad (inR_f2 (by decide) c2)
def sDye (P : PlanT) (Q : ClothT) (x y : Int32) : Int32 × ClothT := if (inB x (P.2 1) && inB y (P.2 0)) = true then (nI (Q.2.1 (ix x)), (Q.1, updN Q.2.1 (ix x) (ix y), Q.2.2)) else (cU, Q)
set_option maxHeartbeats 4000000 in
set_option maxRecDepth 20000 in
theorem ct_X8_dye (l : Launch) (X : TextT) (Q I0 I1 : ClothT) (B : BookT) (Z : CutT) (Y : Nat × Nat) (W V : Int32) (U : Nat → Nat) (T : PaintT) (g : Nat → Nat) (P S : PlanT) (kp : Nat) (hok : SfOK X Q I0 I1 B T g P kp) (x y : Int32) : Ct l 1 yX8_dye cX8_dye 4 (some .int) [.ref 0, .int x, .int y] (sfW X Q I0 I1 B Z Y W V U T g P S kp) (RV (.int (sDye P Q x y).1) (sfW X (sDye P Q x y).2 I0 I1 B Z Y W V U T g P S kp)) := by
  refine Ct.of (by decide) (Nat.le_of_ble_eq_true rfl) (fun K hC hR => ?_)
  show K 0 [(0, .ref 0), (1, .int x), (2, .int y)] [] _
  obtain ⟨hP, hQ, -⟩ := hok
  have h8 := hP.2.1
  have h4 := hP.1
  have bad : ¬ (inB x (P.2 1) && inB y (P.2 0)) = true → K 22 [(0, .ref 0), (1, .int x), (2, .int y)] [] (sfW X Q I0 I1 B Z Y W V U T g P S kp) := by
    intro hne
    rw [sDye, if_neg hne] at hR
    refine hC.ldc dX8_dye_22 lcX8_138 ?_
    exact hR.ireturn dX8_dye_24 ⟨rfl, rfl⟩
  refine hC.aload_n dX8_dye_0 rfl ?_
  refine hC.getfield dX8_dye_1 lfX8_69 rfl rfl ?_
  refine hC.iload_n dX8_dye_4 rfl ?_
  refine hC.rdV [27, 28, 29, 30, 31, 32, 33, 34, 35] dX8_dye_5 lmX8_152 mkX4_hasStrip svX4_hasStrip (ct_X4_hasStrip l P h8 x) ⟨Nat.le_of_ble_eq_true rfl, Nat.le_of_ble_eq_true rfl⟩ rfl rfl (Nat.le_of_ble_eq_true rfl) ⟨by decide, rfl⟩ rfl rfl ?_
  refine hC.bz dX8_dye_8 (tgt := 22) rfl (fun c1 => ?_) (fun c1 => ?_)
  · exact bad (by simp [c1])
  · refine hC.aload_n dX8_dye_11 rfl ?_
    refine hC.getfield dX8_dye_12 lfX8_69 rfl rfl ?_
    refine hC.iload_n dX8_dye_15 rfl ?_
    refine hC.rdV [27, 28, 29, 30, 31, 32, 33, 34, 35] dX8_dye_16 lmX8_185 mkX4_hasColour svX4_hasColour (ct_X4_hasColour l P h4 y) ⟨Nat.le_of_ble_eq_true rfl, Nat.le_of_ble_eq_true rfl⟩ rfl rfl (Nat.le_of_ble_eq_true rfl) ⟨by decide, rfl⟩ rfl rfl ?_
    refine hC.bnz dX8_dye_19 (tgt := 25) rfl (fun c2 => ?_) (fun c2 => ?_)
    · rw [sDye, if_pos (by simp [c1, c2])] at hR
      obtain ⟨a, ha, rfl⟩ := inB_of c1 (by omega)
      obtain ⟨j, hj, rfl⟩ := inB_of c2 (by omega)
      have hix : ix (nI a) = a := nI_clamp (by omega)
      have hiy : ix (nI j) = j := nI_clamp (by omega)
      rw [hix, hiy] at hR
      refine hC.aload_n dX8_dye_25 rfl ?_
      refine hC.getfield dX8_dye_26 lfX8_19 rfl rfl ?_
      refine hC.getfield dX8_dye_29 lfX8_155 rfl rfl ?_
      refine hC.iload_n dX8_dye_32 rfl ?_
      refine hC.iaN dX8_dye_33 rfl ⟨by omega, by decide⟩ ?_
      refine hC.istore_n dX8_dye_34 (by decide) ?_
      refine hC.aload_n dX8_dye_35 rfl ?_
      refine hC.getfield dX8_dye_36 lfX8_19 rfl rfl ?_
      refine hC.getfield dX8_dye_39 lfX8_155 rfl rfl ?_
      refine hC.iload_n dX8_dye_42 rfl ?_
      refine hC.iload_n dX8_dye_43 rfl ?_
      refine hC.isN dX8_dye_44 rfl ⟨by omega, by decide⟩ ?_
      refine hC.iload_n dX8_dye_45 rfl ?_
      exact hR.ireturn dX8_dye_46 ⟨rfl, rfl⟩
    · exact bad (by simp [c2])
