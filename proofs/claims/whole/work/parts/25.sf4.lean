/-! StripFlag: odds, turns, colours, the saint, books, images -/
noncomputable def sOdds (P : PlanT) (Q : ClothT) (Y : Nat × Nat) (x y : Int32) : Int32 × (Nat × Nat) := if inB x (P.2 1) = true then (if inR y 100 = true then (nI (pfF P (ix x) (ix y) 12 (thF Q.1 0 &&& Q.2.2.1) (andn (thF Q.1 0) Q.2.2.1) 1000000000), (ix x, ix y)) else (cO, Y)) else (cU, Y)
set_option maxHeartbeats 4000000 in
set_option maxRecDepth 20000 in
theorem ct_X8_odds (l : Launch) (X : TextT) (Q I0 I1 : ClothT) (B : BookT) (Z : CutT) (Y : Nat × Nat) (W V : Int32) (U : Nat → Nat) (T : PaintT) (g : Nat → Nat) (P S : PlanT) (kp : Nat) (hok : SfOK X Q I0 I1 B T g P kp) (x y : Int32) : Ct l 18 yX8_odds cX8_odds 3 (some .int) [.ref 0, .int x, .int y] (sfW X Q I0 I1 B Z Y W V U T g P S kp) (RV (.int (sOdds P Q Y x y).1) (sfW X Q I0 I1 B Z (sOdds P Q Y x y).2 W V U T g P S kp)) := by
  refine Ct.of (by decide) (Nat.le_of_ble_eq_true rfl) (fun K hC hR => ?_)
  show K 0 [(0, .ref 0), (1, .int x), (2, .int y)] [] _
  obtain ⟨hP, hQ, -⟩ := hok
  have h8 := hP.2.1
  refine hC.aload_n dX8_odds_0 rfl ?_
  refine hC.getfield dX8_odds_1 lfX8_69 rfl rfl ?_
  refine hC.iload_n dX8_odds_4 rfl ?_
  refine hC.rdV [27, 28, 29, 30, 31, 32, 33, 34, 35] dX8_odds_5 lmX8_152 mkX4_hasStrip svX4_hasStrip (ct_X4_hasStrip l P h8 x) ⟨Nat.le_of_ble_eq_true rfl, Nat.le_of_ble_eq_true rfl⟩ rfl rfl (Nat.le_of_ble_eq_true rfl) ⟨by decide, rfl⟩ rfl rfl ?_
  refine hC.bnz dX8_odds_8 (tgt := 14) rfl (fun c1 => ?_) (fun c1 => ?_)
  · obtain ⟨a, ha, rfl⟩ := inB_of c1 (by omega)
    have hix : ix (nI a) = a := nI_clamp (by omega)
    rw [sOdds, if_pos c1, hix] at hR
    have bad : inR y 100 = false → K 24 [(0, .ref 0), (1, .int (nI a)), (2, .int y)] [] (sfW X Q I0 I1 B Z Y W V U T g P S kp) := by
      intro hne
      rw [if_neg (by simp [hne])] at hR
      refine hC.ldc dX8_odds_24 lcX8_76 ?_
      exact hR.ireturn dX8_odds_26 ⟨rfl, rfl⟩
    refine hC.iload_n dX8_odds_14 rfl ?_
    refine hC.if_lt dX8_odds_15 (tgt := 24) rfl (fun c2 => ?_) (fun c2 => ?_)
    · exact bad (inR_f1 c2)
    · refine hC.iload_n dX8_odds_18 rfl ?_
      refine hC.bipush dX8_odds_19 (v := nI 100) rfl ?_
      refine hC.icmp_le dX8_odds_21 (tgt := 27) rfl (fun c3 => ?_) (fun c3 => ?_)
      · obtain ⟨e, k, hk, rfl⟩ := inR_t (by decide) c2 c3
        have hiy : ix (nI k) = k := nI_clamp (by omega)
        rw [if_pos e, hiy] at hR
        refine hC.aload_n dX8_odds_27 rfl ?_
        refine hC.getfield dX8_odds_28 lfX8_44 rfl rfl ?_
        refine hC.iload_n dX8_odds_31 rfl ?_
        refine hC.iload_n dX8_odds_32 rfl ?_
        refine hC.wuV (hs2 := sfW X Q I0 I1 B Z (a, k) W V U T g P S kp) [19] dX8_odds_33 lmX8_215 mkX7_begin svX7_begin (ct_X7_begin l P Y.1 Y.2 a k) ⟨Nat.le_of_ble_eq_true rfl, Nat.le_of_ble_eq_true rfl⟩ rfl rfl (Nat.le_of_ble_eq_true rfl) ⟨by decide, rfl⟩ rfl rfl rfl ?_
        refine hC.aload_n dX8_odds_36 rfl ?_
        refine hC.getfield dX8_odds_37 lfX8_44 rfl rfl ?_
        refine hC.aload_n dX8_odds_40 rfl ?_
        refine hC.getfield dX8_odds_41 lfX8_69 rfl rfl ?_
        refine hC.aload_n dX8_odds_44 rfl ?_
        refine hC.getfield dX8_odds_45 lfX8_19 rfl rfl ?_
        refine hC.rdV [3, 4, 5] dX8_odds_48 lmX8_125 mkX1_sewn svX1_sewn (ct_X1_sewn l Q hQ) ⟨Nat.le_of_ble_eq_true rfl, Nat.le_of_ble_eq_true rfl⟩ rfl rfl (Nat.le_of_ble_eq_true rfl) ⟨by decide, rfl⟩ rfl rfl ?_
        refine hC.aload_n dX8_odds_51 rfl ?_
        refine hC.getfield dX8_odds_52 lfX8_19 rfl rfl ?_
        refine hC.getfield dX8_odds_55 lfX8_128 rfl rfl ?_
        refine hC.rdV [19, 27, 28, 29, 30, 31, 32, 33, 34, 35] dX8_odds_58 lmX8_218 mkX7_ofBillion svX7_ofBillion (ct_X7_ofBillion l P hP a k (thF Q.1 0) Q.2.2.1 (by omega) hk (thF_lt _ _)) ⟨Nat.le_of_ble_eq_true rfl, Nat.le_of_ble_eq_true rfl⟩ rfl rfl (Nat.le_of_ble_eq_true rfl) ⟨by decide, rfl⟩ rfl rfl ?_
        exact hR.ireturn dX8_odds_61 ⟨rfl, rfl⟩
      · exact bad (inR_f2 (by decide) c3)
  · refine hC.ldc dX8_odds_11 lcX8_138 ?_
    exact hR.ireturn dX8_odds_13 ⟨by rw [sOdds, if_neg (by simp [c1])] <;> rfl, by rw [sOdds, if_neg (by simp [c1])]⟩
def uF (a b n h : Nat) : Nat → Nat := fun k => if k = 0 then a else if k = 1 then b else if k = 2 then n else h
abbrev TuT : Type := Int32 × Int32 × (Nat → Nat)
noncomputable def sTurns (P : PlanT) (Q : ClothT) (O : TuT) (x y z w : Int32) : Int32 × TuT := if (inB x (P.2 1) && (inB y (P.2 1) && !decide (x = y))) = true then (if (inR z 4 && inR w 1) = true then ((if w = nI 0 then zI (plF P (ix x) (ix y) (ix z) Q.2.2.1 (thF Q.1 0)).1 else nI (plF P (ix x) (ix y) (ix z) Q.2.2.1 (thF Q.1 0)).2), (zI (plF P (ix x) (ix y) (ix z) Q.2.2.1 (thF Q.1 0)).1, nI (plF P (ix x) (ix y) (ix z) Q.2.2.1 (thF Q.1 0)).2, uF (ix x) (ix y) (ix z) Q.2.2.1)) else (cO, O)) else (cU, O)
set_option maxHeartbeats 4000000 in
set_option maxRecDepth 20000 in
theorem ct_X8_turnsOf (l : Launch) (X : TextT) (Q I0 I1 : ClothT) (B : BookT) (Z : CutT) (Y : Nat × Nat) (W V : Int32) (U : Nat → Nat) (T : PaintT) (g : Nat → Nat) (P S : PlanT) (kp : Nat) (hok : SfOK X Q I0 I1 B T g P kp) (x y z w : Int32) : Ct l 11 yX8_turnsOf cX8_turnsOf 5 (some .int) [.ref 0, .int x, .int y, .int z, .int w] (sfW X Q I0 I1 B Z Y W V U T g P S kp) (RV (.int (sTurns P Q (W, V, U) x y z w).1) (sfW X Q I0 I1 B Z Y (sTurns P Q (W, V, U) x y z w).2.1 (sTurns P Q (W, V, U) x y z w).2.2.1 (sTurns P Q (W, V, U) x y z w).2.2.2 T g P S kp)) := by
  refine Ct.of (by decide) (Nat.le_of_ble_eq_true rfl) (fun K hC hR => ?_)
  show K 0 [(0, .ref 0), (1, .int x), (2, .int y), (3, .int z), (4, .int w)] [] _
  obtain ⟨hP, hQ, -⟩ := hok
  have h8 := hP.2.1
  have hh := hQ.2.2.1
  have bad : ¬ (inB x (P.2 1) && (inB y (P.2 1) && !decide (x = y))) = true → K 27 [(0, .ref 0), (1, .int x), (2, .int y), (3, .int z), (4, .int w)] [] (sfW X Q I0 I1 B Z Y W V U T g P S kp) := by
    intro hne
    rw [sTurns, if_neg hne] at hR
    refine hC.ldc dX8_turnsOf_27 lcX8_138 ?_
    exact hR.ireturn dX8_turnsOf_29 ⟨rfl, rfl⟩
  refine hC.aload_n dX8_turnsOf_0 rfl ?_
  refine hC.getfield dX8_turnsOf_1 lfX8_69 rfl rfl ?_
  refine hC.iload_n dX8_turnsOf_4 rfl ?_
  refine hC.rdV [27, 28, 29, 30, 31, 32, 33, 34, 35] dX8_turnsOf_5 lmX8_152 mkX4_hasStrip svX4_hasStrip (ct_X4_hasStrip l P h8 x) ⟨Nat.le_of_ble_eq_true rfl, Nat.le_of_ble_eq_true rfl⟩ rfl rfl (Nat.le_of_ble_eq_true rfl) ⟨by decide, rfl⟩ rfl rfl ?_
  refine hC.bz dX8_turnsOf_8 (tgt := 27) rfl (fun c1 => ?_) (fun c1 => ?_)
  · exact bad (by simp [c1])
  · refine hC.aload_n dX8_turnsOf_11 rfl ?_
    refine hC.getfield dX8_turnsOf_12 lfX8_69 rfl rfl ?_
    refine hC.iload_n dX8_turnsOf_15 rfl ?_
    refine hC.rdV [27, 28, 29, 30, 31, 32, 33, 34, 35] dX8_turnsOf_16 lmX8_152 mkX4_hasStrip svX4_hasStrip (ct_X4_hasStrip l P h8 y) ⟨Nat.le_of_ble_eq_true rfl, Nat.le_of_ble_eq_true rfl⟩ rfl rfl (Nat.le_of_ble_eq_true rfl) ⟨by decide, rfl⟩ rfl rfl ?_
    refine hC.bz dX8_turnsOf_19 (tgt := 27) rfl (fun c2 => ?_) (fun c2 => ?_)
    · exact bad (by simp [c2])
    · refine hC.iload_n dX8_turnsOf_22 rfl ?_
      refine hC.iload_n dX8_turnsOf_23 rfl ?_
      refine hC.icmp_ne dX8_turnsOf_24 (tgt := 30) rfl (fun c3 => ?_) (fun c3 => ?_)
      · rw [sTurns, if_pos (by simp [c1, c2, c3])] at hR
        obtain ⟨a, ha, rfl⟩ := inB_of c1 (by omega)
        obtain ⟨b, hb, rfl⟩ := inB_of c2 (by omega)
        have hia : ix (nI a) = a := nI_clamp (by omega)
        have hib : ix (nI b) = b := nI_clamp (by omega)
        rw [hia, hib] at hR
        have bad2 : ¬ (inR z 4 && inR w 1) = true → K 50 [(0, .ref 0), (1, .int (nI a)), (2, .int (nI b)), (3, .int z), (4, .int w)] [] (sfW X Q I0 I1 B Z Y W V U T g P S kp) := by
          intro hne
          rw [if_neg hne] at hR
          refine hC.ldc dX8_turnsOf_50 lcX8_76 ?_
          exact hR.ireturn dX8_turnsOf_52 ⟨rfl, rfl⟩
        refine hC.iload_n dX8_turnsOf_30 rfl ?_
        refine hC.if_lt dX8_turnsOf_31 (tgt := 50) rfl (fun d1 => ?_) (fun d1 => ?_)
        · exact bad2 (by simp [inR_f1 (n := 4) d1])
        · refine hC.iload_n dX8_turnsOf_34 rfl ?_
          refine hC.iconst dX8_turnsOf_35 (v := nI 4) rfl ?_
          refine hC.icmp_gt dX8_turnsOf_36 (tgt := 50) rfl (fun d2 => ?_) (fun d2 => ?_)
          · exact bad2 (by simp [inR_f2 (n := 4) (by decide) (if_gtL d2)])
          · obtain ⟨e1, n, hn, rfl⟩ := inR_t (by decide) d1 (if_ngt d2)
            refine hC.iload dX8_turnsOf_39 rfl ?_
            refine hC.if_lt dX8_turnsOf_41 (tgt := 50) rfl (fun d3 => ?_) (fun d3 => ?_)
            · exact bad2 (by simp [inR_f1 (n := 1) d3])
            · refine hC.iload dX8_turnsOf_44 rfl ?_
              refine hC.iconst dX8_turnsOf_46 (v := nI 1) rfl ?_
              refine hC.icmp_le dX8_turnsOf_47 (tgt := 53) rfl (fun d4 => ?_) (fun d4 => ?_)
              · obtain ⟨e2, k, hk, rfl⟩ := inR_t (by decide) d3 d4
                have hin : ix (nI n) = n := nI_clamp (by omega)
                rw [if_pos (by simp [e1, e2]), hin] at hR
                refine hC.aload_n dX8_turnsOf_53 rfl ?_
                refine hC.getfield dX8_turnsOf_54 lfX8_51 rfl rfl ?_
                refine hC.iload_n dX8_turnsOf_57 rfl ?_
                refine hC.iload_n dX8_turnsOf_58 rfl ?_
                refine hC.iload_n dX8_turnsOf_59 rfl ?_
                refine hC.aload_n dX8_turnsOf_60 rfl ?_
                refine hC.getfield dX8_turnsOf_61 lfX8_19 rfl rfl ?_
                refine hC.getfield dX8_turnsOf_64 lfX8_128 rfl rfl ?_
                refine hC.wuV (hs2 := sfW X Q I0 I1 B Z Y W V (uF a b n Q.2.2.1) T g P S kp) [20] dX8_turnsOf_67 lmX8_221 mkX6_begin svX6_begin (ct_X6_begin l W V (U 0) (U 1) (U 2) (U 3) a b n Q.2.2.1) ⟨Nat.le_of_ble_eq_true rfl, Nat.le_of_ble_eq_true rfl⟩ rfl rfl (Nat.le_of_ble_eq_true rfl) ⟨by decide, rfl⟩ rfl rfl rfl ?_
                refine hC.aload_n dX8_turnsOf_70 rfl ?_
                refine hC.getfield dX8_turnsOf_71 lfX8_51 rfl rfl ?_
                refine hC.aload_n dX8_turnsOf_74 rfl ?_
                refine hC.getfield dX8_turnsOf_75 lfX8_69 rfl rfl ?_
                refine hC.aload_n dX8_turnsOf_78 rfl ?_
                refine hC.getfield dX8_turnsOf_79 lfX8_19 rfl rfl ?_
                refine hC.rdV [3, 4, 5] dX8_turnsOf_82 lmX8_125 mkX1_sewn svX1_sewn (ct_X1_sewn l Q hQ) ⟨Nat.le_of_ble_eq_true rfl, Nat.le_of_ble_eq_true rfl⟩ rfl rfl (Nat.le_of_ble_eq_true rfl) ⟨by decide, rfl⟩ rfl rfl ?_
                refine hC.wuV (hs2 := sfW X Q I0 I1 B Z Y (zI (plF P a b n Q.2.2.1 (thF Q.1 0)).1) (nI (plF P a b n Q.2.2.1 (thF Q.1 0)).2) (uF a b n Q.2.2.1) T g P S kp) [20, 27, 28, 29, 30, 31, 32, 33, 34, 35] dX8_turnsOf_85 lmX8_224 mkX6_play svX6_play (ct_X6_play l P hP W V a b n Q.2.2.1 (thF Q.1 0) (by omega) (by omega) hn hh (thF_lt _ _)) ⟨Nat.le_of_ble_eq_true rfl, Nat.le_of_ble_eq_true rfl⟩ rfl rfl (Nat.le_of_ble_eq_true rfl) ⟨by decide, rfl⟩ rfl rfl rfl ?_
                refine hC.iload dX8_turnsOf_88 rfl ?_
                refine hC.nnz (by omega) dX8_turnsOf_90 (tgt := 103) rfl (fun c4 => ?_) (fun c4 => ?_)
                · rw [if_neg (fun z => c4 ((nI_eq (b := 0) (by omega) (by decide)).mp z))] at hR
                  refine hC.aload_n dX8_turnsOf_103 rfl ?_
                  refine hC.getfield dX8_turnsOf_104 lfX8_51 rfl rfl ?_
                  refine hC.getfield dX8_turnsOf_107 lfX8_231 rfl rfl ?_
                  exact hR.ireturn dX8_turnsOf_110 ⟨rfl, rfl⟩
                · subst c4
                  rw [if_pos rfl] at hR
                  refine hC.aload_n dX8_turnsOf_93 rfl ?_
                  refine hC.getfield dX8_turnsOf_94 lfX8_51 rfl rfl ?_
                  refine hC.getfield dX8_turnsOf_97 lfX8_228 rfl rfl ?_
                  refine hC.goto dX8_turnsOf_100 (tgt := 110) rfl ?_
                  exact hR.ireturn dX8_turnsOf_110 ⟨rfl, rfl⟩
              · exact bad2 (by simp [inR_f2 (n := 1) (by decide) d4])
      · exact bad (by simp [c3])
def pnT (P : PlanT) (Q : ClothT) (T : PaintT) : PaintT := pfX P (P.2 1) 0 (pnX T P (thF Q.1 0))
def sCol (P : PlanT) (Q : ClothT) (T : PaintT) (x : Int32) : Int32 × PaintT := if x = -1 ∨ inB x (P.2 1) = true then ((if (pnT P Q T).1 = true then (if x = -1 then nI (pnT P Q T).2.1 else nI ((pnT P Q T).2.2.2 0 (ix x))) else nI NN), pnT P Q T) else (cU, T)
set_option maxHeartbeats 4000000 in
set_option maxRecDepth 20000 in
theorem ct_X8_colours (l : Launch) (X : TextT) (Q I0 I1 : ClothT) (B : BookT) (Z : CutT) (Y : Nat × Nat) (W V : Int32) (U : Nat → Nat) (T : PaintT) (g : Nat → Nat) (P S : PlanT) (kp : Nat) (hok : SfOK X Q I0 I1 B T g P kp) (x : Int32) : Ct l 14 yX8_colours cX8_colours 2 (some .int) [.ref 0, .int x] (sfW X Q I0 I1 B Z Y W V U T g P S kp) (RV (.int (sCol P Q T x).1) (sfW X Q I0 I1 B Z Y W V U (sCol P Q T x).2 g P S kp)) := by
  refine Ct.of (by decide) (Nat.le_of_ble_eq_true rfl) (fun K hC hR => ?_)
  show K 0 [(0, .ref 0), (1, .int x)] [] _
  obtain ⟨hP, hQ, -, -, -, hT, -⟩ := hok
  have h8 := hP.2.1
  have k19 : x = -1 ∨ inB x (P.2 1) = true → K 19 [(0, .ref 0), (1, .int x)] [] (sfW X Q I0 I1 B Z Y W V U T g P S kp) := by
    intro hh
    rw [sCol, if_pos hh] at hR
    refine hC.aload_n dX8_colours_19 rfl ?_
    refine hC.getfield dX8_colours_20 lfX8_58 rfl rfl ?_
    refine hC.aload_n dX8_colours_23 rfl ?_
    refine hC.getfield dX8_colours_24 lfX8_69 rfl rfl ?_
    refine hC.aload_n dX8_colours_27 rfl ?_
    refine hC.getfield dX8_colours_28 lfX8_19 rfl rfl ?_
    refine hC.rdV [3, 4, 5] dX8_colours_31 lmX8_125 mkX1_sewn svX1_sewn (ct_X1_sewn l Q hQ) ⟨Nat.le_of_ble_eq_true rfl, Nat.le_of_ble_eq_true rfl⟩ rfl rfl (Nat.le_of_ble_eq_true rfl) ⟨by decide, rfl⟩ rfl rfl ?_
    refine hC.wuV (hs2 := sfW X Q I0 I1 B Z Y W V U (pnT P Q T) g P S kp) [21, 22, 23, 24, 25, 27, 28, 29, 30, 31, 32, 33, 34, 35] dX8_colours_34 lmX8_234 mkX3_paintAnew svX3_paintAnew (ct_X3_paintAnew l T P hT hP (thF Q.1 0) (thF_lt _ _)) ⟨Nat.le_of_ble_eq_true rfl, Nat.le_of_ble_eq_true rfl⟩ rfl rfl (Nat.le_of_ble_eq_true rfl) ⟨by decide, rfl⟩ rfl rfl rfl ?_
    refine hC.aload_n dX8_colours_37 rfl ?_
    refine hC.getfield dX8_colours_38 lfX8_58 rfl rfl ?_
    refine hC.getfield dX8_colours_41 lfX8_237 rfl rfl ?_
    refine hC.bnz dX8_colours_44 (tgt := 49) rfl (fun c2 => ?_) (fun c2 => ?_)
    · rw [if_pos c2] at hR
      refine hC.iload_n dX8_colours_49 rfl ?_
      refine hC.iconst dX8_colours_50 (v := (-1)) rfl ?_
      refine hC.icmp_ne dX8_colours_51 (tgt := 64) rfl (fun c3 => ?_) (fun c3 => ?_)
      · rw [if_neg c3] at hR
        have hin : inB x (P.2 1) = true := hh.resolve_left c3
        obtain ⟨a, ha, rfl⟩ := inB_of hin (by omega)
        have hix : ix (nI a) = a := nI_clamp (by omega)
        rw [hix] at hR
        refine hC.aload_n dX8_colours_64 rfl ?_
        refine hC.getfield dX8_colours_65 lfX8_58 rfl rfl ?_
        refine hC.getfield dX8_colours_68 lfX8_244 rfl rfl ?_
        refine hC.iload_n dX8_colours_71 rfl ?_
        refine hC.iaN dX8_colours_72 rfl ⟨by omega, by decide⟩ ?_
        exact hR.ireturn dX8_colours_73 ⟨rfl, rfl⟩
      · rw [if_pos c3] at hR
        refine hC.aload_n dX8_colours_54 rfl ?_
        refine hC.getfield dX8_colours_55 lfX8_58 rfl rfl ?_
        refine hC.getfield dX8_colours_58 lfX8_241 rfl rfl ?_
        refine hC.goto dX8_colours_61 (tgt := 73) rfl ?_
        exact hR.ireturn dX8_colours_73 ⟨rfl, rfl⟩
    · rw [if_neg (by simp [c2])] at hR
      refine hC.iconst dX8_colours_47 (v := (-1)) rfl ?_
      rw [m1_nI]
      exact hR.ireturn dX8_colours_48 ⟨rfl, rfl⟩
  refine hC.iload_n dX8_colours_0 rfl ?_
  refine hC.iconst dX8_colours_1 (v := (-1)) rfl ?_
  refine hC.icmp_eq dX8_colours_2 (tgt := 19) rfl (fun c0 => ?_) (fun c0 => ?_)
  · exact k19 (Or.inl c0)
  · refine hC.aload_n dX8_colours_5 rfl ?_
    refine hC.getfield dX8_colours_6 lfX8_69 rfl rfl ?_
    refine hC.iload_n dX8_colours_9 rfl ?_
    refine hC.rdV [27, 28, 29, 30, 31, 32, 33, 34, 35] dX8_colours_10 lmX8_152 mkX4_hasStrip svX4_hasStrip (ct_X4_hasStrip l P h8 x) ⟨Nat.le_of_ble_eq_true rfl, Nat.le_of_ble_eq_true rfl⟩ rfl rfl (Nat.le_of_ble_eq_true rfl) ⟨by decide, rfl⟩ rfl rfl ?_
    refine hC.bnz dX8_colours_13 (tgt := 19) rfl (fun c1 => ?_) (fun c1 => ?_)
    · exact k19 (Or.inr c1)
    · rw [sCol, if_neg (fun z => z.elim c0 (fun z => by rw [c1] at z; cases z))] at hR
      refine hC.ldc dX8_colours_16 lcX8_138 ?_
      exact hR.ireturn dX8_colours_18 ⟨rfl, rfl⟩
def sLeft (P : PlanT) (g : Nat → Nat) (x y : Int32) : Int32 × (Nat → Nat) := if (inB x (P.2 1) && inB y (2 ^ P.2 0)) = true then (nI (g (ix x)), updN g (ix x) (ix y)) else (cU, g)
set_option maxHeartbeats 4000000 in
set_option maxRecDepth 20000 in
theorem ct_X8_left (l : Launch) (X : TextT) (Q I0 I1 : ClothT) (B : BookT) (Z : CutT) (Y : Nat × Nat) (W V : Int32) (U : Nat → Nat) (T : PaintT) (g : Nat → Nat) (P S : PlanT) (kp : Nat) (hok : SfOK X Q I0 I1 B T g P kp) (x y : Int32) : Ct l 2 yX8_left cX8_left 4 (some .int) [.ref 0, .int x, .int y] (sfW X Q I0 I1 B Z Y W V U T g P S kp) (RV (.int (sLeft P g x y).1) (sfW X Q I0 I1 B Z Y W V U T (sLeft P g x y).2 P S kp)) := by
  refine Ct.of (by decide) (Nat.le_of_ble_eq_true rfl) (fun K hC hR => ?_)
  show K 0 [(0, .ref 0), (1, .int x), (2, .int y)] [] _
  obtain ⟨hP, hQ, -⟩ := hok
  have h8 := hP.2.1
  have h4 := hP.1
  have hp : 2 ^ P.2 0 ≤ 2 ^ 4 := Nat.pow_le_pow_right (by decide) h4
  have bad : ¬ (inB x (P.2 1) && inB y (2 ^ P.2 0)) = true → K 22 [(0, .ref 0), (1, .int x), (2, .int y)] [] (sfW X Q I0 I1 B Z Y W V U T g P S kp) := by
    intro hne
    rw [sLeft, if_neg hne] at hR
    refine hC.ldc dX8_left_22 lcX8_138 ?_
    exact hR.ireturn dX8_left_24 ⟨rfl, rfl⟩
  refine hC.aload_n dX8_left_0 rfl ?_
  refine hC.getfield dX8_left_1 lfX8_69 rfl rfl ?_
  refine hC.iload_n dX8_left_4 rfl ?_
  refine hC.rdV [27, 28, 29, 30, 31, 32, 33, 34, 35] dX8_left_5 lmX8_152 mkX4_hasStrip svX4_hasStrip (ct_X4_hasStrip l P h8 x) ⟨Nat.le_of_ble_eq_true rfl, Nat.le_of_ble_eq_true rfl⟩ rfl rfl (Nat.le_of_ble_eq_true rfl) ⟨by decide, rfl⟩ rfl rfl ?_
  refine hC.bz dX8_left_8 (tgt := 22) rfl (fun c1 => ?_) (fun c1 => ?_)
  · exact bad (by simp [c1])
  · refine hC.aload_n dX8_left_11 rfl ?_
    refine hC.getfield dX8_left_12 lfX8_69 rfl rfl ?_
    refine hC.iload_n dX8_left_15 rfl ?_
    refine hC.rdV [27, 28, 29, 30, 31, 32, 33, 34, 35] dX8_left_16 lmX8_247 mkX4_hasColours svX4_hasColours (ct_X4_hasColours l P hP y) ⟨Nat.le_of_ble_eq_true rfl, Nat.le_of_ble_eq_true rfl⟩ rfl rfl (Nat.le_of_ble_eq_true rfl) ⟨by decide, rfl⟩ rfl rfl ?_
    refine hC.bnz dX8_left_19 (tgt := 25) rfl (fun c2 => ?_) (fun c2 => ?_)
    · rw [sLeft, if_pos (by simp [c1, c2])] at hR
      obtain ⟨a, ha, rfl⟩ := inB_of c1 (by omega)
      obtain ⟨j, hj, rfl⟩ := inB_of c2 (by omega)
      have hix : ix (nI a) = a := nI_clamp (by omega)
      have hiy : ix (nI j) = j := nI_clamp (by omega)
      rw [hix, hiy] at hR
      refine hC.aload_n dX8_left_25 rfl ?_
      refine hC.getfield dX8_left_26 lfX8_62 rfl rfl ?_
      refine hC.iload_n dX8_left_29 rfl ?_
      refine hC.iaN dX8_left_30 rfl ⟨by omega, by decide⟩ ?_
      refine hC.istore_n dX8_left_31 (by decide) ?_
      refine hC.aload_n dX8_left_32 rfl ?_
      refine hC.getfield dX8_left_33 lfX8_62 rfl rfl ?_
      refine hC.iload_n dX8_left_36 rfl ?_
      refine hC.iload_n dX8_left_37 rfl ?_
      refine hC.isN dX8_left_38 rfl ⟨by omega, by decide⟩ ?_
      refine hC.iload_n dX8_left_39 rfl ?_
      exact hR.ireturn dX8_left_40 ⟨rfl, rfl⟩
    · exact bad (by simp [c2])
def lbT (P : PlanT) (Q : ClothT) (T : PaintT) (g : Nat → Nat) : PaintT := setR (setR T 1 (rowL (fun a => bdF P a (thF Q.1 0)) (T.2.2.2 1) 8)) 2 (rowL g (T.2.2.2 2) 8)
theorem lbT_ok {P : PlanT} {Q : ClothT} {T : PaintT} {g : Nat → Nat} (hP : PlanOK P) (hT : PaintOK T) (hg : ∀ j, g j < 16) : PaintOK (lbT P Q T g) := by
  have h1 := look_ok hT hP (thF Q.1 0)
  refine ⟨hT.1, hT.2.1, h1.2.2.1, fun j => ?_, hT.2.2.2.2⟩
  have e : (lbT P Q T g).2.2.2 2 j = rowL g (T.2.2.2 2) 8 j := rfl
  rw [e]
  unfold rowL; split
  · exact hg j
  · exact hT.2.2.2.1 j
set_option maxHeartbeats 4000000 in
set_option maxRecDepth 20000 in
theorem ct_X8_fits (l : Launch) (X : TextT) (Q I0 I1 : ClothT) (B : BookT) (Z : CutT) (Y : Nat × Nat) (W V : Int32) (U : Nat → Nat) (T : PaintT) (g : Nat → Nat) (P S : PlanT) (kp : Nat) (hok : SfOK X Q I0 I1 B T g P kp) : Ct l 13 yX8_fits cX8_fits 1 (some .int) [.ref 0] (sfW X Q I0 I1 B Z Y W V U T g P S kp) (RV (.int (nI (wyX P (P.2 1) (lbT P Q T g)).1)) (sfW X Q I0 I1 B Z Y W V U (wyX P (P.2 1) (lbT P Q T g)).2 g P S kp)) := by
  refine Ct.of (by decide) (Nat.le_of_ble_eq_true rfl) (fun K hC hR => ?_)
  show K 0 [(0, .ref 0)] [] _
  obtain ⟨hP, hQ, -, -, -, hT, hg, -⟩ := hok
  have h8 := hP.2.1
  refine hC.aload_n dX8_fits_0 rfl ?_
  refine hC.getfield dX8_fits_1 lfX8_58 rfl rfl ?_
  refine hC.aload_n dX8_fits_4 rfl ?_
  refine hC.getfield dX8_fits_5 lfX8_69 rfl rfl ?_
  refine hC.aload_n dX8_fits_8 rfl ?_
  refine hC.getfield dX8_fits_9 lfX8_19 rfl rfl ?_
  refine hC.rdV [3, 4, 5] dX8_fits_12 lmX8_125 mkX1_sewn svX1_sewn (ct_X1_sewn l Q hQ) ⟨Nat.le_of_ble_eq_true rfl, Nat.le_of_ble_eq_true rfl⟩ rfl rfl (Nat.le_of_ble_eq_true rfl) ⟨by decide, rfl⟩ rfl rfl ?_
  refine hC.aload_n dX8_fits_15 rfl ?_
  refine hC.getfield dX8_fits_16 lfX8_62 rfl rfl ?_
  refine hC.wuV (hs2 := sfW X Q I0 I1 B Z Y W V U (lbT P Q T g) g P S kp) [21, 22, 23, 24, 25, 27, 28, 29, 30, 31, 32, 33, 34, 35, 26] dX8_fits_19 lmX8_250 mkX3_lookBack svX3_lookBack (ct_X3_lookBack l T P g hP (thF Q.1 0) (thF_lt _ _)) ⟨Nat.le_of_ble_eq_true rfl, Nat.le_of_ble_eq_true rfl⟩ rfl rfl (Nat.le_of_ble_eq_true rfl) ⟨by decide, rfl⟩ rfl rfl rfl ?_
  refine hC.aload_n dX8_fits_22 rfl ?_
  refine hC.getfield dX8_fits_23 lfX8_58 rfl rfl ?_
  refine hC.aload_n dX8_fits_26 rfl ?_
  refine hC.getfield dX8_fits_27 lfX8_69 rfl rfl ?_
  refine hC.wrV (hs2 := sfW X Q I0 I1 B Z Y W V U (wyX P (P.2 1) (lbT P Q T g)).2 g P S kp) [21, 22, 23, 24, 25, 27, 28, 29, 30, 31, 32, 33, 34, 35] dX8_fits_30 lmX8_254 mkX3_ways svX3_ways (ct_X3_ways l (lbT P Q T g) P (lbT_ok hP hT hg) hP) ⟨Nat.le_of_ble_eq_true rfl, Nat.le_of_ble_eq_true rfl⟩ rfl rfl (Nat.le_of_ble_eq_true rfl) ⟨by decide, rfl⟩ rfl rfl rfl ?_
  exact hR.ireturn dX8_fits_33 ⟨rfl, rfl⟩
def ocT (P : PlanT) (Q : ClothT) (T : PaintT) (g : Nat → Nat) (a : Nat) : Nat × PaintT × Bool := ocL P a ((lbT P Q T g).2.2.2 2 a) (lbT P Q T g) 4
def sSure (P : PlanT) (Q : ClothT) (T : PaintT) (g : Nat → Nat) (x : Int32) : Int32 × PaintT := if inB x (P.2 1) = true then (nI (ocT P Q T g (ix x)).1, (ocT P Q T g (ix x)).2.1) else (cU, T)
set_option maxHeartbeats 4000000 in
set_option maxRecDepth 20000 in
theorem ct_X8_sure (l : Launch) (X : TextT) (Q I0 I1 : ClothT) (B : BookT) (Z : CutT) (Y : Nat × Nat) (W V : Int32) (U : Nat → Nat) (T : PaintT) (g : Nat → Nat) (P S : PlanT) (kp : Nat) (hok : SfOK X Q I0 I1 B T g P kp) (x : Int32) : Ct l 14 yX8_sure cX8_sure 2 (some .int) [.ref 0, .int x] (sfW X Q I0 I1 B Z Y W V U T g P S kp) (RV (.int (sSure P Q T g x).1) (sfW X Q I0 I1 B Z Y W V U (sSure P Q T g x).2 g P S kp)) := by
  refine Ct.of (by decide) (Nat.le_of_ble_eq_true rfl) (fun K hC hR => ?_)
  show K 0 [(0, .ref 0), (1, .int x)] [] _
  obtain ⟨hP, hQ, -, -, -, hT, hg, -⟩ := hok
  have h8 := hP.2.1
  refine hC.aload_n dX8_sure_0 rfl ?_
  refine hC.getfield dX8_sure_1 lfX8_69 rfl rfl ?_
  refine hC.iload_n dX8_sure_4 rfl ?_
  refine hC.rdV [27, 28, 29, 30, 31, 32, 33, 34, 35] dX8_sure_5 lmX8_152 mkX4_hasStrip svX4_hasStrip (ct_X4_hasStrip l P h8 x) ⟨Nat.le_of_ble_eq_true rfl, Nat.le_of_ble_eq_true rfl⟩ rfl rfl (Nat.le_of_ble_eq_true rfl) ⟨by decide, rfl⟩ rfl rfl ?_
  refine hC.bnz dX8_sure_8 (tgt := 14) rfl (fun c1 => ?_) (fun c1 => ?_)
  · obtain ⟨a, ha, rfl⟩ := inB_of c1 (by omega)
    have hix : ix (nI a) = a := nI_clamp (by omega)
    rw [sSure, if_pos c1, hix] at hR
    refine hC.aload_n dX8_sure_14 rfl ?_
    refine hC.getfield dX8_sure_15 lfX8_58 rfl rfl ?_
    refine hC.aload_n dX8_sure_18 rfl ?_
    refine hC.getfield dX8_sure_19 lfX8_69 rfl rfl ?_
    refine hC.aload_n dX8_sure_22 rfl ?_
    refine hC.getfield dX8_sure_23 lfX8_19 rfl rfl ?_
    refine hC.rdV [3, 4, 5] dX8_sure_26 lmX8_125 mkX1_sewn svX1_sewn (ct_X1_sewn l Q hQ) ⟨Nat.le_of_ble_eq_true rfl, Nat.le_of_ble_eq_true rfl⟩ rfl rfl (Nat.le_of_ble_eq_true rfl) ⟨by decide, rfl⟩ rfl rfl ?_
    refine hC.aload_n dX8_sure_29 rfl ?_
    refine hC.getfield dX8_sure_30 lfX8_62 rfl rfl ?_
    refine hC.wuV (hs2 := sfW X Q I0 I1 B Z Y W V U (lbT P Q T g) g P S kp) [21, 22, 23, 24, 25, 27, 28, 29, 30, 31, 32, 33, 34, 35, 26] dX8_sure_33 lmX8_250 mkX3_lookBack svX3_lookBack (ct_X3_lookBack l T P g hP (thF Q.1 0) (thF_lt _ _)) ⟨Nat.le_of_ble_eq_true rfl, Nat.le_of_ble_eq_true rfl⟩ rfl rfl (Nat.le_of_ble_eq_true rfl) ⟨by decide, rfl⟩ rfl rfl rfl ?_
    refine hC.aload_n dX8_sure_36 rfl ?_
    refine hC.getfield dX8_sure_37 lfX8_58 rfl rfl ?_
    refine hC.aload_n dX8_sure_40 rfl ?_
    refine hC.getfield dX8_sure_41 lfX8_69 rfl rfl ?_
    refine hC.iload_n dX8_sure_44 rfl ?_
    refine hC.wrV (hs2 := sfW X Q I0 I1 B Z Y W V U (ocT P Q T g a).2.1 g P S kp) [21, 22, 23, 24, 25, 27, 28, 29, 30, 31, 32, 33, 34, 35] dX8_sure_45 lmX8_257 mkX3_onlyColour svX3_onlyColour (ct_X3_onlyColour l (lbT P Q T g) P (lbT_ok hP hT hg) hP a ha) ⟨Nat.le_of_ble_eq_true rfl, Nat.le_of_ble_eq_true rfl⟩ rfl rfl (Nat.le_of_ble_eq_true rfl) ⟨by decide, rfl⟩ rfl rfl rfl ?_
    exact hR.ireturn dX8_sure_48 ⟨rfl, rfl⟩
  · refine hC.ldc dX8_sure_11 lcX8_138 ?_
    exact hR.ireturn dX8_sure_13 ⟨by rw [sSure, if_neg (by simp [c1])] <;> rfl, by rw [sSure, if_neg (by simp [c1])]⟩
def sWrite (P : PlanT) (B : BookT) (x y : Int32) : Int32 × BookT := if (inB x (P.2 1) && inB y (P.2 2)) = true then (if B.2.2 < 30 then (nI (B.2.2 + 1), (updN B.1 B.2.2 (ix x), updN B.2.1 B.2.2 (ix y), B.2.2 + 1)) else (cF, B)) else (cU, B)
set_option maxHeartbeats 4000000 in
set_option maxRecDepth 20000 in
theorem ct_X8_write (l : Launch) (X : TextT) (Q I0 I1 : ClothT) (B : BookT) (Z : CutT) (Y : Nat × Nat) (W V : Int32) (U : Nat → Nat) (T : PaintT) (g : Nat → Nat) (P S : PlanT) (kp : Nat) (hok : SfOK X Q I0 I1 B T g P kp) (x y : Int32) : Ct l 1 yX8_write cX8_write 3 (some .int) [.ref 0, .int x, .int y] (sfW X Q I0 I1 B Z Y W V U T g P S kp) (RV (.int (sWrite P B x y).1) (sfW X Q I0 I1 (sWrite P B x y).2 Z Y W V U T g P S kp)) := by
  refine Ct.of (by decide) (Nat.le_of_ble_eq_true rfl) (fun K hC hR => ?_)
  show K 0 [(0, .ref 0), (1, .int x), (2, .int y)] [] _
  obtain ⟨hP, hQ, -, -, hB, -⟩ := hok
  have h8 := hP.2.1
  have h12 := hP.2.2.1
  have h30 := hB.1
  have bad : ¬ (inB x (P.2 1) && inB y (P.2 2)) = true → K 22 [(0, .ref 0), (1, .int x), (2, .int y)] [] (sfW X Q I0 I1 B Z Y W V U T g P S kp) := by
    intro hne
    rw [sWrite, if_neg hne] at hR
    refine hC.ldc dX8_write_22 lcX8_138 ?_
    exact hR.ireturn dX8_write_24 ⟨rfl, rfl⟩
  refine hC.aload_n dX8_write_0 rfl ?_
  refine hC.getfield dX8_write_1 lfX8_69 rfl rfl ?_
  refine hC.iload_n dX8_write_4 rfl ?_
  refine hC.rdV [27, 28, 29, 30, 31, 32, 33, 34, 35] dX8_write_5 lmX8_152 mkX4_hasStrip svX4_hasStrip (ct_X4_hasStrip l P h8 x) ⟨Nat.le_of_ble_eq_true rfl, Nat.le_of_ble_eq_true rfl⟩ rfl rfl (Nat.le_of_ble_eq_true rfl) ⟨by decide, rfl⟩ rfl rfl ?_
  refine hC.bz dX8_write_8 (tgt := 22) rfl (fun c1 => ?_) (fun c1 => ?_)
  · exact bad (by simp [c1])
  · refine hC.aload_n dX8_write_11 rfl ?_
    refine hC.getfield dX8_write_12 lfX8_69 rfl rfl ?_
    refine hC.iload_n dX8_write_15 rfl ?_
    refine hC.rdV [27, 28, 29, 30, 31, 32, 33, 34, 35] dX8_write_16 lmX8_135 mkX4_hasSeam svX4_hasSeam (ct_X4_hasSeam l P h12 y) ⟨Nat.le_of_ble_eq_true rfl, Nat.le_of_ble_eq_true rfl⟩ rfl rfl (Nat.le_of_ble_eq_true rfl) ⟨by decide, rfl⟩ rfl rfl ?_
    refine hC.bnz dX8_write_19 (tgt := 25) rfl (fun c2 => ?_) (fun c2 => ?_)
    · rw [sWrite, if_pos (by simp [c1, c2])] at hR
      obtain ⟨a, ha, rfl⟩ := inB_of c1 (by omega)
      obtain ⟨j, hj, rfl⟩ := inB_of c2 (by omega)
      have hix : ix (nI a) = a := nI_clamp (by omega)
      have hiy : ix (nI j) = j := nI_clamp (by omega)
      rw [hix, hiy] at hR
      refine hC.aload_n dX8_write_25 rfl ?_
      refine hC.getfield dX8_write_26 lfX8_30 rfl rfl ?_
      refine hC.getfield dX8_write_29 lfX8_104 rfl rfl ?_
      refine hC.bipush dX8_write_32 (v := nI 30) rfl ?_
      refine hC.n_lt (by omega) (by omega) dX8_write_34 (tgt := 40) rfl (fun c3 => ?_) (fun c3 => ?_)
      · rw [if_pos c3] at hR
        refine hC.aload_n dX8_write_40 rfl ?_
        refine hC.getfield dX8_write_41 lfX8_30 rfl rfl ?_
        refine hC.iload_n dX8_write_44 rfl ?_
        refine hC.iload_n dX8_write_45 rfl ?_
        refine hC.wuV (hs2 := sfW X Q I0 I1 (updN B.1 B.2.2 a, updN B.2.1 B.2.2 j, B.2.2 + 1) Z Y W V U T g P S kp) [13, 14, 15] dX8_write_46 lmX8_260 mkX0_add svX0_add (ct_X0_add l B a j c3) ⟨Nat.le_of_ble_eq_true rfl, Nat.le_of_ble_eq_true rfl⟩ rfl rfl (Nat.le_of_ble_eq_true rfl) ⟨by decide, rfl⟩ rfl rfl rfl ?_
        refine hC.aload_n dX8_write_49 rfl ?_
        refine hC.getfield dX8_write_50 lfX8_30 rfl rfl ?_
        refine hC.getfield dX8_write_53 lfX8_104 rfl rfl ?_
        exact hR.ireturn dX8_write_56 ⟨rfl, rfl⟩
      · rw [if_neg (by omega)] at hR
        refine hC.ldc dX8_write_37 lcX8_81 ?_
        exact hR.ireturn dX8_write_39 ⟨rfl, rfl⟩
    · exact bad (by simp [c2])
def sSeed (Q : ClothT) (x : Int32) : Int32 × ClothT := if x.toInt < 0 then (cO, Q) else (nI Q.2.2.2, (Q.1, Q.2.1, Q.2.2.1, ix x))
set_option maxHeartbeats 4000000 in
set_option maxRecDepth 20000 in
theorem ct_X8_seed (l : Launch) (X : TextT) (Q I0 I1 : ClothT) (B : BookT) (Z : CutT) (Y : Nat × Nat) (W V : Int32) (U : Nat → Nat) (T : PaintT) (g : Nat → Nat) (P S : PlanT) (kp : Nat) (hok : SfOK X Q I0 I1 B T g P kp) (x : Int32) : Ct l 0 yX8_seed cX8_seed 3 (some .int) [.ref 0, .int x] (sfW X Q I0 I1 B Z Y W V U T g P S kp) (RV (.int (sSeed Q x).1) (sfW X (sSeed Q x).2 I0 I1 B Z Y W V U T g P S kp)) := by
  refine Ct.of (by decide) (Nat.le_of_ble_eq_true rfl) (fun K hC hR => ?_)
  show K 0 [(0, .ref 0), (1, .int x)] [] _
  have e1 := lt0_iff x
  refine hC.iload_n dX8_seed_0 rfl ?_
  refine hC.if_ge dX8_seed_1 (tgt := 7) rfl (fun c => ?_) (fun c => ?_)
  · have c2 : ¬ x < 0 := by rw [e1]; have : (0 : Int32) ≤ x := c; rw [Int32.le_iff_toInt_le, Int32.toInt_zero] at this; omega
    rw [sSeed, if_neg (by rw [e1] at c2; exact c2)] at hR
    obtain ⟨j, hj, rfl⟩ := nI_of c2
    have hix : ix (nI j) = j := nI_clamp hj
    rw [hix] at hR
    refine hC.aload_n dX8_seed_7 rfl ?_
    refine hC.getfield dX8_seed_8 lfX8_19 rfl rfl ?_
    refine hC.getfield dX8_seed_11 lfX8_266 rfl rfl ?_
    refine hC.istore_n dX8_seed_14 (by decide) ?_
    refine hC.aload_n dX8_seed_15 rfl ?_
    refine hC.getfield dX8_seed_16 lfX8_19 rfl rfl ?_
    refine hC.iload_n dX8_seed_19 rfl ?_
    refine hC.putI dX8_seed_20 lpX8_266 rfl rfl rfl (Nat.le_of_ble_eq_true rfl) ?_
    refine hC.iload_n dX8_seed_23 rfl ?_
    exact hR.ireturn dX8_seed_24 ⟨rfl, rfl⟩
  · have c2 : x.toInt < 0 := by have : ¬ (0 : Int32) ≤ x := c; rw [Int32.le_iff_toInt_le, Int32.toInt_zero] at this; omega
    rw [sSeed, if_pos c2] at hR
    refine hC.ldc dX8_seed_4 lcX8_76 ?_
    exact hR.ireturn dX8_seed_6 ⟨rfl, rfl⟩
def sKeep (Q : ClothT) (J : ClothT × ClothT × Nat) (x : Int32) : Int32 × (ClothT × ClothT × Nat) := if x = nI 0 then (nI 1, (Q, J.2.1, J.2.2 ||| 1)) else if x = nI 1 then (nI 1, (J.1, Q, J.2.2 ||| 2)) else (cU, J)
set_option maxHeartbeats 4000000 in
set_option maxRecDepth 20000 in
theorem ct_X8_keep (l : Launch) (X : TextT) (Q I0 I1 : ClothT) (B : BookT) (Z : CutT) (Y : Nat × Nat) (W V : Int32) (U : Nat → Nat) (T : PaintT) (g : Nat → Nat) (P S : PlanT) (kp : Nat) (hok : SfOK X Q I0 I1 B T g P kp) (x : Int32) : Ct l 3 yX8_keep cX8_keep 2 (some .int) [.ref 0, .int x] (sfW X Q I0 I1 B Z Y W V U T g P S kp) (RV (.int (sKeep Q (I0, I1, kp) x).1) (sfW X Q (sKeep Q (I0, I1, kp) x).2.1 (sKeep Q (I0, I1, kp) x).2.2.1 B Z Y W V U T g P S (sKeep Q (I0, I1, kp) x).2.2.2)) := by
  refine Ct.of (by decide) (Nat.le_of_ble_eq_true rfl) (fun K hC hR => ?_)
  show K 0 [(0, .ref 0), (1, .int x)] [] _
  have bad : ¬ x = nI 0 → ¬ x = nI 1 → K 9 [(0, .ref 0), (1, .int x)] [] (sfW X Q I0 I1 B Z Y W V U T g P S kp) := by
    intro h0 h1
    rw [sKeep, if_neg h0, if_neg h1] at hR
    refine hC.ldc dX8_keep_9 lcX8_138 ?_
    exact hR.ireturn dX8_keep_11 ⟨rfl, rfl⟩
  refine hC.iload_n dX8_keep_0 rfl ?_
  refine hC.if_lt dX8_keep_1 (tgt := 9) rfl (fun c1 => ?_) (fun c1 => ?_)
  · exact bad (fun z => by rw [z] at c1; exact absurd c1 (by decide)) (fun z => by rw [z] at c1; exact absurd c1 (by decide))
  · refine hC.iload_n dX8_keep_4 rfl ?_
    refine hC.iconst dX8_keep_5 (v := nI 2) rfl ?_
    refine hC.icmp_lt dX8_keep_6 (tgt := 12) rfl (fun c2 => ?_) (fun c2 => ?_)
    · obtain ⟨j, hj, rfl⟩ := nI_of c1
      have hj2 : j < 2 := (nI_ltI hj (by decide)).mp c2
      rcases (show j = 0 ∨ j = 1 by omega) with rfl | rfl
      · rw [sKeep, if_pos rfl] at hR
        refine hC.aload_n dX8_keep_12 rfl ?_
        refine hC.getfield dX8_keep_13 lfX8_23 rfl rfl ?_
        refine hC.iload_n dX8_keep_16 rfl ?_
        refine hC.aaload (b := 7) dX8_keep_17 rfl (vp_in_nI (by decide) (by decide)) rfl ?_
        refine hC.aload_n dX8_keep_18 rfl ?_
        refine hC.getfield dX8_keep_19 lfX8_19 rfl rfl ?_
        refine hC.wuV (hs2 := sfW X Q Q I1 B Z Y W V U T g P S kp) [7, 8, 9, 3, 4, 5] dX8_keep_22 lmX8_269 mkX1_copy svX1_copy (ct_X1_copy l I0 Q) ⟨Nat.le_of_ble_eq_true rfl, Nat.le_of_ble_eq_true rfl⟩ rfl rfl (Nat.le_of_ble_eq_true rfl) ⟨by decide, rfl⟩ rfl rfl rfl ?_
        refine hC.aload_n dX8_keep_25 rfl ?_
        refine hC.dup dX8_keep_26 rfl ?_
        refine hC.getfield dX8_keep_27 lfX8_107 rfl rfl ?_
        refine hC.iconst dX8_keep_30 (v := nI 1) rfl ?_
        refine hC.iload_n dX8_keep_31 rfl ?_
        refine hC.ishl dX8_keep_32 ?_
        rw [nI_shl (by decide)]
        refine hC.ior dX8_keep_33 ?_
        rw [nI_or]
        refine hC.putI dX8_keep_34 lpX8_107 rfl rfl rfl (Nat.le_of_ble_eq_true rfl) ?_
        refine hC.iconst dX8_keep_37 (v := nI 1) rfl ?_
        exact hR.ireturn dX8_keep_38 ⟨rfl, rfl⟩
      · rw [sKeep, if_neg (by decide), if_pos rfl] at hR
        refine hC.aload_n dX8_keep_12 rfl ?_
        refine hC.getfield dX8_keep_13 lfX8_23 rfl rfl ?_
        refine hC.iload_n dX8_keep_16 rfl ?_
        refine hC.aaload (b := 10) dX8_keep_17 rfl (vp_in_nI (by decide) (by decide)) rfl ?_
        refine hC.aload_n dX8_keep_18 rfl ?_
        refine hC.getfield dX8_keep_19 lfX8_19 rfl rfl ?_
        refine hC.wuV (hs2 := sfW X Q I0 Q B Z Y W V U T g P S kp) [10, 11, 12, 3, 4, 5] dX8_keep_22 lmX8_269 mkX1_copy svX1_copy (ct_X1_copy l I1 Q) ⟨Nat.le_of_ble_eq_true rfl, Nat.le_of_ble_eq_true rfl⟩ rfl rfl (Nat.le_of_ble_eq_true rfl) ⟨by decide, rfl⟩ rfl rfl rfl ?_
        refine hC.aload_n dX8_keep_25 rfl ?_
        refine hC.dup dX8_keep_26 rfl ?_
        refine hC.getfield dX8_keep_27 lfX8_107 rfl rfl ?_
        refine hC.iconst dX8_keep_30 (v := nI 1) rfl ?_
        refine hC.iload_n dX8_keep_31 rfl ?_
        refine hC.ishl dX8_keep_32 ?_
        rw [nI_shl (by decide)]
        refine hC.ior dX8_keep_33 ?_
        rw [nI_or]
        refine hC.putI dX8_keep_34 lpX8_107 rfl rfl rfl (Nat.le_of_ble_eq_true rfl) ?_
        refine hC.iconst dX8_keep_37 (v := nI 1) rfl ?_
        exact hR.ireturn dX8_keep_38 ⟨rfl, rfl⟩
    · exact bad (fun z => c2 (by rw [z]; decide)) (fun z => c2 (by rw [z]; decide))
def sBack (Q : ClothT) (J : ClothT × ClothT × Nat) (x : Int32) : Int32 × ClothT := if x = nI 0 then (if J.2.2.testBit 0 = true then (nI 1, J.1) else (cN, Q)) else if x = nI 1 then (if J.2.2.testBit 1 = true then (nI 1, J.2.1) else (cN, Q)) else (cU, Q)
set_option maxHeartbeats 4000000 in
set_option maxRecDepth 20000 in
theorem ct_X8_goBack (l : Launch) (X : TextT) (Q I0 I1 : ClothT) (B : BookT) (Z : CutT) (Y : Nat × Nat) (W V : Int32) (U : Nat → Nat) (T : PaintT) (g : Nat → Nat) (P S : PlanT) (kp : Nat) (hok : SfOK X Q I0 I1 B T g P kp) (x : Int32) : Ct l 3 yX8_goBack cX8_goBack 2 (some .int) [.ref 0, .int x] (sfW X Q I0 I1 B Z Y W V U T g P S kp) (RV (.int (sBack Q (I0, I1, kp) x).1) (sfW X (sBack Q (I0, I1, kp) x).2 I0 I1 B Z Y W V U T g P S kp)) := by
  refine Ct.of (by decide) (Nat.le_of_ble_eq_true rfl) (fun K hC hR => ?_)
  show K 0 [(0, .ref 0), (1, .int x)] [] _
  obtain ⟨-, -, -, -, -, -, -, hkp, -⟩ := hok
  have bad : ¬ x = nI 0 → ¬ x = nI 1 → K 9 [(0, .ref 0), (1, .int x)] [] (sfW X Q I0 I1 B Z Y W V U T g P S kp) := by
    intro h0 h1
    rw [sBack, if_neg h0, if_neg h1] at hR
    refine hC.ldc dX8_goBack_9 lcX8_138 ?_
    exact hR.ireturn dX8_goBack_11 ⟨rfl, rfl⟩
  refine hC.iload_n dX8_goBack_0 rfl ?_
  refine hC.if_lt dX8_goBack_1 (tgt := 9) rfl (fun c1 => ?_) (fun c1 => ?_)
  · exact bad (fun z => by rw [z] at c1; exact absurd c1 (by decide)) (fun z => by rw [z] at c1; exact absurd c1 (by decide))
  · refine hC.iload_n dX8_goBack_4 rfl ?_
    refine hC.iconst dX8_goBack_5 (v := nI 2) rfl ?_
    refine hC.icmp_lt dX8_goBack_6 (tgt := 12) rfl (fun c2 => ?_) (fun c2 => ?_)
    · obtain ⟨j, hj, rfl⟩ := nI_of c1
      have hj2 : j < 2 := (nI_ltI hj (by decide)).mp c2
      rcases (show j = 0 ∨ j = 1 by omega) with rfl | rfl
      · rw [sBack, if_pos rfl] at hR
        refine hC.aload_n dX8_goBack_12 rfl ?_
        refine hC.getfield dX8_goBack_13 lfX8_107 rfl rfl ?_
        refine hC.iload_n dX8_goBack_16 rfl ?_
        refine hC.rdS [] dX8_goBack_17 lmX8_148 mkX8_has sxX8_has (ct_X8_has l kp 0 (by omega) (by omega)) ⟨Nat.le_of_ble_eq_true rfl, Nat.le_of_ble_eq_true rfl⟩ rfl rfl (Nat.le_of_ble_eq_true rfl) ⟨by decide, rfl⟩ ?_
        refine hC.bnz dX8_goBack_20 (tgt := 26) rfl (fun c3 => ?_) (fun c3 => ?_)
        · rw [if_pos c3] at hR
          refine hC.aload_n dX8_goBack_26 rfl ?_
          refine hC.getfield dX8_goBack_27 lfX8_19 rfl rfl ?_
          refine hC.aload_n dX8_goBack_30 rfl ?_
          refine hC.getfield dX8_goBack_31 lfX8_23 rfl rfl ?_
          refine hC.iload_n dX8_goBack_34 rfl ?_
          refine hC.aaload (b := 7) dX8_goBack_35 rfl (vp_in_nI (by decide) (by decide)) rfl ?_
          refine hC.wuV (hs2 := sfW X I0 I0 I1 B Z Y W V U T g P S kp) [3, 4, 5, 7, 8, 9] dX8_goBack_36 lmX8_269 mkX1_copy svX1_copy (ct_X1_copy l Q I0) ⟨Nat.le_of_ble_eq_true rfl, Nat.le_of_ble_eq_true rfl⟩ rfl rfl (Nat.le_of_ble_eq_true rfl) ⟨by decide, rfl⟩ rfl rfl rfl ?_
          refine hC.iconst dX8_goBack_39 (v := nI 1) rfl ?_
          exact hR.ireturn dX8_goBack_40 ⟨rfl, rfl⟩
        · rw [if_neg (by simp [c3])] at hR
          refine hC.ldc dX8_goBack_23 lcX8_175 ?_
          exact hR.ireturn dX8_goBack_25 ⟨rfl, rfl⟩
      · rw [sBack, if_neg (by decide), if_pos rfl] at hR
        refine hC.aload_n dX8_goBack_12 rfl ?_
        refine hC.getfield dX8_goBack_13 lfX8_107 rfl rfl ?_
        refine hC.iload_n dX8_goBack_16 rfl ?_
        refine hC.rdS [] dX8_goBack_17 lmX8_148 mkX8_has sxX8_has (ct_X8_has l kp 1 (by omega) (by omega)) ⟨Nat.le_of_ble_eq_true rfl, Nat.le_of_ble_eq_true rfl⟩ rfl rfl (Nat.le_of_ble_eq_true rfl) ⟨by decide, rfl⟩ ?_
        refine hC.bnz dX8_goBack_20 (tgt := 26) rfl (fun c3 => ?_) (fun c3 => ?_)
        · rw [if_pos c3] at hR
          refine hC.aload_n dX8_goBack_26 rfl ?_
          refine hC.getfield dX8_goBack_27 lfX8_19 rfl rfl ?_
          refine hC.aload_n dX8_goBack_30 rfl ?_
          refine hC.getfield dX8_goBack_31 lfX8_23 rfl rfl ?_
          refine hC.iload_n dX8_goBack_34 rfl ?_
          refine hC.aaload (b := 10) dX8_goBack_35 rfl (vp_in_nI (by decide) (by decide)) rfl ?_
          refine hC.wuV (hs2 := sfW X I1 I0 I1 B Z Y W V U T g P S kp) [3, 4, 5, 10, 11, 12] dX8_goBack_36 lmX8_269 mkX1_copy svX1_copy (ct_X1_copy l Q I1) ⟨Nat.le_of_ble_eq_true rfl, Nat.le_of_ble_eq_true rfl⟩ rfl rfl (Nat.le_of_ble_eq_true rfl) ⟨by decide, rfl⟩ rfl rfl rfl ?_
          refine hC.iconst dX8_goBack_39 (v := nI 1) rfl ?_
          exact hR.ireturn dX8_goBack_40 ⟨rfl, rfl⟩
        · rw [if_neg (by simp [c3])] at hR
          refine hC.ldc dX8_goBack_23 lcX8_175 ?_
          exact hR.ireturn dX8_goBack_25 ⟨rfl, rfl⟩
    · exact bad (fun z => c2 (by rw [z]; decide)) (fun z => c2 (by rw [z]; decide))
