/-! StripFlag: tried, the saint, books, draws, images -/
def inL (x : Int32) (lo hi : Nat) : Bool := decide ((lo : Int) ≤ x.toInt ∧ x.toInt ≤ (hi : Int))
theorem inL_f1 {x : Int32} {lo hi : Nat} (hl : lo < 2 ^ 30) (h : x < nI lo) : inL x lo hi = false := by
  rw [Int32.lt_iff_toInt_lt, nI_toInt (by omega)] at h
  unfold inL; simp; omega
theorem inL_f2 {x : Int32} {lo hi : Nat} (hh : hi < 2 ^ 30) (h : ¬ x ≤ nI hi) : inL x lo hi = false := by
  rw [le_nI_iff2 x (by omega)] at h
  unfold inL; simp; omega
theorem inL_t {x : Int32} {lo hi : Nat} (hl : lo < 2 ^ 30) (hh : hi < 2 ^ 30) (h1 : ¬ x < nI lo) (h2 : x ≤ nI hi) : inL x lo hi = true ∧ ∃ j, lo ≤ j ∧ j ≤ hi ∧ x = nI j := by
  rw [Int32.lt_iff_toInt_lt, nI_toInt (by omega)] at h1
  have h3 : ¬ x < 0 := by rw [lt0_iff]; omega
  obtain ⟨j, hj, rfl⟩ := rng hh h3 h2
  rw [nI_toInt (by omega)] at h1
  refine ⟨?_, j, by omega, hj, rfl⟩
  unfold inL
  rw [nI_toInt (by omega)]
  simp; omega
theorem if_gtL {x : Int32} {n : Nat} (h : nI n < x) : ¬ x ≤ nI n := by
  rw [Int32.lt_iff_toInt_lt] at h
  rw [Int32.le_iff_toInt_le]; omega
theorem if_ngt {x : Int32} {n : Nat} (h : ¬ nI n < x) : x ≤ nI n := by
  rw [Int32.lt_iff_toInt_lt] at h
  rw [Int32.le_iff_toInt_le]; omega
noncomputable def yrN (P : PlanT) (Q : ClothT) : Nat → ClothT
  | 0 => Q
  | n + 1 => yrF P (yrN P Q n)
theorem yrN_ok {P : PlanT} {Q : ClothT} (h : ClothOK Q) : ∀ n, ClothOK (yrN P Q n)
  | 0 => h
  | n + 1 => yrF_ok (yrN_ok h n)
noncomputable def sDrift (P : PlanT) (Q : ClothT) (x : Int32) : Int32 × ClothT := if inL x 1 99 = true then (if P.2 1 = 0 then (cN, Q) else (nI (flyF (P.1 5) 12 (thF (yrN P Q (ix x)).1 0)), yrN P Q (ix x))) else (cO, Q)
set_option maxHeartbeats 4000000 in
set_option maxRecDepth 20000 in
theorem ct_X8_drift (l : Launch) (X : TextT) (Q I0 I1 : ClothT) (B : BookT) (Z : CutT) (Y : Nat × Nat) (W V : Int32) (U : Nat → Nat) (T : PaintT) (g : Nat → Nat) (P S : PlanT) (kp : Nat) (hok : SfOK X Q I0 I1 B T g P kp) (x : Int32) : Ct l 6 yX8_drift cX8_drift 3 (some .int) [.ref 0, .int x] (sfW X Q I0 I1 B Z Y W V U T g P S kp) (RV (.int (sDrift P Q x).1) (sfW X (sDrift P Q x).2 I0 I1 B Z Y W V U T g P S kp)) := by
  refine Ct.of (by decide) (Nat.le_of_ble_eq_true rfl) (fun K hC hR => ?_)
  show K 0 [(0, .ref 0), (1, .int x)] [] _
  obtain ⟨hP, hQ, -⟩ := hok
  have h8 := hP.2.1
  have bad : inL x 1 99 = false → K 11 [(0, .ref 0), (1, .int x)] [] (sfW X Q I0 I1 B Z Y W V U T g P S kp) := by
    intro hne
    rw [sDrift, if_neg (by simp [hne])] at hR
    refine hC.ldc dX8_drift_11 lcX8_76 ?_
    exact hR.ireturn dX8_drift_13 ⟨rfl, rfl⟩
  refine hC.iload_n dX8_drift_0 rfl ?_
  refine hC.iconst dX8_drift_1 (v := nI 1) rfl ?_
  refine hC.icmp_lt dX8_drift_2 (tgt := 11) rfl (fun c1 => ?_) (fun c1 => ?_)
  · exact bad (inL_f1 (by decide) c1)
  · refine hC.iload_n dX8_drift_5 rfl ?_
    refine hC.bipush dX8_drift_6 (v := nI 99) rfl ?_
    refine hC.icmp_le dX8_drift_8 (tgt := 14) rfl (fun c2 => ?_) (fun c2 => ?_)
    · obtain ⟨e, n, hn1, hn2, rfl⟩ := inL_t (by decide) (by decide) c1 c2
      have hix : ix (nI n) = n := nI_clamp (by omega)
      rw [sDrift, if_pos e, hix] at hR
      refine hC.aload_n dX8_drift_14 rfl ?_
      refine hC.getfield dX8_drift_15 lfX8_69 rfl rfl ?_
      refine hC.getfield dX8_drift_18 lfX8_110 rfl rfl ?_
      refine hC.nnz (by omega) dX8_drift_21 (tgt := 27) rfl (fun c3 => ?_) (fun c3 => ?_)
      · rw [if_neg c3] at hR
        refine hC.iconst dX8_drift_27 (v := nI 0) rfl ?_
        refine hC.istore_n dX8_drift_28 (by decide) ?_
        have loop : ∀ s, s ≤ n → K 29 [(0, .ref 0), (1, .int (nI n)), (2, .int (nI s))] [] (sfW X (yrN P Q s) I0 I1 B Z Y W V U T g P S kp) := by
          refine loopUp1 _ n ?_ (fun s hs ih => ?_)
          · have hqn := yrN_ok (P := P) hQ n
            refine hC.iload_n dX8_drift_29 rfl ?_
            refine hC.iload_n dX8_drift_30 rfl ?_
            refine hC.n_ge (by omega) (by omega) dX8_drift_31 (tgt := 51) rfl (fun c => ?_) (fun c => ?_)
            · refine hC.aload_n dX8_drift_51 rfl ?_
              refine hC.getfield dX8_drift_52 lfX8_69 rfl rfl ?_
              refine hC.aload_n dX8_drift_55 rfl ?_
              refine hC.getfield dX8_drift_56 lfX8_19 rfl rfl ?_
              refine hC.rdV [3, 4, 5] dX8_drift_59 lmX8_125 mkX1_sewn svX1_sewn (ct_X1_sewn l (yrN P Q n) hqn) ⟨Nat.le_of_ble_eq_true rfl, Nat.le_of_ble_eq_true rfl⟩ rfl rfl (Nat.le_of_ble_eq_true rfl) ⟨by decide, rfl⟩ rfl rfl ?_
              refine hC.rdV [27, 28, 29, 30, 31, 32, 33, 34, 35] dX8_drift_62 lmX8_168 mkX4_flying svX4_flying (ct_X4_flying l P hP (thF (yrN P Q n).1 0) (thF_lt _ _)) ⟨Nat.le_of_ble_eq_true rfl, Nat.le_of_ble_eq_true rfl⟩ rfl rfl (Nat.le_of_ble_eq_true rfl) ⟨by decide, rfl⟩ rfl rfl ?_
              exact hR.ireturn dX8_drift_65 ⟨rfl, rfl⟩
            · omega
          · have hqs := yrN_ok (P := P) hQ s
            refine hC.iload_n dX8_drift_29 rfl ?_
            refine hC.iload_n dX8_drift_30 rfl ?_
            refine hC.n_ge (by omega) (by omega) dX8_drift_31 (tgt := 51) rfl (fun c => ?_) (fun c => ?_)
            · omega
            · refine hC.aload_n dX8_drift_34 rfl ?_
              refine hC.getfield dX8_drift_35 lfX8_19 rfl rfl ?_
              refine hC.aload_n dX8_drift_38 rfl ?_
              refine hC.getfield dX8_drift_39 lfX8_69 rfl rfl ?_
              refine hC.wuV (hs2 := sfW X (yrN P Q (s + 1)) I0 I1 B Z Y W V U T g P S kp) [3, 4, 5, 27, 28, 29, 30, 31, 32, 33, 34, 35] dX8_drift_42 lmX8_188 mkX1_passYear svX1_passYear (ct_X1_passYear l (yrN P Q s) P hqs hP) ⟨Nat.le_of_ble_eq_true rfl, Nat.le_of_ble_eq_true rfl⟩ rfl rfl (Nat.le_of_ble_eq_true rfl) ⟨by decide, rfl⟩ rfl rfl rfl ?_
              refine hC.iinc dX8_drift_45 rfl (nI_1 _) (by decide) ?_
              refine hC.goto dX8_drift_48 (tgt := 29) rfl ?_
              exact hC.loc rfl ih
        exact hC.loc rfl (loop 0 (by omega))
      · rw [if_pos c3] at hR
        refine hC.ldc dX8_drift_24 lcX8_175 ?_
        exact hR.ireturn dX8_drift_26 ⟨rfl, rfl⟩
    · exact bad (inL_f2 (by decide) c2)
def sCut (P : PlanT) (Q : ClothT) (x y : Int32) : Int32 := if inB x (P.2 1) = true then (if inR y 1 = true then (if y = nI 0 then nI (cd (fwL P (thF Q.1 0) (ix x) (2 ^ P.2 1 - 1))) else nI (fwL P (thF Q.1 0) (ix x) (2 ^ P.2 1 - 1))) else cO) else cU
set_option maxHeartbeats 4000000 in
set_option maxRecDepth 20000 in
theorem ct_X8_cut (l : Launch) (X : TextT) (Q I0 I1 : ClothT) (B : BookT) (Z : CutT) (Y : Nat × Nat) (W V : Int32) (U : Nat → Nat) (T : PaintT) (g : Nat → Nat) (P S : PlanT) (kp : Nat) (hok : SfOK X Q I0 I1 B T g P kp) (x y : Int32) : Ct l 4 yX8_cut cX8_cut 4 (some .int) [.ref 0, .int x, .int y] (sfW X Q I0 I1 B Z Y W V U T g P S kp) (RV (.int (sCut P Q x y)) (sfW X Q I0 I1 B Z Y W V U T g P S kp)) := by
  refine Ct.of (by decide) (Nat.le_of_ble_eq_true rfl) (fun K hC hR => ?_)
  show K 0 [(0, .ref 0), (1, .int x), (2, .int y)] [] _
  obtain ⟨hP, hQ, -⟩ := hok
  have h8 := hP.2.1
  refine hC.aload_n dX8_cut_0 rfl ?_
  refine hC.getfield dX8_cut_1 lfX8_69 rfl rfl ?_
  refine hC.iload_n dX8_cut_4 rfl ?_
  refine hC.rdV [27, 28, 29, 30, 31, 32, 33, 34, 35] dX8_cut_5 lmX8_152 mkX4_hasStrip svX4_hasStrip (ct_X4_hasStrip l P h8 x) ⟨Nat.le_of_ble_eq_true rfl, Nat.le_of_ble_eq_true rfl⟩ rfl rfl (Nat.le_of_ble_eq_true rfl) ⟨by decide, rfl⟩ rfl rfl ?_
  refine hC.bnz dX8_cut_8 (tgt := 14) rfl (fun c1 => ?_) (fun c1 => ?_)
  · obtain ⟨a, ha, rfl⟩ := inB_of c1 (by omega)
    have hix : ix (nI a) = a := nI_clamp (by omega)
    rw [sCut, if_pos c1, hix] at hR
    have bad : inR y 1 = false → K 23 [(0, .ref 0), (1, .int (nI a)), (2, .int y)] [] (sfW X Q I0 I1 B Z Y W V U T g P S kp) := by
      intro hne
      rw [if_neg (by simp [hne])] at hR
      refine hC.ldc dX8_cut_23 lcX8_76 ?_
      exact hR.ireturn dX8_cut_25 ⟨rfl, rfl⟩
    refine hC.iload_n dX8_cut_14 rfl ?_
    refine hC.if_lt dX8_cut_15 (tgt := 23) rfl (fun c2 => ?_) (fun c2 => ?_)
    · exact bad (inR_f1 c2)
    · refine hC.iload_n dX8_cut_18 rfl ?_
      refine hC.iconst dX8_cut_19 (v := nI 1) rfl ?_
      refine hC.icmp_le dX8_cut_20 (tgt := 26) rfl (fun c3 => ?_) (fun c3 => ?_)
      · obtain ⟨e, k, hk, rfl⟩ := inR_t (by decide) c2 c3
        rw [if_pos e] at hR
        have hfl := fwL_lt P (thF Q.1 0) a (2 ^ P.2 1 - 1)
        refine hC.aload_n dX8_cut_26 rfl ?_
        refine hC.getfield dX8_cut_27 lfX8_69 rfl rfl ?_
        refine hC.aload_n dX8_cut_30 rfl ?_
        refine hC.getfield dX8_cut_31 lfX8_19 rfl rfl ?_
        refine hC.rdV [3, 4, 5] dX8_cut_34 lmX8_125 mkX1_sewn svX1_sewn (ct_X1_sewn l Q hQ) ⟨Nat.le_of_ble_eq_true rfl, Nat.le_of_ble_eq_true rfl⟩ rfl rfl (Nat.le_of_ble_eq_true rfl) ⟨by decide, rfl⟩ rfl rfl ?_
        refine hC.iload_n dX8_cut_37 rfl ?_
        refine hC.rdS [27, 28, 29, 30, 31, 32, 33, 34, 35] dX8_cut_38 lmX8_191 mkX2_fewestSeams sxX2_fewestSeams (ct_X2_fewestSeams l P hP (thF Q.1 0) a (thF_lt _ _) (by omega)) ⟨Nat.le_of_ble_eq_true rfl, Nat.le_of_ble_eq_true rfl⟩ rfl rfl (Nat.le_of_ble_eq_true rfl) ⟨by decide, rfl⟩ ?_
        refine hC.istore_n dX8_cut_41 (by decide) ?_
        refine hC.iload_n dX8_cut_42 rfl ?_
        refine hC.nnz (by omega) dX8_cut_43 (tgt := 53) rfl (fun c4 => ?_) (fun c4 => ?_)
        · rw [if_neg (fun z => c4 ((nI_eq (b := 0) (by omega) (by decide)).mp z))] at hR
          refine hC.iload_n dX8_cut_53 rfl ?_
          exact hR.ireturn dX8_cut_54 ⟨rfl, rfl⟩
        · subst c4
          rw [if_pos rfl] at hR
          refine hC.iload_n dX8_cut_46 rfl ?_
          refine hC.rdS [] dX8_cut_47 lmX8_176 mkJ_bitCount sxJ_bitCount (ct_J_bitCount l _ hfl) ⟨Nat.le_of_ble_eq_true rfl, Nat.le_of_ble_eq_true rfl⟩ rfl rfl (Nat.le_of_ble_eq_true rfl) ⟨by decide, rfl⟩ ?_
          refine hC.goto dX8_cut_50 (tgt := 54) rfl ?_
          exact hR.ireturn dX8_cut_54 ⟨rfl, rfl⟩
      · exact bad (inR_f2 (by decide) c3)
  · refine hC.ldc dX8_cut_11 lcX8_138 ?_
    exact hR.ireturn dX8_cut_13 ⟨by rw [sCut, if_neg (by simp [c1])] <;> rfl, rfl⟩
def wkZ (P : PlanT) (Q : ClothT) (Z : CutT) (set n : Nat) : CutT := wkL P (thF Q.1 0) Q.2.2.1 set n Z (2 ^ P.2 1 - 1)
theorem wkZ_ok {P : PlanT} (hP : PlanOK P) (Q : ClothT) (Z : CutT) (set n : Nat) : ZOK (wkZ P Q Z set n) := by
  refine ⟨?_, wkL_ok hP _ _ _ _ _ _⟩
  have := wkL_le P (thF Q.1 0) Q.2.2.1 set n Z (2 ^ P.2 1 - 1)
  have := (pow8 hP.2.1).1
  unfold wkZ; omega
def sLasts (P : PlanT) (Q : ClothT) (Z : CutT) (x y : Int32) : Int32 × CutT := if inB x (2 ^ P.2 1) = true then (if inR y 3 = true then ((if (wkZ P Q Z (ix x) (ix y)).2.2 = 0 then nI 1 else nI 0), wkZ P Q Z (ix x) (ix y)) else (cO, Z)) else (cU, Z)
set_option maxHeartbeats 4000000 in
set_option maxRecDepth 20000 in
theorem ct_X8_lasts (l : Launch) (X : TextT) (Q I0 I1 : ClothT) (B : BookT) (Z : CutT) (Y : Nat × Nat) (W V : Int32) (U : Nat → Nat) (T : PaintT) (g : Nat → Nat) (P S : PlanT) (kp : Nat) (hok : SfOK X Q I0 I1 B T g P kp) (x y : Int32) : Ct l 4 yX8_lasts cX8_lasts 3 (some .int) [.ref 0, .int x, .int y] (sfW X Q I0 I1 B Z Y W V U T g P S kp) (RV (.int (sLasts P Q Z x y).1) (sfW X Q I0 I1 B (sLasts P Q Z x y).2 Y W V U T g P S kp)) := by
  refine Ct.of (by decide) (Nat.le_of_ble_eq_true rfl) (fun K hC hR => ?_)
  show K 0 [(0, .ref 0), (1, .int x), (2, .int y)] [] _
  obtain ⟨hP, hQ, -⟩ := hok
  have h8 := pow8 hP.2.1
  refine hC.aload_n dX8_lasts_0 rfl ?_
  refine hC.getfield dX8_lasts_1 lfX8_69 rfl rfl ?_
  refine hC.iload_n dX8_lasts_4 rfl ?_
  refine hC.rdV [27, 28, 29, 30, 31, 32, 33, 34, 35] dX8_lasts_5 lmX8_195 mkX4_hasStrips svX4_hasStrips (ct_X4_hasStrips l P hP x) ⟨Nat.le_of_ble_eq_true rfl, Nat.le_of_ble_eq_true rfl⟩ rfl rfl (Nat.le_of_ble_eq_true rfl) ⟨by decide, rfl⟩ rfl rfl ?_
  refine hC.bnz dX8_lasts_8 (tgt := 14) rfl (fun c1 => ?_) (fun c1 => ?_)
  · obtain ⟨a, ha, rfl⟩ := inB_of c1 (by omega)
    have hix : ix (nI a) = a := nI_clamp (by omega)
    rw [sLasts, if_pos c1, hix] at hR
    have bad : inR y 3 = false → K 23 [(0, .ref 0), (1, .int (nI a)), (2, .int y)] [] (sfW X Q I0 I1 B Z Y W V U T g P S kp) := by
      intro hne
      rw [if_neg (by simp [hne])] at hR
      refine hC.ldc dX8_lasts_23 lcX8_76 ?_
      exact hR.ireturn dX8_lasts_25 ⟨rfl, rfl⟩
    refine hC.iload_n dX8_lasts_14 rfl ?_
    refine hC.if_lt dX8_lasts_15 (tgt := 23) rfl (fun c2 => ?_) (fun c2 => ?_)
    · exact bad (inR_f1 c2)
    · refine hC.iload_n dX8_lasts_18 rfl ?_
      refine hC.iconst dX8_lasts_19 (v := nI 3) rfl ?_
      refine hC.icmp_le dX8_lasts_20 (tgt := 26) rfl (fun c3 => ?_) (fun c3 => ?_)
      · obtain ⟨e, k, hk, rfl⟩ := inR_t (by decide) c2 c3
        have hiy : ix (nI k) = k := nI_clamp (by omega)
        rw [if_pos e, hiy] at hR
        have hz := (wkZ_ok hP Q Z a k).1
        refine hC.aload_n dX8_lasts_26 rfl ?_
        refine hC.getfield dX8_lasts_27 lfX8_37 rfl rfl ?_
        refine hC.aload_n dX8_lasts_30 rfl ?_
        refine hC.getfield dX8_lasts_31 lfX8_69 rfl rfl ?_
        refine hC.aload_n dX8_lasts_34 rfl ?_
        refine hC.getfield dX8_lasts_35 lfX8_19 rfl rfl ?_
        refine hC.iload_n dX8_lasts_38 rfl ?_
        refine hC.iload_n dX8_lasts_39 rfl ?_
        refine hC.wuV (hs2 := sfW X Q I0 I1 B (wkZ P Q Z a k) Y W V U T g P S kp) [16, 17, 18, 27, 28, 29, 30, 31, 32, 33, 34, 35, 3, 4, 5] dX8_lasts_40 lmX8_198 mkX2_findWeak svX2_findWeak (ct_X2_findWeak l Z P Q hP hQ a k (by omega) (by omega)) ⟨Nat.le_of_ble_eq_true rfl, Nat.le_of_ble_eq_true rfl⟩ rfl rfl (Nat.le_of_ble_eq_true rfl) ⟨by decide, rfl⟩ rfl rfl rfl ?_
        refine hC.aload_n dX8_lasts_43 rfl ?_
        refine hC.getfield dX8_lasts_44 lfX8_37 rfl rfl ?_
        refine hC.getfield dX8_lasts_47 lfX8_202 rfl rfl ?_
        refine hC.nnz (by omega) dX8_lasts_50 (tgt := 57) rfl (fun c4 => ?_) (fun c4 => ?_)
        · rw [if_neg c4] at hR
          refine hC.iconst dX8_lasts_57 (v := nI 0) rfl ?_
          exact hR.ireturn dX8_lasts_58 ⟨rfl, rfl⟩
        · rw [if_pos c4] at hR
          refine hC.iconst dX8_lasts_53 (v := nI 1) rfl ?_
          refine hC.goto dX8_lasts_54 (tgt := 58) rfl ?_
          exact hR.ireturn dX8_lasts_58 ⟨rfl, rfl⟩
      · exact bad (inR_f2 (by decide) c3)
  · refine hC.ldc dX8_lasts_11 lcX8_138 ?_
    exact hR.ireturn dX8_lasts_13 ⟨by rw [sLasts, if_neg (by simp [c1])] <;> rfl, by rw [sLasts, if_neg (by simp [c1])]⟩
def sHems (P : PlanT) (Q : ClothT) (Z : CutT) (x y : Int32) : Int32 × CutT := if inB x (2 ^ P.2 1) = true then (if inL y 1 2 = true then (nI (fhL (wkZ P Q Z (ix x) (ix y)) (andn (thF Q.1 0) Q.2.2.1) (andn (thF Q.1 0) Q.2.2.1 + 1)), wkZ P Q Z (ix x) (ix y)) else (cO, Z)) else (cU, Z)
set_option maxHeartbeats 4000000 in
set_option maxRecDepth 20000 in
theorem ct_X8_hems (l : Launch) (X : TextT) (Q I0 I1 : ClothT) (B : BookT) (Z : CutT) (Y : Nat × Nat) (W V : Int32) (U : Nat → Nat) (T : PaintT) (g : Nat → Nat) (P S : PlanT) (kp : Nat) (hok : SfOK X Q I0 I1 B T g P kp) (x y : Int32) : Ct l 4 yX8_hems cX8_hems 3 (some .int) [.ref 0, .int x, .int y] (sfW X Q I0 I1 B Z Y W V U T g P S kp) (RV (.int (sHems P Q Z x y).1) (sfW X Q I0 I1 B (sHems P Q Z x y).2 Y W V U T g P S kp)) := by
  refine Ct.of (by decide) (Nat.le_of_ble_eq_true rfl) (fun K hC hR => ?_)
  show K 0 [(0, .ref 0), (1, .int x), (2, .int y)] [] _
  obtain ⟨hP, hQ, -⟩ := hok
  have h8 := pow8 hP.2.1
  refine hC.aload_n dX8_hems_0 rfl ?_
  refine hC.getfield dX8_hems_1 lfX8_69 rfl rfl ?_
  refine hC.iload_n dX8_hems_4 rfl ?_
  refine hC.rdV [27, 28, 29, 30, 31, 32, 33, 34, 35] dX8_hems_5 lmX8_195 mkX4_hasStrips svX4_hasStrips (ct_X4_hasStrips l P hP x) ⟨Nat.le_of_ble_eq_true rfl, Nat.le_of_ble_eq_true rfl⟩ rfl rfl (Nat.le_of_ble_eq_true rfl) ⟨by decide, rfl⟩ rfl rfl ?_
  refine hC.bnz dX8_hems_8 (tgt := 14) rfl (fun c1 => ?_) (fun c1 => ?_)
  · obtain ⟨a, ha, rfl⟩ := inB_of c1 (by omega)
    have hix : ix (nI a) = a := nI_clamp (by omega)
    rw [sHems, if_pos c1, hix] at hR
    have bad : inL y 1 2 = false → K 24 [(0, .ref 0), (1, .int (nI a)), (2, .int y)] [] (sfW X Q I0 I1 B Z Y W V U T g P S kp) := by
      intro hne
      rw [if_neg (by simp [hne])] at hR
      refine hC.ldc dX8_hems_24 lcX8_76 ?_
      exact hR.ireturn dX8_hems_26 ⟨rfl, rfl⟩
    refine hC.iload_n dX8_hems_14 rfl ?_
    refine hC.iconst dX8_hems_15 (v := nI 1) rfl ?_
    refine hC.icmp_lt dX8_hems_16 (tgt := 24) rfl (fun c2 => ?_) (fun c2 => ?_)
    · exact bad (inL_f1 (by decide) c2)
    · refine hC.iload_n dX8_hems_19 rfl ?_
      refine hC.iconst dX8_hems_20 (v := nI 2) rfl ?_
      refine hC.icmp_le dX8_hems_21 (tgt := 27) rfl (fun c3 => ?_) (fun c3 => ?_)
      · obtain ⟨e, k, hk1, hk, rfl⟩ := inL_t (by decide) (by decide) c2 c3
        have hiy : ix (nI k) = k := nI_clamp (by omega)
        rw [if_pos e, hiy] at hR
        have hz := wkZ_ok hP Q Z a k
        refine hC.aload_n dX8_hems_27 rfl ?_
        refine hC.getfield dX8_hems_28 lfX8_37 rfl rfl ?_
        refine hC.aload_n dX8_hems_31 rfl ?_
        refine hC.getfield dX8_hems_32 lfX8_69 rfl rfl ?_
        refine hC.aload_n dX8_hems_35 rfl ?_
        refine hC.getfield dX8_hems_36 lfX8_19 rfl rfl ?_
        refine hC.iload_n dX8_hems_39 rfl ?_
        refine hC.iload_n dX8_hems_40 rfl ?_
        refine hC.wuV (hs2 := sfW X Q I0 I1 B (wkZ P Q Z a k) Y W V U T g P S kp) [16, 17, 18, 27, 28, 29, 30, 31, 32, 33, 34, 35, 3, 4, 5] dX8_hems_41 lmX8_198 mkX2_findWeak svX2_findWeak (ct_X2_findWeak l Z P Q hP hQ a k (by omega) (by omega)) ⟨Nat.le_of_ble_eq_true rfl, Nat.le_of_ble_eq_true rfl⟩ rfl rfl (Nat.le_of_ble_eq_true rfl) ⟨by decide, rfl⟩ rfl rfl rfl ?_
        refine hC.aload_n dX8_hems_44 rfl ?_
        refine hC.getfield dX8_hems_45 lfX8_37 rfl rfl ?_
        refine hC.aload_n dX8_hems_48 rfl ?_
        refine hC.getfield dX8_hems_49 lfX8_19 rfl rfl ?_
        refine hC.rdV [3, 4, 5] dX8_hems_52 lmX8_125 mkX1_sewn svX1_sewn (ct_X1_sewn l Q hQ) ⟨Nat.le_of_ble_eq_true rfl, Nat.le_of_ble_eq_true rfl⟩ rfl rfl (Nat.le_of_ble_eq_true rfl) ⟨by decide, rfl⟩ rfl rfl ?_
        refine hC.aload_n dX8_hems_55 rfl ?_
        refine hC.getfield dX8_hems_56 lfX8_19 rfl rfl ?_
        refine hC.getfield dX8_hems_59 lfX8_128 rfl rfl ?_
        refine hC.iconst dX8_hems_62 (v := (-1)) rfl ?_
        refine hC.ixor dX8_hems_63 ?_
        refine hC.iand dX8_hems_64 ?_
        rw [nI_andn]
        refine hC.rdV [16, 17, 18] dX8_hems_65 lmX8_203 mkX2_fewestHems svX2_fewestHems (ct_X2_fewestHems l (wkZ P Q Z a k) hz (andn (thF Q.1 0) Q.2.2.1) (andn_b (thF_lt _ _))) ⟨Nat.le_of_ble_eq_true rfl, Nat.le_of_ble_eq_true rfl⟩ rfl rfl (Nat.le_of_ble_eq_true rfl) ⟨by decide, rfl⟩ rfl rfl ?_
        exact hR.ireturn dX8_hems_68 ⟨rfl, rfl⟩
      · exact bad (inL_f2 (by decide) c3)
  · refine hC.ldc dX8_hems_11 lcX8_138 ?_
    exact hR.ireturn dX8_hems_13 ⟨by rw [sHems, if_neg (by simp [c1])] <;> rfl, by rw [sHems, if_neg (by simp [c1])]⟩
def thZ (P : PlanT) (Q : ClothT) (Z : CutT) (n : Nat) : Nat := (ltL (wkZ P Q Z (2 ^ P.2 1 - 1) n) P n (2 ^ P.2 3)).1
def sThread (P : PlanT) (Q : ClothT) (Z : CutT) (x y : Int32) : Int32 × CutT := if (inR x 2 && inR y 1) = true then ((if y = nI 1 ∨ thZ P Q Z (ix x) = NN then nI (thZ P Q Z (ix x)) else nI (tsF P (thZ P Q Z (ix x)))), wkZ P Q Z (2 ^ P.2 1 - 1) (ix x)) else (cO, Z)
set_option maxHeartbeats 4000000 in
set_option maxRecDepth 20000 in
theorem ct_X8_thread (l : Launch) (X : TextT) (Q I0 I1 : ClothT) (B : BookT) (Z : CutT) (Y : Nat × Nat) (W V : Int32) (U : Nat → Nat) (T : PaintT) (g : Nat → Nat) (P S : PlanT) (kp : Nat) (hok : SfOK X Q I0 I1 B T g P kp) (x y : Int32) : Ct l 4 yX8_thread cX8_thread 4 (some .int) [.ref 0, .int x, .int y] (sfW X Q I0 I1 B Z Y W V U T g P S kp) (RV (.int (sThread P Q Z x y).1) (sfW X Q I0 I1 B (sThread P Q Z x y).2 Y W V U T g P S kp)) := by
  refine Ct.of (by decide) (Nat.le_of_ble_eq_true rfl) (fun K hC hR => ?_)
  show K 0 [(0, .ref 0), (1, .int x), (2, .int y)] [] _
  obtain ⟨hP, hQ, -⟩ := hok
  have h8 := pow8 hP.2.1
  have h8u := pow8 hP.2.2.2.1
  have bad : ¬ (inR x 2 && inR y 1) = true → K 18 [(0, .ref 0), (1, .int x), (2, .int y)] [] (sfW X Q I0 I1 B Z Y W V U T g P S kp) := by
    intro hne
    rw [sThread, if_neg hne] at hR
    refine hC.ldc dX8_thread_18 lcX8_76 ?_
    exact hR.ireturn dX8_thread_20 ⟨rfl, rfl⟩
  refine hC.iload_n dX8_thread_0 rfl ?_
  refine hC.if_lt dX8_thread_1 (tgt := 18) rfl (fun c1 => ?_) (fun c1 => ?_)
  · exact bad (by simp [inR_f1 c1])
  · refine hC.iload_n dX8_thread_4 rfl ?_
    refine hC.iconst dX8_thread_5 (v := nI 2) rfl ?_
    refine hC.icmp_gt dX8_thread_6 (tgt := 18) rfl (fun c2 => ?_) (fun c2 => ?_)
    · exact bad (by simp [inR_f2 (n := 2) (by decide) (if_gtL c2)])
    · obtain ⟨e1, n, hn, rfl⟩ := inR_t (by decide) c1 (if_ngt c2)
      refine hC.iload_n dX8_thread_9 rfl ?_
      refine hC.if_lt dX8_thread_10 (tgt := 18) rfl (fun c3 => ?_) (fun c3 => ?_)
      · exact bad (by simp [inR_f1 (n := 1) c3])
      · refine hC.iload_n dX8_thread_13 rfl ?_
        refine hC.iconst dX8_thread_14 (v := nI 1) rfl ?_
        refine hC.icmp_le dX8_thread_15 (tgt := 21) rfl (fun c4 => ?_) (fun c4 => ?_)
        · obtain ⟨e2, k, hk, rfl⟩ := inR_t (by decide) c3 c4
          have hix : ix (nI n) = n := nI_clamp (by omega)
          rw [sThread, if_pos (by simp [e1, e2]), hix] at hR
          have hz := wkZ_ok hP Q Z (2 ^ P.2 1 - 1) n
          have hlt := ltL_lt (Z := wkZ P Q Z (2 ^ P.2 1 - 1) n) hP n (2 ^ P.2 3)
          refine hC.aload_n dX8_thread_21 rfl ?_
          refine hC.getfield dX8_thread_22 lfX8_37 rfl rfl ?_
          refine hC.aload_n dX8_thread_25 rfl ?_
          refine hC.getfield dX8_thread_26 lfX8_69 rfl rfl ?_
          refine hC.aload_n dX8_thread_29 rfl ?_
          refine hC.getfield dX8_thread_30 lfX8_19 rfl rfl ?_
          refine hC.aload_n dX8_thread_33 rfl ?_
          refine hC.getfield dX8_thread_34 lfX8_69 rfl rfl ?_
          refine hC.rdV [27, 28, 29, 30, 31, 32, 33, 34, 35] dX8_thread_37 lmX8_206 mkX4_allStrips svX4_allStrips (ct_X4_allStrips l P hP) ⟨Nat.le_of_ble_eq_true rfl, Nat.le_of_ble_eq_true rfl⟩ rfl rfl (Nat.le_of_ble_eq_true rfl) ⟨by decide, rfl⟩ rfl rfl ?_
          refine hC.iload_n dX8_thread_40 rfl ?_
          refine hC.wuV (hs2 := sfW X Q I0 I1 B (wkZ P Q Z (2 ^ P.2 1 - 1) n) Y W V U T g P S kp) [16, 17, 18, 27, 28, 29, 30, 31, 32, 33, 34, 35, 3, 4, 5] dX8_thread_41 lmX8_198 mkX2_findWeak svX2_findWeak (ct_X2_findWeak l Z P Q hP hQ (2 ^ P.2 1 - 1) n (by omega) (by omega)) ⟨Nat.le_of_ble_eq_true rfl, Nat.le_of_ble_eq_true rfl⟩ rfl rfl (Nat.le_of_ble_eq_true rfl) ⟨by decide, rfl⟩ rfl rfl rfl ?_
          refine hC.aload_n dX8_thread_44 rfl ?_
          refine hC.getfield dX8_thread_45 lfX8_37 rfl rfl ?_
          refine hC.aload_n dX8_thread_48 rfl ?_
          refine hC.getfield dX8_thread_49 lfX8_69 rfl rfl ?_
          refine hC.iload_n dX8_thread_52 rfl ?_
          refine hC.rdV [16, 17, 18, 27, 28, 29, 30, 31, 32, 33, 34, 35] dX8_thread_53 lmX8_209 mkX2_leastThread svX2_leastThread (ct_X2_leastThread l (wkZ P Q Z (2 ^ P.2 1 - 1) n) P hz hP n (by omega)) ⟨Nat.le_of_ble_eq_true rfl, Nat.le_of_ble_eq_true rfl⟩ rfl rfl (Nat.le_of_ble_eq_true rfl) ⟨by decide, rfl⟩ rfl rfl ?_
          refine hC.istore_n dX8_thread_56 (by decide) ?_
          refine hC.iload_n dX8_thread_57 rfl ?_
          refine hC.iconst dX8_thread_58 (v := nI 1) rfl ?_
          have k67 : (nI k = nI 1 ∨ thZ P Q Z n = NN) → K 67 [(0, .ref 0), (1, .int (nI n)), (2, .int (nI k)), (3, .int (nI (thZ P Q Z n)))] [] (sfW X Q I0 I1 B (wkZ P Q Z (2 ^ P.2 1 - 1) n) Y W V U T g P S kp) := by
            intro hh
            rw [if_pos hh] at hR
            refine hC.iload_n dX8_thread_67 rfl ?_
            refine hC.goto dX8_thread_68 (tgt := 79) rfl ?_
            exact hR.ireturn dX8_thread_79 ⟨rfl, rfl⟩
          refine hC.icmp_eq dX8_thread_59 (tgt := 67) rfl (fun c5 => ?_) (fun c5 => ?_)
          · exact hC.loc rfl (k67 (Or.inl c5))
          · refine hC.iload_n dX8_thread_62 rfl ?_
            refine hC.iconst dX8_thread_63 (v := (-1)) rfl ?_
            refine hC.icmp_ne dX8_thread_64 (tgt := 71) rfl (fun c6 => ?_) (fun c6 => ?_)
            · have c6 : ¬ thZ P Q Z n = NN := fun z => c6 ((nn_eq (x := thZ P Q Z n) (by have h9 := hlt.1; show (ltL _ _ _ _).1 < _ ∨ (ltL _ _ _ _).1 = _; omega)).mpr z)
              have h9 : thZ P Q Z n < 256 := by
                have h9 := hlt.1
                have : (ltL (wkZ P Q Z (2 ^ P.2 1 - 1) n) P n (2 ^ P.2 3)).1 ≠ NN := c6
                show (ltL _ _ _ _).1 < _
                omega
              rw [if_neg (fun z => z.elim c5 c6)] at hR
              refine hC.aload_n dX8_thread_71 rfl ?_
              refine hC.getfield dX8_thread_72 lfX8_69 rfl rfl ?_
              refine hC.iload_n dX8_thread_75 rfl ?_
              refine hC.rdV [27, 28, 29, 30, 31, 32, 33, 34, 35] dX8_thread_76 lmX8_212 mkX4_threadOf svX4_threadOf (ct_X4_threadOf l P hP (thZ P Q Z n) h9) ⟨Nat.le_of_ble_eq_true rfl, Nat.le_of_ble_eq_true rfl⟩ rfl rfl (Nat.le_of_ble_eq_true rfl) ⟨by decide, rfl⟩ rfl rfl ?_
              exact hR.ireturn dX8_thread_79 ⟨rfl, rfl⟩
            · exact hC.loc rfl (k67 (Or.inr ((nn_eq (x := thZ P Q Z n) (by have h9 := hlt.1; show (ltL _ _ _ _).1 < _ ∨ (ltL _ _ _ _).1 = _; omega)).mp c6)))
        · exact bad (by simp [inR_f2 (n := 1) (by decide) c4])
