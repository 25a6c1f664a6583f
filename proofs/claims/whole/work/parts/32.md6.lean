/-! StripFlagModel: years by draws -/
abbrev MdT : Type := (Nat → Nat → Nat) × (Nat → Nat)
noncomputable def dF (F : Nat → Nat) : Nat → Nat := updN F 11 (seedF (F 11))
noncomputable def ysM (a : Nat) (X : MdT) : MdT := if dvF (seedF (X.2 11)) 3 = 0 ∧ 0 < X.2 8 then (upR X.1 13 (updN (X.1 13) (dvF (seedF (dF X.2 11)) (X.2 8)) (if muB X.1 (dF (dF X.2)) a (dvF (seedF (dF X.2 11)) (X.2 8)) (thF (stM X.1 (dF (dF X.2))) 0) (X.2 10) = true then 0 else X.1 13 (dvF (seedF (dF X.2 11)) (X.2 8)))), dF (dF X.2)) else (X.1, dF X.2)
noncomputable def ylM (X : MdT) : Nat → MdT
  | 0 => X
  | n + 1 => ysM n (ylM X n)
noncomputable def yrM (X : MdT) : MdT := (frM (ylM X (X.2 7)).1 (dF (ylM X (X.2 7)).2) (dvF (seedF ((ylM X (X.2 7)).2 11)) 3), dF (ylM X (X.2 7)).2)
noncomputable def ynM (X : MdT) : Nat → MdT
  | 0 => X
  | n + 1 => yrM (ynM X n)
theorem dF_ok {R : Nat → Nat → Nat} {F : Nat → Nat} (h : MdOK R F) : MdOK R (dF F) := ⟨h.1, h.2.1, h.2.2.1, h.2.2.2.1, h.2.2.2.2.1, seedF_lt _, h.2.2.2.2.2.2⟩
theorem ysM_ok {X : MdT} (h : MdOK X.1 X.2) (a : Nat) : MdOK (ysM a X).1 (ysM a X).2 ∧ (ysM a X).2 7 = X.2 7 ∧ (ysM a X).2 8 = X.2 8 := by
  unfold ysM
  split
  · refine ⟨?_, rfl, rfl⟩
    refine md13_ok (dF_ok (dF_ok h)) (upd9 h.2.2.2.2.2.2.2.2.1 ?_)
    split
    · omega
    · exact h.2.2.2.2.2.2.2.2.1 _
  · exact ⟨dF_ok h, rfl, rfl⟩
theorem ylM_ok {X : MdT} (h : MdOK X.1 X.2) : ∀ n, MdOK (ylM X n).1 (ylM X n).2 ∧ (ylM X n).2 7 = X.2 7 ∧ (ylM X n).2 8 = X.2 8
  | 0 => ⟨h, rfl, rfl⟩
  | n + 1 => by
    obtain ⟨h1, h2, h3⟩ := ylM_ok h n
    obtain ⟨g1, g2, g3⟩ := ysM_ok h1 n
    exact ⟨g1, g2.trans h2, g3.trans h3⟩
theorem yrM_ok {X : MdT} (h : MdOK X.1 X.2) : MdOK (yrM X).1 (yrM X).2 ∧ (yrM X).2 7 = X.2 7 := ⟨frM_ok (dF_ok (ylM_ok h _).1) _, (ylM_ok h _).2.1⟩
theorem ynM_ok {X : MdT} (h : MdOK X.1 X.2) : ∀ n, MdOK (ynM X n).1 (ynM X n).2 ∧ (ynM X n).2 7 = X.2 7
  | 0 => ⟨h, rfl⟩
  | n + 1 => by
    obtain ⟨h1, h2⟩ := ynM_ok h n
    obtain ⟨g1, g2⟩ := yrM_ok h1
    exact ⟨g1, g2.trans h2⟩
noncomputable def mDrift (X : MdT) (x : Int32) : Int32 × MdT := if inL x 1 99 = true then (if X.2 7 = 0 then (cN, X) else (nI (flyF (EM (ynM X (ix x)).1) 20 (thF (stM (ynM X (ix x)).1 (ynM X (ix x)).2) 0)), ynM X (ix x))) else (cO, X)
set_option maxHeartbeats 4000000 in
set_option maxRecDepth 20000 in
theorem ct_X9_drift (l : Launch) (R : Nat → Nat → Nat) (F : Nat → Nat) (L : Nat → Int64) (h : MdOK R F) (x : Int32) : Ct l 4 yX9_drift cX9_drift 5 (some .int) [.ref 0, .int x] (mdW R F L) (RV (.int (mDrift (R, F) x).1) (mdW (mDrift (R, F) x).2.1 (mDrift (R, F) x).2.2 L)) := by
  refine Ct.of (by decide) (Nat.le_of_ble_eq_true rfl) (fun K hC hR => ?_)
  show K 0 [(0, .ref 0), (1, .int x)] [] _
  have h8 := h.2.1
  refine hC.iload_n dX9_drift_0 rfl ?_
  refine hC.i2l dX9_drift_1 ?_
  refine hC.lconst dX9_drift_2 (v := lN 1) rfl ?_
  refine hC.ldc2_w (v := lN 99) dX9_drift_3 lcX9_247 ?_
  refine hC.rdS [] dX9_drift_6 lmX9_92 mkX9_in sxX9_in (ct_X9_in l x.toInt64 (lN 1) (lN 99)) ⟨Nat.le_of_ble_eq_true rfl, Nat.le_of_ble_eq_true rfl⟩ rfl rfl (Nat.le_of_ble_eq_true rfl) ⟨by decide, rfl⟩ ?_
  rw [in_L (by decide) (by decide)]
  refine hC.bnz dX9_drift_9 (tgt := 15) rfl (fun c1 => ?_) (fun c1 => ?_)
  · have c1b := c1
    simp only [inL, decide_eq_true_eq] at c1b
    obtain ⟨n, hn31, rfl⟩ := nI_of (x := x) (by rw [lt0_iff]; omega)
    rw [nI_toInt hn31] at c1b
    have hix : ix (nI n) = n := nI_clamp (by omega)
    rw [mDrift, if_pos c1, hix] at hR
    refine hC.aload_n dX9_drift_15 rfl ?_
    refine hC.getfield dX9_drift_16 lfX9_180 rfl rfl ?_
    refine hC.nnz (by omega) dX9_drift_19 (tgt := 25) rfl (fun c3 => ?_) (fun c3 => ?_)
    · rw [if_neg c3] at hR
      refine hC.iconst dX9_drift_25 (v := nI 0) rfl ?_
      refine hC.istore_n dX9_drift_26 (by decide) ?_
      have outer : ∀ k, k ≤ n → K 27 [(0, .ref 0), (1, .int (nI n)), (2, .int (nI k))] [] (mdW (ynM (R, F) k).1 (ynM (R, F) k).2 L) := by
        refine loopUp1 _ n ?_ (fun k hk ih => ?_)
        · obtain ⟨hx, -⟩ := ynM_ok (X := (R, F)) h n
          have ht := thF_lt (stM (ynM (R, F) n).1 (ynM (R, F) n).2) 0
          refine hC.iload_n dX9_drift_27 rfl ?_
          refine hC.iload_n dX9_drift_28 rfl ?_
          refine hC.n_ge (by omega) (by omega) dX9_drift_29 (tgt := 126) rfl (fun c => ?_) (fun c => ?_)
          · refine hC.aload_n dX9_drift_126 rfl ?_
            refine hC.aload_n dX9_drift_127 rfl ?_
            refine hC.iconst dX9_drift_128 (v := nI 0) rfl ?_
            refine hC.rdV [0, 1, 2, 3, 4, 5, 6, 7, 8, 9, 10, 11, 12, 13, 14, 15, 16, 17, 18, 19, 20, 21, 22, 23, 24, 25] dX9_drift_129 lmX9_198 mkX9_there svX9_there (ct_X9_there l (ynM (R, F) n).1 (ynM (R, F) n).2 L hx 0 (by decide)) ⟨Nat.le_of_ble_eq_true rfl, Nat.le_of_ble_eq_true rfl⟩ rfl rfl (Nat.le_of_ble_eq_true rfl) ⟨by decide, rfl⟩ rfl rfl ?_
            refine hC.rdV [0, 1, 2, 3, 4, 5, 6, 7, 8, 9, 10, 11, 12, 13, 14, 15, 16, 17, 18, 19, 20, 21, 22, 23, 24, 25] dX9_drift_132 lmX9_223 mkX9_flying svX9_flying (ct_X9_flying l (ynM (R, F) n).1 (ynM (R, F) n).2 L hx (thF (stM (ynM (R, F) n).1 (ynM (R, F) n).2) 0) (by omega) (fun s hs => Or.inl (thF_v hs))) ⟨Nat.le_of_ble_eq_true rfl, Nat.le_of_ble_eq_true rfl⟩ rfl rfl (Nat.le_of_ble_eq_true rfl) ⟨by decide, rfl⟩ rfl rfl ?_
            exact hR.ireturn dX9_drift_135 ⟨rfl, rfl⟩
          · omega
        · obtain ⟨hx, h7⟩ := ynM_ok (X := (R, F)) h k
          have ih : K 27 [(0, .ref 0), (1, .int (nI n)), (2, .int (nI (k + 1)))] [] (mdW (yrM (ynM (R, F) k)).1 (yrM (ynM (R, F) k)).2 L) := ih
          generalize hXg : ynM (R, F) k = Y at hx h7 ih ⊢
          have inner : ∀ a, a ≤ Y.2 7 → K 34 [(0, .ref 0), (1, .int (nI n)), (2, .int (nI k)), (3, .int (nI a))] [] (mdW (ylM Y a).1 (ylM Y a).2 L) := by
            have h78 := hx.2.1
            refine loopUp1 _ (Y.2 7) ?_ (fun a ha ih2 => ?_)
            · obtain ⟨hy, hy7, -⟩ := ylM_ok hx (Y.2 7)
              have ih : K 27 [(0, .ref 0), (1, .int (nI n)), (2, .int (nI (k + 1)))] [] (mdW (frM (ylM Y (Y.2 7)).1 (dF (ylM Y (Y.2 7)).2) (dvF (seedF ((ylM Y (Y.2 7)).2 11)) 3)) (dF (ylM Y (Y.2 7)).2) L) := ih
              generalize hZg : ylM Y (Y.2 7) = Z at hy hy7 ih ⊢
              have hd3 : dvF (seedF (Z.2 11)) 3 < 3 := dvF_lt (by decide)
              refine hC.iload_n dX9_drift_34 rfl ?_
              refine hC.aload_n dX9_drift_35 rfl ?_
              refine hC.getfield dX9_drift_36 lfX9_180 rfl rfl ?_
              refine hC.n_ge (a := Y.2 7) (b := Z.2 7) (by omega) (by omega) dX9_drift_39 (tgt := 110) rfl (fun c => ?_) (fun c => ?_)
              · refine hC.aload_n dX9_drift_110 rfl ?_
                refine hC.aload_n dX9_drift_111 rfl ?_
                refine hC.iconst dX9_drift_112 (v := nI 3) rfl ?_
                refine hC.wrVs dX9_drift_113 lmX9_249 mkX9_draws svX9_draws (ct_X9_draws l Z.1 Z.2 L hy.2.2.2.2.2.1 3 (by decide)) ⟨Nat.le_of_ble_eq_true rfl, Nat.le_of_ble_eq_true rfl⟩ rfl rfl (Nat.le_of_ble_eq_true rfl) rfl rfl ?_
                refine hC.wrVs dX9_drift_116 lmX9_234 mkX9_frays svX9_frays (ct_X9_frays l Z.1 (dF Z.2) L (dF_ok hy) (dvF (seedF (Z.2 11)) 3) (by omega)) ⟨Nat.le_of_ble_eq_true rfl, Nat.le_of_ble_eq_true rfl⟩ rfl rfl (Nat.le_of_ble_eq_true rfl) rfl rfl ?_
                refine hC.pop dX9_drift_119 rfl ?_
                refine hC.iinc dX9_drift_120 rfl (nI_1 _) (by decide) ?_
                refine hC.goto dX9_drift_123 (tgt := 27) rfl ?_
                exact hC.loc rfl ih
              · omega
            · obtain ⟨hy, hy7, hy8⟩ := ylM_ok hx a
              have ih2 : K 34 [(0, .ref 0), (1, .int (nI n)), (2, .int (nI k)), (3, .int (nI (a + 1)))] [] (mdW (ysM a (ylM Y a)).1 (ysM a (ylM Y a)).2 L) := ih2
              generalize hZg : ylM Y a = Z at hy hy7 hy8 ih2 ⊢
              have hd3 : dvF (seedF (Z.2 11)) 3 < 3 := dvF_lt (by decide)
              have h12 := hy.2.2.1
              refine hC.iload_n dX9_drift_34 rfl ?_
              refine hC.aload_n dX9_drift_35 rfl ?_
              refine hC.getfield dX9_drift_36 lfX9_180 rfl rfl ?_
              refine hC.n_ge (a := a) (b := Z.2 7) (by omega) (by omega) dX9_drift_39 (tgt := 110) rfl (fun c => ?_) (fun c => ?_)
              · omega
              · refine hC.aload_n dX9_drift_42 rfl ?_
                refine hC.iconst dX9_drift_43 (v := nI 3) rfl ?_
                refine hC.wrVs dX9_drift_44 lmX9_249 mkX9_draws svX9_draws (ct_X9_draws l Z.1 Z.2 L hy.2.2.2.2.2.1 3 (by decide)) ⟨Nat.le_of_ble_eq_true rfl, Nat.le_of_ble_eq_true rfl⟩ rfl rfl (Nat.le_of_ble_eq_true rfl) rfl rfl ?_
                refine hC.nnz (by omega) dX9_drift_47 (tgt := 104) rfl (fun c4 => ?_) (fun c4 => ?_)
                · refine hC.iinc dX9_drift_104 rfl (nI_1 _) (by decide) ?_
                  refine hC.goto dX9_drift_107 (tgt := 34) rfl ?_
                  rw [ysM, if_neg (fun z => c4 z.1)] at ih2
                  exact hC.loc rfl ih2
                · refine hC.aload_n dX9_drift_50 rfl ?_
                  refine hC.getfield dX9_drift_51 lfX9_186 rfl rfl ?_
                  refine hC.z_le (x := Z.2 8) (by omega) dX9_drift_54 (tgt := 104) rfl (fun c5 => ?_) (fun c5 => ?_)
                  · refine hC.iinc dX9_drift_104 rfl (nI_1 _) (by decide) ?_
                    refine hC.goto dX9_drift_107 (tgt := 34) rfl ?_
                    rw [ysM, if_neg (fun z => by omega)] at ih2
                    exact hC.loc rfl ih2
                  · rw [ysM, if_pos ⟨c4, c5⟩] at ih2
                    have hds : dvF (seedF (dF Z.2 11)) (Z.2 8) < Z.2 8 := dvF_lt c5
                    have ht := thF_lt (stM Z.1 (dF (dF Z.2))) 0
                    have hh := hy.2.2.2.2.1
                    refine hC.aload_n dX9_drift_57 rfl ?_
                    refine hC.aload_n dX9_drift_58 rfl ?_
                    refine hC.getfield dX9_drift_59 lfX9_186 rfl rfl ?_
                    refine hC.wrVs dX9_drift_62 lmX9_249 mkX9_draws svX9_draws (ct_X9_draws l Z.1 (dF Z.2) L (dF_ok hy).2.2.2.2.2.1 (Z.2 8) ⟨c5, by omega⟩) ⟨Nat.le_of_ble_eq_true rfl, Nat.le_of_ble_eq_true rfl⟩ rfl rfl (Nat.le_of_ble_eq_true rfl) rfl rfl ?_
                    generalize hdg : dvF (seedF (dF Z.2 11)) (Z.2 8) = d at hds ih2 ⊢
                    have fin : ∀ v, v = (if muB Z.1 (dF (dF Z.2)) a d (thF (stM Z.1 (dF (dF Z.2))) 0) (Z.2 10) = true then 0 else Z.1 13 d) → K 103 [(0, .ref 0), (1, .int (nI n)), (2, .int (nI k)), (3, .int (nI a)), (4, .int (nI d))] [.int (nI v), .int (nI d), .ref 13] (mdW Z.1 (dF (dF Z.2)) L) := by
                      intro v hv
                      rw [← hv] at ih2
                      refine hC.isN dX9_drift_103 rfl ⟨by omega, by decide⟩ ?_
                      refine hC.iinc dX9_drift_104 rfl (nI_1 _) (by decide) ?_
                      refine hC.goto dX9_drift_107 (tgt := 34) rfl ?_
                      exact hC.loc rfl ih2
                    refine hC.istore dX9_drift_65 (by decide) ?_
                    refine hC.aload_n dX9_drift_67 rfl ?_
                    refine hC.getfield dX9_drift_68 lfX9_46 rfl rfl ?_
                    refine hC.iload dX9_drift_71 rfl ?_
                    refine hC.aload_n dX9_drift_73 rfl ?_
                    refine hC.iload_n dX9_drift_74 rfl ?_
                    refine hC.iload dX9_drift_75 rfl ?_
                    refine hC.aload_n dX9_drift_77 rfl ?_
                    refine hC.iconst dX9_drift_78 (v := nI 0) rfl ?_
                    refine hC.rdV [0, 1, 2, 3, 4, 5, 6, 7, 8, 9, 10, 11, 12, 13, 14, 15, 16, 17, 18, 19, 20, 21, 22, 23, 24, 25] dX9_drift_79 lmX9_198 mkX9_there svX9_there (ct_X9_there l Z.1 (dF (dF Z.2)) L (dF_ok (dF_ok hy)) 0 (by decide)) ⟨Nat.le_of_ble_eq_true rfl, Nat.le_of_ble_eq_true rfl⟩ rfl rfl (Nat.le_of_ble_eq_true rfl) ⟨by decide, rfl⟩ rfl rfl ?_
                    refine hC.aload_n dX9_drift_82 rfl ?_
                    refine hC.getfield dX9_drift_83 lfX9_192 rfl rfl ?_
                    refine hC.rdV [0, 1, 2, 3, 4, 5, 6, 7, 8, 9, 10, 11, 12, 13, 14, 15, 16, 17, 18, 19, 20, 21, 22, 23, 24, 25] dX9_drift_86 lmX9_226 mkX9_mayUnpick svX9_mayUnpick (ct_X9_mayUnpick l Z.1 (dF (dF Z.2)) L (dF_ok (dF_ok hy)) a d (thF (stM Z.1 (dF (dF Z.2))) 0) (Z.2 10) (by omega) hds (by omega) (by omega)) ⟨Nat.le_of_ble_eq_true rfl, Nat.le_of_ble_eq_true rfl⟩ rfl rfl (Nat.le_of_ble_eq_true rfl) ⟨by decide, rfl⟩ rfl rfl ?_
                    refine hC.bz dX9_drift_89 (tgt := 96) rfl (fun c6 => ?_) (fun c6 => ?_)
                    · refine hC.aload_n dX9_drift_96 rfl ?_
                      refine hC.getfield dX9_drift_97 lfX9_46 rfl rfl ?_
                      refine hC.iload dX9_drift_100 rfl ?_
                      refine hC.iaN dX9_drift_102 rfl ⟨by omega, by decide⟩ ?_
                      exact hC.loc rfl (fin _ (by rw [if_neg (by simp [c6])]))
                    · refine hC.iconst dX9_drift_92 (v := nI 0) rfl ?_
                      refine hC.goto dX9_drift_93 (tgt := 103) rfl ?_
                      exact hC.loc rfl (fin _ (by rw [if_pos c6]))
          refine hC.iload_n dX9_drift_27 rfl ?_
          refine hC.iload_n dX9_drift_28 rfl ?_
          refine hC.n_ge (by omega) (by omega) dX9_drift_29 (tgt := 126) rfl (fun c => ?_) (fun c => ?_)
          · omega
          · refine hC.iconst dX9_drift_32 (v := nI 0) rfl ?_
            refine hC.istore_n dX9_drift_33 (by decide) ?_
            exact hC.loc rfl (inner 0 (by omega))
      exact hC.loc rfl (outer 0 (by omega))
    · rw [if_pos c3] at hR
      refine hC.ldc dX9_drift_22 lcX9_230 ?_
      exact hR.ireturn dX9_drift_24 ⟨rfl, rfl⟩
  · rw [mDrift, if_neg (by simp [c1])] at hR
    refine hC.ldc dX9_drift_12 lcX9_96 ?_
    exact hR.ireturn dX9_drift_14 ⟨rfl, rfl⟩
