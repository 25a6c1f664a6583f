/-! StripFlag$Cloth: what changes it -/
theorem maxsub {a b : Nat} (ha : a < 2 ^ 30) (hb : b < 2 ^ 30) : (if nI 0 < nI a - nI b then nI a - nI b else nI 0) = nI (a - b) := by
  by_cases h : b < a
  · rw [pk_sub (by omega), if_pos ((nI_ltI (by decide) (by omega)).mpr (by omega))]
  · rcases Nat.lt_or_ge a b with h2 | h2
    · have h3 := pk_sneg hb h2
      rw [if_neg, Nat.sub_eq_zero_of_le (by omega)]
      intro h4
      rw [Int32.lt_iff_toInt_lt] at h3 h4
      have : (nI 0).toInt = 0 := rfl
      rw [Int32.toInt_zero] at h3
      omega
    · have : a = b := by omega
      subst this
      rw [pk_sub (Nat.le_refl _), Nat.sub_self]; rfl
def frG (st : Nat → Nat) (loose w s : Nat) : Nat → Nat := fun j => if (decide (j < s) && loose.testBit j) = true then st j - w else st j
def frP (st : Nat → Nat) (loose w s : Nat) : Bool := loose.testBit s && decide (st s - w = 0)
def frF (P : PlanT) (w : Nat) (Q : ClothT) : ClothT := (frG Q.1 (lsF P (thF Q.1 0)) w 12, Q.2)
def frR (P : PlanT) (w : Nat) (Q : ClothT) : Nat := bs 12 (frP Q.1 (lsF P (thF Q.1 0)) w)
theorem frG_at (st : Nat → Nat) (loose w s : Nat) : frG st loose w s s = st s := by simp [frG]
theorem frG_t {st : Nat → Nat} {loose w s : Nat} (h : loose.testBit s = true) : updN (frG st loose w s) s (st s - w) = frG st loose w (s + 1) := by
  funext j
  unfold updN frG
  by_cases h1 : j = s
  · subst h1; simp [h]
  · have : decide (j < s + 1) = decide (j < s) := by
      by_cases h2 : j < s
      · simp [h2]; omega
      · simp [h2]; omega
    simp [h1, this]
theorem frG_f {st : Nat → Nat} {loose w s : Nat} (h : loose.testBit s = false) : frG st loose w (s + 1) = frG st loose w s := by
  funext j
  unfold frG
  by_cases h1 : j = s
  · subst h1; simp [h]
  · have : decide (j < s + 1) = decide (j < s) := by
      by_cases h2 : j < s
      · simp [h2]; omega
      · simp [h2]; omega
    rw [this]
theorem frG_0 (st : Nat → Nat) (loose w : Nat) : frG st loose w 0 = st := by funext j; simp [frG]
set_option maxHeartbeats 4000000 in
set_option maxRecDepth 20000 in
theorem ct_X1_frayEnds (l : Launch) (Q : ClothT) (P : PlanT) (hQ : ClothOK Q) (hP : PlanOK P) (w : Nat) (hw : w < 2 ^ 30) : Ct l 4 yX1_frayEnds cX1_frayEnds 6 (some .int) [.ref 0, .ref 3, .int (nI w)] (clpW Q P) (RV (.int (nI (frR P w Q))) (clpW (frF P w Q) P)) := by
  refine Ct.of (by decide) (Nat.le_of_ble_eq_true rfl) (fun K hC hR => ?_)
  show K 0 [(0, .ref 0), (1, .ref 3), (2, .int (nI w))] [] _
  have h9 := hQ.1
  refine hC.aload_n dX1_frayEnds_0 rfl ?_
  refine hC.aload_n dX1_frayEnds_1 rfl ?_
  refine hC.rdV [0, 1, 2, 3, 4, 5, 6, 7, 8, 9, 10, 11] dX1_frayEnds_2 lmX1_47 mkX1_looseSeams svX1_looseSeams (ct_X1_looseSeams l Q P hQ hP) ⟨Nat.le_of_ble_eq_true rfl, Nat.le_of_ble_eq_true rfl⟩ rfl rfl (Nat.le_of_ble_eq_true rfl) ⟨by decide, rfl⟩ rfl rfl ?_
  have hL := lsF_lt P (thF Q.1 0)
  generalize hg : lsF P (thF Q.1 0) = g at hL ⊢
  refine hC.istore_n dX1_frayEnds_5 (by decide) ?_
  refine hC.iconst dX1_frayEnds_6 (v := nI 0) rfl ?_
  refine hC.istore dX1_frayEnds_7 (by decide) ?_
  refine hC.iconst dX1_frayEnds_9 (v := nI 0) rfl ?_
  refine hC.istore dX1_frayEnds_10 (by decide) ?_
  have loop : ∀ s, s ≤ 12 → K 12 [(0, .ref 0), (1, .ref 3), (2, .int (nI w)), (3, .int (nI g)), (4, .int (nI (bs s (frP Q.1 g w)))), (5, .int (nI s))] [] (clpW (frG Q.1 g w s, Q.2) P) := by
    refine loopUp1 _ 12 ?_ (fun s hs ih => ?_)
    · refine hC.iload dX1_frayEnds_12 rfl ?_
      refine hC.bipush dX1_frayEnds_14 (v := nI 12) rfl ?_
      refine hC.n_ge (by omega) (by omega) dX1_frayEnds_16 (tgt := 77) rfl (fun c => ?_) (fun c => ?_)
      · refine hC.iload dX1_frayEnds_77 rfl ?_
        exact hR.ireturn dX1_frayEnds_79 ⟨by rw [frR, hg], by rw [frF, hg]⟩
      · omega
    · have h9s := h9 s
      refine hC.iload dX1_frayEnds_12 rfl ?_
      refine hC.bipush dX1_frayEnds_14 (v := nI 12) rfl ?_
      refine hC.n_ge (by omega) (by omega) dX1_frayEnds_16 (tgt := 77) rfl (fun c => ?_) (fun c => ?_)
      · omega
      · refine hC.iload_n dX1_frayEnds_19 rfl ?_
        refine hC.iload dX1_frayEnds_20 rfl ?_
        refine hC.rdSN [] dX1_frayEnds_22 lnX1_51 mkX8_has sxX8_has (ct_X8_has l g s (by omega) (by omega)) ⟨Nat.le_of_ble_eq_true rfl, Nat.le_of_ble_eq_true rfl⟩ rfl rfl (Nat.le_of_ble_eq_true rfl) ⟨by decide, rfl⟩ ?_
        refine hC.bz dX1_frayEnds_25 (tgt := 71) rfl (fun c1 => ?_) (fun c1 => ?_)
        · refine hC.iinc dX1_frayEnds_71 rfl (nI_1 _) (by decide) ?_
          refine hC.goto dX1_frayEnds_74 (tgt := 12) rfl ?_
          rw [bs_f (show frP Q.1 g w s = false by simp [frP, c1]), frG_f c1] at ih
          exact hC.loc rfl ih
        · refine hC.aload_n dX1_frayEnds_28 rfl ?_
          refine hC.getfield dX1_frayEnds_29 lfX1_9 rfl rfl ?_
          refine hC.iload dX1_frayEnds_32 rfl ?_
          refine hC.iconst dX1_frayEnds_34 (v := nI 0) rfl ?_
          refine hC.aload_n dX1_frayEnds_35 rfl ?_
          refine hC.getfield dX1_frayEnds_36 lfX1_9 rfl rfl ?_
          refine hC.iload dX1_frayEnds_39 rfl ?_
          refine hC.iaN dX1_frayEnds_41 rfl ⟨by omega, by decide⟩ ?_
          refine hC.iload_n dX1_frayEnds_42 rfl ?_
          refine hC.isub dX1_frayEnds_43 ?_
          refine hC.mmaxR dX1_frayEnds_44 lmX1_55 ⟨Nat.le_of_ble_eq_true rfl, Nat.le_of_ble_eq_true rfl⟩ ?_
          simp only [frG_at]
          rw [maxsub (by omega) hw]
          refine hC.isN dX1_frayEnds_47 rfl ⟨by omega, by decide⟩ ?_
          refine hC.iload dX1_frayEnds_48 rfl ?_
          refine hC.aload_n dX1_frayEnds_50 rfl ?_
          refine hC.getfield dX1_frayEnds_51 lfX1_9 rfl rfl ?_
          refine hC.iload dX1_frayEnds_54 rfl ?_
          refine hC.iaN dX1_frayEnds_56 rfl ⟨by omega, by decide⟩ ?_
          rw [frG_t c1]
          have hv : frG Q.1 g w (s + 1) s = Q.1 s - w := by simp [frG, c1]
          rw [hv]
          have fin : ∀ z : Nat, bs (s + 1) (frP Q.1 g w) = bs s (frP Q.1 g w) ||| z → K 68 [(0, .ref 0), (1, .ref 3), (2, .int (nI w)), (3, .int (nI g)), (4, .int (nI (bs s (frP Q.1 g w)))), (5, .int (nI s))] [.int (nI z), .int (nI (bs s (frP Q.1 g w)))] (clpW (frG Q.1 g w (s + 1), Q.2) P) := by
            intro z hz
            refine hC.ior dX1_frayEnds_68 ?_
            rw [nI_or, ← hz]
            refine hC.istore dX1_frayEnds_69 (by decide) ?_
            refine hC.iinc dX1_frayEnds_71 rfl (nI_1 _) (by decide) ?_
            refine hC.goto dX1_frayEnds_74 (tgt := 12) rfl ?_
            exact hC.loc rfl ih
          refine hC.nnz (by omega) dX1_frayEnds_57 (tgt := 67) rfl (fun c2 => ?_) (fun c2 => ?_)
          · refine hC.iconst dX1_frayEnds_67 (v := nI 0) rfl ?_
            exact fin 0 (by rw [bs_f (show frP Q.1 g w s = false by simp [frP, c2])]; simp)
          · refine hC.iconst dX1_frayEnds_60 (v := nI 1) rfl ?_
            refine hC.iload dX1_frayEnds_61 rfl ?_
            refine hC.ishl dX1_frayEnds_63 ?_
            rw [nI_shl (by omega), Nat.one_mul]
            refine hC.goto dX1_frayEnds_64 (tgt := 68) rfl ?_
            exact fin _ (bs_t (show frP Q.1 g w s = true by simp [frP, c1, c2]))
  have l0 := loop 0 (by omega)
  rw [frG_0] at l0
  exact hC.loc rfl l0
theorem lN_and (a b : Nat) : lN a &&& lN b = lN (a &&& b) := by
  apply Int64.toBitVec_inj.mp
  rw [Int64.toBitVec_and]
  show BitVec.ofNat 64 a &&& BitVec.ofNat 64 b = BitVec.ofNat 64 (a &&& b)
  apply BitVec.eq_of_getLsbD_eq
  intro i hi
  rw [BitVec.getLsbD_and, BitVec.getLsbD_ofNat, BitVec.getLsbD_ofNat, BitVec.getLsbD_ofNat, Nat.testBit_and]
  simp [hi]
theorem seedF_ex : ∃ f : Nat → Nat, ∀ s, f s = (s * 1103515245 + 12345) % 2 ^ 31 := ⟨fun s => (s * 1103515245 + 12345) % 2 ^ 31, fun _ => rfl⟩
noncomputable def seedF : Nat → Nat := Classical.choose seedF_ex
theorem seedF_eq (s : Nat) : seedF s = (s * 1103515245 + 12345) % 2 ^ 31 := Classical.choose_spec seedF_ex s
theorem seedF_lt (s : Nat) : seedF s < 2 ^ 31 := by rw [seedF_eq]; exact Nat.mod_lt _ (by decide)
theorem dvF_ex : ∃ f : Nat → Nat → Nat, ∀ s n, f s n = s / 65536 % n := ⟨fun s n => s / 65536 % n, fun _ _ => rfl⟩
noncomputable def dvF : Nat → Nat → Nat := Classical.choose dvF_ex
theorem dvF_eq (s n : Nat) : dvF s n = s / 65536 % n := Classical.choose_spec dvF_ex s n
theorem dvF_lt {s n : Nat} (h : 0 < n) : dvF s n < n := by rw [dvF_eq]; exact Nat.mod_lt _ h
noncomputable def drQ (Q : ClothT) : ClothT := (Q.1, Q.2.1, Q.2.2.1, seedF Q.2.2.2)
noncomputable def drV (Q : ClothT) (n : Nat) : Nat := dvF (seedF Q.2.2.2) n
theorem drQ_ok {Q : ClothT} (h : ClothOK Q) : ClothOK (drQ Q) := ⟨h.1, h.2.1, h.2.2.1, seedF_lt Q.2.2.2⟩
set_option maxHeartbeats 4000000 in
set_option maxRecDepth 20000 in
theorem ct_X1_draw (l : Launch) (Q : ClothT) (hQ : ClothOK Q) (n : Nat) (hn : 0 < n ∧ n < 2 ^ 31) : Ct l 0 yX1_draw cX1_draw 2 (some .int) [.ref 0, .int (nI n)] (clothC 0 Q) (RV (.int (nI (drV Q n))) (clothC 0 (drQ Q))) := by
  refine Ct.of (by decide) (Nat.le_of_ble_eq_true rfl) (fun K hC hR => ?_)
  show K 0 [(0, .ref 0), (1, .int (nI n))] [] _
  have h1 := hQ.2.2.2
  have h2 := seedF_lt Q.2.2.2
  refine hC.aload_n dX1_draw_0 rfl ?_
  refine hC.aload_n dX1_draw_1 rfl ?_
  refine hC.getfield dX1_draw_2 lfX1_34 rfl rfl ?_
  refine hC.i2l dX1_draw_5 ?_
  rw [nI_l h1]
  refine hC.ldc2_w (v := lN 1103515245) dX1_draw_6 lcX1_95 ?_
  refine hC.lmul dX1_draw_9 ?_
  rw [lN_mul]
  refine hC.ldc2_w (v := lN 12345) dX1_draw_10 lcX1_97 ?_
  refine hC.ladd dX1_draw_13 ?_
  rw [lN_add]
  refine hC.ldc2_w (v := lN 2147483647) dX1_draw_14 lcX1_99 ?_
  refine hC.land dX1_draw_17 ?_
  rw [lN_and, show (2147483647 : Nat) = 2 ^ 31 - 1 from rfl, Nat.and_two_pow_sub_one_eq_mod, ← seedF_eq]
  refine hC.l2i dX1_draw_18 ?_
  rw [lN_i]
  refine hC.putI dX1_draw_19 lpX1_34 rfl rfl rfl (Nat.le_of_ble_eq_true rfl) ?_
  refine hC.iload_n dX1_draw_22 rfl ?_
  refine hC.z_le (by omega) dX1_draw_23 (tgt := 38) rfl (fun c => by omega) (fun c => ?_)
  refine hC.aload_n dX1_draw_26 rfl ?_
  refine hC.getfield dX1_draw_27 lfX1_34 rfl rfl ?_
  refine hC.ldc (v := nI 65536) dX1_draw_30 lcX1_101 ?_
  refine hC.idiv dX1_draw_32 (by decide) ?_
  rw [pk_div h2 (by decide) (by decide)]
  refine hC.iload_n dX1_draw_33 rfl ?_
  refine hC.irem dX1_draw_34 (fun e => by have := (nI0_iff hn.2).mp e; omega) ?_
  rw [pk_rem (Nat.lt_of_le_of_lt (Nat.div_le_self _ _) h2) hn.1 hn.2, ← dvF_eq]
  refine hC.goto dX1_draw_35 (tgt := 39) rfl ?_
  exact hR.ireturn dX1_draw_39 ⟨rfl, rfl⟩
def tuF (P : PlanT) (a s : Nat) (Q : ClothT) : ClothT := if (decide (s < P.2 2) && (upF P a (thF Q.1 0) Q.2.2.1).testBit s) = true then (updN Q.1 s 0, Q.2) else Q
set_option maxHeartbeats 4000000 in
set_option maxRecDepth 20000 in
theorem ct_X1_tryUnpick (l : Launch) (Q : ClothT) (P : PlanT) (hQ : ClothOK Q) (hP : PlanOK P) (a s : Nat) (ha : a < 31) (hs : s < 2 ^ 31) : Ct l 3 yX1_tryUnpick cX1_tryUnpick 4 none [.ref 0, .ref 3, .int (nI a), .int (nI s)] (clpW Q P) (RU (clpW (tuF P a s Q) P)) := by
  refine Ct.of (by decide) (Nat.le_of_ble_eq_true rfl) (fun K hC hR => ?_)
  show K 0 [(0, .ref 0), (1, .ref 3), (2, .int (nI a)), (3, .int (nI s))] [] _
  have h12 := hP.2.2.1
  refine hC.aload_n dX1_tryUnpick_0 rfl ?_
  refine hC.iload_n dX1_tryUnpick_1 rfl ?_
  refine hC.rdV [3, 4, 5, 6, 7, 8, 9, 10, 11] dX1_tryUnpick_2 lmX1_87 mkX4_hasSeam svX4_hasSeam (ct_X4_hasSeam l P h12 (nI s)) ⟨Nat.le_of_ble_eq_true rfl, Nat.le_of_ble_eq_true rfl⟩ rfl rfl (Nat.le_of_ble_eq_true rfl) ⟨by decide, rfl⟩ rfl rfl ?_
  rw [inB_nI hs]
  refine hC.bz dX1_tryUnpick_5 (tgt := 35) rfl (fun c => ?_) (fun c => ?_)
  · exact hR.return_ dX1_tryUnpick_35 ⟨rfl, by rw [tuF, if_neg (by simp [c])]⟩
  · have hs2 := of_decide_eq_true c
    refine hC.aload_n dX1_tryUnpick_8 rfl ?_
    refine hC.iload_n dX1_tryUnpick_9 rfl ?_
    refine hC.aload_n dX1_tryUnpick_10 rfl ?_
    refine hC.rdV [0, 1, 2] dX1_tryUnpick_11 lmX1_61 mkX1_sewn svX1_sewn (ct_X1_sewn l Q hQ) ⟨Nat.le_of_ble_eq_true rfl, Nat.le_of_ble_eq_true rfl⟩ rfl rfl (Nat.le_of_ble_eq_true rfl) ⟨by decide, rfl⟩ rfl rfl ?_
    refine hC.aload_n dX1_tryUnpick_14 rfl ?_
    refine hC.getfield dX1_tryUnpick_15 lfX1_30 rfl rfl ?_
    refine hC.rdV [3, 4, 5, 6, 7, 8, 9, 10, 11] dX1_tryUnpick_18 lmX1_91 mkX4_unpickable svX4_unpickable (ct_X4_unpickable l P hP a (thF Q.1 0) Q.2.2.1 ha (thF_lt _ _)) ⟨Nat.le_of_ble_eq_true rfl, Nat.le_of_ble_eq_true rfl⟩ rfl rfl (Nat.le_of_ble_eq_true rfl) ⟨by decide, rfl⟩ rfl rfl ?_
    refine hC.iload_n dX1_tryUnpick_21 rfl ?_
    refine hC.rdSN [] dX1_tryUnpick_22 lnX1_51 mkX8_has sxX8_has (ct_X8_has l (upF P a (thF Q.1 0) Q.2.2.1) s (Nat.lt_trans (bs_lt _ 12) (by decide)) (by omega)) ⟨Nat.le_of_ble_eq_true rfl, Nat.le_of_ble_eq_true rfl⟩ rfl rfl (Nat.le_of_ble_eq_true rfl) ⟨by decide, rfl⟩ ?_
    refine hC.bz dX1_tryUnpick_25 (tgt := 35) rfl (fun c2 => ?_) (fun c2 => ?_)
    · exact hR.return_ dX1_tryUnpick_35 ⟨rfl, by rw [tuF, if_neg (by simp [c2])]⟩
    · refine hC.aload_n dX1_tryUnpick_28 rfl ?_
      refine hC.getfield dX1_tryUnpick_29 lfX1_9 rfl rfl ?_
      refine hC.iload_n dX1_tryUnpick_32 rfl ?_
      refine hC.iconst dX1_tryUnpick_33 (v := nI 0) rfl ?_
      refine hC.isN dX1_tryUnpick_34 rfl ⟨by omega, by decide⟩ ?_
      exact hR.return_ dX1_tryUnpick_35 ⟨rfl, by rw [tuF, if_pos (by simp [c2, hs2])] <;> rfl⟩
theorem tuF_ok {P : PlanT} {a s : Nat} {Q : ClothT} (h : ClothOK Q) : ClothOK (tuF P a s Q) := by
  unfold tuF; split
  · refine ⟨fun j => ?_, h.2⟩
    have := h.1 j
    show updN Q.1 s 0 j ≤ 9
    unfold updN; split <;> omega
  · exact h
theorem frF_ok {P : PlanT} {w : Nat} {Q : ClothT} (h : ClothOK Q) : ClothOK (frF P w Q) := by
  refine ⟨fun j => ?_, h.2⟩
  have := h.1 j
  show frG _ _ _ _ _ ≤ 9
  unfold frG; split <;> omega
noncomputable def yrS (P : PlanT) (a : Nat) (Q : ClothT) : ClothT := if drV Q 3 = 0 ∧ 0 < P.2 2 then tuF P a (drV (drQ Q) (P.2 2)) (drQ (drQ Q)) else drQ Q
theorem yrS_ok {P : PlanT} {a : Nat} {Q : ClothT} (h : ClothOK Q) : ClothOK (yrS P a Q) := by
  unfold yrS; split
  · exact tuF_ok (drQ_ok (drQ_ok h))
  · exact drQ_ok h
noncomputable def yrL (P : PlanT) (Q : ClothT) : Nat → ClothT
  | 0 => Q
  | n + 1 => yrS P n (yrL P Q n)
theorem yrL_ok {P : PlanT} {Q : ClothT} (h : ClothOK Q) : ∀ n, ClothOK (yrL P Q n)
  | 0 => h
  | n + 1 => yrS_ok (yrL_ok h n)
noncomputable def yrF (P : PlanT) (Q : ClothT) : ClothT := frF P (drV (yrL P Q (P.2 1)) 3) (drQ (yrL P Q (P.2 1)))
theorem yrF_ok {P : PlanT} {Q : ClothT} (h : ClothOK Q) : ClothOK (yrF P Q) := frF_ok (drQ_ok (yrL_ok h _))
set_option maxHeartbeats 4000000 in
set_option maxRecDepth 20000 in
theorem ct_X1_passYear (l : Launch) (Q : ClothT) (P : PlanT) (hQ : ClothOK Q) (hP : PlanOK P) : Ct l 5 yX1_passYear cX1_passYear 3 none [.ref 0, .ref 3] (clpW Q P) (RU (clpW (yrF P Q) P)) := by
  refine Ct.of (by decide) (Nat.le_of_ble_eq_true rfl) (fun K hC hR => ?_)
  show K 0 [(0, .ref 0), (1, .ref 3)] [] _
  have h8 := hP.2.1
  have h12 := hP.2.2.1
  refine hC.iconst dX1_passYear_0 (v := nI 0) rfl ?_
  refine hC.istore_n dX1_passYear_1 (by decide) ?_
  have loop : ∀ s, s ≤ P.2 1 → K 2 [(0, .ref 0), (1, .ref 3), (2, .int (nI s))] [] (clpW (yrL P Q s) P) := by
    refine loopUp1 _ (P.2 1) ?_ (fun s hs ih => ?_)
    · have hq := yrL_ok (P := P) hQ (P.2 1)
      have hd3 : drV (yrL P Q (P.2 1)) 3 < 3 := dvF_lt (by decide)
      refine hC.iload_n dX1_passYear_2 rfl ?_
      refine hC.aload_n dX1_passYear_3 rfl ?_
      refine hC.getfield dX1_passYear_4 lfX1_41 rfl rfl ?_
      refine hC.n_ge (by omega) (by omega) dX1_passYear_7 (tgt := 45) rfl (fun c => ?_) (fun c => ?_)
      · refine hC.aload_n dX1_passYear_45 rfl ?_
        refine hC.aload_n dX1_passYear_46 rfl ?_
        refine hC.aload_n dX1_passYear_47 rfl ?_
        refine hC.iconst dX1_passYear_48 (v := nI 3) rfl ?_
        refine hC.wrV (hs2 := clpW (drQ (yrL P Q (P.2 1))) P) [0, 1, 2] dX1_passYear_49 lmX1_73 mkX1_draw svX1_draw (ct_X1_draw l (yrL P Q (P.2 1)) hq 3 (by decide)) ⟨Nat.le_of_ble_eq_true rfl, Nat.le_of_ble_eq_true rfl⟩ rfl rfl (Nat.le_of_ble_eq_true rfl) ⟨by decide, rfl⟩ rfl rfl rfl ?_
        refine hC.wrV (hs2 := clpW (yrF P Q) P) [0, 1, 2, 3, 4, 5, 6, 7, 8, 9, 10, 11] dX1_passYear_52 lmX1_83 mkX1_frayEnds svX1_frayEnds (ct_X1_frayEnds l (drQ (yrL P Q (P.2 1))) P (drQ_ok hq) hP (drV (yrL P Q (P.2 1)) 3) (by omega)) ⟨Nat.le_of_ble_eq_true rfl, Nat.le_of_ble_eq_true rfl⟩ rfl rfl (Nat.le_of_ble_eq_true rfl) ⟨by decide, rfl⟩ rfl rfl rfl ?_
        refine hC.pop dX1_passYear_55 rfl ?_
        exact hR.return_ dX1_passYear_56 ⟨rfl, rfl⟩
      · omega
    · have hq := yrL_ok (P := P) hQ s
      generalize hQ1 : yrL P Q s = Q1 at hq ⊢
      have hd3 : drV Q1 3 < 3 := dvF_lt (by decide)
      refine hC.iload_n dX1_passYear_2 rfl ?_
      refine hC.aload_n dX1_passYear_3 rfl ?_
      refine hC.getfield dX1_passYear_4 lfX1_41 rfl rfl ?_
      refine hC.n_ge (by omega) (by omega) dX1_passYear_7 (tgt := 45) rfl (fun c => ?_) (fun c => ?_)
      · omega
      · refine hC.aload_n dX1_passYear_10 rfl ?_
        refine hC.iconst dX1_passYear_11 (v := nI 3) rfl ?_
        refine hC.wrV (hs2 := clpW (drQ Q1) P) [0, 1, 2] dX1_passYear_12 lmX1_73 mkX1_draw svX1_draw (ct_X1_draw l Q1 hq 3 (by decide)) ⟨Nat.le_of_ble_eq_true rfl, Nat.le_of_ble_eq_true rfl⟩ rfl rfl (Nat.le_of_ble_eq_true rfl) ⟨by decide, rfl⟩ rfl rfl rfl ?_
        have e1 : yrL P Q (s + 1) = yrS P s Q1 := by rw [← hQ1]; rfl
        rw [e1] at ih
        refine hC.nnz (by omega) dX1_passYear_15 (tgt := 39) rfl (fun c1 => ?_) (fun c1 => ?_)
        · refine hC.iinc dX1_passYear_39 rfl (nI_1 _) (by decide) ?_
          refine hC.goto dX1_passYear_42 (tgt := 2) rfl ?_
          rw [yrS, if_neg (fun h => c1 h.1)] at ih
          exact hC.loc rfl ih
        · refine hC.aload_n dX1_passYear_18 rfl ?_
          refine hC.getfield dX1_passYear_19 lfX1_76 rfl rfl ?_
          refine hC.z_le (by omega) dX1_passYear_22 (tgt := 39) rfl (fun c2 => ?_) (fun c2 => ?_)
          · refine hC.iinc dX1_passYear_39 rfl (nI_1 _) (by decide) ?_
            refine hC.goto dX1_passYear_42 (tgt := 2) rfl ?_
            rw [yrS, if_neg (fun h => by omega)] at ih
            exact hC.loc rfl ih
          · have hdm : drV (drQ Q1) (P.2 2) < P.2 2 := dvF_lt c2
            refine hC.aload_n dX1_passYear_25 rfl ?_
            refine hC.aload_n dX1_passYear_26 rfl ?_
            refine hC.iload_n dX1_passYear_27 rfl ?_
            refine hC.aload_n dX1_passYear_28 rfl ?_
            refine hC.aload_n dX1_passYear_29 rfl ?_
            refine hC.getfield dX1_passYear_30 lfX1_76 rfl rfl ?_
            refine hC.wrV (hs2 := clpW (drQ (drQ Q1)) P) [0, 1, 2] dX1_passYear_33 lmX1_73 mkX1_draw svX1_draw (ct_X1_draw l (drQ Q1) (drQ_ok hq) (P.2 2) ⟨c2, by omega⟩) ⟨Nat.le_of_ble_eq_true rfl, Nat.le_of_ble_eq_true rfl⟩ rfl rfl (Nat.le_of_ble_eq_true rfl) ⟨by decide, rfl⟩ rfl rfl rfl ?_
            refine hC.wuV (hs2 := clpW (tuF P s (drV (drQ Q1) (P.2 2)) (drQ (drQ Q1))) P) [0, 1, 2, 3, 4, 5, 6, 7, 8, 9, 10, 11] dX1_passYear_36 lmX1_79 mkX1_tryUnpick svX1_tryUnpick (ct_X1_tryUnpick l (drQ (drQ Q1)) P (drQ_ok (drQ_ok hq)) hP s (drV (drQ Q1) (P.2 2)) (by omega) (by omega)) ⟨Nat.le_of_ble_eq_true rfl, Nat.le_of_ble_eq_true rfl⟩ rfl rfl (Nat.le_of_ble_eq_true rfl) ⟨by decide, rfl⟩ rfl rfl rfl ?_
            refine hC.iinc dX1_passYear_39 rfl (nI_1 _) (by decide) ?_
            refine hC.goto dX1_passYear_42 (tgt := 2) rfl ?_
            rw [yrS, if_pos ⟨c1, c2⟩] at ih
            exact hC.loc rfl ih
  exact hC.loc rfl (loop 0 (by omega))
set_option maxHeartbeats 4000000 in
set_option maxRecDepth 20000 in
theorem ct_X1_begin (l : Launch) (Q : ClothT) (P : PlanT) : Ct l 2 yX1_begin cX1_begin 2 none [.ref 0, .ref 3] (clpW Q P) (RU (clpW (P.1 4, P.1 1, 0, Q.2.2.2) P)) := by
  refine Ct.of (by decide) (Nat.le_of_ble_eq_true rfl) (fun K hC hR => ?_)
  show K 0 [(0, .ref 0), (1, .ref 3)] [] _
  refine hC.aload_n dX1_begin_0 rfl ?_
  refine hC.getfield dX1_begin_1 lfX1_18 rfl rfl ?_
  refine hC.iconst dX1_begin_4 (v := nI 0) rfl ?_
  refine hC.aload_n dX1_begin_5 rfl ?_
  refine hC.getfield dX1_begin_6 lfX1_9 rfl rfl ?_
  refine hC.iconst dX1_begin_9 (v := nI 0) rfl ?_
  refine hC.bipush dX1_begin_10 (v := nI 12) rfl ?_
  refine hC.copyI dX1_begin_12 lmX1_21 rfl rfl (by decide) ⟨Nat.le_of_ble_eq_true rfl, Nat.le_of_ble_eq_true rfl⟩ ?_
  refine hC.aload_n dX1_begin_15 rfl ?_
  refine hC.getfield dX1_begin_16 lfX1_27 rfl rfl ?_
  refine hC.iconst dX1_begin_19 (v := nI 0) rfl ?_
  refine hC.aload_n dX1_begin_20 rfl ?_
  refine hC.getfield dX1_begin_21 lfX1_15 rfl rfl ?_
  refine hC.iconst dX1_begin_24 (v := nI 0) rfl ?_
  refine hC.bipush dX1_begin_25 (v := nI 8) rfl ?_
  refine hC.copyI dX1_begin_27 lmX1_21 rfl rfl (by decide) ⟨Nat.le_of_ble_eq_true rfl, Nat.le_of_ble_eq_true rfl⟩ ?_
  refine hC.aload_n dX1_begin_30 rfl ?_
  refine hC.iconst dX1_begin_31 (v := nI 0) rfl ?_
  refine hC.putI dX1_begin_32 lpX1_30 rfl rfl rfl (Nat.le_of_ble_eq_true rfl) ?_
  exact hR.return_ dX1_begin_35 ⟨rfl, rfl⟩
abbrev cl2W (Q Z : ClothT) : List va_E := [.inr (1, [.ref 1, .ref 2, .int (nI Q.2.2.1), .int (nI Q.2.2.2)]), rowI 12 Q.1, rowI 8 Q.2.1, .inr (1, [.ref 4, .ref 5, .int (nI Z.2.2.1), .int (nI Z.2.2.2)]), rowI 12 Z.1, rowI 8 Z.2.1]
set_option maxHeartbeats 4000000 in
set_option maxRecDepth 20000 in
theorem ct_X1_copy (l : Launch) (Q Z : ClothT) : Ct l 2 yX1_copy cX1_copy 2 none [.ref 0, .ref 3] (cl2W Q Z) (RU (cl2W Z Z)) := by
  refine Ct.of (by decide) (Nat.le_of_ble_eq_true rfl) (fun K hC hR => ?_)
  show K 0 [(0, .ref 0), (1, .ref 3)] [] _
  refine hC.aload_n dX1_copy_0 rfl ?_
  refine hC.getfield dX1_copy_1 lfX1_9 rfl rfl ?_
  refine hC.iconst dX1_copy_4 (v := nI 0) rfl ?_
  refine hC.aload_n dX1_copy_5 rfl ?_
  refine hC.getfield dX1_copy_6 lfX1_9 rfl rfl ?_
  refine hC.iconst dX1_copy_9 (v := nI 0) rfl ?_
  refine hC.bipush dX1_copy_10 (v := nI 12) rfl ?_
  refine hC.copyI dX1_copy_12 lmX1_21 rfl rfl (by decide) ⟨Nat.le_of_ble_eq_true rfl, Nat.le_of_ble_eq_true rfl⟩ ?_
  refine hC.aload_n dX1_copy_15 rfl ?_
  refine hC.getfield dX1_copy_16 lfX1_15 rfl rfl ?_
  refine hC.iconst dX1_copy_19 (v := nI 0) rfl ?_
  refine hC.aload_n dX1_copy_20 rfl ?_
  refine hC.getfield dX1_copy_21 lfX1_15 rfl rfl ?_
  refine hC.iconst dX1_copy_24 (v := nI 0) rfl ?_
  refine hC.bipush dX1_copy_25 (v := nI 8) rfl ?_
  refine hC.copyI dX1_copy_27 lmX1_21 rfl rfl (by decide) ⟨Nat.le_of_ble_eq_true rfl, Nat.le_of_ble_eq_true rfl⟩ ?_
  refine hC.aload_n dX1_copy_30 rfl ?_
  refine hC.aload_n dX1_copy_31 rfl ?_
  refine hC.getfield dX1_copy_32 lfX1_30 rfl rfl ?_
  refine hC.putI dX1_copy_35 lpX1_30 rfl rfl rfl (Nat.le_of_ble_eq_true rfl) ?_
  refine hC.aload_n dX1_copy_38 rfl ?_
  refine hC.aload_n dX1_copy_39 rfl ?_
  refine hC.getfield dX1_copy_40 lfX1_34 rfl rfl ?_
  refine hC.putI dX1_copy_43 lpX1_34 rfl rfl rfl (Nat.le_of_ble_eq_true rfl) ?_
  exact hR.return_ dX1_copy_46 ⟨rfl, rfl⟩
