/-! StripFlag$Painter: how it looked -/
set_option maxHeartbeats 4000000 in
set_option maxRecDepth 20000 in
theorem ct_X3_lookBack (l : Launch) (T : PaintT) (P : PlanT) (g : Nat → Nat) (hP : PlanOK P) (m : Nat) (hm : m < 4096) : Ct l 4 yX3_lookBack cX3_lookBack 5 none [.ref 0, .ref 5, .int (nI m), .ref 14] (pplW T P g) (RU (pplW (setR (setR T 1 (rowL (fun a => bdF P a m) (T.2.2.2 1) 8)) 2 (rowL g (T.2.2.2 2) 8)) P g)) := by
  refine Ct.of (by decide) (Nat.le_of_ble_eq_true rfl) (fun K hC hR => ?_)
  show K 0 [(0, .ref 0), (1, .ref 5), (2, .int (nI m)), (3, .ref 14)] [] _
  refine hC.aload_n dX3_lookBack_0 rfl ?_
  refine hC.aload_n dX3_lookBack_1 rfl ?_
  refine hC.iload_n dX3_lookBack_2 rfl ?_
  refine hC.wuV (hs2 := pplW (setR T 1 (rowL (fun a => bdF P a m) (T.2.2.2 1) 8)) P g) [0, 1, 2, 3, 4, 5, 6, 7, 8, 9, 10, 11, 12, 13] dX3_lookBack_3 lmX3_30 mkX3_look svX3_look (ct_X3_look l T P hP m hm) ⟨Nat.le_of_ble_eq_true rfl, Nat.le_of_ble_eq_true rfl⟩ rfl rfl (Nat.le_of_ble_eq_true rfl) ⟨by decide, rfl⟩ rfl rfl rfl ?_
  refine hC.iconst dX3_lookBack_6 (v := nI 0) rfl ?_
  refine hC.istore dX3_lookBack_7 (by decide) ?_
  have loop : ∀ s, s ≤ 8 → K 9 [(0, .ref 0), (1, .ref 5), (2, .int (nI m)), (3, .ref 14), (4, .int (nI s))] [] (pplW (setR (setR T 1 (rowL (fun a => bdF P a m) (T.2.2.2 1) 8)) 2 (rowL g (T.2.2.2 2) s)) P g) := by
    refine loopUp1 _ 8 ?_ (fun s hs ih => ?_)
    · refine hC.iload dX3_lookBack_9 rfl ?_
      refine hC.bipush dX3_lookBack_11 (v := nI 8) rfl ?_
      refine hC.n_ge (by omega) (by omega) dX3_lookBack_13 (tgt := 40) rfl (fun c => ?_) (fun c => ?_)
      · exact hR.return_ dX3_lookBack_40 ⟨rfl, rfl⟩
      · omega
    · refine hC.iload dX3_lookBack_9 rfl ?_
      refine hC.bipush dX3_lookBack_11 (v := nI 8) rfl ?_
      refine hC.n_ge (by omega) (by omega) dX3_lookBack_13 (tgt := 40) rfl (fun c => ?_) (fun c => ?_)
      · omega
      · refine hC.iload dX3_lookBack_16 rfl ?_
        refine hC.aload_n dX3_lookBack_18 rfl ?_
        refine hC.alen (v := nI 8) dX3_lookBack_19 rfl (by decide) rfl ?_
        refine hC.n_ge (by omega) (by omega) dX3_lookBack_20 (tgt := 40) rfl (fun c2 => ?_) (fun c2 => ?_)
        · omega
        · refine hC.aload_n dX3_lookBack_23 rfl ?_
          refine hC.getfield dX3_lookBack_24 lfX3_18 rfl rfl ?_
          refine hC.iload dX3_lookBack_27 rfl ?_
          refine hC.aload_n dX3_lookBack_29 rfl ?_
          refine hC.iload dX3_lookBack_30 rfl ?_
          refine hC.iaN dX3_lookBack_32 rfl ⟨by omega, by decide⟩ ?_
          refine hC.isN dX3_lookBack_33 rfl ⟨by omega, by decide⟩ ?_
          refine hC.iinc dX3_lookBack_34 rfl (nI_1 _) (by decide) ?_
          refine hC.goto dX3_lookBack_37 (tgt := 9) rfl ?_
          rw [← rowL_s g (T.2.2.2 2) s] at ih
          exact hC.loc rfl ih
  have l0 := loop 0 (by omega)
  rw [rowL_0] at l0
  exact hC.loc rfl l0
def wyL (f : Nat → PaintT → Nat × PaintT) (may : Nat) (X : PaintT) : Nat → Nat × PaintT
  | 0 => (0, X)
  | c + 1 => if may.testBit c = true then ((wyL f may X c).1 + (f c (wyL f may X c).2).1, (f c (wyL f may X c).2).2) else wyL f may X c
def wyX (P : PlanT) : Nat → PaintT → Nat × PaintT
  | 0, X => (1, X)
  | k + 1, X => if X.2.2.2 1 (P.2 1 - (k + 1)) / 2 ^ (P.2 1 - (k + 1)) = 0 then (if andn (X.2.2.2 2 (P.2 1 - (k + 1))) (unF X (P.2 1 - (k + 1))) = 0 then (0, X) else (cd (andn (X.2.2.2 2 (P.2 1 - (k + 1))) (unF X (P.2 1 - (k + 1)))) * (wyX P k X).1, (wyX P k X).2)) else wyL (fun c Y => wyX P k (setR Y 3 (updN (Y.2.2.2 3) (P.2 1 - (k + 1)) c))) (andn (X.2.2.2 2 (P.2 1 - (k + 1))) (unF X (P.2 1 - (k + 1)))) X 4
theorem wyL_ok {f : Nat → PaintT → Nat × PaintT} {may : Nat} {X : PaintT} (hX : PaintOK X) (hf : ∀ c Y, c < 4 → PaintOK Y → PaintOK (f c Y).2) : ∀ c, c ≤ 4 → PaintOK (wyL f may X c).2
  | 0, _ => hX
  | c + 1, h => by
    unfold wyL; split
    · exact hf c _ (by omega) (wyL_ok hX hf c (by omega))
    · exact wyL_ok hX hf c (by omega)
theorem wyX_ok (P : PlanT) : ∀ k X, PaintOK X → PaintOK (wyX P k X).2
  | 0, X, hX => hX
  | k + 1, X, hX => by
    unfold wyX
    split
    · split
      · exact hX
      · exact wyX_ok P k X hX
    · exact wyL_ok hX (fun c Y hc hY => wyX_ok P k _ (setR3_ok hY hc)) 4 (Nat.le_refl 4)
theorem wyL_le {f : Nat → PaintT → Nat × PaintT} {may b : Nat} {X : PaintT} (hf : ∀ c Y, (f c Y).1 ≤ b) : ∀ c, (wyL f may X c).1 ≤ c * b
  | 0 => Nat.zero_le _
  | c + 1 => by
    have h1 := wyL_le (may := may) (X := X) hf c
    have h2 := hf c (wyL f may X c).2
    unfold wyL; split
    · show _ + _ ≤ _; rw [Nat.succ_mul]; omega
    · rw [Nat.succ_mul]; omega
theorem wyX_le (P : PlanT) : ∀ k X, (wyX P k X).1 ≤ 12 ^ k
  | 0, X => Nat.le_refl _
  | k + 1, X => by
    have ih := wyX_le P k
    unfold wyX
    split
    · split
      · exact Nat.zero_le _
      · show cd _ * _ ≤ _
        rw [Nat.pow_succ, Nat.mul_comm (12 ^ k)]
        exact Nat.mul_le_mul (cd_le _) (ih X)
    · have h1 := wyL_le (may := andn (X.2.2.2 2 (P.2 1 - (k + 1))) (unF X (P.2 1 - (k + 1)))) (X := X) (fun c Y => ih (setR Y 3 (updN (Y.2.2.2 3) (P.2 1 - (k + 1)) c))) 4
      refine Nat.le_trans h1 ?_
      rw [Nat.pow_succ, Nat.mul_comm (12 ^ k)]
      exact Nat.mul_le_mul_right _ (by decide)
set_option maxHeartbeats 8000000 in
set_option maxRecDepth 20000 in
theorem ct_X3_waysFrom (l : Launch) (P : PlanT) (hP : PlanOK P) : ∀ (k a : Nat) (X : PaintT), a + k = P.2 1 → PaintOK X → Ct l (3 + k) yX3_waysFrom cX3_waysFrom 6 (some .int) [.ref 0, .ref 5, .int (nI a)] (ppW X P) (RV (.int (nI (wyX P k X).1)) (ppW (wyX P k X).2 P)) := by
  intro k
  induction k with
  | zero =>
    intro a X hak hX
    have hT := hP.2.1
    refine Ct.of (by decide) (Nat.le_of_ble_eq_true rfl) (fun K hC hR => ?_)
    show K 0 [(0, .ref 0), (1, .ref 5), (2, .int (nI a))] [] _
    refine hC.aload_n dX3_waysFrom_0 rfl ?_
    refine hC.iload_n dX3_waysFrom_1 rfl ?_
    refine hC.rdV [5, 6, 7, 8, 9, 10, 11, 12, 13] dX3_waysFrom_2 lmX3_55 mkX4_hasStrip svX4_hasStrip (ct_X4_hasStrip l P hT (nI a)) ⟨Nat.le_of_ble_eq_true rfl, Nat.le_of_ble_eq_true rfl⟩ rfl rfl (Nat.le_of_ble_eq_true rfl) ⟨by decide, rfl⟩ rfl rfl ?_
    rw [inB_nI (by omega)]
    refine hC.bnz dX3_waysFrom_5 (tgt := 10) rfl (fun c => ?_) (fun c => ?_)
    · have c := of_decide_eq_true c
      omega
    · refine hC.iconst dX3_waysFrom_8 (v := nI 1) rfl ?_
      exact hR.ireturn dX3_waysFrom_9 ⟨rfl, rfl⟩
  | succ k ih =>
    intro a X hak hX
    have hT := hP.2.1
    have hrm : rmOk (3 + k) 6 (rmD (3 + (k + 1))) := ⟨by show 3 + k + 1 ≤ 3 + (k + 1); omega, by show 8 + (6 + 11) + 40 * (3 + k) ≤ 40 * (3 + (k + 1)); omega⟩
    have hr0 : ∀ d, d ≤ 2 → ∀ mx, mx ≤ 10 → rmOk d mx (rmD (3 + (k + 1))) := fun d hd mx hmx => ⟨by show d + 1 ≤ 3 + (k + 1); omega, by show 8 + (mx + 11) + 40 * d ≤ 40 * (3 + (k + 1)); omega⟩
    have hak2 : P.2 1 - (k + 1) = a := by omega
    have hop := hX.2.2.2.1 a
    have hnr := hX.2.2.1 a
    rw [wyX, hak2]
    refine Ct.of (by decide) (Nat.le_of_ble_eq_true rfl) (fun K hC hR => ?_)
    show K 0 [(0, .ref 0), (1, .ref 5), (2, .int (nI a))] [] _
    refine hC.aload_n dX3_waysFrom_0 rfl ?_
    refine hC.iload_n dX3_waysFrom_1 rfl ?_
    refine hC.rdV [5, 6, 7, 8, 9, 10, 11, 12, 13] dX3_waysFrom_2 lmX3_55 mkX4_hasStrip svX4_hasStrip (ct_X4_hasStrip l P hT (nI a)) (hr0 0 (by omega) 2 (by omega)) rfl rfl (Nat.le_of_ble_eq_true rfl) ⟨by decide, rfl⟩ rfl rfl ?_
    rw [inB_nI (by omega)]
    refine hC.bnz dX3_waysFrom_5 (tgt := 10) rfl (fun c => ?_) (fun c => ?_)
    · refine hC.aload_n dX3_waysFrom_10 rfl ?_
      refine hC.getfield dX3_waysFrom_11 lfX3_18 rfl rfl ?_
      refine hC.iload_n dX3_waysFrom_14 rfl ?_
      refine hC.iaN dX3_waysFrom_15 rfl ⟨by omega, by decide⟩ ?_
      refine hC.aload_n dX3_waysFrom_16 rfl ?_
      refine hC.iload_n dX3_waysFrom_17 rfl ?_
      refine hC.rdV [0, 1, 2, 3, 4] dX3_waysFrom_18 lmX3_66 mkX3_usedNear svX3_usedNear (ct_X3_usedNear l X hX a (by omega)) (hr0 1 (by omega) 4 (by omega)) rfl rfl (Nat.le_of_ble_eq_true rfl) ⟨by decide, rfl⟩ rfl rfl ?_
      refine hC.iconst dX3_waysFrom_21 (v := (-1)) rfl ?_
      refine hC.ixor dX3_waysFrom_22 ?_
      refine hC.iand dX3_waysFrom_23 ?_
      rw [nI_andn]
      have hmay : andn (X.2.2.2 2 a) (unF X a) < 16 := andn_b hop
      generalize hmg : andn (X.2.2.2 2 a) (unF X a) = may at hmay hR ⊢
      refine hC.istore_n dX3_waysFrom_24 (by decide) ?_
      refine hC.aload_n dX3_waysFrom_25 rfl ?_
      refine hC.getfield dX3_waysFrom_26 lfX3_15 rfl rfl ?_
      refine hC.iload_n dX3_waysFrom_29 rfl ?_
      refine hC.iaN dX3_waysFrom_30 rfl ⟨by omega, by decide⟩ ?_
      refine hC.iload_n dX3_waysFrom_31 rfl ?_
      refine hC.ishr dX3_waysFrom_32 ?_
      rw [nI_shr (by omega) (by omega)]
      have hdv : X.2.2.2 1 a / 2 ^ a < 2 ^ 31 := Nat.lt_of_le_of_lt (Nat.div_le_self _ _) (by omega)
      refine hC.nnz hdv dX3_waysFrom_33 (tgt := 58) rfl (fun c1 => ?_) (fun c1 => ?_)
      · rw [if_neg c1] at hR
        refine hC.iconst dX3_waysFrom_58 (v := nI 0) rfl ?_
        refine hC.istore dX3_waysFrom_59 (by decide) ?_
        refine hC.iconst dX3_waysFrom_61 (v := nI 0) rfl ?_
        refine hC.istore dX3_waysFrom_62 (by decide) ?_
        have hstep : ∀ c, wyL (fun c Y => wyX P k (setR Y 3 (updN (Y.2.2.2 3) a c))) may X (c + 1) = if may.testBit c = true then ((wyL (fun c Y => wyX P k (setR Y 3 (updN (Y.2.2.2 3) a c))) may X c).1 + (wyX P k (setR (wyL (fun c Y => wyX P k (setR Y 3 (updN (Y.2.2.2 3) a c))) may X c).2 3 (updN ((wyL (fun c Y => wyX P k (setR Y 3 (updN (Y.2.2.2 3) a c))) may X c).2.2.2.2 3) a c))).1, (wyX P k (setR (wyL (fun c Y => wyX P k (setR Y 3 (updN (Y.2.2.2 3) a c))) may X c).2 3 (updN ((wyL (fun c Y => wyX P k (setR Y 3 (updN (Y.2.2.2 3) a c))) may X c).2.2.2.2 3) a c))).2) else wyL (fun c Y => wyX P k (setR Y 3 (updN (Y.2.2.2 3) a c))) may X c := fun c => rfl
        have hok : ∀ c, c ≤ 4 → PaintOK (wyL (fun c Y => wyX P k (setR Y 3 (updN (Y.2.2.2 3) a c))) may X c).2 := wyL_ok hX (fun c Y hc hY => wyX_ok P k _ (setR3_ok hY hc))
        have h0 : wyL (fun c Y => wyX P k (setR Y 3 (updN (Y.2.2.2 3) a c))) may X 0 = (0, X) := rfl
        generalize hgg : wyL (fun c Y => wyX P k (setR Y 3 (updN (Y.2.2.2 3) a c))) may X = g at hR hstep hok h0
        have loop : ∀ c, c ≤ 4 → K 64 [(0, .ref 0), (1, .ref 5), (2, .int (nI a)), (3, .int (nI may)), (4, .int (nI (g c).1)), (5, .int (nI c))] [] (ppW (g c).2 P) := by
          refine loopUp1 _ 4 ?_ (fun c hc ih2 => ?_)
          · refine hC.iload dX3_waysFrom_64 rfl ?_
            refine hC.iconst dX3_waysFrom_66 (v := nI 4) rfl ?_
            refine hC.n_ge (by omega) (by omega) dX3_waysFrom_67 (tgt := 106) rfl (fun c3 => ?_) (fun c3 => ?_)
            · refine hC.iload dX3_waysFrom_106 rfl ?_
              exact hR.ireturn dX3_waysFrom_108 ⟨rfl, rfl⟩
            · omega
          · have hgc := hok c (by omega)
            refine hC.iload dX3_waysFrom_64 rfl ?_
            refine hC.iconst dX3_waysFrom_66 (v := nI 4) rfl ?_
            refine hC.n_ge (by omega) (by omega) dX3_waysFrom_67 (tgt := 106) rfl (fun c3 => ?_) (fun c3 => ?_)
            · omega
            · refine hC.iload_n dX3_waysFrom_70 rfl ?_
              refine hC.iload dX3_waysFrom_71 rfl ?_
              refine hC.rdSN [] dX3_waysFrom_73 lnX3_70 mkX8_has sxX8_has (ct_X8_has l may c (by omega) (by omega)) (hr0 0 (by omega) 2 (by omega)) rfl rfl (Nat.le_of_ble_eq_true rfl) ⟨by decide, rfl⟩ ?_
              refine hC.bz dX3_waysFrom_76 (tgt := 100) rfl (fun c4 => ?_) (fun c4 => ?_)
              · refine hC.iinc dX3_waysFrom_100 rfl (nI_1 _) (by decide) ?_
                refine hC.goto dX3_waysFrom_103 (tgt := 64) rfl ?_
                rw [hstep, if_neg (by simp [c4])] at ih2
                exact hC.loc rfl ih2
              · rw [hstep, if_pos c4] at ih2
                refine hC.aload_n dX3_waysFrom_79 rfl ?_
                refine hC.getfield dX3_waysFrom_80 lfX3_21 rfl rfl ?_
                refine hC.iload_n dX3_waysFrom_83 rfl ?_
                refine hC.iload dX3_waysFrom_84 rfl ?_
                refine hC.isN dX3_waysFrom_86 rfl ⟨by omega, by decide⟩ ?_
                refine hC.iload dX3_waysFrom_87 rfl ?_
                refine hC.aload_n dX3_waysFrom_89 rfl ?_
                refine hC.aload_n dX3_waysFrom_90 rfl ?_
                refine hC.iload_n dX3_waysFrom_91 rfl ?_
                refine hC.iconst dX3_waysFrom_92 (v := nI 1) rfl ?_
                refine hC.iadd dX3_waysFrom_93 ?_
                rw [nI_add]
                refine hC.wrS (hs2 := ppW (wyX P k (setR (g c).2 3 (updN ((g c).2.2.2.2 3) a c))).2 P) [0, 1, 2, 3, 4, 5, 6, 7, 8, 9, 10, 11, 12, 13] dX3_waysFrom_94 lmX3_88 mkX3_waysFrom sxX3_waysFrom (ih (a + 1) (setR (g c).2 3 (updN ((g c).2.2.2.2 3) a c)) (by omega) (setR3_ok hgc hc)) hrm rfl rfl (Nat.le_of_ble_eq_true rfl) ⟨by decide, rfl⟩ rfl ?_
                refine hC.iadd dX3_waysFrom_97 ?_
                rw [nI_add]
                refine hC.istore dX3_waysFrom_98 (by decide) ?_
                refine hC.iinc dX3_waysFrom_100 rfl (nI_1 _) (by decide) ?_
                refine hC.goto dX3_waysFrom_103 (tgt := 64) rfl ?_
                exact hC.loc rfl ih2
        have l0 := loop 0 (by omega)
        rw [h0] at l0
        exact hC.loc rfl l0
      · rw [if_pos c1] at hR
        refine hC.iload_n dX3_waysFrom_36 rfl ?_
        refine hC.nnz (by omega) dX3_waysFrom_37 (tgt := 44) rfl (fun c2 => ?_) (fun c2 => ?_)
        · rw [if_neg c2] at hR
          refine hC.iload_n dX3_waysFrom_44 rfl ?_
          refine hC.rdS [] dX3_waysFrom_45 lmX3_83 mkJ_bitCount sxJ_bitCount (ct_J_bitCount l may (by omega)) (hr0 0 (by omega) 1 (by omega)) rfl rfl (Nat.le_of_ble_eq_true rfl) ⟨by decide, rfl⟩ ?_
          refine hC.aload_n dX3_waysFrom_48 rfl ?_
          refine hC.aload_n dX3_waysFrom_49 rfl ?_
          refine hC.iload_n dX3_waysFrom_50 rfl ?_
          refine hC.iconst dX3_waysFrom_51 (v := nI 1) rfl ?_
          refine hC.iadd dX3_waysFrom_52 ?_
          rw [nI_add]
          refine hC.wrS (hs2 := ppW (wyX P k X).2 P) [0, 1, 2, 3, 4, 5, 6, 7, 8, 9, 10, 11, 12, 13] dX3_waysFrom_53 lmX3_88 mkX3_waysFrom sxX3_waysFrom (ih (a + 1) X (by omega) hX) hrm rfl rfl (Nat.le_of_ble_eq_true rfl) ⟨by decide, rfl⟩ rfl ?_
          refine hC.imul dX3_waysFrom_56 ?_
          rw [pk_mul]
          exact hR.ireturn dX3_waysFrom_57 ⟨rfl, rfl⟩
        · rw [if_pos c2] at hR
          refine hC.iconst dX3_waysFrom_40 (v := nI 0) rfl ?_
          refine hC.goto dX3_waysFrom_41 (tgt := 57) rfl ?_
          exact hR.ireturn dX3_waysFrom_57 ⟨rfl, rfl⟩
    · have c := of_decide_eq_false c
      omega
set_option maxHeartbeats 4000000 in
set_option maxRecDepth 20000 in
theorem ct_X3_ways (l : Launch) (T : PaintT) (P : PlanT) (hT : PaintOK T) (hP : PlanOK P) : Ct l 12 yX3_ways cX3_ways 2 (some .int) [.ref 0, .ref 5] (ppW T P) (RV (.int (nI (wyX P (P.2 1) T).1)) (ppW (wyX P (P.2 1) T).2 P)) := by
  refine Ct.of (by decide) (Nat.le_of_ble_eq_true rfl) (fun K hC hR => ?_)
  show K 0 [(0, .ref 0), (1, .ref 5)] [] _
  have h8 := hP.2.1
  refine hC.aload_n dX3_ways_0 rfl ?_
  refine hC.aload_n dX3_ways_1 rfl ?_
  refine hC.iconst dX3_ways_2 (v := nI 0) rfl ?_
  refine hC.wrS (hs2 := ppW (wyX P (P.2 1) T).2 P) [0, 1, 2, 3, 4, 5, 6, 7, 8, 9, 10, 11, 12, 13] dX3_ways_3 lmX3_88 mkX3_waysFrom sxX3_waysFrom (ct_X3_waysFrom l P hP (P.2 1) 0 T (by omega) hT) ⟨by show 3 + P.2 1 + 1 ≤ 12; omega, by show 8 + (6 + 11) + 40 * (3 + P.2 1) ≤ 40 * 12; omega⟩ rfl rfl (Nat.le_of_ble_eq_true rfl) ⟨by decide, rfl⟩ rfl ?_
  exact hR.ireturn dX3_ways_6 ⟨rfl, rfl⟩
/-- one colour tried: only so far (NN none), the painter, whether two were found -/
def ocX (P : PlanT) (a may c : Nat) (X : PaintT) : Nat × PaintT := wyX P (P.2 1) (setR X 2 (updN (X.2.2.2 2) a (may &&& 2 ^ c)))
def ocL (P : PlanT) (a may : Nat) (X : PaintT) : Nat → Nat × PaintT × Bool
  | 0 => (NN, X, false)
  | c + 1 => if (ocL P a may X c).2.2 = true then ocL P a may X c else if 0 < (ocX P a may c (ocL P a may X c).2.1).1 then (if (ocL P a may X c).1 = NN then (c, (ocX P a may c (ocL P a may X c).2.1).2, false) else (NN, (ocX P a may c (ocL P a may X c).2.1).2, true)) else ((ocL P a may X c).1, (ocX P a may c (ocL P a may X c).2.1).2, false)
theorem ocX_ok {a may c : Nat} {X : PaintT} (hm : may < 16) (hX : PaintOK X) : PaintOK (setR X 2 (updN (X.2.2.2 2) a (may &&& 2 ^ c))) := by
  refine ⟨hX.1, hX.2.1, hX.2.2.1, fun j => ?_, hX.2.2.2.2⟩
  show updN _ _ _ j < 16
  unfold updN; split
  · exact and_b hm
  · exact hX.2.2.2.1 j
theorem ocL_ok {P : PlanT} {a may : Nat} {X : PaintT} (hm : may < 16) (hX : PaintOK X) : ∀ c, PaintOK (ocL P a may X c).2.1 ∧ ((ocL P a may X c).1 < 4 ∨ (ocL P a may X c).1 = NN ∨ 4 < c)
  | 0 => ⟨hX, Or.inr (Or.inl rfl)⟩
  | c + 1 => by
    obtain ⟨h1, h2⟩ := ocL_ok (P := P) (a := a) hm hX c
    have h3 : PaintOK (ocX P a may c (ocL P a may X c).2.1).2 := wyX_ok P _ _ (ocX_ok hm h1)
    unfold ocL
    split
    · exact ⟨h1, by omega⟩
    · split
      · split
        · exact ⟨h3, by show c < 4 ∨ _; omega⟩
        · exact ⟨h3, Or.inr (Or.inl rfl)⟩
      · exact ⟨h3, by show (ocL P a may X c).1 < 4 ∨ _; omega⟩
theorem ocL_stop {P : PlanT} {a may : Nat} {X : PaintT} {s : Nat} (h : (ocL P a may X s).2.2 = true) : ∀ t, s ≤ t → ocL P a may X t = ocL P a may X s := by
  intro t ht
  induction t with
  | zero => have : s = 0 := by omega
            subst this; rfl
  | succ t ih =>
    by_cases e : s = t + 1
    · subst e; rfl
    · have := ih (by omega)
      rw [ocL, if_pos (by rw [this]; exact h), this]
set_option maxHeartbeats 4000000 in
set_option maxRecDepth 20000 in
theorem ct_X3_onlyColour (l : Launch) (T : PaintT) (P : PlanT) (hT : PaintOK T) (hP : PlanOK P) (a : Nat) (ha : a < P.2 1) : Ct l 13 yX3_onlyColour cX3_onlyColour 6 (some .int) [.ref 0, .ref 5, .int (nI a)] (ppW T P) (RV (.int (nI (ocL P a (T.2.2.2 2 a) T 4).1)) (ppW (ocL P a (T.2.2.2 2 a) T 4).2.1 P)) := by
  refine Ct.of (by decide) (Nat.le_of_ble_eq_true rfl) (fun K hC hR => ?_)
  show K 0 [(0, .ref 0), (1, .ref 5), (2, .int (nI a))] [] _
  have h8 := hP.2.1
  refine hC.aload_n dX3_onlyColour_0 rfl ?_
  refine hC.iload_n dX3_onlyColour_1 rfl ?_
  refine hC.rdV [5, 6, 7, 8, 9, 10, 11, 12, 13] dX3_onlyColour_2 lmX3_55 mkX4_hasStrip svX4_hasStrip (ct_X4_hasStrip l P h8 (nI a)) ⟨Nat.le_of_ble_eq_true rfl, Nat.le_of_ble_eq_true rfl⟩ rfl rfl (Nat.le_of_ble_eq_true rfl) ⟨by decide, rfl⟩ rfl rfl ?_
  rw [inB_nI (by omega)]
  refine hC.bnz dX3_onlyColour_5 (tgt := 10) rfl (fun c => ?_) (fun c => ?_)
  · refine hC.aload_n dX3_onlyColour_10 rfl ?_
    refine hC.getfield dX3_onlyColour_11 lfX3_18 rfl rfl ?_
    refine hC.iload_n dX3_onlyColour_14 rfl ?_
    refine hC.iaN dX3_onlyColour_15 rfl ⟨by omega, by decide⟩ ?_
    refine hC.istore_n dX3_onlyColour_16 (by decide) ?_
    refine hC.iconst dX3_onlyColour_17 (v := (-1)) rfl ?_
    rw [m1_nI]
    refine hC.istore dX3_onlyColour_18 (by decide) ?_
    refine hC.iconst dX3_onlyColour_20 (v := nI 0) rfl ?_
    refine hC.istore dX3_onlyColour_21 (by decide) ?_
    have hm := hT.2.2.2.1 a
    generalize hmg : T.2.2.2 2 a = may at hm hR ⊢
    have hok := ocL_ok (P := P) (a := a) hm hT
    have loop : ∀ c, c ≤ 4 → (ocL P a may T c).2.2 = false → K 23 [(0, .ref 0), (1, .ref 5), (2, .int (nI a)), (3, .int (nI may)), (4, .int (nI (ocL P a may T c).1)), (5, .int (nI c))] [] (ppW (ocL P a may T c).2.1 P) := by
      refine loopUp1 _ 4 ?_ (fun c hc ih => ?_)
      · intro hf
        refine hC.iload dX3_onlyColour_23 rfl ?_
        refine hC.iconst dX3_onlyColour_25 (v := nI 4) rfl ?_
        refine hC.n_ge (by omega) (by omega) dX3_onlyColour_26 (tgt := 67) rfl (fun c3 => ?_) (fun c3 => ?_)
        · refine hC.iload dX3_onlyColour_67 rfl ?_
          exact hR.ireturn dX3_onlyColour_69 ⟨rfl, rfl⟩
        · omega
      · intro hf
        have hgc := (hok c).1
        have hg2 := (hok c).2
        have hstop := @ocL_stop P a may T (c + 1)
        have hstep : ocL P a may T (c + 1) = if (ocL P a may T c).2.2 = true then ocL P a may T c else if 0 < (ocX P a may c (ocL P a may T c).2.1).1 then (if (ocL P a may T c).1 = NN then (c, (ocX P a may c (ocL P a may T c).2.1).2, false) else (NN, (ocX P a may c (ocL P a may T c).2.1).2, true)) else ((ocL P a may T c).1, (ocX P a may c (ocL P a may T c).2.1).2, false) := rfl
        rw [if_neg (by rw [hf]; decide)] at hstep
        generalize hog : ocL P a may T c = o at hgc hg2 hf hstep ⊢
        have hwl : (ocX P a may c o.2.1).1 < 2 ^ 31 := Nat.lt_of_le_of_lt (wyX_le P (P.2 1) _) (Nat.lt_of_le_of_lt (Nat.pow_le_pow_right (by decide) h8) (by decide))
        refine hC.iload dX3_onlyColour_23 rfl ?_
        refine hC.iconst dX3_onlyColour_25 (v := nI 4) rfl ?_
        refine hC.n_ge (by omega) (by omega) dX3_onlyColour_26 (tgt := 67) rfl (fun c3 => ?_) (fun c3 => ?_)
        · omega
        · refine hC.aload_n dX3_onlyColour_29 rfl ?_
          refine hC.getfield dX3_onlyColour_30 lfX3_18 rfl rfl ?_
          refine hC.iload_n dX3_onlyColour_33 rfl ?_
          refine hC.iload_n dX3_onlyColour_34 rfl ?_
          refine hC.iconst dX3_onlyColour_35 (v := nI 1) rfl ?_
          refine hC.iload dX3_onlyColour_36 rfl ?_
          refine hC.ishl dX3_onlyColour_38 ?_
          rw [nI_shl (by omega), Nat.one_mul]
          refine hC.iand dX3_onlyColour_39 ?_
          rw [nI_and]
          refine hC.isN dX3_onlyColour_40 rfl ⟨by omega, by decide⟩ ?_
          refine hC.aload_n dX3_onlyColour_41 rfl ?_
          refine hC.aload_n dX3_onlyColour_42 rfl ?_
          refine hC.wrV (hs2 := ppW (ocX P a may c o.2.1).2 P) [0, 1, 2, 3, 4, 5, 6, 7, 8, 9, 10, 11, 12, 13] dX3_onlyColour_43 lmX3_92 mkX3_ways svX3_ways (ct_X3_ways l (setR o.2.1 2 (updN (o.2.1.2.2.2 2) a (may &&& 2 ^ c))) P (ocX_ok hm hgc) hP) ⟨Nat.le_of_ble_eq_true rfl, Nat.le_of_ble_eq_true rfl⟩ rfl rfl (Nat.le_of_ble_eq_true rfl) ⟨by decide, rfl⟩ rfl rfl rfl ?_
          refine hC.z_le hwl dX3_onlyColour_46 (tgt := 61) rfl (fun c4 => ?_) (fun c4 => ?_)
          · rw [if_neg (show ¬ 0 < (ocX P a may c o.2.1).1 from by rw [show (ocX P a may c o.2.1).1 = 0 from c4]; omega)] at hstep
            refine hC.iinc dX3_onlyColour_61 rfl (nI_1 _) (by decide) ?_
            refine hC.goto dX3_onlyColour_64 (tgt := 23) rfl ?_
            rw [hstep] at ih
            exact hC.loc rfl (ih rfl)
          · rw [if_pos (show 0 < (ocX P a may c o.2.1).1 from c4)] at hstep
            refine hC.iload dX3_onlyColour_49 rfl ?_
            refine hC.iconst dX3_onlyColour_51 (v := (-1)) rfl ?_
            refine hC.icmp_eq dX3_onlyColour_52 (tgt := 57) rfl (fun c5 => ?_) (fun c5 => ?_)
            · have c5 := (nn_eq (x := o.1) (by omega)).mp c5
              rw [if_pos c5] at hstep
              rw [hstep] at ih
              refine hC.iload dX3_onlyColour_57 rfl ?_
              refine hC.istore dX3_onlyColour_59 (by decide) ?_
              refine hC.iinc dX3_onlyColour_61 rfl (nI_1 _) (by decide) ?_
              refine hC.goto dX3_onlyColour_64 (tgt := 23) rfl ?_
              exact hC.loc rfl (ih rfl)
            · have c5 : ¬ o.1 = NN := fun z => c5 ((nn_eq (x := o.1) (by omega)).mpr z)
              rw [if_neg c5] at hstep
              refine hC.iconst dX3_onlyColour_55 (v := (-1)) rfl ?_
              have e4 := hstop (by rw [hstep]) 4 (by omega)
              rw [hstep] at e4
              exact hR.ireturn dX3_onlyColour_56 ⟨by rw [e4, ← m1_nI], by rw [e4]⟩
    exact hC.loc rfl (loop 0 (by omega) rfl)
  · have c := of_decide_eq_false c
    omega
