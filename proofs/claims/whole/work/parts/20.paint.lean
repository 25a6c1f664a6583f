/-! StripFlag$Painter -/
section CLQ
variable {l : Launch} {cc : ByteArray} {own : String} {nL : Nat} {R : Room} {K : AK} {pc : Nat} {ls : AL} {st stk : List Value} {hs hc : List va_E} {y : MethodName} {bytes : ByteArray} {maxL n d idx : Nat} {ret : Option FieldType} {As : List Value} {v : Int32}
theorem Cl.wrS (h : Cl l cc own nL R K) {hc2 hs2 : List va_E} (is : List Nat) (hd : decode cc pc = .ok (.invokestatic idx, 3)) (hlk : Cond.methodLink own idx y ∈ GW) (hm : MK y bytes maxL ret n) (hst : Cond.static y ∈ GW)
    (hct : Ct l d y bytes maxL ret As hc (RV (.int v) hc2)) (hR : rmOk d maxL R) (hlen : As.length = n) (hstk : stk = (As.map (tv (rn is))).reverse ++ st) (hcat : (st.map fun v => v.category).sum ≤ 8) (hcut : Cut is hc hs) (hpb : pb is (hc2.map (te (fun t => t) (rn is))) hs = hs2)
    (k : K (pc + 3) ls (.int v :: st) hs2) : K pc ls stk hs := by
  refine h.callS is hd hlk hm hst hct hR hlen hstk hcat hcut (fun r hc3 hp hl => ?_)
  obtain ⟨rfl, rfl⟩ := hp
  rw [hpb]
  exact k
theorem Cl.wuS (h : Cl l cc own nL R K) {hc2 hs2 : List va_E} (is : List Nat) (hd : decode cc pc = .ok (.invokestatic idx, 3)) (hlk : Cond.methodLink own idx y ∈ GW) (hm : MK y bytes maxL ret n) (hst : Cond.static y ∈ GW)
    (hct : Ct l d y bytes maxL ret As hc (RU hc2)) (hR : rmOk d maxL R) (hlen : As.length = n) (hstk : stk = (As.map (tv (rn is))).reverse ++ st) (hcat : (st.map fun v => v.category).sum ≤ 8) (hcut : Cut is hc hs) (hpb : pb is (hc2.map (te (fun t => t) (rn is))) hs = hs2)
    (k : K (pc + 3) ls st hs2) : K pc ls stk hs := by
  refine h.callS is hd hlk hm hst hct hR hlen hstk hcat hcut (fun r hc3 hp hl => ?_)
  obtain ⟨rfl, rfl⟩ := hp
  rw [hpb]
  exact k
end CLQ
/-- found, leastSum, cheapest, rows best, near, open, chosen -/
abbrev PaintT : Type := Bool × Nat × Nat × (Nat → Nat → Nat)
abbrev paintC (T : PaintT) : List va_E := [.inr (3, [.int (nI T.1.toNat), .int (nI T.2.1), .ref 1, .ref 2, .ref 3, .ref 4, .int (nI T.2.2.1)]), rowI 8 (T.2.2.2 0), rowI 8 (T.2.2.2 1), rowI 8 (T.2.2.2 2), rowI 8 (T.2.2.2 3)]
abbrev ppW (T : PaintT) (P : PlanT) : List va_E := [.inr (3, [.int (nI T.1.toNat), .int (nI T.2.1), .ref 1, .ref 2, .ref 3, .ref 4, .int (nI T.2.2.1)]), rowI 8 (T.2.2.2 0), rowI 8 (T.2.2.2 1), rowI 8 (T.2.2.2 2), rowI 8 (T.2.2.2 3), .inr (4, [.ref 6, .ref 7, .ref 8, .ref 9, .ref 10, .ref 11, .ref 12, .ref 13, .int (nI (P.2 0)), .int (nI (P.2 1)), .int (nI (P.2 2)), .int (nI (P.2 3))]), rowI 4 (P.1 0), rowI 8 (P.1 1), rowI 12 (P.1 2), rowI 12 (P.1 3), rowI 12 (P.1 4), rowI 12 (P.1 5), rowI 8 (P.1 6), rowI 8 (P.1 7)]
abbrev pplW (T : PaintT) (P : PlanT) (g : Nat → Nat) : List va_E := [.inr (3, [.int (nI T.1.toNat), .int (nI T.2.1), .ref 1, .ref 2, .ref 3, .ref 4, .int (nI T.2.2.1)]), rowI 8 (T.2.2.2 0), rowI 8 (T.2.2.2 1), rowI 8 (T.2.2.2 2), rowI 8 (T.2.2.2 3), .inr (4, [.ref 6, .ref 7, .ref 8, .ref 9, .ref 10, .ref 11, .ref 12, .ref 13, .int (nI (P.2 0)), .int (nI (P.2 1)), .int (nI (P.2 2)), .int (nI (P.2 3))]), rowI 4 (P.1 0), rowI 8 (P.1 1), rowI 12 (P.1 2), rowI 12 (P.1 3), rowI 12 (P.1 4), rowI 12 (P.1 5), rowI 8 (P.1 6), rowI 8 (P.1 7), rowI 8 g]
def upR (r : Nat → Nat → Nat) (k : Nat) (f : Nat → Nat) : Nat → Nat → Nat := fun j => if j = k then f else r j
def PaintOK (T : PaintT) : Prop := T.2.1 ≤ 792 ∧ T.2.2.1 ≤ 99 ∧ (∀ j, T.2.2.2 1 j < 512) ∧ (∀ j, T.2.2.2 2 j < 16) ∧ (∀ j, T.2.2.2 3 j < 4)
/-- the first s of a row are anew -/
def rowL (f g : Nat → Nat) (s : Nat) : Nat → Nat := fun j => if j < s then f j else g j
theorem rowL_0 (f g : Nat → Nat) : rowL f g 0 = g := by funext j; simp [rowL]
theorem rowL_s (f g : Nat → Nat) (s : Nat) : updN (rowL f g s) s (f s) = rowL f g (s + 1) := by
  funext j
  unfold updN rowL
  by_cases h1 : j = s
  · subst h1; simp
  · by_cases h2 : j < s
    · simp [h1, h2]; omega
    · simp [h1, h2]; omega
def setR (T : PaintT) (k : Nat) (f : Nat → Nat) : PaintT := (T.1, T.2.1, T.2.2.1, upR T.2.2.2 k f)
set_option maxHeartbeats 4000000 in
set_option maxRecDepth 20000 in
theorem ct_X3_look (l : Launch) (T : PaintT) (P : PlanT) (hP : PlanOK P) (m : Nat) (hm : m < 4096) : Ct l 3 yX3_look cX3_look 4 none [.ref 0, .ref 5, .int (nI m)] (ppW T P) (RU (ppW (setR T 1 (rowL (fun a => bdF P a m) (T.2.2.2 1) 8)) P)) := by
  refine Ct.of (by decide) (Nat.le_of_ble_eq_true rfl) (fun K hC hR => ?_)
  show K 0 [(0, .ref 0), (1, .ref 5), (2, .int (nI m))] [] _
  refine hC.iconst dX3_look_0 (v := nI 0) rfl ?_
  refine hC.istore_n dX3_look_1 (by decide) ?_
  have loop : ∀ s, s ≤ 8 → K 2 [(0, .ref 0), (1, .ref 5), (2, .int (nI m)), (3, .int (nI s))] [] (ppW (setR T 1 (rowL (fun a => bdF P a m) (T.2.2.2 1) s)) P) := by
    refine loopUp1 _ 8 ?_ (fun s hs ih => ?_)
    · refine hC.iload_n dX3_look_2 rfl ?_
      refine hC.bipush dX3_look_3 (v := nI 8) rfl ?_
      refine hC.n_ge (by omega) (by omega) dX3_look_5 (tgt := 26) rfl (fun c => ?_) (fun c => ?_)
      · exact hR.return_ dX3_look_26 ⟨rfl, rfl⟩
      · omega
    · refine hC.iload_n dX3_look_2 rfl ?_
      refine hC.bipush dX3_look_3 (v := nI 8) rfl ?_
      refine hC.n_ge (by omega) (by omega) dX3_look_5 (tgt := 26) rfl (fun c => ?_) (fun c => ?_)
      · omega
      · refine hC.aload_n dX3_look_8 rfl ?_
        refine hC.getfield dX3_look_9 lfX3_15 rfl rfl ?_
        refine hC.iload_n dX3_look_12 rfl ?_
        refine hC.aload_n dX3_look_13 rfl ?_
        refine hC.iload_n dX3_look_14 rfl ?_
        refine hC.iload_n dX3_look_15 rfl ?_
        refine hC.rdV [5, 6, 7, 8, 9, 10, 11, 12, 13] dX3_look_16 lmX3_24 mkX4_bordering svX4_bordering (ct_X4_bordering l P hP s m (by omega) hm) ⟨Nat.le_of_ble_eq_true rfl, Nat.le_of_ble_eq_true rfl⟩ rfl rfl (Nat.le_of_ble_eq_true rfl) ⟨by decide, rfl⟩ rfl rfl ?_
        refine hC.isN dX3_look_19 rfl ⟨by omega, by decide⟩ ?_
        refine hC.iinc dX3_look_20 rfl (nI_1 _) (by decide) ?_
        refine hC.goto dX3_look_23 (tgt := 2) rfl ?_
        rw [← rowL_s] at ih
        exact hC.loc rfl ih
  have l0 := loop 0 (by omega)
  rw [rowL_0] at l0
  exact hC.loc rfl l0
def unG (T : PaintT) (a b : Nat) : Nat := if (T.2.2.2 1 a).testBit b = true then 2 ^ T.2.2.2 3 b else 0
def unF (T : PaintT) (a : Nat) : Nat := orF (unG T a) a
theorem unG_lt {T : PaintT} (h : PaintOK T) (a b : Nat) : unG T a b < 2 ^ 4 := by
  unfold unG; split
  · exact Nat.pow_lt_pow_right (by decide) (h.2.2.2.2 b)
  · decide
theorem unF_lt {T : PaintT} (h : PaintOK T) (a : Nat) : unF T a < 16 := orF_lt (unG_lt h a) a
set_option maxHeartbeats 4000000 in
set_option maxRecDepth 20000 in
theorem ct_X3_usedNear (l : Launch) (T : PaintT) (hT : PaintOK T) (a : Nat) (ha : a < 8) : Ct l 1 yX3_usedNear cX3_usedNear 4 (some .int) [.ref 0, .int (nI a)] (paintC T) (RV (.int (nI (unF T a))) (paintC T)) := by
  refine Ct.of (by decide) (Nat.le_of_ble_eq_true rfl) (fun K hC hR => ?_)
  show K 0 [(0, .ref 0), (1, .int (nI a))] [] _
  have hn := hT.2.2.1 a
  refine hC.iconst dX3_usedNear_0 (v := nI 0) rfl ?_
  refine hC.istore_n dX3_usedNear_1 (by decide) ?_
  refine hC.iconst dX3_usedNear_2 (v := nI 0) rfl ?_
  refine hC.istore_n dX3_usedNear_3 (by decide) ?_
  have loop : ∀ s, s ≤ a → K 4 [(0, .ref 0), (1, .int (nI a)), (2, .int (nI (orF (unG T a) s))), (3, .int (nI s))] [] (paintC T) := by
    refine loopUp1 _ a ?_ (fun s hs ih => ?_)
    · refine hC.iload_n dX3_usedNear_4 rfl ?_
      refine hC.iload_n dX3_usedNear_5 rfl ?_
      refine hC.n_ge (by omega) (by omega) dX3_usedNear_6 (tgt := 45) rfl (fun c => ?_) (fun c => ?_)
      · refine hC.iload_n dX3_usedNear_45 rfl ?_
        exact hR.ireturn dX3_usedNear_46 ⟨rfl, rfl⟩
      · omega
    · have hc := hT.2.2.2.2 s
      refine hC.iload_n dX3_usedNear_4 rfl ?_
      refine hC.iload_n dX3_usedNear_5 rfl ?_
      refine hC.n_ge (by omega) (by omega) dX3_usedNear_6 (tgt := 45) rfl (fun c => ?_) (fun c => ?_)
      · omega
      · refine hC.iload_n dX3_usedNear_9 rfl ?_
        refine hC.bipush dX3_usedNear_10 (v := nI 8) rfl ?_
        refine hC.n_ge (by omega) (by omega) dX3_usedNear_12 (tgt := 45) rfl (fun c2 => ?_) (fun c2 => ?_)
        · omega
        · refine hC.aload_n dX3_usedNear_15 rfl ?_
          refine hC.getfield dX3_usedNear_16 lfX3_15 rfl rfl ?_
          refine hC.iload_n dX3_usedNear_19 rfl ?_
          refine hC.iaN dX3_usedNear_20 rfl ⟨by omega, by decide⟩ ?_
          refine hC.iload_n dX3_usedNear_21 rfl ?_
          refine hC.rdSN [] dX3_usedNear_22 lnX3_70 mkX8_has sxX8_has (ct_X8_has l (T.2.2.2 1 a) s (by omega) (by omega)) ⟨Nat.le_of_ble_eq_true rfl, Nat.le_of_ble_eq_true rfl⟩ rfl rfl (Nat.le_of_ble_eq_true rfl) ⟨by decide, rfl⟩ ?_
          refine hC.bz dX3_usedNear_25 (tgt := 39) rfl (fun c3 => ?_) (fun c3 => ?_)
          · refine hC.iinc dX3_usedNear_39 rfl (nI_1 _) (by decide) ?_
            refine hC.goto dX3_usedNear_42 (tgt := 4) rfl ?_
            rw [show orF (unG T a) (s + 1) = orF (unG T a) s by simp [orF, unG, c3]] at ih
            exact hC.loc rfl ih
          · refine hC.iload_n dX3_usedNear_28 rfl ?_
            refine hC.iconst dX3_usedNear_29 (v := nI 1) rfl ?_
            refine hC.aload_n dX3_usedNear_30 rfl ?_
            refine hC.getfield dX3_usedNear_31 lfX3_21 rfl rfl ?_
            refine hC.iload_n dX3_usedNear_34 rfl ?_
            refine hC.iaN dX3_usedNear_35 rfl ⟨by omega, by decide⟩ ?_
            refine hC.ishl dX3_usedNear_36 ?_
            rw [nI_shl (by omega), Nat.one_mul]
            refine hC.ior dX3_usedNear_37 ?_
            rw [nI_or]
            refine hC.istore_n dX3_usedNear_38 (by decide) ?_
            refine hC.iinc dX3_usedNear_39 rfl (nI_1 _) (by decide) ?_
            refine hC.goto dX3_usedNear_42 (tgt := 4) rfl ?_
            rw [show orF (unG T a) (s + 1) = orF (unG T a) s ||| 2 ^ T.2.2.2 3 s by simp [orF, unG, c3]] at ih
            exact hC.loc rfl ih
  exact hC.loc rfl (loop 0 (by omega))
set_option maxHeartbeats 4000000 in
set_option maxRecDepth 20000 in
theorem ct_X3_take (l : Launch) (T : PaintT) (x : Nat) : Ct l 2 yX3_take cX3_take 2 none [.ref 0, .int (nI x)] (paintC T) (RU (paintC (true, x, T.2.2.1, upR T.2.2.2 0 (T.2.2.2 3)))) := by
  refine Ct.of (by decide) (Nat.le_of_ble_eq_true rfl) (fun K hC hR => ?_)
  show K 0 [(0, .ref 0), (1, .int (nI x))] [] _
  refine hC.aload_n dX3_take_0 rfl ?_
  refine hC.iconst dX3_take_1 (v := nI 1) rfl ?_
  refine hC.putI dX3_take_2 lpX3_34 (by decide) (by decide) rfl (Nat.le_of_ble_eq_true rfl) ?_
  refine hC.aload_n dX3_take_5 rfl ?_
  refine hC.iload_n dX3_take_6 rfl ?_
  refine hC.putI dX3_take_7 lpX3_38 rfl rfl rfl (Nat.le_of_ble_eq_true rfl) ?_
  refine hC.aload_n dX3_take_10 rfl ?_
  refine hC.getfield dX3_take_11 lfX3_21 rfl rfl ?_
  refine hC.iconst dX3_take_14 (v := nI 0) rfl ?_
  refine hC.aload_n dX3_take_15 rfl ?_
  refine hC.getfield dX3_take_16 lfX3_9 rfl rfl ?_
  refine hC.iconst dX3_take_19 (v := nI 0) rfl ?_
  refine hC.bipush dX3_take_20 (v := nI 8) rfl ?_
  refine hC.copyI dX3_take_22 lmX3_77 rfl rfl (by decide) ⟨Nat.le_of_ble_eq_true rfl, Nat.le_of_ble_eq_true rfl⟩ ?_
  exact hR.return_ dX3_take_25 ⟨rfl, rfl⟩
def ptL (f : Nat → PaintT → PaintT) (may : Nat) (X : PaintT) : Nat → PaintT
  | 0 => X
  | c + 1 => if may.testBit c = true then f c (ptL f may X c) else ptL f may X c
def pfX (P : PlanT) : Nat → Nat → PaintT → PaintT
  | 0, sum, X => if X.1 = true ∧ X.2.1 ≤ sum then X else (true, sum, X.2.2.1, upR X.2.2.2 0 (X.2.2.2 3))
  | k + 1, sum, X => if X.1 = true ∧ X.2.1 ≤ sum + (k + 1) * X.2.2.1 then X else ptL (fun c Y => pfX P k (sum + priceF P c) (setR Y 3 (updN (Y.2.2.2 3) (P.2 1 - (k + 1)) c))) (andn (2 ^ P.2 0 - 1) (unF X (P.2 1 - (k + 1)))) X 4
theorem setR3_ok {Y : PaintT} {a c : Nat} (h : PaintOK Y) (hc : c < 4) : PaintOK (setR Y 3 (updN (Y.2.2.2 3) a c)) := by
  refine ⟨h.1, h.2.1, h.2.2.1, h.2.2.2.1, fun j => ?_⟩
  show updN _ _ _ j < 4
  unfold updN; split
  · exact hc
  · exact h.2.2.2.2 j
theorem ptL_ok {f : Nat → PaintT → PaintT} {may : Nat} {X : PaintT} (hX : PaintOK X) (hf : ∀ c Y, c < 4 → PaintOK Y → PaintOK (f c Y)) : ∀ c, c ≤ 4 → PaintOK (ptL f may X c)
  | 0, _ => hX
  | c + 1, h => by
    unfold ptL; split
    · exact hf c _ (by omega) (ptL_ok hX hf c (by omega))
    · exact ptL_ok hX hf c (by omega)
theorem price_le {P : PlanT} (hP : PlanOK P) (k : Nat) : priceF P k ≤ 99 := by unfold priceF; split; exact hP.2.2.2.2.2.2.1 k; omega
theorem pfX_ok {P : PlanT} (hP : PlanOK P) : ∀ k sum X, sum + 99 * k ≤ 792 → PaintOK X → PaintOK (pfX P k sum X)
  | 0, sum, X, h, hX => by
    unfold pfX; split
    · exact hX
    · exact ⟨by show sum ≤ 792; omega, hX.2⟩
  | k + 1, sum, X, h, hX => by
    unfold pfX; split
    · exact hX
    · refine ptL_ok hX (fun c Y hc hY => ?_) 4 (Nat.le_refl 4)
      have := price_le hP c
      exact pfX_ok hP k _ _ (by omega) (setR3_ok hY hc)
set_option maxHeartbeats 8000000 in
set_option maxRecDepth 20000 in
theorem ct_X3_paintFrom (l : Launch) (P : PlanT) (hP : PlanOK P) : ∀ (k a sum : Nat) (X : PaintT), a + k = P.2 1 → sum ≤ 99 * a → PaintOK X → Ct l (4 + k) yX3_paintFrom cX3_paintFrom 7 none [.ref 0, .ref 5, .int (nI a), .int (nI sum)] (ppW X P) (RU (ppW (pfX P k sum X) P)) := by
  intro k
  induction k with
  | zero =>
    intro a sum X hak hs hX
    have hT := hP.2.1
    have h792 := hX.1
    refine Ct.of (by decide) (Nat.le_of_ble_eq_true rfl) (fun K hC hR => ?_)
    show K 0 [(0, .ref 0), (1, .ref 5), (2, .int (nI a)), (3, .int (nI sum))] [] _
    have k32 : ¬ (X.1 = true ∧ X.2.1 ≤ sum) → ∀ z, K 32 [(0, .ref 0), (1, .ref 5), (2, .int (nI a)), (3, .int (nI sum)), (4, .int z)] [] (ppW X P) := by
      intro hne z
      rw [pfX, if_neg hne] at hR
      refine hC.aload_n dX3_paintFrom_32 rfl ?_
      refine hC.iload_n dX3_paintFrom_33 rfl ?_
      refine hC.rdV [5, 6, 7, 8, 9, 10, 11, 12, 13] dX3_paintFrom_34 lmX3_55 mkX4_hasStrip svX4_hasStrip (ct_X4_hasStrip l P hT (nI a)) ⟨Nat.le_of_ble_eq_true rfl, Nat.le_of_ble_eq_true rfl⟩ rfl rfl (Nat.le_of_ble_eq_true rfl) ⟨by decide, rfl⟩ rfl rfl ?_
      rw [inB_nI (by omega)]
      refine hC.bnz dX3_paintFrom_37 (tgt := 46) rfl (fun c => ?_) (fun c => ?_)
      · have c := of_decide_eq_true c
        omega
      · refine hC.aload_n dX3_paintFrom_40 rfl ?_
        refine hC.iload_n dX3_paintFrom_41 rfl ?_
        refine hC.wuV (hs2 := ppW (true, sum, X.2.2.1, upR X.2.2.2 0 (X.2.2.2 3)) P) [0, 1, 2, 3, 4] dX3_paintFrom_42 lmX3_59 mkX3_take svX3_take (ct_X3_take l X sum) ⟨Nat.le_of_ble_eq_true rfl, Nat.le_of_ble_eq_true rfl⟩ rfl rfl (Nat.le_of_ble_eq_true rfl) ⟨by decide, rfl⟩ rfl rfl rfl ?_
        exact hR.return_ dX3_paintFrom_45 ⟨rfl, rfl⟩
    refine hC.aload_n dX3_paintFrom_0 rfl ?_
    refine hC.getfield dX3_paintFrom_1 lfX3_52 rfl rfl ?_
    refine hC.iload_n dX3_paintFrom_4 rfl ?_
    refine hC.isub dX3_paintFrom_5 ?_
    rw [pk_sub (by omega)]
    refine hC.aload_n dX3_paintFrom_6 rfl ?_
    refine hC.getfield dX3_paintFrom_7 lfX3_46 rfl rfl ?_
    refine hC.imul dX3_paintFrom_10 ?_
    rw [pk_mul, show (P.2 1 - a) * X.2.2.1 = 0 by rw [show P.2 1 - a = 0 by omega, Nat.zero_mul]]
    refine hC.istore dX3_paintFrom_11 (by decide) ?_
    refine hC.aload_n dX3_paintFrom_13 rfl ?_
    refine hC.getfield dX3_paintFrom_14 lfX3_34 rfl rfl ?_
    refine hC.bz dX3_paintFrom_17 (tgt := 32) rfl (fun c1 => ?_) (fun c1 => ?_)
    · exact hC.loc rfl (k32 (fun z => by rw [c1] at z; exact absurd z.1 (by decide)) (nI 0))
    · refine hC.iload_n dX3_paintFrom_20 rfl ?_
      refine hC.iload dX3_paintFrom_21 rfl ?_
      refine hC.iadd dX3_paintFrom_23 ?_
      rw [nI_add, Nat.add_zero]
      refine hC.aload_n dX3_paintFrom_24 rfl ?_
      refine hC.getfield dX3_paintFrom_25 lfX3_38 rfl rfl ?_
      refine hC.n_lt (by omega) (by omega) dX3_paintFrom_28 (tgt := 32) rfl (fun c2 => ?_) (fun c2 => ?_)
      · exact hC.loc rfl (k32 (fun z => by omega) (nI 0))
      · rw [pfX, if_pos ⟨c1, c2⟩] at hR
        exact hR.return_ dX3_paintFrom_31 ⟨rfl, rfl⟩
  | succ k ih =>
    intro a sum X hak hs hX
    have hT := hP.2.1
    have hC4 := hP.1
    have h792 := hX.1
    have h99 := hX.2.1
    have hmul : (k + 1) * X.2.2.1 ≤ 792 := Nat.le_trans (Nat.mul_le_mul (show k + 1 ≤ 8 by omega) h99) (by omega)
    have hrm : rmOk (4 + k) 7 (rmD (4 + (k + 1))) := ⟨by show 4 + k + 1 ≤ 4 + (k + 1); omega, by show 8 + (7 + 11) + 40 * (4 + k) ≤ 40 * (4 + (k + 1)); omega⟩
    have hr0 : ∀ d, d ≤ 3 → ∀ mx, mx ≤ 10 → rmOk d mx (rmD (4 + (k + 1))) := fun d hd mx hmx => ⟨by show d + 1 ≤ 4 + (k + 1); omega, by show 8 + (mx + 11) + 40 * d ≤ 40 * (4 + (k + 1)); omega⟩
    have hak2 : P.2 1 - (k + 1) = a := by omega
    refine Ct.of (by decide) (Nat.le_of_ble_eq_true rfl) (fun K hC hR => ?_)
    show K 0 [(0, .ref 0), (1, .ref 5), (2, .int (nI a)), (3, .int (nI sum))] [] _
    have k32 : ¬ (X.1 = true ∧ X.2.1 ≤ sum + (k + 1) * X.2.2.1) → ∀ z, K 32 [(0, .ref 0), (1, .ref 5), (2, .int (nI a)), (3, .int (nI sum)), (4, .int z)] [] (ppW X P) := by
      intro hne z
      rw [pfX, if_neg hne, hak2] at hR
      refine hC.aload_n dX3_paintFrom_32 rfl ?_
      refine hC.iload_n dX3_paintFrom_33 rfl ?_
      refine hC.rdV [5, 6, 7, 8, 9, 10, 11, 12, 13] dX3_paintFrom_34 lmX3_55 mkX4_hasStrip svX4_hasStrip (ct_X4_hasStrip l P hT (nI a)) (hr0 0 (by omega) 2 (by omega)) rfl rfl (Nat.le_of_ble_eq_true rfl) ⟨by decide, rfl⟩ rfl rfl ?_
      rw [inB_nI (by omega)]
      refine hC.bnz dX3_paintFrom_37 (tgt := 46) rfl (fun c => ?_) (fun c => ?_)
      · refine hC.aload_n dX3_paintFrom_46 rfl ?_
        refine hC.rdV [5, 6, 7, 8, 9, 10, 11, 12, 13] dX3_paintFrom_47 lmX3_63 mkX4_allColours svX4_allColours (ct_X4_allColours l P hP) (hr0 0 (by omega) 1 (by omega)) rfl rfl (Nat.le_of_ble_eq_true rfl) ⟨by decide, rfl⟩ rfl rfl ?_
        refine hC.aload_n dX3_paintFrom_50 rfl ?_
        refine hC.iload_n dX3_paintFrom_51 rfl ?_
        refine hC.rdV [0, 1, 2, 3, 4] dX3_paintFrom_52 lmX3_66 mkX3_usedNear svX3_usedNear (ct_X3_usedNear l X hX a (by omega)) (hr0 1 (by omega) 4 (by omega)) rfl rfl (Nat.le_of_ble_eq_true rfl) ⟨by decide, rfl⟩ rfl rfl ?_
        refine hC.iconst dX3_paintFrom_55 (v := (-1)) rfl ?_
        refine hC.ixor dX3_paintFrom_56 ?_
        refine hC.iand dX3_paintFrom_57 ?_
        rw [nI_andn]
        refine hC.istore dX3_paintFrom_58 (by decide) ?_
        refine hC.iconst dX3_paintFrom_60 (v := nI 0) rfl ?_
        refine hC.istore dX3_paintFrom_61 (by decide) ?_
        have hmay : andn (2 ^ P.2 0 - 1) (unF X a) < 16 := andn_b (by have := Nat.pow_le_pow_right (show 0 < 2 by decide) hC4; omega)
        generalize hmg : andn (2 ^ P.2 0 - 1) (unF X a) = may at hmay hR ⊢
        have hstep : ∀ c, ptL (fun c Y => pfX P k (sum + priceF P c) (setR Y 3 (updN (Y.2.2.2 3) a c))) may X (c + 1) = if may.testBit c = true then pfX P k (sum + priceF P c) (setR (ptL (fun c Y => pfX P k (sum + priceF P c) (setR Y 3 (updN (Y.2.2.2 3) a c))) may X c) 3 (updN ((ptL (fun c Y => pfX P k (sum + priceF P c) (setR Y 3 (updN (Y.2.2.2 3) a c))) may X c).2.2.2 3) a c)) else ptL (fun c Y => pfX P k (sum + priceF P c) (setR Y 3 (updN (Y.2.2.2 3) a c))) may X c := fun c => rfl
        have hok : ∀ c, c ≤ 4 → PaintOK (ptL (fun c Y => pfX P k (sum + priceF P c) (setR Y 3 (updN (Y.2.2.2 3) a c))) may X c) := ptL_ok hX (fun c Y hc hY => pfX_ok hP k _ _ (by have := price_le hP c; omega) (setR3_ok hY hc))
        have h0 : ptL (fun c Y => pfX P k (sum + priceF P c) (setR Y 3 (updN (Y.2.2.2 3) a c))) may X 0 = X := rfl
        generalize hgg : ptL (fun c Y => pfX P k (sum + priceF P c) (setR Y 3 (updN (Y.2.2.2 3) a c))) may X = g at hR hstep hok h0
        have loop : ∀ c, c ≤ 4 → K 63 [(0, .ref 0), (1, .ref 5), (2, .int (nI a)), (3, .int (nI sum)), (5, .int (nI may)), (6, .int (nI c))] [] (ppW (g c) P) := by
          refine loopUp1 _ 4 ?_ (fun c hc ih2 => ?_)
          · refine hC.iload dX3_paintFrom_63 rfl ?_
            refine hC.iconst dX3_paintFrom_65 (v := nI 4) rfl ?_
            refine hC.n_ge (by omega) (by omega) dX3_paintFrom_66 (tgt := 109) rfl (fun c3 => ?_) (fun c3 => ?_)
            · exact hR.return_ dX3_paintFrom_109 ⟨rfl, rfl⟩
            · omega
          · have hgc := hok c (by omega)
            have hpr := price_le hP c
            refine hC.iload dX3_paintFrom_63 rfl ?_
            refine hC.iconst dX3_paintFrom_65 (v := nI 4) rfl ?_
            refine hC.n_ge (by omega) (by omega) dX3_paintFrom_66 (tgt := 109) rfl (fun c3 => ?_) (fun c3 => ?_)
            · omega
            · refine hC.iload dX3_paintFrom_69 rfl ?_
              refine hC.iload dX3_paintFrom_71 rfl ?_
              refine hC.rdSN [] dX3_paintFrom_73 lnX3_70 mkX8_has sxX8_has (ct_X8_has l may c (by omega) (by omega)) (hr0 0 (by omega) 2 (by omega)) rfl rfl (Nat.le_of_ble_eq_true rfl) ⟨by decide, rfl⟩ ?_
              refine hC.bz dX3_paintFrom_76 (tgt := 103) rfl (fun c4 => ?_) (fun c4 => ?_)
              · refine hC.iinc dX3_paintFrom_103 rfl (nI_1 _) (by decide) ?_
                refine hC.goto dX3_paintFrom_106 (tgt := 63) rfl ?_
                rw [hstep, if_neg (by simp [c4])] at ih2
                exact hC.loc rfl ih2
              · rw [hstep, if_pos c4] at ih2
                refine hC.aload_n dX3_paintFrom_79 rfl ?_
                refine hC.getfield dX3_paintFrom_80 lfX3_21 rfl rfl ?_
                refine hC.iload_n dX3_paintFrom_83 rfl ?_
                refine hC.iload dX3_paintFrom_84 rfl ?_
                refine hC.isN dX3_paintFrom_86 rfl ⟨by omega, by decide⟩ ?_
                refine hC.aload_n dX3_paintFrom_87 rfl ?_
                refine hC.aload_n dX3_paintFrom_88 rfl ?_
                refine hC.iload_n dX3_paintFrom_89 rfl ?_
                refine hC.iconst dX3_paintFrom_90 (v := nI 1) rfl ?_
                refine hC.iadd dX3_paintFrom_91 ?_
                rw [nI_add]
                refine hC.iload_n dX3_paintFrom_92 rfl ?_
                refine hC.aload_n dX3_paintFrom_93 rfl ?_
                refine hC.iload dX3_paintFrom_94 rfl ?_
                refine hC.rdV [5, 6, 7, 8, 9, 10, 11, 12, 13] dX3_paintFrom_96 lmX3_74 mkX4_priceOf svX4_priceOf (ct_X4_priceOf l P hP c (by omega)) (hr0 1 (by omega) 2 (by omega)) rfl rfl (Nat.le_of_ble_eq_true rfl) ⟨by decide, rfl⟩ rfl rfl ?_
                refine hC.iadd dX3_paintFrom_99 ?_
                rw [nI_add]
                refine hC.wuS (hs2 := ppW (pfX P k (sum + priceF P c) (setR (g c) 3 (updN ((g c).2.2.2 3) a c))) P) [0, 1, 2, 3, 4, 5, 6, 7, 8, 9, 10, 11, 12, 13] dX3_paintFrom_100 lmX3_48 mkX3_paintFrom sxX3_paintFrom (ih (a + 1) (sum + priceF P c) (setR (g c) 3 (updN ((g c).2.2.2 3) a c)) (by omega) (by omega) (setR3_ok hgc hc)) hrm rfl rfl (Nat.le_of_ble_eq_true rfl) ⟨by decide, rfl⟩ rfl ?_
                refine hC.iinc dX3_paintFrom_103 rfl (nI_1 _) (by decide) ?_
                refine hC.goto dX3_paintFrom_106 (tgt := 63) rfl ?_
                exact hC.loc rfl ih2
        have l0 := loop 0 (by omega)
        rw [h0] at l0
        exact hC.loc rfl l0
      · have c := of_decide_eq_false c
        omega
    refine hC.aload_n dX3_paintFrom_0 rfl ?_
    refine hC.getfield dX3_paintFrom_1 lfX3_52 rfl rfl ?_
    refine hC.iload_n dX3_paintFrom_4 rfl ?_
    refine hC.isub dX3_paintFrom_5 ?_
    rw [pk_sub (by omega)]
    refine hC.aload_n dX3_paintFrom_6 rfl ?_
    refine hC.getfield dX3_paintFrom_7 lfX3_46 rfl rfl ?_
    refine hC.imul dX3_paintFrom_10 ?_
    rw [pk_mul, show P.2 1 - a = k + 1 by omega]
    refine hC.istore dX3_paintFrom_11 (by decide) ?_
    refine hC.aload_n dX3_paintFrom_13 rfl ?_
    refine hC.getfield dX3_paintFrom_14 lfX3_34 rfl rfl ?_
    refine hC.bz dX3_paintFrom_17 (tgt := 32) rfl (fun c1 => ?_) (fun c1 => ?_)
    · exact hC.loc rfl (k32 (fun z => by rw [c1] at z; exact absurd z.1 (by decide)) (nI ((k + 1) * X.2.2.1)))
    · refine hC.iload_n dX3_paintFrom_20 rfl ?_
      refine hC.iload dX3_paintFrom_21 rfl ?_
      refine hC.iadd dX3_paintFrom_23 ?_
      rw [nI_add]
      refine hC.aload_n dX3_paintFrom_24 rfl ?_
      refine hC.getfield dX3_paintFrom_25 lfX3_38 rfl rfl ?_
      refine hC.n_lt (by omega) (by omega) dX3_paintFrom_28 (tgt := 32) rfl (fun c2 => ?_) (fun c2 => ?_)
      · exact hC.loc rfl (k32 (fun z => by omega) (nI ((k + 1) * X.2.2.1)))
      · rw [pfX, if_pos ⟨c1, c2⟩] at hR
        exact hR.return_ dX3_paintFrom_31 ⟨rfl, rfl⟩
def pnX (T : PaintT) (P : PlanT) (m : Nat) : PaintT := (false, 0, chF P (P.2 0), upR T.2.2.2 1 (rowL (fun a => bdF P a m) (T.2.2.2 1) 8))
theorem look_ok {T : PaintT} {P : PlanT} (hT : PaintOK T) (hP : PlanOK P) (m : Nat) : PaintOK (setR T 1 (rowL (fun a => bdF P a m) (T.2.2.2 1) 8)) := by
  refine ⟨hT.1, hT.2.1, fun j => ?_, hT.2.2.2.1, hT.2.2.2.2⟩
  have e : (setR T 1 (rowL (fun a => bdF P a m) (T.2.2.2 1) 8)).2.2.2 1 j = rowL (fun a => bdF P a m) (T.2.2.2 1) 8 j := rfl
  rw [e]
  unfold rowL; split
  · exact bdF_lt hP j m
  · exact hT.2.2.1 j
theorem pnX_ok {T : PaintT} {P : PlanT} (hT : PaintOK T) (hP : PlanOK P) (m : Nat) : PaintOK (pnX T P m) := ⟨Nat.zero_le _, chF_le P _, (look_ok hT hP m).2.2.1, hT.2.2.2.1, hT.2.2.2.2⟩
set_option maxHeartbeats 4000000 in
set_option maxRecDepth 20000 in
theorem ct_X3_paintAnew (l : Launch) (T : PaintT) (P : PlanT) (hT : PaintOK T) (hP : PlanOK P) (m : Nat) (hm : m < 4096) : Ct l 13 yX3_paintAnew cX3_paintAnew 3 none [.ref 0, .ref 5, .int (nI m)] (ppW T P) (RU (ppW (pfX P (P.2 1) 0 (pnX T P m)) P)) := by
  refine Ct.of (by decide) (Nat.le_of_ble_eq_true rfl) (fun K hC hR => ?_)
  show K 0 [(0, .ref 0), (1, .ref 5), (2, .int (nI m))] [] _
  have h8 := hP.2.1
  refine hC.aload_n dX3_paintAnew_0 rfl ?_
  refine hC.aload_n dX3_paintAnew_1 rfl ?_
  refine hC.iload_n dX3_paintAnew_2 rfl ?_
  refine hC.wuV (hs2 := ppW (setR T 1 (rowL (fun a => bdF P a m) (T.2.2.2 1) 8)) P) [0, 1, 2, 3, 4, 5, 6, 7, 8, 9, 10, 11, 12, 13] dX3_paintAnew_3 lmX3_30 mkX3_look svX3_look (ct_X3_look l T P hP m hm) ⟨Nat.le_of_ble_eq_true rfl, Nat.le_of_ble_eq_true rfl⟩ rfl rfl (Nat.le_of_ble_eq_true rfl) ⟨by decide, rfl⟩ rfl rfl rfl ?_
  refine hC.aload_n dX3_paintAnew_6 rfl ?_
  refine hC.iconst dX3_paintAnew_7 (v := nI 0) rfl ?_
  refine hC.putI dX3_paintAnew_8 lpX3_34 (by decide) (by decide) rfl (Nat.le_of_ble_eq_true rfl) ?_
  refine hC.aload_n dX3_paintAnew_11 rfl ?_
  refine hC.iconst dX3_paintAnew_12 (v := nI 0) rfl ?_
  refine hC.putI dX3_paintAnew_13 lpX3_38 rfl rfl rfl (Nat.le_of_ble_eq_true rfl) ?_
  refine hC.aload_n dX3_paintAnew_16 rfl ?_
  refine hC.aload_n dX3_paintAnew_17 rfl ?_
  refine hC.rdV [5, 6, 7, 8, 9, 10, 11, 12, 13] dX3_paintAnew_18 lmX3_42 mkX4_cheapest svX4_cheapest (ct_X4_cheapest l P hP) ⟨Nat.le_of_ble_eq_true rfl, Nat.le_of_ble_eq_true rfl⟩ rfl rfl (Nat.le_of_ble_eq_true rfl) ⟨by decide, rfl⟩ rfl rfl ?_
  refine hC.putI dX3_paintAnew_21 lpX3_46 rfl rfl rfl (Nat.le_of_ble_eq_true rfl) ?_
  refine hC.aload_n dX3_paintAnew_24 rfl ?_
  refine hC.aload_n dX3_paintAnew_25 rfl ?_
  refine hC.iconst dX3_paintAnew_26 (v := nI 0) rfl ?_
  refine hC.iconst dX3_paintAnew_27 (v := nI 0) rfl ?_
  refine hC.wuS (hs2 := ppW (pfX P (P.2 1) 0 (pnX T P m)) P) [0, 1, 2, 3, 4, 5, 6, 7, 8, 9, 10, 11, 12, 13] dX3_paintAnew_28 lmX3_48 mkX3_paintFrom sxX3_paintFrom (ct_X3_paintFrom l P hP (P.2 1) 0 0 (pnX T P m) (by omega) (by omega) (pnX_ok hT hP m)) ⟨by show 4 + P.2 1 + 1 ≤ 13; omega, by show 8 + (7 + 11) + 40 * (4 + P.2 1) ≤ 40 * 13; omega⟩ rfl rfl (Nat.le_of_ble_eq_true rfl) ⟨by decide, rfl⟩ rfl ?_
  exact hR.return_ dX3_paintAnew_31 ⟨rfl, rfl⟩
