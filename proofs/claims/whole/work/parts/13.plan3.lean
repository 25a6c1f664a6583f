/-! more rules; StripFlag$Plan's small methods and its writers -/
section CLP
variable {l : Launch} {cc : ByteArray} {own : String} {nL : Nat} {R : Room} {K : AK} {pc : Nat} {ls : AL} {st : List Value} {hs : List va_E}
theorem Cl.z_le (h : Cl l cc own nL R K) {x : Nat} (hx : x < 2 ^ 31) {off : Int} {tgt : Nat} (hd : decode cc pc = .ok (.ifCond .le off, 3)) (ht : (pc : Int) + off = (tgt : Int)) (kt : x = 0 → K tgt ls st hs) (kf : 0 < x → K (pc + 3) ls st hs) : K pc ls (.int (nI x) :: st) hs := by
  refine h.if_le hd ht (fun c => kt ?_) (fun c => kf ?_)
  · have := (nI_leI hx (show 0 < 2 ^ 31 by decide)).mp c; omega
  · have h2 : ¬ nI x ≤ nI 0 := c
    rw [nI_leI hx (by decide)] at h2; omega
theorem Cl.z_lt (h : Cl l cc own nL R K) {x : Nat} (hx : x < 2 ^ 31) {off : Int} {tgt : Nat} (hd : decode cc pc = .ok (.ifCond .lt off, 3)) (ht : (pc : Int) + off = (tgt : Int)) (kf : K (pc + 3) ls st hs) : K pc ls (.int (nI x) :: st) hs := by
  refine h.if_lt hd ht (fun c => ?_) (fun c => kf)
  exact absurd c (nI_pos hx)
theorem Cl.mmaxR (h : Cl l cc own nL R K) {idx : Nat} {x y : Int32} (hd : decode cc pc = .ok (.invokestatic idx, 3)) (hlk : Cond.methodLink own idx Lib.Math.max.name ∈ GW) (hR : 1 ≤ R.frames ∧ (st.map fun v => v.category).sum + 13 ≤ R.locals) (k : K (pc + 3) ls (.int (if x < y then y else x) :: st) hs) : K pc ls (.int y :: .int x :: st) hs := by
  obtain ⟨p, e, s, m, args, below, meth, c, D, cA, ad, A0, H0, N, ck, sk, Q, ⟨hx, hb, hml, hown, hts, hKX, hD0, hA0, hcs⟩, rfl⟩ := h
  intro hN H locs lsC hP hS hl
  refine va_mmax hx hb (hml.trans hl.1.symm) hown (hts _ hlk) (hts _ mmaxW.1) (hts _ mmaxW.2.1) (hts _ mmaxW.2.2) hR.1 ?_ hcs.1.1 hcs.1.2 hd (k hN H locs lsC hP hS hl)
  rw [List.map_map]
  have e0 : ((fun v : Value => v.category) ∘ tv ad) = fun v => v.category := funext (fun v => tv_cat ad v)
  rw [e0]
  exact hR.2
end CLP
theorem nI_self (x : Int32) : x = nI x.toBitVec.toNat := by
  apply i32_ext
  rw [nI_bv]; simp
theorem nI_eq0 {z : Nat} (h : z < 2 ^ 32) : nI z = 0 ↔ z = 0 := by
  constructor
  · intro e
    have := congrArg (fun x : Int32 => x.toBitVec.toNat) e
    rw [show (nI z).toBitVec.toNat = z from pk_tn h] at this
    exact this
  · intro e; subst e; rfl
theorem inB_pow {x : Int32} {t : Nat} (ht : t < 31) : inB x (2 ^ t) = decide (andn x.toBitVec.toNat (2 ^ t - 1) = 0) := by
  have hx : x.toBitVec.toNat < 2 ^ 32 := x.toBitVec.isLt
  have hp : 2 ^ t < 2 ^ 31 := Nat.pow_lt_pow_right (by decide) ht
  have e1 : andn x.toBitVec.toNat (2 ^ t - 1) = 0 ↔ x.toBitVec.toNat < 2 ^ t := by
    constructor
    · intro h
      apply Nat.lt_pow_two_of_testBit
      intro i hi
      have := eq0_tb.mp h i
      rw [andn_tb, Nat.testBit_two_pow_sub_one] at this
      simp at this
      cases hh : x.toBitVec.toNat.testBit i
      · rfl
      · have := this hh; omega
    · intro h
      apply eq0_tb.mpr
      intro i
      rw [andn_tb, Nat.testBit_two_pow_sub_one]
      by_cases hi : i < t
      · simp [hi]
      · rw [tb_lt h (by omega)]; rfl
  unfold inB
  have e2 : (0 ≤ x.toInt ∧ x.toInt < ((2 ^ t : Nat) : Int)) ↔ x.toBitVec.toNat < 2 ^ t := by
    have e3 : x.toInt = x.toBitVec.toInt := rfl
    rw [e3, BitVec.toInt_eq_toNat_cond]
    constructor
    · intro h
      split at h
      · have := h.2; omega
      · omega
    · intro h
      rw [if_pos (by omega)]
      omega
  simp only [e1, e2]
theorem mask_nI {t : Nat} (ht : t < 31) : nI (2 ^ t) - nI 1 = nI (2 ^ t - 1) := pk_sub (Nat.one_le_two_pow)
set_option maxHeartbeats 4000000 in
set_option maxRecDepth 20000 in
theorem ct_X4_allStrips (l : Launch) (P : PlanT) (hP : PlanOK P) : Ct l 0 yX4_allStrips cX4_allStrips 1 (some .int) [.ref 0] (planW P) (RV (.int (nI (2 ^ P.2 1 - 1))) (planW P)) := by
  refine Ct.of (by decide) (Nat.le_of_ble_eq_true rfl) (fun K hC hR => ?_)
  show K 0 [(0, .ref 0)] [] _
  have h1 := hP.2.1
  refine hC.iconst dX4_allStrips_0 (v := nI 1) rfl ?_
  refine hC.aload_n dX4_allStrips_1 rfl ?_
  refine hC.getfield dX4_allStrips_2 lfX4_40 rfl rfl ?_
  refine hC.ishl dX4_allStrips_5 ?_
  rw [nI_shl (by omega), Nat.one_mul]
  refine hC.iconst dX4_allStrips_6 (v := nI 1) rfl ?_
  refine hC.isub dX4_allStrips_7 ?_
  rw [mask_nI (by omega)]
  exact hR.ireturn dX4_allStrips_8 ⟨rfl, rfl⟩
set_option maxHeartbeats 4000000 in
set_option maxRecDepth 20000 in
theorem ct_X4_allColours (l : Launch) (P : PlanT) (hP : PlanOK P) : Ct l 0 yX4_allColours cX4_allColours 1 (some .int) [.ref 0] (planW P) (RV (.int (nI (2 ^ P.2 0 - 1))) (planW P)) := by
  refine Ct.of (by decide) (Nat.le_of_ble_eq_true rfl) (fun K hC hR => ?_)
  show K 0 [(0, .ref 0)] [] _
  have h1 := hP.1
  refine hC.iconst dX4_allColours_0 (v := nI 1) rfl ?_
  refine hC.aload_n dX4_allColours_1 rfl ?_
  refine hC.getfield dX4_allColours_2 lfX4_36 rfl rfl ?_
  refine hC.ishl dX4_allColours_5 ?_
  rw [nI_shl (by omega), Nat.one_mul]
  refine hC.iconst dX4_allColours_6 (v := nI 1) rfl ?_
  refine hC.isub dX4_allColours_7 ?_
  rw [mask_nI (by omega)]
  exact hR.ireturn dX4_allColours_8 ⟨rfl, rfl⟩
set_option maxHeartbeats 4000000 in
set_option maxRecDepth 20000 in
theorem ct_X4_hasStrips (l : Launch) (P : PlanT) (hP : PlanOK P) (x : Int32) : Ct l 1 yX4_hasStrips cX4_hasStrips 2 (some .boolean) [.ref 0, .int x] (planW P) (RV (.int (nI (inB x (2 ^ P.2 1)).toNat)) (planW P)) := by
  refine Ct.of (by decide) (Nat.le_of_ble_eq_true rfl) (fun K hC hR => ?_)
  show K 0 [(0, .ref 0), (1, .int x)] [] _
  have h1 := hP.2.1
  have hlt : andn x.toBitVec.toNat (2 ^ P.2 1 - 1) < 2 ^ 32 := andn_b x.toBitVec.isLt
  refine hC.iload_n dX4_hasStrips_0 rfl ?_
  refine hC.aload_n dX4_hasStrips_1 rfl ?_
  refine hC.rdV [0, 1, 2, 3, 4, 5, 6, 7, 8] dX4_hasStrips_2 lmX4_49 mkX4_allStrips svX4_allStrips (ct_X4_allStrips l P hP) ⟨Nat.le_of_ble_eq_true rfl, Nat.le_of_ble_eq_true rfl⟩ rfl rfl (Nat.le_of_ble_eq_true rfl) ⟨by decide, rfl⟩ rfl rfl ?_
  refine hC.iconst dX4_hasStrips_5 (v := (-1)) rfl ?_
  refine hC.ixor dX4_hasStrips_6 ?_
  refine hC.iand dX4_hasStrips_7 ?_
  rw [show x &&& (nI (2 ^ P.2 1 - 1) ^^^ (-1)) = nI (andn x.toBitVec.toNat (2 ^ P.2 1 - 1)) by rw [← nI_andn, ← nI_self x]]
  have e := @inB_pow x (P.2 1) (by omega)
  refine hC.if_ne dX4_hasStrips_8 (tgt := 15) rfl (fun c => ?_) (fun c => ?_)
  · refine hC.iconst dX4_hasStrips_15 (v := nI 0) rfl ?_
    exact hR.zreturn dX4_hasStrips_16 (by first | decide | exact b01 _) ⟨by rw [e, decide_eq_false (fun z => c ((nI_eq0 hlt).mpr z))] <;> rfl, rfl⟩
  · refine hC.iconst dX4_hasStrips_11 (v := nI 1) rfl ?_
    refine hC.goto dX4_hasStrips_12 (tgt := 16) rfl ?_
    exact hR.zreturn dX4_hasStrips_16 (by first | decide | exact b01 _) ⟨by rw [e, decide_eq_true ((nI_eq0 hlt).mp c)] <;> rfl, rfl⟩
set_option maxHeartbeats 4000000 in
set_option maxRecDepth 20000 in
theorem ct_X4_hasColours (l : Launch) (P : PlanT) (hP : PlanOK P) (x : Int32) : Ct l 1 yX4_hasColours cX4_hasColours 2 (some .boolean) [.ref 0, .int x] (planW P) (RV (.int (nI (inB x (2 ^ P.2 0)).toNat)) (planW P)) := by
  refine Ct.of (by decide) (Nat.le_of_ble_eq_true rfl) (fun K hC hR => ?_)
  show K 0 [(0, .ref 0), (1, .int x)] [] _
  have h1 := hP.1
  have hlt : andn x.toBitVec.toNat (2 ^ P.2 0 - 1) < 2 ^ 32 := andn_b x.toBitVec.isLt
  refine hC.iload_n dX4_hasColours_0 rfl ?_
  refine hC.aload_n dX4_hasColours_1 rfl ?_
  refine hC.rdV [0, 1, 2, 3, 4, 5, 6, 7, 8] dX4_hasColours_2 lmX4_53 mkX4_allColours svX4_allColours (ct_X4_allColours l P hP) ⟨Nat.le_of_ble_eq_true rfl, Nat.le_of_ble_eq_true rfl⟩ rfl rfl (Nat.le_of_ble_eq_true rfl) ⟨by decide, rfl⟩ rfl rfl ?_
  refine hC.iconst dX4_hasColours_5 (v := (-1)) rfl ?_
  refine hC.ixor dX4_hasColours_6 ?_
  refine hC.iand dX4_hasColours_7 ?_
  rw [show x &&& (nI (2 ^ P.2 0 - 1) ^^^ (-1)) = nI (andn x.toBitVec.toNat (2 ^ P.2 0 - 1)) by rw [← nI_andn, ← nI_self x]]
  have e := @inB_pow x (P.2 0) (by omega)
  refine hC.if_ne dX4_hasColours_8 (tgt := 15) rfl (fun c => ?_) (fun c => ?_)
  · refine hC.iconst dX4_hasColours_15 (v := nI 0) rfl ?_
    exact hR.zreturn dX4_hasColours_16 (by first | decide | exact b01 _) ⟨by rw [e, decide_eq_false (fun z => c ((nI_eq0 hlt).mpr z))] <;> rfl, rfl⟩
  · refine hC.iconst dX4_hasColours_11 (v := nI 1) rfl ?_
    refine hC.goto dX4_hasColours_12 (tgt := 16) rfl ?_
    exact hR.zreturn dX4_hasColours_16 (by first | decide | exact b01 _) ⟨by rw [e, decide_eq_true ((nI_eq0 hlt).mp c)] <;> rfl, rfl⟩
def priceF (P : PlanT) (k : Nat) : Nat := if k < P.2 0 then P.1 0 k else 0
set_option maxHeartbeats 4000000 in
set_option maxRecDepth 20000 in
theorem ct_X4_priceOf (l : Launch) (P : PlanT) (hP : PlanOK P) (k : Nat) (hk : k < 2 ^ 31) : Ct l 1 yX4_priceOf cX4_priceOf 2 (some .int) [.ref 0, .int (nI k)] (planW P) (RV (.int (nI (priceF P k))) (planW P)) := by
  refine Ct.of (by decide) (Nat.le_of_ble_eq_true rfl) (fun K hC hR => ?_)
  show K 0 [(0, .ref 0), (1, .int (nI k))] [] _
  have h1 := hP.1
  refine hC.aload_n dX4_priceOf_0 rfl ?_
  refine hC.iload_n dX4_priceOf_1 rfl ?_
  refine hC.rdV [0, 1, 2, 3, 4, 5, 6, 7, 8] dX4_priceOf_2 lmX4_56 mkX4_hasColour svX4_hasColour (ct_X4_hasColour l P h1 (nI k)) ⟨Nat.le_of_ble_eq_true rfl, Nat.le_of_ble_eq_true rfl⟩ rfl rfl (Nat.le_of_ble_eq_true rfl) ⟨by decide, rfl⟩ rfl rfl ?_
  rw [inB_nI hk]
  refine hC.bz dX4_priceOf_5 (tgt := 17) rfl (fun c => ?_) (fun c => ?_)
  · refine hC.iconst dX4_priceOf_17 (v := nI 0) rfl ?_
    exact hR.ireturn dX4_priceOf_18 ⟨by rw [priceF, if_neg (of_decide_eq_false c)], rfl⟩
  · have c := of_decide_eq_true c
    refine hC.aload_n dX4_priceOf_8 rfl ?_
    refine hC.getfield dX4_priceOf_9 lfX4_9 rfl rfl ?_
    refine hC.iload_n dX4_priceOf_12 rfl ?_
    refine hC.iaN dX4_priceOf_13 rfl ⟨by omega, by decide⟩ ?_
    refine hC.goto dX4_priceOf_14 (tgt := 18) rfl ?_
    exact hR.ireturn dX4_priceOf_18 ⟨by rw [priceF, if_pos c], rfl⟩
def chF (P : PlanT) : Nat → Nat
  | 0 => 99
  | n + 1 => min (chF P n) (P.1 0 n)
theorem chF_le (P : PlanT) : ∀ n, chF P n ≤ 99
  | 0 => Nat.le_refl _
  | n + 1 => Nat.le_trans (Nat.min_le_left _ _) (chF_le P n)
set_option maxHeartbeats 4000000 in
set_option maxRecDepth 20000 in
theorem ct_X4_cheapest (l : Launch) (P : PlanT) (hP : PlanOK P) : Ct l 1 yX4_cheapest cX4_cheapest 3 (some .int) [.ref 0] (planW P) (RV (.int (nI (chF P (P.2 0)))) (planW P)) := by
  refine Ct.of (by decide) (Nat.le_of_ble_eq_true rfl) (fun K hC hR => ?_)
  show K 0 [(0, .ref 0)] [] _
  have h1 := hP.1
  refine hC.bipush dX4_cheapest_0 (v := nI 99) rfl ?_
  refine hC.istore_n dX4_cheapest_2 (by decide) ?_
  refine hC.iconst dX4_cheapest_3 (v := nI 0) rfl ?_
  refine hC.istore_n dX4_cheapest_4 (by decide) ?_
  have loop : ∀ s, s ≤ P.2 0 → K 5 [(0, .ref 0), (1, .int (nI (chF P s))), (2, .int (nI s))] [] (planW P) := by
    refine loopUp1 _ (P.2 0) ?_ (fun s hs ih => ?_)
    · refine hC.iload_n dX4_cheapest_5 rfl ?_
      refine hC.aload_n dX4_cheapest_6 rfl ?_
      refine hC.getfield dX4_cheapest_7 lfX4_36 rfl rfl ?_
      refine hC.n_ge (by omega) (by omega) dX4_cheapest_10 (tgt := 35) rfl (fun c => ?_) (fun c => ?_)
      · refine hC.iload_n dX4_cheapest_35 rfl ?_
        exact hR.ireturn dX4_cheapest_36 ⟨rfl, rfl⟩
      · omega
    · refine hC.iload_n dX4_cheapest_5 rfl ?_
      refine hC.aload_n dX4_cheapest_6 rfl ?_
      refine hC.getfield dX4_cheapest_7 lfX4_36 rfl rfl ?_
      refine hC.n_ge (by omega) (by omega) dX4_cheapest_10 (tgt := 35) rfl (fun c => ?_) (fun c => ?_)
      · omega
      · refine hC.iload_n dX4_cheapest_13 rfl ?_
        refine hC.iconst dX4_cheapest_14 (v := nI 4) rfl ?_
        refine hC.n_ge (by omega) (by omega) dX4_cheapest_15 (tgt := 35) rfl (fun c2 => ?_) (fun c2 => ?_)
        · omega
        · refine hC.iload_n dX4_cheapest_18 rfl ?_
          refine hC.aload_n dX4_cheapest_19 rfl ?_
          refine hC.getfield dX4_cheapest_20 lfX4_9 rfl rfl ?_
          refine hC.iload_n dX4_cheapest_23 rfl ?_
          refine hC.iaN dX4_cheapest_24 rfl ⟨by omega, by decide⟩ ?_
          have q1 := chF_le P s
          have q2 := hP.2.2.2.2.2.2.1 s
          refine hC.mmin (by omega) (by omega) dX4_cheapest_25 lmX4_60 ⟨by decide, by decide⟩ ?_
          refine hC.istore_n dX4_cheapest_28 (by decide) ?_
          refine hC.iinc dX4_cheapest_29 rfl (nI_1 _) (by decide) ?_
          refine hC.goto dX4_cheapest_32 (tgt := 5) rfl ?_
          exact hC.loc rfl ih
  exact hC.loc rfl (loop 0 (by omega))
/-! the writers -/
def plU (P : PlanT) (k : Nat) (f : Nat → Nat) : PlanT := (fun j => if j = k then f else P.1 j, P.2)
def plV (P : PlanT) (k v : Nat) : PlanT := (P.1, fun j => if j = k then v else P.2 j)
set_option maxHeartbeats 4000000 in
set_option maxRecDepth 20000 in
theorem ct_X4_addColour (l : Launch) (P : PlanT) (v : Nat) (h : P.2 0 < 4) : Ct l 0 yX4_addColour cX4_addColour 2 none [.ref 0, .int (nI v)] (planW P) (RU (planW (plV (plU P 0 (updN (P.1 0) (P.2 0) v)) 0 (P.2 0 + 1)))) := by
  refine Ct.of (by decide) (Nat.le_of_ble_eq_true rfl) (fun K hC hR => ?_)
  show K 0 [(0, .ref 0), (1, .int (nI v))] [] _
  refine hC.aload_n dX4_addColour_0 rfl ?_
  refine hC.getfield dX4_addColour_1 lfX4_36 rfl rfl ?_
  refine hC.z_lt (by omega) dX4_addColour_4 (tgt := 35) rfl ?_
  refine hC.aload_n dX4_addColour_7 rfl ?_
  refine hC.getfield dX4_addColour_8 lfX4_36 rfl rfl ?_
  refine hC.iconst dX4_addColour_11 (v := nI 4) rfl ?_
  refine hC.n_ge (by omega) (by omega) dX4_addColour_12 (tgt := 35) rfl (fun c => ?_) (fun c => ?_)
  · omega
  · refine hC.aload_n dX4_addColour_15 rfl ?_
    refine hC.getfield dX4_addColour_16 lfX4_9 rfl rfl ?_
    refine hC.aload_n dX4_addColour_19 rfl ?_
    refine hC.getfield dX4_addColour_20 lfX4_36 rfl rfl ?_
    refine hC.iload_n dX4_addColour_23 rfl ?_
    refine hC.isN dX4_addColour_24 rfl ⟨by omega, by decide⟩ ?_
    refine hC.aload_n dX4_addColour_25 rfl ?_
    refine hC.dup dX4_addColour_26 rfl ?_
    refine hC.getfield dX4_addColour_27 lfX4_36 rfl rfl ?_
    refine hC.iconst dX4_addColour_30 (v := nI 1) rfl ?_
    refine hC.iadd dX4_addColour_31 ?_
    rw [nI_add]
    refine hC.putI dX4_addColour_32 lpX4_36 rfl rfl rfl (Nat.le_of_ble_eq_true rfl) ?_
    exact hR.return_ dX4_addColour_35 ⟨rfl, rfl⟩
set_option maxHeartbeats 4000000 in
set_option maxRecDepth 20000 in
theorem ct_X4_addStrip (l : Launch) (P : PlanT) (v : Nat) (h : P.2 1 < 8) : Ct l 0 yX4_addStrip cX4_addStrip 2 none [.ref 0, .int (nI v)] (planW P) (RU (planW (plV (plU P 1 (updN (P.1 1) (P.2 1) v)) 1 (P.2 1 + 1)))) := by
  refine Ct.of (by decide) (Nat.le_of_ble_eq_true rfl) (fun K hC hR => ?_)
  show K 0 [(0, .ref 0), (1, .int (nI v))] [] _
  refine hC.aload_n dX4_addStrip_0 rfl ?_
  refine hC.getfield dX4_addStrip_1 lfX4_40 rfl rfl ?_
  refine hC.z_lt (by omega) dX4_addStrip_4 (tgt := 36) rfl ?_
  refine hC.aload_n dX4_addStrip_7 rfl ?_
  refine hC.getfield dX4_addStrip_8 lfX4_40 rfl rfl ?_
  refine hC.bipush dX4_addStrip_11 (v := nI 8) rfl ?_
  refine hC.n_ge (by omega) (by omega) dX4_addStrip_13 (tgt := 36) rfl (fun c => ?_) (fun c => ?_)
  · omega
  · refine hC.aload_n dX4_addStrip_16 rfl ?_
    refine hC.getfield dX4_addStrip_17 lfX4_15 rfl rfl ?_
    refine hC.aload_n dX4_addStrip_20 rfl ?_
    refine hC.getfield dX4_addStrip_21 lfX4_40 rfl rfl ?_
    refine hC.iload_n dX4_addStrip_24 rfl ?_
    refine hC.isN dX4_addStrip_25 rfl ⟨by omega, by decide⟩ ?_
    refine hC.aload_n dX4_addStrip_26 rfl ?_
    refine hC.dup dX4_addStrip_27 rfl ?_
    refine hC.getfield dX4_addStrip_28 lfX4_40 rfl rfl ?_
    refine hC.iconst dX4_addStrip_31 (v := nI 1) rfl ?_
    refine hC.iadd dX4_addStrip_32 ?_
    rw [nI_add]
    refine hC.putI dX4_addStrip_33 lpX4_40 rfl rfl rfl (Nat.le_of_ble_eq_true rfl) ?_
    exact hR.return_ dX4_addStrip_36 ⟨rfl, rfl⟩
theorem m1_nI : (-1 : Int32) = nI 4294967295 := by decide
def endB (b : Nat) : Nat := if b = 4294967295 then 256 else 2 ^ b
set_option maxHeartbeats 4000000 in
set_option maxRecDepth 20000 in
theorem ct_X4_addSeam (l : Launch) (P : PlanT) (a b v : Nat) (h : P.2 2 < 12) (ha : a < 8) (hb : b < 8 ∨ b = 4294967295) : Ct l 0 yX4_addSeam cX4_addSeam 4 none [.ref 0, .int (nI a), .int (nI b), .int (nI v)] (planW P) (RU (planW (plV (plU (plU (plU (plU P 2 (updN (P.1 2) (P.2 2) a)) 3 (updN (P.1 3) (P.2 2) b)) 5 (updN (P.1 5) (P.2 2) (2 ^ a ||| endB b))) 4 (updN (P.1 4) (P.2 2) v)) 2 (P.2 2 + 1)))) := by
  refine Ct.of (by decide) (Nat.le_of_ble_eq_true rfl) (fun K hC hR => ?_)
  show K 0 [(0, .ref 0), (1, .int (nI a)), (2, .int (nI b)), (3, .int (nI v))] [] _
  refine hC.aload_n dX4_addSeam_0 rfl ?_
  refine hC.getfield dX4_addSeam_1 lfX4_43 rfl rfl ?_
  refine hC.z_lt (by omega) dX4_addSeam_4 (tgt := 83) rfl ?_
  refine hC.aload_n dX4_addSeam_7 rfl ?_
  refine hC.getfield dX4_addSeam_8 lfX4_43 rfl rfl ?_
  refine hC.bipush dX4_addSeam_11 (v := nI 12) rfl ?_
  refine hC.n_ge (by omega) (by omega) dX4_addSeam_13 (tgt := 83) rfl (fun c => ?_) (fun c => ?_)
  · omega
  · refine hC.aload_n dX4_addSeam_16 rfl ?_
    refine hC.getfield dX4_addSeam_17 lfX4_18 rfl rfl ?_
    refine hC.aload_n dX4_addSeam_20 rfl ?_
    refine hC.getfield dX4_addSeam_21 lfX4_43 rfl rfl ?_
    refine hC.iload_n dX4_addSeam_24 rfl ?_
    refine hC.isN dX4_addSeam_25 rfl ⟨by omega, by decide⟩ ?_
    refine hC.aload_n dX4_addSeam_26 rfl ?_
    refine hC.getfield dX4_addSeam_27 lfX4_21 rfl rfl ?_
    refine hC.aload_n dX4_addSeam_30 rfl ?_
    refine hC.getfield dX4_addSeam_31 lfX4_43 rfl rfl ?_
    refine hC.iload_n dX4_addSeam_34 rfl ?_
    refine hC.isN dX4_addSeam_35 rfl ⟨by omega, by decide⟩ ?_
    refine hC.aload_n dX4_addSeam_36 rfl ?_
    refine hC.getfield dX4_addSeam_37 lfX4_27 rfl rfl ?_
    refine hC.aload_n dX4_addSeam_40 rfl ?_
    refine hC.getfield dX4_addSeam_41 lfX4_43 rfl rfl ?_
    refine hC.iconst dX4_addSeam_44 (v := nI 1) rfl ?_
    refine hC.iload_n dX4_addSeam_45 rfl ?_
    refine hC.ishl dX4_addSeam_46 ?_
    rw [nI_shl (by omega), Nat.one_mul]
    refine hC.iload_n dX4_addSeam_47 rfl ?_
    refine hC.iconst dX4_addSeam_48 (v := (-1)) rfl ?_
    have fin : ∀ z, z = endB b → K 61 [(0, .ref 0), (1, .int (nI a)), (2, .int (nI b)), (3, .int (nI v))] [.int (nI z), .int (nI (2 ^ a)), .int (nI (P.2 2)), .ref 6] (planW (plU (plU P 2 (updN (P.1 2) (P.2 2) a)) 3 (updN (P.1 3) (P.2 2) b))) := by
      intro z hz
      subst hz
      refine hC.ior dX4_addSeam_61 ?_
      rw [nI_or]
      refine hC.isN dX4_addSeam_62 rfl ⟨by omega, by decide⟩ ?_
      refine hC.aload_n dX4_addSeam_63 rfl ?_
      refine hC.getfield dX4_addSeam_64 lfX4_24 rfl rfl ?_
      refine hC.aload_n dX4_addSeam_67 rfl ?_
      refine hC.getfield dX4_addSeam_68 lfX4_43 rfl rfl ?_
      refine hC.iload_n dX4_addSeam_71 rfl ?_
      refine hC.isN dX4_addSeam_72 rfl ⟨(show P.2 2 < 12 from h), by decide⟩ ?_
      refine hC.aload_n dX4_addSeam_73 rfl ?_
      refine hC.dup dX4_addSeam_74 rfl ?_
      refine hC.getfield dX4_addSeam_75 lfX4_43 rfl rfl ?_
      refine hC.iconst dX4_addSeam_78 (v := nI 1) rfl ?_
      refine hC.iadd dX4_addSeam_79 ?_
      rw [nI_add]
      refine hC.putI dX4_addSeam_80 lpX4_43 rfl rfl rfl (Nat.le_of_ble_eq_true rfl) ?_
      exact hR.return_ dX4_addSeam_83 ⟨rfl, rfl⟩
    refine hC.icmp_ne dX4_addSeam_49 (tgt := 58) rfl (fun c2 => ?_) (fun c2 => ?_)
    · refine hC.iconst dX4_addSeam_58 (v := nI 1) rfl ?_
      refine hC.iload_n dX4_addSeam_59 rfl ?_
      have hb2 : b < 8 := by
        rcases hb with h | h
        · exact h
        · exact absurd (by rw [h]; exact m1_nI.symm) c2
      refine hC.ishl dX4_addSeam_60 ?_
      rw [nI_shl (by omega), Nat.one_mul]
      exact fin _ (by rw [endB, if_neg (by omega)])
    · refine hC.sipush dX4_addSeam_52 (v := nI 256) rfl ?_
      refine hC.goto dX4_addSeam_55 (tgt := 61) rfl ?_
      have hb2 : b = 4294967295 := by
        rcases hb with h | h
        · rw [m1_nI] at c2
          have := congrArg (fun x : Int32 => x.toBitVec.toNat) c2
          rw [pk_tn (by omega), pk_tn (by decide)] at this
          omega
        · exact h
      exact fin _ (by rw [endB, if_pos hb2])
set_option maxHeartbeats 4000000 in
set_option maxRecDepth 20000 in
theorem ct_X4_addCould (l : Launch) (P : PlanT) (a b v : Nat) (h : P.2 3 < 8) (ha : a < 8) (hb : b < 8) : Ct l 0 yX4_addCould cX4_addCould 4 none [.ref 0, .int (nI a), .int (nI b), .int (nI v)] (planW P) (RU (planW (plV (plU (plU P 6 (updN (P.1 6) (P.2 3) (2 ^ a ||| (if b = a then 256 else 2 ^ b)))) 7 (updN (P.1 7) (P.2 3) v)) 3 (P.2 3 + 1)))) := by
  refine Ct.of (by decide) (Nat.le_of_ble_eq_true rfl) (fun K hC hR => ?_)
  show K 0 [(0, .ref 0), (1, .int (nI a)), (2, .int (nI b)), (3, .int (nI v))] [] _
  refine hC.aload_n dX4_addCould_0 rfl ?_
  refine hC.getfield dX4_addCould_1 lfX4_46 rfl rfl ?_
  refine hC.z_lt (by omega) dX4_addCould_4 (tgt := 63) rfl ?_
  refine hC.aload_n dX4_addCould_7 rfl ?_
  refine hC.getfield dX4_addCould_8 lfX4_46 rfl rfl ?_
  refine hC.bipush dX4_addCould_11 (v := nI 8) rfl ?_
  refine hC.n_ge (by omega) (by omega) dX4_addCould_13 (tgt := 63) rfl (fun c => ?_) (fun c => ?_)
  · omega
  · refine hC.aload_n dX4_addCould_16 rfl ?_
    refine hC.getfield dX4_addCould_17 lfX4_30 rfl rfl ?_
    refine hC.aload_n dX4_addCould_20 rfl ?_
    refine hC.getfield dX4_addCould_21 lfX4_46 rfl rfl ?_
    refine hC.iconst dX4_addCould_24 (v := nI 1) rfl ?_
    refine hC.iload_n dX4_addCould_25 rfl ?_
    refine hC.ishl dX4_addCould_26 ?_
    rw [nI_shl (by omega), Nat.one_mul]
    refine hC.iload_n dX4_addCould_27 rfl ?_
    refine hC.iload_n dX4_addCould_28 rfl ?_
    have fin : ∀ z, z = (if b = a then 256 else 2 ^ b) → K 41 [(0, .ref 0), (1, .int (nI a)), (2, .int (nI b)), (3, .int (nI v))] [.int (nI z), .int (nI (2 ^ a)), .int (nI (P.2 3)), .ref 7] (planW P) := by
      intro z hz
      subst hz
      refine hC.ior dX4_addCould_41 ?_
      rw [nI_or]
      refine hC.isN dX4_addCould_42 rfl ⟨by omega, by decide⟩ ?_
      refine hC.aload_n dX4_addCould_43 rfl ?_
      refine hC.getfield dX4_addCould_44 lfX4_33 rfl rfl ?_
      refine hC.aload_n dX4_addCould_47 rfl ?_
      refine hC.getfield dX4_addCould_48 lfX4_46 rfl rfl ?_
      refine hC.iload_n dX4_addCould_51 rfl ?_
      refine hC.isN dX4_addCould_52 rfl ⟨by omega, by decide⟩ ?_
      refine hC.aload_n dX4_addCould_53 rfl ?_
      refine hC.dup dX4_addCould_54 rfl ?_
      refine hC.getfield dX4_addCould_55 lfX4_46 rfl rfl ?_
      refine hC.iconst dX4_addCould_58 (v := nI 1) rfl ?_
      refine hC.iadd dX4_addCould_59 ?_
      rw [nI_add]
      refine hC.putI dX4_addCould_60 lpX4_46 rfl rfl rfl (Nat.le_of_ble_eq_true rfl) ?_
      exact hR.return_ dX4_addCould_63 ⟨rfl, rfl⟩
    refine hC.n_ne (by omega) (by omega) dX4_addCould_29 (tgt := 38) rfl (fun c2 => ?_) (fun c2 => ?_)
    · refine hC.iconst dX4_addCould_38 (v := nI 1) rfl ?_
      refine hC.iload_n dX4_addCould_39 rfl ?_
      refine hC.ishl dX4_addCould_40 ?_
      rw [nI_shl (by omega), Nat.one_mul]
      exact fin _ (by rw [if_neg c2])
    · refine hC.sipush dX4_addCould_32 (v := nI 256) rfl ?_
      refine hC.goto dX4_addCould_35 (tgt := 41) rfl ?_
      exact fin _ (by rw [if_pos c2])
set_option maxHeartbeats 4000000 in
set_option maxRecDepth 20000 in
theorem ct_X4_clear (l : Launch) (P : PlanT) : Ct l 0 yX4_clear cX4_clear 2 none [.ref 0] (planW P) (RU (planW (fun k => if k = 4 then (fun j => if j < 12 then 0 else P.1 4 j) else P.1 k, fun j => 0))) := by
  refine Ct.of (by decide) (Nat.le_of_ble_eq_true rfl) (fun K hC hR => ?_)
  show K 0 [(0, .ref 0)] [] _
  refine hC.aload_n dX4_clear_0 rfl ?_
  refine hC.iconst dX4_clear_1 (v := nI 0) rfl ?_
  refine hC.putI dX4_clear_2 lpX4_36 rfl rfl rfl (Nat.le_of_ble_eq_true rfl) ?_
  refine hC.aload_n dX4_clear_5 rfl ?_
  refine hC.iconst dX4_clear_6 (v := nI 0) rfl ?_
  refine hC.putI dX4_clear_7 lpX4_40 rfl rfl rfl (Nat.le_of_ble_eq_true rfl) ?_
  refine hC.aload_n dX4_clear_10 rfl ?_
  refine hC.iconst dX4_clear_11 (v := nI 0) rfl ?_
  refine hC.putI dX4_clear_12 lpX4_43 rfl rfl rfl (Nat.le_of_ble_eq_true rfl) ?_
  refine hC.aload_n dX4_clear_15 rfl ?_
  refine hC.iconst dX4_clear_16 (v := nI 0) rfl ?_
  refine hC.putI dX4_clear_17 lpX4_46 rfl rfl rfl (Nat.le_of_ble_eq_true rfl) ?_
  refine hC.iconst dX4_clear_20 (v := nI 0) rfl ?_
  refine hC.istore_n dX4_clear_21 (by decide) ?_
  have loop : ∀ s, s ≤ 12 → K 22 [(0, .ref 0), (1, .int (nI s))] [] (planW (fun k => if k = 4 then (fun j => if j < s then 0 else P.1 4 j) else P.1 k, fun j => 0)) := by
    refine loopUp1 _ 12 ?_ (fun s hs ih => ?_)
    · refine hC.iload_n dX4_clear_22 rfl ?_
      refine hC.bipush dX4_clear_23 (v := nI 12) rfl ?_
      refine hC.n_ge (by omega) (by omega) dX4_clear_25 (tgt := 41) rfl (fun c => ?_) (fun c => ?_)
      · exact hR.return_ dX4_clear_41 ⟨rfl, rfl⟩
      · omega
    · refine hC.iload_n dX4_clear_22 rfl ?_
      refine hC.bipush dX4_clear_23 (v := nI 12) rfl ?_
      refine hC.n_ge (by omega) (by omega) dX4_clear_25 (tgt := 41) rfl (fun c => ?_) (fun c => ?_)
      · omega
      · refine hC.aload_n dX4_clear_28 rfl ?_
        refine hC.getfield dX4_clear_29 lfX4_24 rfl rfl ?_
        refine hC.iload_n dX4_clear_32 rfl ?_
        refine hC.iconst dX4_clear_33 (v := nI 0) rfl ?_
        refine hC.isN dX4_clear_34 rfl ⟨by omega, by decide⟩ ?_
        refine hC.iinc dX4_clear_35 rfl (nI_1 _) (by decide) ?_
        refine hC.goto dX4_clear_38 (tgt := 22) rfl ?_
        have e : updN (fun j => if j < s then 0 else P.1 4 j) s 0 = (fun j => if j < s + 1 then 0 else P.1 4 j) := by
          funext j
          unfold updN
          by_cases h1 : j = s
          · subst h1; simp
          · by_cases h2 : j < s
            · simp [h1, h2]; omega
            · simp [h1, h2]; omega
        refine hC.loc (ls2 := [(0, .ref 0), (1, .int (nI (s + 1)))]) rfl ?_
        rw [← e] at ih
        exact ih
  exact hC.loc rfl (loop 0 (by omega))
