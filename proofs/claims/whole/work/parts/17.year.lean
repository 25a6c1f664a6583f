/-! StripFlag$Year -/
theorem lcmp0 {p : Nat} (hp : p < 2 ^ 63) : lg_cmp (lN p) (lN 0) = 0 ↔ p = 0 := by
  have h1 := @pk_lLT 0 p (by decide) hp
  have h2 := @pk_lLT p 0 hp (by decide)
  have h3 := @pk_lEQ p 0 hp (by decide)
  unfold lg_cmp
  constructor
  · intro h
    apply Classical.byContradiction
    intro hne
    have : lN 0 < lN p := h1.mpr (by omega)
    simp [this] at h
  · intro h
    subst h
    have : ¬ lN 0 < lN 0 := by rw [h1]; omega
    simp
abbrev yrW (a q : Nat) (P : PlanT) : List va_E := [.inr (7, [.int (nI a), .int (nI q)]), .inr (4, [.ref 2, .ref 3, .ref 4, .ref 5, .ref 6, .ref 7, .ref 8, .ref 9, .int (nI (P.2 0)), .int (nI (P.2 1)), .int (nI (P.2 2)), .int (nI (P.2 3))]), rowI 4 (P.1 0), rowI 8 (P.1 1), rowI 12 (P.1 2), rowI 12 (P.1 3), rowI 12 (P.1 4), rowI 12 (P.1 5), rowI 8 (P.1 6), rowI 8 (P.1 7)]
noncomputable def pfF (P : PlanT) (a q : Nat) : Nat → Nat → Nat → Nat → Nat
  | 0, stays, opn, part => if part = 0 ∨ (flyF (P.1 5) 12 (stays ||| opn)).testBit a = false then 0 else part
  | k + 1, stays, opn, part => if part = 0 ∨ (flyF (P.1 5) 12 (stays ||| opn)).testBit a = false then 0 else if (flyF (P.1 5) 12 stays).testBit a = true then part else if opn &&& 2 ^ (11 - k) = 0 then pfF P a q k stays opn part else pfF P a q k stays (andn opn (2 ^ (11 - k))) (part * q / 100) + pfF P a q k (stays ||| 2 ^ (11 - k)) (andn opn (2 ^ (11 - k))) (part - part * q / 100)
theorem pfF_eq (P : PlanT) (a q k stays opn part : Nat) (hk : k ≤ 12) : pfF P a q k stays opn part = if part = 0 ∨ (flyF (P.1 5) 12 (stays ||| opn)).testBit a = false then 0 else if k = 0 ∨ (flyF (P.1 5) 12 stays).testBit a = true then part else if opn &&& 2 ^ (12 - k) = 0 then pfF P a q (k - 1) stays opn part else pfF P a q (k - 1) stays (andn opn (2 ^ (12 - k))) (part * q / 100) + pfF P a q (k - 1) (stays ||| 2 ^ (12 - k)) (andn opn (2 ^ (12 - k))) (part - part * q / 100) := by
  cases k with
  | zero => simp [pfF]
  | succ k =>
    rw [pfF, show 12 - (k + 1) = 11 - k by omega, show k + 1 - 1 = k from rfl]
    simp
set_option maxHeartbeats 4000000 in
set_option maxRecDepth 20000 in
theorem ct_X7_begin (l : Launch) (P : PlanT) (x y a q : Nat) : Ct l 0 yX7_begin cX7_begin 3 none [.ref 0, .int (nI a), .int (nI q)] ([.inr (7, [.int (nI x), .int (nI y)])]) (RU [.inr (7, [.int (nI a), .int (nI q)])]) := by
  refine Ct.of (by decide) (Nat.le_of_ble_eq_true rfl) (fun K hC hR => ?_)
  show K 0 [(0, .ref 0), (1, .int (nI a)), (2, .int (nI q))] [] _
  refine hC.aload_n dX7_begin_0 rfl ?_
  refine hC.iload_n dX7_begin_1 rfl ?_
  refine hC.putI dX7_begin_2 lpX7_9 rfl rfl rfl (Nat.le_of_ble_eq_true rfl) ?_
  refine hC.aload_n dX7_begin_5 rfl ?_
  refine hC.iload_n dX7_begin_6 rfl ?_
  refine hC.putI dX7_begin_7 lpX7_15 rfl rfl rfl (Nat.le_of_ble_eq_true rfl) ?_
  exact hR.return_ dX7_begin_10 ⟨rfl, rfl⟩
theorem Cl.rdSL {l : Launch} {cc : ByteArray} {own : String} {nL : Nat} {R : Room} {K : AK} {pc : Nat} {ls : AL} {st stk : List Value} {hs hc : List va_E} {y : MethodName} {bytes : ByteArray} {maxL n d idx : Nat} {ret : Option FieldType} {As : List Value} {v : Int64} (h : Cl l cc own nL R K) (is : List Nat) (hd : decode cc pc = .ok (.invokestatic idx, 3)) (hlk : Cond.methodLink own idx y ∈ GW) (hm : MK y bytes maxL ret n) (hst : Cond.static y ∈ GW)
    (hct : Ct l d y bytes maxL ret As hc (RV (.long v) hc)) (hR : rmOk d maxL R) (hlen : As.length = n) (hstk : stk = (As.map (tv (rn is))).reverse ++ st) (hcat : (st.map fun v => v.category).sum ≤ 8) (hcut : Cut is hc hs)
    (k : K (pc + 3) ls (.long v :: st) hs) : K pc ls stk hs := by
  refine h.callS is hd hlk hm hst hct hR hlen hstk hcat hcut (fun r hc2 hp hl => ?_)
  obtain ⟨rfl, rfl⟩ := hp
  rw [hcut.same]
  exact k
theorem goes_le {part q : Nat} (hq : q ≤ 100) : part * q / 100 ≤ part := by
  apply Nat.div_le_of_le_mul
  rw [Nat.mul_comm 100]
  exact Nat.mul_le_mul_left _ hq
set_option maxHeartbeats 8000000 in
set_option maxRecDepth 20000 in
theorem ct_X7_partFlying (l : Launch) (P : PlanT) (hP : PlanOK P) (a q : Nat) (ha : a < 31) (hq : q ≤ 100) : ∀ (k s stays opn part : Nat), s + k = 12 → stays < 4096 → opn < 4096 → part ≤ 1000000000 → Ct l (4 + k) yX7_partFlying cX7_partFlying 10 (some .long) [.ref 0, .ref 1, .int (nI stays), .int (nI opn), .int (nI s), .long (lN part)] (yrW a q P) (RV (.long (lN (pfF P a q k stays opn part))) (yrW a q P)) := by
  intro k
  induction k using Nat.strongRecOn with
  | ind k ih =>
    intro s stays opn part hs h1 h2 h3
    rw [pfF_eq P a q k stays opn part (by omega)]
    have hgo := goes_le (part := part) hq
    have hrm : rmOk 2 5 (rmD (4 + k)) := ⟨by show 3 ≤ 4 + k; omega, by show 8 + (5 + 11) + 40 * 2 ≤ 40 * (4 + k); omega⟩
    have hrh : rmOk 0 2 (rmD (4 + k)) := ⟨by show 1 ≤ 4 + k; omega, by show 8 + (2 + 11) + 40 * 0 ≤ 40 * (4 + k); omega⟩
    have hrr : 0 < k → rmOk (4 + (k - 1)) 10 (rmD (4 + k)) := fun hk => ⟨by show 4 + (k - 1) + 1 ≤ 4 + k; omega, by show 8 + (10 + 11) + 40 * (4 + (k - 1)) ≤ 40 * (4 + k); omega⟩
    refine Ct.of (by decide) (Nat.le_of_ble_eq_true rfl) (fun K hC hR => ?_)
    show K 0 [(0, .ref 0), (1, .ref 1), (2, .int (nI stays)), (3, .int (nI opn)), (4, .int (nI s)), (5, .long (lN part))] [] _
    refine hC.lload dX7_partFlying_0 rfl ?_
    refine hC.lconst dX7_partFlying_2 (v := lN 0) rfl ?_
    refine hC.lcmp dX7_partFlying_3 ?_
    refine hC.if_eq dX7_partFlying_4 (tgt := 24) rfl (fun c1 => ?_) (fun c1 => ?_)
    · have c1 := (lcmp0 (by omega)).mp c1
      refine hC.lconst dX7_partFlying_24 (v := lN 0) rfl ?_
      exact hR.lreturn dX7_partFlying_25 ⟨by rw [if_pos (Or.inl c1)], rfl⟩
    · have c1 : ¬ part = 0 := fun z => c1 ((lcmp0 (by omega)).mpr z)
      refine hC.aload_n dX7_partFlying_7 rfl ?_
      refine hC.iload_n dX7_partFlying_8 rfl ?_
      refine hC.iload_n dX7_partFlying_9 rfl ?_
      refine hC.ior dX7_partFlying_10 ?_
      rw [nI_or]
      refine hC.rdV [1, 2, 3, 4, 5, 6, 7, 8, 9] dX7_partFlying_11 lmX7_18 mkX4_flying svX4_flying (ct_X4_flying l P hP (stays ||| opn) (or_b 12 h1 h2)) hrm rfl rfl (Nat.le_of_ble_eq_true rfl) ⟨by decide, rfl⟩ rfl rfl ?_
      refine hC.aload_n dX7_partFlying_14 rfl ?_
      refine hC.getfield dX7_partFlying_15 lfX7_9 rfl rfl ?_
      refine hC.rdSN [] dX7_partFlying_18 lnX7_24 mkX8_has sxX8_has (ct_X8_has l (flyF (P.1 5) 12 (stays ||| opn)) a (Nat.lt_trans (flyF_lt _ _ _) (by decide)) (by omega)) hrh rfl rfl (Nat.le_of_ble_eq_true rfl) ⟨by decide, rfl⟩ ?_
      refine hC.bnz dX7_partFlying_21 (tgt := 26) rfl (fun c2 => ?_) (fun c2 => ?_)
      · have fin : part = 0 ∨ (flyF (P.1 5) 12 (stays ||| opn)).testBit a = false → False := fun z => z.elim c1 (fun z => by rw [c2] at z; cases z)
        rw [if_neg fin] at hR
        have part48 : (k = 0 ∨ (flyF (P.1 5) 12 stays).testBit a = true) → K 48 [(0, .ref 0), (1, .ref 1), (2, .int (nI stays)), (3, .int (nI opn)), (4, .int (nI s)), (5, .long (lN part))] [] (yrW a q P) := by
          intro hh
          rw [if_pos hh] at hR
          refine hC.lload dX7_partFlying_48 rfl ?_
          exact hR.lreturn dX7_partFlying_50 ⟨rfl, rfl⟩
        refine hC.iload dX7_partFlying_26 rfl ?_
        refine hC.bipush dX7_partFlying_28 (v := nI 12) rfl ?_
        refine hC.n_ge (by omega) (by omega) dX7_partFlying_30 (tgt := 48) rfl (fun c3 => ?_) (fun c3 => ?_)
        · exact part48 (Or.inl (by omega))
        · refine hC.aload_n dX7_partFlying_33 rfl ?_
          refine hC.iload_n dX7_partFlying_34 rfl ?_
          refine hC.rdV [1, 2, 3, 4, 5, 6, 7, 8, 9] dX7_partFlying_35 lmX7_18 mkX4_flying svX4_flying (ct_X4_flying l P hP stays h1) hrm rfl rfl (Nat.le_of_ble_eq_true rfl) ⟨by decide, rfl⟩ rfl rfl ?_
          refine hC.aload_n dX7_partFlying_38 rfl ?_
          refine hC.getfield dX7_partFlying_39 lfX7_9 rfl rfl ?_
          refine hC.rdSN [] dX7_partFlying_42 lnX7_24 mkX8_has sxX8_has (ct_X8_has l (flyF (P.1 5) 12 stays) a (Nat.lt_trans (flyF_lt _ _ _) (by decide)) (by omega)) hrh rfl rfl (Nat.le_of_ble_eq_true rfl) ⟨by decide, rfl⟩ ?_
          refine hC.bz dX7_partFlying_45 (tgt := 51) rfl (fun c4 => ?_) (fun c4 => ?_)
          · have hk : 0 < k := by omega
            have hk12 : 12 - k = s := by omega
            have ihk := fun st op pt => ih (k - 1) (by omega) (s + 1) st op pt (by omega)
            rw [if_neg (show ¬ (k = 0 ∨ (flyF (P.1 5) 12 stays).testBit a = true) from fun z => z.elim (by omega) (fun z => by rw [c4] at z; cases z)), hk12] at hR
            have h2s : 2 ^ s < 4096 := by
              have : s ≤ 11 := by omega
              exact Nat.pow_lt_pow_right (a := 2) (m := s) (n := 12) (by decide) (by omega)
            refine hC.iconst dX7_partFlying_51 (v := nI 1) rfl ?_
            refine hC.iload dX7_partFlying_52 rfl ?_
            refine hC.ishl dX7_partFlying_54 ?_
            rw [nI_shl (by omega), Nat.one_mul]
            refine hC.istore dX7_partFlying_55 (by decide) ?_
            refine hC.iload_n dX7_partFlying_57 rfl ?_
            refine hC.iload dX7_partFlying_58 rfl ?_
            refine hC.iand dX7_partFlying_60 ?_
            rw [nI_and]
            refine hC.nnz (and_b (by omega)) dX7_partFlying_61 (tgt := 78) rfl (fun c5 => ?_) (fun c5 => ?_)
            · refine hC.lload dX7_partFlying_78 rfl ?_
              refine hC.aload_n dX7_partFlying_80 rfl ?_
              refine hC.getfield dX7_partFlying_81 lfX7_15 rfl rfl ?_
              refine hC.i2l dX7_partFlying_84 ?_
              rw [nI_l (by omega)]
              refine hC.lmul dX7_partFlying_85 ?_
              rw [lN_mul]
              refine hC.ldc2_w (v := lN 100) dX7_partFlying_86 lcX7_32 ?_
              refine hC.ldiv dX7_partFlying_89 (by decide) ?_
              rw [pk_lDiv (show part * q < 2 ^ 63 by have := Nat.mul_le_mul h3 hq; omega) (by decide) (by decide)]
              refine hC.lstore dX7_partFlying_90 (by decide) ?_
              refine hC.aload_n dX7_partFlying_92 rfl ?_
              refine hC.aload_n dX7_partFlying_93 rfl ?_
              refine hC.iload_n dX7_partFlying_94 rfl ?_
              refine hC.iload_n dX7_partFlying_95 rfl ?_
              refine hC.iload dX7_partFlying_96 rfl ?_
              refine hC.iconst dX7_partFlying_98 (v := (-1)) rfl ?_
              refine hC.ixor dX7_partFlying_99 ?_
              refine hC.iand dX7_partFlying_100 ?_
              rw [nI_andn]
              refine hC.iload dX7_partFlying_101 rfl ?_
              refine hC.iconst dX7_partFlying_103 (v := nI 1) rfl ?_
              refine hC.iadd dX7_partFlying_104 ?_
              rw [nI_add]
              refine hC.lload dX7_partFlying_105 rfl ?_
              rw [if_neg c5] at hR
              refine hC.rdSL [0, 1, 2, 3, 4, 5, 6, 7, 8, 9] dX7_partFlying_107 lmX7_28 mkX7_partFlying sxX7_partFlying (ihk stays (andn opn (2 ^ s)) (part * q / 100) h1 (andn_b h2) (by omega)) (hrr hk) rfl rfl (Nat.le_of_ble_eq_true rfl) ⟨by decide, rfl⟩ ?_
              refine hC.aload_n dX7_partFlying_110 rfl ?_
              refine hC.aload_n dX7_partFlying_111 rfl ?_
              refine hC.iload_n dX7_partFlying_112 rfl ?_
              refine hC.iload dX7_partFlying_113 rfl ?_
              refine hC.ior dX7_partFlying_115 ?_
              rw [nI_or]
              refine hC.iload_n dX7_partFlying_116 rfl ?_
              refine hC.iload dX7_partFlying_117 rfl ?_
              refine hC.iconst dX7_partFlying_119 (v := (-1)) rfl ?_
              refine hC.ixor dX7_partFlying_120 ?_
              refine hC.iand dX7_partFlying_121 ?_
              rw [nI_andn]
              refine hC.iload dX7_partFlying_122 rfl ?_
              refine hC.iconst dX7_partFlying_124 (v := nI 1) rfl ?_
              refine hC.iadd dX7_partFlying_125 ?_
              rw [nI_add]
              refine hC.lload dX7_partFlying_126 rfl ?_
              refine hC.lload dX7_partFlying_128 rfl ?_
              refine hC.lsub dX7_partFlying_130 ?_
              rw [lN_sub hgo]
              refine hC.rdSL [0, 1, 2, 3, 4, 5, 6, 7, 8, 9] dX7_partFlying_131 lmX7_28 mkX7_partFlying sxX7_partFlying (ihk (stays ||| 2 ^ s) (andn opn (2 ^ s)) (part - part * q / 100) (or_b 12 h1 h2s) (andn_b h2) (by omega)) (hrr hk) rfl rfl (Nat.le_of_ble_eq_true rfl) ⟨by decide, rfl⟩ ?_
              refine hC.ladd dX7_partFlying_134 ?_
              rw [lN_add]
              exact hR.lreturn dX7_partFlying_135 ⟨rfl, rfl⟩
            · rw [if_pos c5] at hR
              refine hC.aload_n dX7_partFlying_64 rfl ?_
              refine hC.aload_n dX7_partFlying_65 rfl ?_
              refine hC.iload_n dX7_partFlying_66 rfl ?_
              refine hC.iload_n dX7_partFlying_67 rfl ?_
              refine hC.iload dX7_partFlying_68 rfl ?_
              refine hC.iconst dX7_partFlying_70 (v := nI 1) rfl ?_
              refine hC.iadd dX7_partFlying_71 ?_
              rw [nI_add]
              refine hC.lload dX7_partFlying_72 rfl ?_
              refine hC.rdSL [0, 1, 2, 3, 4, 5, 6, 7, 8, 9] dX7_partFlying_74 lmX7_28 mkX7_partFlying sxX7_partFlying (ihk stays opn part h1 h2 h3) (hrr hk) rfl rfl (Nat.le_of_ble_eq_true rfl) ⟨by decide, rfl⟩ ?_
              exact hR.lreturn dX7_partFlying_77 ⟨rfl, rfl⟩
          · exact part48 (Or.inr c4)
      · refine hC.lconst dX7_partFlying_24 (v := lN 0) rfl ?_
        exact hR.lreturn dX7_partFlying_25 ⟨by rw [if_pos (Or.inr c2)], rfl⟩
set_option maxHeartbeats 4000000 in
set_option maxRecDepth 20000 in
theorem ct_X7_ofBillion (l : Launch) (P : PlanT) (hP : PlanOK P) (a q m h : Nat) (ha : a < 31) (hq : q ≤ 100) (hm : m < 4096) : Ct l 17 yX7_ofBillion cX7_ofBillion 4 (some .int) [.ref 0, .ref 1, .int (nI m), .int (nI h)] (yrW a q P) (RV (.int (nI (pfF P a q 12 (m &&& h) (andn m h) 1000000000))) (yrW a q P)) := by
  refine Ct.of (by decide) (Nat.le_of_ble_eq_true rfl) (fun K hC hR => ?_)
  show K 0 [(0, .ref 0), (1, .ref 1), (2, .int (nI m)), (3, .int (nI h))] [] _
  refine hC.aload_n dX7_ofBillion_0 rfl ?_
  refine hC.aload_n dX7_ofBillion_1 rfl ?_
  refine hC.iload_n dX7_ofBillion_2 rfl ?_
  refine hC.iload_n dX7_ofBillion_3 rfl ?_
  refine hC.iand dX7_ofBillion_4 ?_
  rw [nI_and]
  refine hC.iload_n dX7_ofBillion_5 rfl ?_
  refine hC.iload_n dX7_ofBillion_6 rfl ?_
  refine hC.iconst dX7_ofBillion_7 (v := (-1)) rfl ?_
  refine hC.ixor dX7_ofBillion_8 ?_
  refine hC.iand dX7_ofBillion_9 ?_
  rw [nI_andn]
  refine hC.iconst dX7_ofBillion_10 (v := nI 0) rfl ?_
  refine hC.ldc2_w (v := lN 1000000000) dX7_ofBillion_11 lcX7_34 ?_
  refine hC.rdSL [0, 1, 2, 3, 4, 5, 6, 7, 8, 9] dX7_ofBillion_14 lmX7_28 mkX7_partFlying sxX7_partFlying (ct_X7_partFlying l P hP a q ha hq 12 0 (m &&& h) (andn m h) 1000000000 (by omega) (and_b hm) (andn_b hm) (Nat.le_refl _)) ⟨Nat.le_of_ble_eq_true rfl, Nat.le_of_ble_eq_true rfl⟩ rfl rfl (Nat.le_of_ble_eq_true rfl) ⟨by decide, rfl⟩ ?_
  refine hC.l2i dX7_ofBillion_17 ?_
  rw [lN_i]
  exact hR.ireturn dX7_ofBillion_18 ⟨rfl, rfl⟩
