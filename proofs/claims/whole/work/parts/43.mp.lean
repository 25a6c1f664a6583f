/-! StripFlagModel: the reader's small methods -/
abbrev mpW (R : Nat → Nat → Nat) (F : Nat → Nat) (L : Nat → Int64) (n i w q b : Nat) : List va_E := [.inr (9, [.ref 1, .int (nI n), .int (nI (F 1)), .int (nI i), .int (nI w), .int (nI q), .int (nI b), .ref 2, .ref 3, .ref 4, .ref 5, .ref 6, .ref 7, .int (nI (F 6)), .int (nI (F 7)), .int (nI (F 8)), .int (nI (F 9)), .ref 8, .ref 9, .ref 10, .ref 11, .ref 12, .ref 13, .ref 14, .int (nI (F 10)), .int (nI (F 11)), .ref 15, .ref 16, .ref 17, .ref 18, .int (nI (F 12)), .ref 19, .ref 20, .ref 21, .ref 22, .int (nI (F 13)), .int (nI (F 14)), .ref 23, .ref 24, .ref 25]),
  rowI 500 (R 1), rowI 4 (R 2), rowI 4 (R 3), rowI 8 (R 4), rowI 20 (R 5), rowI 20 (R 6), rowI 20 (R 7), rowI 4 (R 8), rowI 8 (R 9), rowI 8 (R 10), rowI 20 (R 11), rowI 20 (R 12), rowI 20 (R 13), rowI 20 (R 14), .inl (2, 4096, .inr (.inl L)), rowI 5 (R 16), rowI 5 (R 17), rowI 5 (R 18), rowI 8 (R 19), rowI 8 (R 20), rowI 8 (R 21), rowI 8 (R 22), rowI 30 (R 23), rowI 30 (R 24), rowI 46 (R 25)]
set_option maxHeartbeats 4000000 in
set_option maxRecDepth 20000 in
theorem ct_X9_fails (l : Launch) (R : Nat → Nat → Nat) (F : Nat → Nat) (L : Nat → Int64) (n i w q b k p : Nat) (hw : w < 2 ^ 31) : Ct l 0 yX9_fails cX9_fails 3 none [.ref 0, .int (nI k), .int (nI p)] (mpW R F L n i w q b) (RU (mpW R F L n i (if w = 0 then k else w) (if w = 0 then p else q) b)) := by
  refine Ct.of (by decide) (Nat.le_of_ble_eq_true rfl) (fun K hC hR => ?_)
  show K 0 [(0, .ref 0), (1, .int (nI k)), (2, .int (nI p))] [] _
  by_cases h0 : w = 0
  · rw [if_pos h0, if_pos h0] at hR
    refine hC.aload_n dX9_fails_0 rfl ?_
    refine hC.aload_n dX9_fails_1 rfl ?_
    refine hC.getfield dX9_fails_2 lfX9_103 rfl rfl ?_
    refine hC.nnz (by omega) dX9_fails_5 (tgt := 12) rfl (fun c => ?_) (fun c => ?_)
    · exact absurd h0 c
    · refine hC.iload_n dX9_fails_8 rfl ?_
      refine hC.goto dX9_fails_9 (tgt := 16) rfl ?_
      refine hC.putI dX9_fails_16 lpX9_106 rfl rfl rfl (Nat.le_of_ble_eq_true rfl) ?_
      refine hC.aload_n dX9_fails_19 rfl ?_
      refine hC.aload_n dX9_fails_20 rfl ?_
      refine hC.getfield dX9_fails_21 lfX9_103 rfl rfl ?_
      refine hC.nnz (by omega) dX9_fails_24 (tgt := 31) rfl (fun c2 => ?_) (fun c2 => ?_)
      · exact absurd h0 c2
      · refine hC.iload_n dX9_fails_27 rfl ?_
        refine hC.goto dX9_fails_28 (tgt := 35) rfl ?_
        refine hC.putI dX9_fails_35 lpX9_103 rfl rfl rfl (Nat.le_of_ble_eq_true rfl) ?_
        exact hR.return_ dX9_fails_38 ⟨rfl, rfl⟩
  · rw [if_neg h0, if_neg h0] at hR
    refine hC.aload_n dX9_fails_0 rfl ?_
    refine hC.aload_n dX9_fails_1 rfl ?_
    refine hC.getfield dX9_fails_2 lfX9_103 rfl rfl ?_
    refine hC.nnz (by omega) dX9_fails_5 (tgt := 12) rfl (fun c => ?_) (fun c => ?_)
    · refine hC.aload_n dX9_fails_12 rfl ?_
      refine hC.getfield dX9_fails_13 lfX9_106 rfl rfl ?_
      refine hC.putI dX9_fails_16 lpX9_106 rfl rfl rfl (Nat.le_of_ble_eq_true rfl) ?_
      refine hC.aload_n dX9_fails_19 rfl ?_
      refine hC.aload_n dX9_fails_20 rfl ?_
      refine hC.getfield dX9_fails_21 lfX9_103 rfl rfl ?_
      refine hC.nnz (by omega) dX9_fails_24 (tgt := 31) rfl (fun c2 => ?_) (fun c2 => ?_)
      · refine hC.aload_n dX9_fails_31 rfl ?_
        refine hC.getfield dX9_fails_32 lfX9_103 rfl rfl ?_
        refine hC.putI dX9_fails_35 lpX9_103 rfl rfl rfl (Nat.le_of_ble_eq_true rfl) ?_
        exact hR.return_ dX9_fails_38 ⟨rfl, rfl⟩
      · exact absurd c2 h0
    · exact absurd c h0
set_option maxHeartbeats 4000000 in
set_option maxRecDepth 20000 in
theorem ct_X9_here (l : Launch) (R : Nat → Nat → Nat) (F : Nat → Nat) (L : Nat → Int64) (n i w q b : Nat) (hn : n ≤ 500) (hi : i ≤ n) (ht : ∀ j, R 1 j < 256) : Ct l 0 yX9_here cX9_here 1 (some .int) [.ref 0] (mpW R F L n i w q b) (RV (.int (nI (if sc (spB (R 1)) n i < n then R 1 (sc (spB (R 1)) n i) else 0))) (mpW R F L n (sc (spB (R 1)) n i) w q b)) := by
  refine Ct.of (by decide) (Nat.le_of_ble_eq_true rfl) (fun K hC hR => ?_)
  show K 0 [(0, .ref 0)] [] _
  have he := sc_end (p := spB (R 1)) i hi
  have hle := sc_le (p := spB (R 1)) hi
  generalize heg : sc (spB (R 1)) n i = e at he hle hR
  have k38 : K 38 [(0, .ref 0)] [] (mpW R F L n e w q b) := by
    refine hC.aload_n dX9_here_38 rfl ?_
    refine hC.getfield dX9_here_39 lfX9_109 rfl rfl ?_
    refine hC.aload_n dX9_here_42 rfl ?_
    refine hC.getfield dX9_here_43 lfX9_97 rfl rfl ?_
    refine hC.n_ge (by omega) (by omega) dX9_here_46 (tgt := 61) rfl (fun c => ?_) (fun c => ?_)
    · rw [if_neg (by omega)] at hR
      refine hC.iconst dX9_here_61 (v := nI 0) rfl ?_
      exact hR.ireturn dX9_here_62 ⟨rfl, rfl⟩
    · have hte := ht e
      rw [if_pos c] at hR
      refine hC.aload_n dX9_here_49 rfl ?_
      refine hC.getfield dX9_here_50 lfX9_7 rfl rfl ?_
      refine hC.aload_n dX9_here_53 rfl ?_
      refine hC.getfield dX9_here_54 lfX9_109 rfl rfl ?_
      refine hC.iaN dX9_here_57 rfl ⟨by omega, by decide⟩ ?_
      refine hC.goto dX9_here_58 (tgt := 62) rfl ?_
      exact hR.ireturn dX9_here_62 ⟨rfl, rfl⟩
  have k0 : K 0 [(0, .ref 0)] [] (mpW R F L n e w q b) := by
    refine hC.aload_n dX9_here_0 rfl ?_
    refine hC.getfield dX9_here_1 lfX9_109 rfl rfl ?_
    refine hC.aload_n dX9_here_4 rfl ?_
    refine hC.getfield dX9_here_5 lfX9_97 rfl rfl ?_
    refine hC.n_ge (by omega) (by omega) dX9_here_8 (tgt := 38) rfl (fun c => ?_) (fun c => ?_)
    · exact hC.loc rfl k38
    · have h2 := (he.resolve_left (by omega)).2
      have h3 : R 1 e ≠ 32 := of_decide_eq_false h2
      have hte := ht e
      refine hC.aload_n dX9_here_11 rfl ?_
      refine hC.getfield dX9_here_12 lfX9_7 rfl rfl ?_
      refine hC.aload_n dX9_here_15 rfl ?_
      refine hC.getfield dX9_here_16 lfX9_109 rfl rfl ?_
      refine hC.iaN dX9_here_19 rfl ⟨by omega, by decide⟩ ?_
      refine hC.bipush dX9_here_20 (v := nI 32) rfl ?_
      refine hC.n_ne (by omega) (by omega) dX9_here_22 (tgt := 38) rfl (fun c2 => ?_) (fun c2 => ?_)
      · exact hC.loc rfl k38
      · exact absurd c2 h3
  refine hC.loc rfl (sc_loop (p := spB (R 1)) (n := n) (fun i => K 0 [(0, .ref 0)] [] (mpW R F L n i w q b)) (fun j hj hp ih => ?_) i hi (by rw [heg]; exact k0))
  have h3 : R 1 j = 32 := of_decide_eq_true hp
  refine hC.aload_n dX9_here_0 rfl ?_
  refine hC.getfield dX9_here_1 lfX9_109 rfl rfl ?_
  refine hC.aload_n dX9_here_4 rfl ?_
  refine hC.getfield dX9_here_5 lfX9_97 rfl rfl ?_
  refine hC.n_ge (by omega) (by omega) dX9_here_8 (tgt := 38) rfl (fun c => ?_) (fun c => ?_)
  · omega
  · refine hC.aload_n dX9_here_11 rfl ?_
    refine hC.getfield dX9_here_12 lfX9_7 rfl rfl ?_
    refine hC.aload_n dX9_here_15 rfl ?_
    refine hC.getfield dX9_here_16 lfX9_109 rfl rfl ?_
    refine hC.iaN dX9_here_19 rfl ⟨by omega, by decide⟩ ?_
    refine hC.bipush dX9_here_20 (v := nI 32) rfl ?_
    refine hC.n_ne (by omega) (by omega) dX9_here_22 (tgt := 38) rfl (fun c2 => ?_) (fun c2 => ?_)
    · exact absurd h3 c2
    · refine hC.aload_n dX9_here_25 rfl ?_
      refine hC.dup dX9_here_26 rfl ?_
      refine hC.getfield dX9_here_27 lfX9_109 rfl rfl ?_
      refine hC.iconst dX9_here_30 (v := nI 1) rfl ?_
      refine hC.iadd dX9_here_31 ?_
      rw [nI_add]
      refine hC.putI dX9_here_32 lpX9_109 rfl rfl rfl (Nat.le_of_ble_eq_true rfl) ?_
      refine hC.goto dX9_here_35 (tgt := 0) rfl ?_
      exact hC.loc rfl ih
set_option maxHeartbeats 4000000 in
set_option maxRecDepth 20000 in
theorem ct_X9_isEnd (l : Launch) (R : Nat → Nat → Nat) (F : Nat → Nat) (L : Nat → Int64) (n i w q b : Nat) (hn : n ≤ 500) (hi : i ≤ n) (ht : ∀ j, R 1 j < 256) : Ct l 1 yX9_isEnd cX9_isEnd 1 (some .boolean) [.ref 0] (mpW R F L n i w q b) (RV (.int (nI (decide (sc (spB (R 1)) n i = n)).toNat)) (mpW R F L n (sc (spB (R 1)) n i) w q b)) := by
  refine Ct.of (by decide) (Nat.le_of_ble_eq_true rfl) (fun K hC hR => ?_)
  show K 0 [(0, .ref 0)] [] _
  have hle := sc_le (p := spB (R 1)) hi
  refine hC.aload_n dX9_isEnd_0 rfl ?_
  refine hC.wrVs dX9_isEnd_1 lmX9_112 mkX9_here svX9_here (ct_X9_here l R F L n i w q b hn hi ht) ⟨Nat.le_of_ble_eq_true rfl, Nat.le_of_ble_eq_true rfl⟩ rfl rfl (Nat.le_of_ble_eq_true rfl) rfl rfl ?_
  generalize heg : sc (spB (R 1)) n i = e at hle hR ⊢
  refine hC.pop dX9_isEnd_4 rfl ?_
  refine hC.aload_n dX9_isEnd_5 rfl ?_
  refine hC.getfield dX9_isEnd_6 lfX9_109 rfl rfl ?_
  refine hC.aload_n dX9_isEnd_9 rfl ?_
  refine hC.getfield dX9_isEnd_10 lfX9_97 rfl rfl ?_
  refine hC.n_ne (by omega) (by omega) dX9_isEnd_13 (tgt := 20) rfl (fun c => ?_) (fun c => ?_)
  · rw [decide_eq_false c] at hR
    refine hC.iconst dX9_isEnd_20 (v := nI 0) rfl ?_
    exact hR.zreturn dX9_isEnd_21 (by first | decide | exact b01 _) ⟨rfl, rfl⟩
  · rw [decide_eq_true c] at hR
    refine hC.iconst dX9_isEnd_16 (v := nI 1) rfl ?_
    refine hC.goto dX9_isEnd_17 (tgt := 21) rfl ?_
    exact hR.zreturn dX9_isEnd_21 (by first | decide | exact b01 _) ⟨rfl, rfl⟩
theorem in_N {v a b : Nat} (hv : v < 2 ^ 31) (ha : a < 2 ^ 31) (hb : b < 2 ^ 31) : decide ((lN a).toInt ≤ (nI v).toInt64.toInt ∧ (nI v).toInt64.toInt ≤ (lN b).toInt) = decide (a ≤ v ∧ v ≤ b) := by
  rw [Int32.toInt_toInt64, lN_toInt ha, lN_toInt hb, nI_toInt hv]
  congr 1
  apply propext
  omega
set_option maxHeartbeats 4000000 in
set_option maxRecDepth 20000 in
theorem ct_X9_isLetter (l : Launch) (v : Nat) (hv : v < 256) : Ct l 1 yX9_isLetter cX9_isLetter 1 (some .boolean) [.int (nI v)] ([]) (RV (.int (nI (decide (97 ≤ v ∧ v ≤ 122)).toNat)) []) := by
  refine Ct.of (by decide) (Nat.le_of_ble_eq_true rfl) (fun K hC hR => ?_)
  show K 0 [(0, .int (nI v))] [] _
  refine hC.iload_n dX9_isLetter_0 rfl ?_
  refine hC.i2l dX9_isLetter_1 ?_
  refine hC.ldc2_w (v := lN 97) dX9_isLetter_2 lcX9_116 ?_
  refine hC.ldc2_w (v := lN 122) dX9_isLetter_5 lcX9_118 ?_
  refine hC.rdS [] dX9_isLetter_8 lmX9_92 mkX9_in sxX9_in (ct_X9_in l (nI v).toInt64 (lN 97) (lN 122)) ⟨Nat.le_of_ble_eq_true rfl, Nat.le_of_ble_eq_true rfl⟩ rfl rfl (Nat.le_of_ble_eq_true rfl) ⟨by decide, rfl⟩ ?_
  rw [in_N (by omega) (by omega) (by omega)]
  exact hR.zreturn dX9_isLetter_11 (by first | decide | exact b01 _) ⟨rfl, rfl⟩
set_option maxHeartbeats 4000000 in
set_option maxRecDepth 20000 in
theorem ct_X9_isFigure (l : Launch) (v : Nat) (hv : v < 256) : Ct l 1 yX9_isFigure cX9_isFigure 1 (some .boolean) [.int (nI v)] ([]) (RV (.int (nI (decide (48 ≤ v ∧ v ≤ 57)).toNat)) []) := by
  refine Ct.of (by decide) (Nat.le_of_ble_eq_true rfl) (fun K hC hR => ?_)
  show K 0 [(0, .int (nI v))] [] _
  refine hC.iload_n dX9_isFigure_0 rfl ?_
  refine hC.i2l dX9_isFigure_1 ?_
  refine hC.ldc2_w (v := lN 48) dX9_isFigure_2 lcX9_120 ?_
  refine hC.ldc2_w (v := lN 57) dX9_isFigure_5 lcX9_122 ?_
  refine hC.rdS [] dX9_isFigure_8 lmX9_92 mkX9_in sxX9_in (ct_X9_in l (nI v).toInt64 (lN 48) (lN 57)) ⟨Nat.le_of_ble_eq_true rfl, Nat.le_of_ble_eq_true rfl⟩ rfl rfl (Nat.le_of_ble_eq_true rfl) ⟨by decide, rfl⟩ ?_
  rw [in_N (by omega) (by omega) (by omega)]
  exact hR.zreturn dX9_isFigure_11 (by first | decide | exact b01 _) ⟨rfl, rfl⟩
/-- what must, number, readColours .. leave: the fault and the place, or what is behind -/
def muF (R : Nat → Nat → Nat) (F : Nat → Nat) (L : Nat → Int64) (n : Nat) (x : Except FaT Nat) (h2 : List va_E) : Prop := match x with
  | .error (k, p) => ∃ i2 b2, i2 ≤ n ∧ h2 = mpW R F L n i2 k p b2
  | .ok i2 => ∃ q2 b2, h2 = mpW R F L n i2 0 q2 b2
set_option maxHeartbeats 4000000 in
set_option maxRecDepth 20000 in
theorem ct_X9_must (l : Launch) (R : Nat → Nat → Nat) (F : Nat → Nat) (L : Nat → Int64) (n i q b : Nat) (hn : n ≤ 500) (hi : i ≤ n) (ht : ∀ j, R 1 j < 256) : Ct l 1 yX9_must cX9_must 2 none [.ref 0, .int (nI 59)] (mpW R F L n i 0 q b) (fun r h2 => r = none ∧ muF R F L n (enT (R 1) n i) h2) := by
  refine Ct.of (by decide) (Nat.le_of_ble_eq_true rfl) (fun K hC hR => ?_)
  show K 0 [(0, .ref 0), (1, .int (nI 59))] [] _
  have hle := sc_le (p := spB (R 1)) hi
  have hen : enT (R 1) n i = if sc (spB (R 1)) n i < n ∧ R 1 (sc (spB (R 1)) n i) = 59 then .ok (sc (spB (R 1)) n i + 1) else .error (1, sc (spB (R 1)) n i) := rfl
  rw [hen] at hR
  refine hC.aload_n dX9_must_0 rfl ?_
  refine hC.getfield dX9_must_1 lfX9_103 rfl rfl ?_
  refine hC.nnz (x := 0) (by omega) dX9_must_4 (tgt := 48) rfl (fun c => absurd rfl c) (fun _ => ?_)
  refine hC.aload_n dX9_must_7 rfl ?_
  refine hC.wrVs dX9_must_8 lmX9_112 mkX9_here svX9_here (ct_X9_here l R F L n i 0 q b hn hi ht) ⟨Nat.le_of_ble_eq_true rfl, Nat.le_of_ble_eq_true rfl⟩ rfl rfl (Nat.le_of_ble_eq_true rfl) rfl rfl ?_
  generalize heg : sc (spB (R 1)) n i = e at hle hR ⊢
  have hte := ht e
  have bad : ¬ (e < n ∧ R 1 e = 59) → K 39 [(0, .ref 0), (1, .int (nI 59))] [] (mpW R F L n e 0 q b) := by
    intro hb
    rw [if_neg hb] at hR
    refine hC.aload_n dX9_must_39 rfl ?_
    refine hC.iconst dX9_must_40 (v := nI 1) rfl ?_
    refine hC.aload_n dX9_must_41 rfl ?_
    refine hC.getfield dX9_must_42 lfX9_109 rfl rfl ?_
    refine hC.wuVs dX9_must_45 lmX9_124 mkX9_fails svX9_fails (ct_X9_fails l R F L n e 0 q b 1 e (by omega)) ⟨Nat.le_of_ble_eq_true rfl, Nat.le_of_ble_eq_true rfl⟩ rfl rfl (Nat.le_of_ble_eq_true rfl) rfl rfl ?_
    exact hR.return_ dX9_must_48 ⟨rfl, e, b, hle, rfl⟩
  have hv : (if e < n then R 1 e else 0) < 256 := by split <;> omega
  have hvv : (if e < n then R 1 e else 0) = 59 ↔ e < n ∧ R 1 e = 59 := by split <;> omega
  generalize (if e < n then R 1 e else 0) = v at hv hvv ⊢
  refine hC.iload_n dX9_must_11 rfl ?_
  refine hC.n_ne (by omega) (by omega) dX9_must_12 (tgt := 39) rfl (fun c => ?_) (fun c => ?_)
  · exact hC.loc rfl (bad (fun z => c (hvv.mpr z)))
  · have c1 := hvv.mp c
    rw [if_pos c1] at hR
    refine hC.aload_n dX9_must_15 rfl ?_
    refine hC.getfield dX9_must_16 lfX9_109 rfl rfl ?_
    refine hC.aload_n dX9_must_19 rfl ?_
    refine hC.getfield dX9_must_20 lfX9_97 rfl rfl ?_
    refine hC.n_ge (by omega) (by omega) dX9_must_23 (tgt := 39) rfl (fun c2 => ?_) (fun c2 => ?_)
    · omega
    · refine hC.aload_n dX9_must_26 rfl ?_
      refine hC.dup dX9_must_27 rfl ?_
      refine hC.getfield dX9_must_28 lfX9_109 rfl rfl ?_
      refine hC.iconst dX9_must_31 (v := nI 1) rfl ?_
      refine hC.iadd dX9_must_32 ?_
      rw [nI_add]
      refine hC.putI dX9_must_33 lpX9_109 rfl rfl rfl (Nat.le_of_ble_eq_true rfl) ?_
      refine hC.goto dX9_must_36 (tgt := 48) rfl ?_
      exact hR.return_ dX9_must_48 ⟨rfl, q, b, rfl⟩
theorem in_H {v lo hx : Nat} (hv : v < 2 ^ 31) (ha : lo < 2 ^ 31) (hb : hx < 2 ^ 30) : decide ((nI lo).toInt64.toInt ≤ (nI v).toInt64.toInt ∧ (nI v).toInt64.toInt ≤ (nI hx - nI 1).toInt64.toInt) = decide (lo ≤ v ∧ v < hx) := by
  have h1 := pk_sub_toInt hb (show 1 < 2 ^ 30 by decide)
  rw [Int32.toInt_toInt64, Int32.toInt_toInt64, Int32.toInt_toInt64, h1, nI_toInt hv, nI_toInt ha]
  congr 1
  apply propext
  omega
def nuP (R : Nat → Nat → Nat) (F : Nat → Nat) (L : Nat → Int64) (n : Nat) (x : Except FaT (Nat × Nat × Nat)) (r : Option Value) (h2 : List va_E) : Prop := match x with
  | .error (k, p) => ∃ v i2 b2, v < 131072 ∧ i2 ≤ n ∧ k ≠ 0 ∧ k < 10 ∧ r = some (.int (nI v)) ∧ h2 = mpW R F L n i2 k p b2
  | .ok (a, jb, e) => a < 131072 ∧ e ≤ n ∧ r = some (.int (nI a)) ∧ ∃ q2, h2 = mpW R F L n e 0 q2 jb
set_option maxHeartbeats 4000000 in
set_option maxRecDepth 20000 in
theorem ct_X9_number0 (l : Launch) (R : Nat → Nat → Nat) (F : Nat → Nat) (L : Nat → Int64) (n i w q b : Nat) (hw : w ≠ 0) (hw2 : w < 10) (x y : Int32) : Ct l 0 yX9_number cX9_number 4 (some .int) [.ref 0, .int x, .int y] (mpW R F L n i w q b) (RV (.int (nI 0)) (mpW R F L n i w q b)) := by
  refine Ct.of (by decide) (Nat.le_of_ble_eq_true rfl) (fun K hC hR => ?_)
  show K 0 [(0, .ref 0), (1, .int x), (2, .int y)] [] _
  refine hC.aload_n dX9_number_0 rfl ?_
  refine hC.getfield dX9_number_1 lfX9_103 rfl rfl ?_
  refine hC.nz (by omega) dX9_number_4 (tgt := 9) rfl (fun c => ?_) (fun c => ?_)
  · exact absurd c hw
  · refine hC.iconst dX9_number_7 (v := nI 0) rfl ?_
    exact hR.ireturn dX9_number_8 ⟨rfl, rfl⟩
set_option maxHeartbeats 4000000 in
set_option maxRecDepth 20000 in
theorem ct_X9_number (l : Launch) (R : Nat → Nat → Nat) (F : Nat → Nat) (L : Nat → Int64) (n i q b lo hx : Nat) (hn : n ≤ 500) (hi : i ≤ n) (ht : ∀ j, R 1 j < 256) (hlo : lo < 1000) (hhx : hx < 1000) : Ct l 2 yX9_number cX9_number 4 (some .int) [.ref 0, .int (nI lo), .int (nI hx - nI 1)] (mpW R F L n i 0 q b) (nuP R F L n (nuT (R 1) n lo hx i)) := by
  refine Ct.of (by decide) (Nat.le_of_ble_eq_true rfl) (fun K hC hR => ?_)
  show K 0 [(0, .ref 0), (1, .int (nI lo)), (2, .int (nI hx - nI 1))] [] _
  have hle := sc_le (p := spB (R 1)) hi
  have hnu : nuT (R 1) n lo hx i = if sc (dgB (R 1)) n (sc (spB (R 1)) n i) = sc (spB (R 1)) n i then .error (1, sc (spB (R 1)) n i) else if 3 < sc (dgB (R 1)) n (sc (spB (R 1)) n i) - sc (spB (R 1)) n i ∨ ¬ (lo ≤ caK (R 1) (sc (spB (R 1)) n i) (sc (dgB (R 1)) n (sc (spB (R 1)) n i) - sc (spB (R 1)) n i) ∧ caK (R 1) (sc (spB (R 1)) n i) (sc (dgB (R 1)) n (sc (spB (R 1)) n i) - sc (spB (R 1)) n i) < hx) then .error (2, sc (spB (R 1)) n i) else .ok (caK (R 1) (sc (spB (R 1)) n i) (sc (dgB (R 1)) n (sc (spB (R 1)) n i) - sc (spB (R 1)) n i), sc (spB (R 1)) n i, sc (dgB (R 1)) n (sc (spB (R 1)) n i)) := rfl
  refine hC.aload_n dX9_number_0 rfl ?_
  refine hC.getfield dX9_number_1 lfX9_103 rfl rfl ?_
  refine hC.nz (x := 0) (by omega) dX9_number_4 (tgt := 9) rfl (fun _ => ?_) (fun c => absurd rfl c)
  refine hC.aload_n dX9_number_9 rfl ?_
  refine hC.wrVs dX9_number_10 lmX9_112 mkX9_here svX9_here (ct_X9_here l R F L n i 0 q b hn hi ht) ⟨Nat.le_of_ble_eq_true rfl, Nat.le_of_ble_eq_true rfl⟩ rfl rfl (Nat.le_of_ble_eq_true rfl) rfl rfl ?_
  generalize hjg : sc (spB (R 1)) n i = j at hle hnu ⊢
  have htj := ht j
  have hee := sc_end (p := dgB (R 1)) j hle
  have hge := sc_ge (dgB (R 1)) n j
  have hel := sc_le (p := dgB (R 1)) hle
  have bad : ¬ (j < n ∧ dgB (R 1) j = true) → K 30 [(0, .ref 0), (1, .int (nI lo)), (2, .int (nI hx - nI 1))] [] (mpW R F L n j 0 q b) := by
    intro hb
    have hej : sc (dgB (R 1)) n j = j := by
      by_cases hjn : j < n
      · exact sc_f (by
          cases hd : dgB (R 1) j
          · rfl
          · exact absurd ⟨hjn, hd⟩ hb)
      · have : j = n := by omega
        rw [this]; exact sc_n _ _
    rw [if_pos hej] at hnu
    rw [hnu] at hR
    refine hC.aload_n dX9_number_30 rfl ?_
    refine hC.iconst dX9_number_31 (v := nI 1) rfl ?_
    refine hC.aload_n dX9_number_32 rfl ?_
    refine hC.getfield dX9_number_33 lfX9_109 rfl rfl ?_
    refine hC.wuVs dX9_number_36 lmX9_124 mkX9_fails svX9_fails (ct_X9_fails l R F L n j 0 q b 1 j (by omega)) ⟨Nat.le_of_ble_eq_true rfl, Nat.le_of_ble_eq_true rfl⟩ rfl rfl (Nat.le_of_ble_eq_true rfl) rfl rfl ?_
    refine hC.iconst dX9_number_39 (v := nI 0) rfl ?_
    exact hR.ireturn dX9_number_40 ⟨0, j, b, by decide, hle, by decide, by decide, rfl, rfl⟩
  have hv : (if j < n then R 1 j else 0) < 256 := by split <;> omega
  have hvv : decide (48 ≤ (if j < n then R 1 j else 0) ∧ (if j < n then R 1 j else 0) ≤ 57) = true ↔ j < n ∧ dgB (R 1) j = true := by
    rw [dgB, decide_eq_true_eq, decide_eq_true_eq]
    split <;> omega
  generalize hvg : (if j < n then R 1 j else 0) = v at hv hvv ⊢
  refine hC.rdS [] dX9_number_13 lmX9_128 mkX9_isFigure sxX9_isFigure (ct_X9_isFigure l v hv) ⟨Nat.le_of_ble_eq_true rfl, Nat.le_of_ble_eq_true rfl⟩ rfl rfl (Nat.le_of_ble_eq_true rfl) ⟨by decide, rfl⟩ ?_
  refine hC.bz dX9_number_16 (tgt := 30) rfl (fun c1 => ?_) (fun c1 => ?_)
  · exact hC.loc rfl (bad (fun z => by rw [hvv.mpr z] at c1; exact absurd c1 (by decide)))
  · obtain ⟨hjn, hdg⟩ := hvv.mp c1
    refine hC.aload_n dX9_number_19 rfl ?_
    refine hC.getfield dX9_number_20 lfX9_109 rfl rfl ?_
    refine hC.aload_n dX9_number_23 rfl ?_
    refine hC.getfield dX9_number_24 lfX9_97 rfl rfl ?_
    refine hC.n_ne (by omega) (by omega) dX9_number_27 (tgt := 41) rfl (fun c2 => ?_) (fun c2 => ?_)
    · have hst := sc_t hjn hdg
      have hge2 := sc_ge (dgB (R 1)) n (j + 1)
      have htm : caK (R 1) j (sc (dgB (R 1)) n j - j) < 131072 := caK_le ht _
      generalize heg : sc (dgB (R 1)) n j = e at hee hge hel hst hnu htm
      rw [if_neg (by omega)] at hnu
      have k144 : (3 < e - j ∨ ¬ (lo ≤ caK (R 1) j (e - j) ∧ caK (R 1) j (e - j) < hx)) → K 144 [(0, .ref 0), (1, .int (nI lo)), (2, .int (nI hx - nI 1)), (3, .int (nI (caK (R 1) j (e - j))))] [] (mpW R F L n e 0 q j) := by
        intro hc
        rw [if_pos hc] at hnu
        rw [hnu] at hR
        refine hC.aload_n dX9_number_144 rfl ?_
        refine hC.iconst dX9_number_145 (v := nI 2) rfl ?_
        refine hC.aload_n dX9_number_146 rfl ?_
        refine hC.getfield dX9_number_147 lfX9_132 rfl rfl ?_
        refine hC.wuVs dX9_number_150 lmX9_124 mkX9_fails svX9_fails (ct_X9_fails l R F L n e 0 q j 2 j (by omega)) ⟨Nat.le_of_ble_eq_true rfl, Nat.le_of_ble_eq_true rfl⟩ rfl rfl (Nat.le_of_ble_eq_true rfl) rfl rfl ?_
        refine hC.iload_n dX9_number_153 rfl ?_
        exact hR.ireturn dX9_number_154 ⟨_, e, j, htm, hel, by decide, by decide, rfl, rfl⟩
      have k119 : K 119 [(0, .ref 0), (1, .int (nI lo)), (2, .int (nI hx - nI 1)), (3, .int (nI (caK (R 1) j (e - j))))] [] (mpW R F L n e 0 q j) := by
        refine hC.aload_n dX9_number_119 rfl ?_
        refine hC.getfield dX9_number_120 lfX9_109 rfl rfl ?_
        refine hC.aload_n dX9_number_123 rfl ?_
        refine hC.getfield dX9_number_124 lfX9_132 rfl rfl ?_
        refine hC.isub dX9_number_127 ?_
        rw [pk_sub (show j ≤ e by omega)]
        refine hC.iconst dX9_number_128 (v := nI 3) rfl ?_
        refine hC.n_gt (by omega) (by omega) dX9_number_129 (tgt := 144) rfl (fun c3 => ?_) (fun c3 => ?_)
        · exact k144 (Or.inl c3)
        · refine hC.iload_n dX9_number_132 rfl ?_
          refine hC.i2l dX9_number_133 ?_
          refine hC.iload_n dX9_number_134 rfl ?_
          refine hC.i2l dX9_number_135 ?_
          refine hC.iload_n dX9_number_136 rfl ?_
          refine hC.i2l dX9_number_137 ?_
          refine hC.rdS [] dX9_number_138 lmX9_92 mkX9_in sxX9_in (ct_X9_in l (nI (caK (R 1) j (e - j))).toInt64 (nI lo).toInt64 (nI hx - nI 1).toInt64) ⟨Nat.le_of_ble_eq_true rfl, Nat.le_of_ble_eq_true rfl⟩ rfl rfl (Nat.le_of_ble_eq_true rfl) ⟨by decide, rfl⟩ ?_
          rw [in_H (by omega) (by omega) (by omega)]
          refine hC.bnz dX9_number_141 (tgt := 153) rfl (fun c4 => ?_) (fun c4 => ?_)
          · have c5 := of_decide_eq_true c4
            rw [if_neg (by omega)] at hnu
            rw [hnu] at hR
            refine hC.iload_n dX9_number_153 rfl ?_
            exact hR.ireturn dX9_number_154 ⟨htm, hel, rfl, q, rfl⟩
          · exact k144 (Or.inr (of_decide_eq_false c4))
      have k51 : K 51 [(0, .ref 0), (1, .int (nI lo)), (2, .int (nI hx - nI 1)), (3, .int (nI (caK (R 1) j (e - j))))] [] (mpW R F L n e 0 q j) := by
        refine hC.aload_n dX9_number_51 rfl ?_
        refine hC.getfield dX9_number_52 lfX9_109 rfl rfl ?_
        refine hC.aload_n dX9_number_55 rfl ?_
        refine hC.getfield dX9_number_56 lfX9_97 rfl rfl ?_
        refine hC.n_ge (by omega) (by omega) dX9_number_59 (tgt := 119) rfl (fun c3 => ?_) (fun c3 => ?_)
        · exact hC.loc rfl k119
        · have h2 := (hee.resolve_left (by omega)).2
          have hte := ht e
          refine hC.aload_n dX9_number_62 rfl ?_
          refine hC.getfield dX9_number_63 lfX9_7 rfl rfl ?_
          refine hC.aload_n dX9_number_66 rfl ?_
          refine hC.getfield dX9_number_67 lfX9_109 rfl rfl ?_
          refine hC.iaN dX9_number_70 rfl ⟨by omega, by decide⟩ ?_
          refine hC.rdS [] dX9_number_71 lmX9_128 mkX9_isFigure sxX9_isFigure (ct_X9_isFigure l (R 1 e) hte) ⟨Nat.le_of_ble_eq_true rfl, Nat.le_of_ble_eq_true rfl⟩ rfl rfl (Nat.le_of_ble_eq_true rfl) ⟨by decide, rfl⟩ ?_
          refine hC.bz dX9_number_74 (tgt := 119) rfl (fun c4 => ?_) (fun c4 => ?_)
          · exact hC.loc rfl k119
          · rw [dgB, c4] at h2
            exact absurd h2 (by decide)
      refine hC.aload_n dX9_number_41 rfl ?_
      refine hC.aload_n dX9_number_42 rfl ?_
      refine hC.getfield dX9_number_43 lfX9_109 rfl rfl ?_
      refine hC.putI dX9_number_46 lpX9_132 rfl rfl rfl (Nat.le_of_ble_eq_true rfl) ?_
      refine hC.iconst dX9_number_49 (v := nI 0) rfl ?_
      refine hC.istore_n dX9_number_50 (by decide) ?_
      refine hC.loc rfl (sc_loop (p := dgB (R 1)) (n := n) (fun k => j ≤ k → K 51 [(0, .ref 0), (1, .int (nI lo)), (2, .int (nI hx - nI 1)), (3, .int (nI (caK (R 1) j (k - j))))] [] (mpW R F L n k 0 q j)) (fun k hk hp ih hjk => ?_) j hle (fun _ => by rw [heg]; exact k51) (Nat.le_refl j) |> fun z => by rw [Nat.sub_self] at z; exact z)
      have htk := ht k
      have hca : caK (R 1) j (k - j) < 131072 := caK_le ht _
      have hnx : caK (R 1) j (k + 1 - j) = if 9999 < caK (R 1) j (k - j) then caK (R 1) j (k - j) else 10 * caK (R 1) j (k - j) + R 1 k - 48 := by
        rw [show k + 1 - j = (k - j) + 1 by omega, caK, show j + (k - j) = k by omega]
      have ih := ih (by omega)
      generalize hcg : caK (R 1) j (k - j) = ca at hca hnx ⊢
      have hd := of_decide_eq_true hp
      have k105 : ∀ z, z = caK (R 1) j (k + 1 - j) → K 105 [(0, .ref 0), (1, .int (nI lo)), (2, .int (nI hx - nI 1)), (3, .int (nI ca))] [.int (nI z)] (mpW R F L n k 0 q j) := by
        intro z hz
        rw [← hz] at ih
        refine hC.istore_n dX9_number_105 (by decide) ?_
        refine hC.aload_n dX9_number_106 rfl ?_
        refine hC.dup dX9_number_107 rfl ?_
        refine hC.getfield dX9_number_108 lfX9_109 rfl rfl ?_
        refine hC.iconst dX9_number_111 (v := nI 1) rfl ?_
        refine hC.iadd dX9_number_112 ?_
        rw [nI_add]
        refine hC.putI dX9_number_113 lpX9_109 rfl rfl rfl (Nat.le_of_ble_eq_true rfl) ?_
        refine hC.goto dX9_number_116 (tgt := 51) rfl ?_
        exact hC.loc rfl ih
      refine hC.aload_n dX9_number_51 rfl ?_
      refine hC.getfield dX9_number_52 lfX9_109 rfl rfl ?_
      refine hC.aload_n dX9_number_55 rfl ?_
      refine hC.getfield dX9_number_56 lfX9_97 rfl rfl ?_
      refine hC.n_ge (by omega) (by omega) dX9_number_59 (tgt := 119) rfl (fun c3 => ?_) (fun c3 => ?_)
      · omega
      · refine hC.aload_n dX9_number_62 rfl ?_
        refine hC.getfield dX9_number_63 lfX9_7 rfl rfl ?_
        refine hC.aload_n dX9_number_66 rfl ?_
        refine hC.getfield dX9_number_67 lfX9_109 rfl rfl ?_
        refine hC.iaN dX9_number_70 rfl ⟨by omega, by decide⟩ ?_
        refine hC.rdS [] dX9_number_71 lmX9_128 mkX9_isFigure sxX9_isFigure (ct_X9_isFigure l (R 1 k) htk) ⟨Nat.le_of_ble_eq_true rfl, Nat.le_of_ble_eq_true rfl⟩ rfl rfl (Nat.le_of_ble_eq_true rfl) ⟨by decide, rfl⟩ ?_
        refine hC.bz dX9_number_74 (tgt := 119) rfl (fun c4 => ?_) (fun c4 => ?_)
        · have hp2 : dgB (R 1) k = false := c4
          rw [hp] at hp2
          exact absurd hp2 (by decide)
        · refine hC.iload_n dX9_number_77 rfl ?_
          refine hC.sipush dX9_number_78 (v := nI 9999) rfl ?_
          refine hC.n_le (by omega) (by omega) dX9_number_81 (tgt := 88) rfl (fun c5 => ?_) (fun c5 => ?_)
          · refine hC.bipush dX9_number_88 (v := nI 10) rfl ?_
            refine hC.iload_n dX9_number_90 rfl ?_
            refine hC.imul dX9_number_91 ?_
            rw [pk_mul]
            refine hC.aload_n dX9_number_92 rfl ?_
            refine hC.getfield dX9_number_93 lfX9_7 rfl rfl ?_
            refine hC.aload_n dX9_number_96 rfl ?_
            refine hC.getfield dX9_number_97 lfX9_109 rfl rfl ?_
            refine hC.iaN dX9_number_100 rfl ⟨by omega, by decide⟩ ?_
            refine hC.iadd dX9_number_101 ?_
            rw [nI_add]
            refine hC.bipush dX9_number_102 (v := nI 48) rfl ?_
            refine hC.isub dX9_number_104 ?_
            rw [pk_sub (show 48 ≤ 10 * ca + R 1 k by omega)]
            exact k105 _ (by rw [hnx, if_neg (by omega)])
          · refine hC.iload_n dX9_number_84 rfl ?_
            refine hC.goto dX9_number_85 (tgt := 105) rfl ?_
            exact k105 _ (by rw [hnx, if_pos (by omega)])
    · omega
set_option maxHeartbeats 4000000 in
set_option maxRecDepth 20000 in
theorem ct_X9_word (l : Launch) (R : Nat → Nat → Nat) (F : Nat → Nat) (L : Nat → Int64) (n i w q b : Nat) (hn : n ≤ 500) (hi : i ≤ n) (ht : ∀ j, R 1 j < 256) : Ct l 2 yX9_word cX9_word 3 (some .int) [.ref 0] (mpW R F L n i w q b) (RV (.int (nI (wcF (R 1) (sc (spB (R 1)) n i) (sc (ltB (R 1)) n (sc (spB (R 1)) n i))))) (mpW R F L n (sc (ltB (R 1)) n (sc (spB (R 1)) n i)) w q (sc (spB (R 1)) n i))) := by
  refine Ct.of (by decide) (Nat.le_of_ble_eq_true rfl) (fun K hC hR => ?_)
  show K 0 [(0, .ref 0)] [] _
  have hle := sc_le (p := spB (R 1)) hi
  refine hC.aload_n dX9_word_0 rfl ?_
  refine hC.wrVs dX9_word_1 lmX9_112 mkX9_here svX9_here (ct_X9_here l R F L n i w q b hn hi ht) ⟨Nat.le_of_ble_eq_true rfl, Nat.le_of_ble_eq_true rfl⟩ rfl rfl (Nat.le_of_ble_eq_true rfl) rfl rfl ?_
  generalize hjg : sc (spB (R 1)) n i = j at hle hR ⊢
  have hee := sc_end (p := ltB (R 1)) j hle
  have hge := sc_ge (ltB (R 1)) n j
  have hel := sc_le (p := ltB (R 1)) hle
  have hal := sc_all (p := ltB (R 1)) j hle
  generalize heg : sc (ltB (R 1)) n j = e at hee hge hel hal hR
  obtain ⟨q1, q2, q3, q4, q5⟩ := wd_eq (t := R 1) (j := j) (k := e - j) (fun i hi => of_decide_eq_true (hal (j + i) (by omega) (by omega)))
  rw [show j + (e - j) = e by omega] at q1 q2 q3 q4 q5
  have hwc : wcF (R 1) j e = if isW (R 1) j e [99, 111, 108, 111, 117, 114, 115] = true then 0 else if isW (R 1) j e [115, 116, 114, 105, 112] = true then 1 else if isW (R 1) j e [112, 111, 108, 101] = true then 2 else if isW (R 1) j e [115, 101, 97, 109] = true then 3 else if isW (R 1) j e [99, 111, 117, 108, 100] = true then 4 else NN := rfl
  have k91 : K 91 [(0, .ref 0), (1, .long (wdV (R 1) j (e - j)))] [] (mpW R F L n e w q j) := by
    generalize wdV (R 1) j (e - j) = V at q1 q2 q3 q4 q5 ⊢
    refine hC.lload_n dX9_word_91 rfl ?_
    refine hC.ldc2_w (v := lN 27988534211474035) dX9_word_92 lcX9_142 ?_
    refine hC.lcmp dX9_word_95 ?_
    refine hC.if_ne dX9_word_96 (tgt := 103) rfl (fun c => ?_) (fun c => ?_)
    · have c1 : ¬ isW (R 1) j e [99, 111, 108, 111, 117, 114, 115] = true := fun z => c ((lg_eq0 _ _).mpr (q1.mpr z))
      rw [if_neg c1] at hwc
      refine hC.lload_n dX9_word_103 rfl ?_
      refine hC.ldc2_w (v := lN 495874894192) dX9_word_104 lcX9_144 ?_
      refine hC.lcmp dX9_word_107 ?_
      refine hC.if_ne dX9_word_108 (tgt := 115) rfl (fun d => ?_) (fun d => ?_)
      · have d1 : ¬ isW (R 1) j e [115, 116, 114, 105, 112] = true := fun z => d ((lg_eq0 _ _).mpr (q2.mpr z))
        rw [if_neg d1] at hwc
        refine hC.lload_n dX9_word_115 rfl ?_
        refine hC.ldc2_w (v := lN 1886350437) dX9_word_116 lcX9_146 ?_
        refine hC.lcmp dX9_word_119 ?_
        refine hC.if_ne dX9_word_120 (tgt := 127) rfl (fun f => ?_) (fun f => ?_)
        · have f1 : ¬ isW (R 1) j e [112, 111, 108, 101] = true := fun z => f ((lg_eq0 _ _).mpr (q3.mpr z))
          rw [if_neg f1] at hwc
          refine hC.lload_n dX9_word_127 rfl ?_
          refine hC.ldc2_w (v := lN 1936023917) dX9_word_128 lcX9_148 ?_
          refine hC.lcmp dX9_word_131 ?_
          refine hC.if_ne dX9_word_132 (tgt := 139) rfl (fun g => ?_) (fun g => ?_)
          · have g1 : ¬ isW (R 1) j e [115, 101, 97, 109] = true := fun z => g ((lg_eq0 _ _).mpr (q4.mpr z))
            rw [if_neg g1] at hwc
            refine hC.lload_n dX9_word_139 rfl ?_
            refine hC.ldc2_w (v := lN 427071728740) dX9_word_140 lcX9_150 ?_
            refine hC.lcmp dX9_word_143 ?_
            refine hC.if_ne dX9_word_144 (tgt := 151) rfl (fun h => ?_) (fun h => ?_)
            · have h1 : ¬ isW (R 1) j e [99, 111, 117, 108, 100] = true := fun z => h ((lg_eq0 _ _).mpr (q5.mpr z))
              rw [if_neg h1] at hwc
              rw [hwc] at hR
              refine hC.iconst dX9_word_151 (v := (-1)) rfl ?_
              rw [m1_nI]
              exact hR.ireturn dX9_word_152 ⟨rfl, rfl⟩
            · rw [if_pos (q5.mp ((lg_eq0 _ _).mp h))] at hwc
              rw [hwc] at hR
              refine hC.iconst dX9_word_147 (v := nI 4) rfl ?_
              refine hC.goto dX9_word_148 (tgt := 152) rfl ?_
              exact hR.ireturn dX9_word_152 ⟨rfl, rfl⟩
          · rw [if_pos (q4.mp ((lg_eq0 _ _).mp g))] at hwc
            rw [hwc] at hR
            refine hC.iconst dX9_word_135 (v := nI 3) rfl ?_
            refine hC.goto dX9_word_136 (tgt := 152) rfl ?_
            exact hR.ireturn dX9_word_152 ⟨rfl, rfl⟩
        · rw [if_pos (q3.mp ((lg_eq0 _ _).mp f))] at hwc
          rw [hwc] at hR
          refine hC.iconst dX9_word_123 (v := nI 2) rfl ?_
          refine hC.goto dX9_word_124 (tgt := 152) rfl ?_
          exact hR.ireturn dX9_word_152 ⟨rfl, rfl⟩
      · rw [if_pos (q2.mp ((lg_eq0 _ _).mp d))] at hwc
        rw [hwc] at hR
        refine hC.iconst dX9_word_111 (v := nI 1) rfl ?_
        refine hC.goto dX9_word_112 (tgt := 152) rfl ?_
        exact hR.ireturn dX9_word_152 ⟨rfl, rfl⟩
    · rw [if_pos (q1.mp ((lg_eq0 _ _).mp c))] at hwc
      rw [hwc] at hR
      refine hC.iconst dX9_word_99 (v := nI 0) rfl ?_
      refine hC.goto dX9_word_100 (tgt := 152) rfl ?_
      exact hR.ireturn dX9_word_152 ⟨rfl, rfl⟩
  have k15 : K 15 [(0, .ref 0), (1, .long (wdV (R 1) j (e - j)))] [] (mpW R F L n e w q j) := by
    refine hC.aload_n dX9_word_15 rfl ?_
    refine hC.getfield dX9_word_16 lfX9_109 rfl rfl ?_
    refine hC.aload_n dX9_word_19 rfl ?_
    refine hC.getfield dX9_word_20 lfX9_97 rfl rfl ?_
    refine hC.n_ge (by omega) (by omega) dX9_word_23 (tgt := 91) rfl (fun c3 => ?_) (fun c3 => ?_)
    · exact hC.loc rfl k91
    · have h2 := (hee.resolve_left (by omega)).2
      have hte := ht e
      refine hC.aload_n dX9_word_26 rfl ?_
      refine hC.getfield dX9_word_27 lfX9_7 rfl rfl ?_
      refine hC.aload_n dX9_word_30 rfl ?_
      refine hC.getfield dX9_word_31 lfX9_109 rfl rfl ?_
      refine hC.iaN dX9_word_34 rfl ⟨by omega, by decide⟩ ?_
      refine hC.rdS [] dX9_word_35 lmX9_135 mkX9_isLetter sxX9_isLetter (ct_X9_isLetter l (R 1 e) hte) ⟨Nat.le_of_ble_eq_true rfl, Nat.le_of_ble_eq_true rfl⟩ rfl rfl (Nat.le_of_ble_eq_true rfl) ⟨by decide, rfl⟩ ?_
      refine hC.bz dX9_word_38 (tgt := 91) rfl (fun c4 => ?_) (fun c4 => ?_)
      · exact hC.loc rfl k91
      · rw [ltB, c4] at h2
        exact absurd h2 (by decide)
  refine hC.pop dX9_word_4 rfl ?_
  refine hC.aload_n dX9_word_5 rfl ?_
  refine hC.aload_n dX9_word_6 rfl ?_
  refine hC.getfield dX9_word_7 lfX9_109 rfl rfl ?_
  refine hC.putI dX9_word_10 lpX9_132 rfl rfl rfl (Nat.le_of_ble_eq_true rfl) ?_
  refine hC.lconst dX9_word_13 (v := lN 0) rfl ?_
  refine hC.lstore_n dX9_word_14 (by decide) ?_
  refine hC.loc rfl (sc_loop (p := ltB (R 1)) (n := n) (fun k => j ≤ k → K 15 [(0, .ref 0), (1, .long (wdV (R 1) j (k - j)))] [] (mpW R F L n k w q j)) (fun k hk hp ih hjk => ?_) j hle (fun _ => by rw [heg]; exact k15) (Nat.le_refl j) |> fun z => by rw [Nat.sub_self] at z; exact z)
  have htk := ht k
  have hnx : wdV (R 1) j (k + 1 - j) = if 7 < k - j then -1 else wdV (R 1) j (k - j) * lN 256 + lN (R 1 k) := by
    rw [show k + 1 - j = (k - j) + 1 by omega, wdV, show j + (k - j) = k by omega]
  have ih := ih (by omega)
  generalize hcg : wdV (R 1) j (k - j) = ca at hnx ⊢
  have k77 : ∀ z, z = wdV (R 1) j (k + 1 - j) → K 77 [(0, .ref 0), (1, .long ca)] [.long z] (mpW R F L n k w q j) := by
    intro z hz
    rw [← hz] at ih
    refine hC.lstore_n dX9_word_77 (by decide) ?_
    refine hC.aload_n dX9_word_78 rfl ?_
    refine hC.dup dX9_word_79 rfl ?_
    refine hC.getfield dX9_word_80 lfX9_109 rfl rfl ?_
    refine hC.iconst dX9_word_83 (v := nI 1) rfl ?_
    refine hC.iadd dX9_word_84 ?_
    rw [nI_add]
    refine hC.putI dX9_word_85 lpX9_109 rfl rfl rfl (Nat.le_of_ble_eq_true rfl) ?_
    refine hC.goto dX9_word_88 (tgt := 15) rfl ?_
    exact hC.loc rfl ih
  refine hC.aload_n dX9_word_15 rfl ?_
  refine hC.getfield dX9_word_16 lfX9_109 rfl rfl ?_
  refine hC.aload_n dX9_word_19 rfl ?_
  refine hC.getfield dX9_word_20 lfX9_97 rfl rfl ?_
  refine hC.n_ge (by omega) (by omega) dX9_word_23 (tgt := 91) rfl (fun c3 => ?_) (fun c3 => ?_)
  · omega
  · refine hC.aload_n dX9_word_26 rfl ?_
    refine hC.getfield dX9_word_27 lfX9_7 rfl rfl ?_
    refine hC.aload_n dX9_word_30 rfl ?_
    refine hC.getfield dX9_word_31 lfX9_109 rfl rfl ?_
    refine hC.iaN dX9_word_34 rfl ⟨by omega, by decide⟩ ?_
    refine hC.rdS [] dX9_word_35 lmX9_135 mkX9_isLetter sxX9_isLetter (ct_X9_isLetter l (R 1 k) htk) ⟨Nat.le_of_ble_eq_true rfl, Nat.le_of_ble_eq_true rfl⟩ rfl rfl (Nat.le_of_ble_eq_true rfl) ⟨by decide, rfl⟩ ?_
    refine hC.bz dX9_word_38 (tgt := 91) rfl (fun c4 => ?_) (fun c4 => ?_)
    · have hp2 : ltB (R 1) k = false := c4
      rw [hp] at hp2
      exact absurd hp2 (by decide)
    · refine hC.aload_n dX9_word_41 rfl ?_
      refine hC.getfield dX9_word_42 lfX9_109 rfl rfl ?_
      refine hC.aload_n dX9_word_45 rfl ?_
      refine hC.getfield dX9_word_46 lfX9_132 rfl rfl ?_
      refine hC.isub dX9_word_49 ?_
      rw [pk_sub (by omega)]
      refine hC.bipush dX9_word_50 (v := nI 7) rfl ?_
      refine hC.n_le (by omega) (by omega) dX9_word_52 (tgt := 61) rfl (fun c5 => ?_) (fun c5 => ?_)
      · refine hC.lload_n dX9_word_61 rfl ?_
        refine hC.ldc2_w (v := lN 256) dX9_word_62 lcX9_140 ?_
        refine hC.lmul dX9_word_65 ?_
        refine hC.aload_n dX9_word_66 rfl ?_
        refine hC.getfield dX9_word_67 lfX9_7 rfl rfl ?_
        refine hC.aload_n dX9_word_70 rfl ?_
        refine hC.getfield dX9_word_71 lfX9_109 rfl rfl ?_
        refine hC.iaN dX9_word_74 rfl ⟨by omega, by decide⟩ ?_
        refine hC.i2l dX9_word_75 ?_
        rw [nI_l (by omega)]
        refine hC.ladd dX9_word_76 ?_
        exact k77 _ (by rw [hnx, if_neg (by omega)])
      · refine hC.ldc2_w dX9_word_55 lcX9_138 ?_
        refine hC.goto dX9_word_58 (tgt := 77) rfl ?_
        exact k77 _ (by rw [hnx, if_pos (by omega)])
