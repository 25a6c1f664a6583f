/-! StripFlagModel: readColours, readSeam, readClause -/
theorem sc_idem {p : Nat → Bool} {n i : Nat} (h : i ≤ n) : sc p n (sc p n i) = sc p n i := by
  rcases sc_end (p := p) i h with h1 | ⟨h1, h2⟩
  · rw [h1]; exact sc_n p n
  · exact sc_f h2
set_option maxHeartbeats 4000000 in
set_option maxRecDepth 20000 in
theorem ct_X9_must0 (l : Launch) (R : Nat → Nat → Nat) (F : Nat → Nat) (L : Nat → Int64) (n i w q b : Nat) (hw : w ≠ 0) (hw2 : w < 10) (x : Int32) : Ct l 0 yX9_must cX9_must 2 none [.ref 0, .int x] (mpW R F L n i w q b) (RU (mpW R F L n i w q b)) := by
  refine Ct.of (by decide) (Nat.le_of_ble_eq_true rfl) (fun K hC hR => ?_)
  show K 0 [(0, .ref 0), (1, .int x)] [] _
  refine hC.aload_n dX9_must_0 rfl ?_
  refine hC.getfield dX9_must_1 lfX9_103 rfl rfl ?_
  refine hC.nnz (by omega) dX9_must_4 (tgt := 48) rfl (fun c => ?_) (fun c => ?_)
  · exact hR.return_ dX9_must_48 ⟨rfl, rfl⟩
  · exact absurd c hw
def tdM (R : Nat → Nat → Nat) (T : ToldT) : Prop := (∀ i, i < 4 → R 2 i = T.2 i) ∧ (∀ k, k < T.2 0 → R 3 k = T.1 0 k) ∧ (∀ k, k < T.2 1 → R 4 k = T.1 1 k) ∧ (∀ k, k < T.2 2 ∨ (12 ≤ k ∧ k < 12 + T.2 3) → R 5 k = T.1 2 k ∧ R 6 k = T.1 3 k ∧ R 7 k = T.1 4 k)
def rdB (R : Nat → Nat → Nat) : Prop := ∀ s, R 5 s < 131072 ∧ R 6 s < 131072 ∧ R 7 s < 131072
def rdK (R R2 : Nat → Nat → Nat) : Prop := ∀ j, j = 1 ∨ 8 ≤ j → R2 j = R j
def TC (T : ToldT) : Prop := T.2 0 ≤ 4 ∧ T.2 1 ≤ 8 ∧ T.2 2 ≤ 12 ∧ T.2 3 ≤ 8
def clM (R : Nat → Nat → Nat) (F : Nat → Nat) (L : Nat → Int64) (n : Nat) (x : Except FaT (ToldT × Nat)) (h2 : List va_E) : Prop := match x with
  | .error (k, p) => ∃ R2 i2 b2, k ≠ 0 ∧ k < 10 ∧ rdK R R2 ∧ rdB R2 ∧ h2 = mpW R2 F L n i2 k p b2
  | .ok (T2, i2) => ∃ R2 q2 b2, i2 ≤ n ∧ rdK R R2 ∧ rdB R2 ∧ tdM R2 T2 ∧ TC T2 ∧ h2 = mpW R2 F L n i2 0 q2 b2
theorem rdK_rf (R : Nat → Nat → Nat) : rdK R R := fun _ _ => rfl
theorem rdK_up {R R2 : Nat → Nat → Nat} {r : Nat} (f : Nat → Nat) (h : rdK R R2) (hr : 2 ≤ r ∧ r < 8) : rdK R (upR R2 r f) := fun j hj => by
  unfold upR
  rw [if_neg (by omega)]
  exact h j hj
theorem rdB_lo {R : Nat → Nat → Nat} {r : Nat} (f : Nat → Nat) (h : rdB R) (hr : r < 5) : rdB (upR R r f) := fun s => by
  unfold upR
  rw [if_neg (by omega), if_neg (by omega), if_neg (by omega)]
  exact h s
theorem rdB_hi {R : Nat → Nat → Nat} {r : Nat} {f : Nat → Nat} (h : rdB R) (hf : ∀ s, f s < 131072) : rdB (upR R r f) := fun s => by
  have h1 := h s
  have h2 := hf s
  unfold upR
  refine ⟨?_, ?_, ?_⟩ <;> split <;> omega
theorem tdM_adC {R : Nat → Nat → Nat} {T : ToldT} (h : tdM R T) (hc : T.2 0 < 4) (v : Nat) : tdM (upR (upR R 3 (updN (R 3) (R 2 0) v)) 2 (updN (R 2) 0 (R 2 0 + 1))) (adC T v) := by
  obtain ⟨h1, h2, h3, h4⟩ := h
  have h0 := h1 0 (by decide)
  refine ⟨fun i hi => ?_, fun k hk => ?_, h3, h4⟩
  · show updN (R 2) 0 (R 2 0 + 1) i = updN T.2 0 (T.2 0 + 1) i
    unfold updN
    split
    · rw [h0]
    · exact h1 i hi
  · show updN (R 3) (R 2 0) v k = updN (T.1 0) (T.2 0) v k
    have hk : k < T.2 0 + 1 := hk
    unfold updN
    rw [h0]
    split
    · rfl
    · exact h2 k (by omega)
theorem tdM_adS {R : Nat → Nat → Nat} {T : ToldT} (h : tdM R T) (v : Nat) : tdM (upR (upR R 4 (updN (R 4) (R 2 1) v)) 2 (updN (R 2) 1 (R 2 1 + 1))) (adS T v) := by
  obtain ⟨h1, h2, h3, h4⟩ := h
  have h0 := h1 1 (by decide)
  refine ⟨fun i hi => ?_, h2, fun k hk => ?_, h4⟩
  · show updN (R 2) 1 (R 2 1 + 1) i = updN T.2 1 (T.2 1 + 1) i
    unfold updN
    split
    · rw [h0]
    · exact h1 i hi
  · show updN (R 4) (R 2 1) v k = updN (T.1 1) (T.2 1) v k
    have hk : k < T.2 1 + 1 := hk
    unfold updN
    rw [h0]
    split
    · rfl
    · exact h3 k (by omega)
theorem rdC {R R2 : Nat → Nat → Nat} (hk : rdK R R2) : R2 1 = R 1 := hk 1 (Or.inl rfl)
theorem n99 : nI 99 = nI 100 - nI 1 := by decide
theorem n9 : nI 9 = nI 10 - nI 1 := by decide
set_option maxHeartbeats 4000000 in
set_option maxRecDepth 20000 in
theorem ct_X9_readColours (l : Launch) (R : Nat → Nat → Nat) (F : Nat → Nat) (L : Nat → Int64) (n i q b : Nat) (T : ToldT) (hn : n ≤ 500) (hi : i ≤ n) (ht : ∀ j, R 1 j < 256) (hT : tdM R T) (h0 : T.2 0 = 0) (hc : TC T) (hB : rdB R) : Ct l 3 yX9_readColours cX9_readColours 2 none [.ref 0] (mpW R F L n i 0 q b) (fun r h2 => r = none ∧ clM R F L n (coT (R 1) n 4 T i) h2) := by
  refine Ct.of (by decide) (Nat.le_of_ble_eq_true rfl) (fun K hC hR => ?_)
  show K 0 [(0, .ref 0)] [] _
  obtain ⟨t, htg⟩ : ∃ t, R 1 = t := ⟨_, rfl⟩
  rw [htg] at ht hR
  have kerr : ∀ (R2 : Nat → Nat → Nat) i2 k p b2, coT t n 4 T i = .error (k, p) → k ≠ 0 → k < 10 → rdK R R2 → rdB R2 → K 125 [(0, .ref 0)] [] (mpW R2 F L n i2 k p b2) := by
    intro R2 i2 k p b2 he hk0 hk10 hK hB2
    rw [he] at hR
    refine hC.aload_n dX9_readColours_125 rfl ?_
    refine hC.bipush dX9_readColours_126 (v := nI 59) rfl ?_
    refine hC.wuVs dX9_readColours_128 lmX9_156 mkX9_must svX9_must (ct_X9_must0 l R2 F L n i2 k p b2 hk0 hk10 (nI 59)) ⟨Nat.le_of_ble_eq_true rfl, Nat.le_of_ble_eq_true rfl⟩ rfl rfl (Nat.le_of_ble_eq_true rfl) rfl rfl ?_
    exact hR.return_ dX9_readColours_131 ⟨rfl, R2, i2, b2, hk0, hk10, hK, hB2, rfl⟩
  have loop : ∀ r (T2 : ToldT) (R2 : Nat → Nat → Nat) (i2 q2 b2 : Nat), T2.2 0 + (r + 1) = 4 → i2 ≤ n → tdM R2 T2 → TC T2 → rdB R2 → rdK R R2 → coT t n 4 T i = coT t n (r + 1) T2 i2 → K 2 [(0, .ref 0), (1, .int (nI 1))] [] (mpW R2 F L n i2 0 q2 b2) := by
    intro r
    induction r using Nat.strongRecOn with
    | ind r ih =>
      intro T2 R2 i2 q2 b2 hr hi2 hT2 hc2 hB2 hK2 heq
      have hR1 : R2 1 = t := by rw [rdC hK2, htg]
      have h20 := hT2.1 0 (by decide)
      have hst : coT t n (r + 1) T2 i2 = match nuT t n 0 100 i2 with
        | .error x => .error x
        | .ok (v, _, e) => if sc (spB t) n e < n ∧ t (sc (spB t) n e) = 59 then .ok (adC T2 v, sc (spB t) n e + 1) else if sc (spB t) n e < n ∧ t (sc (spB t) n e) = 44 ∧ r ≠ 0 then coT t n r (adC T2 v) (sc (spB t) n e + 1) else .error (1, sc (spB t) n e) := rfl
      rw [hst] at heq
      have k30 : ∀ (v i3 k3 p3 b3 : Nat), K 41 [(0, .ref 0), (1, .int (nI 1))] [] (mpW (upR (upR R2 3 (updN (R2 3) (R2 2 0) v)) 2 (updN (R2 2) 0 (R2 2 0 + 1))) F L n i3 k3 p3 b3) → K 30 [(0, .ref 0), (1, .int (nI 1))] [.int (nI v), .int (nI (R2 2 0)), .ref 3] (mpW R2 F L n i3 k3 p3 b3) := by
        intro v i3 k3 p3 b3 hk
        refine hC.isN dX9_readColours_30 rfl ⟨by omega, by decide⟩ ?_
        refine hC.aload_n dX9_readColours_31 rfl ?_
        refine hC.getfield dX9_readColours_32 lfX9_13 rfl rfl ?_
        refine hC.iconst dX9_readColours_35 (v := nI 0) rfl ?_
        refine hC.dup2 dX9_readColours_36 rfl rfl ?_
        refine hC.iaN (f := fun j => nI ((R2 2) j)) dX9_readColours_37 rfl ⟨by omega, by decide⟩ ?_
        refine hC.iconst dX9_readColours_38 (v := nI 1) rfl ?_
        refine hC.iadd dX9_readColours_39 ?_
        rw [nI_add]
        refine hC.isN dX9_readColours_40 rfl ⟨by omega, by decide⟩ ?_
        exact hC.loc rfl hk
      refine hC.iload_n dX9_readColours_2 rfl ?_
      refine hC.if_eq dX9_readColours_3 (tgt := 125) rfl (fun c => absurd c (by decide)) (fun _ => ?_)
      refine hC.aload_n dX9_readColours_6 rfl ?_
      refine hC.getfield dX9_readColours_7 lfX9_103 rfl rfl ?_
      refine hC.nnz (x := 0) (by omega) dX9_readColours_10 (tgt := 125) rfl (fun c => absurd rfl c) (fun _ => ?_)
      refine hC.aload_n dX9_readColours_13 rfl ?_
      refine hC.getfield dX9_readColours_14 lfX9_16 rfl rfl ?_
      refine hC.aload_n dX9_readColours_17 rfl ?_
      refine hC.getfield dX9_readColours_18 lfX9_13 rfl rfl ?_
      refine hC.iconst dX9_readColours_21 (v := nI 0) rfl ?_
      refine hC.iaN (f := fun j => nI ((R2 2) j)) dX9_readColours_22 rfl ⟨by omega, by decide⟩ ?_
      refine hC.aload_n dX9_readColours_23 rfl ?_
      refine hC.iconst dX9_readColours_24 (v := nI 0) rfl ?_
      refine hC.bipush dX9_readColours_25 (v := nI 99) rfl ?_
      rw [n99]
      refine hC.callVs dX9_readColours_27 lmX9_152 mkX9_number svX9_number (ct_X9_number l R2 F L n i2 q2 b2 0 100 hn hi2 (by rw [hR1]; exact ht) (by decide) (by decide)) ⟨Nat.le_of_ble_eq_true rfl, Nat.le_of_ble_eq_true rfl⟩ rfl rfl (Nat.le_of_ble_eq_true rfl) rfl rfl (fun r h2 hp => ?_)
      rw [hR1] at hp
      cases hnu : nuT t n 0 100 i2 with
      | error x =>
        obtain ⟨k, p⟩ := x
        rw [hnu] at hp heq
        obtain ⟨v, i3, b3, hv, hi3, hk0, hk10, rfl, rfl⟩ := hp
        have heq : coT t n 4 T i = .error (k, p) := heq
        refine hC.loc rfl (k30 v i3 k p b3 ?_)
        have hB3 : rdB (upR (upR R2 3 (updN (R2 3) (R2 2 0) v)) 2 (updN (R2 2) 0 (R2 2 0 + 1))) := rdB_lo _ (rdB_lo _ hB2 (by decide)) (by decide)
        have hK3 : rdK R (upR (upR R2 3 (updN (R2 3) (R2 2 0) v)) 2 (updN (R2 2) 0 (R2 2 0 + 1))) := rdK_up _ (rdK_up _ hK2 (by decide)) (by decide)
        generalize (upR (upR R2 3 (updN (R2 3) (R2 2 0) v)) 2 (updN (R2 2) 0 (R2 2 0 + 1))) = R3 at hB3 hK3 ⊢
        refine hC.aload_n dX9_readColours_41 rfl ?_
        refine hC.getfield dX9_readColours_42 lfX9_103 rfl rfl ?_
        refine hC.nnz (x := k) (by omega) dX9_readColours_45 (tgt := 72) rfl (fun _ => ?_) (fun c => absurd c hk0)
        refine hC.iconst dX9_readColours_72 (v := nI 0) rfl ?_
        refine hC.istore_n dX9_readColours_73 (by decide) ?_
        refine hC.iload_n dX9_readColours_74 rfl ?_
        refine hC.if_eq dX9_readColours_75 (tgt := 97) rfl (fun _ => ?_) (fun c => absurd (by decide) c)
        refine hC.aload_n dX9_readColours_97 rfl ?_
        refine hC.dup dX9_readColours_98 rfl ?_
        refine hC.getfield dX9_readColours_99 lfX9_109 rfl rfl ?_
        refine hC.iload_n dX9_readColours_102 rfl ?_
        refine hC.if_eq dX9_readColours_103 (tgt := 117) rfl (fun _ => ?_) (fun c => absurd (by decide) c)
        refine hC.iconst dX9_readColours_117 (v := nI 0) rfl ?_
        refine hC.iadd dX9_readColours_118 ?_
        rw [nI_add]
        refine hC.putI dX9_readColours_119 lpX9_109 rfl rfl rfl (Nat.le_of_ble_eq_true rfl) ?_
        refine hC.goto dX9_readColours_122 (tgt := 2) rfl ?_
        refine hC.iload_n dX9_readColours_2 rfl ?_
        refine hC.if_eq dX9_readColours_3 (tgt := 125) rfl (fun _ => ?_) (fun c => absurd (by decide) c)
        exact hC.loc rfl (kerr R3 (i3 + 0) k p b3 heq hk0 hk10 hK3 hB3)
      | ok y =>
        obtain ⟨v, jb, e⟩ := y
        rw [hnu] at hp heq
        obtain ⟨hv, he, rfl, q3, rfl⟩ := hp
        have heq : coT t n 4 T i = if sc (spB t) n e < n ∧ t (sc (spB t) n e) = 59 then .ok (adC T2 v, sc (spB t) n e + 1) else if sc (spB t) n e < n ∧ t (sc (spB t) n e) = 44 ∧ r ≠ 0 then coT t n r (adC T2 v) (sc (spB t) n e + 1) else .error (1, sc (spB t) n e) := heq
        refine hC.loc rfl (k30 v e 0 q3 jb ?_)
        have hB3 : rdB (upR (upR R2 3 (updN (R2 3) (R2 2 0) v)) 2 (updN (R2 2) 0 (R2 2 0 + 1))) := rdB_lo _ (rdB_lo _ hB2 (by decide)) (by decide)
        have hK3 : rdK R (upR (upR R2 3 (updN (R2 3) (R2 2 0) v)) 2 (updN (R2 2) 0 (R2 2 0 + 1))) := rdK_up _ (rdK_up _ hK2 (by decide)) (by decide)
        have hT3 := tdM_adC hT2 (by omega) v
        have hc3 : TC (adC T2 v) := ⟨show T2.2 0 + 1 ≤ 4 by omega, hc2.2.1, hc2.2.2.1, hc2.2.2.2⟩
        generalize (upR (upR R2 3 (updN (R2 3) (R2 2 0) v)) 2 (updN (R2 2) 0 (R2 2 0 + 1))) = R3 at hB3 hK3 hT3 ⊢
        have hR3 : R3 1 = t := by rw [rdC hK3, htg]
        have h30 : R3 2 0 = T2.2 0 + 1 := hT3.1 0 (by decide)
        have hid := sc_idem (p := spB t) he
        have hjn := sc_le (p := spB t) he
        refine hC.aload_n dX9_readColours_41 rfl ?_
        refine hC.getfield dX9_readColours_42 lfX9_103 rfl rfl ?_
        refine hC.nnz (x := 0) (by omega) dX9_readColours_45 (tgt := 72) rfl (fun c => absurd rfl c) (fun _ => ?_)
        refine hC.aload_n dX9_readColours_48 rfl ?_
        refine hC.wrVs dX9_readColours_49 lmX9_112 mkX9_here svX9_here (ct_X9_here l R3 F L n e 0 q3 jb hn he (by rw [hR3]; exact ht)) ⟨Nat.le_of_ble_eq_true rfl, Nat.le_of_ble_eq_true rfl⟩ rfl rfl (Nat.le_of_ble_eq_true rfl) rfl rfl ?_
        rw [hR3]
        generalize hjg : sc (spB t) n e = j at hid hjn heq ⊢
        have htj := ht j
        have k72 : ¬ (j < n ∧ t j = 44) → K 72 [(0, .ref 0), (1, .int (nI 1))] [] (mpW R3 F L n j 0 q3 jb) := by
          intro h44
          refine hC.iconst dX9_readColours_72 (v := nI 0) rfl ?_
          refine hC.istore_n dX9_readColours_73 (by decide) ?_
          refine hC.iload_n dX9_readColours_74 rfl ?_
          refine hC.if_eq dX9_readColours_75 (tgt := 97) rfl (fun _ => ?_) (fun c => absurd (by decide) c)
          refine hC.aload_n dX9_readColours_97 rfl ?_
          refine hC.dup dX9_readColours_98 rfl ?_
          refine hC.getfield dX9_readColours_99 lfX9_109 rfl rfl ?_
          refine hC.iload_n dX9_readColours_102 rfl ?_
          refine hC.if_eq dX9_readColours_103 (tgt := 117) rfl (fun _ => ?_) (fun c => absurd (by decide) c)
          refine hC.iconst dX9_readColours_117 (v := nI 0) rfl ?_
          refine hC.iadd dX9_readColours_118 ?_
          rw [nI_add, Nat.add_zero]
          refine hC.putI dX9_readColours_119 lpX9_109 rfl rfl rfl (Nat.le_of_ble_eq_true rfl) ?_
          refine hC.goto dX9_readColours_122 (tgt := 2) rfl ?_
          refine hC.iload_n dX9_readColours_2 rfl ?_
          refine hC.if_eq dX9_readColours_3 (tgt := 125) rfl (fun _ => ?_) (fun c => absurd (by decide) c)
          refine hC.aload_n dX9_readColours_125 rfl ?_
          refine hC.bipush dX9_readColours_126 (v := nI 59) rfl ?_
          refine hC.callVs dX9_readColours_128 lmX9_156 mkX9_must svX9_must (ct_X9_must l R3 F L n j q3 jb hn hjn (by rw [hR3]; exact ht)) ⟨Nat.le_of_ble_eq_true rfl, Nat.le_of_ble_eq_true rfl⟩ rfl rfl (Nat.le_of_ble_eq_true rfl) rfl rfl (fun r h2 hp => ?_)
          obtain ⟨rfl, hp⟩ := hp
          rw [hR3, show enT t n j = if j < n ∧ t j = 59 then .ok (j + 1) else .error (1, j) by rw [enT, hid]] at hp
          by_cases h59 : j < n ∧ t j = 59
          · rw [if_pos h59] at hp heq
            obtain ⟨q4, b4, rfl⟩ := hp
            rw [heq] at hR
            exact hR.return_ dX9_readColours_131 ⟨rfl, R3, q4, b4, by omega, hK3, hB3, hT3, hc3, rfl⟩
          · rw [if_neg h59] at hp heq
            rw [if_neg (fun z => h44 ⟨z.1, z.2.1⟩)] at heq
            obtain ⟨i4, b4, hi4, rfl⟩ := hp
            rw [heq] at hR
            exact hR.return_ dX9_readColours_131 ⟨rfl, R3, i4, b4, by decide, by decide, hK3, hB3, rfl⟩
        have hv2 : (if j < n then t j else 0) < 256 := by split <;> omega
        have hvv : (if j < n then t j else 0) = 44 ↔ j < n ∧ t j = 44 := by split <;> omega
        generalize (if j < n then t j else 0) = w at hv2 hvv ⊢
        refine hC.bipush dX9_readColours_52 (v := nI 44) rfl ?_
        refine hC.n_ne (by omega) (by omega) dX9_readColours_54 (tgt := 72) rfl (fun c => ?_) (fun c => ?_)
        · exact hC.loc rfl (k72 (fun z => c (hvv.mpr z)))
        · have c1 := hvv.mp c
          rw [if_neg (fun z => by omega)] at heq
          refine hC.aload_n dX9_readColours_57 rfl ?_
          refine hC.getfield dX9_readColours_58 lfX9_109 rfl rfl ?_
          refine hC.aload_n dX9_readColours_61 rfl ?_
          refine hC.getfield dX9_readColours_62 lfX9_97 rfl rfl ?_
          refine hC.n_ge (by omega) (by omega) dX9_readColours_65 (tgt := 72) rfl (fun c2 => ?_) (fun c2 => ?_)
          · omega
          · refine hC.iconst dX9_readColours_68 (v := nI 1) rfl ?_
            refine hC.goto dX9_readColours_69 (tgt := 73) rfl ?_
            refine hC.istore_n dX9_readColours_73 (by decide) ?_
            refine hC.iload_n dX9_readColours_74 rfl ?_
            refine hC.if_eq dX9_readColours_75 (tgt := 97) rfl (fun c => absurd c (by decide)) (fun _ => ?_)
            refine hC.aload_n dX9_readColours_78 rfl ?_
            refine hC.getfield dX9_readColours_79 lfX9_13 rfl rfl ?_
            refine hC.iconst dX9_readColours_82 (v := nI 0) rfl ?_
            refine hC.iaN (f := fun j => nI ((R3 2) j)) dX9_readColours_83 rfl ⟨by omega, by decide⟩ ?_
            refine hC.iconst dX9_readColours_84 (v := nI 4) rfl ?_
            refine hC.n_ne (a := R3 2 0) (b := 4) (by omega) (by omega) dX9_readColours_85 (tgt := 97) rfl (fun c3 => ?_) (fun c3 => ?_)
            · rw [if_pos ⟨c1.1, c1.2, by omega⟩] at heq
              refine hC.aload_n dX9_readColours_97 rfl ?_
              refine hC.dup dX9_readColours_98 rfl ?_
              refine hC.getfield dX9_readColours_99 lfX9_109 rfl rfl ?_
              refine hC.iload_n dX9_readColours_102 rfl ?_
              refine hC.if_eq dX9_readColours_103 (tgt := 117) rfl (fun c => absurd c (by decide)) (fun _ => ?_)
              refine hC.aload_n dX9_readColours_106 rfl ?_
              refine hC.getfield dX9_readColours_107 lfX9_103 rfl rfl ?_
              refine hC.nnz (x := 0) (by omega) dX9_readColours_110 (tgt := 117) rfl (fun c => absurd rfl c) (fun _ => ?_)
              refine hC.iconst dX9_readColours_113 (v := nI 1) rfl ?_
              refine hC.goto dX9_readColours_114 (tgt := 118) rfl ?_
              refine hC.iadd dX9_readColours_118 ?_
              rw [nI_add]
              refine hC.putI dX9_readColours_119 lpX9_109 rfl rfl rfl (Nat.le_of_ble_eq_true rfl) ?_
              refine hC.goto dX9_readColours_122 (tgt := 2) rfl ?_
              obtain ⟨r2, rfl⟩ : ∃ r2, r = r2 + 1 := ⟨r - 1, by omega⟩
              exact hC.loc rfl (ih r2 (by omega) (adC T2 v) R3 (j + 1) q3 jb (show T2.2 0 + 1 + (r2 + 1) = 4 by omega) (by omega) hT3 hc3 hB3 hK3 heq)
            · rw [if_neg (fun z => by omega)] at heq
              refine hC.aload_n dX9_readColours_88 rfl ?_
              refine hC.iconst dX9_readColours_89 (v := nI 1) rfl ?_
              refine hC.aload_n dX9_readColours_90 rfl ?_
              refine hC.getfield dX9_readColours_91 lfX9_109 rfl rfl ?_
              refine hC.wuVs dX9_readColours_94 lmX9_124 mkX9_fails svX9_fails (ct_X9_fails l R3 F L n j 0 q3 jb 1 j (by omega)) ⟨Nat.le_of_ble_eq_true rfl, Nat.le_of_ble_eq_true rfl⟩ rfl rfl (Nat.le_of_ble_eq_true rfl) rfl rfl ?_
              refine hC.aload_n dX9_readColours_97 rfl ?_
              refine hC.dup dX9_readColours_98 rfl ?_
              refine hC.getfield dX9_readColours_99 lfX9_109 rfl rfl ?_
              refine hC.iload_n dX9_readColours_102 rfl ?_
              refine hC.if_eq dX9_readColours_103 (tgt := 117) rfl (fun c => absurd c (by decide)) (fun _ => ?_)
              refine hC.aload_n dX9_readColours_106 rfl ?_
              refine hC.getfield dX9_readColours_107 lfX9_103 rfl rfl ?_
              refine hC.if_ne dX9_readColours_110 (tgt := 117) rfl (fun _ => ?_) (fun c => absurd c (by decide))
              refine hC.iconst dX9_readColours_117 (v := nI 0) rfl ?_
              refine hC.iadd dX9_readColours_118 ?_
              rw [nI_add]
              refine hC.putI dX9_readColours_119 lpX9_109 rfl rfl rfl (Nat.le_of_ble_eq_true rfl) ?_
              refine hC.goto dX9_readColours_122 (tgt := 2) rfl ?_
              refine hC.iload_n dX9_readColours_2 rfl ?_
              refine hC.if_eq dX9_readColours_3 (tgt := 125) rfl (fun c => absurd c (by decide)) (fun _ => ?_)
              refine hC.aload_n dX9_readColours_6 rfl ?_
              refine hC.getfield dX9_readColours_7 lfX9_103 rfl rfl ?_
              refine hC.if_ne dX9_readColours_10 (tgt := 125) rfl (fun _ => ?_) (fun c => absurd c (by decide))
              exact hC.loc rfl (kerr R3 (j + 0) 1 j jb heq (by decide) (by decide) hK3 hB3)
  refine hC.iconst dX9_readColours_0 (v := nI 1) rfl ?_
  refine hC.istore_n dX9_readColours_1 (by decide) ?_
  exact hC.loc rfl (loop 3 T R i q b (by omega) hi hT hc hB (rdK_rf R) rfl)
/-- where an entry goes -/
def enI (T : ToldT) (wd : Nat) : Nat := if wd = 4 then 12 + T.2 3 else T.2 2
theorem tdM_adE {R R2 : Nat → Nat → Nat} {T : ToldT} {wd a b s : Nat} (h : tdM R T) (hc : T.2 2 ≤ 12) (h2 : R2 2 = R 2) (h3 : R2 3 = R 3) (h4 : R2 4 = R 4) (h5 : ∀ k, R2 5 k = if k = enI T wd then a else R 5 k) (h6 : ∀ k, R2 6 k = if k = enI T wd then b else R 6 k) (h7 : ∀ k, R2 7 k = if k = enI T wd then s else R 7 k) (hw : wd ≠ 4 → T.2 2 < 12) : tdM (upR R2 2 (updN (R 2) (if wd = 4 then 3 else 2) (R 2 (if wd = 4 then 3 else 2) + 1))) (adE T wd a b s) := by
  obtain ⟨g1, g2, g3, g4⟩ := h
  have f2 := g1 2 (by decide)
  have f3 := g1 3 (by decide)
  have hcc : (wd = 4 ∧ (if wd = 4 then 3 else 2) = 3 ∧ enI T wd = 12 + T.2 3) ∨ (wd ≠ 4 ∧ (if wd = 4 then 3 else 2) = 2 ∧ enI T wd = T.2 2) := by
    unfold enI
    by_cases h4w : wd = 4
    · exact Or.inl ⟨h4w, if_pos h4w, if_pos h4w⟩
    · exact Or.inr ⟨h4w, if_neg h4w, if_neg h4w⟩
  have had : adE T wd a b s = (upR (upR (upR T.1 2 (updN (T.1 2) (enI T wd) a)) 3 (updN (T.1 3) (enI T wd) b)) 4 (updN (T.1 4) (enI T wd) s), updN T.2 (if wd = 4 then 3 else 2) (T.2 (if wd = 4 then 3 else 2) + 1)) := rfl
  rw [had]
  generalize (if wd = 4 then 3 else 2) = c at hcc ⊢
  generalize enI T wd = ki at hcc h5 h6 h7 ⊢
  have hc4 : c < 4 := by omega
  have e : R 2 c = T.2 c := g1 c hc4
  refine ⟨fun i hi => ?_, fun k hk => ?_, fun k hk => ?_, fun k hk => ?_⟩
  · show updN (R 2) c (R 2 c + 1) i = updN T.2 c (T.2 c + 1) i
    rw [e]
    by_cases ei : i = c
    · rw [ei, updN_s, updN_s]
    · rw [updN_n ei, updN_n ei]
      exact g1 i hi
  · show R2 3 k = T.1 0 k
    have hk : k < updN T.2 c (T.2 c + 1) 0 := hk
    rw [updN_n (by omega)] at hk
    rw [h3]; exact g2 k hk
  · show R2 4 k = T.1 1 k
    have hk : k < updN T.2 c (T.2 c + 1) 1 := hk
    rw [updN_n (by omega)] at hk
    rw [h4]; exact g3 k hk
  · show R2 5 k = updN (T.1 2) ki a k ∧ R2 6 k = updN (T.1 3) ki b k ∧ R2 7 k = updN (T.1 4) ki s k
    have hk : k < updN T.2 c (T.2 c + 1) 2 ∨ (12 ≤ k ∧ k < 12 + updN T.2 c (T.2 c + 1) 3) := hk
    rw [h5, h6, h7]
    by_cases ek : k = ki
    · rw [if_pos ek, if_pos ek, if_pos ek, ek, updN_s, updN_s, updN_s]
      exact ⟨rfl, rfl, rfl⟩
    · rw [if_neg ek, if_neg ek, if_neg ek, updN_n ek, updN_n ek, updN_n ek]
      apply g4 k
      rcases hcc with ⟨h4w, hc3, hk3⟩ | ⟨h4w, hc2, hk2⟩
      · rw [hc3, updN_n (by decide), updN_s] at hk
        omega
      · rw [hc2, updN_s, updN_n (by decide)] at hk
        omega
def seM (R : Nat → Nat → Nat) (F : Nat → Nat) (L : Nat → Int64) (n wd : Nat) (x : Except FaT (ToldT × Nat)) (h2 : List va_E) : Prop := match x with
  | .error (k, p) => ∃ R2 i2 b2, k ≠ 0 ∧ k < 10 ∧ rdK R R2 ∧ rdB R2 ∧ R2 2 = R 2 ∧ h2 = mpW R2 F L n i2 k p b2
  | .ok (T2, i2) => ∃ R2 q2 b2, i2 ≤ n ∧ rdK R R2 ∧ rdB R2 ∧ R2 2 = R 2 ∧ tdM (upR R2 2 (updN (R 2) (if wd = 4 then 3 else 2) (R 2 (if wd = 4 then 3 else 2) + 1))) T2 ∧ h2 = mpW R2 F L n i2 0 q2 b2
theorem upd17 {f : Nat → Nat} {s v : Nat} (hf : ∀ j, f j < 131072) (hv : v < 131072) : ∀ j, updN f s v j < 131072 := fun j => by
  have := hf j
  unfold updN; split <;> omega
theorem enT_lt {t : Nat → Nat} {n i i2 : Nat} (h : enT t n i = .ok i2) : i2 ≤ n := by
  unfold enT at h
  split at h
  · have := Except.ok.inj h; omega
  · cases h
set_option maxHeartbeats 4000000 in
set_option maxRecDepth 20000 in
theorem ct_X9_readSeam (l : Launch) (R : Nat → Nat → Nat) (F : Nat → Nat) (L : Nat → Int64) (n i q b wd : Nat) (T : ToldT) (hn : n ≤ 500) (hi : i ≤ n) (ht : ∀ j, R 1 j < 256) (hT : tdM R T) (hc : TC T) (hB : rdB R) (hwd : wd = 2 ∨ wd = 3 ∨ wd = 4) (hc2 : wd ≠ 4 → T.2 2 < 12) (hc3 : wd = 4 → T.2 3 < 8) : Ct l 3 yX9_readSeam cX9_readSeam 4 none [.ref 0, .int (nI wd), .int (nI (enI T wd))] (mpW R F L n i 0 q b) (fun r h2 => r = none ∧ seM R F L n wd (seT (R 1) n T wd i) h2) := by
  refine Ct.of (by decide) (Nat.le_of_ble_eq_true rfl) (fun K hC hR => ?_)
  show K 0 [(0, .ref 0), (1, .int (nI wd)), (2, .int (nI (enI T wd)))] [] _
  obtain ⟨t, htg⟩ : ∃ t, R 1 = t := ⟨_, rfl⟩
  rw [htg] at ht hR
  have h21 := hT.1 1 (by decide)
  have htc := hc.2.1
  have hki : enI T wd < 20 := by
    have := hc2; have := hc3; have := hc.2.2.1
    unfold enI; split <;> omega
  obtain ⟨ki, hkg⟩ : ∃ ki, enI T wd = ki := ⟨_, rfl⟩
  rw [hkg] at hki ⊢
  have hend : ∀ (h2 : List va_E), seM R F L n wd (seT t n T wd i) h2 → K 133 [(0, .ref 0)] [] h2 := by
    intro h2 hs
    exact hR.return_ dX9_readSeam_133 ⟨rfl, hs⟩
  have k99e : ∀ (R2 : Nat → Nat → Nat) i2 w q2 b2, seT t n T wd i = .error (w, q2) → w ≠ 0 → w < 10 → rdK R R2 → rdB R2 → R2 2 = R 2 → K 99 [(0, .ref 0), (1, .int (nI wd)), (2, .int (nI ki))] [] (mpW R2 F L n i2 w q2 b2) := by
    intro R2 i2 w q2 b2 he hw0 hw10 hK2 hB2 h22
    have k126 : K 126 [(0, .ref 0), (1, .int (nI wd)), (2, .int (nI ki))] [.int (nI 0), .int (nI ki), .ref 7] (mpW R2 F L n i2 w q2 b2) := by
      refine hC.isN dX9_readSeam_126 rfl ⟨by omega, by decide⟩ ?_
      refine hC.aload_n dX9_readSeam_127 rfl ?_
      refine hC.bipush dX9_readSeam_128 (v := nI 59) rfl ?_
      refine hC.wuVs dX9_readSeam_130 lmX9_156 mkX9_must svX9_must (ct_X9_must0 l (upR R2 7 (updN (R2 7) ki 0)) F L n i2 w q2 b2 hw0 hw10 (nI 59)) ⟨Nat.le_of_ble_eq_true rfl, Nat.le_of_ble_eq_true rfl⟩ rfl rfl (Nat.le_of_ble_eq_true rfl) rfl rfl ?_
      refine hC.loc rfl (hend _ ?_)
      rw [he]
      exact ⟨upR R2 7 (updN (R2 7) ki 0), i2, b2, hw0, hw10, rdK_up _ hK2 (by decide), rdB_hi hB2 (upd17 (fun s => (hB2 s).2.2) (by decide)), h22, rfl⟩
    refine hC.aload_n dX9_readSeam_99 rfl ?_
    refine hC.getfield dX9_readSeam_100 lfX9_28 rfl rfl ?_
    refine hC.iload_n dX9_readSeam_103 rfl ?_
    refine hC.iload_n dX9_readSeam_104 rfl ?_
    refine hC.iconst dX9_readSeam_105 (v := nI 4) rfl ?_
    refine hC.n_ne (by omega) (by omega) dX9_readSeam_106 (tgt := 119) rfl (fun c => ?_) (fun c => ?_)
    · refine hC.aload_n dX9_readSeam_119 rfl ?_
      refine hC.iconst dX9_readSeam_120 (v := nI 1) rfl ?_
      refine hC.bipush dX9_readSeam_121 (v := nI 9) rfl ?_
      refine hC.wrVs dX9_readSeam_123 lmX9_152 mkX9_number svX9_number (ct_X9_number0 l R2 F L n i2 w q2 b2 hw0 hw10 (nI 1) (nI 9)) ⟨Nat.le_of_ble_eq_true rfl, Nat.le_of_ble_eq_true rfl⟩ rfl rfl (Nat.le_of_ble_eq_true rfl) rfl rfl ?_
      exact hC.loc rfl k126
    · refine hC.aload_n dX9_readSeam_109 rfl ?_
      refine hC.iconst dX9_readSeam_110 (v := nI 0) rfl ?_
      refine hC.bipush dX9_readSeam_111 (v := nI 99) rfl ?_
      refine hC.wrVs dX9_readSeam_113 lmX9_152 mkX9_number svX9_number (ct_X9_number0 l R2 F L n i2 w q2 b2 hw0 hw10 (nI 0) (nI 99)) ⟨Nat.le_of_ble_eq_true rfl, Nat.le_of_ble_eq_true rfl⟩ rfl rfl (Nat.le_of_ble_eq_true rfl) rfl rfl ?_
      refine hC.goto dX9_readSeam_116 (tgt := 126) rfl ?_
      exact hC.loc rfl k126
  have k77 : ∀ (R2 : Nat → Nat → Nat) i2 w q2 b2 z, z < 131072 → rdB R2 → K 99 [(0, .ref 0), (1, .int (nI wd)), (2, .int (nI ki))] [] (mpW (upR R2 6 (updN (R2 6) ki (if z = R2 5 ki then 8 else z))) F L n i2 w q2 b2) → K 77 [(0, .ref 0), (1, .int (nI wd)), (2, .int (nI ki)), (3, .int (nI z))] [] (mpW R2 F L n i2 w q2 b2) := by
    intro R2 i2 w q2 b2 z hz hB2 hk
    have h5 := (hB2 ki).1
    refine hC.aload_n dX9_readSeam_77 rfl ?_
    refine hC.getfield dX9_readSeam_78 lfX9_25 rfl rfl ?_
    refine hC.iload_n dX9_readSeam_81 rfl ?_
    refine hC.iload_n dX9_readSeam_82 rfl ?_
    refine hC.aload_n dX9_readSeam_83 rfl ?_
    refine hC.getfield dX9_readSeam_84 lfX9_22 rfl rfl ?_
    refine hC.iload_n dX9_readSeam_87 rfl ?_
    refine hC.iaN (f := fun j => nI ((R2 5) j)) dX9_readSeam_88 rfl ⟨by omega, by decide⟩ ?_
    refine hC.n_ne (by omega) (by omega) dX9_readSeam_89 (tgt := 97) rfl (fun c => ?_) (fun c => ?_)
    · rw [if_neg c] at hk
      refine hC.iload_n dX9_readSeam_97 rfl ?_
      refine hC.isN dX9_readSeam_98 rfl ⟨by omega, by decide⟩ ?_
      exact hC.loc rfl hk
    · rw [if_pos c] at hk
      refine hC.bipush dX9_readSeam_92 (v := nI 8) rfl ?_
      refine hC.goto dX9_readSeam_94 (tgt := 98) rfl ?_
      refine hC.isN dX9_readSeam_98 rfl ⟨by omega, by decide⟩ ?_
      exact hC.loc rfl hk
  have k77e : ∀ (R2 : Nat → Nat → Nat) i2 w q2 b2 z, z < 131072 → seT t n T wd i = .error (w, q2) → w ≠ 0 → w < 10 → rdK R R2 → rdB R2 → R2 2 = R 2 → K 77 [(0, .ref 0), (1, .int (nI wd)), (2, .int (nI ki)), (3, .int (nI z))] [] (mpW R2 F L n i2 w q2 b2) := by
    intro R2 i2 w q2 b2 z hz he hw0 hw10 hK2 hB2 h22
    refine k77 R2 i2 w q2 b2 z hz hB2 (k99e _ i2 w q2 b2 he hw0 hw10 (rdK_up _ hK2 (by decide)) (rdB_hi hB2 (upd17 (fun s => (hB2 s).2.1) ?_)) h22)
    split <;> omega
  have k99o : ∀ (R2 : Nat → Nat → Nat) i2 q2 b2 a bb, a < 131072 → i2 ≤ n → seT t n T wd i = bdT t n T wd a bb i2 → rdK R R2 → rdB R2 → R2 2 = R 2 → R2 3 = R 3 → R2 4 = R 4 → R2 7 = R 7 → (∀ k, R2 5 k = if k = enI T wd then a else R 5 k) → (∀ k, R2 6 k = if k = enI T wd then bb else R 6 k) → K 99 [(0, .ref 0), (1, .int (nI wd)), (2, .int (nI ki))] [] (mpW R2 F L n i2 0 q2 b2) := by
    intro R2 i2 q2 b2 a bb ha hi2 he hK2 hB2 h22 h23 h24 h27 h25 h26
    have hR2 : R2 1 = t := by rw [rdC hK2, htg]
    have hst : bdT t n T wd a bb i2 = match nuT t n (if wd = 4 then 0 else 1) (if wd = 4 then 100 else 10) i2 with
      | .error x => .error x
      | .ok (s, _, e) => match enT t n e with
        | .error x => .error x
        | .ok i3 => .ok (adE T wd a bb s, i3) := rfl
    rw [hst] at he
    have k126 : ∀ r h2, nuP R2 F L n (nuT t n (if wd = 4 then 0 else 1) (if wd = 4 then 100 else 10) i2) r h2 → K 126 [(0, .ref 0), (1, .int (nI wd)), (2, .int (nI ki))] (r.toList ++ [.int (nI ki), .ref 7]) h2 := by
      intro r h2 hp
      cases hnu : nuT t n (if wd = 4 then 0 else 1) (if wd = 4 then 100 else 10) i2 with
      | error x =>
        obtain ⟨k, p⟩ := x
        rw [hnu] at hp he
        obtain ⟨v, i3, b3, hv, hi3, hk0, hk10, rfl, rfl⟩ := hp
        have he : seT t n T wd i = .error (k, p) := he
        show K 126 _ [.int (nI v), .int (nI ki), .ref 7] _
        refine hC.isN dX9_readSeam_126 rfl ⟨by omega, by decide⟩ ?_
        refine hC.aload_n dX9_readSeam_127 rfl ?_
        refine hC.bipush dX9_readSeam_128 (v := nI 59) rfl ?_
        refine hC.wuVs dX9_readSeam_130 lmX9_156 mkX9_must svX9_must (ct_X9_must0 l (upR R2 7 (updN (R2 7) ki v)) F L n i3 k p b3 hk0 hk10 (nI 59)) ⟨Nat.le_of_ble_eq_true rfl, Nat.le_of_ble_eq_true rfl⟩ rfl rfl (Nat.le_of_ble_eq_true rfl) rfl rfl ?_
        refine hC.loc rfl (hend _ ?_)
        rw [he]
        exact ⟨upR R2 7 (updN (R2 7) ki v), i3, b3, hk0, hk10, rdK_up _ hK2 (by decide), rdB_hi hB2 (upd17 (fun s => (hB2 s).2.2) hv), h22, rfl⟩
      | ok y =>
        obtain ⟨v, jb, e⟩ := y
        rw [hnu] at hp he
        obtain ⟨hv, hen, rfl, q3, rfl⟩ := hp
        have he : seT t n T wd i = match enT t n e with
          | .error x => .error x
          | .ok i3 => .ok (adE T wd a bb v, i3) := he
        show K 126 _ [.int (nI v), .int (nI ki), .ref 7] _
        have hB3 : rdB (upR R2 7 (updN (R2 7) ki v)) := rdB_hi hB2 (upd17 (fun s => (hB2 s).2.2) hv)
        have hK3 : rdK R (upR R2 7 (updN (R2 7) ki v)) := rdK_up _ hK2 (by decide)
        refine hC.isN dX9_readSeam_126 rfl ⟨by omega, by decide⟩ ?_
        refine hC.aload_n dX9_readSeam_127 rfl ?_
        refine hC.bipush dX9_readSeam_128 (v := nI 59) rfl ?_
        refine hC.callVs dX9_readSeam_130 lmX9_156 mkX9_must svX9_must (ct_X9_must l (upR R2 7 (updN (R2 7) ki v)) F L n e q3 jb hn hen (fun j => by show R2 1 j < 256; rw [hR2]; exact ht j)) ⟨Nat.le_of_ble_eq_true rfl, Nat.le_of_ble_eq_true rfl⟩ rfl rfl (Nat.le_of_ble_eq_true rfl) rfl rfl (fun r h2 hp => ?_)
        obtain ⟨rfl, hp⟩ := hp
        rw [show (upR R2 7 (updN (R2 7) ki v)) 1 = t from hR2] at hp
        refine hC.loc rfl (hend _ ?_)
        cases hen2 : enT t n e with
        | error x =>
          obtain ⟨k, p⟩ := x
          rw [hen2] at hp he
          obtain ⟨i4, b4, hi4, rfl⟩ := hp
          have he : seT t n T wd i = .error (k, p) := he
          rw [he]
          have hkp : k = 1 := by
            unfold enT at hen2
            split at hen2
            · cases hen2
            · cases hen2; rfl
          exact ⟨_, i4, b4, by omega, by omega, hK3, hB3, h22, rfl⟩
        | ok i4 =>
          rw [hen2] at hp he
          obtain ⟨q4, b4, rfl⟩ := hp
          have he : seT t n T wd i = .ok (adE T wd a bb v, i4) := he
          rw [he]
          refine ⟨_, q4, b4, enT_lt hen2, hK3, hB3, h22, ?_, rfl⟩
          refine tdM_adE hT hc.2.2.1 h22 h23 h24 h25 h26 (fun k => ?_) hc2
          show updN (R2 7) ki v k = _
          unfold updN
          rw [h27, hkg]
    refine hC.aload_n dX9_readSeam_99 rfl ?_
    refine hC.getfield dX9_readSeam_100 lfX9_28 rfl rfl ?_
    refine hC.iload_n dX9_readSeam_103 rfl ?_
    refine hC.iload_n dX9_readSeam_104 rfl ?_
    refine hC.iconst dX9_readSeam_105 (v := nI 4) rfl ?_
    refine hC.n_ne (by omega) (by omega) dX9_readSeam_106 (tgt := 119) rfl (fun c => ?_) (fun c => ?_)
    · rw [if_neg c, if_neg c] at k126
      refine hC.aload_n dX9_readSeam_119 rfl ?_
      refine hC.iconst dX9_readSeam_120 (v := nI 1) rfl ?_
      refine hC.bipush dX9_readSeam_121 (v := nI 9) rfl ?_
      rw [n9]
      refine hC.callVs dX9_readSeam_123 lmX9_152 mkX9_number svX9_number (ct_X9_number l R2 F L n i2 q2 b2 1 10 hn hi2 (by rw [hR2]; exact ht) (by decide) (by decide)) ⟨Nat.le_of_ble_eq_true rfl, Nat.le_of_ble_eq_true rfl⟩ rfl rfl (Nat.le_of_ble_eq_true rfl) rfl rfl (fun r h2 hp => ?_)
      rw [hR2] at hp
      exact hC.loc rfl (k126 r h2 hp)
    · rw [if_pos c, if_pos c] at k126
      refine hC.aload_n dX9_readSeam_109 rfl ?_
      refine hC.iconst dX9_readSeam_110 (v := nI 0) rfl ?_
      refine hC.bipush dX9_readSeam_111 (v := nI 99) rfl ?_
      rw [n99]
      refine hC.callVs dX9_readSeam_113 lmX9_152 mkX9_number svX9_number (ct_X9_number l R2 F L n i2 q2 b2 0 100 hn hi2 (by rw [hR2]; exact ht) (by decide) (by decide)) ⟨Nat.le_of_ble_eq_true rfl, Nat.le_of_ble_eq_true rfl⟩ rfl rfl (Nat.le_of_ble_eq_true rfl) rfl rfl (fun r h2 hp => ?_)
      rw [hR2] at hp
      refine hC.goto dX9_readSeam_116 (tgt := 126) rfl ?_
      exact hC.loc rfl (k126 r h2 hp)
  have hseT : seT t n T wd i = match nuT t n 0 (T.2 1) i with
    | .error x => .error x
    | .ok (a, _, e) => if wd = 2 then bdT t n T wd a 8 e else match nuT t n 0 (T.2 1) e with
      | .error x => .error x
      | .ok (b, jb, e2) => if wd = 3 ∧ b = a then .error (4, jb) else bdT t n T wd a (if b = a then 8 else b) e2 := rfl
  have k18 : ∀ a i2 w q2 b2, K 27 [(0, .ref 0), (1, .int (nI wd)), (2, .int (nI ki))] [] (mpW (upR (upR R 5 (updN (R 5) ki a)) 6 (updN (R 6) ki 8)) F L n i2 w q2 b2) → K 18 [(0, .ref 0), (1, .int (nI wd)), (2, .int (nI ki))] [.int (nI a), .int (nI ki), .ref 5] (mpW R F L n i2 w q2 b2) := by
    intro a i2 w q2 b2 hk
    refine hC.isN dX9_readSeam_18 rfl ⟨by omega, by decide⟩ ?_
    refine hC.aload_n dX9_readSeam_19 rfl ?_
    refine hC.getfield dX9_readSeam_20 lfX9_25 rfl rfl ?_
    refine hC.iload_n dX9_readSeam_23 rfl ?_
    refine hC.bipush dX9_readSeam_24 (v := nI 8) rfl ?_
    refine hC.isN dX9_readSeam_26 rfl ⟨by omega, by decide⟩ ?_
    exact hC.loc rfl hk
  have hB3 : ∀ a, a < 131072 → rdB (upR (upR R 5 (updN (R 5) ki a)) 6 (updN (R 6) ki 8)) := fun a ha => rdB_hi (rdB_hi hB (upd17 (fun s => (hB s).1) ha)) (upd17 (fun s => (hB s).2.1) (by decide))
  have hK3 : ∀ a, rdK R (upR (upR R 5 (updN (R 5) ki a)) 6 (updN (R 6) ki 8)) := fun a => rdK_up _ (rdK_up _ (rdK_rf R) (by decide)) (by decide)
  refine hC.aload_n dX9_readSeam_0 rfl ?_
  refine hC.getfield dX9_readSeam_1 lfX9_22 rfl rfl ?_
  refine hC.iload_n dX9_readSeam_4 rfl ?_
  refine hC.aload_n dX9_readSeam_5 rfl ?_
  refine hC.iconst dX9_readSeam_6 (v := nI 0) rfl ?_
  refine hC.aload_n dX9_readSeam_7 rfl ?_
  refine hC.getfield dX9_readSeam_8 lfX9_13 rfl rfl ?_
  refine hC.iconst dX9_readSeam_11 (v := nI 1) rfl ?_
  refine hC.iaN (f := fun j => nI ((R 2) j)) dX9_readSeam_12 rfl ⟨by omega, by decide⟩ ?_
  refine hC.iconst dX9_readSeam_13 (v := nI 1) rfl ?_
  refine hC.isub dX9_readSeam_14 ?_
  refine hC.callVs dX9_readSeam_15 lmX9_152 mkX9_number svX9_number (ct_X9_number l R F L n i q b 0 (R 2 1) hn hi (by rw [htg]; exact ht) (by decide) (by omega)) ⟨Nat.le_of_ble_eq_true rfl, Nat.le_of_ble_eq_true rfl⟩ rfl rfl (Nat.le_of_ble_eq_true rfl) rfl rfl (fun r h2 hp => ?_)
  rw [htg, h21] at hp
  cases hnu : nuT t n 0 (T.2 1) i with
  | error x =>
    obtain ⟨k, p⟩ := x
    rw [hnu] at hp hseT
    obtain ⟨v, i3, b3, hv, hi3, hk0, hk10, rfl, rfl⟩ := hp
    have he : seT t n T wd i = .error (k, p) := hseT
    refine hC.loc rfl (k18 v i3 k p b3 ?_)
    refine hC.iload_n dX9_readSeam_27 rfl ?_
    refine hC.iconst dX9_readSeam_28 (v := nI 2) rfl ?_
    refine hC.n_le (by omega) (by omega) dX9_readSeam_29 (tgt := 99) rfl (fun c => ?_) (fun c => ?_)
    · exact hC.loc rfl (k99e _ i3 k p b3 he hk0 hk10 (hK3 v) (hB3 v hv) rfl)
    · refine hC.aload_n dX9_readSeam_32 rfl ?_
      refine hC.iconst dX9_readSeam_33 (v := nI 0) rfl ?_
      refine hC.aload_n dX9_readSeam_34 rfl ?_
      refine hC.getfield dX9_readSeam_35 lfX9_13 rfl rfl ?_
      refine hC.iconst dX9_readSeam_38 (v := nI 1) rfl ?_
      refine hC.iaN (f := fun j => nI ((R 2) j)) dX9_readSeam_39 rfl ⟨by omega, by decide⟩ ?_
      refine hC.iconst dX9_readSeam_40 (v := nI 1) rfl ?_
      refine hC.isub dX9_readSeam_41 ?_
      refine hC.wrVs dX9_readSeam_42 lmX9_152 mkX9_number svX9_number (ct_X9_number0 l (upR (upR R 5 (updN (R 5) ki v)) 6 (updN (R 6) ki 8)) F L n i3 k p b3 hk0 hk10 (nI 0) (nI (R 2 1) - nI 1)) ⟨Nat.le_of_ble_eq_true rfl, Nat.le_of_ble_eq_true rfl⟩ rfl rfl (Nat.le_of_ble_eq_true rfl) rfl rfl ?_
      refine hC.istore_n dX9_readSeam_45 (by decide) ?_
      refine hC.aload_n dX9_readSeam_46 rfl ?_
      refine hC.getfield dX9_readSeam_47 lfX9_103 rfl rfl ?_
      refine hC.nnz (x := k) (by omega) dX9_readSeam_50 (tgt := 77) rfl (fun _ => ?_) (fun c => absurd c hk0)
      exact hC.loc rfl (k77e _ i3 k p b3 0 (by decide) he hk0 hk10 (hK3 v) (hB3 v hv) rfl)
  | ok y =>
    obtain ⟨a, ja, e⟩ := y
    rw [hnu] at hp hseT
    obtain ⟨ha, hen, rfl, q3, rfl⟩ := hp
    have hseT : seT t n T wd i = if wd = 2 then bdT t n T wd a 8 e else match nuT t n 0 (T.2 1) e with
      | .error x => .error x
      | .ok (b, jb, e2) => if wd = 3 ∧ b = a then .error (4, jb) else bdT t n T wd a (if b = a then 8 else b) e2 := hseT
    have h25 : ∀ k, updN (R 5) ki a k = if k = enI T wd then a else R 5 k := fun k => by rw [hkg]; rfl
    refine hC.loc rfl (k18 a e 0 q3 ja ?_)
    refine hC.iload_n dX9_readSeam_27 rfl ?_
    refine hC.iconst dX9_readSeam_28 (v := nI 2) rfl ?_
    refine hC.n_le (by omega) (by omega) dX9_readSeam_29 (tgt := 99) rfl (fun c => ?_) (fun c => ?_)
    · have hw2 : wd = 2 := by omega
      rw [if_pos hw2] at hseT
      exact hC.loc rfl (k99o _ e q3 ja a 8 ha hen hseT (hK3 a) (hB3 a ha) rfl rfl rfl rfl h25 (fun k => by rw [hkg]; rfl))
    · rw [if_neg (by omega)] at hseT
      refine hC.aload_n dX9_readSeam_32 rfl ?_
      refine hC.iconst dX9_readSeam_33 (v := nI 0) rfl ?_
      refine hC.aload_n dX9_readSeam_34 rfl ?_
      refine hC.getfield dX9_readSeam_35 lfX9_13 rfl rfl ?_
      refine hC.iconst dX9_readSeam_38 (v := nI 1) rfl ?_
      refine hC.iaN (f := fun j => nI ((R 2) j)) dX9_readSeam_39 rfl ⟨by omega, by decide⟩ ?_
      refine hC.iconst dX9_readSeam_40 (v := nI 1) rfl ?_
      refine hC.isub dX9_readSeam_41 ?_
      refine hC.callVs dX9_readSeam_42 lmX9_152 mkX9_number svX9_number (ct_X9_number l (upR (upR R 5 (updN (R 5) ki a)) 6 (updN (R 6) ki 8)) F L n e q3 ja 0 (R 2 1) hn hen (fun j => by show R 1 j < 256; rw [htg]; exact ht j) (by decide) (by omega)) ⟨Nat.le_of_ble_eq_true rfl, Nat.le_of_ble_eq_true rfl⟩ rfl rfl (Nat.le_of_ble_eq_true rfl) rfl rfl (fun r h2 hp => ?_)
      rw [show (upR (upR R 5 (updN (R 5) ki a)) 6 (updN (R 6) ki 8)) 1 = t from htg, h21] at hp
      cases hnu2 : nuT t n 0 (T.2 1) e with
      | error x =>
        obtain ⟨k, p⟩ := x
        rw [hnu2] at hp hseT
        obtain ⟨v, i3, b3, hv, hi3, hk0, hk10, rfl, rfl⟩ := hp
        have he : seT t n T wd i = .error (k, p) := hseT
        show K 45 _ [.int (nI v)] _
        refine hC.istore_n dX9_readSeam_45 (by decide) ?_
        refine hC.aload_n dX9_readSeam_46 rfl ?_
        refine hC.getfield dX9_readSeam_47 lfX9_103 rfl rfl ?_
        refine hC.nnz (x := k) (by omega) dX9_readSeam_50 (tgt := 77) rfl (fun _ => ?_) (fun c => absurd c hk0)
        exact hC.loc rfl (k77e _ i3 k p b3 v hv he hk0 hk10 (hK3 a) (hB3 a ha) rfl)
      | ok y =>
        obtain ⟨bb, jb, e2⟩ := y
        rw [hnu2] at hp hseT
        obtain ⟨hbb, hen2, rfl, q4, rfl⟩ := hp
        have hseT : seT t n T wd i = if wd = 3 ∧ bb = a then .error (4, jb) else bdT t n T wd a (if bb = a then 8 else bb) e2 := hseT
        have k77o : ¬ (wd = 3 ∧ bb = a) → K 77 [(0, .ref 0), (1, .int (nI wd)), (2, .int (nI ki)), (3, .int (nI bb))] [] (mpW (upR (upR R 5 (updN (R 5) ki a)) 6 (updN (R 6) ki 8)) F L n e2 0 q4 jb) := by
          intro hno
          rw [if_neg hno] at hseT
          have h5k : (upR (upR R 5 (updN (R 5) ki a)) 6 (updN (R 6) ki 8)) 5 ki = a := updN_s (R 5) ki a
          refine k77 _ e2 0 q4 jb bb hbb (hB3 a ha) ?_
          rw [h5k]
          refine k99o _ e2 q4 jb a (if bb = a then 8 else bb) ha hen2 hseT (rdK_up _ (hK3 a) (by decide)) (rdB_hi (hB3 a ha) (upd17 (fun s => (hB3 a ha s).2.1) ?_)) rfl rfl rfl rfl h25 (fun k => ?_)
          · split <;> omega
          · rw [hkg]
            show updN (updN (R 6) ki 8) ki (if bb = a then 8 else bb) k = _
            rw [updN_u]
            rfl
        show K 45 _ [.int (nI bb)] _
        refine hC.istore_n dX9_readSeam_45 (by decide) ?_
        refine hC.aload_n dX9_readSeam_46 rfl ?_
        refine hC.getfield dX9_readSeam_47 lfX9_103 rfl rfl ?_
        refine hC.nnz (x := 0) (by omega) dX9_readSeam_50 (tgt := 77) rfl (fun c => absurd rfl c) (fun _ => ?_)
        refine hC.iload_n dX9_readSeam_53 rfl ?_
        refine hC.iconst dX9_readSeam_54 (v := nI 3) rfl ?_
        refine hC.n_ne (by omega) (by omega) dX9_readSeam_55 (tgt := 77) rfl (fun c3 => ?_) (fun c3 => ?_)
        · exact hC.loc rfl (k77o (fun z => c3 z.1))
        · refine hC.iload_n dX9_readSeam_58 rfl ?_
          refine hC.aload_n dX9_readSeam_59 rfl ?_
          refine hC.getfield dX9_readSeam_60 lfX9_22 rfl rfl ?_
          refine hC.iload_n dX9_readSeam_63 rfl ?_
          refine hC.iaN (f := fun j => nI ((updN (R 5) ki a) j)) dX9_readSeam_64 rfl ⟨by omega, by decide⟩ ?_
          rw [updN_s]
          refine hC.n_ne (by omega) (by omega) dX9_readSeam_65 (tgt := 77) rfl (fun c4 => ?_) (fun c4 => ?_)
          · exact hC.loc rfl (k77o (fun z => c4 z.2))
          · rw [if_pos ⟨c3, c4⟩] at hseT
            refine hC.aload_n dX9_readSeam_68 rfl ?_
            refine hC.iconst dX9_readSeam_69 (v := nI 4) rfl ?_
            refine hC.aload_n dX9_readSeam_70 rfl ?_
            refine hC.getfield dX9_readSeam_71 lfX9_132 rfl rfl ?_
            refine hC.wuVs dX9_readSeam_74 lmX9_124 mkX9_fails svX9_fails (ct_X9_fails l (upR (upR R 5 (updN (R 5) ki a)) 6 (updN (R 6) ki 8)) F L n e2 0 q4 jb 4 jb (by omega)) ⟨Nat.le_of_ble_eq_true rfl, Nat.le_of_ble_eq_true rfl⟩ rfl rfl (Nat.le_of_ble_eq_true rfl) rfl rfl ?_
            exact hC.loc rfl (k77e _ e2 4 jb jb bb hbb hseT (by decide) (by decide) (hK3 a) (hB3 a ha) rfl)
