/-! StripFlagModel: readClause -/
theorem wcF_cases (t : Nat → Nat) (j e : Nat) : wcF t j e = NN ∨ wcF t j e = 0 ∨ wcF t j e = 1 ∨ wcF t j e = 2 ∨ wcF t j e = 3 ∨ wcF t j e = 4 := by
  unfold wcF
  split
  · exact Or.inr (Or.inl rfl)
  · split
    · exact Or.inr (Or.inr (Or.inl rfl))
    · split
      · exact Or.inr (Or.inr (Or.inr (Or.inl rfl)))
      · split
        · exact Or.inr (Or.inr (Or.inr (Or.inr (Or.inl rfl))))
        · split
          · exact Or.inr (Or.inr (Or.inr (Or.inr (Or.inr rfl))))
          · exact Or.inl rfl
theorem bdT_ok {t : Nat → Nat} {n wd a b i i2 : Nat} {T T2 : ToldT} (h : bdT t n T wd a b i = .ok (T2, i2)) : ∃ s, T2 = adE T wd a b s := by
  unfold bdT at h
  split at h
  · cases h
  · split at h
    · cases h
    · cases h; exact ⟨_, rfl⟩
theorem seT_ok {t : Nat → Nat} {n wd i i2 : Nat} {T T2 : ToldT} (h : seT t n T wd i = .ok (T2, i2)) : ∃ a b s, T2 = adE T wd a b s := by
  unfold seT at h
  split at h
  · cases h
  · split at h
    · obtain ⟨s, hs⟩ := bdT_ok h; exact ⟨_, _, s, hs⟩
    · split at h
      · cases h
      · split at h
        · cases h
        · obtain ⟨s, hs⟩ := bdT_ok h; exact ⟨_, _, s, hs⟩
theorem TC_adE {T : ToldT} {wd a b s : Nat} (h : TC T) (h2 : wd ≠ 4 → T.2 2 < 12) (h3 : wd = 4 → T.2 3 < 8) : TC (adE T wd a b s) := by
  obtain ⟨g0, g1, g2, g3⟩ := h
  show updN T.2 (if wd = 4 then 3 else 2) (T.2 (if wd = 4 then 3 else 2) + 1) 0 ≤ 4 ∧ updN T.2 (if wd = 4 then 3 else 2) (T.2 (if wd = 4 then 3 else 2) + 1) 1 ≤ 8 ∧ updN T.2 (if wd = 4 then 3 else 2) (T.2 (if wd = 4 then 3 else 2) + 1) 2 ≤ 12 ∧ updN T.2 (if wd = 4 then 3 else 2) (T.2 (if wd = 4 then 3 else 2) + 1) 3 ≤ 8
  by_cases h4 : wd = 4
  · have := h3 h4
    rw [if_pos h4, updN_n (by decide), updN_n (by decide), updN_n (by decide), updN_s]
    omega
  · have := h2 h4
    rw [if_neg h4, updN_n (by decide), updN_n (by decide), updN_s, updN_n (by decide)]
    omega
set_option maxHeartbeats 4000000 in
set_option maxRecDepth 20000 in
theorem ct_X9_readClause (l : Launch) (R : Nat → Nat → Nat) (F : Nat → Nat) (L : Nat → Int64) (n i q b : Nat) (T : ToldT) (hn : n ≤ 500) (hi : i ≤ n) (ht : ∀ j, R 1 j < 256) (hT : tdM R T) (hc : TC T) (hB : rdB R) (fst : Bool) (hfs : fst = decide (T.2 0 = 0)) : Ct l 4 yX9_readClause cX9_readClause 3 none [.ref 0, .int (nI fst.toNat)] (mpW R F L n i 0 q b) (fun r h2 => r = none ∧ clM R F L n (clT (R 1) n T (sc (spB (R 1)) n i)) h2) := by
  refine Ct.of (by decide) (Nat.le_of_ble_eq_true rfl) (fun K hC hR => ?_)
  show K 0 [(0, .ref 0), (1, .int (nI fst.toNat))] [] _
  obtain ⟨t, htg⟩ : ∃ t, R 1 = t := ⟨_, rfl⟩
  have hle := sc_le (p := spB t) hi
  have hel := sc_le (p := ltB t) hle
  have hwc := wcF_cases t (sc (spB t) n i) (sc (ltB t) n (sc (spB t) n i))
  have hcl : clT t n T (sc (spB t) n i) = if wcF t (sc (spB t) n i) (sc (ltB t) n (sc (spB t) n i)) = NN ∨ (wcF t (sc (spB t) n i) (sc (ltB t) n (sc (spB t) n i)) ≠ 0 ∧ T.2 0 = 0) then .error (1, sc (spB t) n i) else if (wcF t (sc (spB t) n i) (sc (ltB t) n (sc (spB t) n i)) = 0 ∧ T.2 0 ≠ 0) ∨ (wcF t (sc (spB t) n i) (sc (ltB t) n (sc (spB t) n i)) = 1 ∧ T.2 1 = 8) ∨ ((wcF t (sc (spB t) n i) (sc (ltB t) n (sc (spB t) n i)) = 2 ∨ wcF t (sc (spB t) n i) (sc (ltB t) n (sc (spB t) n i)) = 3) ∧ T.2 2 = 12) ∨ (wcF t (sc (spB t) n i) (sc (ltB t) n (sc (spB t) n i)) = 4 ∧ T.2 3 = 8) then .error (3, sc (spB t) n i) else if wcF t (sc (spB t) n i) (sc (ltB t) n (sc (spB t) n i)) = 0 then coT t n 4 T (sc (ltB t) n (sc (spB t) n i)) else if wcF t (sc (spB t) n i) (sc (ltB t) n (sc (spB t) n i)) = 1 then stT t n T (sc (ltB t) n (sc (spB t) n i)) else seT t n T (wcF t (sc (spB t) n i) (sc (ltB t) n (sc (spB t) n i))) (sc (ltB t) n (sc (spB t) n i)) := rfl
  rw [htg] at ht hR
  refine hC.aload_n dX9_readClause_0 rfl ?_
  refine hC.wrVs dX9_readClause_1 lmX9_160 mkX9_word svX9_word (ct_X9_word l R F L n i 0 q b hn hi (by rw [htg]; exact ht)) ⟨Nat.le_of_ble_eq_true rfl, Nat.le_of_ble_eq_true rfl⟩ rfl rfl (Nat.le_of_ble_eq_true rfl) rfl rfl ?_
  rw [htg]
  generalize sc (spB t) n i = j at hle hel hwc hcl hR ⊢
  generalize sc (ltB t) n j = e at hel hwc hcl ⊢
  generalize wcF t j e = wd at hwc hcl ⊢
  obtain ⟨C, hCg⟩ : ∃ C, clT t n T j = C := ⟨_, rfl⟩
  rw [hCg] at hcl hR
  have h20 := hT.1 0 (by decide)
  have h21 := hT.1 1 (by decide)
  have h22 := hT.1 2 (by decide)
  have h23 := hT.1 3 (by decide)
  obtain ⟨hc0, hc1, hc2, hc3⟩ := hc
  have hend : ∀ (ls : AL) (h2 : List va_E), clM R F L n C h2 → K 218 ls [] h2 := by
    intro ls h2 hs
    exact hR.return_ dX9_readClause_218 ⟨rfl, hs⟩
  have kf1 : C = .error (1, j) → ∀ x1 x2, K 27 [(0, .ref 0), (1, .int x1), (2, .int x2)] [] (mpW R F L n e 0 q j) := by
    intro hce x1 x2
    rw [hce] at hend
    refine hC.aload_n dX9_readClause_27 rfl ?_
    refine hC.iconst dX9_readClause_28 (v := nI 1) rfl ?_
    refine hC.aload_n dX9_readClause_29 rfl ?_
    refine hC.getfield dX9_readClause_30 lfX9_132 rfl rfl ?_
    refine hC.wuVs dX9_readClause_33 lmX9_124 mkX9_fails svX9_fails (ct_X9_fails l R F L n e 0 q j 1 j (by omega)) ⟨Nat.le_of_ble_eq_true rfl, Nat.le_of_ble_eq_true rfl⟩ rfl rfl (Nat.le_of_ble_eq_true rfl) rfl rfl ?_
    refine hC.goto dX9_readClause_36 (tgt := 218) rfl ?_
    exact hend _ _ ⟨R, e, j, by decide, by decide, rdK_rf R, hB, rfl⟩
  have kf3 : C = .error (3, j) → ∀ x1 x2, K 100 [(0, .ref 0), (1, .int x1), (2, .int x2)] [] (mpW R F L n e 0 q j) := by
    intro hce x1 x2
    rw [hce] at hend
    refine hC.aload_n dX9_readClause_100 rfl ?_
    refine hC.iconst dX9_readClause_101 (v := nI 3) rfl ?_
    refine hC.aload_n dX9_readClause_102 rfl ?_
    refine hC.getfield dX9_readClause_103 lfX9_132 rfl rfl ?_
    refine hC.wuVs dX9_readClause_106 lmX9_124 mkX9_fails svX9_fails (ct_X9_fails l R F L n e 0 q j 3 j (by omega)) ⟨Nat.le_of_ble_eq_true rfl, Nat.le_of_ble_eq_true rfl⟩ rfl rfl (Nat.le_of_ble_eq_true rfl) rfl rfl ?_
    refine hC.goto dX9_readClause_109 (tgt := 218) rfl ?_
    exact hend _ _ ⟨R, e, j, by decide, by decide, rdK_rf R, hB, rfl⟩
  have k213 : ∀ wi, wi < 4 → ∀ (R2 : Nat → Nat → Nat) (i2 w2 q2 b2 : Nat) (x1 x2 : Int32), clM R F L n C (mpW (upR R2 2 (updN (R2 2) wi (R2 2 wi + 1))) F L n i2 w2 q2 b2) → K 213 [(0, .ref 0), (1, .int x1), (2, .int x2)] [.int (nI wi), .ref 2] (mpW R2 F L n i2 w2 q2 b2) := by
    intro wi hwi R2 i2 w2 q2 b2 x1 x2 hk
    refine hC.dup2 dX9_readClause_213 rfl rfl ?_
    refine hC.iaN (f := fun j => nI ((R2 2) j)) dX9_readClause_214 rfl ⟨by omega, by decide⟩ ?_
    refine hC.iconst dX9_readClause_215 (v := nI 1) rfl ?_
    refine hC.iadd dX9_readClause_216 ?_
    rw [nI_add]
    refine hC.isN dX9_readClause_217 rfl ⟨by omega, by decide⟩ ?_
    exact hend _ _ hk
  have k199 : ∀ wd, wd < 10 → ∀ (R2 : Nat → Nat → Nat) (i2 w2 q2 b2 : Nat) (x1 : Int32), clM R F L n C (mpW (upR R2 2 (updN (R2 2) (if wd = 4 then 3 else 2) (R2 2 (if wd = 4 then 3 else 2) + 1))) F L n i2 w2 q2 b2) → K 199 [(0, .ref 0), (1, .int x1), (2, .int (nI wd))] [] (mpW R2 F L n i2 w2 q2 b2) := by
    intro wd hwd R2 i2 w2 q2 b2 x1 hk
    refine hC.aload_n dX9_readClause_199 rfl ?_
    refine hC.getfield dX9_readClause_200 lfX9_13 rfl rfl ?_
    refine hC.iload_n dX9_readClause_203 rfl ?_
    refine hC.iconst dX9_readClause_204 (v := nI 4) rfl ?_
    refine hC.n_ne (by omega) (by omega) dX9_readClause_205 (tgt := 212) rfl (fun c => ?_) (fun c => ?_)
    · rw [if_neg c] at hk
      refine hC.iconst dX9_readClause_212 (v := nI 2) rfl ?_
      exact hC.loc rfl (k213 2 (by decide) R2 i2 w2 q2 b2 x1 (nI wd) hk)
    · rw [if_pos c] at hk
      refine hC.iconst dX9_readClause_208 (v := nI 3) rfl ?_
      refine hC.goto dX9_readClause_209 (tgt := 213) rfl ?_
      exact hC.loc rfl (k213 3 (by decide) R2 i2 w2 q2 b2 x1 (nI wd) hk)
  have kse : ∀ wd h2, wd < 10 → (wd ≠ 4 → T.2 2 < 12) → (wd = 4 → T.2 3 < 8) → C = seT t n T wd e → seM R F L n wd (seT t n T wd e) h2 → ∀ x1, K 199 [(0, .ref 0), (1, .int x1), (2, .int (nI wd))] [] h2 := by
    intro wd h2 hwd g2 g3 hCe hs x1
    cases hse : seT t n T wd e with
    | error x =>
      obtain ⟨k, p⟩ := x
      rw [hse] at hCe hs
      obtain ⟨R2, i2, b2, hk0, hk10, hK, hB2, h2e, rfl⟩ := hs
      refine k199 wd hwd R2 i2 k p b2 x1 ?_
      rw [hCe]
      exact ⟨_, i2, b2, hk0, hk10, rdK_up _ hK (by decide), rdB_lo _ hB2 (by decide), rfl⟩
    | ok y =>
      obtain ⟨T2, i2⟩ := y
      rw [hse] at hCe hs
      obtain ⟨R2, q2, b2, hi2, hK, hB2, h2e, htd, rfl⟩ := hs
      refine k199 wd hwd R2 i2 0 q2 b2 x1 ?_
      obtain ⟨a, bb, s, hTe⟩ := seT_ok hse
      rw [hCe]
      refine ⟨_, q2, b2, hi2, rdK_up _ hK (by decide), rdB_lo _ hB2 (by decide), ?_, ?_, rfl⟩
      · rw [h2e]; exact htd
      · rw [hTe]; exact TC_adE ⟨hc0, hc1, hc2, hc3⟩ g2 g3
  refine hC.istore_n dX9_readClause_4 (by decide) ?_
  refine hC.iload_n dX9_readClause_5 rfl ?_
  refine hC.iconst dX9_readClause_6 (v := (-1)) rfl ?_
  rw [m1_nI]
  by_cases h0 : T.2 0 = 0
  · have hft : fst = true := by rw [hfs]; exact decide_eq_true h0
    subst hft
    rcases hwc with rfl | hwc
    · rw [if_pos (Or.inl rfl)] at hcl
      refine hC.icmp_eq dX9_readClause_7 (tgt := 27) rfl (fun _ => ?_) (fun c => absurd rfl c)
      exact hC.loc rfl (kf1 hcl _ _)
    · by_cases hw0 : wd = 0
      · subst hw0
        rw [if_neg (fun z => z.elim (fun z => absurd z (by decide)) (fun z => z.1 rfl)), if_neg (by omega), if_pos rfl] at hcl
        refine hC.icmp_eq dX9_readClause_7 (tgt := 27) rfl (fun c => absurd c (by decide)) (fun _ => ?_)
        refine hC.iload_n dX9_readClause_10 rfl ?_
        refine hC.iload_n dX9_readClause_11 rfl ?_
        refine hC.if_ne dX9_readClause_12 (tgt := 19) rfl (fun c => absurd c (by decide)) (fun _ => ?_)
        refine hC.iconst dX9_readClause_15 (v := nI 1) rfl ?_
        refine hC.goto dX9_readClause_16 (tgt := 20) rfl ?_
        refine hC.icmp_eq dX9_readClause_20 (tgt := 39) rfl (fun _ => ?_) (fun c => absurd (by decide) c)
        refine hC.iload_n dX9_readClause_39 rfl ?_
        refine hC.if_ne dX9_readClause_40 (tgt := 47) rfl (fun _ => ?_) (fun c => absurd c (by decide))
        refine hC.iload_n dX9_readClause_47 rfl ?_
        refine hC.iconst dX9_readClause_48 (v := nI 1) rfl ?_
        refine hC.icmp_ne dX9_readClause_49 (tgt := 63) rfl (fun _ => ?_) (fun c => absurd c (by decide))
        refine hC.iload_n dX9_readClause_63 rfl ?_
        refine hC.iconst dX9_readClause_64 (v := nI 2) rfl ?_
        refine hC.icmp_eq dX9_readClause_65 (tgt := 73) rfl (fun c => absurd c (by decide)) (fun _ => ?_)
        refine hC.iload_n dX9_readClause_68 rfl ?_
        refine hC.iconst dX9_readClause_69 (v := nI 3) rfl ?_
        refine hC.icmp_ne dX9_readClause_70 (tgt := 84) rfl (fun _ => ?_) (fun c => absurd c (by decide))
        refine hC.iload_n dX9_readClause_84 rfl ?_
        refine hC.iconst dX9_readClause_85 (v := nI 4) rfl ?_
        refine hC.icmp_ne dX9_readClause_86 (tgt := 112) rfl (fun _ => ?_) (fun c => absurd c (by decide))
        refine hC.iload_n dX9_readClause_112 rfl ?_
        refine hC.if_ne dX9_readClause_113 (tgt := 123) rfl (fun c => absurd c (by decide)) (fun _ => ?_)
        refine hC.aload_n dX9_readClause_116 rfl ?_
        refine hC.callVs dX9_readClause_117 lmX9_163 mkX9_readColours svX9_readColours (ct_X9_readColours l R F L n e q j T hn hel (by rw [htg]; exact ht) hT h0 ⟨hc0, hc1, hc2, hc3⟩ hB) ⟨Nat.le_of_ble_eq_true rfl, Nat.le_of_ble_eq_true rfl⟩ rfl rfl (Nat.le_of_ble_eq_true rfl) rfl rfl (fun r h2 hp => ?_)
        obtain ⟨rfl, hp⟩ := hp
        rw [htg, ← hcl] at hp
        refine hC.goto dX9_readClause_120 (tgt := 218) rfl ?_
        exact hend _ _ hp
      · have hne : ¬ wd = 0 := hw0
        rw [if_pos (Or.inr ⟨hw0, h0⟩)] at hcl
        have hb : wd < 5 := by omega
        refine hC.icmp_eq dX9_readClause_7 (tgt := 27) rfl (fun c => ?_) (fun _ => ?_)
        · exact hC.loc rfl (kf1 hcl _ _)
        · refine hC.iload_n dX9_readClause_10 rfl ?_
          refine hC.iload_n dX9_readClause_11 rfl ?_
          refine hC.nnz (x := wd) (by omega) dX9_readClause_12 (tgt := 19) rfl (fun _ => ?_) (fun c => absurd c hw0)
          refine hC.iconst dX9_readClause_19 (v := nI 0) rfl ?_
          refine hC.icmp_eq dX9_readClause_20 (tgt := 39) rfl (fun c => absurd c (by decide)) (fun _ => ?_)
          refine hC.iload_n dX9_readClause_23 rfl ?_
          refine hC.if_eq dX9_readClause_24 (tgt := 39) rfl (fun c => absurd c (by decide)) (fun _ => ?_)
          exact hC.loc rfl (kf1 hcl _ _)
  · have hff : fst = false := by rw [hfs]; exact decide_eq_false h0
    subst hff
    rcases hwc with rfl | rfl | rfl | rfl | rfl | rfl
    · rw [if_pos (Or.inl rfl)] at hcl
      refine hC.icmp_eq dX9_readClause_7 (tgt := 27) rfl (fun _ => ?_) (fun c => absurd rfl c)
      exact hC.loc rfl (kf1 hcl _ _)
    · rw [if_neg (fun z => z.elim (fun z => absurd z (by decide)) (fun z => z.1 rfl)), if_pos (Or.inl ⟨rfl, h0⟩)] at hcl
      refine hC.icmp_eq dX9_readClause_7 (tgt := 27) rfl (fun c => absurd c (by decide)) (fun _ => ?_)
      refine hC.iload_n dX9_readClause_10 rfl ?_
      refine hC.iload_n dX9_readClause_11 rfl ?_
      refine hC.if_ne dX9_readClause_12 (tgt := 19) rfl (fun c => absurd c (by decide)) (fun _ => ?_)
      refine hC.iconst dX9_readClause_15 (v := nI 1) rfl ?_
      refine hC.goto dX9_readClause_16 (tgt := 20) rfl ?_
      refine hC.icmp_eq dX9_readClause_20 (tgt := 39) rfl (fun c => absurd c (by decide)) (fun _ => ?_)
      refine hC.iload_n dX9_readClause_23 rfl ?_
      refine hC.if_eq dX9_readClause_24 (tgt := 39) rfl (fun _ => ?_) (fun c => absurd (by decide) c)
      refine hC.iload_n dX9_readClause_39 rfl ?_
      refine hC.if_ne dX9_readClause_40 (tgt := 47) rfl (fun c => absurd c (by decide)) (fun _ => ?_)
      refine hC.iload_n dX9_readClause_43 rfl ?_
      refine hC.if_eq dX9_readClause_44 (tgt := 100) rfl (fun _ => ?_) (fun c => absurd (by decide) c)
      exact hC.loc rfl (kf3 hcl _ _)
    · rw [if_neg (fun z => z.elim (fun z => absurd z (by decide)) (fun z => h0 z.2))] at hcl
      refine hC.icmp_eq dX9_readClause_7 (tgt := 27) rfl (fun c => absurd c (by decide)) (fun _ => ?_)
      refine hC.iload_n dX9_readClause_10 rfl ?_
      refine hC.iload_n dX9_readClause_11 rfl ?_
      refine hC.if_ne dX9_readClause_12 (tgt := 19) rfl (fun _ => ?_) (fun c => absurd c (by decide))
      refine hC.iconst dX9_readClause_19 (v := nI 0) rfl ?_
      refine hC.icmp_eq dX9_readClause_20 (tgt := 39) rfl (fun _ => ?_) (fun c => absurd (by decide) c)
      refine hC.iload_n dX9_readClause_39 rfl ?_
      refine hC.if_ne dX9_readClause_40 (tgt := 47) rfl (fun c => absurd c (by decide)) (fun _ => ?_)
      refine hC.iload_n dX9_readClause_43 rfl ?_
      refine hC.if_eq dX9_readClause_44 (tgt := 100) rfl (fun c => absurd c (by decide)) (fun _ => ?_)
      refine hC.iload_n dX9_readClause_47 rfl ?_
      refine hC.iconst dX9_readClause_48 (v := nI 1) rfl ?_
      refine hC.icmp_ne dX9_readClause_49 (tgt := 63) rfl (fun c => absurd c (by decide)) (fun _ => ?_)
      refine hC.aload_n dX9_readClause_52 rfl ?_
      refine hC.getfield dX9_readClause_53 lfX9_13 rfl rfl ?_
      refine hC.iconst dX9_readClause_56 (v := nI 1) rfl ?_
      refine hC.iaN (f := fun j => nI ((R 2) j)) dX9_readClause_57 rfl ⟨by omega, by decide⟩ ?_
      refine hC.bipush dX9_readClause_58 (v := nI 8) rfl ?_
      refine hC.n_eq (a := R 2 1) (b := 8) (by omega) (by omega) dX9_readClause_60 (tgt := 100) rfl (fun c => ?_) (fun c => ?_)
      · rw [if_pos (Or.inr (Or.inl ⟨rfl, by omega⟩))] at hcl
        exact hC.loc rfl (kf3 hcl _ _)
      · rw [if_neg (by omega), if_neg (by decide), if_pos rfl] at hcl
        refine hC.iload_n dX9_readClause_63 rfl ?_
        refine hC.iconst dX9_readClause_64 (v := nI 2) rfl ?_
        refine hC.icmp_eq dX9_readClause_65 (tgt := 73) rfl (fun c => absurd c (by decide)) (fun _ => ?_)
        refine hC.iload_n dX9_readClause_68 rfl ?_
        refine hC.iconst dX9_readClause_69 (v := nI 3) rfl ?_
        refine hC.icmp_ne dX9_readClause_70 (tgt := 84) rfl (fun _ => ?_) (fun c => absurd c (by decide))
        refine hC.iload_n dX9_readClause_84 rfl ?_
        refine hC.iconst dX9_readClause_85 (v := nI 4) rfl ?_
        refine hC.icmp_ne dX9_readClause_86 (tgt := 112) rfl (fun _ => ?_) (fun c => absurd c (by decide))
        refine hC.iload_n dX9_readClause_112 rfl ?_
        refine hC.if_ne dX9_readClause_113 (tgt := 123) rfl (fun _ => ?_) (fun c => absurd c (by decide))
        refine hC.iload_n dX9_readClause_123 rfl ?_
        refine hC.iconst dX9_readClause_124 (v := nI 1) rfl ?_
        refine hC.icmp_ne dX9_readClause_125 (tgt := 171) rfl (fun c => absurd c (by decide)) (fun _ => ?_)
        refine hC.aload_n dX9_readClause_128 rfl ?_
        refine hC.getfield dX9_readClause_129 lfX9_19 rfl rfl ?_
        refine hC.aload_n dX9_readClause_132 rfl ?_
        refine hC.getfield dX9_readClause_133 lfX9_13 rfl rfl ?_
        refine hC.iconst dX9_readClause_136 (v := nI 1) rfl ?_
        refine hC.iaN (f := fun j => nI ((R 2) j)) dX9_readClause_137 rfl ⟨by omega, by decide⟩ ?_
        refine hC.aload_n dX9_readClause_138 rfl ?_
        refine hC.iconst dX9_readClause_139 (v := nI 0) rfl ?_
        refine hC.aload_n dX9_readClause_140 rfl ?_
        refine hC.getfield dX9_readClause_141 lfX9_13 rfl rfl ?_
        refine hC.iconst dX9_readClause_144 (v := nI 0) rfl ?_
        refine hC.iaN (f := fun j => nI ((R 2) j)) dX9_readClause_145 rfl ⟨by omega, by decide⟩ ?_
        refine hC.iconst dX9_readClause_146 (v := nI 1) rfl ?_
        refine hC.isub dX9_readClause_147 ?_
        refine hC.callVs dX9_readClause_148 lmX9_152 mkX9_number svX9_number (ct_X9_number l R F L n e q j 0 (R 2 0) hn hel (by rw [htg]; exact ht) (by decide) (by omega)) ⟨Nat.le_of_ble_eq_true rfl, Nat.le_of_ble_eq_true rfl⟩ rfl rfl (Nat.le_of_ble_eq_true rfl) rfl rfl (fun r h2 hp => ?_)
        rw [htg, h20] at hp
        have hst : stT t n T e = match nuT t n 0 (T.2 0) e with
          | .error x => .error x
          | .ok (a, _, e) => match enT t n e with
            | .error x => .error x
            | .ok i2 => .ok (adS T a, i2) := rfl
        rw [hst] at hcl
        have k158 : ∀ (R2 : Nat → Nat → Nat) (i2 w2 q2 b2 : Nat), clM R F L n C (mpW (upR R2 2 (updN (R2 2) 1 (R2 2 1 + 1))) F L n i2 w2 q2 b2) → K 158 [(0, .ref 0), (1, .int (nI 0)), (2, .int (nI 1))] [] (mpW R2 F L n i2 w2 q2 b2) := by
          intro R2 i2 w2 q2 b2 hk
          refine hC.aload_n dX9_readClause_158 rfl ?_
          refine hC.getfield dX9_readClause_159 lfX9_13 rfl rfl ?_
          refine hC.iconst dX9_readClause_162 (v := nI 1) rfl ?_
          refine hC.dup2 dX9_readClause_163 rfl rfl ?_
          refine hC.iaN (f := fun j => nI ((R2 2) j)) dX9_readClause_164 rfl ⟨by omega, by decide⟩ ?_
          refine hC.iconst dX9_readClause_165 (v := nI 1) rfl ?_
          refine hC.iadd dX9_readClause_166 ?_
          rw [nI_add]
          refine hC.isN dX9_readClause_167 rfl ⟨by omega, by decide⟩ ?_
          refine hC.goto dX9_readClause_168 (tgt := 218) rfl ?_
          exact hend _ _ hk
        cases hnu : nuT t n 0 (T.2 0) e with
        | error x =>
          obtain ⟨k, p⟩ := x
          rw [hnu] at hp hcl
          obtain ⟨v, i3, b3, hv, hi3, hk0, hk10, rfl, rfl⟩ := hp
          have hcl : C = .error (k, p) := hcl
          show K 151 _ [.int (nI v), .int (nI (R 2 1)), .ref 4] (mpW R F L n i3 k p b3)
          refine hC.isN dX9_readClause_151 rfl ⟨by omega, by decide⟩ ?_
          refine hC.aload_n dX9_readClause_152 rfl ?_
          refine hC.bipush dX9_readClause_153 (v := nI 59) rfl ?_
          refine hC.wuVs dX9_readClause_155 lmX9_156 mkX9_must svX9_must (ct_X9_must0 l (upR R 4 (updN (R 4) (R 2 1) v)) F L n i3 k p b3 hk0 hk10 (nI 59)) ⟨Nat.le_of_ble_eq_true rfl, Nat.le_of_ble_eq_true rfl⟩ rfl rfl (Nat.le_of_ble_eq_true rfl) rfl rfl ?_
          refine hC.loc rfl (k158 (upR R 4 (updN (R 4) (R 2 1) v)) i3 k p b3 ?_)
          rw [hcl]
          exact ⟨_, i3, b3, hk0, hk10, rdK_up _ (rdK_up _ (rdK_rf R) (by decide)) (by decide), rdB_lo _ (rdB_lo _ hB (by decide)) (by decide), rfl⟩
        | ok y =>
          obtain ⟨a, ja, e2⟩ := y
          rw [hnu] at hp hcl
          obtain ⟨ha, hen, rfl, q3, rfl⟩ := hp
          have hcl : C = match enT t n e2 with
            | .error x => .error x
            | .ok i2 => .ok (adS T a, i2) := hcl
          show K 151 _ [.int (nI a), .int (nI (R 2 1)), .ref 4] (mpW R F L n e2 0 q3 ja)
          refine hC.isN dX9_readClause_151 rfl ⟨by omega, by decide⟩ ?_
          refine hC.aload_n dX9_readClause_152 rfl ?_
          refine hC.bipush dX9_readClause_153 (v := nI 59) rfl ?_
          refine hC.callVs dX9_readClause_155 lmX9_156 mkX9_must svX9_must (ct_X9_must l (upR R 4 (updN (R 4) (R 2 1) a)) F L n e2 q3 ja hn hen (fun j => by show R 1 j < 256; rw [htg]; exact ht j)) ⟨Nat.le_of_ble_eq_true rfl, Nat.le_of_ble_eq_true rfl⟩ rfl rfl (Nat.le_of_ble_eq_true rfl) rfl rfl (fun r h2 hp => ?_)
          obtain ⟨rfl, hp⟩ := hp
          rw [show (upR R 4 (updN (R 4) (R 2 1) a)) 1 = t from htg] at hp
          cases hen2 : enT t n e2 with
          | error x =>
            obtain ⟨k, p⟩ := x
            rw [hen2] at hp hcl
            obtain ⟨i4, b4, hi4, rfl⟩ := hp
            have hcl : C = .error (k, p) := hcl
            have hkp : k = 1 := by
              unfold enT at hen2
              split at hen2
              · cases hen2
              · cases hen2; rfl
            refine hC.loc rfl (k158 (upR R 4 (updN (R 4) (R 2 1) a)) i4 k p b4 ?_)
            rw [hcl]
            exact ⟨_, i4, b4, by omega, by omega, rdK_up _ (rdK_up _ (rdK_rf R) (by decide)) (by decide), rdB_lo _ (rdB_lo _ hB (by decide)) (by decide), rfl⟩
          | ok i4 =>
            rw [hen2] at hp hcl
            obtain ⟨q4, b4, rfl⟩ := hp
            have hcl : C = .ok (adS T a, i4) := hcl
            refine hC.loc rfl (k158 (upR R 4 (updN (R 4) (R 2 1) a)) i4 0 q4 b4 ?_)
            rw [hcl]
            exact ⟨_, q4, b4, enT_lt hen2, rdK_up _ (rdK_up _ (rdK_rf R) (by decide)) (by decide), rdB_lo _ (rdB_lo _ hB (by decide)) (by decide), tdM_adS hT a, ⟨hc0, show T.2 1 + 1 ≤ 8 by omega, hc2, hc3⟩, rfl⟩
    · rw [if_neg (fun z => z.elim (fun z => absurd z (by decide)) (fun z => h0 z.2))] at hcl
      refine hC.icmp_eq dX9_readClause_7 (tgt := 27) rfl (fun c => absurd c (by decide)) (fun _ => ?_)
      refine hC.iload_n dX9_readClause_10 rfl ?_
      refine hC.iload_n dX9_readClause_11 rfl ?_
      refine hC.if_ne dX9_readClause_12 (tgt := 19) rfl (fun _ => ?_) (fun c => absurd c (by decide))
      refine hC.iconst dX9_readClause_19 (v := nI 0) rfl ?_
      refine hC.icmp_eq dX9_readClause_20 (tgt := 39) rfl (fun _ => ?_) (fun c => absurd (by decide) c)
      refine hC.iload_n dX9_readClause_39 rfl ?_
      refine hC.if_ne dX9_readClause_40 (tgt := 47) rfl (fun c => absurd c (by decide)) (fun _ => ?_)
      refine hC.iload_n dX9_readClause_43 rfl ?_
      refine hC.if_eq dX9_readClause_44 (tgt := 100) rfl (fun c => absurd c (by decide)) (fun _ => ?_)
      refine hC.iload_n dX9_readClause_47 rfl ?_
      refine hC.iconst dX9_readClause_48 (v := nI 1) rfl ?_
      refine hC.icmp_ne dX9_readClause_49 (tgt := 63) rfl (fun _ => ?_) (fun c => absurd c (by decide))
      refine hC.iload_n dX9_readClause_63 rfl ?_
      refine hC.iconst dX9_readClause_64 (v := nI 2) rfl ?_
      refine hC.icmp_eq dX9_readClause_65 (tgt := 73) rfl (fun _ => ?_) (fun c => absurd (by decide) c)
      refine hC.aload_n dX9_readClause_73 rfl ?_
      refine hC.getfield dX9_readClause_74 lfX9_13 rfl rfl ?_
      refine hC.iconst dX9_readClause_77 (v := nI 2) rfl ?_
      refine hC.iaN (f := fun j => nI ((R 2) j)) dX9_readClause_78 rfl ⟨by omega, by decide⟩ ?_
      refine hC.bipush dX9_readClause_79 (v := nI 12) rfl ?_
      refine hC.n_eq (a := R 2 2) (b := 12) (by omega) (by omega) dX9_readClause_81 (tgt := 100) rfl (fun c => ?_) (fun c => ?_)
      · rw [if_pos (Or.inr (Or.inr (Or.inl ⟨Or.inl rfl, by omega⟩)))] at hcl
        exact hC.loc rfl (kf3 hcl _ _)
      · rw [if_neg (by omega), if_neg (by decide), if_neg (by decide)] at hcl
        refine hC.iload_n dX9_readClause_84 rfl ?_
        refine hC.iconst dX9_readClause_85 (v := nI 4) rfl ?_
        refine hC.icmp_ne dX9_readClause_86 (tgt := 112) rfl (fun _ => ?_) (fun c => absurd c (by decide))
        refine hC.iload_n dX9_readClause_112 rfl ?_
        refine hC.if_ne dX9_readClause_113 (tgt := 123) rfl (fun _ => ?_) (fun c => absurd c (by decide))
        refine hC.iload_n dX9_readClause_123 rfl ?_
        refine hC.iconst dX9_readClause_124 (v := nI 1) rfl ?_
        refine hC.icmp_ne dX9_readClause_125 (tgt := 171) rfl (fun _ => ?_) (fun c => absurd c (by decide))
        refine hC.aload_n dX9_readClause_171 rfl ?_
        refine hC.iload_n dX9_readClause_172 rfl ?_
        refine hC.iload_n dX9_readClause_173 rfl ?_
        refine hC.iconst dX9_readClause_174 (v := nI 4) rfl ?_
        refine hC.icmp_ne dX9_readClause_175 (tgt := 190) rfl (fun _ => ?_) (fun c => absurd c (by decide))
        refine hC.aload_n dX9_readClause_190 rfl ?_
        refine hC.getfield dX9_readClause_191 lfX9_13 rfl rfl ?_
        refine hC.iconst dX9_readClause_194 (v := nI 2) rfl ?_
        refine hC.iaN (f := fun j => nI ((R 2) j)) dX9_readClause_195 rfl ⟨by omega, by decide⟩ ?_
        rw [show R 2 2 = enI T 2 from h22]
        refine hC.callVs dX9_readClause_196 lmX9_166 mkX9_readSeam svX9_readSeam (ct_X9_readSeam l R F L n e q j 2 T hn hel (by rw [htg]; exact ht) hT ⟨hc0, hc1, hc2, hc3⟩ hB (Or.inl rfl) (fun _ => by omega) (fun z => absurd z (by decide))) ⟨Nat.le_of_ble_eq_true rfl, Nat.le_of_ble_eq_true rfl⟩ rfl rfl (Nat.le_of_ble_eq_true rfl) rfl rfl (fun r h2 hp => ?_)
        obtain ⟨rfl, hp⟩ := hp
        rw [htg] at hp
        exact hC.loc rfl (kse 2 h2 (by decide) (fun _ => by omega) (fun z => absurd z (by decide)) hcl hp (nI 0))
    · rw [if_neg (fun z => z.elim (fun z => absurd z (by decide)) (fun z => h0 z.2))] at hcl
      refine hC.icmp_eq dX9_readClause_7 (tgt := 27) rfl (fun c => absurd c (by decide)) (fun _ => ?_)
      refine hC.iload_n dX9_readClause_10 rfl ?_
      refine hC.iload_n dX9_readClause_11 rfl ?_
      refine hC.if_ne dX9_readClause_12 (tgt := 19) rfl (fun _ => ?_) (fun c => absurd c (by decide))
      refine hC.iconst dX9_readClause_19 (v := nI 0) rfl ?_
      refine hC.icmp_eq dX9_readClause_20 (tgt := 39) rfl (fun _ => ?_) (fun c => absurd (by decide) c)
      refine hC.iload_n dX9_readClause_39 rfl ?_
      refine hC.if_ne dX9_readClause_40 (tgt := 47) rfl (fun c => absurd c (by decide)) (fun _ => ?_)
      refine hC.iload_n dX9_readClause_43 rfl ?_
      refine hC.if_eq dX9_readClause_44 (tgt := 100) rfl (fun c => absurd c (by decide)) (fun _ => ?_)
      refine hC.iload_n dX9_readClause_47 rfl ?_
      refine hC.iconst dX9_readClause_48 (v := nI 1) rfl ?_
      refine hC.icmp_ne dX9_readClause_49 (tgt := 63) rfl (fun _ => ?_) (fun c => absurd c (by decide))
      refine hC.iload_n dX9_readClause_63 rfl ?_
      refine hC.iconst dX9_readClause_64 (v := nI 2) rfl ?_
      refine hC.icmp_eq dX9_readClause_65 (tgt := 73) rfl (fun c => absurd c (by decide)) (fun _ => ?_)
      refine hC.iload_n dX9_readClause_68 rfl ?_
      refine hC.iconst dX9_readClause_69 (v := nI 3) rfl ?_
      refine hC.icmp_ne dX9_readClause_70 (tgt := 84) rfl (fun c => absurd c (by decide)) (fun _ => ?_)
      refine hC.aload_n dX9_readClause_73 rfl ?_
      refine hC.getfield dX9_readClause_74 lfX9_13 rfl rfl ?_
      refine hC.iconst dX9_readClause_77 (v := nI 2) rfl ?_
      refine hC.iaN (f := fun j => nI ((R 2) j)) dX9_readClause_78 rfl ⟨by omega, by decide⟩ ?_
      refine hC.bipush dX9_readClause_79 (v := nI 12) rfl ?_
      refine hC.n_eq (a := R 2 2) (b := 12) (by omega) (by omega) dX9_readClause_81 (tgt := 100) rfl (fun c => ?_) (fun c => ?_)
      · rw [if_pos (Or.inr (Or.inr (Or.inl ⟨Or.inr rfl, by omega⟩)))] at hcl
        exact hC.loc rfl (kf3 hcl _ _)
      · rw [if_neg (by omega), if_neg (by decide), if_neg (by decide)] at hcl
        refine hC.iload_n dX9_readClause_84 rfl ?_
        refine hC.iconst dX9_readClause_85 (v := nI 4) rfl ?_
        refine hC.icmp_ne dX9_readClause_86 (tgt := 112) rfl (fun _ => ?_) (fun c => absurd c (by decide))
        refine hC.iload_n dX9_readClause_112 rfl ?_
        refine hC.if_ne dX9_readClause_113 (tgt := 123) rfl (fun _ => ?_) (fun c => absurd c (by decide))
        refine hC.iload_n dX9_readClause_123 rfl ?_
        refine hC.iconst dX9_readClause_124 (v := nI 1) rfl ?_
        refine hC.icmp_ne dX9_readClause_125 (tgt := 171) rfl (fun _ => ?_) (fun c => absurd c (by decide))
        refine hC.aload_n dX9_readClause_171 rfl ?_
        refine hC.iload_n dX9_readClause_172 rfl ?_
        refine hC.iload_n dX9_readClause_173 rfl ?_
        refine hC.iconst dX9_readClause_174 (v := nI 4) rfl ?_
        refine hC.icmp_ne dX9_readClause_175 (tgt := 190) rfl (fun _ => ?_) (fun c => absurd c (by decide))
        refine hC.aload_n dX9_readClause_190 rfl ?_
        refine hC.getfield dX9_readClause_191 lfX9_13 rfl rfl ?_
        refine hC.iconst dX9_readClause_194 (v := nI 2) rfl ?_
        refine hC.iaN (f := fun j => nI ((R 2) j)) dX9_readClause_195 rfl ⟨by omega, by decide⟩ ?_
        rw [show R 2 2 = enI T 3 from h22]
        refine hC.callVs dX9_readClause_196 lmX9_166 mkX9_readSeam svX9_readSeam (ct_X9_readSeam l R F L n e q j 3 T hn hel (by rw [htg]; exact ht) hT ⟨hc0, hc1, hc2, hc3⟩ hB (Or.inr (Or.inl rfl)) (fun _ => by omega) (fun z => absurd z (by decide))) ⟨Nat.le_of_ble_eq_true rfl, Nat.le_of_ble_eq_true rfl⟩ rfl rfl (Nat.le_of_ble_eq_true rfl) rfl rfl (fun r h2 hp => ?_)
        obtain ⟨rfl, hp⟩ := hp
        rw [htg] at hp
        exact hC.loc rfl (kse 3 h2 (by decide) (fun _ => by omega) (fun z => absurd z (by decide)) hcl hp (nI 0))
    · rw [if_neg (fun z => z.elim (fun z => absurd z (by decide)) (fun z => h0 z.2))] at hcl
      refine hC.icmp_eq dX9_readClause_7 (tgt := 27) rfl (fun c => absurd c (by decide)) (fun _ => ?_)
      refine hC.iload_n dX9_readClause_10 rfl ?_
      refine hC.iload_n dX9_readClause_11 rfl ?_
      refine hC.if_ne dX9_readClause_12 (tgt := 19) rfl (fun _ => ?_) (fun c => absurd c (by decide))
      refine hC.iconst dX9_readClause_19 (v := nI 0) rfl ?_
      refine hC.icmp_eq dX9_readClause_20 (tgt := 39) rfl (fun _ => ?_) (fun c => absurd (by decide) c)
      refine hC.iload_n dX9_readClause_39 rfl ?_
      refine hC.if_ne dX9_readClause_40 (tgt := 47) rfl (fun c => absurd c (by decide)) (fun _ => ?_)
      refine hC.iload_n dX9_readClause_43 rfl ?_
      refine hC.if_eq dX9_readClause_44 (tgt := 100) rfl (fun c => absurd c (by decide)) (fun _ => ?_)
      refine hC.iload_n dX9_readClause_47 rfl ?_
      refine hC.iconst dX9_readClause_48 (v := nI 1) rfl ?_
      refine hC.icmp_ne dX9_readClause_49 (tgt := 63) rfl (fun _ => ?_) (fun c => absurd c (by decide))
      refine hC.iload_n dX9_readClause_63 rfl ?_
      refine hC.iconst dX9_readClause_64 (v := nI 2) rfl ?_
      refine hC.icmp_eq dX9_readClause_65 (tgt := 73) rfl (fun c => absurd c (by decide)) (fun _ => ?_)
      refine hC.iload_n dX9_readClause_68 rfl ?_
      refine hC.iconst dX9_readClause_69 (v := nI 3) rfl ?_
      refine hC.icmp_ne dX9_readClause_70 (tgt := 84) rfl (fun _ => ?_) (fun c => absurd c (by decide))
      refine hC.iload_n dX9_readClause_84 rfl ?_
      refine hC.iconst dX9_readClause_85 (v := nI 4) rfl ?_
      refine hC.icmp_ne dX9_readClause_86 (tgt := 112) rfl (fun c => absurd c (by decide)) (fun _ => ?_)
      refine hC.aload_n dX9_readClause_89 rfl ?_
      refine hC.getfield dX9_readClause_90 lfX9_13 rfl rfl ?_
      refine hC.iconst dX9_readClause_93 (v := nI 3) rfl ?_
      refine hC.iaN (f := fun j => nI ((R 2) j)) dX9_readClause_94 rfl ⟨by omega, by decide⟩ ?_
      refine hC.bipush dX9_readClause_95 (v := nI 8) rfl ?_
      refine hC.n_ne (a := R 2 3) (b := 8) (by omega) (by omega) dX9_readClause_97 (tgt := 112) rfl (fun c => ?_) (fun c => ?_)
      · rw [if_neg (by omega), if_neg (by decide), if_neg (by decide)] at hcl
        refine hC.iload_n dX9_readClause_112 rfl ?_
        refine hC.if_ne dX9_readClause_113 (tgt := 123) rfl (fun _ => ?_) (fun c => absurd c (by decide))
        refine hC.iload_n dX9_readClause_123 rfl ?_
        refine hC.iconst dX9_readClause_124 (v := nI 1) rfl ?_
        refine hC.icmp_ne dX9_readClause_125 (tgt := 171) rfl (fun _ => ?_) (fun c => absurd c (by decide))
        refine hC.aload_n dX9_readClause_171 rfl ?_
        refine hC.iload_n dX9_readClause_172 rfl ?_
        refine hC.iload_n dX9_readClause_173 rfl ?_
        refine hC.iconst dX9_readClause_174 (v := nI 4) rfl ?_
        refine hC.icmp_ne dX9_readClause_175 (tgt := 190) rfl (fun c => absurd c (by decide)) (fun _ => ?_)
        refine hC.bipush dX9_readClause_178 (v := nI 12) rfl ?_
        refine hC.aload_n dX9_readClause_180 rfl ?_
        refine hC.getfield dX9_readClause_181 lfX9_13 rfl rfl ?_
        refine hC.iconst dX9_readClause_184 (v := nI 3) rfl ?_
        refine hC.iaN (f := fun j => nI ((R 2) j)) dX9_readClause_185 rfl ⟨by omega, by decide⟩ ?_
        refine hC.iadd dX9_readClause_186 ?_
        rw [nI_add]
        refine hC.goto dX9_readClause_187 (tgt := 196) rfl ?_
        rw [show 12 + R 2 3 = enI T 4 by rw [h23]; rfl]
        refine hC.callVs dX9_readClause_196 lmX9_166 mkX9_readSeam svX9_readSeam (ct_X9_readSeam l R F L n e q j 4 T hn hel (by rw [htg]; exact ht) hT ⟨hc0, hc1, hc2, hc3⟩ hB (Or.inr (Or.inr rfl)) (fun z => absurd rfl z) (fun _ => by omega)) ⟨Nat.le_of_ble_eq_true rfl, Nat.le_of_ble_eq_true rfl⟩ rfl rfl (Nat.le_of_ble_eq_true rfl) rfl rfl (fun r h2 hp => ?_)
        obtain ⟨rfl, hp⟩ := hp
        rw [htg] at hp
        exact hC.loc rfl (kse 4 h2 (by decide) (fun z => absurd rfl z) (fun _ => by omega) hcl hp (nI 0))
      · rw [if_pos (Or.inr (Or.inr (Or.inr ⟨rfl, by omega⟩)))] at hcl
        exact hC.loc rfl (kf3 hcl _ _)
