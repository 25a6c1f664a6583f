/-! StripFlag$Text: readNumber, readEnd, addTold, isTooMany, hasRoom, add -/
def nuX (g : Nat → Int32) (n f q : Nat) (x : Except FaT (Nat × Nat × Nat)) (r : Option Value) (h2 : List va_E) : Prop := ∃ v i2 b2, v < 1000 ∧ i2 ≤ n ∧ r = some (.int (nI v)) ∧ (f ≠ 0 → h2 = txC g n f q i2 b2) ∧ (f = 0 → match x with
  | .error (k, p) => k ≠ 0 ∧ k < 10 ∧ h2 = txC g n k p i2 b2
  | .ok (a, j, e) => v = a ∧ i2 = e ∧ b2 = j ∧ h2 = txC g n 0 q e j)
theorem caK_d {t : Nat → Nat} {j : Nat} : ∀ k, k ≤ 3 → (∀ i, i < k → 48 ≤ t (j + i) ∧ t (j + i) ≤ 57) → caK t j k < 10 ^ k
  | 0, _, _ => by rw [caK]; decide
  | k + 1, h, hd => by
    have h1 := caK_d k (by omega) (fun i hi => hd i (by omega))
    have h2 := hd k (by omega)
    have h3 : 10 ^ k ≤ 10 ^ 2 := Nat.pow_le_pow_right (by decide) (by omega)
    have h4 : 10 ^ (k + 1) = 10 * 10 ^ k := by rw [Nat.pow_succ, Nat.mul_comm]
    rw [caK, if_neg (by omega)]
    omega
theorem le_hx {v hx : Nat} (hv : v < 2 ^ 31) (hh : hx < 2 ^ 30) : nI v ≤ nI hx - nI 1 ↔ v < hx := by
  rw [Int32.le_iff_toInt_le, nI_toInt hv, pk_sub_toInt hh (show 1 < 2 ^ 30 by decide)]
  omega
set_option maxHeartbeats 4000000 in
set_option maxRecDepth 20000 in
theorem ct_X5_readNumber (l : Launch) (g : Nat → Int32) (t : Nat → Nat) (n f q i b lo hx : Nat) (hn : n ≤ 500) (ht : txB g t n) (hi : i ≤ n) (hf : f < 10) (hlo : lo < 1000) (hhx : hx < 1000) : Ct l 2 yX5_readNumber cX5_readNumber 6 (some .int) [.ref 0, .int (nI lo), .int (nI hx - nI 1)] (txC g n f q i b) (nuX g n f q (nuT t n lo hx i)) := by
  refine Ct.of (by decide) (Nat.le_of_ble_eq_true rfl) (fun K hC hR => ?_)
  show K 0 [(0, .ref 0), (1, .int (nI lo)), (2, .int (nI hx - nI 1))] [] _
  have hle := sc_le (p := spB t) hi
  have hnu : nuT t n lo hx i = if sc (dgB t) n (sc (spB t) n i) = sc (spB t) n i then .error (1, sc (spB t) n i) else if 3 < sc (dgB t) n (sc (spB t) n i) - sc (spB t) n i ∨ ¬ (lo ≤ caK t (sc (spB t) n i) (sc (dgB t) n (sc (spB t) n i) - sc (spB t) n i) ∧ caK t (sc (spB t) n i) (sc (dgB t) n (sc (spB t) n i) - sc (spB t) n i) < hx) then .error (2, sc (spB t) n i) else .ok (caK t (sc (spB t) n i) (sc (dgB t) n (sc (spB t) n i) - sc (spB t) n i), sc (spB t) n i, sc (dgB t) n (sc (spB t) n i)) := rfl
  refine hC.aload_n dX5_readNumber_0 rfl ?_
  refine hC.wuVs dX5_readNumber_1 lmX5_33 mkX5_skipBlanks svX5_skipBlanks (ct_X5_skipBlanks l g t n f q i b hn ht hi) ⟨Nat.le_of_ble_eq_true rfl, Nat.le_of_ble_eq_true rfl⟩ rfl rfl (Nat.le_of_ble_eq_true rfl) rfl rfl ?_
  generalize hjg : sc (spB t) n i = j at hle hnu ⊢
  have hge := sc_ge (dgB t) n j
  have hel := sc_le (p := dgB t) hle
  have hal := sc_all (p := dgB t) j hle
  refine hC.aload_n dX5_readNumber_4 rfl ?_
  refine hC.aload_n dX5_readNumber_5 rfl ?_
  refine hC.getfield dX5_readNumber_6 lfX5_30 rfl rfl ?_
  refine hC.putI dX5_readNumber_9 lpX5_82 rfl rfl rfl (Nat.le_of_ble_eq_true rfl) ?_
  refine hC.iconst dX5_readNumber_12 (v := nI 0) rfl ?_
  refine hC.istore_n dX5_readNumber_13 (by decide) ?_
  refine hC.aload_n dX5_readNumber_14 rfl ?_
  refine hC.bipush dX5_readNumber_15 (v := nI 48) rfl ?_
  refine hC.bipush dX5_readNumber_17 (v := nI 57) rfl ?_
  refine hC.rdV [0, 1] dX5_readNumber_19 lmX5_102 mkX5_endOfRun svX5_endOfRun (ct_X5_endOfRun l g t n f q j j 48 57 hn ht hle (by decide) (by decide)) ⟨Nat.le_of_ble_eq_true rfl, Nat.le_of_ble_eq_true rfl⟩ rfl rfl (Nat.le_of_ble_eq_true rfl) ⟨by decide, rfl⟩ rfl rfl ?_
  rw [show inP t 48 57 = dgB t from rfl]
  generalize heg : sc (dgB t) n j = e at hge hel hal hnu ⊢
  have hdig : ∀ k, j ≤ k → k < e → 48 ≤ t k ∧ t k ≤ 57 := fun k h1 h2 => of_decide_eq_true (hal k h1 h2)
  obtain ⟨m, hm⟩ : ∃ m, m = (if e < j + 3 then e else j + 3) := ⟨_, rfl⟩
  have hm1 : j ≤ m ∧ m ≤ e ∧ m ≤ j + 3 := by rw [hm]; split <;> omega
  have hm2 : e - j ≤ 3 → m = e := by rw [hm]; split <;> omega
  have hV1 : ∀ k, k ≤ m - j → caK t j k < 10 ^ k := fun k hk => caK_d k (by omega) (fun z hz => hdig (j + z) (by omega) (by omega))
  have hV3 : ∀ k, k ≤ m - j → caK t j k < 1000 := fun k hk => by
    have h1 := hV1 k hk
    have h2 : 10 ^ k ≤ 10 ^ 3 := Nat.pow_le_pow_right (by decide) (by omega)
    omega
  have hV := hV3 (m - j) (Nat.le_refl _)
  obtain ⟨V, hVg⟩ : ∃ V, caK t j (m - j) = V := ⟨_, rfl⟩
  rw [hVg] at hV
  have k117 : ∀ f2 q2, (f ≠ 0 → f2 = f ∧ q2 = q) → (f = 0 → match nuT t n lo hx i with
      | .error (k, p) => k ≠ 0 ∧ k < 10 ∧ f2 = k ∧ q2 = p
      | .ok (a, j2, e2) => V = a ∧ e = e2 ∧ j = j2 ∧ f2 = 0 ∧ q2 = q) → K 117 [(0, .ref 0), (3, .int (nI V)), (4, .int (nI e))] [] (txC g n f2 q2 j j) := by
    intro f2 q2 h1 h2
    refine hC.aload_n dX5_readNumber_117 rfl ?_
    refine hC.iload dX5_readNumber_118 rfl ?_
    refine hC.putI dX5_readNumber_120 lpX5_30 rfl rfl rfl (Nat.le_of_ble_eq_true rfl) ?_
    refine hC.iload_n dX5_readNumber_123 rfl ?_
    refine hR.ireturn dX5_readNumber_124 ⟨V, e, j, hV, hel, rfl, fun h0 => ?_, fun h0 => ?_⟩
    · obtain ⟨rfl, rfl⟩ := h1 h0
      rfl
    · have h3 := h2 h0
      cases hnx : nuT t n lo hx i with
      | error x =>
        obtain ⟨k, p⟩ := x
        rw [hnx] at h3
        obtain ⟨g1, g2, rfl, rfl⟩ := h3
        exact ⟨g1, g2, rfl⟩
      | ok y =>
        obtain ⟨a, j2, e2⟩ := y
        rw [hnx] at h3
        obtain ⟨g1, rfl, rfl, rfl, rfl⟩ := h3
        exact ⟨g1, rfl, rfl, rfl⟩
  have k42 : ∀ f1 q1, f1 < 10 → (f ≠ 0 → f1 = f ∧ q1 = q) → (f = 0 → e = j → f1 = 1 ∧ q1 = j) → (f = 0 → e ≠ j → f1 = 0 ∧ q1 = q) → K 42 [(0, .ref 0), (1, .int (nI lo)), (2, .int (nI hx - nI 1)), (3, .int (nI 0)), (4, .int (nI e))] [] (txC g n f1 q1 j j) := by
    intro f1 q1 hf1 a1 a2 a3
    have k108 : (3 < e - j ∨ ¬ (lo ≤ V ∧ V < hx)) → K 108 [(0, .ref 0), (3, .int (nI V)), (4, .int (nI e))] [] (txC g n f1 q1 j j) := by
      intro hbad
      refine hC.aload_n dX5_readNumber_108 rfl ?_
      refine hC.iconst dX5_readNumber_109 (v := nI 2) rfl ?_
      refine hC.aload_n dX5_readNumber_110 rfl ?_
      refine hC.getfield dX5_readNumber_111 lfX5_30 rfl rfl ?_
      refine hC.wuVs dX5_readNumber_114 lmX5_50 mkX5_fail svX5_fail (ct_X5_fail l g n f1 q1 j j 2 j (by omega)) ⟨Nat.le_of_ble_eq_true rfl, Nat.le_of_ble_eq_true rfl⟩ rfl rfl (Nat.le_of_ble_eq_true rfl) rfl rfl ?_
      refine k117 _ _ (fun h0 => ?_) (fun h0 => ?_)
      · obtain ⟨rfl, rfl⟩ := a1 h0
        rw [if_neg h0, if_neg h0]
        exact ⟨rfl, rfl⟩
      · by_cases hej : e = j
        · obtain ⟨rfl, rfl⟩ := a2 h0 hej
          rw [hnu, if_pos hej]
          exact ⟨by decide, by decide, rfl, rfl⟩
        · obtain ⟨rfl, rfl⟩ := a3 h0 hej
          rw [hnu, if_neg hej, if_pos (by
            rcases hbad with h1 | h1
            · exact Or.inl h1
            · by_cases h3 : 3 < e - j
              · exact Or.inl h3
              · refine Or.inr ?_
                rw [← hm2 (by omega), hVg]
                exact h1)]
          exact ⟨by decide, by decide, rfl, rfl⟩
    have k87 : K 87 [(0, .ref 0), (1, .int (nI lo)), (2, .int (nI hx - nI 1)), (3, .int (nI V)), (4, .int (nI e))] [] (txC g n f1 q1 j j) := by
      refine hC.iload dX5_readNumber_87 rfl ?_
      refine hC.aload_n dX5_readNumber_89 rfl ?_
      refine hC.getfield dX5_readNumber_90 lfX5_30 rfl rfl ?_
      refine hC.isub dX5_readNumber_93 ?_
      rw [pk_sub (show j ≤ e by omega)]
      refine hC.iconst dX5_readNumber_94 (v := nI 3) rfl ?_
      refine hC.n_gt (by omega) (by omega) dX5_readNumber_95 (tgt := 108) rfl (fun c1 => ?_) (fun c1 => ?_)
      · exact hC.loc rfl (k108 (Or.inl c1))
      · refine hC.iload_n dX5_readNumber_98 rfl ?_
        refine hC.iload_n dX5_readNumber_99 rfl ?_
        refine hC.n_lt (by omega) (by omega) dX5_readNumber_100 (tgt := 108) rfl (fun c2 => ?_) (fun c2 => ?_)
        · exact hC.loc rfl (k108 (Or.inr (by omega)))
        · refine hC.iload_n dX5_readNumber_103 rfl ?_
          refine hC.iload_n dX5_readNumber_104 rfl ?_
          refine hC.icmp_le dX5_readNumber_105 (tgt := 117) rfl (fun c3 => ?_) (fun c3 => ?_)
          · have c3 := (le_hx (by omega) (by omega)).mp c3
            refine hC.loc rfl (k117 f1 q1 a1 (fun h0 => ?_))
            have hme := hm2 c1
            rw [hme] at hVg
            by_cases hej : e = j
            · obtain ⟨rfl, rfl⟩ := a2 h0 hej
              rw [hnu, if_pos hej]
              exact ⟨by decide, by decide, rfl, rfl⟩
            · obtain ⟨rfl, rfl⟩ := a3 h0 hej
              rw [hnu, if_neg hej, hVg, if_neg (by omega)]
              exact ⟨rfl, rfl, rfl, rfl, rfl⟩
          · have c3 : ¬ V < hx := fun z => c3 ((le_hx (by omega) (by omega)).mpr z)
            exact hC.loc rfl (k108 (Or.inr (by omega)))
    have loop : ∀ d k, k + d = m → j ≤ k → K 48 [(0, .ref 0), (1, .int (nI lo)), (2, .int (nI hx - nI 1)), (3, .int (nI (caK t j (k - j)))), (4, .int (nI e)), (5, .int (nI k))] [] (txC g n f1 q1 j j) := by
      intro d
      induction d with
      | zero =>
        intro k hk hjk
        have hkm : k = m := by omega
        subst hkm
        rw [hVg]
        refine hC.iload dX5_readNumber_48 rfl ?_
        refine hC.iload dX5_readNumber_50 rfl ?_
        refine hC.n_ge (by omega) (by omega) dX5_readNumber_52 (tgt := 87) rfl (fun c1 => ?_) (fun c1 => ?_)
        · exact hC.loc rfl k87
        · refine hC.iload dX5_readNumber_55 rfl ?_
          refine hC.aload_n dX5_readNumber_57 rfl ?_
          refine hC.getfield dX5_readNumber_58 lfX5_30 rfl rfl ?_
          refine hC.iconst dX5_readNumber_61 (v := nI 3) rfl ?_
          refine hC.iadd dX5_readNumber_62 ?_
          rw [nI_add]
          refine hC.n_ge (a := k) (b := j + 3) (by omega) (by omega) dX5_readNumber_63 (tgt := 87) rfl (fun _ => ?_) (fun c2 => ?_)
          · exact hC.loc rfl k87
          · exfalso
            by_cases he3 : e < j + 3
            · rw [if_pos he3] at hm; omega
            · rw [if_neg he3] at hm; omega
      | succ d ih =>
        intro k hk hjk
        have hkd := hdig k hjk (by omega)
        have hck := hV3 (k - j) (by omega)
        have hsg : sgF t n k = t k := by rw [sgF, if_pos (by omega)]
        have ih := ih (k + 1) (by omega) (by omega)
        rw [show k + 1 - j = (k - j) + 1 by omega, caK, if_neg (by omega), show j + (k - j) = k by omega] at ih
        generalize caK t j (k - j) = ca at hck ih ⊢
        refine hC.iload dX5_readNumber_48 rfl ?_
        refine hC.iload dX5_readNumber_50 rfl ?_
        refine hC.n_ge (by omega) (by omega) dX5_readNumber_52 (tgt := 87) rfl (fun c1 => ?_) (fun c1 => ?_)
        · omega
        · refine hC.iload dX5_readNumber_55 rfl ?_
          refine hC.aload_n dX5_readNumber_57 rfl ?_
          refine hC.getfield dX5_readNumber_58 lfX5_30 rfl rfl ?_
          refine hC.iconst dX5_readNumber_61 (v := nI 3) rfl ?_
          refine hC.iadd dX5_readNumber_62 ?_
          rw [nI_add]
          refine hC.n_ge (a := k) (b := j + 3) (by omega) (by omega) dX5_readNumber_63 (tgt := 87) rfl (fun c2 => ?_) (fun _ => ?_)
          · omega
          · refine hC.iload_n dX5_readNumber_66 rfl ?_
            refine hC.bipush dX5_readNumber_67 (v := nI 10) rfl ?_
            refine hC.imul dX5_readNumber_69 ?_
            rw [pk_mul]
            refine hC.aload_n dX5_readNumber_70 rfl ?_
            refine hC.iload dX5_readNumber_71 rfl ?_
            refine hC.rdV [0, 1] dX5_readNumber_73 lmX5_105 mkX5_signAt svX5_signAt (ct_X5_signAt l g t n f1 q1 j j k hn ht (by omega)) ⟨Nat.le_of_ble_eq_true rfl, Nat.le_of_ble_eq_true rfl⟩ rfl rfl (Nat.le_of_ble_eq_true rfl) ⟨by decide, rfl⟩ rfl rfl ?_
            rw [hsg]
            refine hC.iadd dX5_readNumber_76 ?_
            rw [nI_add]
            refine hC.bipush dX5_readNumber_77 (v := nI 48) rfl ?_
            refine hC.isub dX5_readNumber_79 ?_
            rw [pk_sub (show 48 ≤ ca * 10 + t k by omega), Nat.mul_comm ca 10]
            refine hC.istore_n dX5_readNumber_80 (by decide) ?_
            refine hC.iinc dX5_readNumber_81 rfl (nI_1 _) (by decide) ?_
            refine hC.goto dX5_readNumber_84 (tgt := 48) rfl ?_
            exact hC.loc rfl ih
    refine hC.aload_n dX5_readNumber_42 rfl ?_
    refine hC.getfield dX5_readNumber_43 lfX5_30 rfl rfl ?_
    refine hC.istore dX5_readNumber_46 (by decide) ?_
    have l0 := loop (m - j) j (by omega) (Nat.le_refl j)
    rw [Nat.sub_self] at l0
    exact hC.loc rfl l0
  refine hC.istore dX5_readNumber_22 (by decide) ?_
  refine hC.iload dX5_readNumber_24 rfl ?_
  refine hC.aload_n dX5_readNumber_26 rfl ?_
  refine hC.getfield dX5_readNumber_27 lfX5_30 rfl rfl ?_
  refine hC.n_ne (by omega) (by omega) dX5_readNumber_30 (tgt := 42) rfl (fun c => ?_) (fun c => ?_)
  · exact hC.loc rfl (k42 f q hf (fun _ => ⟨rfl, rfl⟩) (fun _ z => absurd z c) (fun h0 _ => ⟨h0, rfl⟩))
  · refine hC.aload_n dX5_readNumber_33 rfl ?_
    refine hC.iconst dX5_readNumber_34 (v := nI 1) rfl ?_
    refine hC.aload_n dX5_readNumber_35 rfl ?_
    refine hC.getfield dX5_readNumber_36 lfX5_30 rfl rfl ?_
    refine hC.wuVs dX5_readNumber_39 lmX5_50 mkX5_fail svX5_fail (ct_X5_fail l g n f q j j 1 j (by omega)) ⟨Nat.le_of_ble_eq_true rfl, Nat.le_of_ble_eq_true rfl⟩ rfl rfl (Nat.le_of_ble_eq_true rfl) rfl rfl ?_
    refine hC.loc rfl (k42 _ _ ?_ (fun h0 => ⟨if_neg h0, if_neg h0⟩) (fun h0 _ => ⟨if_pos h0, if_pos h0⟩) (fun _ z => absurd c z))
    split <;> omega
def enX (g : Nat → Int32) (n f q : Nat) (x : Except FaT Nat) (h2 : List va_E) : Prop := ∃ i2 b2, i2 ≤ n ∧ (f ≠ 0 → h2 = txC g n f q i2 b2) ∧ (f = 0 → match x with
  | .error (k, p) => k ≠ 0 ∧ k < 10 ∧ h2 = txC g n k p i2 b2
  | .ok e => i2 = e ∧ h2 = txC g n 0 q e b2)
set_option maxHeartbeats 4000000 in
set_option maxRecDepth 20000 in
theorem ct_X5_readEnd (l : Launch) (g : Nat → Int32) (t : Nat → Nat) (n f q i b : Nat) (hn : n ≤ 500) (ht : txB g t n) (hi : i ≤ n) (hf : f < 10) : Ct l 2 yX5_readEnd cX5_readEnd 1 none [.ref 0] (txC g n f q i b) (fun r h2 => r = none ∧ enX g n f q (enT t n i) h2) := by
  refine Ct.of (by decide) (Nat.le_of_ble_eq_true rfl) (fun K hC hR => ?_)
  show K 0 [(0, .ref 0)] [] _
  have hle := sc_le (p := spB t) hi
  have hen : enT t n i = if sc (spB t) n i < n ∧ t (sc (spB t) n i) = 59 then .ok (sc (spB t) n i + 1) else .error (1, sc (spB t) n i) := rfl
  rw [hen] at hR
  refine hC.aload_n dX5_readEnd_0 rfl ?_
  refine hC.wuVs dX5_readEnd_1 lmX5_33 mkX5_skipBlanks svX5_skipBlanks (ct_X5_skipBlanks l g t n f q i b hn ht hi) ⟨Nat.le_of_ble_eq_true rfl, Nat.le_of_ble_eq_true rfl⟩ rfl rfl (Nat.le_of_ble_eq_true rfl) rfl rfl ?_
  generalize sc (spB t) n i = j at hle hR ⊢
  refine hC.aload_n dX5_readEnd_4 rfl ?_
  refine hC.rdV [0, 1] dX5_readEnd_5 lmX5_36 mkX5_sign svX5_sign (ct_X5_sign l g t n f q j b hn ht hle) ⟨Nat.le_of_ble_eq_true rfl, Nat.le_of_ble_eq_true rfl⟩ rfl rfl (Nat.le_of_ble_eq_true rfl) ⟨by decide, rfl⟩ rfl rfl ?_
  refine hC.bipush dX5_readEnd_8 (v := nI 59) rfl ?_
  refine hC.icmp_ne dX5_readEnd_10 (tgt := 26) rfl (fun c => ?_) (fun c => ?_)
  · have c1 : ¬ (j < n ∧ t j = 59) := fun z => c ((sg_eq (sg_lt ht j) (by decide)).mpr ((sg_of (by decide)).mpr z))
    rw [if_neg c1] at hR
    refine hC.aload_n dX5_readEnd_26 rfl ?_
    refine hC.iconst dX5_readEnd_27 (v := nI 1) rfl ?_
    refine hC.aload_n dX5_readEnd_28 rfl ?_
    refine hC.getfield dX5_readEnd_29 lfX5_30 rfl rfl ?_
    refine hC.wuVs dX5_readEnd_32 lmX5_50 mkX5_fail svX5_fail (ct_X5_fail l g n f q j b 1 j (by omega)) ⟨Nat.le_of_ble_eq_true rfl, Nat.le_of_ble_eq_true rfl⟩ rfl rfl (Nat.le_of_ble_eq_true rfl) rfl rfl ?_
    refine hR.return_ dX5_readEnd_35 ⟨rfl, j, b, hle, fun h0 => ?_, fun h0 => ?_⟩
    · rw [if_neg h0, if_neg h0]
    · rw [if_pos h0, if_pos h0]
      exact ⟨by decide, by decide, rfl⟩
  · have c1 := (sg_of (by decide)).mp ((sg_eq (sg_lt ht j) (by decide)).mp c)
    rw [if_pos c1] at hR
    refine hC.aload_n dX5_readEnd_13 rfl ?_
    refine hC.dup dX5_readEnd_14 rfl ?_
    refine hC.getfield dX5_readEnd_15 lfX5_30 rfl rfl ?_
    refine hC.iconst dX5_readEnd_18 (v := nI 1) rfl ?_
    refine hC.iadd dX5_readEnd_19 ?_
    rw [nI_add]
    refine hC.putI dX5_readEnd_20 lpX5_30 rfl rfl rfl (Nat.le_of_ble_eq_true rfl) ?_
    refine hC.goto dX5_readEnd_23 (tgt := 35) rfl ?_
    refine hR.return_ dX5_readEnd_35 ⟨rfl, j + 1, b, by omega, fun h0 => rfl, fun h0 => ?_⟩
    subst h0
    exact ⟨rfl, rfl⟩
def adP (P : PlanT) (w a b s : Nat) : PlanT := if w = 2 then plV (plU P 1 (updN (P.1 1) (P.2 1) a)) 1 (P.2 1 + 1) else if w = 5 then plV (plU (plU P 6 (updN (P.1 6) (P.2 3) (2 ^ a ||| (if b = a then 256 else 2 ^ b)))) 7 (updN (P.1 7) (P.2 3) s)) 3 (P.2 3 + 1) else plV (plU (plU (plU (plU P 2 (updN (P.1 2) (P.2 2) a)) 3 (updN (P.1 3) (P.2 2) b)) 5 (updN (P.1 5) (P.2 2) (2 ^ a ||| endB b))) 4 (updN (P.1 4) (P.2 2) s)) 2 (P.2 2 + 1)
set_option maxHeartbeats 4000000 in
set_option maxRecDepth 20000 in
theorem ct_X5_addTold (l : Launch) (P : PlanT) (w a b s : Nat) (hw : w < 10) (h2 : w = 2 → P.2 1 < 8) (h5 : w = 5 → P.2 3 < 8 ∧ a < 8 ∧ b < 8) (h3 : w ≠ 2 → w ≠ 5 → P.2 2 < 12 ∧ a < 8 ∧ (b < 8 ∨ b = 4294967295)) : Ct l 1 yX5_addTold cX5_addTold 5 none [.ref 0, .int (nI w), .int (nI a), .int (nI b), .int (nI s)] (planW P) (RU (planW (adP P w a b s))) := by
  refine Ct.of (by decide) (Nat.le_of_ble_eq_true rfl) (fun K hC hR => ?_)
  show K 0 [(0, .ref 0), (1, .int (nI w)), (2, .int (nI a)), (3, .int (nI b)), (4, .int (nI s))] [] _
  refine hC.iload_n dX5_addTold_0 rfl ?_
  refine hC.iconst dX5_addTold_1 (v := nI 2) rfl ?_
  refine hC.n_ne (by omega) (by omega) dX5_addTold_2 (tgt := 13) rfl (fun c => ?_) (fun c => ?_)
  · refine hC.iload_n dX5_addTold_13 rfl ?_
    refine hC.iconst dX5_addTold_14 (v := nI 5) rfl ?_
    refine hC.n_ne (by omega) (by omega) dX5_addTold_15 (tgt := 29) rfl (fun c2 => ?_) (fun c2 => ?_)
    · obtain ⟨g1, g2, g3⟩ := h3 c c2
      rw [adP, if_neg c, if_neg c2] at hR
      refine hC.aload_n dX5_addTold_29 rfl ?_
      refine hC.iload_n dX5_addTold_30 rfl ?_
      refine hC.iload_n dX5_addTold_31 rfl ?_
      refine hC.iload dX5_addTold_32 rfl ?_
      refine hC.wuVs dX5_addTold_34 lmX5_99 mkX4_addSeam svX4_addSeam (ct_X4_addSeam l P a b s g1 g2 g3) ⟨Nat.le_of_ble_eq_true rfl, Nat.le_of_ble_eq_true rfl⟩ rfl rfl (Nat.le_of_ble_eq_true rfl) rfl rfl ?_
      exact hR.return_ dX5_addTold_37 ⟨rfl, rfl⟩
    · obtain ⟨g1, g2, g3⟩ := h5 c2
      rw [adP, if_neg c, if_pos c2] at hR
      refine hC.aload_n dX5_addTold_18 rfl ?_
      refine hC.iload_n dX5_addTold_19 rfl ?_
      refine hC.iload_n dX5_addTold_20 rfl ?_
      refine hC.iload dX5_addTold_21 rfl ?_
      refine hC.wuVs dX5_addTold_23 lmX5_95 mkX4_addCould svX4_addCould (ct_X4_addCould l P a b s g1 g2 g3) ⟨Nat.le_of_ble_eq_true rfl, Nat.le_of_ble_eq_true rfl⟩ rfl rfl (Nat.le_of_ble_eq_true rfl) rfl rfl ?_
      refine hC.goto dX5_addTold_26 (tgt := 37) rfl ?_
      exact hR.return_ dX5_addTold_37 ⟨rfl, rfl⟩
  · rw [adP, if_pos c] at hR
    refine hC.aload_n dX5_addTold_5 rfl ?_
    refine hC.iload_n dX5_addTold_6 rfl ?_
    refine hC.wuVs dX5_addTold_7 lmX5_92 mkX4_addStrip svX4_addStrip (ct_X4_addStrip l P a (h2 c)) ⟨Nat.le_of_ble_eq_true rfl, Nat.le_of_ble_eq_true rfl⟩ rfl rfl (Nat.le_of_ble_eq_true rfl) rfl rfl ?_
    refine hC.goto dX5_addTold_10 (tgt := 37) rfl ?_
    exact hR.return_ dX5_addTold_37 ⟨rfl, rfl⟩
def tmB (P : PlanT) (w : Nat) : Bool := if w = 1 then decide (0 < P.2 0) else if w = 2 then decide (8 ≤ P.2 1) else if w = 5 then decide (8 ≤ P.2 3) else decide (12 ≤ P.2 2)
set_option maxHeartbeats 4000000 in
set_option maxRecDepth 20000 in
theorem ct_X5_isTooMany (l : Launch) (P : PlanT) (w : Nat) (hw : w = 1 ∨ w = 2 ∨ w = 3 ∨ w = 4 ∨ w = 5) (h0 : P.2 0 < 2 ^ 31) (h1 : P.2 1 < 2 ^ 31) (h2 : P.2 2 < 2 ^ 31) (h3 : P.2 3 < 2 ^ 31) : Ct l 0 yX5_isTooMany cX5_isTooMany 2 (some .boolean) [.ref 0, .int (nI w)] (planW P) (RV (.int (nI (tmB P w).toNat)) (planW P)) := by
  refine Ct.of (by decide) (Nat.le_of_ble_eq_true rfl) (fun K hC hR => ?_)
  show K 0 [(0, .ref 0), (1, .int (nI w))] [] _
  have k79 : tmB P w = decide (12 ≤ P.2 2) → K 79 [(0, .ref 0)] [] (planW P) := by
    intro he
    rw [he] at hR
    refine hC.aload_n dX5_isTooMany_79 rfl ?_
    refine hC.getfield dX5_isTooMany_80 lfX5_71 rfl rfl ?_
    refine hC.bipush dX5_isTooMany_83 (v := nI 12) rfl ?_
    refine hC.n_lt (by omega) (by omega) dX5_isTooMany_85 (tgt := 92) rfl (fun c => ?_) (fun c => ?_)
    · rw [decide_eq_false (by omega)] at hR
      refine hC.iconst dX5_isTooMany_92 (v := nI 0) rfl ?_
      exact hR.zreturn dX5_isTooMany_93 (by first | decide | exact b01 _) ⟨rfl, rfl⟩
    · rw [decide_eq_true (by omega)] at hR
      refine hC.iconst dX5_isTooMany_88 (v := nI 1) rfl ?_
      refine hC.goto dX5_isTooMany_89 (tgt := 93) rfl ?_
      exact hR.zreturn dX5_isTooMany_93 (by first | decide | exact b01 _) ⟨rfl, rfl⟩
  refine hC.iload_n dX5_isTooMany_0 rfl ?_
  rcases hw with rfl | rfl | rfl | rfl | rfl
  · rw [tmB, if_pos rfl] at hR
    refine hC.tabIn dX5_isTooMany_1 (off := 35) (tgt := 36) (by decide) (by decide) rfl rfl ?_
    refine hC.aload_n dX5_isTooMany_36 rfl ?_
    refine hC.getfield dX5_isTooMany_37 lfX5_47 rfl rfl ?_
    refine hC.z_le (x := P.2 0) h0 dX5_isTooMany_40 (tgt := 47) rfl (fun c => ?_) (fun c => ?_)
    · rw [decide_eq_false (by omega)] at hR
      refine hC.iconst dX5_isTooMany_47 (v := nI 0) rfl ?_
      exact hR.zreturn dX5_isTooMany_48 (by first | decide | exact b01 _) ⟨rfl, rfl⟩
    · rw [decide_eq_true (by omega)] at hR
      refine hC.iconst dX5_isTooMany_43 (v := nI 1) rfl ?_
      refine hC.goto dX5_isTooMany_44 (tgt := 48) rfl ?_
      exact hR.zreturn dX5_isTooMany_48 (by first | decide | exact b01 _) ⟨rfl, rfl⟩
  · rw [tmB, if_neg (by decide), if_pos rfl] at hR
    refine hC.tabIn dX5_isTooMany_1 (off := 48) (tgt := 49) (by decide) (by decide) rfl rfl ?_
    refine hC.aload_n dX5_isTooMany_49 rfl ?_
    refine hC.getfield dX5_isTooMany_50 lfX5_65 rfl rfl ?_
    refine hC.bipush dX5_isTooMany_53 (v := nI 8) rfl ?_
    refine hC.n_lt (by omega) (by omega) dX5_isTooMany_55 (tgt := 62) rfl (fun c => ?_) (fun c => ?_)
    · rw [decide_eq_false (by omega)] at hR
      refine hC.iconst dX5_isTooMany_62 (v := nI 0) rfl ?_
      exact hR.zreturn dX5_isTooMany_63 (by first | decide | exact b01 _) ⟨rfl, rfl⟩
    · rw [decide_eq_true (by omega)] at hR
      refine hC.iconst dX5_isTooMany_58 (v := nI 1) rfl ?_
      refine hC.goto dX5_isTooMany_59 (tgt := 63) rfl ?_
      exact hR.zreturn dX5_isTooMany_63 (by first | decide | exact b01 _) ⟨rfl, rfl⟩
  · refine hC.tabIn dX5_isTooMany_1 (off := 78) (tgt := 79) (by decide) (by decide) rfl rfl ?_
    exact hC.loc rfl (k79 rfl)
  · refine hC.tabIn dX5_isTooMany_1 (off := 78) (tgt := 79) (by decide) (by decide) rfl rfl ?_
    exact hC.loc rfl (k79 rfl)
  · rw [tmB, if_neg (by decide), if_neg (by decide), if_pos rfl] at hR
    refine hC.tabIn dX5_isTooMany_1 (off := 63) (tgt := 64) (by decide) (by decide) rfl rfl ?_
    refine hC.aload_n dX5_isTooMany_64 rfl ?_
    refine hC.getfield dX5_isTooMany_65 lfX5_68 rfl rfl ?_
    refine hC.bipush dX5_isTooMany_68 (v := nI 8) rfl ?_
    refine hC.n_lt (by omega) (by omega) dX5_isTooMany_70 (tgt := 77) rfl (fun c => ?_) (fun c => ?_)
    · rw [decide_eq_false (by omega)] at hR
      refine hC.iconst dX5_isTooMany_77 (v := nI 0) rfl ?_
      exact hR.zreturn dX5_isTooMany_78 (by first | decide | exact b01 _) ⟨rfl, rfl⟩
    · rw [decide_eq_true (by omega)] at hR
      refine hC.iconst dX5_isTooMany_73 (v := nI 1) rfl ?_
      refine hC.goto dX5_isTooMany_74 (tgt := 78) rfl ?_
      exact hR.zreturn dX5_isTooMany_78 (by first | decide | exact b01 _) ⟨rfl, rfl⟩
set_option maxHeartbeats 4000000 in
set_option maxRecDepth 20000 in
theorem ct_X5_hasRoom (l : Launch) (g : Nat → Int32) (n f q i b k : Nat) (hn : n ≤ 500) (hk : k < 100) : Ct l 0 yX5_hasRoom cX5_hasRoom 2 (some .boolean) [.ref 0, .int (nI k)] (txC g n f q i b) (RV (.int (nI (decide (n + k ≤ 500)).toNat)) (txC g n f q i b)) := by
  refine Ct.of (by decide) (Nat.le_of_ble_eq_true rfl) (fun K hC hR => ?_)
  show K 0 [(0, .ref 0), (1, .int (nI k))] [] _
  refine hC.aload_n dX5_hasRoom_0 rfl ?_
  refine hC.getfield dX5_hasRoom_1 lfX5_19 rfl rfl ?_
  refine hC.iload_n dX5_hasRoom_4 rfl ?_
  refine hC.iadd dX5_hasRoom_5 ?_
  rw [nI_add]
  refine hC.sipush dX5_hasRoom_6 (v := nI 500) rfl ?_
  refine hC.n_gt (by omega) (by omega) dX5_hasRoom_9 (tgt := 16) rfl (fun c => ?_) (fun c => ?_)
  · rw [decide_eq_false (by omega)] at hR
    refine hC.iconst dX5_hasRoom_16 (v := nI 0) rfl ?_
    exact hR.zreturn dX5_hasRoom_17 (by first | decide | exact b01 _) ⟨rfl, rfl⟩
  · rw [decide_eq_true (by omega)] at hR
    refine hC.iconst dX5_hasRoom_12 (v := nI 1) rfl ?_
    refine hC.goto dX5_hasRoom_13 (tgt := 17) rfl ?_
    exact hR.zreturn dX5_hasRoom_17 (by first | decide | exact b01 _) ⟨rfl, rfl⟩
theorem byV_cls (z : Int64) : z.toInt32.toInt8.toInt32 &&& nI 255 = nI (byV z) := by
  have h := lN_self z
  obtain ⟨N, hN⟩ : ∃ N, z.toBitVec.toNat = N := ⟨_, rfl⟩
  have hb : byV z = N % 256 := by unfold byV; rw [hN]
  rw [hb, h, hN, lN_i]
  apply i32_ext
  apply BitVec.eq_of_getLsbD_eq
  intro i hi
  rw [Int32.toBitVec_and, BitVec.getLsbD_and, nI_bv, nI_bv, BitVec.getLsbD_ofNat, BitVec.getLsbD_ofNat]
  have h255 : (255 : Nat).testBit i = decide (i < 8) := by rw [show (255 : Nat) = 2 ^ 8 - 1 from rfl, Nat.testBit_two_pow_sub_one]
  have hmod : (N % 256).testBit i = (decide (i < 8) && N.testBit i) := by rw [show (256 : Nat) = 2 ^ 8 from rfl, Nat.testBit_mod_two_pow]
  rw [h255, hmod]
  by_cases h8 : i < 8
  · have e2 : (BitVec.signExtend 8 (BitVec.ofNat 32 N)).getLsbD i = N.testBit i := by
      rw [BitVec.getLsbD_signExtend, BitVec.getLsbD_ofNat]
      simp [h8, hi]
    have e1 : ((nI N).toInt8.toInt32).toBitVec.getLsbD i = N.testBit i := by
      rw [Int8.toBitVec_toInt32, BitVec.getLsbD_signExtend, Int32.toBitVec_toInt8, nI_bv, e2]
      simp [h8, hi]
    rw [e1]
    simp [h8, hi]
  · simp [h8]
theorem fdT_o {f : Nat → Nat} {m : Nat} {y : Int64} {n : Nat} : ∀ i j, j < m → fdT f m y n i j = f j
  | 0, _, _ => rfl
  | i + 1, j, h => by rw [fdT, updN_n (by omega)]; exact fdT_o i j h
set_option maxHeartbeats 4000000 in
set_option maxRecDepth 20000 in
theorem ct_X5_add (l : Launch) (g : Nat → Int32) (n f q i b k : Nat) (y : Int64) (hk : 1 ≤ k ∧ k ≤ 8) (hnk : n + k ≤ 500) : Ct l 0 yX5_add cX5_add 5 none [.ref 0, .int (nI k), .long y] (txC g n f q i b) (fun r h2 => r = none ∧ ∃ g2, h2 = txC g2 (n + k) f q i b ∧ ∀ t, txB g t n → txB g2 (fdT t n y k k) (n + k)) := by
  refine Ct.of (by decide) (Nat.le_of_ble_eq_true rfl) (fun K hC hR => ?_)
  show K 0 [(0, .ref 0), (1, .int (nI k)), (2, .long y)] [] _
  have loop : ∀ d, d ≤ k → ∀ g1, (∀ t, txB g t n → txB g1 (fdT t n y k d) (n + d)) → K 5 [(0, .ref 0), (1, .int (nI k)), (2, .long y), (4, .int (dnI k d))] [] (txC g1 (n + d) f q i b) := by
    refine loopUp1 _ k ?_ (fun d hd ih => ?_)
    · intro g1 hg1
      rw [show dnI k k = -1 by simp [dnI]]
      refine hC.iload dX5_add_5 rfl ?_
      refine hC.if_lt dX5_add_7 (tgt := 61) rfl (fun _ => ?_) (fun c => absurd (by decide) c)
      exact hR.return_ dX5_add_61 ⟨rfl, g1, rfl, hg1⟩
    · intro g1 hg1
      rw [show dnI k d = nI (k - 1 - d) by simp [dnI, hd]]
      refine hC.iload dX5_add_5 rfl ?_
      refine hC.z_lt (by omega) dX5_add_7 (tgt := 61) rfl ?_
      refine hC.aload_n dX5_add_10 rfl ?_
      refine hC.getfield dX5_add_11 lfX5_19 rfl rfl ?_
      refine hC.z_lt (x := n + d) (by omega) dX5_add_14 (tgt := 55) rfl ?_
      refine hC.aload_n dX5_add_17 rfl ?_
      refine hC.getfield dX5_add_18 lfX5_19 rfl rfl ?_
      refine hC.sipush dX5_add_21 (v := nI 500) rfl ?_
      refine hC.n_ge (a := n + d) (b := 500) (by omega) (by omega) dX5_add_24 (tgt := 55) rfl (fun c => ?_) (fun _ => ?_)
      · omega
      · have ih := ih (upd g1 (n + d) (y >>> ((nI (8 * (k - 1 - d))).toInt64 &&& 63)).toInt32.toInt8.toInt32) (fun t ht j hj => by
          rw [fdT]
          by_cases e : j = n + d
          · subst e
            rw [pk_us, updN_s, byV_cls]
            exact ⟨rfl, byV_lt _⟩
          · rw [pk_un e, updN_n e]
            exact hg1 t ht j (by omega))
        rw [← dnI_s hd] at ih
        refine hC.aload_n dX5_add_27 rfl ?_
        refine hC.getfield dX5_add_28 lfX5_9 rfl rfl ?_
        refine hC.aload_n dX5_add_31 rfl ?_
        refine hC.getfield dX5_add_32 lfX5_19 rfl rfl ?_
        refine hC.lload_n dX5_add_35 rfl ?_
        refine hC.bipush dX5_add_36 (v := nI 8) rfl ?_
        refine hC.iload dX5_add_38 rfl ?_
        refine hC.imul dX5_add_40 ?_
        rw [pk_mul]
        refine hC.lshr dX5_add_41 ?_
        refine hC.l2i dX5_add_42 ?_
        refine hC.i2b dX5_add_43 ?_
        refine hC.bastore (i := nI (n + d)) dX5_add_44 rfl (vp_in_nI (by omega) (by decide)) ?_
        rw [nI_clamp (show n + d < 2 ^ 31 by omega), pk_vb]
        refine hC.aload_n dX5_add_45 rfl ?_
        refine hC.dup dX5_add_46 rfl ?_
        refine hC.getfield dX5_add_47 lfX5_19 rfl rfl ?_
        refine hC.iconst dX5_add_50 (v := nI 1) rfl ?_
        refine hC.iadd (x := nI (n + d)) (y := nI 1) dX5_add_51 ?_
        rw [nI_add]
        refine hC.putI dX5_add_52 lpX5_19 rfl rfl rfl (Nat.le_of_ble_eq_true rfl) ?_
        refine hC.iinc dX5_add_55 rfl rfl (by decide) ?_
        refine hC.goto dX5_add_58 (tgt := 5) rfl ?_
        exact hC.loc rfl ih
  refine hC.iload_n dX5_add_0 rfl ?_
  refine hC.iconst dX5_add_1 (v := nI 1) rfl ?_
  refine hC.isub dX5_add_2 ?_
  rw [pk_sub hk.1]
  refine hC.istore dX5_add_3 (by decide) ?_
  have l0 := loop 0 (by omega) g (fun t ht => ht)
  rw [show dnI k 0 = nI (k - 1) by unfold dnI; rw [if_pos (by omega)]; rfl] at l0
  exact hC.loc rfl l0
