/-! StripFlag$Text: signs, blanks, runs, words, numbers -/
abbrev txC (g : Nat → Int32) (n f q i b : Nat) : List va_E := [.inr (5, [.ref 1, .int (nI n), .int (nI f), .int (nI q), .int (nI i), .int (nI b)]), .inl (1, 500, .inl g)]
/-- the bytes g are the text t -/
def txB (g : Nat → Int32) (t : Nat → Nat) (n : Nat) : Prop := ∀ j, j < n → g j &&& nI 255 = nI (t j) ∧ t j < 256
def sgF (t : Nat → Nat) (n i : Nat) : Nat := if i < n then t i else NN
set_option maxHeartbeats 4000000 in
set_option maxRecDepth 20000 in
theorem ct_X5_signAt (l : Launch) (g : Nat → Int32) (t : Nat → Nat) (n f q i b j : Nat) (hn : n ≤ 500) (ht : txB g t n) (hj : j < 2 ^ 31) : Ct l 0 yX5_signAt cX5_signAt 2 (some .int) [.ref 0, .int (nI j)] (txC g n f q i b) (RV (.int (nI (sgF t n j))) (txC g n f q i b)) := by
  refine Ct.of (by decide) (Nat.le_of_ble_eq_true rfl) (fun K hC hR => ?_)
  show K 0 [(0, .ref 0), (1, .int (nI j))] [] _
  refine hC.iload_n dX5_signAt_0 rfl ?_
  refine hC.z_lt (by omega) dX5_signAt_1 (tgt := 32) rfl ?_
  refine hC.iload_n dX5_signAt_4 rfl ?_
  refine hC.aload_n dX5_signAt_5 rfl ?_
  refine hC.getfield dX5_signAt_6 lfX5_19 rfl rfl ?_
  refine hC.n_ge (by omega) (by omega) dX5_signAt_9 (tgt := 32) rfl (fun c => ?_) (fun c => ?_)
  · rw [sgF, if_neg (by omega)] at hR
    refine hC.iconst dX5_signAt_32 (v := (-1)) rfl ?_
    rw [m1_nI]
    exact hR.ireturn dX5_signAt_33 ⟨rfl, rfl⟩
  · rw [sgF, if_pos c] at hR
    refine hC.iload_n dX5_signAt_12 rfl ?_
    refine hC.sipush dX5_signAt_13 (v := nI 500) rfl ?_
    refine hC.n_ge (by omega) (by omega) dX5_signAt_16 (tgt := 32) rfl (fun c2 => ?_) (fun c2 => ?_)
    · omega
    · refine hC.aload_n dX5_signAt_19 rfl ?_
      refine hC.getfield dX5_signAt_20 lfX5_9 rfl rfl ?_
      refine hC.iload_n dX5_signAt_23 rfl ?_
      refine hC.baN dX5_signAt_24 rfl ⟨by omega, by decide⟩ ?_
      refine hC.sipush dX5_signAt_25 (v := nI 255) rfl ?_
      refine hC.iand dX5_signAt_28 ?_
      rw [(ht j c).1]
      refine hC.goto dX5_signAt_29 (tgt := 33) rfl ?_
      exact hR.ireturn dX5_signAt_33 ⟨rfl, rfl⟩
set_option maxHeartbeats 4000000 in
set_option maxRecDepth 20000 in
theorem ct_X5_sign (l : Launch) (g : Nat → Int32) (t : Nat → Nat) (n f q i b : Nat) (hn : n ≤ 500) (ht : txB g t n) (hi : i ≤ n) : Ct l 1 yX5_sign cX5_sign 1 (some .int) [.ref 0] (txC g n f q i b) (RV (.int (nI (sgF t n i))) (txC g n f q i b)) := by
  refine Ct.of (by decide) (Nat.le_of_ble_eq_true rfl) (fun K hC hR => ?_)
  show K 0 [(0, .ref 0)] [] _
  refine hC.aload_n dX5_sign_0 rfl ?_
  refine hC.aload_n dX5_sign_1 rfl ?_
  refine hC.getfield dX5_sign_2 lfX5_30 rfl rfl ?_
  refine hC.rdV [0, 1] dX5_sign_5 lmX5_105 mkX5_signAt svX5_signAt (ct_X5_signAt l g t n f q i b i hn ht (by omega)) ⟨Nat.le_of_ble_eq_true rfl, Nat.le_of_ble_eq_true rfl⟩ rfl rfl (Nat.le_of_ble_eq_true rfl) ⟨by decide, rfl⟩ rfl rfl ?_
  exact hR.ireturn dX5_sign_8 ⟨rfl, rfl⟩
theorem sg_of {t : Nat → Nat} {n i c : Nat} (hc : c < NN) : sgF t n i = c ↔ i < n ∧ t i = c := by
  unfold sgF
  have : NN = 4294967295 := rfl
  split <;> omega
theorem sg_lt {g : Nat → Int32} {t : Nat → Nat} {n : Nat} (ht : txB g t n) (i : Nat) : sgF t n i < 256 ∨ sgF t n i = NN := by
  unfold sgF
  split
  next h => exact Or.inl (ht i h).2
  next => exact Or.inr rfl
/-- a sign against a number below 2 ^ 31 -/
theorem sg_eq {x c : Nat} (hx : x < 256 ∨ x = NN) (hc : c < 256) : nI x = nI c ↔ x = c := by
  constructor
  · intro h
    rcases hx with hx | hx
    · exact (nI_eq (by omega) (by omega)).mp h
    · subst hx
      have h2 := congrArg Int32.toInt h
      rw [nI_toInt (show c < 2 ^ 31 by omega), show (nI NN).toInt = -1 by decide] at h2
      omega
  · intro h; rw [h]
set_option maxHeartbeats 4000000 in
set_option maxRecDepth 20000 in
theorem ct_X5_skipBlanks (l : Launch) (g : Nat → Int32) (t : Nat → Nat) (n f q i b : Nat) (hn : n ≤ 500) (ht : txB g t n) (hi : i ≤ n) : Ct l 1 yX5_skipBlanks cX5_skipBlanks 1 none [.ref 0] (txC g n f q i b) (RU (txC g n f q (sc (spB t) n i) b)) := by
  refine Ct.of (by decide) (Nat.le_of_ble_eq_true rfl) (fun K hC hR => ?_)
  show K 0 [(0, .ref 0)] [] _
  have he := sc_end (p := spB t) i hi
  have hle := sc_le (p := spB t) hi
  generalize heg : sc (spB t) n i = e at he hle hR
  have k37 : K 37 [(0, .ref 0)] [] (txC g n f q e b) := by
    exact hR.return_ dX5_skipBlanks_37 ⟨rfl, rfl⟩
  have k0 : K 0 [(0, .ref 0)] [] (txC g n f q e b) := by
    refine hC.aload_n dX5_skipBlanks_0 rfl ?_
    refine hC.getfield dX5_skipBlanks_1 lfX5_30 rfl rfl ?_
    refine hC.aload_n dX5_skipBlanks_4 rfl ?_
    refine hC.getfield dX5_skipBlanks_5 lfX5_19 rfl rfl ?_
    refine hC.n_ge (by omega) (by omega) dX5_skipBlanks_8 (tgt := 37) rfl (fun c => ?_) (fun c => ?_)
    · exact k37
    · have h2 : t e ≠ 32 := of_decide_eq_false ((he.resolve_left (by omega)).2)
      refine hC.aload_n dX5_skipBlanks_11 rfl ?_
      refine hC.aload_n dX5_skipBlanks_12 rfl ?_
      refine hC.getfield dX5_skipBlanks_13 lfX5_30 rfl rfl ?_
      refine hC.rdV [0, 1] dX5_skipBlanks_16 lmX5_105 mkX5_signAt svX5_signAt (ct_X5_signAt l g t n f q e b e hn ht (by omega)) ⟨Nat.le_of_ble_eq_true rfl, Nat.le_of_ble_eq_true rfl⟩ rfl rfl (Nat.le_of_ble_eq_true rfl) ⟨by decide, rfl⟩ rfl rfl ?_
      refine hC.bipush dX5_skipBlanks_19 (v := nI 32) rfl ?_
      refine hC.icmp_ne dX5_skipBlanks_21 (tgt := 37) rfl (fun c2 => ?_) (fun c2 => ?_)
      · exact k37
      · exact absurd ((sg_of (by decide)).mp ((sg_eq (sg_lt ht e) (by decide)).mp c2)).2 h2
  refine sc_loop (p := spB t) (n := n) (fun i => K 0 [(0, .ref 0)] [] (txC g n f q i b)) (fun j hj hp ih => ?_) i hi (by rw [heg]; exact k0)
  have h2 : t j = 32 := of_decide_eq_true hp
  refine hC.aload_n dX5_skipBlanks_0 rfl ?_
  refine hC.getfield dX5_skipBlanks_1 lfX5_30 rfl rfl ?_
  refine hC.aload_n dX5_skipBlanks_4 rfl ?_
  refine hC.getfield dX5_skipBlanks_5 lfX5_19 rfl rfl ?_
  refine hC.n_ge (by omega) (by omega) dX5_skipBlanks_8 (tgt := 37) rfl (fun c => ?_) (fun c => ?_)
  · omega
  · refine hC.aload_n dX5_skipBlanks_11 rfl ?_
    refine hC.aload_n dX5_skipBlanks_12 rfl ?_
    refine hC.getfield dX5_skipBlanks_13 lfX5_30 rfl rfl ?_
    refine hC.rdV [0, 1] dX5_skipBlanks_16 lmX5_105 mkX5_signAt svX5_signAt (ct_X5_signAt l g t n f q j b j hn ht (by omega)) ⟨Nat.le_of_ble_eq_true rfl, Nat.le_of_ble_eq_true rfl⟩ rfl rfl (Nat.le_of_ble_eq_true rfl) ⟨by decide, rfl⟩ rfl rfl ?_
    refine hC.bipush dX5_skipBlanks_19 (v := nI 32) rfl ?_
    refine hC.icmp_ne dX5_skipBlanks_21 (tgt := 37) rfl (fun c2 => ?_) (fun c2 => ?_)
    · exact absurd ((sg_eq (sg_lt ht j) (by decide)).mpr ((sg_of (by decide)).mpr ⟨hj, h2⟩)) c2
    · refine hC.aload_n dX5_skipBlanks_24 rfl ?_
      refine hC.dup dX5_skipBlanks_25 rfl ?_
      refine hC.getfield dX5_skipBlanks_26 lfX5_30 rfl rfl ?_
      refine hC.iconst dX5_skipBlanks_29 (v := nI 1) rfl ?_
      refine hC.iadd dX5_skipBlanks_30 ?_
      rw [nI_add]
      refine hC.putI dX5_skipBlanks_31 lpX5_30 rfl rfl rfl (Nat.le_of_ble_eq_true rfl) ?_
      refine hC.goto dX5_skipBlanks_34 (tgt := 0) rfl ?_
      exact hC.loc rfl ih
def inP (t : Nat → Nat) (lo hi j : Nat) : Bool := decide (lo ≤ t j ∧ t j ≤ hi)
set_option maxHeartbeats 4000000 in
set_option maxRecDepth 20000 in
theorem ct_X5_endOfRun (l : Launch) (g : Nat → Int32) (t : Nat → Nat) (n f q i b lo hi : Nat) (hn : n ≤ 500) (ht : txB g t n) (hi2 : i ≤ n) (hlo : lo < 256) (hhi : hi < 256) : Ct l 1 yX5_endOfRun cX5_endOfRun 4 (some .int) [.ref 0, .int (nI lo), .int (nI hi)] (txC g n f q i b) (RV (.int (nI (sc (inP t lo hi) n i))) (txC g n f q i b)) := by
  refine Ct.of (by decide) (Nat.le_of_ble_eq_true rfl) (fun K hC hR => ?_)
  show K 0 [(0, .ref 0), (1, .int (nI lo)), (2, .int (nI hi))] [] _
  have he := sc_end (p := inP t lo hi) i hi2
  have hle := sc_le (p := inP t lo hi) hi2
  generalize heg : sc (inP t lo hi) n i = e at he hle hR
  have k37 : K 37 [(0, .ref 0), (3, .int (nI e))] [] (txC g n f q i b) := by
    refine hC.iload_n dX5_endOfRun_37 rfl ?_
    exact hR.ireturn dX5_endOfRun_38 ⟨rfl, rfl⟩
  have k5 : K 5 [(0, .ref 0), (1, .int (nI lo)), (2, .int (nI hi)), (3, .int (nI e))] [] (txC g n f q i b) := by
    refine hC.iload_n dX5_endOfRun_5 rfl ?_
    refine hC.aload_n dX5_endOfRun_6 rfl ?_
    refine hC.getfield dX5_endOfRun_7 lfX5_19 rfl rfl ?_
    refine hC.n_ge (by omega) (by omega) dX5_endOfRun_10 (tgt := 37) rfl (fun c => ?_) (fun c => ?_)
    · exact hC.loc rfl k37
    · have h2 : ¬ (lo ≤ t e ∧ t e ≤ hi) := of_decide_eq_false ((he.resolve_left (by omega)).2)
      have hs : sgF t n e = t e := by rw [sgF, if_pos c]
      have hte := (ht e c).2
      refine hC.aload_n dX5_endOfRun_13 rfl ?_
      refine hC.iload_n dX5_endOfRun_14 rfl ?_
      refine hC.rdV [0, 1] dX5_endOfRun_15 lmX5_105 mkX5_signAt svX5_signAt (ct_X5_signAt l g t n f q i b e hn ht (by omega)) ⟨Nat.le_of_ble_eq_true rfl, Nat.le_of_ble_eq_true rfl⟩ rfl rfl (Nat.le_of_ble_eq_true rfl) ⟨by decide, rfl⟩ rfl rfl ?_
      rw [hs]
      refine hC.iload_n dX5_endOfRun_18 rfl ?_
      refine hC.n_lt (by omega) (by omega) dX5_endOfRun_19 (tgt := 37) rfl (fun c3 => ?_) (fun c3 => ?_)
      · exact hC.loc rfl k37
      · refine hC.aload_n dX5_endOfRun_22 rfl ?_
        refine hC.iload_n dX5_endOfRun_23 rfl ?_
        refine hC.rdV [0, 1] dX5_endOfRun_24 lmX5_105 mkX5_signAt svX5_signAt (ct_X5_signAt l g t n f q i b e hn ht (by omega)) ⟨Nat.le_of_ble_eq_true rfl, Nat.le_of_ble_eq_true rfl⟩ rfl rfl (Nat.le_of_ble_eq_true rfl) ⟨by decide, rfl⟩ rfl rfl ?_
        rw [hs]
        refine hC.iload_n dX5_endOfRun_27 rfl ?_
        refine hC.n_gt (by omega) (by omega) dX5_endOfRun_28 (tgt := 37) rfl (fun c4 => ?_) (fun c4 => ?_)
        · exact hC.loc rfl k37
        · omega
  refine hC.aload_n dX5_endOfRun_0 rfl ?_
  refine hC.getfield dX5_endOfRun_1 lfX5_30 rfl rfl ?_
  refine hC.istore_n dX5_endOfRun_4 (by decide) ?_
  refine hC.loc rfl (sc_loop (p := inP t lo hi) (n := n) (fun k => K 5 [(0, .ref 0), (1, .int (nI lo)), (2, .int (nI hi)), (3, .int (nI k))] [] (txC g n f q i b)) (fun j hj hp ih => ?_) i hi2 (by rw [heg]; exact k5))
  have h2 := of_decide_eq_true hp
  have hs : sgF t n j = t j := by rw [sgF, if_pos hj]
  have hte := (ht j hj).2
  refine hC.iload_n dX5_endOfRun_5 rfl ?_
  refine hC.aload_n dX5_endOfRun_6 rfl ?_
  refine hC.getfield dX5_endOfRun_7 lfX5_19 rfl rfl ?_
  refine hC.n_ge (by omega) (by omega) dX5_endOfRun_10 (tgt := 37) rfl (fun c => ?_) (fun c => ?_)
  · omega
  · refine hC.aload_n dX5_endOfRun_13 rfl ?_
    refine hC.iload_n dX5_endOfRun_14 rfl ?_
    refine hC.rdV [0, 1] dX5_endOfRun_15 lmX5_105 mkX5_signAt svX5_signAt (ct_X5_signAt l g t n f q i b j hn ht (by omega)) ⟨Nat.le_of_ble_eq_true rfl, Nat.le_of_ble_eq_true rfl⟩ rfl rfl (Nat.le_of_ble_eq_true rfl) ⟨by decide, rfl⟩ rfl rfl ?_
    rw [hs]
    refine hC.iload_n dX5_endOfRun_18 rfl ?_
    refine hC.n_lt (by omega) (by omega) dX5_endOfRun_19 (tgt := 37) rfl (fun c3 => ?_) (fun c3 => ?_)
    · omega
    · refine hC.aload_n dX5_endOfRun_22 rfl ?_
      refine hC.iload_n dX5_endOfRun_23 rfl ?_
      refine hC.rdV [0, 1] dX5_endOfRun_24 lmX5_105 mkX5_signAt svX5_signAt (ct_X5_signAt l g t n f q i b j hn ht (by omega)) ⟨Nat.le_of_ble_eq_true rfl, Nat.le_of_ble_eq_true rfl⟩ rfl rfl (Nat.le_of_ble_eq_true rfl) ⟨by decide, rfl⟩ rfl rfl ?_
      rw [hs]
      refine hC.iload_n dX5_endOfRun_27 rfl ?_
      refine hC.n_gt (by omega) (by omega) dX5_endOfRun_28 (tgt := 37) rfl (fun c4 => ?_) (fun c4 => ?_)
      · omega
      · refine hC.iinc dX5_endOfRun_31 rfl (nI_1 _) (by decide) ?_
        refine hC.goto dX5_endOfRun_34 (tgt := 5) rfl ?_
        exact hC.loc rfl ih
set_option maxHeartbeats 4000000 in
set_option maxRecDepth 20000 in
theorem ct_X5_fail (l : Launch) (g : Nat → Int32) (n f q i b k p : Nat) (hf : f < 2 ^ 31) : Ct l 0 yX5_fail cX5_fail 3 none [.ref 0, .int (nI k), .int (nI p)] (txC g n f q i b) (RU (txC g n (if f = 0 then k else f) (if f = 0 then p else q) i b)) := by
  refine Ct.of (by decide) (Nat.le_of_ble_eq_true rfl) (fun K hC hR => ?_)
  show K 0 [(0, .ref 0), (1, .int (nI k)), (2, .int (nI p))] [] _
  refine hC.aload_n dX5_fail_0 rfl ?_
  refine hC.getfield dX5_fail_1 lfX5_27 rfl rfl ?_
  refine hC.nnz (by omega) dX5_fail_4 (tgt := 17) rfl (fun c => ?_) (fun c => ?_)
  · rw [if_neg c, if_neg c] at hR
    exact hR.return_ dX5_fail_17 ⟨rfl, rfl⟩
  · rw [if_pos c, if_pos c] at hR
    refine hC.aload_n dX5_fail_7 rfl ?_
    refine hC.iload_n dX5_fail_8 rfl ?_
    refine hC.putI dX5_fail_9 lpX5_27 rfl rfl rfl (Nat.le_of_ble_eq_true rfl) ?_
    refine hC.aload_n dX5_fail_12 rfl ?_
    refine hC.iload_n dX5_fail_13 rfl ?_
    refine hC.putI dX5_fail_14 lpX5_15 rfl rfl rfl (Nat.le_of_ble_eq_true rfl) ?_
    exact hR.return_ dX5_fail_17 ⟨rfl, rfl⟩
theorem alB_f {p : Nat → Bool} {k : Nat} (h : p k = false) : ∀ n, k < n → alB p n = false
  | n + 1, hn => by
    rw [alB]
    by_cases e : k = n
    · rw [← e, h]; simp
    · rw [alB_f h n (by omega)]; rfl
def wdB (t : Nat → Nat) (s i : Nat) : Bool := alB (fun j => decide (t (s + j) = sxC i j)) (sxLen.getD i 0)
set_option maxHeartbeats 4000000 in
set_option maxRecDepth 20000 in
theorem ct_X5_isWord (l : Launch) (g : Nat → Int32) (t : Nat → Nat) (n f q e b s i : Nat) (hn : n ≤ 500) (ht : txB g t n) (he : e ≤ n) (hs : s ≤ e) (hi : i < 5) : Ct l 4 yX5_isWord cX5_isWord 4 (some .boolean) [.ref 0, .int (nI s), .ref (1000 + i)] (txC g n f q e b) (RV (.int (nI (decide (e - s = sxLen.getD i 0) && wdB t s i).toNat)) (txC g n f q e b)) := by
  refine Ct.of (by decide) (Nat.le_of_ble_eq_true rfl) (fun K hC hR => ?_)
  show K 0 [(0, .ref 0), (1, .int (nI s)), (2, .ref (1000 + i))] [] _
  have hL := sx31 hi
  refine hC.aload_n dX5_isWord_0 rfl ?_
  refine hC.getfield dX5_isWord_1 lfX5_30 rfl rfl ?_
  refine hC.iload_n dX5_isWord_4 rfl ?_
  refine hC.isub dX5_isWord_5 ?_
  rw [pk_sub hs]
  refine hC.aload_n dX5_isWord_6 rfl ?_
  refine hC.callStr (i := i) dX5_isWord_7 lmX5_122 mkJ_length svJ_length rfl hi (ct_J_length l i hi) ⟨Nat.le_of_ble_eq_true rfl, Nat.le_of_ble_eq_true rfl⟩ rfl rfl (Nat.le_of_ble_eq_true rfl) ?_
  obtain ⟨L, hLg⟩ : ∃ L, sxLen.getD i 0 = L := ⟨_, rfl⟩
  rw [hLg] at hL hR ⊢
  refine hC.n_eq (by omega) (by omega) dX5_isWord_10 (tgt := 15) rfl (fun c => ?_) (fun c => ?_)
  · have hwd : wdB t s i = alB (fun j => decide (t (s + j) = sxC i j)) L := by rw [wdB, hLg]
    rw [decide_eq_true c, Bool.true_and, hwd] at hR
    have loop : ∀ k, k ≤ L → alB (fun j => decide (t (s + j) = sxC i j)) k = true → K 17 [(0, .ref 0), (1, .int (nI s)), (2, .ref (1000 + i)), (3, .int (nI k))] [] (txC g n f q e b) := by
      refine loopUp1 _ L ?_ (fun k hk ih => ?_)
      · intro hal
        rw [hal] at hR
        refine hC.iload_n dX5_isWord_17 rfl ?_
        refine hC.aload_n dX5_isWord_18 rfl ?_
        refine hC.callStr (i := i) dX5_isWord_19 lmX5_122 mkJ_length svJ_length rfl hi (ct_J_length l i hi) ⟨Nat.le_of_ble_eq_true rfl, Nat.le_of_ble_eq_true rfl⟩ rfl rfl (Nat.le_of_ble_eq_true rfl) ?_
        rw [hLg]
        refine hC.n_ge (by omega) (by omega) dX5_isWord_22 (tgt := 48) rfl (fun c2 => ?_) (fun c2 => ?_)
        · refine hC.iconst dX5_isWord_48 (v := nI 1) rfl ?_
          exact hR.zreturn dX5_isWord_49 (by first | decide | exact b01 _) ⟨rfl, rfl⟩
        · omega
      · intro hal
        have hsk : sgF t n (s + k) = t (s + k) := by rw [sgF, if_pos (by omega)]
        have htk := (ht (s + k) (by omega)).2
        obtain ⟨-, hcl⟩ := sxC_ok (i := i) (j := k) hi (by omega)
        refine hC.iload_n dX5_isWord_17 rfl ?_
        refine hC.aload_n dX5_isWord_18 rfl ?_
        refine hC.callStr (i := i) dX5_isWord_19 lmX5_122 mkJ_length svJ_length rfl hi (ct_J_length l i hi) ⟨Nat.le_of_ble_eq_true rfl, Nat.le_of_ble_eq_true rfl⟩ rfl rfl (Nat.le_of_ble_eq_true rfl) ?_
        rw [hLg]
        refine hC.n_ge (by omega) (by omega) dX5_isWord_22 (tgt := 48) rfl (fun c2 => ?_) (fun c2 => ?_)
        · omega
        · refine hC.aload_n dX5_isWord_25 rfl ?_
          refine hC.iload_n dX5_isWord_26 rfl ?_
          refine hC.iload_n dX5_isWord_27 rfl ?_
          refine hC.iadd dX5_isWord_28 ?_
          rw [nI_add]
          refine hC.rdV [0, 1] dX5_isWord_29 lmX5_105 mkX5_signAt svX5_signAt (ct_X5_signAt l g t n f q e b (s + k) hn ht (by omega)) ⟨Nat.le_of_ble_eq_true rfl, Nat.le_of_ble_eq_true rfl⟩ rfl rfl (Nat.le_of_ble_eq_true rfl) ⟨by decide, rfl⟩ rfl rfl ?_
          rw [hsk]
          refine hC.aload_n dX5_isWord_32 rfl ?_
          refine hC.iload_n dX5_isWord_33 rfl ?_
          refine hC.callStr (i := i) dX5_isWord_34 lmX5_126 mkJ_charAt svJ_charAt rfl hi (ct_J_charAt l i k hi (by omega)) ⟨Nat.le_of_ble_eq_true rfl, Nat.le_of_ble_eq_true rfl⟩ rfl rfl (Nat.le_of_ble_eq_true rfl) ?_
          refine hC.n_eq (by omega) (by omega) dX5_isWord_37 (tgt := 42) rfl (fun c3 => ?_) (fun c3 => ?_)
          · refine hC.iinc dX5_isWord_42 rfl (nI_1 _) (by decide) ?_
            refine hC.goto dX5_isWord_45 (tgt := 17) rfl ?_
            refine hC.loc rfl (ih ?_)
            rw [alB, hal, decide_eq_true c3]; rfl
          · rw [alB_f (k := k) (decide_eq_false c3) L hk] at hR
            refine hC.iconst dX5_isWord_40 (v := nI 0) rfl ?_
            exact hR.zreturn dX5_isWord_41 (by first | decide | exact b01 _) ⟨rfl, rfl⟩
    refine hC.iconst dX5_isWord_15 (v := nI 0) rfl ?_
    refine hC.istore_n dX5_isWord_16 (by decide) ?_
    exact hC.loc rfl (loop 0 (by omega) rfl)
  · rw [decide_eq_false c] at hR
    refine hC.iconst dX5_isWord_13 (v := nI 0) rfl ?_
    exact hR.zreturn dX5_isWord_14 (by first | decide | exact b01 _) ⟨rfl, rfl⟩
theorem isW_0 (t : Nat → Nat) (s e : Nat) : (decide (e - s = sxLen.getD 0 0) && wdB t s 0) = isW t s e [99, 111, 108, 111, 117, 114, 115] := by
  simp [isW, isWK, wdB, alB, sxLen, sxC, sxByt, Nat.add_assoc, Bool.and_assoc]
theorem isW_1 (t : Nat → Nat) (s e : Nat) : (decide (e - s = sxLen.getD 1 0) && wdB t s 1) = isW t s e [115, 116, 114, 105, 112] := by
  simp [isW, isWK, wdB, alB, sxLen, sxC, sxByt, Nat.add_assoc, Bool.and_assoc]
theorem isW_2 (t : Nat → Nat) (s e : Nat) : (decide (e - s = sxLen.getD 2 0) && wdB t s 2) = isW t s e [112, 111, 108, 101] := by
  simp [isW, isWK, wdB, alB, sxLen, sxC, sxByt, Nat.add_assoc, Bool.and_assoc]
theorem isW_3 (t : Nat → Nat) (s e : Nat) : (decide (e - s = sxLen.getD 3 0) && wdB t s 3) = isW t s e [115, 101, 97, 109] := by
  simp [isW, isWK, wdB, alB, sxLen, sxC, sxByt, Nat.add_assoc, Bool.and_assoc]
theorem isW_4 (t : Nat → Nat) (s e : Nat) : (decide (e - s = sxLen.getD 4 0) && wdB t s 4) = isW t s e [99, 111, 117, 108, 100] := by
  simp [isW, isWK, wdB, alB, sxLen, sxC, sxByt, Nat.add_assoc, Bool.and_assoc]
def wcY (w : Nat) : Nat := if w = NN then 0 else w + 1
set_option maxHeartbeats 4000000 in
set_option maxRecDepth 20000 in
theorem ct_X5_readWord (l : Launch) (g : Nat → Int32) (t : Nat → Nat) (n f q i b : Nat) (hn : n ≤ 500) (ht : txB g t n) (hi : i ≤ n) : Ct l 5 yX5_readWord cX5_readWord 2 (some .int) [.ref 0] (txC g n f q i b) (RV (.int (nI (wcY (wcF t i (sc (ltB t) n i))))) (txC g n f q (sc (ltB t) n i) b)) := by
  refine Ct.of (by decide) (Nat.le_of_ble_eq_true rfl) (fun K hC hR => ?_)
  show K 0 [(0, .ref 0)] [] _
  have hge := sc_ge (ltB t) n i
  have hle := sc_le (p := ltB t) hi
  refine hC.aload_n dX5_readWord_0 rfl ?_
  refine hC.getfield dX5_readWord_1 lfX5_30 rfl rfl ?_
  refine hC.istore_n dX5_readWord_4 (by decide) ?_
  refine hC.aload_n dX5_readWord_5 rfl ?_
  refine hC.aload_n dX5_readWord_6 rfl ?_
  refine hC.bipush dX5_readWord_7 (v := nI 97) rfl ?_
  refine hC.bipush dX5_readWord_9 (v := nI 122) rfl ?_
  refine hC.rdV [0, 1] dX5_readWord_11 lmX5_102 mkX5_endOfRun svX5_endOfRun (ct_X5_endOfRun l g t n f q i b 97 122 hn ht hi (by decide) (by decide)) ⟨Nat.le_of_ble_eq_true rfl, Nat.le_of_ble_eq_true rfl⟩ rfl rfl (Nat.le_of_ble_eq_true rfl) ⟨by decide, rfl⟩ rfl rfl ?_
  rw [show inP t 97 122 = ltB t from rfl]
  generalize sc (ltB t) n i = e at hge hle hR ⊢
  have hwc : wcF t i e = if isW t i e [99, 111, 108, 111, 117, 114, 115] = true then 0 else if isW t i e [115, 116, 114, 105, 112] = true then 1 else if isW t i e [112, 111, 108, 101] = true then 2 else if isW t i e [115, 101, 97, 109] = true then 3 else if isW t i e [99, 111, 117, 108, 100] = true then 4 else NN := rfl
  refine hC.putI dX5_readWord_14 lpX5_30 rfl rfl rfl (Nat.le_of_ble_eq_true rfl) ?_
  refine hC.aload_n dX5_readWord_17 rfl ?_
  refine hC.iload_n dX5_readWord_18 rfl ?_
  refine hC.ldcS (i := 0) dX5_readWord_19 rfl (by decide) rfl ?_
  refine hC.rdV [0, 1] dX5_readWord_21 lmX5_110 mkX5_isWord svX5_isWord (ct_X5_isWord l g t n f q e b i 0 hn ht hle hge (by decide)) ⟨Nat.le_of_ble_eq_true rfl, Nat.le_of_ble_eq_true rfl⟩ rfl rfl (Nat.le_of_ble_eq_true rfl) ⟨by decide, rfl⟩ rfl rfl ?_
  rw [isW_0]
  refine hC.bz dX5_readWord_24 (tgt := 29) rfl (fun c0 => ?_) (fun c0 => ?_)
  · rw [if_neg (by simp [c0])] at hwc
    refine hC.aload_n dX5_readWord_29 rfl ?_
    refine hC.iload_n dX5_readWord_30 rfl ?_
    refine hC.ldcS (i := 1) dX5_readWord_31 rfl (by decide) rfl ?_
    refine hC.rdV [0, 1] dX5_readWord_33 lmX5_110 mkX5_isWord svX5_isWord (ct_X5_isWord l g t n f q e b i 1 hn ht hle hge (by decide)) ⟨Nat.le_of_ble_eq_true rfl, Nat.le_of_ble_eq_true rfl⟩ rfl rfl (Nat.le_of_ble_eq_true rfl) ⟨by decide, rfl⟩ rfl rfl ?_
    rw [isW_1]
    refine hC.bz dX5_readWord_36 (tgt := 41) rfl (fun c1 => ?_) (fun c1 => ?_)
    · rw [if_neg (by simp [c1])] at hwc
      refine hC.aload_n dX5_readWord_41 rfl ?_
      refine hC.iload_n dX5_readWord_42 rfl ?_
      refine hC.ldcS (i := 2) dX5_readWord_43 rfl (by decide) rfl ?_
      refine hC.rdV [0, 1] dX5_readWord_45 lmX5_110 mkX5_isWord svX5_isWord (ct_X5_isWord l g t n f q e b i 2 hn ht hle hge (by decide)) ⟨Nat.le_of_ble_eq_true rfl, Nat.le_of_ble_eq_true rfl⟩ rfl rfl (Nat.le_of_ble_eq_true rfl) ⟨by decide, rfl⟩ rfl rfl ?_
      rw [isW_2]
      refine hC.bz dX5_readWord_48 (tgt := 53) rfl (fun c2 => ?_) (fun c2 => ?_)
      · rw [if_neg (by simp [c2])] at hwc
        refine hC.aload_n dX5_readWord_53 rfl ?_
        refine hC.iload_n dX5_readWord_54 rfl ?_
        refine hC.ldcS (i := 3) dX5_readWord_55 rfl (by decide) rfl ?_
        refine hC.rdV [0, 1] dX5_readWord_57 lmX5_110 mkX5_isWord svX5_isWord (ct_X5_isWord l g t n f q e b i 3 hn ht hle hge (by decide)) ⟨Nat.le_of_ble_eq_true rfl, Nat.le_of_ble_eq_true rfl⟩ rfl rfl (Nat.le_of_ble_eq_true rfl) ⟨by decide, rfl⟩ rfl rfl ?_
        rw [isW_3]
        refine hC.bz dX5_readWord_60 (tgt := 65) rfl (fun c3 => ?_) (fun c3 => ?_)
        · rw [if_neg (by simp [c3])] at hwc
          refine hC.aload_n dX5_readWord_65 rfl ?_
          refine hC.iload_n dX5_readWord_66 rfl ?_
          refine hC.ldcS (i := 4) dX5_readWord_67 rfl (by decide) rfl ?_
          refine hC.rdV [0, 1] dX5_readWord_69 lmX5_110 mkX5_isWord svX5_isWord (ct_X5_isWord l g t n f q e b i 4 hn ht hle hge (by decide)) ⟨Nat.le_of_ble_eq_true rfl, Nat.le_of_ble_eq_true rfl⟩ rfl rfl (Nat.le_of_ble_eq_true rfl) ⟨by decide, rfl⟩ rfl rfl ?_
          rw [isW_4]
          refine hC.bz dX5_readWord_72 (tgt := 79) rfl (fun c4 => ?_) (fun c4 => ?_)
          · rw [if_neg (by simp [c4])] at hwc
            rw [hwc, show wcY NN = 0 from rfl] at hR
            refine hC.iconst dX5_readWord_79 (v := nI 0) rfl ?_
            exact hR.ireturn dX5_readWord_80 ⟨rfl, rfl⟩
          · rw [if_pos c4] at hwc
            rw [hwc, show wcY 4 = 5 from rfl] at hR
            refine hC.iconst dX5_readWord_75 (v := nI 5) rfl ?_
            refine hC.goto dX5_readWord_76 (tgt := 80) rfl ?_
            exact hR.ireturn dX5_readWord_80 ⟨rfl, rfl⟩
        · rw [if_pos c3] at hwc
          rw [hwc, show wcY 3 = 4 from rfl] at hR
          refine hC.iconst dX5_readWord_63 (v := nI 4) rfl ?_
          exact hR.ireturn dX5_readWord_64 ⟨rfl, rfl⟩
      · rw [if_pos c2] at hwc
        rw [hwc, show wcY 2 = 3 from rfl] at hR
        refine hC.iconst dX5_readWord_51 (v := nI 3) rfl ?_
        exact hR.ireturn dX5_readWord_52 ⟨rfl, rfl⟩
    · rw [if_pos c1] at hwc
      rw [hwc, show wcY 1 = 2 from rfl] at hR
      refine hC.iconst dX5_readWord_39 (v := nI 2) rfl ?_
      exact hR.ireturn dX5_readWord_40 ⟨rfl, rfl⟩
  · rw [if_pos c0] at hwc
    rw [hwc, show wcY 0 = 1 from rfl] at hR
    refine hC.iconst dX5_readWord_27 (v := nI 1) rfl ?_
    exact hR.ireturn dX5_readWord_28 ⟨rfl, rfl⟩
