/-! StripFlag$Turns: numbers -3 .. 3 as zI n -/
def zI (n : Int) : Int32 := Int32.ofInt n
theorem zI_toInt {n : Int} (h1 : -1000 ≤ n) (h2 : n ≤ 1000) : (zI n).toInt = n := by
  unfold zI
  rw [Int32.toInt_ofInt]
  have hsz : Int32.size = 4294967296 := rfl
  exact Int.bmod_eq_of_le (by omega) (by omega)
theorem zI_inj {x : Int32} {n : Int} (h : x.toInt = n) : x = zI n := by
  apply Int32.toInt_inj.mp
  rw [h]
  have h1 := x.toInt_lt
  have h2 := x.le_toInt
  unfold zI
  rw [Int32.toInt_ofInt]
  rw [← h]
  have hsz : Int32.size = 4294967296 := rfl
  exact (Int.bmod_eq_of_le (by omega) (by omega)).symm
theorem zI_neg {n : Int} (h1 : -1000 ≤ n) (h2 : n ≤ 1000) : - zI n = zI (-n) := by
  apply zI_inj
  rw [Int32.toInt_neg, zI_toInt h1 h2]
  exact Int.bmod_eq_of_le (by omega) (by omega)
theorem zI_lt {a b : Int} (h1 : -1000 ≤ a) (h2 : a ≤ 1000) (h3 : -1000 ≤ b) (h4 : b ≤ 1000) : zI a < zI b ↔ a < b := by
  rw [Int32.lt_iff_toInt_lt, zI_toInt h1 h2, zI_toInt h3 h4]
theorem zI_le {a b : Int} (h1 : -1000 ≤ a) (h2 : a ≤ 1000) (h3 : -1000 ≤ b) (h4 : b ≤ 1000) : zI a ≤ zI b ↔ a ≤ b := by
  rw [Int32.le_iff_toInt_le, zI_toInt h1 h2, zI_toInt h3 h4]
theorem zI_max {a b : Int} (h1 : -1000 ≤ a) (h2 : a ≤ 1000) (h3 : -1000 ≤ b) (h4 : b ≤ 1000) : (if zI a < zI b then zI b else zI a) = zI (max a b) := by
  by_cases h : a < b
  · rw [if_pos ((zI_lt h1 h2 h3 h4).mpr h), Int.max_eq_right (by omega)]
  · rw [if_neg (fun c => h ((zI_lt h1 h2 h3 h4).mp c)), Int.max_eq_left (by omega)]
abbrev tnW (wo ta : Int32) (a b n h : Nat) (P : PlanT) : List va_E := [.inr (6, [.int wo, .int ta, .int (nI a), .int (nI b), .int (nI n), .int (nI h)]), .inr (4, [.ref 2, .ref 3, .ref 4, .ref 5, .ref 6, .ref 7, .ref 8, .ref 9, .int (nI (P.2 0)), .int (nI (P.2 1)), .int (nI (P.2 2)), .int (nI (P.2 3))]), rowI 4 (P.1 0), rowI 8 (P.1 1), rowI 12 (P.1 2), rowI 12 (P.1 3), rowI 12 (P.1 4), rowI 12 (P.1 5), rowI 8 (P.1 6), rowI 8 (P.1 7)]
abbrev tnC (wo ta : Int32) (a b n h : Nat) : List va_E := [.inr (6, [.int wo, .int ta, .int (nI a), .int (nI b), .int (nI n), .int (nI h)])]
set_option maxHeartbeats 4000000 in
set_option maxRecDepth 20000 in
theorem ct_X6_begin (l : Launch) (wo ta : Int32) (a0 b0 n0 h0 a b n h : Nat) : Ct l 0 yX6_begin cX6_begin 5 none [.ref 0, .int (nI a), .int (nI b), .int (nI n), .int (nI h)] (tnC wo ta a0 b0 n0 h0) (RU (tnC wo ta a b n h)) := by
  refine Ct.of (by decide) (Nat.le_of_ble_eq_true rfl) (fun K hC hR => ?_)
  show K 0 [(0, .ref 0), (1, .int (nI a)), (2, .int (nI b)), (3, .int (nI n)), (4, .int (nI h))] [] _
  refine hC.aload_n dX6_begin_0 rfl ?_
  refine hC.iload_n dX6_begin_1 rfl ?_
  refine hC.putI dX6_begin_2 lpX6_9 rfl rfl rfl (Nat.le_of_ble_eq_true rfl) ?_
  refine hC.aload_n dX6_begin_5 rfl ?_
  refine hC.iload_n dX6_begin_6 rfl ?_
  refine hC.putI dX6_begin_7 lpX6_15 rfl rfl rfl (Nat.le_of_ble_eq_true rfl) ?_
  refine hC.aload_n dX6_begin_10 rfl ?_
  refine hC.iload_n dX6_begin_11 rfl ?_
  refine hC.putI dX6_begin_12 lpX6_18 rfl rfl rfl (Nat.le_of_ble_eq_true rfl) ?_
  refine hC.aload_n dX6_begin_15 rfl ?_
  refine hC.iload dX6_begin_16 rfl ?_
  refine hC.putI dX6_begin_18 lpX6_21 rfl rfl rfl (Nat.le_of_ble_eq_true rfl) ?_
  exact hR.return_ dX6_begin_21 ⟨rfl, rfl⟩
def mvF (a b t : Nat) : Nat := if t % 2 = 0 then a else b
set_option maxHeartbeats 4000000 in
set_option maxRecDepth 20000 in
theorem ct_X6_mover (l : Launch) (wo ta : Int32) (a b n h t : Nat) (ht : t < 2 ^ 31) : Ct l 0 yX6_mover cX6_mover 2 (some .int) [.ref 0, .int (nI t)] (tnC wo ta a b n h) (RV (.int (nI (mvF a b t))) (tnC wo ta a b n h)) := by
  refine Ct.of (by decide) (Nat.le_of_ble_eq_true rfl) (fun K hC hR => ?_)
  show K 0 [(0, .ref 0), (1, .int (nI t))] [] _
  refine hC.iload_n dX6_mover_0 rfl ?_
  refine hC.iconst dX6_mover_1 (v := nI 2) rfl ?_
  refine hC.irem dX6_mover_2 (by decide) ?_
  rw [pk_rem ht (by decide) (by decide)]
  refine hC.nnz (by omega) dX6_mover_3 (tgt := 13) rfl (fun c => ?_) (fun c => ?_)
  · refine hC.aload_n dX6_mover_13 rfl ?_
    refine hC.getfield dX6_mover_14 lfX6_15 rfl rfl ?_
    exact hR.ireturn dX6_mover_17 ⟨by rw [mvF, if_neg c], rfl⟩
  · refine hC.aload_n dX6_mover_6 rfl ?_
    refine hC.getfield dX6_mover_7 lfX6_9 rfl rfl ?_
    refine hC.goto dX6_mover_10 (tgt := 17) rfl ?_
    exact hR.ireturn dX6_mover_17 ⟨by rw [mvF, if_pos c], rfl⟩
noncomputable def waF (P : PlanT) (m x y : Nat) : Int := 3 * (((flyF (P.1 5) 12 m).testBit x).toNat : Int) - 3 * (((flyF (P.1 5) 12 m).testBit y).toNat : Int)
theorem waF_b (P : PlanT) (m x y : Nat) : -3 ≤ waF P m x y ∧ waF P m x y ≤ 3 := by
  unfold waF
  cases (flyF (P.1 5) 12 m).testBit x <;> cases (flyF (P.1 5) 12 m).testBit y <;> decide
theorem wa_num (p q : Bool) : (nI 2 * nI p.toNat - nI q.toNat) - (nI 2 * nI q.toNat - nI p.toNat) = zI (3 * (p.toNat : Int) - 3 * (q.toNat : Int)) := by
  cases p <;> cases q <;> decide
theorem mvF_lt {a b t : Nat} (ha : a < 8) (hb : b < 8) : mvF a b t < 8 := by unfold mvF; split <;> assumption
set_option maxHeartbeats 4000000 in
set_option maxRecDepth 20000 in
theorem ct_X6_worthAtEnd (l : Launch) (P : PlanT) (hP : PlanOK P) (wo ta : Int32) (a b n h m t : Nat) (ha : a < 8) (hb : b < 8) (hm : m < 4096) (ht : t < 1000) : Ct l 3 yX6_worthAtEnd cX6_worthAtEnd 7 (some .int) [.ref 0, .ref 1, .int (nI m), .int (nI t)] (tnW wo ta a b n h P) (RV (.int (zI (waF P m (mvF a b t) (mvF a b (t + 1))))) (tnW wo ta a b n h P)) := by
  refine Ct.of (by decide) (Nat.le_of_ble_eq_true rfl) (fun K hC hR => ?_)
  show K 0 [(0, .ref 0), (1, .ref 1), (2, .int (nI m)), (3, .int (nI t))] [] _
  have hf := flyF_lt (P.1 5) 12 m
  have hm1 := mvF_lt (t := t) ha hb
  have hm2 := mvF_lt (t := t + 1) ha hb
  refine hC.aload_n dX6_worthAtEnd_0 rfl ?_
  refine hC.iload_n dX6_worthAtEnd_1 rfl ?_
  refine hC.rdV [1, 2, 3, 4, 5, 6, 7, 8, 9] dX6_worthAtEnd_2 lmX6_58 mkX4_flying svX4_flying (ct_X4_flying l P hP m hm) ⟨Nat.le_of_ble_eq_true rfl, Nat.le_of_ble_eq_true rfl⟩ rfl rfl (Nat.le_of_ble_eq_true rfl) ⟨by decide, rfl⟩ rfl rfl ?_
  refine hC.istore dX6_worthAtEnd_5 (by decide) ?_
  refine hC.iload dX6_worthAtEnd_7 rfl ?_
  refine hC.aload_n dX6_worthAtEnd_9 rfl ?_
  refine hC.iload_n dX6_worthAtEnd_10 rfl ?_
  refine hC.rdV [0] dX6_worthAtEnd_11 lmX6_48 mkX6_mover svX6_mover (ct_X6_mover l wo ta a b n h t (by omega)) ⟨Nat.le_of_ble_eq_true rfl, Nat.le_of_ble_eq_true rfl⟩ rfl rfl (Nat.le_of_ble_eq_true rfl) ⟨by decide, rfl⟩ rfl rfl ?_
  refine hC.rdSN [] dX6_worthAtEnd_14 lnX6_44 mkX8_has sxX8_has (ct_X8_has l (flyF (P.1 5) 12 m) (mvF a b t) (by omega) (by omega)) ⟨Nat.le_of_ble_eq_true rfl, Nat.le_of_ble_eq_true rfl⟩ rfl rfl (Nat.le_of_ble_eq_true rfl) ⟨by decide, rfl⟩ ?_
  have k25 : ∀ p : Bool, p = (flyF (P.1 5) 12 m).testBit (mvF a b t) → K 25 [(0, .ref 0), (1, .ref 1), (2, .int (nI m)), (3, .int (nI t)), (4, .int (nI (flyF (P.1 5) 12 m)))] [.int (nI p.toNat)] (tnW wo ta a b n h P) := by
    intro p hp
    refine hC.istore dX6_worthAtEnd_25 (by decide) ?_
    refine hC.iload dX6_worthAtEnd_27 rfl ?_
    refine hC.aload_n dX6_worthAtEnd_29 rfl ?_
    refine hC.iload_n dX6_worthAtEnd_30 rfl ?_
    refine hC.iconst dX6_worthAtEnd_31 (v := nI 1) rfl ?_
    refine hC.iadd dX6_worthAtEnd_32 ?_
    rw [nI_add]
    refine hC.rdV [0] dX6_worthAtEnd_33 lmX6_48 mkX6_mover svX6_mover (ct_X6_mover l wo ta a b n h (t + 1) (by omega)) ⟨Nat.le_of_ble_eq_true rfl, Nat.le_of_ble_eq_true rfl⟩ rfl rfl (Nat.le_of_ble_eq_true rfl) ⟨by decide, rfl⟩ rfl rfl ?_
    refine hC.rdSN [] dX6_worthAtEnd_36 lnX6_44 mkX8_has sxX8_has (ct_X8_has l (flyF (P.1 5) 12 m) (mvF a b (t + 1)) (by omega) (by omega)) ⟨Nat.le_of_ble_eq_true rfl, Nat.le_of_ble_eq_true rfl⟩ rfl rfl (Nat.le_of_ble_eq_true rfl) ⟨by decide, rfl⟩ ?_
    have k47 : ∀ q : Bool, q = (flyF (P.1 5) 12 m).testBit (mvF a b (t + 1)) → K 47 [(0, .ref 0), (1, .ref 1), (2, .int (nI m)), (3, .int (nI t)), (4, .int (nI (flyF (P.1 5) 12 m))), (5, .int (nI p.toNat))] [.int (nI q.toNat)] (tnW wo ta a b n h P) := by
      intro q hq
      refine hC.istore dX6_worthAtEnd_47 (by decide) ?_
      refine hC.iconst dX6_worthAtEnd_49 (v := nI 2) rfl ?_
      refine hC.iload dX6_worthAtEnd_50 rfl ?_
      refine hC.imul dX6_worthAtEnd_52 ?_
      refine hC.iload dX6_worthAtEnd_53 rfl ?_
      refine hC.isub dX6_worthAtEnd_55 ?_
      refine hC.iconst dX6_worthAtEnd_56 (v := nI 2) rfl ?_
      refine hC.iload dX6_worthAtEnd_57 rfl ?_
      refine hC.imul dX6_worthAtEnd_59 ?_
      refine hC.iload dX6_worthAtEnd_60 rfl ?_
      refine hC.isub dX6_worthAtEnd_62 ?_
      refine hC.isub dX6_worthAtEnd_63 ?_
      exact hR.ireturn dX6_worthAtEnd_64 ⟨by rw [wa_num, hp, hq] <;> rfl, rfl⟩
    refine hC.bz dX6_worthAtEnd_39 (tgt := 46) rfl (fun c => ?_) (fun c => ?_)
    · refine hC.iconst dX6_worthAtEnd_46 (v := nI 0) rfl ?_
      exact hC.loc rfl (k47 false c.symm)
    · refine hC.iconst dX6_worthAtEnd_42 (v := nI 1) rfl ?_
      refine hC.goto dX6_worthAtEnd_43 (tgt := 47) rfl ?_
      exact hC.loc rfl (k47 true c.symm)
  refine hC.bz dX6_worthAtEnd_17 (tgt := 24) rfl (fun c => ?_) (fun c => ?_)
  · refine hC.iconst dX6_worthAtEnd_24 (v := nI 0) rfl ?_
    exact hC.loc rfl (k25 false c.symm)
  · refine hC.iconst dX6_worthAtEnd_20 (v := nI 1) rfl ?_
    refine hC.goto dX6_worthAtEnd_21 (tgt := 25) rfl ?_
    exact hC.loc rfl (k25 true c.symm)
/-- a row of tries: the best so far, while it is below hi -/
def lpF (f : Nat → Int → Int) (hi : Int) (may : Nat) (b0 : Int) : Nat → Int
  | 0 => b0
  | s + 1 => if lpF f hi may b0 s < hi ∧ may.testBit s = true then max (lpF f hi may b0 s) (f s (lpF f hi may b0 s)) else lpF f hi may b0 s
noncomputable def abF (P : PlanT) (a b n h : Nat) : Nat → Nat → Int → Int → Int
  | 0, m, _, _ => waF P m (mvF a b n) (mvF a b (n + 1))
  | k + 1, m, lo, hi => lpF (fun s z => -(abF P a b n h k (andn m (2 ^ s)) (-hi) (-(max lo z)))) hi (upF P (mvF a b (n - (k + 1))) m h) (-(abF P a b n h k m (-hi) (-lo))) 12
theorem lpF_b {f : Nat → Int → Int} {hi : Int} {may : Nat} {b0 : Int} (h0 : -3 ≤ b0 ∧ b0 ≤ 3) (hf : ∀ s z, -3 ≤ f s z ∧ f s z ≤ 3) : ∀ s, -3 ≤ lpF f hi may b0 s ∧ lpF f hi may b0 s ≤ 3
  | 0 => h0
  | s + 1 => by
    have h1 := lpF_b (hi := hi) (may := may) h0 hf s
    have h2 := hf s (lpF f hi may b0 s)
    unfold lpF; split <;> omega
theorem abF_b (P : PlanT) (a b n h : Nat) : ∀ k m lo hi, -3 ≤ abF P a b n h k m lo hi ∧ abF P a b n h k m lo hi ≤ 3
  | 0, m, _, _ => waF_b _ _ _ _
  | k + 1, m, lo, hi => by
    have h1 := abF_b P a b n h k
    refine lpF_b ?_ (fun s z => ?_) 12
    · have := h1 m (-hi) (-lo); omega
    · have := h1 (andn m (2 ^ s)) (-hi) (-(max lo z)); omega
/-- where the best is at hi, nothing changes any more -/
theorem lpF_stop {f : Nat → Int → Int} {hi : Int} {may : Nat} {b0 : Int} {s : Nat} (h : hi ≤ lpF f hi may b0 s) : ∀ t, s ≤ t → lpF f hi may b0 t = lpF f hi may b0 s := by
  intro t ht
  induction t with
  | zero => have : s = 0 := by omega
            subst this; rfl
  | succ t ih =>
    by_cases e : s = t + 1
    · subst e; rfl
    · have := ih (by omega)
      rw [lpF, if_neg (by omega), this]
set_option maxHeartbeats 8000000 in
set_option maxRecDepth 20000 in
theorem ct_X6_worthFrom (l : Launch) (P : PlanT) (hP : PlanOK P) (wo ta : Int32) (a b n h : Nat) (ha : a < 8) (hb : b < 8) (hn : n ≤ 4) (hh : h < 4096) : ∀ (k t m : Nat) (lo hi : Int), t + k = n → m < 4096 → -3 ≤ lo → lo ≤ 3 → -3 ≤ hi → hi ≤ 3 → Ct l (4 + k) yX6_worthFrom cX6_worthFrom 10 (some .int) [.ref 0, .ref 1, .int (nI m), .int (nI t), .int (zI lo), .int (zI hi)] (tnW wo ta a b n h P) (RV (.int (zI (abF P a b n h k m lo hi))) (tnW wo ta a b n h P)) := by
  intro k
  induction k with
  | zero =>
    intro t m lo hi ht hm _ _ _ _
    have ht : t = n := by omega
    subst ht
    refine Ct.of (by decide) (Nat.le_of_ble_eq_true rfl) (fun K hC hR => ?_)
    show K 0 [(0, .ref 0), (1, .ref 1), (2, .int (nI m)), (3, .int (nI t)), (4, .int (zI lo)), (5, .int (zI hi))] [] _
    have k13 : K 13 [(0, .ref 0), (1, .ref 1), (2, .int (nI m)), (3, .int (nI t)), (4, .int (zI lo)), (5, .int (zI hi))] [] (tnW wo ta a b t h P) := by
      refine hC.aload_n dX6_worthFrom_13 rfl ?_
      refine hC.aload_n dX6_worthFrom_14 rfl ?_
      refine hC.iload_n dX6_worthFrom_15 rfl ?_
      refine hC.iload_n dX6_worthFrom_16 rfl ?_
      refine hC.rdV [0, 1, 2, 3, 4, 5, 6, 7, 8, 9] dX6_worthFrom_17 lmX6_27 mkX6_worthAtEnd svX6_worthAtEnd (ct_X6_worthAtEnd l P hP wo ta a b t h m t ha hb hm (by omega)) ⟨Nat.le_of_ble_eq_true rfl, Nat.le_of_ble_eq_true rfl⟩ rfl rfl (Nat.le_of_ble_eq_true rfl) ⟨by decide, rfl⟩ rfl rfl ?_
      exact hR.ireturn dX6_worthFrom_20 ⟨rfl, rfl⟩
    refine hC.iload_n dX6_worthFrom_0 rfl ?_
    refine hC.aload_n dX6_worthFrom_1 rfl ?_
    refine hC.getfield dX6_worthFrom_2 lfX6_18 rfl rfl ?_
    refine hC.n_ge (by omega) (by omega) dX6_worthFrom_5 (tgt := 13) rfl (fun c => ?_) (fun c => ?_)
    · exact k13
    · omega
  | succ k ih =>
    intro t m lo hi ht hm hl1 hl2 hh1 hh2
    have hab := abF_b P a b n h k
    have hrm : rmOk (4 + k) 10 (rmD (4 + (k + 1))) := ⟨by show 4 + k + 1 ≤ 4 + (k + 1); omega, by show 8 + (10 + 11) + 40 * (4 + k) ≤ 40 * (4 + (k + 1)); omega⟩
    have hr0 : ∀ d, d ≤ 3 → ∀ mx, mx ≤ 10 → rmOk d mx (rmD (4 + (k + 1))) := fun d hd mx hmx => ⟨by show d + 1 ≤ 4 + (k + 1); omega, by show 8 + (mx + 11) + 40 * d ≤ 40 * (4 + (k + 1)); omega⟩
    have hmv := mvF_lt (t := t) ha hb
    refine Ct.of (by decide) (Nat.le_of_ble_eq_true rfl) (fun K hC hR => ?_)
    show K 0 [(0, .ref 0), (1, .ref 1), (2, .int (nI m)), (3, .int (nI t)), (4, .int (zI lo)), (5, .int (zI hi))] [] _
    refine hC.iload_n dX6_worthFrom_0 rfl ?_
    refine hC.aload_n dX6_worthFrom_1 rfl ?_
    refine hC.getfield dX6_worthFrom_2 lfX6_18 rfl rfl ?_
    refine hC.n_ge (by omega) (by omega) dX6_worthFrom_5 (tgt := 13) rfl (fun c => ?_) (fun c => ?_)
    · omega
    · refine hC.iload_n dX6_worthFrom_8 rfl ?_
      refine hC.iconst dX6_worthFrom_9 (v := nI 4) rfl ?_
      refine hC.n_lt (by omega) (by omega) dX6_worthFrom_10 (tgt := 21) rfl (fun c2 => ?_) (fun c2 => ?_)
      · refine hC.aload_n dX6_worthFrom_21 rfl ?_
        refine hC.aload_n dX6_worthFrom_22 rfl ?_
        refine hC.iload_n dX6_worthFrom_23 rfl ?_
        refine hC.iload_n dX6_worthFrom_24 rfl ?_
        refine hC.iconst dX6_worthFrom_25 (v := nI 1) rfl ?_
        refine hC.iadd dX6_worthFrom_26 ?_
        rw [nI_add]
        refine hC.iload dX6_worthFrom_27 rfl ?_
        refine hC.ineg dX6_worthFrom_29 ?_
        rw [zI_neg (by omega) (by omega)]
        refine hC.iload dX6_worthFrom_30 rfl ?_
        refine hC.ineg dX6_worthFrom_32 ?_
        rw [zI_neg (by omega) (by omega)]
        refine hC.rdS [0, 1, 2, 3, 4, 5, 6, 7, 8, 9] dX6_worthFrom_33 lmX6_34 mkX6_worthFrom sxX6_worthFrom (ih (t + 1) m (-hi) (-lo) (by omega) hm (by omega) (by omega) (by omega) (by omega)) hrm rfl rfl (Nat.le_of_ble_eq_true rfl) ⟨by decide, rfl⟩ ?_
        have hb0 := hab m (-hi) (-lo)
        refine hC.ineg dX6_worthFrom_36 ?_
        rw [zI_neg (by omega) (by omega)]
        refine hC.istore dX6_worthFrom_37 (by decide) ?_
        refine hC.aload_n dX6_worthFrom_39 rfl ?_
        refine hC.aload_n dX6_worthFrom_40 rfl ?_
        refine hC.iload_n dX6_worthFrom_41 rfl ?_
        refine hC.rdV [0] dX6_worthFrom_42 lmX6_48 mkX6_mover svX6_mover (ct_X6_mover l wo ta a b n h t (by omega)) (hr0 0 (by omega) 2 (by omega)) rfl rfl (Nat.le_of_ble_eq_true rfl) ⟨by decide, rfl⟩ rfl rfl ?_
        refine hC.iload_n dX6_worthFrom_45 rfl ?_
        refine hC.aload_n dX6_worthFrom_46 rfl ?_
        refine hC.getfield dX6_worthFrom_47 lfX6_21 rfl rfl ?_
        refine hC.rdV [1, 2, 3, 4, 5, 6, 7, 8, 9] dX6_worthFrom_50 lmX6_38 mkX4_unpickable svX4_unpickable (ct_X4_unpickable l P hP (mvF a b t) m h (by omega) hm) (hr0 2 (by omega) 7 (by omega)) rfl rfl (Nat.le_of_ble_eq_true rfl) ⟨by decide, rfl⟩ rfl rfl ?_
        refine hC.istore dX6_worthFrom_53 (by decide) ?_
        refine hC.iconst dX6_worthFrom_55 (v := nI 0) rfl ?_
        refine hC.istore dX6_worthFrom_56 (by decide) ?_
        have hu : upF P (mvF a b t) m h < 4096 := bs_lt _ 12
        have htk : n - (k + 1) = t := by omega
        have hdef : abF P a b n h (k + 1) m lo hi = lpF (fun s z => -(abF P a b n h k (andn m (2 ^ s)) (-hi) (-(max lo z)))) hi (upF P (mvF a b t) m h) (-(abF P a b n h k m (-hi) (-lo))) 12 := by rw [abF, htk]
        have hlb := lpF_b (f := fun s z => -(abF P a b n h k (andn m (2 ^ s)) (-hi) (-(max lo z)))) (hi := hi) (may := upF P (mvF a b t) m h) (b0 := -(abF P a b n h k m (-hi) (-lo))) (by omega) (fun s z => by have := hab (andn m (2 ^ s)) (-hi) (-(max lo z)); omega)
        rw [hdef] at hR
        have hstop := fun s => @lpF_stop (fun s z => -(abF P a b n h k (andn m (2 ^ s)) (-hi) (-(max lo z)))) hi (upF P (mvF a b t) m h) (-(abF P a b n h k m (-hi) (-lo))) s
        have hstep : ∀ s, lpF (fun s z => -(abF P a b n h k (andn m (2 ^ s)) (-hi) (-(max lo z)))) hi (upF P (mvF a b t) m h) (-(abF P a b n h k m (-hi) (-lo))) (s + 1) = if lpF (fun s z => -(abF P a b n h k (andn m (2 ^ s)) (-hi) (-(max lo z)))) hi (upF P (mvF a b t) m h) (-(abF P a b n h k m (-hi) (-lo))) s < hi ∧ (upF P (mvF a b t) m h).testBit s = true then max (lpF (fun s z => -(abF P a b n h k (andn m (2 ^ s)) (-hi) (-(max lo z)))) hi (upF P (mvF a b t) m h) (-(abF P a b n h k m (-hi) (-lo))) s) (-(abF P a b n h k (andn m (2 ^ s)) (-hi) (-(max lo (lpF (fun s z => -(abF P a b n h k (andn m (2 ^ s)) (-hi) (-(max lo z)))) hi (upF P (mvF a b t) m h) (-(abF P a b n h k m (-hi) (-lo))) s))))) else lpF (fun s z => -(abF P a b n h k (andn m (2 ^ s)) (-hi) (-(max lo z)))) hi (upF P (mvF a b t) m h) (-(abF P a b n h k m (-hi) (-lo))) s := fun s => rfl
        have h0eq : lpF (fun s z => -(abF P a b n h k (andn m (2 ^ s)) (-hi) (-(max lo z)))) hi (upF P (mvF a b t) m h) (-(abF P a b n h k m (-hi) (-lo))) 0 = -(abF P a b n h k m (-hi) (-lo)) := rfl
        rw [← h0eq]
        generalize hg : lpF (fun s z => -(abF P a b n h k (andn m (2 ^ s)) (-hi) (-(max lo z)))) hi (upF P (mvF a b t) m h) (-(abF P a b n h k m (-hi) (-lo))) = g at hR hlb hstop hstep ⊢
        generalize hug : upF P (mvF a b t) m h = u at hu hstep ⊢
        have loop : ∀ s, s ≤ 12 → K 58 [(0, .ref 0), (1, .ref 1), (2, .int (nI m)), (3, .int (nI t)), (4, .int (zI lo)), (5, .int (zI hi)), (6, .int (zI (g s))), (7, .int (nI u)), (8, .int (nI s))] [] (tnW wo ta a b n h P) := by
          refine loopUp1 _ 12 ?_ (fun s hs ih2 => ?_)
          · refine hC.iload dX6_worthFrom_58 rfl ?_
            refine hC.bipush dX6_worthFrom_60 (v := nI 12) rfl ?_
            refine hC.n_ge (by omega) (by omega) dX6_worthFrom_62 (tgt := 127) rfl (fun c3 => ?_) (fun c3 => ?_)
            · refine hC.iload dX6_worthFrom_127 rfl ?_
              exact hR.ireturn dX6_worthFrom_129 ⟨rfl, rfl⟩
            · omega
          · have hls := hlb s
            refine hC.iload dX6_worthFrom_58 rfl ?_
            refine hC.bipush dX6_worthFrom_60 (v := nI 12) rfl ?_
            refine hC.n_ge (by omega) (by omega) dX6_worthFrom_62 (tgt := 127) rfl (fun c3 => ?_) (fun c3 => ?_)
            · omega
            · refine hC.iload dX6_worthFrom_65 rfl ?_
              refine hC.iload dX6_worthFrom_67 rfl ?_
              refine hC.icmp_ge dX6_worthFrom_69 (tgt := 127) rfl (fun c4 => ?_) (fun c4 => ?_)
              · have c4 := (zI_le (by omega) (by omega) (by omega) (by omega)).mp c4
                refine hC.iload dX6_worthFrom_127 rfl ?_
                exact hR.ireturn dX6_worthFrom_129 ⟨by rw [hstop s c4 12 (by omega)], rfl⟩
              · have c4 : ¬ hi ≤ g s := fun z => c4 ((zI_le (by omega) (by omega) (by omega) (by omega)).mpr z)
                refine hC.iload dX6_worthFrom_72 rfl ?_
                refine hC.iload dX6_worthFrom_74 rfl ?_
                refine hC.rdSN [] dX6_worthFrom_76 lnX6_44 mkX8_has sxX8_has (ct_X8_has l u s (by omega) (by omega)) (hr0 0 (by omega) 2 (by omega)) rfl rfl (Nat.le_of_ble_eq_true rfl) ⟨by decide, rfl⟩ ?_
                refine hC.bz dX6_worthFrom_79 (tgt := 121) rfl (fun c5 => ?_) (fun c5 => ?_)
                · refine hC.iinc dX6_worthFrom_121 rfl (nI_1 _) (by decide) ?_
                  refine hC.goto dX6_worthFrom_124 (tgt := 58) rfl ?_
                  rw [hstep, if_neg (by simp [c5])] at ih2
                  exact hC.loc rfl ih2
                · refine hC.aload_n dX6_worthFrom_82 rfl ?_
                  refine hC.aload_n dX6_worthFrom_83 rfl ?_
                  refine hC.iload_n dX6_worthFrom_84 rfl ?_
                  refine hC.iconst dX6_worthFrom_85 (v := nI 1) rfl ?_
                  refine hC.iload dX6_worthFrom_86 rfl ?_
                  refine hC.ishl dX6_worthFrom_88 ?_
                  rw [nI_shl (by omega), Nat.one_mul]
                  refine hC.iconst dX6_worthFrom_89 (v := (-1)) rfl ?_
                  refine hC.ixor dX6_worthFrom_90 ?_
                  refine hC.iand dX6_worthFrom_91 ?_
                  rw [nI_andn]
                  refine hC.iload_n dX6_worthFrom_92 rfl ?_
                  refine hC.iconst dX6_worthFrom_93 (v := nI 1) rfl ?_
                  refine hC.iadd dX6_worthFrom_94 ?_
                  rw [nI_add]
                  refine hC.iload dX6_worthFrom_95 rfl ?_
                  refine hC.ineg dX6_worthFrom_97 ?_
                  rw [zI_neg (by omega) (by omega)]
                  refine hC.iload dX6_worthFrom_98 rfl ?_
                  refine hC.iload dX6_worthFrom_100 rfl ?_
                  refine hC.mmaxR dX6_worthFrom_102 lmX6_52 ⟨by show 1 ≤ 4 + (k + 1); omega, by show 5 + 13 ≤ 40 * (4 + (k + 1)); omega⟩ ?_
                  rw [zI_max (by omega) (by omega) (by omega) (by omega)]
                  refine hC.ineg dX6_worthFrom_105 ?_
                  rw [zI_neg (by omega) (by omega)]
                  refine hC.rdS [0, 1, 2, 3, 4, 5, 6, 7, 8, 9] dX6_worthFrom_106 lmX6_34 mkX6_worthFrom sxX6_worthFrom (ih (t + 1) (andn m (2 ^ s)) (-hi) (-(max lo (g s))) (by omega) (andn_b hm) (by omega) (by omega) (by omega) (by omega)) hrm rfl rfl (Nat.le_of_ble_eq_true rfl) ⟨by decide, rfl⟩ ?_
                  have hb1 := hab (andn m (2 ^ s)) (-hi) (-(max lo (g s)))
                  refine hC.ineg dX6_worthFrom_109 ?_
                  rw [zI_neg (by omega) (by omega)]
                  refine hC.istore dX6_worthFrom_110 (by decide) ?_
                  refine hC.iload dX6_worthFrom_112 rfl ?_
                  refine hC.iload dX6_worthFrom_114 rfl ?_
                  refine hC.mmaxR dX6_worthFrom_116 lmX6_52 ⟨by show 1 ≤ 4 + (k + 1); omega, by show 0 + 13 ≤ 40 * (4 + (k + 1)); omega⟩ ?_
                  rw [zI_max (by omega) (by omega) (by omega) (by omega)]
                  refine hC.istore dX6_worthFrom_119 (by decide) ?_
                  refine hC.iinc dX6_worthFrom_121 rfl (nI_1 _) (by decide) ?_
                  refine hC.goto dX6_worthFrom_124 (tgt := 58) rfl ?_
                  rw [hstep, if_pos ⟨by omega, c5⟩] at ih2
                  exact hC.loc rfl ih2
        exact hC.loc rfl (loop 0 (by omega))
      · omega
theorem m3_zI : (-3 : Int32) = zI (-3) := by decide
theorem p3_zI : nI 3 = zI 3 := by decide
noncomputable def plL (P : PlanT) (a b n h m : Nat) : Nat → Int × Nat
  | 0 => (-(abF P a b n h (n - 1) m (-3) 3), NN)
  | s + 1 => if (plL P a b n h m s).1 < 3 ∧ (upF P a m h).testBit s = true ∧ (plL P a b n h m s).1 < -(abF P a b n h (n - 1) (andn m (2 ^ s)) (-3) (-(plL P a b n h m s).1)) then (-(abF P a b n h (n - 1) (andn m (2 ^ s)) (-3) (-(plL P a b n h m s).1)), s) else plL P a b n h m s
theorem plL_b (P : PlanT) (a b n h m : Nat) : ∀ s, -3 ≤ (plL P a b n h m s).1 ∧ (plL P a b n h m s).1 ≤ 3
  | 0 => by have := abF_b P a b n h (n - 1) m (-3) 3; show -3 ≤ -_ ∧ -_ ≤ (3 : Int); omega
  | s + 1 => by
    have h1 := plL_b P a b n h m s
    have := abF_b P a b n h (n - 1) (andn m (2 ^ s)) (-3) (-(plL P a b n h m s).1)
    unfold plL; split
    · show -3 ≤ -_ ∧ -_ ≤ (3 : Int); omega
    · exact h1
theorem plL_stop {P : PlanT} {a b n h m s : Nat} (h3 : 3 ≤ (plL P a b n h m s).1) : ∀ t, s ≤ t → plL P a b n h m t = plL P a b n h m s := by
  intro t ht
  induction t with
  | zero => have : s = 0 := by omega
            subst this; rfl
  | succ t ih =>
    by_cases e : s = t + 1
    · subst e; rfl
    · have := ih (by omega)
      rw [plL, if_neg (by rw [this]; omega), this]
noncomputable def plF (P : PlanT) (a b n h m : Nat) : Int × Nat := if n = 0 then (waF P m a b, NN) else plL P a b n h m 12
set_option maxHeartbeats 4000000 in
set_option maxRecDepth 20000 in
theorem ct_X6_play (l : Launch) (P : PlanT) (hP : PlanOK P) (wo ta : Int32) (a b n h m : Nat) (ha : a < 8) (hb : b < 8) (hn : n ≤ 4) (hh : h < 4096) (hm : m < 4096) : Ct l 9 yX6_play cX6_play 6 none [.ref 0, .ref 1, .int (nI m)] (tnW wo ta a b n h P) (RU (tnW (zI (plF P a b n h m).1) (nI (plF P a b n h m).2) a b n h P)) := by
  refine Ct.of (by decide) (Nat.le_of_ble_eq_true rfl) (fun K hC hR => ?_)
  show K 0 [(0, .ref 0), (1, .ref 1), (2, .int (nI m))] [] _
  refine hC.aload_n dX6_play_0 rfl ?_
  refine hC.iconst dX6_play_1 (v := (-1)) rfl ?_
  rw [m1_nI]
  refine hC.putI dX6_play_2 lpX6_24 rfl rfl rfl (Nat.le_of_ble_eq_true rfl) ?_
  refine hC.aload_n dX6_play_5 rfl ?_
  refine hC.getfield dX6_play_6 lfX6_18 rfl rfl ?_
  by_cases hn0 : n = 0
  · subst hn0
    refine hC.if_gt dX6_play_9 (tgt := 24) rfl (fun c => absurd c (by decide)) (fun _ => ?_)
    refine hC.aload_n dX6_play_12 rfl ?_
    refine hC.aload_n dX6_play_13 rfl ?_
    refine hC.aload_n dX6_play_14 rfl ?_
    refine hC.iload_n dX6_play_15 rfl ?_
    refine hC.iconst dX6_play_16 (v := nI 0) rfl ?_
    refine hC.rdV [0, 1, 2, 3, 4, 5, 6, 7, 8, 9] dX6_play_17 lmX6_27 mkX6_worthAtEnd svX6_worthAtEnd (ct_X6_worthAtEnd l P hP wo (nI NN) a b 0 h m 0 ha hb hm (by omega)) ⟨Nat.le_of_ble_eq_true rfl, Nat.le_of_ble_eq_true rfl⟩ rfl rfl (Nat.le_of_ble_eq_true rfl) ⟨by decide, rfl⟩ rfl rfl ?_
    refine hC.putI dX6_play_20 lpX6_31 rfl rfl rfl (Nat.le_of_ble_eq_true rfl) ?_
    exact hR.return_ dX6_play_23 ⟨rfl, rfl⟩
  · have hp : plF P a b n h m = plL P a b n h m 12 := by rw [plF, if_neg hn0]
    rw [hp] at hR
    have hb0 := abF_b P a b n h (n - 1) m (-3) 3
    have hbl := plL_b P a b n h m
    have hstp := @plL_stop P a b n h m
    have hrp : rmOk (4 + (n - 1)) 10 (rmD 9) := ⟨by show 4 + (n - 1) + 1 ≤ 9; omega, by show 8 + (10 + 11) + 40 * (4 + (n - 1)) ≤ 40 * 9; omega⟩
    refine hC.if_gt dX6_play_9 (tgt := 24) rfl (fun _ => ?_) (fun c => absurd ((nI_ltI (a := 0) (b := n) (by decide) (by omega)).mpr (by omega)) c)
    refine hC.aload_n dX6_play_24 rfl ?_
    refine hC.aload_n dX6_play_25 rfl ?_
    refine hC.aload_n dX6_play_26 rfl ?_
    refine hC.iload_n dX6_play_27 rfl ?_
    refine hC.iconst dX6_play_28 (v := nI 1) rfl ?_
    refine hC.bipush dX6_play_29 (v := (-3)) rfl ?_
    rw [m3_zI]
    refine hC.iconst dX6_play_31 (v := nI 3) rfl ?_
    rw [p3_zI]
    refine hC.rdS [0, 1, 2, 3, 4, 5, 6, 7, 8, 9] dX6_play_32 lmX6_34 mkX6_worthFrom sxX6_worthFrom (ct_X6_worthFrom l P hP wo (nI NN) a b n h ha hb hn hh (n - 1) 1 m (-3) 3 (by omega) hm (by omega) (by omega) (by omega) (by omega)) hrp rfl rfl (Nat.le_of_ble_eq_true rfl) ⟨by decide, rfl⟩ ?_
    refine hC.ineg dX6_play_35 ?_
    rw [zI_neg (by omega) (by omega)]
    refine hC.putI dX6_play_36 lpX6_31 rfl rfl rfl (Nat.le_of_ble_eq_true rfl) ?_
    refine hC.aload_n dX6_play_39 rfl ?_
    refine hC.aload_n dX6_play_40 rfl ?_
    refine hC.getfield dX6_play_41 lfX6_9 rfl rfl ?_
    refine hC.iload_n dX6_play_44 rfl ?_
    refine hC.aload_n dX6_play_45 rfl ?_
    refine hC.getfield dX6_play_46 lfX6_21 rfl rfl ?_
    refine hC.rdV [1, 2, 3, 4, 5, 6, 7, 8, 9] dX6_play_49 lmX6_38 mkX4_unpickable svX4_unpickable (ct_X4_unpickable l P hP a m h (by omega) hm) ⟨Nat.le_of_ble_eq_true rfl, Nat.le_of_ble_eq_true rfl⟩ rfl rfl (Nat.le_of_ble_eq_true rfl) ⟨by decide, rfl⟩ rfl rfl ?_
    refine hC.istore_n dX6_play_52 (by decide) ?_
    refine hC.iconst dX6_play_53 (v := nI 0) rfl ?_
    refine hC.istore dX6_play_54 (by decide) ?_
    have hu : upF P a m h < 4096 := bs_lt _ 12
    have loop : ∀ s, s ≤ 12 → K 56 [(0, .ref 0), (1, .ref 1), (2, .int (nI m)), (3, .int (nI (upF P a m h))), (4, .int (nI s))] [] (tnW (zI (plL P a b n h m s).1) (nI (plL P a b n h m s).2) a b n h P) := by
      refine loopUp1 _ 12 ?_ (fun s hs ih => ?_)
      · refine hC.iload dX6_play_56 rfl ?_
        refine hC.bipush dX6_play_58 (v := nI 12) rfl ?_
        refine hC.n_ge (by omega) (by omega) dX6_play_60 (tgt := 131) rfl (fun c => ?_) (fun c => ?_)
        · exact hR.return_ dX6_play_131 ⟨rfl, rfl⟩
        · omega
      · have hls := hbl s
        have hbs := abF_b P a b n h (n - 1) (andn m (2 ^ s)) (-3) (-(plL P a b n h m s).1)
        refine hC.iload dX6_play_56 rfl ?_
        refine hC.bipush dX6_play_58 (v := nI 12) rfl ?_
        refine hC.n_ge (by omega) (by omega) dX6_play_60 (tgt := 131) rfl (fun c => ?_) (fun c => ?_)
        · omega
        · refine hC.aload_n dX6_play_63 rfl ?_
          refine hC.getfield dX6_play_64 lfX6_31 rfl rfl ?_
          refine hC.iconst dX6_play_67 (v := nI 3) rfl ?_
          rw [p3_zI]
          refine hC.icmp_ge dX6_play_68 (tgt := 131) rfl (fun c3 => ?_) (fun c3 => ?_)
          · have c3 := (zI_le (by omega) (by omega) (by omega) (by omega)).mp c3
            exact hR.return_ dX6_play_131 ⟨rfl, by rw [hstp c3 12 (by omega)]⟩
          · have c3 : ¬ 3 ≤ (plL P a b n h m s).1 := fun z => c3 ((zI_le (by omega) (by omega) (by omega) (by omega)).mpr z)
            refine hC.iload_n dX6_play_71 rfl ?_
            refine hC.iload dX6_play_72 rfl ?_
            refine hC.rdSN [] dX6_play_74 lnX6_44 mkX8_has sxX8_has (ct_X8_has l (upF P a m h) s (by omega) (by omega)) ⟨Nat.le_of_ble_eq_true rfl, Nat.le_of_ble_eq_true rfl⟩ rfl rfl (Nat.le_of_ble_eq_true rfl) ⟨by decide, rfl⟩ ?_
            refine hC.bz dX6_play_77 (tgt := 125) rfl (fun c4 => ?_) (fun c4 => ?_)
            · refine hC.iinc dX6_play_125 rfl (nI_1 _) (by decide) ?_
              refine hC.goto dX6_play_128 (tgt := 56) rfl ?_
              rw [show plL P a b n h m (s + 1) = plL P a b n h m s by rw [plL, if_neg (by simp [c4])]] at ih
              exact hC.loc rfl ih
            · refine hC.aload_n dX6_play_80 rfl ?_
              refine hC.aload_n dX6_play_81 rfl ?_
              refine hC.iload_n dX6_play_82 rfl ?_
              refine hC.iconst dX6_play_83 (v := nI 1) rfl ?_
              refine hC.iload dX6_play_84 rfl ?_
              refine hC.ishl dX6_play_86 ?_
              rw [nI_shl (by omega), Nat.one_mul]
              refine hC.iconst dX6_play_87 (v := (-1)) rfl ?_
              refine hC.ixor dX6_play_88 ?_
              refine hC.iand dX6_play_89 ?_
              rw [nI_andn]
              refine hC.iconst dX6_play_90 (v := nI 1) rfl ?_
              refine hC.bipush dX6_play_91 (v := (-3)) rfl ?_
              rw [m3_zI]
              refine hC.aload_n dX6_play_93 rfl ?_
              refine hC.getfield dX6_play_94 lfX6_31 rfl rfl ?_
              refine hC.ineg dX6_play_97 ?_
              rw [zI_neg (by omega) (by omega)]
              refine hC.rdS [0, 1, 2, 3, 4, 5, 6, 7, 8, 9] dX6_play_98 lmX6_34 mkX6_worthFrom sxX6_worthFrom (ct_X6_worthFrom l P hP (zI (plL P a b n h m s).1) (nI (plL P a b n h m s).2) a b n h ha hb hn hh (n - 1) 1 (andn m (2 ^ s)) (-3) (-(plL P a b n h m s).1) (by omega) (andn_b hm) (by omega) (by omega) (by omega) (by omega)) hrp rfl rfl (Nat.le_of_ble_eq_true rfl) ⟨by decide, rfl⟩ ?_
              refine hC.ineg dX6_play_101 ?_
              rw [zI_neg (by omega) (by omega)]
              refine hC.istore dX6_play_102 (by decide) ?_
              refine hC.iload dX6_play_104 rfl ?_
              refine hC.aload_n dX6_play_106 rfl ?_
              refine hC.getfield dX6_play_107 lfX6_31 rfl rfl ?_
              refine hC.icmp_le dX6_play_110 (tgt := 125) rfl (fun c5 => ?_) (fun c5 => ?_)
              · have c5 := (zI_le (by omega) (by omega) (by omega) (by omega)).mp c5
                refine hC.iinc dX6_play_125 rfl (nI_1 _) (by decide) ?_
                refine hC.goto dX6_play_128 (tgt := 56) rfl ?_
                rw [show plL P a b n h m (s + 1) = plL P a b n h m s by rw [plL, if_neg (by omega)]] at ih
                exact hC.loc rfl ih
              · have c5 : ¬ -(abF P a b n h (n - 1) (andn m (2 ^ s)) (-3) (-(plL P a b n h m s).1)) ≤ (plL P a b n h m s).1 := fun z => c5 ((zI_le (by omega) (by omega) (by omega) (by omega)).mpr z)
                refine hC.aload_n dX6_play_113 rfl ?_
                refine hC.iload dX6_play_114 rfl ?_
                refine hC.putI dX6_play_116 lpX6_31 rfl rfl rfl (Nat.le_of_ble_eq_true rfl) ?_
                refine hC.aload_n dX6_play_119 rfl ?_
                refine hC.iload dX6_play_120 rfl ?_
                refine hC.putI dX6_play_122 lpX6_24 rfl rfl rfl (Nat.le_of_ble_eq_true rfl) ?_
                refine hC.iinc dX6_play_125 rfl (nI_1 _) (by decide) ?_
                refine hC.goto dX6_play_128 (tgt := 56) rfl ?_
                rw [show plL P a b n h m (s + 1) = (-(abF P a b n h (n - 1) (andn m (2 ^ s)) (-3) (-(plL P a b n h m s).1)), s) by rw [plL, if_pos ⟨by omega, c4, by omega⟩]] at ih
                exact hC.loc rfl ih
    exact hC.loc rfl (loop 0 (by omega))
