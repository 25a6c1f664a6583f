/-! StripFlagModel: what borders, what flies, what may be unpicked -/
theorem nI_bit {a s : Nat} (ha : a < 2 ^ 31) (h : s < 32) : (nI a >>> (nI s &&& 31)) &&& nI 1 = nI (a.testBit s).toNat := by
  rw [nI_one_and ha h]
  cases a.testBit s <;> rfl
theorem tb0 (x : Nat) : x &&& 1 = (x.testBit 0).toNat := by
  rw [Nat.and_one_is_mod, Nat.testBit_zero]
  rcases Nat.mod_two_eq_zero_or_one x with h | h <;> simp [h]
theorem tb_div (x e : Nat) : (x / 2 ^ e).testBit 0 = x.testBit e := by
  rw [Nat.testBit_div_two_pow]; simp
section CLB
variable {l : Launch} {cc : ByteArray} {own : String} {nL : Nat} {R : Room} {K : AK} {pc : Nat} {ls : AL} {st : List Value} {hs : List va_E}
theorem Cl.b1_ne (h : Cl l cc own nL R K) {b : Bool} {off : Int} {tgt : Nat} (hd : decode cc pc = .ok (.if_icmp .ne off, 3)) (ht : (pc : Int) + off = (tgt : Int)) (kf : b = false → K tgt ls st hs) (kt : b = true → K (pc + 3) ls st hs) : K pc ls (.int (nI 1) :: .int (nI b.toNat) :: st) hs := by
  cases b
  · exact h.icmp_ne hd ht (fun _ => kf rfl) (fun c => absurd c (by decide))
  · exact h.icmp_ne hd ht (fun c => absurd rfl c) (fun _ => kt rfl)
theorem Cl.b1_eq (h : Cl l cc own nL R K) {b : Bool} {off : Int} {tgt : Nat} (hd : decode cc pc = .ok (.if_icmp .eq off, 3)) (ht : (pc : Int) + off = (tgt : Int)) (kt : b = true → K tgt ls st hs) (kf : b = false → K (pc + 3) ls st hs) : K pc ls (.int (nI 1) :: .int (nI b.toNat) :: st) hs := by
  cases b
  · exact h.icmp_eq hd ht (fun c => absurd c (by decide)) (fun _ => kf rfl)
  · exact h.icmp_eq hd ht (fun _ => kt rfl) (fun c => absurd rfl c)
end CLB
def soP (R : Nat → Nat → Nat) (a m s : Nat) : Bool := m.testBit s && onB R s a
set_option maxHeartbeats 4000000 in
set_option maxRecDepth 20000 in
theorem ct_X9_seamsOf (l : Launch) (R : Nat → Nat → Nat) (F : Nat → Nat) (L : Nat → Int64) (h : MdOK R F) (a m : Nat) (ha : a < 2 ^ 31) (hm : m < 2 ^ 31) : Ct l 1 yX9_seamsOf cX9_seamsOf 5 (some .int) [.ref 0, .int (nI a), .int (nI m)] (mdW R F L) (RV (.int (nI (bs (F 8) (soP R a m)))) (mdW R F L)) := by
  refine Ct.of (by decide) (Nat.le_of_ble_eq_true rfl) (fun K hC hR => ?_)
  show K 0 [(0, .ref 0), (1, .int (nI a)), (2, .int (nI m))] [] _
  have h8 := h.2.2.1
  refine hC.iconst dX9_seamsOf_0 (v := nI 0) rfl ?_
  refine hC.istore_n dX9_seamsOf_1 (by decide) ?_
  refine hC.iconst dX9_seamsOf_2 (v := nI 0) rfl ?_
  refine hC.istore dX9_seamsOf_3 (by decide) ?_
  have loop : ∀ s, s ≤ F 8 → K 5 [(0, .ref 0), (1, .int (nI a)), (2, .int (nI m)), (3, .int (nI (bs s (soP R a m)))), (4, .int (nI s))] [] (mdW R F L) := by
    refine loopUp1 _ (F 8) ?_ (fun s hs ih => ?_)
    · refine hC.iload dX9_seamsOf_5 rfl ?_
      refine hC.aload_n dX9_seamsOf_7 rfl ?_
      refine hC.getfield dX9_seamsOf_8 lfX9_186 rfl rfl ?_
      refine hC.n_ge (by omega) (by omega) dX9_seamsOf_11 (tgt := 51) rfl (fun c => ?_) (fun c => ?_)
      · refine hC.iload_n dX9_seamsOf_51 rfl ?_
        exact hR.ireturn dX9_seamsOf_52 ⟨rfl, rfl⟩
      · omega
    · have fin : ∀ z, bs (s + 1) (soP R a m) = bs s (soP R a m) ||| z → K 43 [(0, .ref 0), (1, .int (nI a)), (2, .int (nI m)), (3, .int (nI (bs s (soP R a m)))), (4, .int (nI s))] [.int (nI z), .int (nI (bs s (soP R a m)))] (mdW R F L) := by
        intro z hz
        refine hC.ior dX9_seamsOf_43 ?_
        rw [nI_or, ← hz]
        refine hC.istore_n dX9_seamsOf_44 (by decide) ?_
        refine hC.iinc dX9_seamsOf_45 rfl (nI_1 _) (by decide) ?_
        refine hC.goto dX9_seamsOf_48 (tgt := 5) rfl ?_
        exact hC.loc rfl ih
      refine hC.iload dX9_seamsOf_5 rfl ?_
      refine hC.aload_n dX9_seamsOf_7 rfl ?_
      refine hC.getfield dX9_seamsOf_8 lfX9_186 rfl rfl ?_
      refine hC.n_ge (by omega) (by omega) dX9_seamsOf_11 (tgt := 51) rfl (fun c => ?_) (fun c => ?_)
      · omega
      · refine hC.iload_n dX9_seamsOf_14 rfl ?_
        refine hC.iload_n dX9_seamsOf_15 rfl ?_
        refine hC.iload dX9_seamsOf_16 rfl ?_
        refine hC.ishr dX9_seamsOf_18 ?_
        refine hC.iconst dX9_seamsOf_19 (v := nI 1) rfl ?_
        refine hC.iand dX9_seamsOf_20 ?_
        rw [nI_bit hm (by omega)]
        refine hC.iconst dX9_seamsOf_21 (v := nI 1) rfl ?_
        refine hC.b1_ne dX9_seamsOf_22 (tgt := 42) rfl (fun c1 => ?_) (fun c1 => ?_)
        · refine hC.iconst dX9_seamsOf_42 (v := nI 0) rfl ?_
          exact fin 0 (by rw [bs_f (show soP R a m s = false by simp [soP, c1])]; simp)
        · refine hC.aload_n dX9_seamsOf_25 rfl ?_
          refine hC.iload dX9_seamsOf_26 rfl ?_
          refine hC.iload_n dX9_seamsOf_28 rfl ?_
          refine hC.rdV [0, 1, 2, 3, 4, 5, 6, 7, 8, 9, 10, 11, 12, 13, 14, 15, 16, 17, 18, 19, 20, 21, 22, 23, 24, 25] dX9_seamsOf_29 lmX9_208 mkX9_isOn svX9_isOn (ct_X9_isOn l R F L h s a (by omega) ha) ⟨Nat.le_of_ble_eq_true rfl, Nat.le_of_ble_eq_true rfl⟩ rfl rfl (Nat.le_of_ble_eq_true rfl) ⟨by decide, rfl⟩ rfl rfl ?_
          refine hC.bz dX9_seamsOf_32 (tgt := 42) rfl (fun c2 => ?_) (fun c2 => ?_)
          · refine hC.iconst dX9_seamsOf_42 (v := nI 0) rfl ?_
            exact fin 0 (by rw [bs_f (show soP R a m s = false by simp [soP, c2])]; simp)
          · refine hC.iconst dX9_seamsOf_35 (v := nI 1) rfl ?_
            refine hC.iload dX9_seamsOf_36 rfl ?_
            refine hC.ishl dX9_seamsOf_38 ?_
            rw [nI_shl (by omega), Nat.one_mul]
            refine hC.goto dX9_seamsOf_39 (tgt := 43) rfl ?_
            exact fin _ (bs_t (show soP R a m s = true by simp [soP, c1, c2]))
  exact hC.loc rfl (loop 0 (by omega))
def boP (R : Nat → Nat → Nat) (a m s : Nat) : Bool := m.testBit s && (onB R s a && !decide (R 12 s = 8))
def boG (R : Nat → Nat → Nat) (a m s : Nat) : Nat := if boP R a m s = true then 2 ^ (R 11 s + R 12 s - a) else 0
theorem boG_lt {R : Nat → Nat → Nat} {F : Nat → Nat} (h : MdOK R F) (a m s : Nat) (hs : s < F 8) : boG R a m s < 2 ^ 8 := by
  obtain ⟨h1, h2⟩ := h.2.2.2.2.2.2.2.2.2.2 s (Or.inl hs)
  unfold boG
  split
  next hc =>
    simp only [boP, onB, Bool.and_eq_true, Bool.or_eq_true, decide_eq_true_eq, Bool.not_eq_true', decide_eq_false_iff_not] at hc
    exact Nat.pow_lt_pow_right (by decide) (by omega)
  next => decide
set_option maxHeartbeats 4000000 in
set_option maxRecDepth 20000 in
theorem ct_X9_borders (l : Launch) (R : Nat → Nat → Nat) (F : Nat → Nat) (L : Nat → Int64) (h : MdOK R F) (a m : Nat) (ha : a < 2 ^ 31) (hm : m < 2 ^ 31) : Ct l 1 yX9_borders cX9_borders 6 (some .int) [.ref 0, .int (nI a), .int (nI m)] (mdW R F L) (RV (.int (nI (orF (boG R a m) (F 8)))) (mdW R F L)) := by
  refine Ct.of (by decide) (Nat.le_of_ble_eq_true rfl) (fun K hC hR => ?_)
  show K 0 [(0, .ref 0), (1, .int (nI a)), (2, .int (nI m))] [] _
  have h8 := h.2.2.1
  refine hC.iconst dX9_borders_0 (v := nI 0) rfl ?_
  refine hC.istore_n dX9_borders_1 (by decide) ?_
  refine hC.iconst dX9_borders_2 (v := nI 0) rfl ?_
  refine hC.istore dX9_borders_3 (by decide) ?_
  have loop : ∀ s, s ≤ F 8 → K 5 [(0, .ref 0), (1, .int (nI a)), (2, .int (nI m)), (3, .int (nI (orF (boG R a m) s))), (4, .int (nI s))] [] (mdW R F L) := by
    refine loopUp1 _ (F 8) ?_ (fun s hs ih => ?_)
    · refine hC.iload dX9_borders_5 rfl ?_
      refine hC.aload_n dX9_borders_7 rfl ?_
      refine hC.getfield dX9_borders_8 lfX9_186 rfl rfl ?_
      refine hC.n_ge (by omega) (by omega) dX9_borders_11 (tgt := 90) rfl (fun c => ?_) (fun c => ?_)
      · refine hC.iload_n dX9_borders_90 rfl ?_
        exact hR.ireturn dX9_borders_91 ⟨rfl, rfl⟩
      · omega
    · obtain ⟨h1, h2⟩ := h.2.2.2.2.2.2.2.2.2.2 s (Or.inl hs)
      have fin : ∀ b : Bool, b = boP R a m s → K 51 [(0, .ref 0), (1, .int (nI a)), (2, .int (nI m)), (3, .int (nI (orF (boG R a m) s))), (4, .int (nI s))] [.int (nI b.toNat)] (mdW R F L) := by
        intro b hb
        refine hC.istore dX9_borders_51 (by decide) ?_
        refine hC.iload_n dX9_borders_53 rfl ?_
        refine hC.iload dX9_borders_54 rfl ?_
        refine hC.bz dX9_borders_56 (tgt := 81) rfl (fun c3 => ?_) (fun c3 => ?_)
        · refine hC.iconst dX9_borders_81 (v := nI 0) rfl ?_
          refine hC.ior dX9_borders_82 ?_
          rw [nI_or]
          refine hC.istore_n dX9_borders_83 (by decide) ?_
          refine hC.iinc dX9_borders_84 rfl (nI_1 _) (by decide) ?_
          refine hC.goto dX9_borders_87 (tgt := 5) rfl ?_
          rw [show orF (boG R a m) (s + 1) = orF (boG R a m) s ||| 0 by rw [orF, boG, ← hb, c3]; rfl] at ih
          exact hC.loc rfl ih
        · have hc : boP R a m s = true := by rw [← hb]; exact c3
          have hc2 := hc
          simp only [boP, onB, Bool.and_eq_true, Bool.or_eq_true, decide_eq_true_eq, Bool.not_eq_true', decide_eq_false_iff_not] at hc2
          refine hC.iconst dX9_borders_59 (v := nI 1) rfl ?_
          refine hC.aload_n dX9_borders_60 rfl ?_
          refine hC.getfield dX9_borders_61 lfX9_40 rfl rfl ?_
          refine hC.iload dX9_borders_64 rfl ?_
          refine hC.iaN dX9_borders_66 rfl ⟨by omega, by decide⟩ ?_
          refine hC.aload_n dX9_borders_67 rfl ?_
          refine hC.getfield dX9_borders_68 lfX9_43 rfl rfl ?_
          refine hC.iload dX9_borders_71 rfl ?_
          refine hC.iaN dX9_borders_73 rfl ⟨by omega, by decide⟩ ?_
          refine hC.iadd dX9_borders_74 ?_
          rw [nI_add]
          refine hC.iload_n dX9_borders_75 rfl ?_
          refine hC.isub dX9_borders_76 ?_
          rw [pk_sub (by omega)]
          refine hC.ishl dX9_borders_77 ?_
          rw [nI_shl (by omega), Nat.one_mul]
          refine hC.goto dX9_borders_78 (tgt := 82) rfl ?_
          refine hC.ior dX9_borders_82 ?_
          rw [nI_or]
          refine hC.istore_n dX9_borders_83 (by decide) ?_
          refine hC.iinc dX9_borders_84 rfl (nI_1 _) (by decide) ?_
          refine hC.goto dX9_borders_87 (tgt := 5) rfl ?_
          rw [show orF (boG R a m) (s + 1) = orF (boG R a m) s ||| 2 ^ (R 11 s + R 12 s - a) by rw [orF, boG, if_pos hc]] at ih
          exact hC.loc rfl ih
      refine hC.iload dX9_borders_5 rfl ?_
      refine hC.aload_n dX9_borders_7 rfl ?_
      refine hC.getfield dX9_borders_8 lfX9_186 rfl rfl ?_
      refine hC.n_ge (by omega) (by omega) dX9_borders_11 (tgt := 90) rfl (fun c => ?_) (fun c => ?_)
      · omega
      · refine hC.iload_n dX9_borders_14 rfl ?_
        refine hC.iload dX9_borders_15 rfl ?_
        refine hC.ishr dX9_borders_17 ?_
        refine hC.iconst dX9_borders_18 (v := nI 1) rfl ?_
        refine hC.iand dX9_borders_19 ?_
        rw [nI_bit hm (by omega)]
        refine hC.iconst dX9_borders_20 (v := nI 1) rfl ?_
        refine hC.b1_ne dX9_borders_21 (tgt := 50) rfl (fun c1 => ?_) (fun c1 => ?_)
        · refine hC.iconst dX9_borders_50 (v := nI 0) rfl ?_
          exact fin false (by simp [boP, c1])
        · refine hC.aload_n dX9_borders_24 rfl ?_
          refine hC.iload dX9_borders_25 rfl ?_
          refine hC.iload_n dX9_borders_27 rfl ?_
          refine hC.rdV [0, 1, 2, 3, 4, 5, 6, 7, 8, 9, 10, 11, 12, 13, 14, 15, 16, 17, 18, 19, 20, 21, 22, 23, 24, 25] dX9_borders_28 lmX9_208 mkX9_isOn svX9_isOn (ct_X9_isOn l R F L h s a (by omega) ha) ⟨Nat.le_of_ble_eq_true rfl, Nat.le_of_ble_eq_true rfl⟩ rfl rfl (Nat.le_of_ble_eq_true rfl) ⟨by decide, rfl⟩ rfl rfl ?_
          refine hC.bz dX9_borders_31 (tgt := 50) rfl (fun c2 => ?_) (fun c2 => ?_)
          · refine hC.iconst dX9_borders_50 (v := nI 0) rfl ?_
            exact fin false (by simp [boP, c2])
          · refine hC.aload_n dX9_borders_34 rfl ?_
            refine hC.getfield dX9_borders_35 lfX9_43 rfl rfl ?_
            refine hC.iload dX9_borders_38 rfl ?_
            refine hC.iaN dX9_borders_40 rfl ⟨by omega, by decide⟩ ?_
            refine hC.bipush dX9_borders_41 (v := nI 8) rfl ?_
            refine hC.n_eq (by omega) (by omega) dX9_borders_43 (tgt := 50) rfl (fun c3 => ?_) (fun c3 => ?_)
            · refine hC.iconst dX9_borders_50 (v := nI 0) rfl ?_
              exact fin false (by simp [boP, c3])
            · refine hC.iconst dX9_borders_46 (v := nI 1) rfl ?_
              refine hC.goto dX9_borders_47 (tgt := 51) rfl ?_
              exact fin true (by simp [boP, c1, c2, c3])
  exact hC.loc rfl (loop 0 (by omega))
def EM (R : Nat → Nat → Nat) (s : Nat) : Nat := if R 11 s < 8 ∧ R 12 s ≤ 8 then 2 ^ R 11 s ||| 2 ^ R 12 s else 0
theorem EM_of {R : Nat → Nat → Nat} {s : Nat} (h : R 11 s < 8 ∧ R 12 s ≤ 8) : EM R s = 2 ^ R 11 s ||| 2 ^ R 12 s := if_pos h
theorem EM_lt (R : Nat → Nat → Nat) (s : Nat) : EM R s < 512 := by
  unfold EM; split
  next h => exact or_b 9 (Nat.pow_lt_pow_right (by decide) (by omega)) (Nat.pow_lt_pow_right (by decide) (by omega))
  next => decide
theorem EM_and {R : Nat → Nat → Nat} {s : Nat} (hv : R 11 s < 8 ∧ R 12 s ≤ 8) (w : Nat) : decide (EM R s &&& w ≠ 0) = (w.testBit (R 11 s) || w.testBit (R 12 s)) := by
  have e : ∀ i, (EM R s).testBit i = (decide (R 11 s = i) || decide (R 12 s = i)) := fun i => by
    rw [EM_of hv, Nat.testBit_or, Nat.testBit_two_pow, Nat.testBit_two_pow]
  cases hb : (w.testBit (R 11 s) || w.testBit (R 12 s))
  · simp only [Bool.or_eq_false_iff] at hb
    have : EM R s &&& w = 0 := eq0_tb.mpr (fun i => by
      rw [Nat.testBit_and, e]
      by_cases h1 : R 11 s = i
      · subst h1; rw [hb.1]; simp
      · by_cases h2 : R 12 s = i
        · subst h2; rw [hb.2]; simp
        · simp [h1, h2])
    simp [this]
  · have : EM R s &&& w ≠ 0 := by
      intro h0
      have h1 := eq0_tb.mp h0 (R 11 s)
      have h2 := eq0_tb.mp h0 (R 12 s)
      rw [Nat.testBit_and, e] at h1 h2
      simp at h1 h2
      simp [h1, h2] at hb
    simp [this]
set_option maxHeartbeats 4000000 in
set_option maxRecDepth 20000 in
theorem ct_X9_flying (l : Launch) (R : Nat → Nat → Nat) (F : Nat → Nat) (L : Nat → Int64) (h : MdOK R F) (m : Nat) (hm : m < 2 ^ 31) (hv : ∀ s, m.testBit s = true → vS F s) : Ct l 0 yX9_flying cX9_flying 6 (some .int) [.ref 0, .int (nI m)] (mdW R F L) (RV (.int (nI (flyF (EM R) 20 m))) (mdW R F L)) := by
  refine Ct.of (by decide) (Nat.le_of_ble_eq_true rfl) (fun K hC hR => ?_)
  show K 0 [(0, .ref 0), (1, .int (nI m))] [] _
  have hE := EM_lt R
  refine hC.sipush dX9_flying_0 (v := nI 256) rfl ?_
  refine hC.istore_n dX9_flying_3 (by decide) ?_
  refine hC.iconst dX9_flying_4 (v := nI 0) rfl ?_
  refine hC.istore_n dX9_flying_5 (by decide) ?_
  have inner : ∀ w u, w < 512 → K 102 [(0, .ref 0), (1, .int (nI m)), (2, .int (nI (sprF (EM R) m w 20))), (3, .int (nI u))] [] (mdW R F L) → ∀ s, s ≤ 20 → K 16 [(0, .ref 0), (1, .int (nI m)), (2, .int (nI (sprF (EM R) m w s))), (3, .int (nI u)), (4, .int (nI s))] [] (mdW R F L) := by
    intro w u hw hk
    refine loopUp1 _ 20 ?_ (fun s hs ih => ?_)
    · refine hC.iload dX9_flying_16 rfl ?_
      refine hC.bipush dX9_flying_18 (v := nI 20) rfl ?_
      refine hC.n_ge (by omega) (by omega) dX9_flying_20 (tgt := 102) rfl (fun c => ?_) (fun c => ?_)
      · exact hC.loc rfl hk
      · omega
    · have hws := sprF_lt (m := m) hE hw s
      have hst : sprF (EM R) m w (s + 1) = if (m.testBit s && decide (EM R s &&& sprF (EM R) m w s ≠ 0)) = true then sprF (EM R) m w s ||| EM R s else sprF (EM R) m w s := rfl
      generalize hwg : sprF (EM R) m w s = v at hws hst ⊢
      have fin : ∀ b : Bool, b = (m.testBit s && decide (EM R s &&& v ≠ 0)) → K 63 [(0, .ref 0), (1, .int (nI m)), (2, .int (nI v)), (3, .int (nI u)), (4, .int (nI s))] [.int (nI b.toNat)] (mdW R F L) := by
        intro b hb
        rw [← hb] at hst
        refine hC.istore dX9_flying_63 (by decide) ?_
        refine hC.iload_n dX9_flying_65 rfl ?_
        refine hC.iload dX9_flying_66 rfl ?_
        refine hC.bz dX9_flying_68 (tgt := 93) rfl (fun c3 => ?_) (fun c3 => ?_)
        · refine hC.iconst dX9_flying_93 (v := nI 0) rfl ?_
          refine hC.ior dX9_flying_94 ?_
          rw [nI_or, Nat.or_zero]
          refine hC.istore_n dX9_flying_95 (by decide) ?_
          refine hC.iinc dX9_flying_96 rfl (nI_1 _) (by decide) ?_
          refine hC.goto dX9_flying_99 (tgt := 16) rfl ?_
          rw [hst, if_neg (by simp [c3])] at ih
          exact hC.loc rfl ih
        · have hmt : m.testBit s = true := by rw [c3] at hb; exact (Bool.and_eq_true_iff.mp hb.symm).1
          have hv2 := h.2.2.2.2.2.2.2.2.2.2 s (hv s hmt)
          obtain ⟨h1, h2⟩ := hv2
          rw [EM_of ⟨h1, h2⟩] at hst
          refine hC.iconst dX9_flying_71 (v := nI 1) rfl ?_
          refine hC.aload_n dX9_flying_72 rfl ?_
          refine hC.getfield dX9_flying_73 lfX9_40 rfl rfl ?_
          refine hC.iload dX9_flying_76 rfl ?_
          refine hC.iaN dX9_flying_78 rfl ⟨by omega, by decide⟩ ?_
          refine hC.ishl dX9_flying_79 ?_
          rw [nI_shl (by omega), Nat.one_mul]
          refine hC.iconst dX9_flying_80 (v := nI 1) rfl ?_
          refine hC.aload_n dX9_flying_81 rfl ?_
          refine hC.getfield dX9_flying_82 lfX9_43 rfl rfl ?_
          refine hC.iload dX9_flying_85 rfl ?_
          refine hC.iaN dX9_flying_87 rfl ⟨by omega, by decide⟩ ?_
          refine hC.ishl dX9_flying_88 ?_
          rw [nI_shl (by omega), Nat.one_mul]
          refine hC.ior dX9_flying_89 ?_
          rw [nI_or]
          refine hC.goto dX9_flying_90 (tgt := 94) rfl ?_
          refine hC.ior dX9_flying_94 ?_
          rw [nI_or]
          refine hC.istore_n dX9_flying_95 (by decide) ?_
          refine hC.iinc dX9_flying_96 rfl (nI_1 _) (by decide) ?_
          refine hC.goto dX9_flying_99 (tgt := 16) rfl ?_
          rw [hst, if_pos c3] at ih
          exact hC.loc rfl ih
      refine hC.iload dX9_flying_16 rfl ?_
      refine hC.bipush dX9_flying_18 (v := nI 20) rfl ?_
      refine hC.n_ge (by omega) (by omega) dX9_flying_20 (tgt := 102) rfl (fun c => ?_) (fun c => ?_)
      · omega
      · refine hC.iload_n dX9_flying_23 rfl ?_
        refine hC.iload dX9_flying_24 rfl ?_
        refine hC.ishr dX9_flying_26 ?_
        refine hC.iconst dX9_flying_27 (v := nI 1) rfl ?_
        refine hC.iand dX9_flying_28 ?_
        rw [nI_bit hm (by omega)]
        refine hC.iconst dX9_flying_29 (v := nI 1) rfl ?_
        refine hC.b1_ne dX9_flying_30 (tgt := 62) rfl (fun c1 => ?_) (fun c1 => ?_)
        · refine hC.iconst dX9_flying_62 (v := nI 0) rfl ?_
          exact hC.loc rfl (fin false (by simp [c1]))
        · have hv2 := h.2.2.2.2.2.2.2.2.2.2 s (hv s c1)
          have hEa := EM_and hv2 v
          obtain ⟨h1, h2⟩ := hv2
          refine hC.iload_n dX9_flying_33 rfl ?_
          refine hC.aload_n dX9_flying_34 rfl ?_
          refine hC.getfield dX9_flying_35 lfX9_40 rfl rfl ?_
          refine hC.iload dX9_flying_38 rfl ?_
          refine hC.iaN dX9_flying_40 rfl ⟨by omega, by decide⟩ ?_
          refine hC.ishr dX9_flying_41 ?_
          rw [nI_shr (by omega) (by omega)]
          refine hC.iload_n dX9_flying_42 rfl ?_
          refine hC.aload_n dX9_flying_43 rfl ?_
          refine hC.getfield dX9_flying_44 lfX9_43 rfl rfl ?_
          refine hC.iload dX9_flying_47 rfl ?_
          refine hC.iaN dX9_flying_49 rfl ⟨by omega, by decide⟩ ?_
          refine hC.ishr dX9_flying_50 ?_
          rw [nI_shr (by omega) (by omega)]
          refine hC.ior dX9_flying_51 ?_
          rw [nI_or]
          refine hC.iconst dX9_flying_52 (v := nI 1) rfl ?_
          refine hC.iand dX9_flying_53 ?_
          rw [nI_and, tb0, Nat.testBit_or, tb_div, tb_div]
          refine hC.iconst dX9_flying_54 (v := nI 1) rfl ?_
          refine hC.b1_ne dX9_flying_55 (tgt := 62) rfl (fun c2 => ?_) (fun c2 => ?_)
          · refine hC.iconst dX9_flying_62 (v := nI 0) rfl ?_
            exact hC.loc rfl (fin false (by rw [hEa, c2]; simp))
          · refine hC.iconst dX9_flying_58 (v := nI 1) rfl ?_
            refine hC.goto dX9_flying_59 (tgt := 63) rfl ?_
            exact hC.loc rfl (fin true (by rw [hEa, c1, c2]; rfl))
  have fin : ∀ w u, w < 512 → w.testBit 8 = true → closedX (EM R) 20 m w → (∀ a, w.testBit a = true → flyB (EM R) 20 m a) → u = w → K 6 [(0, .ref 0), (1, .int (nI m)), (2, .int (nI w)), (3, .int (nI u))] [] (mdW R F L) := by
    intro w u h1 h2 h3 h4 hu
    subst hu
    refine hC.iload_n dX9_flying_6 rfl ?_
    refine hC.iload_n dX9_flying_7 rfl ?_
    refine hC.n_eq (by omega) (by omega) dX9_flying_8 (tgt := 105) rfl (fun c => ?_) (fun c => ?_)
    · refine hC.iload_n dX9_flying_105 rfl ?_
      refine hC.sipush dX9_flying_106 (v := nI 255) rfl ?_
      refine hC.iand dX9_flying_109 ?_
      rw [nI_and, show u &&& 255 = andn u 256 by
        apply Nat.eq_of_testBit_eq
        intro i
        rw [Nat.testBit_and, andn_tb, show (255 : Nat) = 2 ^ 8 - 1 from rfl, Nat.testBit_two_pow_sub_one, show (256 : Nat) = 2 ^ 8 from rfl, Nat.testBit_two_pow]
        by_cases h9 : i < 9
        · congr 1
          by_cases h8 : i = 8
          · subst h8; rfl
          · have : i < 8 := by omega
            simp [this]; omega
        · rw [tb_lt (n := 9) h1 (by omega)]; rfl, flyF_of h1 h2 h3 h4]
      exact hR.ireturn dX9_flying_110 ⟨rfl, rfl⟩
    · exact absurd rfl c
  have outer : ∀ d w u, w < 512 → w.testBit 8 = true → (∀ a, w.testBit a = true → flyB (EM R) 20 m a) → 9 ≤ cn w.testBit 9 + d → u < 512 → u ≠ w → K 6 [(0, .ref 0), (1, .int (nI m)), (2, .int (nI w)), (3, .int (nI u))] [] (mdW R F L) := by
    intro d
    induction d with
    | zero =>
      intro w u h1 h2 h3 h4 h5 h6
      have hsup := sprF_sup (E := EM R) (m := m) (h := w) 0 20 (by omega)
      have hlt := sprF_lt (m := m) hE h1 20
      have hfull := cn_full (p := w.testBit) 9 (by omega)
      have e : sprF (EM R) m w 20 = w := set_ext (n := 9) hlt h1 (fun i hi => by rw [hfull i hi]; exact hsup i (hfull i hi))
      have k102 : K 102 [(0, .ref 0), (1, .int (nI m)), (2, .int (nI (sprF (EM R) m w 20))), (3, .int (nI w))] [] (mdW R F L) := by
        refine hC.goto dX9_flying_102 (tgt := 6) rfl ?_
        rw [e]
        exact fin w w h1 h2 (sprF_closed e) h3 rfl
      refine hC.iload_n dX9_flying_6 rfl ?_
      refine hC.iload_n dX9_flying_7 rfl ?_
      refine hC.n_eq (by omega) (by omega) dX9_flying_8 (tgt := 105) rfl (fun c => ?_) (fun c => ?_)
      · exact absurd c.symm h6
      · refine hC.iload_n dX9_flying_11 rfl ?_
        refine hC.istore_n dX9_flying_12 (by decide) ?_
        refine hC.iconst dX9_flying_13 (v := nI 0) rfl ?_
        refine hC.istore dX9_flying_14 (by decide) ?_
        exact hC.loc rfl (inner w w h1 k102 0 (by omega))
    | succ d ih =>
      intro w u h1 h2 h3 h4 h5 h6
      have hsup := sprF_sup (E := EM R) (m := m) (h := w) 0 20 (by omega)
      have hlt := sprF_lt (m := m) hE h1 20
      have hfl : ∀ a, (sprF (EM R) m w 20).testBit a = true → flyB (EM R) 20 m a := fun a ha X hX1 hX2 hX3 => sprF_sub hX3 (fun i hi => h3 i hi X hX1 hX2 hX3) 20 (Nat.le_refl 20) a ha
      have k102 : K 102 [(0, .ref 0), (1, .int (nI m)), (2, .int (nI (sprF (EM R) m w 20))), (3, .int (nI w))] [] (mdW R F L) := by
        refine hC.goto dX9_flying_102 (tgt := 6) rfl ?_
        by_cases e : sprF (EM R) m w 20 = w
        · rw [e]
          exact fin w w h1 h2 (sprF_closed e) h3 rfl
        · have hd : ∃ i, i < 9 ∧ w.testBit i = false ∧ (sprF (EM R) m w 20).testBit i = true := by
            apply Classical.byContradiction
            intro hno
            refine e (set_ext (n := 9) hlt h1 (fun i hi => ?_))
            cases hw : w.testBit i
            · cases hs : (sprF (EM R) m w 20).testBit i
              · rfl
              · exact absurd ⟨i, hi, hw, hs⟩ hno
            · exact hsup i hw
          have hcn : cn w.testBit 9 < cn (sprF (EM R) m w 20).testBit 9 := cn_lt 9 (fun i _ hi => hsup i hi) hd
          exact ih _ _ hlt (hsup 8 h2) hfl (by omega) h1 (fun z => e z.symm)
      refine hC.iload_n dX9_flying_6 rfl ?_
      refine hC.iload_n dX9_flying_7 rfl ?_
      refine hC.n_eq (by omega) (by omega) dX9_flying_8 (tgt := 105) rfl (fun c => ?_) (fun c => ?_)
      · exact absurd c.symm h6
      · refine hC.iload_n dX9_flying_11 rfl ?_
        refine hC.istore_n dX9_flying_12 (by decide) ?_
        refine hC.iconst dX9_flying_13 (v := nI 0) rfl ?_
        refine hC.istore dX9_flying_14 (by decide) ?_
        exact hC.loc rfl (inner w w h1 k102 0 (by omega))
  refine hC.loc rfl (outer 9 256 0 (by decide) (by decide) (fun a ha X _ h8 _ => ?_) (by omega) (by decide) (by decide))
  rw [show (256 : Nat) = 2 ^ 8 from rfl, Nat.testBit_two_pow] at ha
  have : 8 = a := by simpa using ha
  rw [← this]; exact h8
theorem orF_lt2 {f : Nat → Nat} {k : Nat} : ∀ n, (∀ s, s < n → f s < 2 ^ k) → orF f n < 2 ^ k
  | 0, _ => Nat.two_pow_pos k
  | n + 1, h => or_b k (orF_lt2 n (fun s hs => h s (by omega))) (h n (Nat.lt_succ_self n))
def nearM (R : Nat → Nat → Nat) (F : Nat → Nat) (a m : Nat) : Nat := orF (boG R a m) (F 8)
theorem nearM_lt {R : Nat → Nat → Nat} {F : Nat → Nat} (h : MdOK R F) (a m : Nat) : nearM R F a m < 256 := orF_lt2 (k := 8) (F 8) (fun s hs => boG_lt h a m s hs)
def muB (R : Nat → Nat → Nat) (F : Nat → Nat) (a s m h : Nat) : Bool := (m.testBit s && (!h.testBit s && !onB R s a)) && ((nearM R F a m).testBit (R 11 s) || (!decide (R 12 s = 8) && (nearM R F a m).testBit (R 12 s)))
set_option maxHeartbeats 4000000 in
set_option maxRecDepth 20000 in
theorem ct_X9_mayUnpick (l : Launch) (R : Nat → Nat → Nat) (F : Nat → Nat) (L : Nat → Int64) (h : MdOK R F) (a s m b : Nat) (ha : a < 2 ^ 31) (hs : s < F 8) (hm : m < 2 ^ 31) (hb : b < 2 ^ 31) : Ct l 2 yX9_mayUnpick cX9_mayUnpick 7 (some .boolean) [.ref 0, .int (nI a), .int (nI s), .int (nI m), .int (nI b)] (mdW R F L) (RV (.int (nI (muB R F a s m b).toNat)) (mdW R F L)) := by
  refine Ct.of (by decide) (Nat.le_of_ble_eq_true rfl) (fun K hC hR => ?_)
  show K 0 [(0, .ref 0), (1, .int (nI a)), (2, .int (nI s)), (3, .int (nI m)), (4, .int (nI b))] [] _
  have h12 := h.2.2.1
  obtain ⟨h1, h2⟩ := h.2.2.2.2.2.2.2.2.2.2 s (Or.inl hs)
  have hnl := nearM_lt h a m
  have fin : ∀ p : Bool, p = (m.testBit s && (!b.testBit s && !onB R s a)) → K 32 [(0, .ref 0), (1, .int (nI a)), (2, .int (nI s)), (3, .int (nI m)), (4, .int (nI b))] [.int (nI p.toNat)] (mdW R F L) := by
    intro p hp
    rw [muB, ← hp] at hR
    have out : (p && ((nearM R F a m).testBit (R 11 s) || (!decide (R 12 s = 8) && (nearM R F a m).testBit (R 12 s)))) = false → ∀ ls, K 92 ls [] (mdW R F L) := by
      intro e ls
      rw [e] at hR
      refine hC.iconst dX9_mayUnpick_92 (v := nI 0) rfl ?_
      exact hR.zreturn dX9_mayUnpick_93 (by first | decide | exact b01 _) ⟨rfl, rfl⟩
    have yes : (p && ((nearM R F a m).testBit (R 11 s) || (!decide (R 12 s = 8) && (nearM R F a m).testBit (R 12 s)))) = true → ∀ ls, K 88 ls [] (mdW R F L) := by
      intro e ls
      rw [e] at hR
      refine hC.iconst dX9_mayUnpick_88 (v := nI 1) rfl ?_
      refine hC.goto dX9_mayUnpick_89 (tgt := 93) rfl ?_
      exact hR.zreturn dX9_mayUnpick_93 (by first | decide | exact b01 _) ⟨rfl, rfl⟩
    refine hC.istore dX9_mayUnpick_32 (by decide) ?_
    refine hC.aload_n dX9_mayUnpick_34 rfl ?_
    refine hC.iload_n dX9_mayUnpick_35 rfl ?_
    refine hC.iload_n dX9_mayUnpick_36 rfl ?_
    refine hC.rdV [0, 1, 2, 3, 4, 5, 6, 7, 8, 9, 10, 11, 12, 13, 14, 15, 16, 17, 18, 19, 20, 21, 22, 23, 24, 25] dX9_mayUnpick_37 lmX9_218 mkX9_borders svX9_borders (ct_X9_borders l R F L h a m ha hm) ⟨Nat.le_of_ble_eq_true rfl, Nat.le_of_ble_eq_true rfl⟩ rfl rfl (Nat.le_of_ble_eq_true rfl) ⟨by decide, rfl⟩ rfl rfl ?_
    refine hC.istore dX9_mayUnpick_40 (by decide) ?_
    refine hC.iload dX9_mayUnpick_42 rfl ?_
    refine hC.bz dX9_mayUnpick_44 (tgt := 92) rfl (fun c1 => ?_) (fun c1 => ?_)
    · exact out (by rw [c1]; rfl) _
    · refine hC.iload dX9_mayUnpick_47 rfl ?_
      refine hC.aload_n dX9_mayUnpick_49 rfl ?_
      refine hC.getfield dX9_mayUnpick_50 lfX9_40 rfl rfl ?_
      refine hC.iload_n dX9_mayUnpick_53 rfl ?_
      refine hC.iaN dX9_mayUnpick_54 rfl ⟨by omega, by decide⟩ ?_
      refine hC.ishr dX9_mayUnpick_55 ?_
      refine hC.iconst dX9_mayUnpick_56 (v := nI 1) rfl ?_
      refine hC.iand dX9_mayUnpick_57 ?_
      rw [show orF (boG R a m) (F 8) = nearM R F a m from rfl, nI_bit (by omega) (by omega)]
      refine hC.iconst dX9_mayUnpick_58 (v := nI 1) rfl ?_
      refine hC.b1_eq dX9_mayUnpick_59 (tgt := 88) rfl (fun c2 => ?_) (fun c2 => ?_)
      · exact yes (by rw [c1, c2]; rfl) _
      · refine hC.aload_n dX9_mayUnpick_62 rfl ?_
        refine hC.getfield dX9_mayUnpick_63 lfX9_43 rfl rfl ?_
        refine hC.iload_n dX9_mayUnpick_66 rfl ?_
        refine hC.iaN dX9_mayUnpick_67 rfl ⟨by omega, by decide⟩ ?_
        refine hC.bipush dX9_mayUnpick_68 (v := nI 8) rfl ?_
        refine hC.n_eq (by omega) (by omega) dX9_mayUnpick_70 (tgt := 92) rfl (fun c3 => ?_) (fun c3 => ?_)
        · exact out (by rw [c2, c3]; simp) _
        · refine hC.iload dX9_mayUnpick_73 rfl ?_
          refine hC.aload_n dX9_mayUnpick_75 rfl ?_
          refine hC.getfield dX9_mayUnpick_76 lfX9_43 rfl rfl ?_
          refine hC.iload_n dX9_mayUnpick_79 rfl ?_
          refine hC.iaN dX9_mayUnpick_80 rfl ⟨by omega, by decide⟩ ?_
          refine hC.ishr dX9_mayUnpick_81 ?_
          refine hC.iconst dX9_mayUnpick_82 (v := nI 1) rfl ?_
          refine hC.iand dX9_mayUnpick_83 ?_
          rw [nI_bit (by omega) (by omega)]
          refine hC.iconst dX9_mayUnpick_84 (v := nI 1) rfl ?_
          refine hC.b1_ne dX9_mayUnpick_85 (tgt := 92) rfl (fun c4 => ?_) (fun c4 => ?_)
          · exact out (by rw [c2, c4]; simp) _
          · exact yes (by rw [c1, c4]; simp [c3]) _
  refine hC.iload_n dX9_mayUnpick_0 rfl ?_
  refine hC.iload_n dX9_mayUnpick_1 rfl ?_
  refine hC.ishr dX9_mayUnpick_2 ?_
  refine hC.iconst dX9_mayUnpick_3 (v := nI 1) rfl ?_
  refine hC.iand dX9_mayUnpick_4 ?_
  rw [nI_bit hm (by omega)]
  refine hC.iconst dX9_mayUnpick_5 (v := nI 1) rfl ?_
  refine hC.b1_ne dX9_mayUnpick_6 (tgt := 31) rfl (fun c1 => ?_) (fun c1 => ?_)
  · refine hC.iconst dX9_mayUnpick_31 (v := nI 0) rfl ?_
    exact fin false (by simp [c1])
  · refine hC.iload dX9_mayUnpick_9 rfl ?_
    refine hC.iload_n dX9_mayUnpick_11 rfl ?_
    refine hC.ishr dX9_mayUnpick_12 ?_
    refine hC.iconst dX9_mayUnpick_13 (v := nI 1) rfl ?_
    refine hC.iand dX9_mayUnpick_14 ?_
    rw [nI_bit hb (by omega)]
    refine hC.bnz dX9_mayUnpick_15 (tgt := 31) rfl (fun c2 => ?_) (fun c2 => ?_)
    · refine hC.iconst dX9_mayUnpick_31 (v := nI 0) rfl ?_
      exact fin false (by simp [c2])
    · refine hC.aload_n dX9_mayUnpick_18 rfl ?_
      refine hC.iload_n dX9_mayUnpick_19 rfl ?_
      refine hC.iload_n dX9_mayUnpick_20 rfl ?_
      refine hC.rdV [0, 1, 2, 3, 4, 5, 6, 7, 8, 9, 10, 11, 12, 13, 14, 15, 16, 17, 18, 19, 20, 21, 22, 23, 24, 25] dX9_mayUnpick_21 lmX9_208 mkX9_isOn svX9_isOn (ct_X9_isOn l R F L h s a (by omega) ha) ⟨Nat.le_of_ble_eq_true rfl, Nat.le_of_ble_eq_true rfl⟩ rfl rfl (Nat.le_of_ble_eq_true rfl) ⟨by decide, rfl⟩ rfl rfl ?_
      refine hC.bnz dX9_mayUnpick_24 (tgt := 31) rfl (fun c3 => ?_) (fun c3 => ?_)
      · refine hC.iconst dX9_mayUnpick_31 (v := nI 0) rfl ?_
        exact fin false (by simp [c3])
      · refine hC.iconst dX9_mayUnpick_27 (v := nI 1) rfl ?_
        refine hC.goto dX9_mayUnpick_28 (tgt := 32) rfl ?_
        exact fin true (by simp [c1, c2, c3])
