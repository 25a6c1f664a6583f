/-! StripFlagModel: cut -/
noncomputable def ctL (R : Nat → Nat → Nat) (M a th : Nat) : Nat → Nat
  | 0 => th
  | i + 1 => if andn (2 ^ M - 1 - i) th = 0 ∧ cd (2 ^ M - 1 - i) ≤ cd (ctL R M a th i) ∧ (flyF (EM R) 20 (andn th (2 ^ M - 1 - i))).testBit a = false then 2 ^ M - 1 - i else ctL R M a th i
noncomputable def ctB (R : Nat → Nat → Nat) (F : Nat → Nat) (a : Nat) : Nat := if (flyF (EM R) 20 (thF (stM R F) 0)).testBit a = true then ctL R (F 8) a (thF (stM R F) 0) (2 ^ F 8) else 0
noncomputable def mCut (R : Nat → Nat → Nat) (F : Nat → Nat) (x y : Int32) : Int32 := if inB x (F 7) = true then (if inR y 1 = true then (if ix y = 0 then nI (cd (ctB R F (ix x))) else nI (ctB R F (ix x))) else cO) else cU
theorem pow12 {t : Nat} (h : t ≤ 12) : 2 ^ t ≤ 4096 ∧ 1 ≤ 2 ^ t := ⟨Nat.pow_le_pow_right (by decide) h, Nat.one_le_two_pow⟩
theorem ctL_lt {R : Nat → Nat → Nat} {M a th : Nat} (hM : M ≤ 12) (ht : th < 4096) : ∀ i, ctL R M a th i < 4096
  | 0 => ht
  | i + 1 => by
    have := pow12 hM
    unfold ctL; split
    · omega
    · exact ctL_lt hM ht i
def dnI (n i : Nat) : Int32 := if i < n then nI (n - 1 - i) else -1
theorem dnI_s {n i : Nat} (h : i < n) : nI (n - 1 - i) + Int32.ofInt (-1) = dnI n (i + 1) := by
  unfold dnI
  by_cases h2 : i + 1 < n
  · rw [if_pos h2, show n - 1 - i = (n - 1 - (i + 1)) + 1 by omega]
    exact pk_m1 _
  · rw [if_neg h2, show n - 1 - i = 0 by omega]
    rfl
set_option maxHeartbeats 4000000 in
set_option maxRecDepth 20000 in
theorem ct_X9_cut (l : Launch) (R : Nat → Nat → Nat) (F : Nat → Nat) (L : Nat → Int64) (h : MdOK R F) (x y : Int32) : Ct l 3 yX9_cut cX9_cut 8 (some .int) [.ref 0, .int x, .int y] (mdW R F L) (RV (.int (mCut R F x y)) (mdW R F L)) := by
  refine Ct.of (by decide) (Nat.le_of_ble_eq_true rfl) (fun K hC hR => ?_)
  show K 0 [(0, .ref 0), (1, .int x), (2, .int y)] [] _
  have h8 := h.2.1
  have h12 := h.2.2.1
  have hp := pow12 h12
  refine hC.aload_n dX9_cut_0 rfl ?_
  refine hC.iload_n dX9_cut_1 rfl ?_
  refine hC.rdV [0, 1, 2, 3, 4, 5, 6, 7, 8, 9, 10, 11, 12, 13, 14, 15, 16, 17, 18, 19, 20, 21, 22, 23, 24, 25] dX9_cut_2 lmX9_212 mkX9_isStrip svX9_isStrip (ct_X9_isStrip l R F L (by omega) x) ⟨Nat.le_of_ble_eq_true rfl, Nat.le_of_ble_eq_true rfl⟩ rfl rfl (Nat.le_of_ble_eq_true rfl) ⟨by decide, rfl⟩ rfl rfl ?_
  refine hC.bnz dX9_cut_5 (tgt := 11) rfl (fun c1 => ?_) (fun c1 => ?_)
  · obtain ⟨a, ha, rfl⟩ := inB_of c1 (by omega)
    have hix : ix (nI a) = a := nI_clamp (by omega)
    rw [mCut, if_pos c1, hix] at hR
    refine hC.iload_n dX9_cut_11 rfl ?_
    refine hC.i2l dX9_cut_12 ?_
    refine hC.lconst dX9_cut_13 (v := lN 0) rfl ?_
    refine hC.lconst dX9_cut_14 (v := lN 1) rfl ?_
    refine hC.rdS [] dX9_cut_15 lmX9_92 mkX9_in sxX9_in (ct_X9_in l y.toInt64 (lN 0) (lN 1)) ⟨Nat.le_of_ble_eq_true rfl, Nat.le_of_ble_eq_true rfl⟩ rfl rfl (Nat.le_of_ble_eq_true rfl) ⟨by decide, rfl⟩ ?_
    rw [in_R (by decide)]
    refine hC.bnz dX9_cut_18 (tgt := 24) rfl (fun c2 => ?_) (fun c2 => ?_)
    · obtain ⟨k, hk, rfl⟩ := inR_of (by decide) c2
      have hiy : ix (nI k) = k := nI_clamp (by omega)
      rw [if_pos c2, hiy] at hR
      have hm := thF_lt (stM R F) 0
      have hcb : ctB R F a = if (flyF (EM R) 20 (thF (stM R F) 0)).testBit a = true then ctL R (F 8) a (thF (stM R F) 0) (2 ^ F 8) else 0 := rfl
      refine hC.aload_n dX9_cut_24 rfl ?_
      refine hC.iconst dX9_cut_25 (v := nI 0) rfl ?_
      refine hC.rdV [0, 1, 2, 3, 4, 5, 6, 7, 8, 9, 10, 11, 12, 13, 14, 15, 16, 17, 18, 19, 20, 21, 22, 23, 24, 25] dX9_cut_26 lmX9_198 mkX9_there svX9_there (ct_X9_there l R F L h 0 (by decide)) ⟨Nat.le_of_ble_eq_true rfl, Nat.le_of_ble_eq_true rfl⟩ rfl rfl (Nat.le_of_ble_eq_true rfl) ⟨by decide, rfl⟩ rfl rfl ?_
      have hv : ∀ s, (thF (stM R F) 0).testBit s = true → vS F s := fun s hs => Or.inl (thF_v hs)
      generalize hmg : thF (stM R F) 0 = m at hm hcb hv ⊢
      have hff := flyF_lt (EM R) 20 m
      refine hC.istore_n dX9_cut_29 (by decide) ?_
      refine hC.iload_n dX9_cut_30 rfl ?_
      refine hC.istore dX9_cut_31 (by decide) ?_
      refine hC.aload_n dX9_cut_33 rfl ?_
      refine hC.iload_n dX9_cut_34 rfl ?_
      refine hC.rdV [0, 1, 2, 3, 4, 5, 6, 7, 8, 9, 10, 11, 12, 13, 14, 15, 16, 17, 18, 19, 20, 21, 22, 23, 24, 25] dX9_cut_35 lmX9_223 mkX9_flying svX9_flying (ct_X9_flying l R F L h m (by omega) hv) ⟨Nat.le_of_ble_eq_true rfl, Nat.le_of_ble_eq_true rfl⟩ rfl rfl (Nat.le_of_ble_eq_true rfl) ⟨by decide, rfl⟩ rfl rfl ?_
      refine hC.iload_n dX9_cut_38 rfl ?_
      refine hC.ishr dX9_cut_39 ?_
      refine hC.iconst dX9_cut_40 (v := nI 1) rfl ?_
      refine hC.iand dX9_cut_41 ?_
      rw [nI_bit (by omega) (by omega)]
      generalize hfl : (flyF (EM R) 20 m).testBit a = fl at hcb ⊢
      have tail : ∀ b, ctB R F a = (if fl = true then b else 0) → b < 4096 → ∀ z, K 139 [(0, .ref 0), (1, .int (nI a)), (2, .int (nI k)), (3, .int (nI m)), (4, .int (nI b)), (5, .int (nI fl.toNat)), (6, .int z)] [] (mdW R F L) := by
        intro b hb hb2 z
        have k150 : ∀ v, v = ctB R F a → v < 4096 → K 150 [(0, .ref 0), (1, .int (nI a)), (2, .int (nI k)), (3, .int (nI m)), (4, .int (nI b)), (5, .int (nI fl.toNat)), (6, .int z)] [.int (nI v)] (mdW R F L) := by
          intro v hv hv2
          rw [← hv] at hR
          refine hC.istore dX9_cut_150 (by decide) ?_
          refine hC.iload_n dX9_cut_152 rfl ?_
          refine hC.nnz (by omega) dX9_cut_153 (tgt := 164) rfl (fun c3 => ?_) (fun c3 => ?_)
          · rw [if_neg c3] at hR
            refine hC.iload dX9_cut_164 rfl ?_
            exact hR.ireturn dX9_cut_166 ⟨rfl, rfl⟩
          · rw [if_pos c3] at hR
            refine hC.iload dX9_cut_156 rfl ?_
            refine hC.rdS [] dX9_cut_158 lmX9_231 mkX9_size sxX9_size (ct_X9_size l v hv2) ⟨Nat.le_of_ble_eq_true rfl, Nat.le_of_ble_eq_true rfl⟩ rfl rfl (Nat.le_of_ble_eq_true rfl) ⟨by decide, rfl⟩ ?_
            refine hC.goto dX9_cut_161 (tgt := 166) rfl ?_
            exact hR.ireturn dX9_cut_166 ⟨rfl, rfl⟩
        refine hC.iload dX9_cut_139 rfl ?_
        refine hC.bz dX9_cut_141 (tgt := 149) rfl (fun c4 => ?_) (fun c4 => ?_)
        · refine hC.iconst dX9_cut_149 (v := nI 0) rfl ?_
          exact k150 0 (by rw [hb, if_neg (by simp [c4])]) (by omega)
        · refine hC.iload dX9_cut_144 rfl ?_
          refine hC.goto dX9_cut_146 (tgt := 150) rfl ?_
          exact k150 b (by rw [hb, if_pos c4]) hb2
      have k51 : K 51 [(0, .ref 0), (1, .int (nI a)), (2, .int (nI k)), (3, .int (nI m)), (4, .int (nI m))] [.int (nI fl.toNat)] (mdW R F L) := by
        have loop : ∀ i, i ≤ 2 ^ F 8 → K 63 [(0, .ref 0), (1, .int (nI a)), (2, .int (nI k)), (3, .int (nI m)), (4, .int (nI (ctL R (F 8) a m i))), (5, .int (nI fl.toNat)), (6, .int (dnI (2 ^ F 8) i))] [] (mdW R F L) := by
          refine loopUp1 _ (2 ^ F 8) ?_ (fun i hi ih => ?_)
          · have hcl := ctL_lt (R := R) (a := a) h12 hm (2 ^ F 8)
            have e : dnI (2 ^ F 8) (2 ^ F 8) = -1 := by simp [dnI]
            rw [e]
            refine hC.iload dX9_cut_63 rfl ?_
            refine hC.if_lt dX9_cut_65 (tgt := 139) rfl (fun _ => ?_) (fun c => absurd (by decide) c)
            exact tail _ hcb hcl _
          · have hcl := ctL_lt (R := R) (a := a) h12 hm i
            have e : dnI (2 ^ F 8) i = nI (2 ^ F 8 - 1 - i) := by simp [dnI, hi]
            have hst : ctL R (F 8) a m (i + 1) = if andn (2 ^ F 8 - 1 - i) m = 0 ∧ cd (2 ^ F 8 - 1 - i) ≤ cd (ctL R (F 8) a m i) ∧ (flyF (EM R) 20 (andn m (2 ^ F 8 - 1 - i))).testBit a = false then 2 ^ F 8 - 1 - i else ctL R (F 8) a m i := rfl
            rw [← dnI_s hi] at ih
            rw [e]
            generalize hsg : 2 ^ F 8 - 1 - i = st at hst ih ⊢
            have hst2 : st < 4096 := by omega
            generalize hbg : ctL R (F 8) a m i = b at hst hcl ⊢
            have hcd1 := cd_le st
            have hcd2 := cd_le b
            have hfl2 := flyF_lt (EM R) 20 (andn m st)
            refine hC.iload dX9_cut_63 rfl ?_
            refine hC.z_lt (by omega) dX9_cut_65 (tgt := 139) rfl ?_
            refine hC.iload dX9_cut_68 rfl ?_
            refine hC.bz dX9_cut_70 (tgt := 139) rfl (fun c5 => ?_) (fun c5 => ?_)
            · exact tail b (by rw [hcb, if_neg (by simp [c5]), if_neg (by simp [c5])]) hcl _
            · have fin : ∀ p : Bool, p = decide (andn st m = 0 ∧ cd st ≤ cd b ∧ (flyF (EM R) 20 (andn m st)).testBit a = false) → K 117 [(0, .ref 0), (1, .int (nI a)), (2, .int (nI k)), (3, .int (nI m)), (4, .int (nI b)), (5, .int (nI fl.toNat)), (6, .int (nI st))] [.int (nI p.toNat)] (mdW R F L) := by
                intro p hpp
                refine hC.istore dX9_cut_117 (by decide) ?_
                refine hC.iload dX9_cut_119 rfl ?_
                refine hC.bz dX9_cut_121 (tgt := 129) rfl (fun c6 => ?_) (fun c6 => ?_)
                · rw [hpp] at c6
                  rw [hst, if_neg (of_decide_eq_false c6)] at ih
                  refine hC.iload dX9_cut_129 rfl ?_
                  refine hC.istore dX9_cut_131 (by decide) ?_
                  refine hC.iinc dX9_cut_133 rfl rfl (by decide) ?_
                  refine hC.goto dX9_cut_136 (tgt := 63) rfl ?_
                  exact hC.loc rfl ih
                · rw [hpp] at c6
                  rw [hst, if_pos (of_decide_eq_true c6)] at ih
                  refine hC.iload dX9_cut_124 rfl ?_
                  refine hC.goto dX9_cut_126 (tgt := 131) rfl ?_
                  refine hC.istore dX9_cut_131 (by decide) ?_
                  refine hC.iinc dX9_cut_133 rfl rfl (by decide) ?_
                  refine hC.goto dX9_cut_136 (tgt := 63) rfl ?_
                  exact hC.loc rfl ih
              refine hC.iload dX9_cut_73 rfl ?_
              refine hC.iload_n dX9_cut_75 rfl ?_
              refine hC.iconst dX9_cut_76 (v := (-1)) rfl ?_
              refine hC.ixor dX9_cut_77 ?_
              refine hC.iand dX9_cut_78 ?_
              rw [nI_andn]
              refine hC.nnz (andn_b (by omega)) dX9_cut_79 (tgt := 116) rfl (fun c7 => ?_) (fun c7 => ?_)
              · refine hC.iconst dX9_cut_116 (v := nI 0) rfl ?_
                exact fin false (decide_eq_false (fun z => c7 z.1)).symm
              · refine hC.iload dX9_cut_82 rfl ?_
                refine hC.rdS [] dX9_cut_84 lmX9_231 mkX9_size sxX9_size (ct_X9_size l st hst2) ⟨Nat.le_of_ble_eq_true rfl, Nat.le_of_ble_eq_true rfl⟩ rfl rfl (Nat.le_of_ble_eq_true rfl) ⟨by decide, rfl⟩ ?_
                refine hC.iload dX9_cut_87 rfl ?_
                refine hC.rdS [] dX9_cut_89 lmX9_231 mkX9_size sxX9_size (ct_X9_size l b hcl) ⟨Nat.le_of_ble_eq_true rfl, Nat.le_of_ble_eq_true rfl⟩ rfl rfl (Nat.le_of_ble_eq_true rfl) ⟨by decide, rfl⟩ ?_
                refine hC.n_gt (by omega) (by omega) dX9_cut_92 (tgt := 116) rfl (fun c8 => ?_) (fun c8 => ?_)
                · refine hC.iconst dX9_cut_116 (v := nI 0) rfl ?_
                  exact fin false (decide_eq_false (fun z => by have := z.2.1; omega)).symm
                · refine hC.aload_n dX9_cut_95 rfl ?_
                  refine hC.iload_n dX9_cut_96 rfl ?_
                  refine hC.iload dX9_cut_97 rfl ?_
                  refine hC.iconst dX9_cut_99 (v := (-1)) rfl ?_
                  refine hC.ixor dX9_cut_100 ?_
                  refine hC.iand dX9_cut_101 ?_
                  rw [nI_andn]
                  refine hC.rdV [0, 1, 2, 3, 4, 5, 6, 7, 8, 9, 10, 11, 12, 13, 14, 15, 16, 17, 18, 19, 20, 21, 22, 23, 24, 25] dX9_cut_102 lmX9_223 mkX9_flying svX9_flying (ct_X9_flying l R F L h (andn m st) (andn_b (by omega)) (fun s hs => hv s (andn_v hs))) ⟨Nat.le_of_ble_eq_true rfl, Nat.le_of_ble_eq_true rfl⟩ rfl rfl (Nat.le_of_ble_eq_true rfl) ⟨by decide, rfl⟩ rfl rfl ?_
                  refine hC.iload_n dX9_cut_105 rfl ?_
                  refine hC.ishr dX9_cut_106 ?_
                  refine hC.iconst dX9_cut_107 (v := nI 1) rfl ?_
                  refine hC.iand dX9_cut_108 ?_
                  rw [nI_bit (by omega) (by omega)]
                  refine hC.bnz dX9_cut_109 (tgt := 116) rfl (fun c9 => ?_) (fun c9 => ?_)
                  · refine hC.iconst dX9_cut_116 (v := nI 0) rfl ?_
                    exact fin false (decide_eq_false (fun z => by rw [c9] at z; exact absurd z.2.2 (by decide))).symm
                  · refine hC.iconst dX9_cut_112 (v := nI 1) rfl ?_
                    refine hC.goto dX9_cut_113 (tgt := 117) rfl ?_
                    exact fin true (decide_eq_true ⟨c7, c8, c9⟩).symm
        refine hC.istore dX9_cut_51 (by decide) ?_
        refine hC.iconst dX9_cut_53 (v := nI 1) rfl ?_
        refine hC.aload_n dX9_cut_54 rfl ?_
        refine hC.getfield dX9_cut_55 lfX9_186 rfl rfl ?_
        refine hC.ishl dX9_cut_58 ?_
        rw [nI_shl (by omega), Nat.one_mul]
        refine hC.iconst dX9_cut_59 (v := nI 1) rfl ?_
        refine hC.isub dX9_cut_60 ?_
        rw [pk_sub hp.2]
        refine hC.istore dX9_cut_61 (by decide) ?_
        have l0 := loop 0 (by omega)
        rw [show dnI (2 ^ F 8) 0 = nI (2 ^ F 8 - 1) by unfold dnI; rw [if_pos (by omega)]; rfl] at l0
        exact hC.loc rfl l0
      refine hC.iconst dX9_cut_42 (v := nI 1) rfl ?_
      refine hC.b1_ne dX9_cut_43 (tgt := 50) rfl (fun c3 => ?_) (fun c3 => ?_)
      · subst c3
        refine hC.iconst dX9_cut_50 (v := nI 0) rfl ?_
        exact hC.loc rfl k51
      · subst c3
        refine hC.iconst dX9_cut_46 (v := nI 1) rfl ?_
        refine hC.goto dX9_cut_47 (tgt := 51) rfl ?_
        exact hC.loc rfl k51
    · rw [if_neg (by simp [c2])] at hR
      refine hC.ldc dX9_cut_21 lcX9_96 ?_
      exact hR.ireturn dX9_cut_23 ⟨rfl, rfl⟩
  · rw [mCut, if_neg (by simp [c1])] at hR
    refine hC.ldc dX9_cut_8 lcX9_205 ?_
    exact hR.ireturn dX9_cut_10 ⟨rfl, rfl⟩
