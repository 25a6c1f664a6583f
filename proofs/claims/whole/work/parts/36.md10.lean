/-! StripFlagModel: hems -/
noncomputable def mhL (R : Nat → Nat → Nat) (t m fr n : Nat) : Nat → Nat
  | 0 => NN
  | i + 1 => if (andn i fr = 0 ∧ (mhL R t m fr n i = NN ∨ cd i < cd (mhL R t m fr n i))) ∧ dlB R t m (andn fr i) n = true then i else mhL R t m fr n i
theorem mhL_lt (R : Nat → Nat → Nat) (t m fr n : Nat) : ∀ i, mhL R t m fr n i < i ∨ mhL R t m fr n i = NN
  | 0 => Or.inr rfl
  | i + 1 => by
    have := mhL_lt R t m fr n i
    unfold mhL; split <;> omega
noncomputable def mHems (R : Nat → Nat → Nat) (F : Nat → Nat) (x y : Int32) : Int32 := if inB x (2 ^ F 7) = true then (if inL y 1 2 = true then nI (mhL R (ix x) (thF (stM R F) 0) (andn (thF (stM R F) 0) (F 10)) (ix y) (2 ^ F 8)) else cO) else cU
set_option maxHeartbeats 4000000 in
set_option maxRecDepth 20000 in
theorem ct_X9_hems (l : Launch) (R : Nat → Nat → Nat) (F : Nat → Nat) (L : Nat → Int64) (h : MdOK R F) (x y : Int32) : Ct l 3 yX9_hems cX9_hems 7 (some .int) [.ref 0, .int x, .int y] (mdW R F L) (RV (.int (mHems R F x y)) (mdW R F L)) := by
  refine Ct.of (by decide) (Nat.le_of_ble_eq_true rfl) (fun K hC hR => ?_)
  show K 0 [(0, .ref 0), (1, .int x), (2, .int y)] [] _
  have h8 := h.2.1
  have h12 := h.2.2.1
  have hp := pow8 h8
  have hp2 := pow12 h12
  refine hC.aload_n dX9_hems_0 rfl ?_
  refine hC.iload_n dX9_hems_1 rfl ?_
  refine hC.rdV [0, 1, 2, 3, 4, 5, 6, 7, 8, 9, 10, 11, 12, 13, 14, 15, 16, 17, 18, 19, 20, 21, 22, 23, 24, 25] dX9_hems_2 lmX9_252 mkX9_areStrips svX9_areStrips (ct_X9_areStrips l R F L (by omega) x) ⟨Nat.le_of_ble_eq_true rfl, Nat.le_of_ble_eq_true rfl⟩ rfl rfl (Nat.le_of_ble_eq_true rfl) ⟨by decide, rfl⟩ rfl rfl ?_
  refine hC.bnz dX9_hems_5 (tgt := 11) rfl (fun c1 => ?_) (fun c1 => ?_)
  · obtain ⟨a, ha, rfl⟩ := inB_of c1 (by omega)
    have hix : ix (nI a) = a := nI_clamp (by omega)
    rw [mHems, if_pos c1, hix] at hR
    refine hC.iload_n dX9_hems_11 rfl ?_
    refine hC.i2l dX9_hems_12 ?_
    refine hC.lconst dX9_hems_13 (v := lN 1) rfl ?_
    refine hC.ldc2_w (v := lN 2) dX9_hems_14 lcX9_258 ?_
    refine hC.rdS [] dX9_hems_17 lmX9_92 mkX9_in sxX9_in (ct_X9_in l y.toInt64 (lN 1) (lN 2)) ⟨Nat.le_of_ble_eq_true rfl, Nat.le_of_ble_eq_true rfl⟩ rfl rfl (Nat.le_of_ble_eq_true rfl) ⟨by decide, rfl⟩ ?_
    rw [in_L (by decide) (by decide)]
    refine hC.bnz dX9_hems_20 (tgt := 26) rfl (fun c2 => ?_) (fun c2 => ?_)
    · have c1b := c2
      simp only [inL, decide_eq_true_eq] at c1b
      obtain ⟨n, hn31, rfl⟩ := nI_of (x := y) (by rw [lt0_iff]; omega)
      rw [nI_toInt hn31] at c1b
      have hiy : ix (nI n) = n := nI_clamp (by omega)
      rw [if_pos c2, hiy] at hR
      have hm := thF_lt (stM R F) 0
      refine hC.aload_n dX9_hems_26 rfl ?_
      refine hC.iconst dX9_hems_27 (v := nI 0) rfl ?_
      refine hC.rdV [0, 1, 2, 3, 4, 5, 6, 7, 8, 9, 10, 11, 12, 13, 14, 15, 16, 17, 18, 19, 20, 21, 22, 23, 24, 25] dX9_hems_28 lmX9_198 mkX9_there svX9_there (ct_X9_there l R F L h 0 (by decide)) ⟨Nat.le_of_ble_eq_true rfl, Nat.le_of_ble_eq_true rfl⟩ rfl rfl (Nat.le_of_ble_eq_true rfl) ⟨by decide, rfl⟩ rfl rfl ?_
      have hv : ∀ s, (thF (stM R F) 0).testBit s = true → vS F s := fun s hs => Or.inl (thF_v hs)
      generalize hmg : thF (stM R F) 0 = m at hm hR hv ⊢
      refine hC.istore_n dX9_hems_31 (by decide) ?_
      refine hC.iload_n dX9_hems_32 rfl ?_
      refine hC.aload_n dX9_hems_33 rfl ?_
      refine hC.getfield dX9_hems_34 lfX9_192 rfl rfl ?_
      refine hC.iconst dX9_hems_37 (v := (-1)) rfl ?_
      refine hC.ixor dX9_hems_38 ?_
      refine hC.iand dX9_hems_39 ?_
      rw [nI_andn]
      have hfr : andn m (F 10) < 4096 := andn_b hm
      generalize hfg : andn m (F 10) = fr at hfr hR ⊢
      refine hC.istore dX9_hems_40 (by decide) ?_
      refine hC.iconst dX9_hems_42 (v := (-1)) rfl ?_
      rw [m1_nI]
      refine hC.istore dX9_hems_43 (by decide) ?_
      refine hC.iconst dX9_hems_45 (v := nI 0) rfl ?_
      refine hC.istore dX9_hems_46 (by decide) ?_
      have loop : ∀ i, i ≤ 2 ^ F 8 → K 48 [(0, .ref 0), (1, .int (nI a)), (2, .int (nI n)), (3, .int (nI m)), (4, .int (nI fr)), (5, .int (nI (mhL R a m fr n i))), (6, .int (nI i))] [] (mdW R F L) := by
        refine loopUp1 _ (2 ^ F 8) ?_ (fun i hi ih => ?_)
        · refine hC.iload dX9_hems_48 rfl ?_
          refine hC.iconst dX9_hems_50 (v := nI 1) rfl ?_
          refine hC.aload_n dX9_hems_51 rfl ?_
          refine hC.getfield dX9_hems_52 lfX9_186 rfl rfl ?_
          refine hC.ishl dX9_hems_55 ?_
          rw [nI_shl (by omega), Nat.one_mul]
          refine hC.n_ge (by omega) (by omega) dX9_hems_56 (tgt := 120) rfl (fun c => ?_) (fun c => ?_)
          · refine hC.iload dX9_hems_120 rfl ?_
            exact hR.ireturn dX9_hems_122 ⟨rfl, rfl⟩
          · omega
        · have hlt := mhL_lt R a m fr n i
          have hst : mhL R a m fr n (i + 1) = if (andn i fr = 0 ∧ (mhL R a m fr n i = NN ∨ cd i < cd (mhL R a m fr n i))) ∧ dlB R a m (andn fr i) n = true then i else mhL R a m fr n i := rfl
          generalize hbg : mhL R a m fr n i = b at hlt hst ⊢
          have hc1 := cd_le i
          have hc2 := cd_le b
          have k88 : andn i fr = 0 → (b = NN ∨ cd i < cd b) → K 88 [(0, .ref 0), (1, .int (nI a)), (2, .int (nI n)), (3, .int (nI m)), (4, .int (nI fr)), (5, .int (nI b)), (6, .int (nI i))] [] (mdW R F L) := by
            intro g1 g2
            refine hC.aload_n dX9_hems_88 rfl ?_
            refine hC.iload_n dX9_hems_89 rfl ?_
            refine hC.iload_n dX9_hems_90 rfl ?_
            refine hC.iload dX9_hems_91 rfl ?_
            refine hC.iload dX9_hems_93 rfl ?_
            refine hC.iconst dX9_hems_95 (v := (-1)) rfl ?_
            refine hC.ixor dX9_hems_96 ?_
            refine hC.iand dX9_hems_97 ?_
            rw [nI_andn]
            refine hC.iload_n dX9_hems_98 rfl ?_
            refine hC.rdV [0, 1, 2, 3, 4, 5, 6, 7, 8, 9, 10, 11, 12, 13, 14, 15, 16, 17, 18, 19, 20, 21, 22, 23, 24, 25] dX9_hems_99 lmX9_255 mkX9_doLast svX9_doLast (ct_X9_doLast l R F L h a m (andn fr i) n (by omega) (by omega) (andn_b (by omega)) (by omega) hv) ⟨Nat.le_of_ble_eq_true rfl, Nat.le_of_ble_eq_true rfl⟩ rfl rfl (Nat.le_of_ble_eq_true rfl) ⟨by decide, rfl⟩ rfl rfl ?_
            refine hC.bz dX9_hems_102 (tgt := 110) rfl (fun c4 => ?_) (fun c4 => ?_)
            · rw [hst, if_neg (fun z => by rw [c4] at z; exact absurd z.2 (by decide))] at ih
              refine hC.iload dX9_hems_110 rfl ?_
              refine hC.istore dX9_hems_112 (by decide) ?_
              refine hC.iinc dX9_hems_114 rfl (nI_1 _) (by decide) ?_
              refine hC.goto dX9_hems_117 (tgt := 48) rfl ?_
              exact hC.loc rfl ih
            · rw [hst, if_pos ⟨⟨g1, g2⟩, c4⟩] at ih
              refine hC.iload dX9_hems_105 rfl ?_
              refine hC.goto dX9_hems_107 (tgt := 112) rfl ?_
              refine hC.istore dX9_hems_112 (by decide) ?_
              refine hC.iinc dX9_hems_114 rfl (nI_1 _) (by decide) ?_
              refine hC.goto dX9_hems_117 (tgt := 48) rfl ?_
              exact hC.loc rfl ih
          refine hC.iload dX9_hems_48 rfl ?_
          refine hC.iconst dX9_hems_50 (v := nI 1) rfl ?_
          refine hC.aload_n dX9_hems_51 rfl ?_
          refine hC.getfield dX9_hems_52 lfX9_186 rfl rfl ?_
          refine hC.ishl dX9_hems_55 ?_
          rw [nI_shl (by omega), Nat.one_mul]
          refine hC.n_ge (by omega) (by omega) dX9_hems_56 (tgt := 120) rfl (fun c => ?_) (fun c => ?_)
          · omega
          · refine hC.iload dX9_hems_59 rfl ?_
            refine hC.iload dX9_hems_61 rfl ?_
            refine hC.iconst dX9_hems_63 (v := (-1)) rfl ?_
            refine hC.ixor dX9_hems_64 ?_
            refine hC.iand dX9_hems_65 ?_
            rw [nI_andn]
            refine hC.nnz (andn_b (by omega)) dX9_hems_66 (tgt := 114) rfl (fun c3 => ?_) (fun c3 => ?_)
            · rw [hst, if_neg (fun z => c3 z.1.1)] at ih
              refine hC.iinc dX9_hems_114 rfl (nI_1 _) (by decide) ?_
              refine hC.goto dX9_hems_117 (tgt := 48) rfl ?_
              exact hC.loc rfl ih
            · refine hC.iload dX9_hems_69 rfl ?_
              refine hC.iconst dX9_hems_71 (v := (-1)) rfl ?_
              refine hC.icmp_eq dX9_hems_72 (tgt := 88) rfl (fun c5 => ?_) (fun c5 => ?_)
              · exact k88 c3 (Or.inl ((nn_eq (by omega)).mp c5))
              · have c5 : ¬ b = NN := fun z => c5 ((nn_eq (x := b) (by omega)).mpr z)
                refine hC.iload dX9_hems_75 rfl ?_
                refine hC.rdS [] dX9_hems_77 lmX9_231 mkX9_size sxX9_size (ct_X9_size l i (by omega)) ⟨Nat.le_of_ble_eq_true rfl, Nat.le_of_ble_eq_true rfl⟩ rfl rfl (Nat.le_of_ble_eq_true rfl) ⟨by decide, rfl⟩ ?_
                refine hC.iload dX9_hems_80 rfl ?_
                refine hC.rdS [] dX9_hems_82 lmX9_231 mkX9_size sxX9_size (ct_X9_size l b (by omega)) ⟨Nat.le_of_ble_eq_true rfl, Nat.le_of_ble_eq_true rfl⟩ rfl rfl (Nat.le_of_ble_eq_true rfl) ⟨by decide, rfl⟩ ?_
                refine hC.n_ge (by omega) (by omega) dX9_hems_85 (tgt := 114) rfl (fun c6 => ?_) (fun c6 => ?_)
                · rw [hst, if_neg (fun z => by have := z.1.2; omega)] at ih
                  refine hC.iinc dX9_hems_114 rfl (nI_1 _) (by decide) ?_
                  refine hC.goto dX9_hems_117 (tgt := 48) rfl ?_
                  exact hC.loc rfl ih
                · exact k88 c3 (Or.inr c6)
      exact hC.loc rfl (loop 0 (by omega))
    · rw [if_neg (by simp [c2])] at hR
      refine hC.ldc dX9_hems_23 lcX9_96 ?_
      exact hR.ireturn dX9_hems_25 ⟨rfl, rfl⟩
  · rw [mHems, if_neg (by simp [c1])] at hR
    refine hC.ldc dX9_hems_8 lcX9_205 ?_
    exact hR.ireturn dX9_hems_10 ⟨rfl, rfl⟩
