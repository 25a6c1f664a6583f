/-! StripFlagModel: thread -/
def tmF (R : Nat → Nat → Nat) (i : Nat) : Nat → Nat := sm (fun k => (i.testBit k).toNat * R 14 (12 + k))
noncomputable def mtL (R : Nat → Nat → Nat) (F : Nat → Nat) (m n : Nat) : Nat → Nat × Nat
  | 0 => (NN, 0)
  | i + 1 => if ((mtL R F m n i).1 = NN ∨ tmF R i (F 9) < (mtL R F m n i).2) ∧ dlB R (2 ^ F 7 - 1) (m ||| i * 2 ^ 12) (andn (m ||| i * 2 ^ 12) (F 10)) n = true then (i, tmF R i (F 9)) else mtL R F m n i
theorem tmF_le {R : Nat → Nat → Nat} {F : Nat → Nat} (h : MdOK R F) (i : Nat) : tmF R i (F 9) ≤ 1048568 := by
  have h1 := sm_le (f := fun k => (i.testBit k).toNat * R 14 (12 + k)) (b := 131071) (fun s => by
    have := h.2.2.2.2.2.2.2.2.2.1 (12 + s)
    cases i.testBit s
    · simp
    · have : R 14 (12 + s) ≤ 131071 := by omega
      simpa using this) (F 9)
  have h2 := h.2.2.2.1
  unfold tmF
  omega
theorem mtL_lt {R : Nat → Nat → Nat} {F : Nat → Nat} (h : MdOK R F) (m n : Nat) : ∀ i, ((mtL R F m n i).1 < i ∨ (mtL R F m n i).1 = NN) ∧ (mtL R F m n i).2 ≤ 1048568
  | 0 => ⟨Or.inr rfl, Nat.zero_le _⟩
  | i + 1 => by
    have h1 := mtL_lt h m n i
    have h2 := tmF_le h i
    unfold mtL; split
    · exact ⟨Or.inl (Nat.lt_succ_self i), h2⟩
    · exact ⟨by omega, by omega⟩
noncomputable def mThread (R : Nat → Nat → Nat) (F : Nat → Nat) (x y : Int32) : Int32 := if (inR x 2 && inR y 1) = true then (if (mtL R F (thF (stM R F) 0) (ix x) (2 ^ F 9)).1 = NN then nI NN else if ix y = 0 then nI (mtL R F (thF (stM R F) 0) (ix x) (2 ^ F 9)).2 else nI (mtL R F (thF (stM R F) 0) (ix x) (2 ^ F 9)).1) else cO
set_option maxHeartbeats 4000000 in
set_option maxRecDepth 20000 in
theorem ct_X9_thread (l : Launch) (R : Nat → Nat → Nat) (F : Nat → Nat) (L : Nat → Int64) (h : MdOK R F) (x y : Int32) : Ct l 3 yX9_thread cX9_thread 9 (some .int) [.ref 0, .int x, .int y] (mdW R F L) (RV (.int (mThread R F x y)) (mdW R F L)) := by
  refine Ct.of (by decide) (Nat.le_of_ble_eq_true rfl) (fun K hC hR => ?_)
  show K 0 [(0, .ref 0), (1, .int x), (2, .int y)] [] _
  have h8 := h.2.1
  have hU := h.2.2.2.1
  have hp := pow8 h8
  have hp2 := pow8 hU
  have hh := h.2.2.2.2.1
  have bad : ¬ (inR x 2 && inR y 1) = true → K 22 [(0, .ref 0), (1, .int x), (2, .int y)] [] (mdW R F L) := by
    intro hne
    rw [mThread, if_neg hne] at hR
    refine hC.ldc dX9_thread_22 lcX9_96 ?_
    exact hR.ireturn dX9_thread_24 ⟨rfl, rfl⟩
  refine hC.iload_n dX9_thread_0 rfl ?_
  refine hC.i2l dX9_thread_1 ?_
  refine hC.lconst dX9_thread_2 (v := lN 0) rfl ?_
  refine hC.ldc2_w (v := lN 2) dX9_thread_3 lcX9_258 ?_
  refine hC.rdS [] dX9_thread_6 lmX9_92 mkX9_in sxX9_in (ct_X9_in l x.toInt64 (lN 0) (lN 2)) ⟨Nat.le_of_ble_eq_true rfl, Nat.le_of_ble_eq_true rfl⟩ rfl rfl (Nat.le_of_ble_eq_true rfl) ⟨by decide, rfl⟩ ?_
  rw [in_R (by decide)]
  refine hC.bz dX9_thread_9 (tgt := 22) rfl (fun c1 => ?_) (fun c1 => ?_)
  · exact bad (by simp [c1])
  · refine hC.iload_n dX9_thread_12 rfl ?_
    refine hC.i2l dX9_thread_13 ?_
    refine hC.lconst dX9_thread_14 (v := lN 0) rfl ?_
    refine hC.lconst dX9_thread_15 (v := lN 1) rfl ?_
    refine hC.rdS [] dX9_thread_16 lmX9_92 mkX9_in sxX9_in (ct_X9_in l y.toInt64 (lN 0) (lN 1)) ⟨Nat.le_of_ble_eq_true rfl, Nat.le_of_ble_eq_true rfl⟩ rfl rfl (Nat.le_of_ble_eq_true rfl) ⟨by decide, rfl⟩ ?_
    rw [in_R (by decide)]
    refine hC.bnz dX9_thread_19 (tgt := 25) rfl (fun c2 => ?_) (fun c2 => ?_)
    · obtain ⟨n, hn, rfl⟩ := inR_of (by decide) c1
      obtain ⟨k, hk, rfl⟩ := inR_of (by decide) c2
      have hix : ix (nI n) = n := nI_clamp (by omega)
      have hiy : ix (nI k) = k := nI_clamp (by omega)
      rw [mThread, if_pos (by simp [c1, c2]), hix, hiy] at hR
      have hm := thF_lt (stM R F) 0
      refine hC.aload_n dX9_thread_25 rfl ?_
      refine hC.iconst dX9_thread_26 (v := nI 0) rfl ?_
      refine hC.rdV [0, 1, 2, 3, 4, 5, 6, 7, 8, 9, 10, 11, 12, 13, 14, 15, 16, 17, 18, 19, 20, 21, 22, 23, 24, 25] dX9_thread_27 lmX9_198 mkX9_there svX9_there (ct_X9_there l R F L h 0 (by decide)) ⟨Nat.le_of_ble_eq_true rfl, Nat.le_of_ble_eq_true rfl⟩ rfl rfl (Nat.le_of_ble_eq_true rfl) ⟨by decide, rfl⟩ rfl rfl ?_
      have hva : ∀ i, i < 2 ^ F 9 → ∀ s, (thF (stM R F) 0 ||| i * 2 ^ 12).testBit s = true → vS F s := fun i hi s hs => by
        rw [Nat.testBit_or, Bool.or_eq_true] at hs
        rcases hs with hs | hs
        · exact Or.inl (thF_v hs)
        · rw [Nat.testBit_mul_two_pow] at hs
          simp only [Bool.and_eq_true, decide_eq_true_eq] at hs
          refine Or.inr ⟨hs.1, ?_⟩
          apply Classical.byContradiction
          intro hn
          rw [tb_lt (n := F 9) hi (by omega)] at hs
          exact absurd hs.2 (by decide)
      generalize hmg : thF (stM R F) 0 = m at hm hR hva ⊢
      refine hC.istore_n dX9_thread_30 (by decide) ?_
      refine hC.iconst dX9_thread_31 (v := (-1)) rfl ?_
      rw [m1_nI]
      refine hC.istore dX9_thread_32 (by decide) ?_
      refine hC.iconst dX9_thread_34 (v := nI 0) rfl ?_
      refine hC.istore dX9_thread_35 (by decide) ?_
      refine hC.iconst dX9_thread_37 (v := nI 0) rfl ?_
      refine hC.istore dX9_thread_38 (by decide) ?_
      have loop : ∀ i, i ≤ 2 ^ F 9 → K 40 [(0, .ref 0), (1, .int (nI n)), (2, .int (nI k)), (3, .int (nI m)), (4, .int (nI (mtL R F m n i).1)), (5, .int (nI (mtL R F m n i).2)), (6, .int (nI i))] [] (mdW R F L) := by
        refine loopUp1 _ (2 ^ F 9) ?_ (fun i hi ih => ?_)
        · obtain ⟨hl1, hl2⟩ := mtL_lt h m n (2 ^ F 9)
          refine hC.iload dX9_thread_40 rfl ?_
          refine hC.iconst dX9_thread_42 (v := nI 1) rfl ?_
          refine hC.aload_n dX9_thread_43 rfl ?_
          refine hC.getfield dX9_thread_44 lfX9_189 rfl rfl ?_
          refine hC.ishl dX9_thread_47 ?_
          rw [nI_shl (by omega), Nat.one_mul]
          refine hC.n_ge (by omega) (by omega) dX9_thread_48 (tgt := 158) rfl (fun c => ?_) (fun c => ?_)
          · refine hC.iload dX9_thread_158 rfl ?_
            refine hC.iconst dX9_thread_160 (v := (-1)) rfl ?_
            refine hC.icmp_ne dX9_thread_161 (tgt := 168) rfl (fun c3 => ?_) (fun c3 => ?_)
            · have c3 : ¬ (mtL R F m n (2 ^ F 9)).1 = NN := fun z => c3 ((nn_eq (x := (mtL R F m n (2 ^ F 9)).1) (by omega)).mpr z)
              rw [if_neg c3] at hR
              refine hC.iload_n dX9_thread_168 rfl ?_
              refine hC.nnz (by omega) dX9_thread_169 (tgt := 177) rfl (fun c4 => ?_) (fun c4 => ?_)
              · rw [if_neg c4] at hR
                refine hC.iload dX9_thread_177 rfl ?_
                exact hR.ireturn dX9_thread_179 ⟨rfl, rfl⟩
              · rw [if_pos c4] at hR
                refine hC.iload dX9_thread_172 rfl ?_
                refine hC.goto dX9_thread_174 (tgt := 179) rfl ?_
                exact hR.ireturn dX9_thread_179 ⟨rfl, rfl⟩
            · have c3 := (nn_eq (x := (mtL R F m n (2 ^ F 9)).1) (by omega)).mp c3
              rw [if_pos c3] at hR
              refine hC.iconst dX9_thread_164 (v := (-1)) rfl ?_
              rw [m1_nI]
              refine hC.goto dX9_thread_165 (tgt := 179) rfl ?_
              exact hR.ireturn dX9_thread_179 ⟨rfl, rfl⟩
          · omega
        · obtain ⟨hl1, hl2⟩ := mtL_lt h m n i
          have hts := tmF_le h i
          have hst : mtL R F m n (i + 1) = if ((mtL R F m n i).1 = NN ∨ tmF R i (F 9) < (mtL R F m n i).2) ∧ dlB R (2 ^ F 7 - 1) (m ||| i * 2 ^ 12) (andn (m ||| i * 2 ^ 12) (F 10)) n = true then (i, tmF R i (F 9)) else mtL R F m n i := rfl
          have hall : m ||| i * 2 ^ 12 < 2 ^ 20 := or_b 20 (by omega) (by omega)
          generalize hbg : mtL R F m n i = b at hl1 hl2 hst ⊢
          have k117 : (b.1 = NN ∨ tmF R i (F 9) < b.2) → K 117 [(0, .ref 0), (1, .int (nI n)), (2, .int (nI k)), (3, .int (nI m)), (4, .int (nI b.1)), (5, .int (nI b.2)), (6, .int (nI i)), (7, .int (nI (tmF R i (F 9)))), (8, .int (nI (m ||| i * 2 ^ 12)))] [] (mdW R F L) := by
            intro g1
            refine hC.aload_n dX9_thread_117 rfl ?_
            refine hC.iconst dX9_thread_118 (v := nI 1) rfl ?_
            refine hC.aload_n dX9_thread_119 rfl ?_
            refine hC.getfield dX9_thread_120 lfX9_180 rfl rfl ?_
            refine hC.ishl dX9_thread_123 ?_
            rw [nI_shl (by omega), Nat.one_mul]
            refine hC.iconst dX9_thread_124 (v := nI 1) rfl ?_
            refine hC.isub dX9_thread_125 ?_
            rw [pk_sub hp.2]
            refine hC.iload dX9_thread_126 rfl ?_
            refine hC.iload dX9_thread_128 rfl ?_
            refine hC.aload_n dX9_thread_130 rfl ?_
            refine hC.getfield dX9_thread_131 lfX9_192 rfl rfl ?_
            refine hC.iconst dX9_thread_134 (v := (-1)) rfl ?_
            refine hC.ixor dX9_thread_135 ?_
            refine hC.iand dX9_thread_136 ?_
            rw [nI_andn]
            refine hC.iload_n dX9_thread_137 rfl ?_
            refine hC.rdV [0, 1, 2, 3, 4, 5, 6, 7, 8, 9, 10, 11, 12, 13, 14, 15, 16, 17, 18, 19, 20, 21, 22, 23, 24, 25] dX9_thread_138 lmX9_255 mkX9_doLast svX9_doLast (ct_X9_doLast l R F L h (2 ^ F 7 - 1) (m ||| i * 2 ^ 12) (andn (m ||| i * 2 ^ 12) (F 10)) n (by omega) hall (andn_b hall) (by omega) (hva i hi)) ⟨Nat.le_of_ble_eq_true rfl, Nat.le_of_ble_eq_true rfl⟩ rfl rfl (Nat.le_of_ble_eq_true rfl) ⟨by decide, rfl⟩ rfl rfl ?_
            refine hC.bz dX9_thread_141 (tgt := 152) rfl (fun c4 => ?_) (fun c4 => ?_)
            · rw [hst, if_neg (fun z => by rw [c4] at z; exact absurd z.2 (by decide))] at ih
              refine hC.iinc dX9_thread_152 rfl (nI_1 _) (by decide) ?_
              refine hC.goto dX9_thread_155 (tgt := 40) rfl ?_
              exact hC.loc rfl ih
            · rw [hst, if_pos ⟨g1, c4⟩] at ih
              refine hC.iload dX9_thread_144 rfl ?_
              refine hC.istore dX9_thread_146 (by decide) ?_
              refine hC.iload dX9_thread_148 rfl ?_
              refine hC.istore dX9_thread_150 (by decide) ?_
              refine hC.iinc dX9_thread_152 rfl (nI_1 _) (by decide) ?_
              refine hC.goto dX9_thread_155 (tgt := 40) rfl ?_
              exact hC.loc rfl ih
          have inner : ∀ j, j ≤ F 9 → K 57 [(0, .ref 0), (1, .int (nI n)), (2, .int (nI k)), (3, .int (nI m)), (4, .int (nI b.1)), (5, .int (nI b.2)), (6, .int (nI i)), (7, .int (nI (tmF R i j))), (8, .int (nI j))] [] (mdW R F L) := by
            refine loopUp1 _ (F 9) ?_ (fun j hj ih2 => ?_)
            · refine hC.iload dX9_thread_57 rfl ?_
              refine hC.aload_n dX9_thread_59 rfl ?_
              refine hC.getfield dX9_thread_60 lfX9_189 rfl rfl ?_
              refine hC.n_ge (by omega) (by omega) dX9_thread_63 (tgt := 95) rfl (fun c => ?_) (fun c => ?_)
              · refine hC.iload_n dX9_thread_95 rfl ?_
                refine hC.iload dX9_thread_96 rfl ?_
                refine hC.bipush dX9_thread_98 (v := nI 12) rfl ?_
                refine hC.ishl dX9_thread_100 ?_
                rw [nI_shl (by decide)]
                refine hC.ior dX9_thread_101 ?_
                rw [nI_or]
                refine hC.istore dX9_thread_102 (by decide) ?_
                refine hC.iload dX9_thread_104 rfl ?_
                refine hC.iconst dX9_thread_106 (v := (-1)) rfl ?_
                refine hC.icmp_eq dX9_thread_107 (tgt := 117) rfl (fun c5 => ?_) (fun c5 => ?_)
                · exact hC.loc rfl (k117 (Or.inl ((nn_eq (by omega)).mp c5)))
                · have c5 : ¬ b.1 = NN := fun z => c5 ((nn_eq (x := b.1) (by omega)).mpr z)
                  refine hC.iload dX9_thread_110 rfl ?_
                  refine hC.iload dX9_thread_112 rfl ?_
                  refine hC.n_ge (by omega) (by omega) dX9_thread_114 (tgt := 152) rfl (fun c6 => ?_) (fun c6 => ?_)
                  · rw [hst, if_neg (fun z => by have := z.1; omega)] at ih
                    refine hC.iinc dX9_thread_152 rfl (nI_1 _) (by decide) ?_
                    refine hC.goto dX9_thread_155 (tgt := 40) rfl ?_
                    exact hC.loc rfl ih
                  · exact hC.loc rfl (k117 (Or.inr c6))
              · omega
            · refine hC.iload dX9_thread_57 rfl ?_
              refine hC.aload_n dX9_thread_59 rfl ?_
              refine hC.getfield dX9_thread_60 lfX9_189 rfl rfl ?_
              refine hC.n_ge (by omega) (by omega) dX9_thread_63 (tgt := 95) rfl (fun c => ?_) (fun c => ?_)
              · omega
              · refine hC.iload dX9_thread_66 rfl ?_
                refine hC.iload dX9_thread_68 rfl ?_
                refine hC.iload dX9_thread_70 rfl ?_
                refine hC.ishr dX9_thread_72 ?_
                refine hC.iconst dX9_thread_73 (v := nI 1) rfl ?_
                refine hC.iand dX9_thread_74 ?_
                rw [nI_bit (by omega) (by omega)]
                refine hC.aload_n dX9_thread_75 rfl ?_
                refine hC.getfield dX9_thread_76 lfX9_49 rfl rfl ?_
                refine hC.bipush dX9_thread_79 (v := nI 12) rfl ?_
                refine hC.iload dX9_thread_81 rfl ?_
                refine hC.iadd dX9_thread_83 ?_
                rw [nI_add]
                refine hC.iaN dX9_thread_84 rfl ⟨by omega, by decide⟩ ?_
                refine hC.imul dX9_thread_85 ?_
                rw [pk_mul]
                refine hC.iadd dX9_thread_86 ?_
                rw [nI_add]
                refine hC.istore dX9_thread_87 (by decide) ?_
                refine hC.iinc dX9_thread_89 rfl (nI_1 _) (by decide) ?_
                refine hC.goto dX9_thread_92 (tgt := 57) rfl ?_
                exact hC.loc rfl ih2
          refine hC.iload dX9_thread_40 rfl ?_
          refine hC.iconst dX9_thread_42 (v := nI 1) rfl ?_
          refine hC.aload_n dX9_thread_43 rfl ?_
          refine hC.getfield dX9_thread_44 lfX9_189 rfl rfl ?_
          refine hC.ishl dX9_thread_47 ?_
          rw [nI_shl (by omega), Nat.one_mul]
          refine hC.n_ge (by omega) (by omega) dX9_thread_48 (tgt := 158) rfl (fun c => ?_) (fun c => ?_)
          · omega
          · refine hC.iconst dX9_thread_51 (v := nI 0) rfl ?_
            refine hC.istore dX9_thread_52 (by decide) ?_
            refine hC.iconst dX9_thread_54 (v := nI 0) rfl ?_
            refine hC.istore dX9_thread_55 (by decide) ?_
            exact hC.loc rfl (inner 0 (by omega))
      exact hC.loc rfl (loop 0 (by omega))
    · exact bad (by simp [c2])
