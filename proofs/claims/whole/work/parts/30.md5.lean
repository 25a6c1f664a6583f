/-! StripFlagModel: told, fray, images -/
def sumM (R : Nat → Nat → Nat) : Nat → Nat := sm (fun a => R 8 (R 9 a))
def mTold (R : Nat → Nat → Nat) (F : Nat → Nat) (x : Int32) : Int32 := if x = nI 0 then nI (F 6) else if x = nI 1 then nI (F 7) else if x = nI 2 then nI (F 8) else if x = nI 3 then nI (F 9) else if x = nI 4 then nI (F 0) else if x = nI 5 then nI (thF (stM R F) 0) else if x = nI 6 then nI (F 10) else if x = nI 7 then nI (sumM R (F 7)) else if x = nI 8 then nI (F 14) else cO
set_option maxHeartbeats 4000000 in
set_option maxRecDepth 20000 in
theorem ct_X9_told (l : Launch) (R : Nat → Nat → Nat) (F : Nat → Nat) (L : Nat → Int64) (h : MdOK R F) (hd : ∀ j, R 9 j < 4) (x : Int32) : Ct l 2 yX9_told cX9_told 4 (some .int) [.ref 0, .int x] (mdW R F L) (RV (.int (mTold R F x)) (mdW R F L)) := by
  refine Ct.of (by decide) (Nat.le_of_ble_eq_true rfl) (fun K hC hR => ?_)
  show K 0 [(0, .ref 0), (1, .int x)] [] _
  have h8 := h.2.1
  rw [mTold] at hR
  refine hC.iconst dX9_told_0 (v := nI 0) rfl ?_
  refine hC.istore_n dX9_told_1 (by decide) ?_
  refine hC.iconst dX9_told_2 (v := nI 0) rfl ?_
  refine hC.istore_n dX9_told_3 (by decide) ?_
  have loop : ∀ s, s ≤ F 7 → K 4 [(0, .ref 0), (1, .int x), (2, .int (nI (sumM R s))), (3, .int (nI s))] [] (mdW R F L) := by
    refine loopUp1 _ (F 7) ?_ (fun s hs ih => ?_)
    · refine hC.iload_n dX9_told_4 rfl ?_
      refine hC.aload_n dX9_told_5 rfl ?_
      refine hC.getfield dX9_told_6 lfX9_180 rfl rfl ?_
      refine hC.n_ge (by omega) (by omega) dX9_told_9 (tgt := 32) rfl (fun c => ?_) (fun c => ?_)
      · refine hC.iload_n dX9_told_32 rfl ?_
        by_cases x0 : x = nI 0
        · subst x0
          rw [if_pos rfl] at hR
          refine hC.tabIn dX9_told_33 (off := 51) (tgt := 84) (by decide) (by decide) rfl rfl ?_
          refine hC.aload_n dX9_told_84 rfl ?_
          refine hC.getfield dX9_told_85 lfX9_183 rfl rfl ?_
          exact hR.ireturn dX9_told_88 ⟨rfl, rfl⟩
        rw [if_neg x0] at hR
        by_cases x1 : x = nI 1
        · subst x1
          rw [if_pos rfl] at hR
          refine hC.tabIn dX9_told_33 (off := 56) (tgt := 89) (by decide) (by decide) rfl rfl ?_
          refine hC.aload_n dX9_told_89 rfl ?_
          refine hC.getfield dX9_told_90 lfX9_180 rfl rfl ?_
          exact hR.ireturn dX9_told_93 ⟨rfl, rfl⟩
        rw [if_neg x1] at hR
        by_cases x2 : x = nI 2
        · subst x2
          rw [if_pos rfl] at hR
          refine hC.tabIn dX9_told_33 (off := 61) (tgt := 94) (by decide) (by decide) rfl rfl ?_
          refine hC.aload_n dX9_told_94 rfl ?_
          refine hC.getfield dX9_told_95 lfX9_186 rfl rfl ?_
          exact hR.ireturn dX9_told_98 ⟨rfl, rfl⟩
        rw [if_neg x2] at hR
        by_cases x3 : x = nI 3
        · subst x3
          rw [if_pos rfl] at hR
          refine hC.tabIn dX9_told_33 (off := 66) (tgt := 99) (by decide) (by decide) rfl rfl ?_
          refine hC.aload_n dX9_told_99 rfl ?_
          refine hC.getfield dX9_told_100 lfX9_189 rfl rfl ?_
          exact hR.ireturn dX9_told_103 ⟨rfl, rfl⟩
        rw [if_neg x3] at hR
        by_cases x4 : x = nI 4
        · subst x4
          rw [if_pos rfl] at hR
          refine hC.tabIn dX9_told_33 (off := 71) (tgt := 104) (by decide) (by decide) rfl rfl ?_
          refine hC.aload_n dX9_told_104 rfl ?_
          refine hC.getfield dX9_told_105 lfX9_97 rfl rfl ?_
          exact hR.ireturn dX9_told_108 ⟨rfl, rfl⟩
        rw [if_neg x4] at hR
        by_cases x5 : x = nI 5
        · subst x5
          rw [if_pos rfl] at hR
          refine hC.tabIn dX9_told_33 (off := 76) (tgt := 109) (by decide) (by decide) rfl rfl ?_
          refine hC.aload_n dX9_told_109 rfl ?_
          refine hC.iconst dX9_told_110 (v := nI 0) rfl ?_
          refine hC.rdV [0, 1, 2, 3, 4, 5, 6, 7, 8, 9, 10, 11, 12, 13, 14, 15, 16, 17, 18, 19, 20, 21, 22, 23, 24, 25] dX9_told_111 lmX9_198 mkX9_there svX9_there (ct_X9_there l R F L h 0 (by decide)) ⟨Nat.le_of_ble_eq_true rfl, Nat.le_of_ble_eq_true rfl⟩ rfl rfl (Nat.le_of_ble_eq_true rfl) ⟨by decide, rfl⟩ rfl rfl ?_
          exact hR.ireturn dX9_told_114 ⟨rfl, rfl⟩
        rw [if_neg x5] at hR
        by_cases x6 : x = nI 6
        · subst x6
          rw [if_pos rfl] at hR
          refine hC.tabIn dX9_told_33 (off := 82) (tgt := 115) (by decide) (by decide) rfl rfl ?_
          refine hC.aload_n dX9_told_115 rfl ?_
          refine hC.getfield dX9_told_116 lfX9_192 rfl rfl ?_
          exact hR.ireturn dX9_told_119 ⟨rfl, rfl⟩
        rw [if_neg x6] at hR
        by_cases x7 : x = nI 7
        · subst x7
          rw [if_pos rfl] at hR
          refine hC.tabIn dX9_told_33 (off := 87) (tgt := 120) (by decide) (by decide) rfl rfl ?_
          refine hC.iload_n dX9_told_120 rfl ?_
          exact hR.ireturn dX9_told_121 ⟨rfl, rfl⟩
        rw [if_neg x7] at hR
        by_cases x8 : x = nI 8
        · subst x8
          rw [if_pos rfl] at hR
          refine hC.tabIn dX9_told_33 (off := 89) (tgt := 122) (by decide) (by decide) rfl rfl ?_
          refine hC.aload_n dX9_told_122 rfl ?_
          refine hC.getfield dX9_told_123 lfX9_195 rfl rfl ?_
          exact hR.ireturn dX9_told_126 ⟨rfl, rfl⟩
        rw [if_neg x8] at hR
        have n0 := y_ne (by decide) x0
        have n1 := y_ne (by decide) x1
        have n2 := y_ne (by decide) x2
        have n3 := y_ne (by decide) x3
        have n4 := y_ne (by decide) x4
        have n5 := y_ne (by decide) x5
        have n6 := y_ne (by decide) x6
        have n7 := y_ne (by decide) x7
        have n8 := y_ne (by decide) x8
        refine hC.tabOut dX9_told_33 (tgt := 127) (by omega) rfl ?_
        refine hC.ldc dX9_told_127 lcX9_96 ?_
        exact hR.ireturn dX9_told_129 ⟨rfl, rfl⟩
      · omega
    · have hds := hd s
      refine hC.iload_n dX9_told_4 rfl ?_
      refine hC.aload_n dX9_told_5 rfl ?_
      refine hC.getfield dX9_told_6 lfX9_180 rfl rfl ?_
      refine hC.n_ge (by omega) (by omega) dX9_told_9 (tgt := 32) rfl (fun c => ?_) (fun c => ?_)
      · omega
      · refine hC.iload_n dX9_told_12 rfl ?_
        refine hC.aload_n dX9_told_13 rfl ?_
        refine hC.getfield dX9_told_14 lfX9_31 rfl rfl ?_
        refine hC.aload_n dX9_told_17 rfl ?_
        refine hC.getfield dX9_told_18 lfX9_34 rfl rfl ?_
        refine hC.iload_n dX9_told_21 rfl ?_
        refine hC.iaN dX9_told_22 rfl ⟨by omega, by decide⟩ ?_
        refine hC.iaN dX9_told_23 rfl ⟨by omega, by decide⟩ ?_
        refine hC.iadd dX9_told_24 ?_
        rw [nI_add]
        refine hC.istore_n dX9_told_25 (by decide) ?_
        refine hC.iinc dX9_told_26 rfl (nI_1 _) (by decide) ?_
        refine hC.goto dX9_told_29 (tgt := 4) rfl ?_
        exact hC.loc rfl ih
  exact hC.loc rfl (loop 0 (by omega))
def mFray (R : Nat → Nat → Nat) (F : Nat → Nat) (x : Int32) : Int32 × (Nat → Nat → Nat) := if inR x 9 = true then (nI (andn (thF (stM R F) 0) (thF (stM (frM R F (ix x)) F) 0)), frM R F (ix x)) else (cO, R)
def itU (base : Nat → Nat) (off : Nat) (g : Nat → Nat) : Nat → Nat → Nat
  | 0 => base
  | n + 1 => updN (itU base off g n) (off + n) (g n)
def kpA (R : Nat → Nat → Nat) (F : Nat → Nat) (k : Nat) : Nat → Nat := updN (updN (updN (R 25) k 1) (k + 1) (F 10)) (k + 2) (F 11)
def kpR (R : Nat → Nat → Nat) (F : Nat → Nat) (k : Nat) : Nat → Nat := itU (itU (kpA R F k) (k + 3) (R 13) 12) (k + 15) (R 9) 8
def mKeep (R : Nat → Nat → Nat) (F : Nat → Nat) (x : Int32) : Int32 × (Nat → Nat → Nat) := if inR x 1 = true then (nI 1, upR R 25 (kpR R F (23 * ix x))) else (cU, R)
set_option maxHeartbeats 4000000 in
set_option maxRecDepth 20000 in
theorem ct_X9_keep (l : Launch) (R : Nat → Nat → Nat) (F : Nat → Nat) (L : Nat → Int64) (x : Int32) : Ct l 1 yX9_keep cX9_keep 4 (some .int) [.ref 0, .int x] (mdW R F L) (RV (.int (mKeep R F x).1) (mdW (mKeep R F x).2 F L)) := by
  refine Ct.of (by decide) (Nat.le_of_ble_eq_true rfl) (fun K hC hR => ?_)
  show K 0 [(0, .ref 0), (1, .int x)] [] _
  refine hC.iload_n dX9_keep_0 rfl ?_
  refine hC.i2l dX9_keep_1 ?_
  refine hC.lconst dX9_keep_2 (v := lN 0) rfl ?_
  refine hC.lconst dX9_keep_3 (v := lN 1) rfl ?_
  refine hC.rdS [] dX9_keep_4 lmX9_92 mkX9_in sxX9_in (ct_X9_in l x.toInt64 (lN 0) (lN 1)) ⟨Nat.le_of_ble_eq_true rfl, Nat.le_of_ble_eq_true rfl⟩ rfl rfl (Nat.le_of_ble_eq_true rfl) ⟨by decide, rfl⟩ ?_
  rw [in_R (by decide)]
  refine hC.bnz dX9_keep_7 (tgt := 13) rfl (fun c1 => ?_) (fun c1 => ?_)
  · obtain ⟨j, hj, rfl⟩ := inR_of (by decide) c1
    have hix : ix (nI j) = j := nI_clamp (by omega)
    rw [mKeep, if_pos c1, hix] at hR
    refine hC.bipush dX9_keep_13 (v := nI 23) rfl ?_
    refine hC.iload_n dX9_keep_15 rfl ?_
    refine hC.imul dX9_keep_16 ?_
    rw [pk_mul]
    generalize hk : 23 * j = k at hR ⊢
    have hk2 : k ≤ 23 := by omega
    refine hC.istore_n dX9_keep_17 (by decide) ?_
    refine hC.aload_n dX9_keep_18 rfl ?_
    refine hC.getfield dX9_keep_19 lfX9_83 rfl rfl ?_
    refine hC.iload_n dX9_keep_22 rfl ?_
    refine hC.iconst dX9_keep_23 (v := nI 1) rfl ?_
    refine hC.isN dX9_keep_24 rfl ⟨by omega, by decide⟩ ?_
    refine hC.aload_n dX9_keep_25 rfl ?_
    refine hC.getfield dX9_keep_26 lfX9_83 rfl rfl ?_
    refine hC.iload_n dX9_keep_29 rfl ?_
    refine hC.iconst dX9_keep_30 (v := nI 1) rfl ?_
    refine hC.iadd dX9_keep_31 ?_
    rw [nI_add]
    refine hC.aload_n dX9_keep_32 rfl ?_
    refine hC.getfield dX9_keep_33 lfX9_192 rfl rfl ?_
    refine hC.isN dX9_keep_36 rfl ⟨by omega, by decide⟩ ?_
    refine hC.aload_n dX9_keep_37 rfl ?_
    refine hC.getfield dX9_keep_38 lfX9_83 rfl rfl ?_
    refine hC.iload_n dX9_keep_41 rfl ?_
    refine hC.iconst dX9_keep_42 (v := nI 2) rfl ?_
    refine hC.iadd dX9_keep_43 ?_
    rw [nI_add]
    refine hC.aload_n dX9_keep_44 rfl ?_
    refine hC.getfield dX9_keep_45 lfX9_237 rfl rfl ?_
    refine hC.isN dX9_keep_48 rfl ⟨by omega, by decide⟩ ?_
    refine hC.iconst dX9_keep_49 (v := nI 0) rfl ?_
    refine hC.istore_n dX9_keep_50 (by decide) ?_
    have loop2 : ∀ s, s ≤ 8 → K 81 [(0, .ref 0), (1, .int (nI j)), (2, .int (nI k)), (3, .int (nI s))] [] (mdW (upR R 25 (itU (itU (kpA R F k) (k + 3) (R 13) 12) (k + 15) (R 9) s)) F L) := by
      refine loopUp1 _ 8 ?_ (fun s hs ih => ?_)
      · refine hC.iload_n dX9_keep_81 rfl ?_
        refine hC.bipush dX9_keep_82 (v := nI 8) rfl ?_
        refine hC.n_ge (by omega) (by omega) dX9_keep_84 (tgt := 110) rfl (fun c => ?_) (fun c => ?_)
        · refine hC.iconst dX9_keep_110 (v := nI 1) rfl ?_
          exact hR.ireturn dX9_keep_111 ⟨rfl, rfl⟩
        · omega
      · refine hC.iload_n dX9_keep_81 rfl ?_
        refine hC.bipush dX9_keep_82 (v := nI 8) rfl ?_
        refine hC.n_ge (by omega) (by omega) dX9_keep_84 (tgt := 110) rfl (fun c => ?_) (fun c => ?_)
        · omega
        · refine hC.aload_n dX9_keep_87 rfl ?_
          refine hC.getfield dX9_keep_88 lfX9_83 rfl rfl ?_
          refine hC.iload_n dX9_keep_91 rfl ?_
          refine hC.bipush dX9_keep_92 (v := nI 15) rfl ?_
          refine hC.iadd dX9_keep_94 ?_
          rw [nI_add]
          refine hC.iload_n dX9_keep_95 rfl ?_
          refine hC.iadd dX9_keep_96 ?_
          rw [nI_add]
          refine hC.aload_n dX9_keep_97 rfl ?_
          refine hC.getfield dX9_keep_98 lfX9_34 rfl rfl ?_
          refine hC.iload_n dX9_keep_101 rfl ?_
          refine hC.iaN dX9_keep_102 rfl ⟨by omega, by decide⟩ ?_
          refine hC.isN dX9_keep_103 rfl ⟨by omega, by decide⟩ ?_
          refine hC.iinc dX9_keep_104 rfl (nI_1 _) (by decide) ?_
          refine hC.goto dX9_keep_107 (tgt := 81) rfl ?_
          exact hC.loc rfl ih
    have loop1 : ∀ s, s ≤ 12 → K 51 [(0, .ref 0), (1, .int (nI j)), (2, .int (nI k)), (3, .int (nI s))] [] (mdW (upR R 25 (itU (kpA R F k) (k + 3) (R 13) s)) F L) := by
      refine loopUp1 _ 12 ?_ (fun s hs ih => ?_)
      · refine hC.iload_n dX9_keep_51 rfl ?_
        refine hC.bipush dX9_keep_52 (v := nI 12) rfl ?_
        refine hC.n_ge (by omega) (by omega) dX9_keep_54 (tgt := 79) rfl (fun c => ?_) (fun c => ?_)
        · refine hC.iconst dX9_keep_79 (v := nI 0) rfl ?_
          refine hC.istore_n dX9_keep_80 (by decide) ?_
          exact hC.loc rfl (loop2 0 (by omega))
        · omega
      · refine hC.iload_n dX9_keep_51 rfl ?_
        refine hC.bipush dX9_keep_52 (v := nI 12) rfl ?_
        refine hC.n_ge (by omega) (by omega) dX9_keep_54 (tgt := 79) rfl (fun c => ?_) (fun c => ?_)
        · omega
        · refine hC.aload_n dX9_keep_57 rfl ?_
          refine hC.getfield dX9_keep_58 lfX9_83 rfl rfl ?_
          refine hC.iload_n dX9_keep_61 rfl ?_
          refine hC.iconst dX9_keep_62 (v := nI 3) rfl ?_
          refine hC.iadd dX9_keep_63 ?_
          rw [nI_add]
          refine hC.iload_n dX9_keep_64 rfl ?_
          refine hC.iadd dX9_keep_65 ?_
          rw [nI_add]
          refine hC.aload_n dX9_keep_66 rfl ?_
          refine hC.getfield dX9_keep_67 lfX9_46 rfl rfl ?_
          refine hC.iload_n dX9_keep_70 rfl ?_
          refine hC.iaN dX9_keep_71 rfl ⟨by omega, by decide⟩ ?_
          refine hC.isN dX9_keep_72 rfl ⟨by omega, by decide⟩ ?_
          refine hC.iinc dX9_keep_73 rfl (nI_1 _) (by decide) ?_
          refine hC.goto dX9_keep_76 (tgt := 51) rfl ?_
          exact hC.loc rfl ih
    exact hC.loc rfl (loop1 0 (by omega))
  · rw [mKeep, if_neg (by simp [c1])] at hR
    refine hC.ldc dX9_keep_10 lcX9_205 ?_
    exact hR.ireturn dX9_keep_12 ⟨rfl, rfl⟩
def gbR (R : Nat → Nat → Nat) (k : Nat) : Nat → Nat → Nat := upR (upR R 13 (rowL (fun i => R 25 (k + 3 + i)) (R 13) 12)) 9 (rowL (fun i => R 25 (k + 15 + i)) (R 9) 8)
def gbF (R : Nat → Nat → Nat) (F : Nat → Nat) (k : Nat) : Nat → Nat := updN (updN F 10 (R 25 (k + 1))) 11 (R 25 (k + 2))
def mBack (R : Nat → Nat → Nat) (F : Nat → Nat) (x : Int32) : Int32 × (Nat → Nat → Nat) × (Nat → Nat) := if inR x 1 = true then (if R 25 (23 * ix x) = 0 then (cN, R, F) else (nI 1, gbR R (23 * ix x), gbF R F (23 * ix x))) else (cU, R, F)
set_option maxHeartbeats 4000000 in
set_option maxRecDepth 20000 in
theorem ct_X9_goBack (l : Launch) (R : Nat → Nat → Nat) (F : Nat → Nat) (L : Nat → Int64) (hb : ∀ j, R 25 j < 2 ^ 31) (x : Int32) : Ct l 1 yX9_goBack cX9_goBack 4 (some .int) [.ref 0, .int x] (mdW R F L) (RV (.int (mBack R F x).1) (mdW (mBack R F x).2.1 (mBack R F x).2.2 L)) := by
  refine Ct.of (by decide) (Nat.le_of_ble_eq_true rfl) (fun K hC hR => ?_)
  show K 0 [(0, .ref 0), (1, .int x)] [] _
  refine hC.iload_n dX9_goBack_0 rfl ?_
  refine hC.i2l dX9_goBack_1 ?_
  refine hC.lconst dX9_goBack_2 (v := lN 0) rfl ?_
  refine hC.lconst dX9_goBack_3 (v := lN 1) rfl ?_
  refine hC.rdS [] dX9_goBack_4 lmX9_92 mkX9_in sxX9_in (ct_X9_in l x.toInt64 (lN 0) (lN 1)) ⟨Nat.le_of_ble_eq_true rfl, Nat.le_of_ble_eq_true rfl⟩ rfl rfl (Nat.le_of_ble_eq_true rfl) ⟨by decide, rfl⟩ ?_
  rw [in_R (by decide)]
  refine hC.bnz dX9_goBack_7 (tgt := 13) rfl (fun c1 => ?_) (fun c1 => ?_)
  · obtain ⟨j, hj, rfl⟩ := inR_of (by decide) c1
    have hix : ix (nI j) = j := nI_clamp (by omega)
    rw [mBack, if_pos c1, hix] at hR
    refine hC.bipush dX9_goBack_13 (v := nI 23) rfl ?_
    refine hC.iload_n dX9_goBack_15 rfl ?_
    refine hC.imul dX9_goBack_16 ?_
    rw [pk_mul]
    generalize hk : 23 * j = k at hR ⊢
    have hk2 : k ≤ 23 := by omega
    refine hC.istore_n dX9_goBack_17 (by decide) ?_
    refine hC.aload_n dX9_goBack_18 rfl ?_
    refine hC.getfield dX9_goBack_19 lfX9_83 rfl rfl ?_
    refine hC.iload_n dX9_goBack_22 rfl ?_
    refine hC.iaN dX9_goBack_23 rfl ⟨by omega, by decide⟩ ?_
    refine hC.nnz (hb k) dX9_goBack_24 (tgt := 30) rfl (fun c2 => ?_) (fun c2 => ?_)
    · rw [if_neg c2] at hR
      refine hC.aload_n dX9_goBack_30 rfl ?_
      refine hC.aload_n dX9_goBack_31 rfl ?_
      refine hC.getfield dX9_goBack_32 lfX9_83 rfl rfl ?_
      refine hC.iload_n dX9_goBack_35 rfl ?_
      refine hC.iconst dX9_goBack_36 (v := nI 1) rfl ?_
      refine hC.iadd dX9_goBack_37 ?_
      rw [nI_add]
      refine hC.iaN dX9_goBack_38 rfl ⟨by omega, by decide⟩ ?_
      refine hC.putI dX9_goBack_39 lpX9_192 rfl rfl rfl (Nat.le_of_ble_eq_true rfl) ?_
      refine hC.aload_n dX9_goBack_42 rfl ?_
      refine hC.aload_n dX9_goBack_43 rfl ?_
      refine hC.getfield dX9_goBack_44 lfX9_83 rfl rfl ?_
      refine hC.iload_n dX9_goBack_47 rfl ?_
      refine hC.iconst dX9_goBack_48 (v := nI 2) rfl ?_
      refine hC.iadd dX9_goBack_49 ?_
      rw [nI_add]
      refine hC.iaN dX9_goBack_50 rfl ⟨by omega, by decide⟩ ?_
      refine hC.putI dX9_goBack_51 lpX9_237 rfl rfl rfl (Nat.le_of_ble_eq_true rfl) ?_
      refine hC.iconst dX9_goBack_54 (v := nI 0) rfl ?_
      refine hC.istore_n dX9_goBack_55 (by decide) ?_
      have loop2 : ∀ s, s ≤ 8 → K 86 [(0, .ref 0), (1, .int (nI j)), (2, .int (nI k)), (3, .int (nI s))] [] (mdW (upR (upR R 13 (rowL (fun i => R 25 (k + 3 + i)) (R 13) 12)) 9 (rowL (fun i => R 25 (k + 15 + i)) (R 9) s)) (gbF R F k) L) := by
        refine loopUp1 _ 8 ?_ (fun s hs ih => ?_)
        · refine hC.iload_n dX9_goBack_86 rfl ?_
          refine hC.bipush dX9_goBack_87 (v := nI 8) rfl ?_
          refine hC.n_ge (by omega) (by omega) dX9_goBack_89 (tgt := 115) rfl (fun c => ?_) (fun c => ?_)
          · refine hC.iconst dX9_goBack_115 (v := nI 1) rfl ?_
            exact hR.ireturn dX9_goBack_116 ⟨rfl, rfl⟩
          · omega
        · refine hC.iload_n dX9_goBack_86 rfl ?_
          refine hC.bipush dX9_goBack_87 (v := nI 8) rfl ?_
          refine hC.n_ge (by omega) (by omega) dX9_goBack_89 (tgt := 115) rfl (fun c => ?_) (fun c => ?_)
          · omega
          · refine hC.aload_n dX9_goBack_92 rfl ?_
            refine hC.getfield dX9_goBack_93 lfX9_34 rfl rfl ?_
            refine hC.iload_n dX9_goBack_96 rfl ?_
            refine hC.aload_n dX9_goBack_97 rfl ?_
            refine hC.getfield dX9_goBack_98 lfX9_83 rfl rfl ?_
            refine hC.iload_n dX9_goBack_101 rfl ?_
            refine hC.bipush dX9_goBack_102 (v := nI 15) rfl ?_
            refine hC.iadd dX9_goBack_104 ?_
            rw [nI_add]
            refine hC.iload_n dX9_goBack_105 rfl ?_
            refine hC.iadd dX9_goBack_106 ?_
            rw [nI_add]
            refine hC.iaN dX9_goBack_107 rfl ⟨by omega, by decide⟩ ?_
            refine hC.isN dX9_goBack_108 rfl ⟨by omega, by decide⟩ ?_
            refine hC.iinc dX9_goBack_109 rfl (nI_1 _) (by decide) ?_
            refine hC.goto dX9_goBack_112 (tgt := 86) rfl ?_
            rw [← rowL_s (fun i => R 25 (k + 15 + i)) (R 9) s] at ih
            exact hC.loc rfl ih
      have loop1 : ∀ s, s ≤ 12 → K 56 [(0, .ref 0), (1, .int (nI j)), (2, .int (nI k)), (3, .int (nI s))] [] (mdW (upR R 13 (rowL (fun i => R 25 (k + 3 + i)) (R 13) s)) (gbF R F k) L) := by
        refine loopUp1 _ 12 ?_ (fun s hs ih => ?_)
        · refine hC.iload_n dX9_goBack_56 rfl ?_
          refine hC.bipush dX9_goBack_57 (v := nI 12) rfl ?_
          refine hC.n_ge (by omega) (by omega) dX9_goBack_59 (tgt := 84) rfl (fun c => ?_) (fun c => ?_)
          · refine hC.iconst dX9_goBack_84 (v := nI 0) rfl ?_
            refine hC.istore_n dX9_goBack_85 (by decide) ?_
            have l0 := loop2 0 (by omega)
            rw [rowL_0] at l0
            exact hC.loc rfl l0
          · omega
        · refine hC.iload_n dX9_goBack_56 rfl ?_
          refine hC.bipush dX9_goBack_57 (v := nI 12) rfl ?_
          refine hC.n_ge (by omega) (by omega) dX9_goBack_59 (tgt := 84) rfl (fun c => ?_) (fun c => ?_)
          · omega
          · refine hC.aload_n dX9_goBack_62 rfl ?_
            refine hC.getfield dX9_goBack_63 lfX9_46 rfl rfl ?_
            refine hC.iload_n dX9_goBack_66 rfl ?_
            refine hC.aload_n dX9_goBack_67 rfl ?_
            refine hC.getfield dX9_goBack_68 lfX9_83 rfl rfl ?_
            refine hC.iload_n dX9_goBack_71 rfl ?_
            refine hC.iconst dX9_goBack_72 (v := nI 3) rfl ?_
            refine hC.iadd dX9_goBack_73 ?_
            rw [nI_add]
            refine hC.iload_n dX9_goBack_74 rfl ?_
            refine hC.iadd dX9_goBack_75 ?_
            rw [nI_add]
            refine hC.iaN dX9_goBack_76 rfl ⟨by omega, by decide⟩ ?_
            refine hC.isN dX9_goBack_77 rfl ⟨by omega, by decide⟩ ?_
            refine hC.iinc dX9_goBack_78 rfl (nI_1 _) (by decide) ?_
            refine hC.goto dX9_goBack_81 (tgt := 56) rfl ?_
            rw [← rowL_s (fun i => R 25 (k + 3 + i)) (R 13) s] at ih
            exact hC.loc rfl ih
      have l0 := loop1 0 (by omega)
      rw [rowL_0] at l0
      exact hC.loc rfl l0
    · rw [if_pos c2] at hR
      refine hC.ldc dX9_goBack_27 lcX9_230 ?_
      exact hR.ireturn dX9_goBack_29 ⟨rfl, rfl⟩
  · rw [mBack, if_neg (by simp [c1])] at hR
    refine hC.ldc dX9_goBack_10 lcX9_205 ?_
    exact hR.ireturn dX9_goBack_12 ⟨rfl, rfl⟩
