/-! StripFlagModel: takes, flag, feed -/
def tkR (R : Nat → Nat → Nat) : Nat → Nat → Nat := upR (upR (upR (upR (upR (upR (upR (upR R 8 (rowL (R 3) (R 8) (R 2 0))) 9 (rowL (R 4) (R 9) (R 2 1))) 10 (rowL (fun _ => 2 ^ R 2 0 - 1) (R 10) (R 2 1))) 11 (rowL (R 5) (R 11) 20)) 12 (rowL (R 6) (R 12) 20)) 13 (rowL (fun s => if s < 12 then R 7 s else 9) (R 13) 20)) 14 (rowL (R 7) (R 14) 20)) 25 (updN (updN (R 25) 0 0) 23 0)
def tkF (R : Nat → Nat → Nat) (F : Nat → Nat) : Nat → Nat := updN (updN (updN (updN (updN (updN F 6 (R 2 0)) 7 (R 2 1)) 8 (R 2 2)) 9 (R 2 3)) 10 0) 14 0
set_option maxHeartbeats 4000000 in
set_option maxRecDepth 20000 in
theorem ct_X9_takes (l : Launch) (R : Nat → Nat → Nat) (F : Nat → Nat) (L : Nat → Int64) (n i w q b : Nat) (h0 : R 2 0 ≤ 4) (h1 : R 2 1 ≤ 8) : Ct l 0 yX9_takes cX9_takes 2 none [.ref 0] (mpW R F L n i w q b) (RU (mpW (tkR R) (tkF R F) L n i w q b)) := by
  refine Ct.of (by decide) (Nat.le_of_ble_eq_true rfl) (fun K hC hR => ?_)
  show K 0 [(0, .ref 0)] [] _
  have loop3 : ∀ s, s ≤ 20 → K 112 [(0, .ref 0), (1, .int (nI s))] [] (mpW (upR (upR (upR (upR (upR (upR (upR R 8 (rowL (R 3) (R 8) (R 2 0))) 9 (rowL (R 4) (R 9) (R 2 1))) 10 (rowL (fun _ => 2 ^ R 2 0 - 1) (R 10) (R 2 1))) 11 (rowL (R 5) (R 11) s)) 12 (rowL (R 6) (R 12) s)) 13 (rowL (fun s => if s < 12 then R 7 s else 9) (R 13) s)) 14 (rowL (R 7) (R 14) s)) (updN (updN (updN (updN F 6 (R 2 0)) 7 (R 2 1)) 8 (R 2 2)) 9 (R 2 3)) L n i w q b) := by
    refine loopUp1 _ 20 ?_ (fun s hs ih => ?_)
    · refine hC.iload_n dX9_takes_112 rfl ?_
      refine hC.bipush dX9_takes_113 (v := nI 20) rfl ?_
      refine hC.n_ge (by omega) (by omega) dX9_takes_115 (tgt := 183) rfl (fun c => ?_) (fun c => ?_)
      · refine hC.aload_n dX9_takes_183 rfl ?_
        refine hC.iconst dX9_takes_184 (v := nI 0) rfl ?_
        refine hC.putI dX9_takes_185 lpX9_192 rfl rfl rfl (Nat.le_of_ble_eq_true rfl) ?_
        refine hC.aload_n dX9_takes_188 rfl ?_
        refine hC.iconst dX9_takes_189 (v := nI 0) rfl ?_
        refine hC.putI dX9_takes_190 lpX9_195 rfl rfl rfl (Nat.le_of_ble_eq_true rfl) ?_
        refine hC.aload_n dX9_takes_193 rfl ?_
        refine hC.getfield dX9_takes_194 lfX9_83 rfl rfl ?_
        refine hC.iconst dX9_takes_197 (v := nI 0) rfl ?_
        refine hC.iconst dX9_takes_198 (v := nI 0) rfl ?_
        refine hC.isN dX9_takes_199 rfl ⟨by omega, by decide⟩ ?_
        refine hC.aload_n dX9_takes_200 rfl ?_
        refine hC.getfield dX9_takes_201 lfX9_83 rfl rfl ?_
        refine hC.bipush dX9_takes_204 (v := nI 23) rfl ?_
        refine hC.iconst dX9_takes_206 (v := nI 0) rfl ?_
        refine hC.isN dX9_takes_207 rfl ⟨by omega, by decide⟩ ?_
        exact hR.return_ dX9_takes_208 ⟨rfl, rfl⟩
      · omega
    · rw [← rowL_s (R 5), ← rowL_s (R 6), ← rowL_s (fun s => if s < 12 then R 7 s else 9), ← rowL_s (R 7)] at ih
      have fin : ∀ z, z = (if s < 12 then R 7 s else 9) → K 164 [(0, .ref 0), (1, .int (nI s))] [.int (nI z), .int (nI s), .ref 13] (mpW (upR (upR (upR (upR (upR (upR (upR R 8 (rowL (R 3) (R 8) (R 2 0))) 9 (rowL (R 4) (R 9) (R 2 1))) 10 (rowL (fun _ => 2 ^ R 2 0 - 1) (R 10) (R 2 1))) 11 (updN (rowL (R 5) (R 11) s) s (R 5 s))) 12 (updN (rowL (R 6) (R 12) s) s (R 6 s))) 13 (rowL (fun s => if s < 12 then R 7 s else 9) (R 13) s)) 14 (rowL (R 7) (R 14) s)) (updN (updN (updN (updN F 6 (R 2 0)) 7 (R 2 1)) 8 (R 2 2)) 9 (R 2 3)) L n i w q b) := by
        intro z hz
        refine hC.isN dX9_takes_164 rfl ⟨by omega, by decide⟩ ?_
        refine hC.aload_n dX9_takes_165 rfl ?_
        refine hC.getfield dX9_takes_166 lfX9_49 rfl rfl ?_
        refine hC.iload_n dX9_takes_169 rfl ?_
        refine hC.aload_n dX9_takes_170 rfl ?_
        refine hC.getfield dX9_takes_171 lfX9_28 rfl rfl ?_
        refine hC.iload_n dX9_takes_174 rfl ?_
        refine hC.iaN (f := fun j => nI ((R 7) j)) dX9_takes_175 rfl ⟨by omega, by decide⟩ ?_
        refine hC.isN dX9_takes_176 rfl ⟨by omega, by decide⟩ ?_
        refine hC.iinc dX9_takes_177 rfl (nI_1 _) (by decide) ?_
        refine hC.goto dX9_takes_180 (tgt := 112) rfl ?_
        subst hz
        exact hC.loc rfl ih
      refine hC.iload_n dX9_takes_112 rfl ?_
      refine hC.bipush dX9_takes_113 (v := nI 20) rfl ?_
      refine hC.n_ge (by omega) (by omega) dX9_takes_115 (tgt := 183) rfl (fun c => ?_) (fun c => ?_)
      · omega
      · refine hC.aload_n dX9_takes_118 rfl ?_
        refine hC.getfield dX9_takes_119 lfX9_40 rfl rfl ?_
        refine hC.iload_n dX9_takes_122 rfl ?_
        refine hC.aload_n dX9_takes_123 rfl ?_
        refine hC.getfield dX9_takes_124 lfX9_22 rfl rfl ?_
        refine hC.iload_n dX9_takes_127 rfl ?_
        refine hC.iaN (f := fun j => nI ((R 5) j)) dX9_takes_128 rfl ⟨by omega, by decide⟩ ?_
        refine hC.isN dX9_takes_129 rfl ⟨by omega, by decide⟩ ?_
        refine hC.aload_n dX9_takes_130 rfl ?_
        refine hC.getfield dX9_takes_131 lfX9_43 rfl rfl ?_
        refine hC.iload_n dX9_takes_134 rfl ?_
        refine hC.aload_n dX9_takes_135 rfl ?_
        refine hC.getfield dX9_takes_136 lfX9_25 rfl rfl ?_
        refine hC.iload_n dX9_takes_139 rfl ?_
        refine hC.iaN (f := fun j => nI ((R 6) j)) dX9_takes_140 rfl ⟨by omega, by decide⟩ ?_
        refine hC.isN dX9_takes_141 rfl ⟨by omega, by decide⟩ ?_
        refine hC.aload_n dX9_takes_142 rfl ?_
        refine hC.getfield dX9_takes_143 lfX9_46 rfl rfl ?_
        refine hC.iload_n dX9_takes_146 rfl ?_
        refine hC.iload_n dX9_takes_147 rfl ?_
        refine hC.bipush dX9_takes_148 (v := nI 12) rfl ?_
        refine hC.n_ge (by omega) (by omega) dX9_takes_150 (tgt := 162) rfl (fun c2 => ?_) (fun c2 => ?_)
        · refine hC.bipush dX9_takes_162 (v := nI 9) rfl ?_
          exact hC.loc rfl (fin 9 (by rw [if_neg (by omega)]))
        · refine hC.aload_n dX9_takes_153 rfl ?_
          refine hC.getfield dX9_takes_154 lfX9_28 rfl rfl ?_
          refine hC.iload_n dX9_takes_157 rfl ?_
          refine hC.iaN (f := fun j => nI ((R 7) j)) dX9_takes_158 rfl ⟨by omega, by decide⟩ ?_
          refine hC.goto dX9_takes_159 (tgt := 164) rfl ?_
          exact hC.loc rfl (fin (R 7 s) (by rw [if_pos c2]))
  have loop2 : ∀ s, s ≤ R 2 1 → K 70 [(0, .ref 0), (1, .int (nI s))] [] (mpW (upR (upR (upR R 8 (rowL (R 3) (R 8) (R 2 0))) 9 (rowL (R 4) (R 9) s)) 10 (rowL (fun _ => 2 ^ R 2 0 - 1) (R 10) s)) (updN (updN (updN (updN F 6 (R 2 0)) 7 (R 2 1)) 8 (R 2 2)) 9 (R 2 3)) L n i w q b) := by
    refine loopUp1 _ (R 2 1) ?_ (fun s hs ih => ?_)
    · refine hC.iload_n dX9_takes_70 rfl ?_
      refine hC.aload_n dX9_takes_71 rfl ?_
      refine hC.getfield dX9_takes_72 lfX9_180 rfl rfl ?_
      refine hC.n_ge (a := R 2 1) (b := R 2 1) (by omega) (by omega) dX9_takes_75 (tgt := 110) rfl (fun c => ?_) (fun c => ?_)
      · refine hC.iconst dX9_takes_110 (v := nI 0) rfl ?_
        refine hC.istore_n dX9_takes_111 (by decide) ?_
        have l0 := loop3 0 (by omega)
        rw [rowL_0, rowL_0, rowL_0, rowL_0] at l0
        exact hC.loc rfl l0
      · omega
    · rw [← rowL_s (R 4), ← rowL_s (fun _ => 2 ^ R 2 0 - 1)] at ih
      refine hC.iload_n dX9_takes_70 rfl ?_
      refine hC.aload_n dX9_takes_71 rfl ?_
      refine hC.getfield dX9_takes_72 lfX9_180 rfl rfl ?_
      refine hC.n_ge (a := s) (b := R 2 1) (by omega) (by omega) dX9_takes_75 (tgt := 110) rfl (fun c => ?_) (fun c => ?_)
      · omega
      · refine hC.aload_n dX9_takes_78 rfl ?_
        refine hC.getfield dX9_takes_79 lfX9_34 rfl rfl ?_
        refine hC.iload_n dX9_takes_82 rfl ?_
        refine hC.aload_n dX9_takes_83 rfl ?_
        refine hC.getfield dX9_takes_84 lfX9_19 rfl rfl ?_
        refine hC.iload_n dX9_takes_87 rfl ?_
        refine hC.iaN (f := fun j => nI ((R 4) j)) dX9_takes_88 rfl ⟨by omega, by decide⟩ ?_
        refine hC.isN dX9_takes_89 rfl ⟨by omega, by decide⟩ ?_
        refine hC.aload_n dX9_takes_90 rfl ?_
        refine hC.getfield dX9_takes_91 lfX9_37 rfl rfl ?_
        refine hC.iload_n dX9_takes_94 rfl ?_
        refine hC.iconst dX9_takes_95 (v := nI 1) rfl ?_
        refine hC.aload_n dX9_takes_96 rfl ?_
        refine hC.getfield dX9_takes_97 lfX9_183 rfl rfl ?_
        refine hC.ishl (x := nI 1) (y := nI (R 2 0)) dX9_takes_100 ?_
        rw [nI_shl (by omega), Nat.one_mul]
        refine hC.iconst dX9_takes_101 (v := nI 1) rfl ?_
        refine hC.isub dX9_takes_102 ?_
        rw [mask_nI (by omega)]
        refine hC.isN dX9_takes_103 rfl ⟨by omega, by decide⟩ ?_
        refine hC.iinc dX9_takes_104 rfl (nI_1 _) (by decide) ?_
        refine hC.goto dX9_takes_107 (tgt := 70) rfl ?_
        exact hC.loc rfl ih
  have loop1 : ∀ s, s ≤ R 2 0 → K 42 [(0, .ref 0), (1, .int (nI s))] [] (mpW (upR R 8 (rowL (R 3) (R 8) s)) (updN (updN (updN (updN F 6 (R 2 0)) 7 (R 2 1)) 8 (R 2 2)) 9 (R 2 3)) L n i w q b) := by
    refine loopUp1 _ (R 2 0) ?_ (fun s hs ih => ?_)
    · refine hC.iload_n dX9_takes_42 rfl ?_
      refine hC.aload_n dX9_takes_43 rfl ?_
      refine hC.getfield dX9_takes_44 lfX9_183 rfl rfl ?_
      refine hC.n_ge (a := R 2 0) (b := R 2 0) (by omega) (by omega) dX9_takes_47 (tgt := 68) rfl (fun c => ?_) (fun c => ?_)
      · refine hC.iconst dX9_takes_68 (v := nI 0) rfl ?_
        refine hC.istore_n dX9_takes_69 (by decide) ?_
        have l0 := loop2 0 (by omega)
        rw [rowL_0, rowL_0] at l0
        exact hC.loc rfl l0
      · omega
    · rw [← rowL_s (R 3)] at ih
      refine hC.iload_n dX9_takes_42 rfl ?_
      refine hC.aload_n dX9_takes_43 rfl ?_
      refine hC.getfield dX9_takes_44 lfX9_183 rfl rfl ?_
      refine hC.n_ge (a := s) (b := R 2 0) (by omega) (by omega) dX9_takes_47 (tgt := 68) rfl (fun c => ?_) (fun c => ?_)
      · omega
      · refine hC.aload_n dX9_takes_50 rfl ?_
        refine hC.getfield dX9_takes_51 lfX9_31 rfl rfl ?_
        refine hC.iload_n dX9_takes_54 rfl ?_
        refine hC.aload_n dX9_takes_55 rfl ?_
        refine hC.getfield dX9_takes_56 lfX9_16 rfl rfl ?_
        refine hC.iload_n dX9_takes_59 rfl ?_
        refine hC.iaN (f := fun j => nI ((R 3) j)) dX9_takes_60 rfl ⟨by omega, by decide⟩ ?_
        refine hC.isN dX9_takes_61 rfl ⟨by omega, by decide⟩ ?_
        refine hC.iinc dX9_takes_62 rfl (nI_1 _) (by decide) ?_
        refine hC.goto dX9_takes_65 (tgt := 42) rfl ?_
        exact hC.loc rfl ih
  refine hC.aload_n dX9_takes_0 rfl ?_
  refine hC.aload_n dX9_takes_1 rfl ?_
  refine hC.getfield dX9_takes_2 lfX9_13 rfl rfl ?_
  refine hC.iconst dX9_takes_5 (v := nI 0) rfl ?_
  refine hC.iaN (f := fun j => nI ((R 2) j)) dX9_takes_6 rfl ⟨by omega, by decide⟩ ?_
  refine hC.putI dX9_takes_7 lpX9_183 rfl rfl rfl (Nat.le_of_ble_eq_true rfl) ?_
  refine hC.aload_n dX9_takes_10 rfl ?_
  refine hC.aload_n dX9_takes_11 rfl ?_
  refine hC.getfield dX9_takes_12 lfX9_13 rfl rfl ?_
  refine hC.iconst dX9_takes_15 (v := nI 1) rfl ?_
  refine hC.iaN (f := fun j => nI ((R 2) j)) dX9_takes_16 rfl ⟨by omega, by decide⟩ ?_
  refine hC.putI dX9_takes_17 lpX9_180 rfl rfl rfl (Nat.le_of_ble_eq_true rfl) ?_
  refine hC.aload_n dX9_takes_20 rfl ?_
  refine hC.aload_n dX9_takes_21 rfl ?_
  refine hC.getfield dX9_takes_22 lfX9_13 rfl rfl ?_
  refine hC.iconst dX9_takes_25 (v := nI 2) rfl ?_
  refine hC.iaN (f := fun j => nI ((R 2) j)) dX9_takes_26 rfl ⟨by omega, by decide⟩ ?_
  refine hC.putI dX9_takes_27 lpX9_186 rfl rfl rfl (Nat.le_of_ble_eq_true rfl) ?_
  refine hC.aload_n dX9_takes_30 rfl ?_
  refine hC.aload_n dX9_takes_31 rfl ?_
  refine hC.getfield dX9_takes_32 lfX9_13 rfl rfl ?_
  refine hC.iconst dX9_takes_35 (v := nI 3) rfl ?_
  refine hC.iaN (f := fun j => nI ((R 2) j)) dX9_takes_36 rfl ⟨by omega, by decide⟩ ?_
  refine hC.putI dX9_takes_37 lpX9_189 rfl rfl rfl (Nat.le_of_ble_eq_true rfl) ?_
  refine hC.iconst dX9_takes_40 (v := nI 0) rfl ?_
  refine hC.istore_n dX9_takes_41 (by decide) ?_
  have l0 := loop1 0 (by omega)
  rw [rowL_0] at l0
  exact hC.loc rfl l0
theorem enT_gt {t : Nat → Nat} {n i i2 : Nat} (h : enT t n i = .ok i2) : i < i2 := by
  have := sc_ge (spB t) n i
  unfold enT at h
  split at h
  · have := Except.ok.inj h; omega
  · cases h
theorem nuT_ge {t : Nat → Nat} {n lo hx i a j e : Nat} (h : nuT t n lo hx i = .ok (a, j, e)) : i ≤ e := by
  have h1 := sc_ge (spB t) n i
  have h2 := sc_ge (dgB t) n (sc (spB t) n i)
  unfold nuT at h
  split at h
  · cases h
  · split at h
    · cases h
    · cases h; omega
theorem coT_gt {t : Nat → Nat} {n : Nat} : ∀ r T i T2 i2, coT t n r T i = .ok (T2, i2) → i < i2
  | 0, T, i, T2, i2, h => by rw [coT] at h; cases h
  | r + 1, T, i, T2, i2, h => by
    rw [coT] at h
    split at h
    · cases h
    · next v jb e hnu =>
      have h1 := nuT_ge hnu
      have h2 := sc_ge (spB t) n e
      split at h
      · cases h; omega
      · split at h
        · have := coT_gt r _ _ _ _ h; omega
        · cases h
theorem bdT_gt {t : Nat → Nat} {n wd a b i i2 : Nat} {T T2 : ToldT} (h : bdT t n T wd a b i = .ok (T2, i2)) : i < i2 := by
  unfold bdT at h
  split at h
  · cases h
  · next s jb e hnu =>
    have h1 := nuT_ge hnu
    split at h
    · cases h
    · next i3 hen =>
      have := enT_gt hen
      cases h; omega
theorem seT_gt {t : Nat → Nat} {n wd i i2 : Nat} {T T2 : ToldT} (h : seT t n T wd i = .ok (T2, i2)) : i < i2 := by
  unfold seT at h
  split at h
  · cases h
  · next a ja e hnu =>
    have h1 := nuT_ge hnu
    split at h
    · have := bdT_gt h; omega
    · split at h
      · cases h
      · next b jb e2 hnu2 =>
        have h2 := nuT_ge hnu2
        split at h
        · cases h
        · have := bdT_gt h; omega
theorem stT_gt {t : Nat → Nat} {n i i2 : Nat} {T T2 : ToldT} (h : stT t n T i = .ok (T2, i2)) : i < i2 := by
  unfold stT at h
  split at h
  · cases h
  · next a ja e hnu =>
    have h1 := nuT_ge hnu
    split at h
    · cases h
    · next i3 hen =>
      have := enT_gt hen
      cases h; omega
theorem clT_gt {t : Nat → Nat} {n j i2 : Nat} {T T2 : ToldT} (h : clT t n T j = .ok (T2, i2)) : j < i2 := by
  have h1 := sc_ge (ltB t) n j
  unfold clT at h
  split at h
  · cases h
  · split at h
    · cases h
    · split at h
      · have := coT_gt _ _ _ _ _ h; omega
      · split at h
        · have := stT_gt h; omega
        · have := seT_gt h; omega
theorem coT_c0 {t : Nat → Nat} {n : Nat} : ∀ r T i T2 i2, coT t n r T i = .ok (T2, i2) → T2.2 0 ≠ 0
  | 0, T, i, T2, i2, h => by rw [coT] at h; cases h
  | r + 1, T, i, T2, i2, h => by
    rw [coT] at h
    split at h
    · cases h
    · split at h
      · cases h
        show T.2 0 + 1 ≠ 0
        omega
      · split at h
        · exact coT_c0 r _ _ _ _ h
        · cases h
/-- behind a clause there are colours -/
theorem clT_c0 {t : Nat → Nat} {n j i2 : Nat} {T T2 : ToldT} (h : clT t n T j = .ok (T2, i2)) : T2.2 0 ≠ 0 := by
  unfold clT at h
  split at h
  · cases h
  · next h1 =>
    split at h
    · cases h
    · split at h
      · exact coT_c0 _ _ _ _ _ h
      · next h3 =>
        have h0 : T.2 0 ≠ 0 := fun z => h1 (Or.inr ⟨h3, z⟩)
        split at h
        · unfold stT at h
          split at h
          · cases h
          · split at h
            · cases h
            · cases h
              exact h0
        · obtain ⟨a, b, s, hT⟩ := seT_ok h
          rw [hT]
          show updN T.2 (if _ = 4 then 3 else 2) _ 0 ≠ 0
          rw [updN_n (by split <;> decide)]
          exact h0
def flM (R : Nat → Nat → Nat) (F : Nat → Nat) (L : Nat → Int64) (x : Except FaT ToldT) (r : Option Value) (h2 : List va_E) : Prop := match x with
  | .error (k, p) => ∃ R2 i2 w2 b2, rdK R R2 ∧ rdB R2 ∧ r = some (.int ((-10 : Int32) - nI k)) ∧ h2 = mpW R2 (updN F 1 p) L 0 i2 w2 p b2
  | .ok T => ∃ R3 i2 q2 b2, rdK R R3 ∧ rdB R3 ∧ tdM R3 T ∧ TC T ∧ r = some (.int (nI (T.2 1))) ∧ h2 = mpW (tkR R3) (tkF R3 (updN F 1 NN)) L 0 i2 0 q2 b2
set_option maxHeartbeats 4000000 in
set_option maxRecDepth 20000 in
theorem ct_X9_flag (l : Launch) (R : Nat → Nat → Nat) (F : Nat → Nat) (L : Nat → Int64) (hn : F 0 ≤ 500) (ht : ∀ j, R 1 j < 256) (hB : rdB R) : Ct l 5 yX9_flag cX9_flag 2 (some .int) [.ref 0] (mdW R F L) (flM R F L (paT (R 1) (F 0) 501 T0 0)) := by
  refine Ct.of (by decide) (Nat.le_of_ble_eq_true rfl) (fun K hC hR => ?_)
  show K 0 [(0, .ref 0)] [] _
  obtain ⟨t, htg⟩ : ∃ t, R 1 = t := ⟨_, rfl⟩
  obtain ⟨P, hPg⟩ : ∃ P, paT t (F 0) 501 T0 0 = P := ⟨_, rfl⟩
  rw [htg] at ht hR
  rw [hPg] at hR
  have kerr : ∀ k p, P = .error (k, p) → k ≠ 0 → k < 10 → ∀ (R2 : Nat → Nat → Nat) i2 b2, rdK R R2 → rdB R2 → K 56 [(0, .ref 0)] [] (mpW R2 F L (F 0) i2 k p b2) := by
    intro k p he hk0 hk10 R2 i2 b2 hK hB2
    rw [he] at hR
    refine hC.aload_n dX9_flag_56 rfl ?_
    refine hC.iconst dX9_flag_57 (v := nI 0) rfl ?_
    refine hC.putI dX9_flag_58 lpX9_97 rfl rfl rfl (Nat.le_of_ble_eq_true rfl) ?_
    refine hC.aload_n dX9_flag_61 rfl ?_
    refine hC.aload_n dX9_flag_62 rfl ?_
    refine hC.getfield dX9_flag_63 lfX9_103 rfl rfl ?_
    refine hC.nnz (x := k) (by omega) dX9_flag_66 (tgt := 73) rfl (fun _ => ?_) (fun c => absurd c hk0)
    refine hC.aload_n dX9_flag_73 rfl ?_
    refine hC.getfield dX9_flag_74 lfX9_106 rfl rfl ?_
    refine hC.putI dX9_flag_77 lpX9_86 rfl rfl rfl (Nat.le_of_ble_eq_true rfl) ?_
    refine hC.aload_n dX9_flag_80 rfl ?_
    refine hC.getfield dX9_flag_81 lfX9_103 rfl rfl ?_
    refine hC.nz (x := k) (by omega) dX9_flag_84 (tgt := 95) rfl (fun c => absurd c hk0) (fun _ => ?_)
    refine hC.bipush dX9_flag_87 (v := (-10 : Int32)) rfl ?_
    refine hC.aload_n dX9_flag_89 rfl ?_
    refine hC.getfield dX9_flag_90 lfX9_103 rfl rfl ?_
    refine hC.isub dX9_flag_93 ?_
    exact hR.ireturn dX9_flag_94 ⟨R2, i2, k, b2, hK, hB2, rfl, rfl⟩
  have kok : ∀ T, P = .ok T → ∀ (R2 : Nat → Nat → Nat) i2 q2 b2, rdK R R2 → rdB R2 → tdM R2 T → TC T → K 56 [(0, .ref 0)] [] (mpW R2 F L (F 0) i2 0 q2 b2) := by
    intro T he R2 i2 q2 b2 hK hB2 hT hc
    rw [he] at hR
    have h20 := hT.1 0 (by decide)
    have h21 := hT.1 1 (by decide)
    obtain ⟨hc0, hc1, -⟩ := id hc
    refine hC.aload_n dX9_flag_56 rfl ?_
    refine hC.iconst dX9_flag_57 (v := nI 0) rfl ?_
    refine hC.putI dX9_flag_58 lpX9_97 rfl rfl rfl (Nat.le_of_ble_eq_true rfl) ?_
    refine hC.aload_n dX9_flag_61 rfl ?_
    refine hC.aload_n dX9_flag_62 rfl ?_
    refine hC.getfield dX9_flag_63 lfX9_103 rfl rfl ?_
    refine hC.nnz (x := 0) (by omega) dX9_flag_66 (tgt := 73) rfl (fun c => absurd rfl c) (fun _ => ?_)
    refine hC.iconst dX9_flag_69 (v := (-1)) rfl ?_
    rw [m1_nI]
    refine hC.goto dX9_flag_70 (tgt := 77) rfl ?_
    refine hC.putI dX9_flag_77 lpX9_86 rfl rfl rfl (Nat.le_of_ble_eq_true rfl) ?_
    refine hC.aload_n dX9_flag_80 rfl ?_
    refine hC.getfield dX9_flag_81 lfX9_103 rfl rfl ?_
    refine hC.nz (x := 0) (by omega) dX9_flag_84 (tgt := 95) rfl (fun _ => ?_) (fun c => absurd rfl c)
    refine hC.aload_n dX9_flag_95 rfl ?_
    refine hC.wuVs dX9_flag_96 lmX9_177 mkX9_takes svX9_takes (ct_X9_takes l R2 (updN F 1 NN) L 0 i2 0 q2 b2 (by omega) (by omega)) ⟨Nat.le_of_ble_eq_true rfl, Nat.le_of_ble_eq_true rfl⟩ rfl rfl (Nat.le_of_ble_eq_true rfl) rfl rfl ?_
    refine hC.aload_n dX9_flag_99 rfl ?_
    refine hC.getfield dX9_flag_100 lfX9_180 rfl rfl ?_
    exact hR.ireturn dX9_flag_103 ⟨R2, i2, q2, b2, hK, hB2, hT, hc, by rw [← h21]; rfl, rfl⟩
  have loop : ∀ k (T : ToldT) (R2 : Nat → Nat → Nat) (i2 q2 b2 : Nat), F 0 - i2 < k → i2 ≤ F 0 → rdK R R2 → rdB R2 → tdM R2 T → TC T → P = paT t (F 0) k T i2 → K 32 [(0, .ref 0), (1, .int (nI (decide (T.2 0 = 0)).toNat))] [] (mpW R2 F L (F 0) i2 0 q2 b2) := by
    intro k
    induction k with
    | zero => intro T R2 i2 q2 b2 hk; omega
    | succ k ih =>
      intro T R2 i2 q2 b2 hk hi2 hK hB2 hT hc hP
      have hR2 : R2 1 = t := by rw [rdC hK, htg]
      have hge := sc_ge (spB t) (F 0) i2
      have hle := sc_le (p := spB t) hi2
      have hst : paT t (F 0) (k + 1) T i2 = if sc (spB t) (F 0) i2 = F 0 then .ok T else match clT t (F 0) T (sc (spB t) (F 0) i2) with
        | .error x => .error x
        | .ok (T2, i3) => paT t (F 0) k T2 i3 := rfl
      rw [hst] at hP
      refine hC.aload_n dX9_flag_32 rfl ?_
      refine hC.getfield dX9_flag_33 lfX9_103 rfl rfl ?_
      refine hC.nnz (x := 0) (by omega) dX9_flag_36 (tgt := 56) rfl (fun c => absurd rfl c) (fun _ => ?_)
      refine hC.aload_n dX9_flag_39 rfl ?_
      refine hC.wrVs dX9_flag_40 lmX9_169 mkX9_isEnd svX9_isEnd (ct_X9_isEnd l R2 F L (F 0) i2 0 q2 b2 hn hi2 (by rw [hR2]; exact ht)) ⟨Nat.le_of_ble_eq_true rfl, Nat.le_of_ble_eq_true rfl⟩ rfl rfl (Nat.le_of_ble_eq_true rfl) rfl rfl ?_
      rw [hR2]
      have hid := sc_idem (p := spB t) hi2
      generalize hjg : sc (spB t) (F 0) i2 = j at hge hle hP hid ⊢
      refine hC.bnz dX9_flag_43 (tgt := 56) rfl (fun c => ?_) (fun c => ?_)
      · have c1 := of_decide_eq_true c
        rw [if_pos c1] at hP
        exact hC.loc rfl (kok T hP R2 j q2 b2 hK hB2 hT hc)
      · have c1 := of_decide_eq_false c
        rw [if_neg c1] at hP
        refine hC.aload_n dX9_flag_46 rfl ?_
        refine hC.iload_n dX9_flag_47 rfl ?_
        refine hC.callVs dX9_flag_48 lmX9_173 mkX9_readClause svX9_readClause (ct_X9_readClause l R2 F L (F 0) j q2 b2 T hn hle (by rw [hR2]; exact ht) hT hc hB2 (decide (T.2 0 = 0)) rfl) ⟨Nat.le_of_ble_eq_true rfl, Nat.le_of_ble_eq_true rfl⟩ rfl rfl (Nat.le_of_ble_eq_true rfl) rfl rfl (fun r h2 hp => ?_)
        obtain ⟨rfl, hp⟩ := hp
        rw [hR2, hid] at hp
        cases hcl : clT t (F 0) T j with
        | error x =>
          obtain ⟨k2, p⟩ := x
          rw [hcl] at hp hP
          have hP : P = .error (k2, p) := hP
          obtain ⟨R3, i3, b3, hk0, hk10, hK3, hB3, rfl⟩ := hp
          refine hC.iconst dX9_flag_51 (v := nI 0) rfl ?_
          refine hC.istore_n dX9_flag_52 (by decide) ?_
          refine hC.goto dX9_flag_53 (tgt := 32) rfl ?_
          refine hC.aload_n dX9_flag_32 rfl ?_
          refine hC.getfield dX9_flag_33 lfX9_103 rfl rfl ?_
          refine hC.nnz (x := k2) (by omega) dX9_flag_36 (tgt := 56) rfl (fun _ => ?_) (fun c => absurd c hk0)
          exact hC.loc rfl (kerr k2 p hP hk0 hk10 R3 i3 b3 (fun j hj => by rw [hK3 j hj, hK j hj]) hB3)
        | ok y =>
          obtain ⟨T2, i3⟩ := y
          rw [hcl] at hp hP
          have hP : P = paT t (F 0) k T2 i3 := hP
          obtain ⟨R3, q3, b3, hi3, hK3, hB3, hT3, hc3, rfl⟩ := hp
          have hgt := clT_gt hcl
          have ih2 := ih T2 R3 i3 q3 b3 (by omega) hi3 (fun j hj => by rw [hK3 j hj, hK j hj]) hB3 hT3 hc3 hP
          rw [decide_eq_false (clT_c0 hcl)] at ih2
          refine hC.iconst dX9_flag_51 (v := nI 0) rfl ?_
          refine hC.istore_n dX9_flag_52 (by decide) ?_
          refine hC.goto dX9_flag_53 (tgt := 32) rfl ?_
          exact hC.loc rfl ih2
  have loop0 : ∀ s, s ≤ 4 → K 12 [(0, .ref 0), (1, .int (nI s))] [] (mpW (upR R 2 (rowL (fun _ => 0) (R 2) s)) F L (F 0) 0 0 (F 4) (F 5)) := by
    refine loopUp1 _ 4 ?_ (fun s hs ih => ?_)
    · refine hC.iload_n dX9_flag_12 rfl ?_
      refine hC.iconst dX9_flag_13 (v := nI 4) rfl ?_
      refine hC.n_ge (by omega) (by omega) dX9_flag_14 (tgt := 30) rfl (fun c => ?_) (fun c => ?_)
      · refine hC.iconst dX9_flag_30 (v := nI 1) rfl ?_
        refine hC.istore_n dX9_flag_31 (by decide) ?_
        exact hC.loc rfl (loop 501 T0 (upR R 2 (rowL (fun _ => 0) (R 2) 4)) 0 (F 4) (F 5) (by omega) (Nat.zero_le _) (rdK_up _ (rdK_rf R) (by decide)) (rdB_lo _ hB (by decide)) ⟨fun i hi => by
          show rowL (fun _ => 0) (R 2) 4 i = 0
          rw [rowL, if_pos hi], fun k hk => absurd hk (Nat.not_lt_zero k), fun k hk => absurd hk (Nat.not_lt_zero k), fun k hk => by
            have hk : k < 0 ∨ (12 ≤ k ∧ k < 12 + 0) := hk
            omega⟩ ⟨by decide, by decide, by decide, by decide⟩ hPg.symm)
      · omega
    · rw [← rowL_s (fun _ => 0) (R 2) s] at ih
      refine hC.iload_n dX9_flag_12 rfl ?_
      refine hC.iconst dX9_flag_13 (v := nI 4) rfl ?_
      refine hC.n_ge (by omega) (by omega) dX9_flag_14 (tgt := 30) rfl (fun c => ?_) (fun c => ?_)
      · omega
      · refine hC.aload_n dX9_flag_17 rfl ?_
        refine hC.getfield dX9_flag_18 lfX9_13 rfl rfl ?_
        refine hC.iload_n dX9_flag_21 rfl ?_
        refine hC.iconst dX9_flag_22 (v := nI 0) rfl ?_
        refine hC.isN dX9_flag_23 rfl ⟨by omega, by decide⟩ ?_
        refine hC.iinc dX9_flag_24 rfl (nI_1 _) (by decide) ?_
        refine hC.goto dX9_flag_27 (tgt := 12) rfl ?_
        exact hC.loc rfl ih
  refine hC.aload_n dX9_flag_0 rfl ?_
  refine hC.iconst dX9_flag_1 (v := nI 0) rfl ?_
  refine hC.putI dX9_flag_2 lpX9_109 rfl rfl rfl (Nat.le_of_ble_eq_true rfl) ?_
  refine hC.aload_n dX9_flag_5 rfl ?_
  refine hC.iconst dX9_flag_6 (v := nI 0) rfl ?_
  refine hC.putI dX9_flag_7 lpX9_103 rfl rfl rfl (Nat.le_of_ble_eq_true rfl) ?_
  refine hC.iconst dX9_flag_10 (v := nI 0) rfl ?_
  refine hC.istore_n dX9_flag_11 (by decide) ?_
  have l0 := loop0 0 (by omega)
  rw [rowL_0] at l0
  exact hC.loc rfl l0
def byV (z : Int64) : Nat := z.toBitVec.toNat % 256
theorem byV_lt (z : Int64) : byV z < 256 := Nat.mod_lt _ (by decide)
theorem lN_self (z : Int64) : z = lN z.toBitVec.toNat := by
  apply Int64.toBitVec_inj.mp
  apply BitVec.eq_of_toNat_eq
  show z.toBitVec.toNat = (BitVec.ofNat 64 z.toBitVec.toNat).toNat
  rw [BitVec.toNat_ofNat, Nat.mod_eq_of_lt z.toBitVec.isLt]
theorem byV_and (z : Int64) : (z &&& lN 255).toInt32 = nI (byV z) := by
  have h : z &&& lN 255 = lN (byV z) := by
    have := lN_self z
    rw [this, lN_and, show (255 : Nat) = 2 ^ 8 - 1 from rfl, Nat.and_two_pow_sub_one_eq_mod, ← this]
    rfl
  rw [h, lN_i]
def byS (y : Int64) (k : Nat) : Nat := byV (y >>> ((nI (8 * k)).toInt64 &&& 63))
def fdT (f : Nat → Nat) (m : Nat) (y : Int64) (n : Nat) : Nat → Nat → Nat
  | 0 => f
  | i + 1 => updN (fdT f m y n i) (m + i) (byS y (n - 1 - i))
noncomputable def mFeed (R : Nat → Nat → Nat) (F : Nat → Nat) (x : Int32) (y : Int64) : Int32 × (Nat → Nat → Nat) × (Nat → Nat) := if inL x 1 8 = true then (if F 0 + ix x ≤ 500 then (nI (F 0 + ix x), upR R 1 (fdT (R 1) (F 0) y (ix x) (ix x)), updN F 0 (F 0 + ix x)) else (cF, R, F)) else (cO, R, F)
set_option maxHeartbeats 4000000 in
set_option maxRecDepth 20000 in
theorem ct_X9_feed (l : Launch) (R : Nat → Nat → Nat) (F : Nat → Nat) (L : Nat → Int64) (hn : F 0 ≤ 500) (x : Int32) (y : Int64) : Ct l 1 yX9_feed cX9_feed 5 (some .int) [.ref 0, .int x, .long y] (mdW R F L) (RV (.int (mFeed R F x y).1) (mdW (mFeed R F x y).2.1 (mFeed R F x y).2.2 L)) := by
  refine Ct.of (by decide) (Nat.le_of_ble_eq_true rfl) (fun K hC hR => ?_)
  show K 0 [(0, .ref 0), (1, .int x), (2, .long y)] [] _
  refine hC.iload_n dX9_feed_0 rfl ?_
  refine hC.i2l dX9_feed_1 ?_
  refine hC.lconst dX9_feed_2 (v := lN 1) rfl ?_
  refine hC.ldc2_w (v := lN 8) dX9_feed_3 lcX9_90 ?_
  refine hC.rdS [] dX9_feed_6 lmX9_92 mkX9_in sxX9_in (ct_X9_in l x.toInt64 (lN 1) (lN 8)) ⟨Nat.le_of_ble_eq_true rfl, Nat.le_of_ble_eq_true rfl⟩ rfl rfl (Nat.le_of_ble_eq_true rfl) ⟨by decide, rfl⟩ ?_
  rw [in_L (by decide) (by decide)]
  refine hC.bnz dX9_feed_9 (tgt := 15) rfl (fun c1 => ?_) (fun c1 => ?_)
  · have c1b := c1
    simp only [inL, decide_eq_true_eq] at c1b
    obtain ⟨n, hn31, rfl⟩ := nI_of (x := x) (by rw [lt0_iff]; omega)
    rw [nI_toInt hn31] at c1b
    have hix : ix (nI n) = n := nI_clamp (by omega)
    rw [mFeed, if_pos c1, hix] at hR
    refine hC.aload_n dX9_feed_15 rfl ?_
    refine hC.getfield dX9_feed_16 lfX9_97 rfl rfl ?_
    refine hC.iload_n dX9_feed_19 rfl ?_
    refine hC.iadd dX9_feed_20 ?_
    rw [nI_add]
    refine hC.sipush dX9_feed_21 (v := nI 500) rfl ?_
    refine hC.n_le (by omega) (by omega) dX9_feed_24 (tgt := 30) rfl (fun c2 => ?_) (fun c2 => ?_)
    · rw [if_pos c2] at hR
      have loop : ∀ i, i ≤ n → K 35 [(0, .ref 0), (1, .int (nI n)), (2, .long y), (4, .int (dnI n i))] [] (mdW (upR R 1 (fdT (R 1) (F 0) y n i)) (updN F 0 (F 0 + i)) L) := by
        refine loopUp1 _ n ?_ (fun i hi ih => ?_)
        · rw [show dnI n n = -1 by simp [dnI]]
          refine hC.iload dX9_feed_35 rfl ?_
          refine hC.if_lt dX9_feed_37 (tgt := 77) rfl (fun _ => ?_) (fun c => absurd (by decide) c)
          refine hC.aload_n dX9_feed_77 rfl ?_
          refine hC.getfield dX9_feed_78 lfX9_97 rfl rfl ?_
          exact hR.ireturn dX9_feed_81 ⟨rfl, rfl⟩
        · rw [← dnI_s hi] at ih
          rw [show dnI n i = nI (n - 1 - i) by simp [dnI, hi]]
          refine hC.iload dX9_feed_35 rfl ?_
          refine hC.z_lt (by omega) dX9_feed_37 (tgt := 77) rfl ?_
          refine hC.aload_n dX9_feed_40 rfl ?_
          refine hC.getfield dX9_feed_41 lfX9_7 rfl rfl ?_
          refine hC.aload_n dX9_feed_44 rfl ?_
          refine hC.getfield dX9_feed_45 lfX9_97 rfl rfl ?_
          refine hC.lload_n dX9_feed_48 rfl ?_
          refine hC.bipush dX9_feed_49 (v := nI 8) rfl ?_
          refine hC.iload dX9_feed_51 rfl ?_
          refine hC.imul dX9_feed_53 ?_
          rw [pk_mul]
          refine hC.lshr dX9_feed_54 ?_
          refine hC.ldc2_w (v := lN 255) dX9_feed_55 lcX9_101 ?_
          refine hC.land dX9_feed_58 ?_
          refine hC.l2i dX9_feed_59 ?_
          rw [byV_and]
          refine hC.isN (s := F 0 + i) (v := byS y (n - 1 - i)) dX9_feed_60 rfl ⟨by omega, by decide⟩ ?_
          refine hC.aload_n dX9_feed_61 rfl ?_
          refine hC.dup dX9_feed_62 rfl ?_
          refine hC.getfield dX9_feed_63 lfX9_97 rfl rfl ?_
          refine hC.iconst dX9_feed_66 (v := nI 1) rfl ?_
          refine hC.iadd (x := nI (F 0 + i)) (y := nI 1) dX9_feed_67 ?_
          rw [nI_add]
          refine hC.putI dX9_feed_68 lpX9_97 rfl rfl rfl (Nat.le_of_ble_eq_true rfl) ?_
          refine hC.iinc dX9_feed_71 rfl rfl (by decide) ?_
          refine hC.goto dX9_feed_74 (tgt := 35) rfl ?_
          exact hC.loc rfl ih
      refine hC.iload_n dX9_feed_30 rfl ?_
      refine hC.iconst dX9_feed_31 (v := nI 1) rfl ?_
      refine hC.isub dX9_feed_32 ?_
      rw [pk_sub (show 1 ≤ n by omega)]
      refine hC.istore dX9_feed_33 (by decide) ?_
      have l0 := loop 0 (by omega)
      rw [show dnI n 0 = nI (n - 1) by unfold dnI; rw [if_pos (by omega)]; rfl] at l0
      exact hC.loc rfl l0
    · rw [if_neg (by omega)] at hR
      refine hC.ldc dX9_feed_27 lcX9_100 ?_
      exact hR.ireturn dX9_feed_29 ⟨rfl, rfl⟩
  · rw [mFeed, if_neg (by simp [c1])] at hR
    refine hC.ldc dX9_feed_12 lcX9_96 ?_
    exact hR.ireturn dX9_feed_14 ⟨rfl, rfl⟩
