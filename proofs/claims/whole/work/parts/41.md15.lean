/-! StripFlagModel: isApart, rows, colours, fits, sure -/
def alB (p : Nat → Bool) : Nat → Bool
  | 0 => true
  | n + 1 => alB p n && p n
def apP (nr f : Nat → Nat) (a b : Nat) : Bool := !(nr a).testBit b || decide (f b ≠ f a)
def apB (nr f : Nat → Nat) (a : Nat) : Bool := alB (apP nr f a) a
set_option maxHeartbeats 4000000 in
set_option maxRecDepth 20000 in
theorem ct_X9_isApart (l : Launch) (R : Nat → Nat → Nat) (F : Nat → Nat) (L : Nat → Int64) (a : Nat) (ha : a < 8) (hn : R 22 a < 256) (hf : ∀ j, j ≤ a → R 19 j < 4) : Ct l 0 yX9_isApart cX9_isApart 4 (some .boolean) [.ref 0, .int (nI a)] (mdW R F L) (RV (.int (nI (apB (R 22) (R 19) a).toNat)) (mdW R F L)) := by
  refine Ct.of (by decide) (Nat.le_of_ble_eq_true rfl) (fun K hC hR => ?_)
  show K 0 [(0, .ref 0), (1, .int (nI a))] [] _
  refine hC.iconst dX9_isApart_0 (v := nI 1) rfl ?_
  refine hC.istore_n dX9_isApart_1 (by decide) ?_
  refine hC.iconst dX9_isApart_2 (v := nI 0) rfl ?_
  refine hC.istore_n dX9_isApart_3 (by decide) ?_
  have loop : ∀ b, b ≤ a → K 4 [(0, .ref 0), (1, .int (nI a)), (2, .int (nI (alB (apP (R 22) (R 19) a) b).toNat)), (3, .int (nI b))] [] (mdW R F L) := by
    refine loopUp1 _ a ?_ (fun b hb ih => ?_)
    · refine hC.iload_n dX9_isApart_4 rfl ?_
      refine hC.iload_n dX9_isApart_5 rfl ?_
      refine hC.n_ge (by omega) (by omega) dX9_isApart_6 (tgt := 53) rfl (fun c => ?_) (fun c => ?_)
      · refine hC.iload_n dX9_isApart_53 rfl ?_
        exact hR.zreturn dX9_isApart_54 (by first | decide | exact b01 _) ⟨rfl, rfl⟩
      · omega
    · have hfb := hf b (by omega)
      have hfa := hf a (Nat.le_refl a)
      have fin : ∀ p : Bool, p = alB (apP (R 22) (R 19) a) (b + 1) → K 46 [(0, .ref 0), (1, .int (nI a)), (2, .int (nI (alB (apP (R 22) (R 19) a) b).toNat)), (3, .int (nI b))] [.int (nI p.toNat)] (mdW R F L) := by
        intro p hp
        rw [← hp] at ih
        refine hC.istore_n dX9_isApart_46 (by decide) ?_
        refine hC.iinc dX9_isApart_47 rfl (nI_1 _) (by decide) ?_
        refine hC.goto dX9_isApart_50 (tgt := 4) rfl ?_
        exact hC.loc rfl ih
      have hst : alB (apP (R 22) (R 19) a) (b + 1) = (alB (apP (R 22) (R 19) a) b && apP (R 22) (R 19) a b) := rfl
      refine hC.iload_n dX9_isApart_4 rfl ?_
      refine hC.iload_n dX9_isApart_5 rfl ?_
      refine hC.n_ge (by omega) (by omega) dX9_isApart_6 (tgt := 53) rfl (fun c => ?_) (fun c => ?_)
      · omega
      · refine hC.iload_n dX9_isApart_9 rfl ?_
        refine hC.bz dX9_isApart_10 (tgt := 45) rfl (fun c1 => ?_) (fun c1 => ?_)
        · refine hC.iconst dX9_isApart_45 (v := nI 0) rfl ?_
          exact hC.loc rfl (fin false (by rw [hst, c1]; rfl))
        · refine hC.aload_n dX9_isApart_13 rfl ?_
          refine hC.getfield dX9_isApart_14 lfX9_74 rfl rfl ?_
          refine hC.iload_n dX9_isApart_17 rfl ?_
          refine hC.iaN dX9_isApart_18 rfl ⟨by omega, by decide⟩ ?_
          refine hC.iload_n dX9_isApart_19 rfl ?_
          refine hC.ishr dX9_isApart_20 ?_
          refine hC.iconst dX9_isApart_21 (v := nI 1) rfl ?_
          refine hC.iand dX9_isApart_22 ?_
          rw [nI_bit (by omega) (by omega)]
          refine hC.bz dX9_isApart_23 (tgt := 41) rfl (fun c2 => ?_) (fun c2 => ?_)
          · refine hC.iconst dX9_isApart_41 (v := nI 1) rfl ?_
            refine hC.goto dX9_isApart_42 (tgt := 46) rfl ?_
            exact hC.loc rfl (fin true (by rw [hst, c1, apP, c2]; rfl))
          · refine hC.aload_n dX9_isApart_26 rfl ?_
            refine hC.getfield dX9_isApart_27 lfX9_65 rfl rfl ?_
            refine hC.iload_n dX9_isApart_30 rfl ?_
            refine hC.iaN dX9_isApart_31 rfl ⟨by omega, by decide⟩ ?_
            refine hC.aload_n dX9_isApart_32 rfl ?_
            refine hC.getfield dX9_isApart_33 lfX9_65 rfl rfl ?_
            refine hC.iload_n dX9_isApart_36 rfl ?_
            refine hC.iaN dX9_isApart_37 rfl ⟨by omega, by decide⟩ ?_
            refine hC.n_eq (by omega) (by omega) dX9_isApart_38 (tgt := 45) rfl (fun c3 => ?_) (fun c3 => ?_)
            · refine hC.iconst dX9_isApart_45 (v := nI 0) rfl ?_
              exact hC.loc rfl (fin false (by rw [hst, c1, apP, c2, decide_eq_false (fun z => z c3)]; rfl))
            · refine hC.iconst dX9_isApart_41 (v := nI 1) rfl ?_
              refine hC.goto dX9_isApart_42 (tgt := 46) rfl ?_
              exact hC.loc rfl (fin true (by rw [hst, c1, apP, decide_eq_true c3]; simp))
  exact hC.loc rfl (loop 0 (by omega))
def apl {α : Type} (g : Nat → List α) : Nat → List α
  | 0 => []
  | c + 1 => apl g c ++ g c
def okC (nr lf : Nat → Nat) (ch : Bool) (f : Nat → Nat) (a c : Nat) : Bool := (ch || (lf a).testBit c) && apB nr (updN f a c) a
/-- all ways to go on from a, k strips to come -/
def colL (nr lf : Nat → Nat) (ch : Bool) (C : Nat) : Nat → Nat → (Nat → Nat) → List (Nat → Nat)
  | 0, _, f => [f]
  | k + 1, a, f => apl (fun c => if okC nr lf ch f a c = true then colL nr lf ch C k (a + 1) (updN f a c) else []) C
abbrev RwT : Type := Nat × Nat × (Nat → Nat) × (Nat → Nat)
def lfS (pr : Nat → Nat) (S : Nat) (σ : RwT) (f : Nat → Nat) : RwT := (σ.1 + 1, if σ.1 = 0 ∨ sm (fun j => pr (f j)) S < σ.2.1 then sm (fun j => pr (f j)) S else σ.2.1, rowL (fun j => σ.2.2.1 j ||| 2 ^ f j) σ.2.2.1 S, if σ.1 = 0 ∨ sm (fun j => pr (f j)) S < σ.2.1 then rowL f σ.2.2.2 S else σ.2.2.2)
theorem apl_len {α : Type} {g : Nat → List α} {b : Nat} (h : ∀ c, (g c).length ≤ b) : ∀ C, (apl g C).length ≤ C * b
  | 0 => Nat.zero_le _
  | C + 1 => by
    have := apl_len h C
    have := h C
    rw [apl, List.length_append, Nat.succ_mul]
    omega
theorem colL_len {nr lf : Nat → Nat} {ch : Bool} {C : Nat} (hC : C ≤ 4) : ∀ k a f, (colL nr lf ch C k a f).length ≤ 4 ^ k
  | 0, _, _ => Nat.le_refl 1
  | k + 1, a, f => by
    have h1 : ∀ c, (if okC nr lf ch f a c = true then colL nr lf ch C k (a + 1) (updN f a c) else []).length ≤ 4 ^ k := fun c => by
      split
      · exact colL_len hC k (a + 1) (updN f a c)
      · exact Nat.zero_le _
    have h2 := apl_len h1 C
    have h3 := Nat.mul_le_mul_right (4 ^ k) hC
    rw [colL, Nat.pow_succ, Nat.mul_comm (4 ^ k) 4]
    omega
theorem lfS_len (pr : Nat → Nat) (S : Nat) : ∀ (xs : List (Nat → Nat)) (σ : RwT), (xs.foldl (lfS pr S) σ).1 = σ.1 + xs.length
  | [], σ => rfl
  | x :: xs, σ => by
    rw [List.foldl_cons, lfS_len pr S xs, List.length_cons]
    show σ.1 + 1 + xs.length = _
    omega
theorem lfS_le {pr : Nat → Nat} {S b : Nat} (h : ∀ f : Nat → Nat, sm (fun j => pr (f j)) S ≤ b) : ∀ (xs : List (Nat → Nat)) (σ : RwT), σ.2.1 ≤ b → (xs.foldl (lfS pr S) σ).2.1 ≤ b
  | [], σ, hs => hs
  | x :: xs, σ, hs => by
    rw [List.foldl_cons]
    refine lfS_le h xs _ ?_
    show (if _ then _ else _) ≤ b
    split
    · exact h x
    · exact hs
theorem updN_u (f : Nat → Nat) (k u v : Nat) : updN (updN f k u) k v = updN f k v := by
  funext j
  unfold updN
  split <;> rfl
theorem updN_id {f : Nat → Nat} {k v : Nat} (h : f k = v) : updN f k v = f := by
  funext j
  unfold updN
  split
  · next e => rw [e, h]
  · rfl
theorem rowL_at (f g : Nat → Nat) (s : Nat) : rowL f g s s = g s := by simp [rowL]
abbrev rwR (R : Nat → Nat → Nat) (f fo mb nr : Nat → Nat) : Nat → Nat → Nat := upR (upR (upR (upR R 19 f) 20 fo) 21 mb) 22 nr
set_option maxHeartbeats 8000000 in
set_option maxRecDepth 20000 in
theorem rw_leaf (l : Launch) {K : AK} (hC : Cl l cX9_rows yX9_rows.cls 9 (rmD 2) K) (R : Nat → Nat → Nat) (F : Nat → Nat) (L : Nat → Int64) (h : MdOK R F) (hpr : ∀ k, R 8 k ≤ 99) (nr : Nat → Nat) (ch : Bool) (m : Nat) (f : Nat → Nat) (σ : RwT) (hf : ∀ j, j < F 7 → f j < F 6) (hw : σ.1 < 2 ^ 30) (hl : σ.2.1 ≤ 792) (hx : K 74 [(0, .ref 0), (1, .int (nI ch.toNat)), (2, .int (nI (lfS (R 8) (F 7) σ f).1)), (3, .int (nI (lfS (R 8) (F 7) σ f).2.1)), (4, .int (nI m)), (5, .int (dpI (F 7)))] [] (mdW (rwR R f (lfS (R 8) (F 7) σ f).2.2.2 (lfS (R 8) (F 7) σ f).2.2.1 nr) F L)) : K 88 [(0, .ref 0), (1, .int (nI ch.toNat)), (2, .int (nI σ.1)), (3, .int (nI σ.2.1)), (4, .int (nI m)), (5, .int (nI (F 7)))] [] (mdW (rwR R f σ.2.2.2 σ.2.2.1 nr) F L) := by
  have h4 := h.1
  have h8 := h.2.1
  have hsum : ∀ i, sm (fun j => R 8 (f j)) i ≤ i * 99 := fun i => sm_le (fun s => hpr (f s)) i
  obtain ⟨wy, le, mb, fo⟩ := σ
  have hl : le ≤ 792 := hl
  have hw : wy < 2 ^ 30 := hw
  have hs8 := hsum (F 7)
  have k211 : ∀ (le2 : Nat) (fo2 : Nat → Nat), K 74 [(0, .ref 0), (1, .int (nI ch.toNat)), (2, .int (nI (wy + 1))), (3, .int (nI le2)), (4, .int (nI m)), (5, .int (dpI (F 7)))] [] (mdW (rwR R f fo2 (rowL (fun j => mb j ||| 2 ^ f j) mb (F 7)) nr) F L) → K 211 [(0, .ref 0), (1, .int (nI ch.toNat)), (2, .int (nI wy)), (3, .int (nI le2)), (4, .int (nI m)), (5, .int (nI (F 7)))] [] (mdW (rwR R f fo2 (rowL (fun j => mb j ||| 2 ^ f j) mb (F 7)) nr) F L) := by
    intro le2 fo2 hk
    refine hC.iinc dX9_rows_211 rfl (nI_1 _) (by decide) ?_
    refine hC.iinc dX9_rows_214 rfl (dpI_s (F 7)) (by decide) ?_
    refine hC.goto dX9_rows_217 (tgt := 74) rfl ?_
    exact hC.loc rfl hk
  have k145 : K 145 [(0, .ref 0), (1, .int (nI ch.toNat)), (2, .int (nI wy)), (3, .int (nI le)), (4, .int (nI m)), (5, .int (nI (F 7))), (6, .int (nI (sm (fun j => R 8 (f j)) (F 7))))] [] (mdW (rwR R f fo (rowL (fun j => mb j ||| 2 ^ f j) mb (F 7)) nr) F L) := by
    have k160 : ∀ p : Bool, p = decide (wy = 0 ∨ sm (fun j => R 8 (f j)) (F 7) < le) → K 160 [(0, .ref 0), (1, .int (nI ch.toNat)), (2, .int (nI wy)), (3, .int (nI le)), (4, .int (nI m)), (5, .int (nI (F 7))), (6, .int (nI (sm (fun j => R 8 (f j)) (F 7))))] [.int (nI p.toNat)] (mdW (rwR R f fo (rowL (fun j => mb j ||| 2 ^ f j) mb (F 7)) nr) F L) := by
      intro p hp
      refine hC.istore dX9_rows_160 (by decide) ?_
      refine hC.iload dX9_rows_162 rfl ?_
      refine hC.bz dX9_rows_164 (tgt := 172) rfl (fun c1 => ?_) (fun c1 => ?_)
      · rw [hp] at c1
        have c2 : ¬ (wy = 0 ∨ sm (fun j => R 8 (f j)) (F 7) < le) := of_decide_eq_false c1
        rw [show lfS (R 8) (F 7) (wy, le, mb, fo) f = (wy + 1, le, rowL (fun j => mb j ||| 2 ^ f j) mb (F 7), fo) by unfold lfS; rw [if_neg c2, if_neg c2]] at hx
        refine hC.iload_n dX9_rows_172 rfl ?_
        refine hC.istore_n dX9_rows_173 (by decide) ?_
        refine hC.iconst dX9_rows_174 (v := nI 0) rfl ?_
        refine hC.istore dX9_rows_175 (by decide) ?_
        refine hC.iload dX9_rows_177 rfl ?_
        refine hC.aload_n dX9_rows_179 rfl ?_
        refine hC.getfield dX9_rows_180 lfX9_180 rfl rfl ?_
        refine hC.n_ge (by omega) (by omega) dX9_rows_183 (tgt := 211) rfl (fun c3 => ?_) (fun c3 => ?_)
        · exact hC.loc rfl (k211 le fo hx)
        · refine hC.iload dX9_rows_186 rfl ?_
          refine hC.bz dX9_rows_188 (tgt := 211) rfl (fun c4 => ?_) (fun c4 => ?_)
          · exact hC.loc rfl (k211 le fo hx)
          · rw [hp, c1] at c4
            exact absurd c4 (by decide)
      · rw [hp] at c1
        have c2 : wy = 0 ∨ sm (fun j => R 8 (f j)) (F 7) < le := of_decide_eq_true c1
        rw [show lfS (R 8) (F 7) (wy, le, mb, fo) f = (wy + 1, sm (fun j => R 8 (f j)) (F 7), rowL (fun j => mb j ||| 2 ^ f j) mb (F 7), rowL f fo (F 7)) by unfold lfS; rw [if_pos c2, if_pos c2]] at hx
        have lp : ∀ i, i ≤ F 7 → K 177 [(0, .ref 0), (1, .int (nI ch.toNat)), (2, .int (nI wy)), (3, .int (nI (sm (fun j => R 8 (f j)) (F 7)))), (4, .int (nI m)), (5, .int (nI (F 7))), (6, .int (nI (sm (fun j => R 8 (f j)) (F 7)))), (7, .int (nI p.toNat)), (8, .int (nI i))] [] (mdW (rwR R f (rowL f fo i) (rowL (fun j => mb j ||| 2 ^ f j) mb (F 7)) nr) F L) := by
          refine loopUp1 _ (F 7) ?_ (fun i hi ih => ?_)
          · refine hC.iload dX9_rows_177 rfl ?_
            refine hC.aload_n dX9_rows_179 rfl ?_
            refine hC.getfield dX9_rows_180 lfX9_180 rfl rfl ?_
            refine hC.n_ge (by omega) (by omega) dX9_rows_183 (tgt := 211) rfl (fun c3 => ?_) (fun c3 => ?_)
            · exact hC.loc rfl (k211 _ _ hx)
            · omega
          · rw [← rowL_s] at ih
            refine hC.iload dX9_rows_177 rfl ?_
            refine hC.aload_n dX9_rows_179 rfl ?_
            refine hC.getfield dX9_rows_180 lfX9_180 rfl rfl ?_
            refine hC.n_ge (by omega) (by omega) dX9_rows_183 (tgt := 211) rfl (fun c3 => ?_) (fun c3 => ?_)
            · omega
            · refine hC.iload dX9_rows_186 rfl ?_
              refine hC.bz dX9_rows_188 (tgt := 211) rfl (fun c4 => ?_) (fun c4 => ?_)
              · rw [hp, c1] at c4
                exact absurd c4 (by decide)
              · refine hC.aload_n dX9_rows_191 rfl ?_
                refine hC.getfield dX9_rows_192 lfX9_68 rfl rfl ?_
                refine hC.iload dX9_rows_195 rfl ?_
                refine hC.aload_n dX9_rows_197 rfl ?_
                refine hC.getfield dX9_rows_198 lfX9_65 rfl rfl ?_
                refine hC.iload dX9_rows_201 rfl ?_
                refine hC.iaN (f := fun j => nI (f j)) dX9_rows_203 rfl ⟨by omega, by decide⟩ ?_
                refine hC.isN dX9_rows_204 rfl ⟨by omega, by decide⟩ ?_
                refine hC.iinc dX9_rows_205 rfl (nI_1 _) (by decide) ?_
                refine hC.goto dX9_rows_208 (tgt := 177) rfl ?_
                exact hC.loc rfl ih
        refine hC.iload dX9_rows_167 rfl ?_
        refine hC.goto dX9_rows_169 (tgt := 173) rfl ?_
        refine hC.istore_n dX9_rows_173 (by decide) ?_
        refine hC.iconst dX9_rows_174 (v := nI 0) rfl ?_
        refine hC.istore dX9_rows_175 (by decide) ?_
        have l0 := lp 0 (by omega)
        rw [rowL_0] at l0
        exact hC.loc rfl l0
    refine hC.iload_n dX9_rows_145 rfl ?_
    refine hC.nz (by omega) dX9_rows_146 (tgt := 155) rfl (fun c1 => ?_) (fun c1 => ?_)
    · refine hC.iconst dX9_rows_155 (v := nI 1) rfl ?_
      refine hC.goto dX9_rows_156 (tgt := 160) rfl ?_
      exact hC.loc rfl (k160 true (decide_eq_true (Or.inl c1)).symm)
    · refine hC.iload dX9_rows_149 rfl ?_
      refine hC.iload_n dX9_rows_151 rfl ?_
      refine hC.n_ge (by omega) (by omega) dX9_rows_152 (tgt := 159) rfl (fun c2 => ?_) (fun c2 => ?_)
      · refine hC.iconst dX9_rows_159 (v := nI 0) rfl ?_
        exact hC.loc rfl (k160 false (decide_eq_false (by omega)).symm)
      · refine hC.iconst dX9_rows_155 (v := nI 1) rfl ?_
        refine hC.goto dX9_rows_156 (tgt := 160) rfl ?_
        exact hC.loc rfl (k160 true (decide_eq_true (Or.inr c2)).symm)
  have lp : ∀ i, i ≤ F 7 → K 94 [(0, .ref 0), (1, .int (nI ch.toNat)), (2, .int (nI wy)), (3, .int (nI le)), (4, .int (nI m)), (5, .int (nI (F 7))), (6, .int (nI (sm (fun j => R 8 (f j)) i))), (7, .int (nI i))] [] (mdW (rwR R f fo (rowL (fun j => mb j ||| 2 ^ f j) mb i) nr) F L) := by
    refine loopUp1 _ (F 7) ?_ (fun i hi ih => ?_)
    · refine hC.iload dX9_rows_94 rfl ?_
      refine hC.aload_n dX9_rows_96 rfl ?_
      refine hC.getfield dX9_rows_97 lfX9_180 rfl rfl ?_
      refine hC.n_ge (by omega) (by omega) dX9_rows_100 (tgt := 145) rfl (fun c3 => ?_) (fun c3 => ?_)
      · exact hC.loc rfl k145
      · omega
    · have hfi := hf i hi
      rw [← rowL_s] at ih
      refine hC.iload dX9_rows_94 rfl ?_
      refine hC.aload_n dX9_rows_96 rfl ?_
      refine hC.getfield dX9_rows_97 lfX9_180 rfl rfl ?_
      refine hC.n_ge (by omega) (by omega) dX9_rows_100 (tgt := 145) rfl (fun c3 => ?_) (fun c3 => ?_)
      · omega
      · refine hC.iload dX9_rows_103 rfl ?_
        refine hC.aload_n dX9_rows_105 rfl ?_
        refine hC.getfield dX9_rows_106 lfX9_31 rfl rfl ?_
        refine hC.aload_n dX9_rows_109 rfl ?_
        refine hC.getfield dX9_rows_110 lfX9_65 rfl rfl ?_
        refine hC.iload dX9_rows_113 rfl ?_
        refine hC.iaN (f := fun j => nI (f j)) dX9_rows_115 rfl ⟨by omega, by decide⟩ ?_
        refine hC.iaN (f := fun j => nI ((R 8) j)) dX9_rows_116 rfl ⟨by omega, by decide⟩ ?_
        refine hC.iadd dX9_rows_117 ?_
        rw [nI_add]
        refine hC.istore dX9_rows_118 (by decide) ?_
        refine hC.aload_n dX9_rows_120 rfl ?_
        refine hC.getfield dX9_rows_121 lfX9_71 rfl rfl ?_
        refine hC.iload dX9_rows_124 rfl ?_
        refine hC.dup2 dX9_rows_126 rfl rfl ?_
        refine hC.iaN (f := fun j => nI ((rowL (fun j => mb j ||| 2 ^ f j) mb i) j)) dX9_rows_127 rfl ⟨by omega, by decide⟩ ?_
        rw [rowL_at]
        refine hC.iconst dX9_rows_128 (v := nI 1) rfl ?_
        refine hC.aload_n dX9_rows_129 rfl ?_
        refine hC.getfield dX9_rows_130 lfX9_65 rfl rfl ?_
        refine hC.iload dX9_rows_133 rfl ?_
        refine hC.iaN (f := fun j => nI (f j)) dX9_rows_135 rfl ⟨by omega, by decide⟩ ?_
        refine hC.ishl dX9_rows_136 ?_
        rw [nI_shl (by omega), Nat.one_mul]
        refine hC.ior dX9_rows_137 ?_
        rw [nI_or]
        refine hC.isN dX9_rows_138 rfl ⟨by omega, by decide⟩ ?_
        refine hC.iinc dX9_rows_139 rfl (nI_1 _) (by decide) ?_
        refine hC.goto dX9_rows_142 (tgt := 94) rfl ?_
        exact hC.loc rfl ih
  refine hC.iconst dX9_rows_88 (v := nI 0) rfl ?_
  refine hC.istore dX9_rows_89 (by decide) ?_
  refine hC.iconst dX9_rows_91 (v := nI 0) rfl ?_
  refine hC.istore dX9_rows_92 (by decide) ?_
  have l0 := lp 0 (by omega)
  rw [rowL_0] at l0
  exact hC.loc rfl l0
set_option maxHeartbeats 8000000 in
set_option maxRecDepth 20000 in
theorem rw_walk (l : Launch) {K : AK} (hC : Cl l cX9_rows yX9_rows.cls 9 (rmD 2) K) (R : Nat → Nat → Nat) (F : Nat → Nat) (L : Nat → Int64) (h : MdOK R F) (hpr : ∀ k, R 8 k ≤ 99) (hlf : ∀ j, R 10 j < 16) (nr : Nat → Nat) (hnr : ∀ j, j < 8 → nr j < 256) (ch : Bool) (m : Nat) : ∀ (k a : Nat) (f : Nat → Nat) (σ : RwT), a + k = F 7 → (∀ j, a ≤ j → j < 8 → f j = NN) → (∀ j, j < a → f j < F 6) → σ.1 + 4 ^ k ≤ 2 ^ 20 → σ.2.1 ≤ 792 → K 74 [(0, .ref 0), (1, .int (nI ch.toNat)), (2, .int (nI ((colL nr (R 10) ch (F 6) k a f).foldl (lfS (R 8) (F 7)) σ).1)), (3, .int (nI ((colL nr (R 10) ch (F 6) k a f).foldl (lfS (R 8) (F 7)) σ).2.1)), (4, .int (nI m)), (5, .int (dpI a))] [] (mdW (rwR R f ((colL nr (R 10) ch (F 6) k a f).foldl (lfS (R 8) (F 7)) σ).2.2.2 ((colL nr (R 10) ch (F 6) k a f).foldl (lfS (R 8) (F 7)) σ).2.2.1 nr) F L) → K 74 [(0, .ref 0), (1, .int (nI ch.toNat)), (2, .int (nI σ.1)), (3, .int (nI σ.2.1)), (4, .int (nI m)), (5, .int (nI a))] [] (mdW (rwR R f σ.2.2.2 σ.2.2.1 nr) F L) := by
  have h4 := h.1
  have h8 := h.2.1
  have hsm : ∀ f : Nat → Nat, sm (fun j => R 8 (f j)) (F 7) ≤ 792 := fun f => by
    have := sm_le (fun s => hpr (f s)) (F 7)
    omega
  intro k
  induction k with
  | zero =>
    intro a f σ ha hfN hf hw hl hx
    have ha2 : a = F 7 := by omega
    subst ha2
    rw [colL, List.foldl_cons, List.foldl_nil] at hx
    refine hC.iload dX9_rows_74 rfl ?_
    refine hC.z_lt (by omega) dX9_rows_76 (tgt := 299) rfl ?_
    refine hC.iload dX9_rows_79 rfl ?_
    refine hC.aload_n dX9_rows_81 rfl ?_
    refine hC.getfield dX9_rows_82 lfX9_180 rfl rfl ?_
    refine hC.n_ne (a := F 7) (b := F 7) (by omega) (by omega) dX9_rows_85 (tgt := 220) rfl (fun c => absurd rfl c) (fun _ => ?_)
    have : (4 : Nat) ^ 0 = 1 := rfl
    exact rw_leaf l hC R F L h hpr nr ch m f σ hf (by omega) hl hx
  | succ k ih =>
    intro a f σ ha hfN hf hw hl hx
    have h4k : 4 ^ (k + 1) = 4 * 4 ^ k := by rw [Nat.pow_succ, Nat.mul_comm]
    have hfa : f a = NN := hfN a (Nat.le_refl a) (by omega)
    have key : ∀ t c u (σ2 : RwT), c + t = F 6 → nI u + nI 1 = nI c → σ2 = (apl (fun c => if okC nr (R 10) ch f a c = true then colL nr (R 10) ch (F 6) k (a + 1) (updN f a c) else []) c).foldl (lfS (R 8) (F 7)) σ → σ2.1 + t * 4 ^ k ≤ 2 ^ 20 → K 74 [(0, .ref 0), (1, .int (nI ch.toNat)), (2, .int (nI σ2.1)), (3, .int (nI σ2.2.1)), (4, .int (nI m)), (5, .int (nI a))] [] (mdW (rwR R (updN f a u) σ2.2.2.2 σ2.2.2.1 nr) F L) := by
      intro t
      induction t with
      | zero =>
        intro c u σ2 hc hu hσ hb
        have hc2 : c = F 6 := by omega
        rw [hc2] at hσ
        rw [show ((colL nr (R 10) ch (F 6) (k + 1) a f).foldl (lfS (R 8) (F 7)) σ) = σ2 by rw [hσ]; rfl] at hx
        refine hC.iload dX9_rows_74 rfl ?_
        refine hC.z_lt (by omega) dX9_rows_76 (tgt := 299) rfl ?_
        refine hC.iload dX9_rows_79 rfl ?_
        refine hC.aload_n dX9_rows_81 rfl ?_
        refine hC.getfield dX9_rows_82 lfX9_180 rfl rfl ?_
        refine hC.n_ne (a := a) (b := F 7) (by omega) (by omega) dX9_rows_85 (tgt := 220) rfl (fun _ => ?_) (fun c => absurd c (by omega))
        refine hC.aload_n dX9_rows_220 rfl ?_
        refine hC.getfield dX9_rows_221 lfX9_65 rfl rfl ?_
        refine hC.iload dX9_rows_224 rfl ?_
        refine hC.dup2 dX9_rows_226 rfl rfl ?_
        refine hC.iaN (f := fun j => nI ((updN f a u) j)) dX9_rows_227 rfl ⟨by omega, by decide⟩ ?_
        rw [updN_s]
        refine hC.iconst dX9_rows_228 (v := nI 1) rfl ?_
        refine hC.iadd dX9_rows_229 ?_
        rw [hu]
        refine hC.isN dX9_rows_230 rfl ⟨by omega, by decide⟩ ?_
        refine hC.aload_n dX9_rows_231 rfl ?_
        refine hC.getfield dX9_rows_232 lfX9_65 rfl rfl ?_
        refine hC.iload dX9_rows_235 rfl ?_
        refine hC.iaN (f := fun j => nI ((updN (updN f a u) a c) j)) dX9_rows_237 rfl ⟨by omega, by decide⟩ ?_
        rw [updN_s]
        refine hC.aload_n dX9_rows_238 rfl ?_
        refine hC.getfield dX9_rows_239 lfX9_183 rfl rfl ?_
        refine hC.n_ne (a := c) (b := F 6) (by omega) (by omega) dX9_rows_242 (tgt := 259) rfl (fun z => absurd hc2 z) (fun _ => ?_)
        refine hC.aload_n dX9_rows_245 rfl ?_
        refine hC.getfield dX9_rows_246 lfX9_65 rfl rfl ?_
        refine hC.iload dX9_rows_249 rfl ?_
        refine hC.iconst dX9_rows_251 (v := (-1)) rfl ?_
        rw [m1_nI]
        refine hC.isN dX9_rows_252 rfl ⟨by omega, by decide⟩ ?_
        refine hC.iinc dX9_rows_253 rfl (dpI_s a) (by decide) ?_
        refine hC.goto dX9_rows_256 (tgt := 74) rfl ?_
        rw [← updN_id hfa, ← updN_u f a c, ← updN_u f a u c] at hx
        exact hC.loc rfl hx
      | succ t iht =>
        intro c u σ2 hc hu hσ hb
        have hcl : c < F 6 := by omega
        have hlen : σ2.2.1 ≤ 792 := by rw [hσ]; exact lfS_le hsm _ σ hl
        have htk : (t + 1) * 4 ^ k = t * 4 ^ k + 4 ^ k := Nat.succ_mul t _
        have hst : apl (fun c => if okC nr (R 10) ch f a c = true then colL nr (R 10) ch (F 6) k (a + 1) (updN f a c) else []) (c + 1) = apl (fun c => if okC nr (R 10) ch f a c = true then colL nr (R 10) ch (F 6) k (a + 1) (updN f a c) else []) c ++ (if okC nr (R 10) ch f a c = true then colL nr (R 10) ch (F 6) k (a + 1) (updN f a c) else []) := rfl
        have no : okC nr (R 10) ch f a c = false → K 74 [(0, .ref 0), (1, .int (nI ch.toNat)), (2, .int (nI σ2.1)), (3, .int (nI σ2.2.1)), (4, .int (nI m)), (5, .int (nI a))] [] (mdW (rwR R (updN f a c) σ2.2.2.2 σ2.2.2.1 nr) F L) := by
          intro hno
          rw [if_neg (by rw [hno]; decide), List.append_nil] at hst
          exact iht (c + 1) c σ2 (by omega) (nI_add c 1) (by rw [hst]; exact hσ) (by omega)
        have k284 : (ch || (R 10 a).testBit c) = true → K 284 [(0, .ref 0), (1, .int (nI ch.toNat)), (2, .int (nI σ2.1)), (3, .int (nI σ2.2.1)), (4, .int (nI m)), (5, .int (nI a))] [] (mdW (rwR R (updN f a c) σ2.2.2.2 σ2.2.2.1 nr) F L) := by
          intro hch
          have hu4 : ∀ j, j ≤ a → updN f a c j < 4 := fun j hj => by
            by_cases e : j = a
            · rw [e, updN_s]; omega
            · rw [updN_n e]; have := hf j (by omega); omega
          refine hC.aload_n dX9_rows_284 rfl ?_
          refine hC.iload dX9_rows_285 rfl ?_
          refine hC.rdV [0, 1, 2, 3, 4, 5, 6, 7, 8, 9, 10, 11, 12, 13, 14, 15, 16, 17, 18, 19, 20, 21, 22, 23, 24, 25] dX9_rows_287 lmX9_279 mkX9_isApart svX9_isApart (ct_X9_isApart l (rwR R (updN f a c) σ2.2.2.2 σ2.2.2.1 nr) F L a (by omega) (hnr a (by omega)) hu4) ⟨Nat.le_of_ble_eq_true rfl, Nat.le_of_ble_eq_true rfl⟩ rfl rfl (Nat.le_of_ble_eq_true rfl) ⟨by decide, rfl⟩ rfl rfl ?_
          rw [show apB ((rwR R (updN f a c) σ2.2.2.2 σ2.2.2.1 nr) 22) ((rwR R (updN f a c) σ2.2.2.2 σ2.2.2.1 nr) 19) a = apB nr (updN f a c) a from rfl]
          refine hC.bz dX9_rows_290 (tgt := 74) rfl (fun c5 => ?_) (fun c5 => ?_)
          · exact no (by rw [okC, c5]; simp)
          · have hok : okC nr (R 10) ch f a c = true := by rw [okC, hch, c5]; rfl
            rw [if_pos hok] at hst
            refine hC.iinc dX9_rows_293 rfl (nI_1 _) (by decide) ?_
            refine hC.goto dX9_rows_296 (tgt := 74) rfl ?_
            refine hC.loc rfl (ih (a + 1) (updN f a c) σ2 (by omega) (fun j h1 h2 => by rw [updN_n (by omega)]; exact hfN j (by omega) h2) (fun j hj => by
              by_cases e : j = a
              · rw [e, updN_s]; exact hcl
              · rw [updN_n e]; exact hf j (by omega)) (by omega) hlen ?_)
            rw [dpI_succ]
            have hl3 := lfS_len (R 8) (F 7) (colL nr (R 10) ch (F 6) k (a + 1) (updN f a c)) σ2
            have hl4 := colL_len (nr := nr) (lf := R 10) (ch := ch) h4 k (a + 1) (updN f a c)
            exact iht (c + 1) c _ (by omega) (nI_add c 1) (by rw [hst, List.foldl_append, ← hσ]) (by omega)
        refine hC.iload dX9_rows_74 rfl ?_
        refine hC.z_lt (by omega) dX9_rows_76 (tgt := 299) rfl ?_
        refine hC.iload dX9_rows_79 rfl ?_
        refine hC.aload_n dX9_rows_81 rfl ?_
        refine hC.getfield dX9_rows_82 lfX9_180 rfl rfl ?_
        refine hC.n_ne (a := a) (b := F 7) (by omega) (by omega) dX9_rows_85 (tgt := 220) rfl (fun _ => ?_) (fun c => absurd c (by omega))
        refine hC.aload_n dX9_rows_220 rfl ?_
        refine hC.getfield dX9_rows_221 lfX9_65 rfl rfl ?_
        refine hC.iload dX9_rows_224 rfl ?_
        refine hC.dup2 dX9_rows_226 rfl rfl ?_
        refine hC.iaN (f := fun j => nI ((updN f a u) j)) dX9_rows_227 rfl ⟨by omega, by decide⟩ ?_
        rw [updN_s]
        refine hC.iconst dX9_rows_228 (v := nI 1) rfl ?_
        refine hC.iadd dX9_rows_229 ?_
        rw [hu]
        refine hC.isN dX9_rows_230 rfl ⟨by omega, by decide⟩ ?_
        have k231 : K 231 [(0, .ref 0), (1, .int (nI ch.toNat)), (2, .int (nI σ2.1)), (3, .int (nI σ2.2.1)), (4, .int (nI m)), (5, .int (nI a))] [] (mdW (rwR R (updN f a c) σ2.2.2.2 σ2.2.2.1 nr) F L) := by
          have hla := hlf a
          refine hC.aload_n dX9_rows_231 rfl ?_
          refine hC.getfield dX9_rows_232 lfX9_65 rfl rfl ?_
          refine hC.iload dX9_rows_235 rfl ?_
          refine hC.iaN (f := fun j => nI ((updN f a c) j)) dX9_rows_237 rfl ⟨by omega, by decide⟩ ?_
          rw [updN_s]
          refine hC.aload_n dX9_rows_238 rfl ?_
          refine hC.getfield dX9_rows_239 lfX9_183 rfl rfl ?_
          refine hC.n_ne (a := c) (b := F 6) (by omega) (by omega) dX9_rows_242 (tgt := 259) rfl (fun _ => ?_) (fun z => absurd z (by omega))
          refine hC.iload_n dX9_rows_259 rfl ?_
          refine hC.bnz dX9_rows_260 (tgt := 284) rfl (fun c3 => ?_) (fun c3 => ?_)
          · exact k284 (by rw [c3]; rfl)
          · refine hC.aload_n dX9_rows_263 rfl ?_
            refine hC.getfield dX9_rows_264 lfX9_37 rfl rfl ?_
            refine hC.iload dX9_rows_267 rfl ?_
            refine hC.iaN (f := fun j => nI ((R 10) j)) dX9_rows_269 rfl ⟨by omega, by decide⟩ ?_
            refine hC.aload_n dX9_rows_270 rfl ?_
            refine hC.getfield dX9_rows_271 lfX9_65 rfl rfl ?_
            refine hC.iload dX9_rows_274 rfl ?_
            refine hC.iaN (f := fun j => nI ((updN f a c) j)) dX9_rows_276 rfl ⟨by omega, by decide⟩ ?_
            rw [updN_s]
            refine hC.ishr dX9_rows_277 ?_
            refine hC.iconst dX9_rows_278 (v := nI 1) rfl ?_
            refine hC.iand dX9_rows_279 ?_
            rw [nI_bit (by omega) (by omega)]
            refine hC.iconst dX9_rows_280 (v := nI 1) rfl ?_
            refine hC.b1_ne dX9_rows_281 (tgt := 74) rfl (fun c4 => ?_) (fun c4 => ?_)
            · exact no (by rw [okC, c3, c4]; rfl)
            · exact k284 (by rw [c4]; simp)
        rw [← updN_u f a u c] at k231
        exact hC.loc rfl k231
    have k0 := key (F 6) 0 NN σ (by omega) NN_1 rfl (by
      have : F 6 * 4 ^ k ≤ 4 * 4 ^ k := Nat.mul_le_mul_right _ h4
      omega)
    rw [updN_id hfa] at k0
    exact k0
def nrG (R : Nat → Nat → Nat) (F : Nat → Nat) (m a : Nat) : Nat := if a < F 7 then nearM R F a m else 0
theorem nrG_lt {R : Nat → Nat → Nat} {F : Nat → Nat} (h : MdOK R F) (m a : Nat) : nrG R F m a < 256 := by
  unfold nrG; split
  · exact nearM_lt h a m
  · decide
/-- what rows leaves: ways, least sum, what may be, the least found -/
noncomputable def rwF (R : Nat → Nat → Nat) (F : Nat → Nat) (ch : Bool) : RwT := (colL (rowL (nrG R F (thF (stM R F) 0)) (R 22) 8) (R 10) ch (F 6) (F 7) 0 (rowL (fun _ => NN) (R 19) 8)).foldl (lfS (R 8) (F 7)) (0, 0, rowL (fun _ => 0) (R 21) 8, R 20)
noncomputable abbrev rwE (R : Nat → Nat → Nat) (F : Nat → Nat) (ch : Bool) : Nat → Nat → Nat := rwR R (rowL (fun _ => NN) (R 19) 8) (rwF R F ch).2.2.2 (rwF R F ch).2.2.1 (rowL (nrG R F (thF (stM R F) 0)) (R 22) 8)
set_option maxHeartbeats 4000000 in
set_option maxRecDepth 20000 in
theorem ct_X9_rows (l : Launch) (R : Nat → Nat → Nat) (F : Nat → Nat) (L : Nat → Int64) (h : MdOK R F) (hpr : ∀ k, R 8 k ≤ 99) (hlf : ∀ j, R 10 j < 16) (ch : Bool) : Ct l 2 yX9_rows cX9_rows 9 (some .int) [.ref 0, .int (nI ch.toNat)] (mdW R F L) (RV (.int (nI (rwF R F ch).1)) (mdW (rwE R F ch) (updN F 13 (rwF R F ch).2.1) L)) := by
  refine Ct.of (by decide) (Nat.le_of_ble_eq_true rfl) (fun K hC hR => ?_)
  show K 0 [(0, .ref 0), (1, .int (nI ch.toNat))] [] _
  have h8 := h.2.1
  have hm := thF_lt (stM R F) 0
  have hdef : rwF R F ch = (colL (rowL (nrG R F (thF (stM R F) 0)) (R 22) 8) (R 10) ch (F 6) (F 7) 0 (rowL (fun _ => NN) (R 19) 8)).foldl (lfS (R 8) (F 7)) (0, 0, rowL (fun _ => 0) (R 21) 8, R 20) := rfl
  have hRe : rwE R F ch = rwR R (rowL (fun _ => NN) (R 19) 8) (rwF R F ch).2.2.2 (rwF R F ch).2.2.1 (rowL (nrG R F (thF (stM R F) 0)) (R 22) 8) := rfl
  rw [hRe] at hR
  refine hC.iconst dX9_rows_0 (v := nI 0) rfl ?_
  refine hC.istore_n dX9_rows_1 (by decide) ?_
  refine hC.iconst dX9_rows_2 (v := nI 0) rfl ?_
  refine hC.istore_n dX9_rows_3 (by decide) ?_
  refine hC.aload_n dX9_rows_4 rfl ?_
  refine hC.iconst dX9_rows_5 (v := nI 0) rfl ?_
  refine hC.rdV [0, 1, 2, 3, 4, 5, 6, 7, 8, 9, 10, 11, 12, 13, 14, 15, 16, 17, 18, 19, 20, 21, 22, 23, 24, 25] dX9_rows_6 lmX9_198 mkX9_there svX9_there (ct_X9_there l R F L h 0 (by decide)) ⟨Nat.le_of_ble_eq_true rfl, Nat.le_of_ble_eq_true rfl⟩ rfl rfl (Nat.le_of_ble_eq_true rfl) ⟨by decide, rfl⟩ rfl rfl ?_
  generalize hmg : thF (stM R F) 0 = m at hm hR hdef ⊢
  have k74 : K 74 [(0, .ref 0), (1, .int (nI ch.toNat)), (2, .int (nI 0)), (3, .int (nI 0)), (4, .int (nI m)), (5, .int (nI 0))] [] (mdW (rwR R (rowL (fun _ => NN) (R 19) 8) (R 20) (rowL (fun _ => 0) (R 21) 8) (rowL (nrG R F m) (R 22) 8)) F L) := by
    refine rw_walk l hC R F L h hpr hlf (rowL (nrG R F m) (R 22) 8) (fun j hj => by rw [rowL, if_pos hj]; exact nrG_lt h m j) ch m (F 7) 0 (rowL (fun _ => NN) (R 19) 8) (0, 0, rowL (fun _ => 0) (R 21) 8, R 20) (by omega) (fun j _ h2 => by rw [rowL, if_pos h2]) (fun j hj => absurd hj (Nat.not_lt_zero j)) ?_ (Nat.zero_le _) ?_
    · have : (4 : Nat) ^ F 7 ≤ 4 ^ 8 := Nat.pow_le_pow_right (by decide) h8
      show 0 + 4 ^ F 7 ≤ 2 ^ 20
      omega
    · rw [← hdef, show dpI 0 = -1 from rfl]
      refine hC.iload dX9_rows_74 rfl ?_
      refine hC.if_lt dX9_rows_76 (tgt := 299) rfl (fun _ => ?_) (fun c => absurd (by decide) c)
      refine hC.aload_n dX9_rows_299 rfl ?_
      refine hC.iload_n dX9_rows_300 rfl ?_
      refine hC.putI dX9_rows_301 lpX9_282 rfl rfl rfl (Nat.le_of_ble_eq_true rfl) ?_
      refine hC.iload_n dX9_rows_304 rfl ?_
      exact hR.ireturn dX9_rows_305 ⟨rfl, rfl⟩
  have lp : ∀ i, i ≤ 8 → K 14 [(0, .ref 0), (1, .int (nI ch.toNat)), (2, .int (nI 0)), (3, .int (nI 0)), (4, .int (nI m)), (5, .int (nI i))] [] (mdW (rwR R (rowL (fun _ => NN) (R 19) i) (R 20) (rowL (fun _ => 0) (R 21) i) (rowL (nrG R F m) (R 22) i)) F L) := by
    refine loopUp1 _ 8 ?_ (fun i hi ih => ?_)
    · refine hC.iload dX9_rows_14 rfl ?_
      refine hC.bipush dX9_rows_16 (v := nI 8) rfl ?_
      refine hC.n_ge (by omega) (by omega) dX9_rows_18 (tgt := 71) rfl (fun c => ?_) (fun c => ?_)
      · refine hC.iconst dX9_rows_71 (v := nI 0) rfl ?_
        refine hC.istore dX9_rows_72 (by decide) ?_
        exact hC.loc rfl k74
      · omega
    · rw [show rowL (fun _ => NN) (R 19) (i + 1) = updN (rowL (fun _ => NN) (R 19) i) i NN from (rowL_s (fun _ => NN) (R 19) i).symm, show rowL (fun _ => 0) (R 21) (i + 1) = updN (rowL (fun _ => 0) (R 21) i) i 0 from (rowL_s (fun _ => 0) (R 21) i).symm, ← rowL_s (nrG R F m) (R 22) i] at ih
      have k37 : K 37 [(0, .ref 0), (1, .int (nI ch.toNat)), (2, .int (nI 0)), (3, .int (nI 0)), (4, .int (nI m)), (5, .int (nI i))] [] (mdW (rwR R (updN (rowL (fun _ => NN) (R 19) i) i NN) (R 20) (updN (rowL (fun _ => 0) (R 21) i) i 0) (rowL (nrG R F m) (R 22) i)) F L) := by
        have fin : ∀ z, z = nrG R F m i → K 64 [(0, .ref 0), (1, .int (nI ch.toNat)), (2, .int (nI 0)), (3, .int (nI 0)), (4, .int (nI m)), (5, .int (nI i))] [.int (nI z), .int (nI i), .ref 22] (mdW (rwR R (updN (rowL (fun _ => NN) (R 19) i) i NN) (R 20) (updN (rowL (fun _ => 0) (R 21) i) i 0) (rowL (nrG R F m) (R 22) i)) F L) := by
          intro z hz
          rw [← hz] at ih
          refine hC.isN dX9_rows_64 rfl ⟨by omega, by decide⟩ ?_
          refine hC.iinc dX9_rows_65 rfl (nI_1 _) (by decide) ?_
          refine hC.goto dX9_rows_68 (tgt := 14) rfl ?_
          exact hC.loc rfl ih
        refine hC.aload_n dX9_rows_37 rfl ?_
        refine hC.getfield dX9_rows_38 lfX9_74 rfl rfl ?_
        refine hC.iload dX9_rows_41 rfl ?_
        refine hC.iload dX9_rows_43 rfl ?_
        refine hC.aload_n dX9_rows_45 rfl ?_
        refine hC.getfield dX9_rows_46 lfX9_180 rfl rfl ?_
        refine hC.n_ge (a := i) (b := F 7) (by omega) (by omega) dX9_rows_49 (tgt := 63) rfl (fun c => ?_) (fun c => ?_)
        · refine hC.iconst dX9_rows_63 (v := nI 0) rfl ?_
          exact hC.loc rfl (fin 0 (by rw [nrG, if_neg (by omega)]))
        · refine hC.aload_n dX9_rows_52 rfl ?_
          refine hC.iload dX9_rows_53 rfl ?_
          refine hC.iload dX9_rows_55 rfl ?_
          refine hC.rdV [0, 1, 2, 3, 4, 5, 6, 7, 8, 9, 10, 11, 12, 13, 14, 15, 16, 17, 18, 19, 20, 21, 22, 23, 24, 25] dX9_rows_57 lmX9_218 mkX9_borders svX9_borders (ct_X9_borders l (rwR R (updN (rowL (fun _ => NN) (R 19) i) i NN) (R 20) (updN (rowL (fun _ => 0) (R 21) i) i 0) (rowL (nrG R F m) (R 22) i)) F L h i m (by omega) (by omega)) ⟨Nat.le_of_ble_eq_true rfl, Nat.le_of_ble_eq_true rfl⟩ rfl rfl (Nat.le_of_ble_eq_true rfl) ⟨by decide, rfl⟩ rfl rfl ?_
          refine hC.goto dX9_rows_60 (tgt := 64) rfl ?_
          exact hC.loc rfl (fin _ (by rw [nrG, if_pos c]; rfl))
      refine hC.iload dX9_rows_14 rfl ?_
      refine hC.bipush dX9_rows_16 (v := nI 8) rfl ?_
      refine hC.n_ge (by omega) (by omega) dX9_rows_18 (tgt := 71) rfl (fun c => ?_) (fun c => ?_)
      · omega
      · refine hC.aload_n dX9_rows_21 rfl ?_
        refine hC.getfield dX9_rows_22 lfX9_65 rfl rfl ?_
        refine hC.iload dX9_rows_25 rfl ?_
        refine hC.iconst dX9_rows_27 (v := (-1)) rfl ?_
        rw [m1_nI]
        refine hC.isN dX9_rows_28 rfl ⟨by omega, by decide⟩ ?_
        refine hC.aload_n dX9_rows_29 rfl ?_
        refine hC.getfield dX9_rows_30 lfX9_71 rfl rfl ?_
        refine hC.iload dX9_rows_33 rfl ?_
        refine hC.iconst dX9_rows_35 (v := nI 0) rfl ?_
        refine hC.isN dX9_rows_36 rfl ⟨by omega, by decide⟩ ?_
        exact hC.loc rfl k37
  refine hC.istore dX9_rows_9 (by decide) ?_
  refine hC.iconst dX9_rows_11 (v := nI 0) rfl ?_
  refine hC.istore dX9_rows_12 (by decide) ?_
  have l0 := lp 0 (by omega)
  rw [rowL_0, rowL_0, rowL_0] at l0
  exact hC.loc rfl l0
/-- only the scratch rows, firstMove, cheapest have changed -/
def mdQ (R : Nat → Nat → Nat) (F : Nat → Nat) (R2 : Nat → Nat → Nat) (F2 : Nat → Nat) : Prop := (∀ j, j < 16 ∨ 22 < j → R2 j = R j) ∧ (∀ j, j ≠ 12 → j ≠ 13 → F2 j = F j)
theorem mdQ_rf (R : Nat → Nat → Nat) (F : Nat → Nat) : mdQ R F R F := ⟨fun _ _ => rfl, fun _ _ _ => rfl⟩
theorem mdQ_rw (R : Nat → Nat → Nat) (F : Nat → Nat) (f fo mb nr : Nat → Nat) (v : Nat) : mdQ R F (rwR R f fo mb nr) (updN F 13 v) := ⟨fun j hj => by
  simp only [rwR, upR]
  rw [if_neg (by omega), if_neg (by omega), if_neg (by omega), if_neg (by omega)], fun j _ h13 => updN_n h13⟩
theorem mdQ_p (R : Nat → Nat → Nat) (F : Nat → Nat) (f g e : Nat → Nat) (v : Nat) : mdQ R F (pR R f g e) (updN F 12 v) := ⟨fun j hj => by
  simp only [pR, upR]
  rw [if_neg (by omega), if_neg (by omega), if_neg (by omega)], fun j h12 _ => updN_n h12⟩
noncomputable def mCol (R : Nat → Nat → Nat) (F : Nat → Nat) (x : Int32) : Int32 := if x = nI NN ∨ inB x (F 7) = true then (if (rwF R F true).1 = 0 then nI NN else if x = nI NN then nI (rwF R F true).2.1 else nI ((rwF R F true).2.2.2 (ix x))) else cU
theorem rwF_lt {R : Nat → Nat → Nat} {F : Nat → Nat} (h : MdOK R F) (ch : Bool) : (rwF R F ch).1 < 2 ^ 30 := by
  have h1 := colL_len (nr := rowL (nrG R F (thF (stM R F) 0)) (R 22) 8) (lf := R 10) (ch := ch) h.1 (F 7) 0 (rowL (fun _ => NN) (R 19) 8)
  have h2 : (4 : Nat) ^ F 7 ≤ 4 ^ 8 := Nat.pow_le_pow_right (by decide) h.2.1
  unfold rwF
  rw [lfS_len]
  show 0 + _ < 2 ^ 30
  omega
set_option maxHeartbeats 4000000 in
set_option maxRecDepth 20000 in
theorem ct_X9_colours (l : Launch) (R : Nat → Nat → Nat) (F : Nat → Nat) (L : Nat → Int64) (h : MdOK R F) (hpr : ∀ k, R 8 k ≤ 99) (hlf : ∀ j, R 10 j < 16) (x : Int32) : Ct l 3 yX9_colours cX9_colours 2 (some .int) [.ref 0, .int x] (mdW R F L) (fun r h2 => ∃ R2 F2, r = some (.int (mCol R F x)) ∧ h2 = mdW R2 F2 L ∧ mdQ R F R2 F2) := by
  refine Ct.of (by decide) (Nat.le_of_ble_eq_true rfl) (fun K hC hR => ?_)
  show K 0 [(0, .ref 0), (1, .int x)] [] _
  have h8 := h.2.1
  have hlt := rwF_lt h true
  have k16 : (x = nI NN ∨ inB x (F 7) = true) → K 16 [(0, .ref 0), (1, .int x)] [] (mdW R F L) := by
    intro hx
    rw [mCol, if_pos hx] at hR
    refine hC.aload_n dX9_colours_16 rfl ?_
    refine hC.iconst dX9_colours_17 (v := nI 1) rfl ?_
    refine hC.wrVs dX9_colours_18 lmX9_285 mkX9_rows svX9_rows (ct_X9_rows l R F L h hpr hlf true) ⟨Nat.le_of_ble_eq_true rfl, Nat.le_of_ble_eq_true rfl⟩ rfl rfl (Nat.le_of_ble_eq_true rfl) rfl rfl ?_
    refine hC.nnz (by omega) dX9_colours_21 (tgt := 26) rfl (fun c1 => ?_) (fun c1 => ?_)
    · rw [if_neg c1] at hR
      refine hC.iload_n dX9_colours_26 rfl ?_
      refine hC.iconst dX9_colours_27 (v := (-1)) rfl ?_
      rw [m1_nI]
      refine hC.icmp_ne dX9_colours_28 (tgt := 38) rfl (fun c2 => ?_) (fun c2 => ?_)
      · have c2 : ¬ x = nI NN := c2
        obtain ⟨a, ha, rfl⟩ := inB_of (hx.resolve_left c2) (by omega)
        rw [if_neg c2, show ix (nI a) = a from nI_clamp (by omega)] at hR
        refine hC.aload_n dX9_colours_38 rfl ?_
        refine hC.getfield dX9_colours_39 lfX9_68 rfl rfl ?_
        refine hC.iload_n dX9_colours_42 rfl ?_
        refine hC.iaN (f := fun j => nI ((rwF R F true).2.2.2 j)) dX9_colours_43 rfl ⟨by omega, by decide⟩ ?_
        exact hR.ireturn dX9_colours_44 ⟨_, _, rfl, rfl, mdQ_rw R F _ _ _ _ _⟩
      · have c2 : x = nI NN := c2
        rw [if_pos c2] at hR
        refine hC.aload_n dX9_colours_31 rfl ?_
        refine hC.getfield dX9_colours_32 lfX9_282 rfl rfl ?_
        refine hC.goto dX9_colours_35 (tgt := 44) rfl ?_
        exact hR.ireturn dX9_colours_44 ⟨_, _, rfl, rfl, mdQ_rw R F _ _ _ _ _⟩
    · rw [if_pos c1] at hR
      refine hC.iconst dX9_colours_24 (v := (-1)) rfl ?_
      rw [m1_nI]
      exact hR.ireturn dX9_colours_25 ⟨_, _, rfl, rfl, mdQ_rw R F _ _ _ _ _⟩
  refine hC.iload_n dX9_colours_0 rfl ?_
  refine hC.iconst dX9_colours_1 (v := (-1)) rfl ?_
  rw [m1_nI]
  refine hC.icmp_eq dX9_colours_2 (tgt := 16) rfl (fun c0 => ?_) (fun c0 => ?_)
  · exact k16 (Or.inl c0)
  · have c0 : ¬ x = nI NN := c0
    refine hC.aload_n dX9_colours_5 rfl ?_
    refine hC.iload_n dX9_colours_6 rfl ?_
    refine hC.rdV [0, 1, 2, 3, 4, 5, 6, 7, 8, 9, 10, 11, 12, 13, 14, 15, 16, 17, 18, 19, 20, 21, 22, 23, 24, 25] dX9_colours_7 lmX9_212 mkX9_isStrip svX9_isStrip (ct_X9_isStrip l R F L (by omega) x) ⟨Nat.le_of_ble_eq_true rfl, Nat.le_of_ble_eq_true rfl⟩ rfl rfl (Nat.le_of_ble_eq_true rfl) ⟨by decide, rfl⟩ rfl rfl ?_
    refine hC.bnz dX9_colours_10 (tgt := 16) rfl (fun c1 => ?_) (fun c1 => ?_)
    · exact k16 (Or.inr c1)
    · rw [mCol, if_neg (fun z => z.elim c0 (fun z => by rw [c1] at z; exact absurd z (by decide)))] at hR
      refine hC.ldc dX9_colours_13 lcX9_205 ?_
      exact hR.ireturn dX9_colours_15 ⟨R, F, rfl, rfl, mdQ_rf R F⟩
set_option maxHeartbeats 4000000 in
set_option maxRecDepth 20000 in
theorem ct_X9_fits (l : Launch) (R : Nat → Nat → Nat) (F : Nat → Nat) (L : Nat → Int64) (h : MdOK R F) (hpr : ∀ k, R 8 k ≤ 99) (hlf : ∀ j, R 10 j < 16) : Ct l 3 yX9_fits cX9_fits 1 (some .int) [.ref 0] (mdW R F L) (fun r h2 => ∃ R2 F2, r = some (.int (nI (rwF R F false).1)) ∧ h2 = mdW R2 F2 L ∧ mdQ R F R2 F2) := by
  refine Ct.of (by decide) (Nat.le_of_ble_eq_true rfl) (fun K hC hR => ?_)
  show K 0 [(0, .ref 0)] [] _
  refine hC.aload_n dX9_fits_0 rfl ?_
  refine hC.iconst dX9_fits_1 (v := nI 0) rfl ?_
  refine hC.wrVs dX9_fits_2 lmX9_285 mkX9_rows svX9_rows (ct_X9_rows l R F L h hpr hlf false) ⟨Nat.le_of_ble_eq_true rfl, Nat.le_of_ble_eq_true rfl⟩ rfl rfl (Nat.le_of_ble_eq_true rfl) rfl rfl ?_
  exact hR.ireturn dX9_fits_5 ⟨_, _, rfl, rfl, mdQ_rw R F _ _ _ _ _⟩
noncomputable def mSure (R : Nat → Nat → Nat) (F : Nat → Nat) (x : Int32) : Int32 := if inB x (F 7) = true then (if 0 < (rwF R F false).1 ∧ cd ((rwF R F false).2.2.1 (ix x)) = 1 then nI ((rwF R F false).2.2.2 (ix x)) else nI NN) else cU
theorem colL_mem {nr lf : Nat → Nat} {ch : Bool} {C : Nat} : ∀ k a f g, g ∈ colL nr lf ch C k a f → (∀ j, j < a → g j = f j) ∧ (∀ j, a ≤ j → j < a + k → g j < C)
  | 0, a, f, g, hg => by
    rw [colL, List.mem_singleton] at hg
    subst hg
    exact ⟨fun _ _ => rfl, fun j h1 h2 => by omega⟩
  | k + 1, a, f, g, hg => by
    have key : ∀ C2, C2 ≤ C → g ∈ apl (fun c => if okC nr lf ch f a c = true then colL nr lf ch C k (a + 1) (updN f a c) else []) C2 → ∃ c, c < C ∧ g ∈ colL nr lf ch C k (a + 1) (updN f a c) := by
      intro C2
      induction C2 with
      | zero => intro _ hg; exact absurd hg List.not_mem_nil
      | succ C2 ih =>
        intro hC2 hg
        rw [apl, List.mem_append] at hg
        rcases hg with hg | hg
        · exact ih (by omega) hg
        · split at hg
          · exact ⟨C2, by omega, hg⟩
          · exact absurd hg List.not_mem_nil
    rw [colL] at hg
    obtain ⟨c, hc, hg2⟩ := key C (Nat.le_refl C) hg
    obtain ⟨h1, h2⟩ := colL_mem k (a + 1) (updN f a c) g hg2
    refine ⟨fun j hj => by rw [h1 j (by omega), updN_n (by omega)], fun j hj1 hj2 => ?_⟩
    by_cases e : j = a
    · rw [e, h1 a (by omega), updN_s]; exact hc
    · exact h2 j (by omega) (by omega)
theorem mb_lt {pr : Nat → Nat} {S : Nat} : ∀ (xs : List (Nat → Nat)) (σ : RwT), (∀ g ∈ xs, ∀ j, j < S → g j < 4) → (∀ j, j < S → σ.2.2.1 j < 16) → ∀ j, j < S → (xs.foldl (lfS pr S) σ).2.2.1 j < 16
  | [], σ, _, h, j, hj => h j hj
  | x :: xs, σ, hx, h, j, hj => by
    rw [List.foldl_cons]
    refine mb_lt xs _ (fun g hg => hx g (List.mem_cons_of_mem _ hg)) (fun j hj => ?_) j hj
    show rowL (fun j => σ.2.2.1 j ||| 2 ^ x j) σ.2.2.1 S j < 16
    rw [rowL, if_pos hj]
    exact or_b 4 (h j hj) (Nat.pow_lt_pow_right (by decide) (hx x List.mem_cons_self j hj))
theorem rwF_mb {R : Nat → Nat → Nat} {F : Nat → Nat} (h : MdOK R F) (ch : Bool) {a : Nat} (ha : a < F 7) : (rwF R F ch).2.2.1 a < 16 := by
  have h8 := h.2.1
  have h4 := h.1
  refine mb_lt _ _ (fun g hg j hj => ?_) (fun j hj => ?_) a ha
  · have := (colL_mem _ _ _ g hg).2 j (Nat.zero_le _) (by omega)
    omega
  · show rowL (fun _ => 0) (R 21) 8 j < 16
    rw [rowL, if_pos (by omega)]
    decide
set_option maxHeartbeats 4000000 in
set_option maxRecDepth 20000 in
theorem ct_X9_sure (l : Launch) (R : Nat → Nat → Nat) (F : Nat → Nat) (L : Nat → Int64) (h : MdOK R F) (hpr : ∀ k, R 8 k ≤ 99) (hlf : ∀ j, R 10 j < 16) (x : Int32) : Ct l 3 yX9_sure cX9_sure 3 (some .int) [.ref 0, .int x] (mdW R F L) (fun r h2 => ∃ R2 F2, r = some (.int (mSure R F x)) ∧ h2 = mdW R2 F2 L ∧ mdQ R F R2 F2) := by
  refine Ct.of (by decide) (Nat.le_of_ble_eq_true rfl) (fun K hC hR => ?_)
  show K 0 [(0, .ref 0), (1, .int x)] [] _
  have h8 := h.2.1
  have hlt := rwF_lt h false
  refine hC.aload_n dX9_sure_0 rfl ?_
  refine hC.iload_n dX9_sure_1 rfl ?_
  refine hC.rdV [0, 1, 2, 3, 4, 5, 6, 7, 8, 9, 10, 11, 12, 13, 14, 15, 16, 17, 18, 19, 20, 21, 22, 23, 24, 25] dX9_sure_2 lmX9_212 mkX9_isStrip svX9_isStrip (ct_X9_isStrip l R F L (by omega) x) ⟨Nat.le_of_ble_eq_true rfl, Nat.le_of_ble_eq_true rfl⟩ rfl rfl (Nat.le_of_ble_eq_true rfl) ⟨by decide, rfl⟩ rfl rfl ?_
  refine hC.bnz dX9_sure_5 (tgt := 11) rfl (fun c1 => ?_) (fun c1 => ?_)
  · obtain ⟨a, ha, rfl⟩ := inB_of c1 (by omega)
    have hix : ix (nI a) = a := nI_clamp (by omega)
    rw [mSure, if_pos c1, hix] at hR
    have hmb := rwF_mb h false ha
    have hcd := cd_le ((rwF R F false).2.2.1 a)
    refine hC.aload_n dX9_sure_11 rfl ?_
    refine hC.iconst dX9_sure_12 (v := nI 0) rfl ?_
    refine hC.wrVs dX9_sure_13 lmX9_285 mkX9_rows svX9_rows (ct_X9_rows l R F L h hpr hlf false) ⟨Nat.le_of_ble_eq_true rfl, Nat.le_of_ble_eq_true rfl⟩ rfl rfl (Nat.le_of_ble_eq_true rfl) rfl rfl ?_
    have k37 : ∀ p : Bool, p = decide (0 < (rwF R F false).1 ∧ cd ((rwF R F false).2.2.1 a) = 1) → K 37 [(0, .ref 0), (1, .int (nI a))] [.int (nI p.toNat)] (mdW (rwE R F false) (updN F 13 (rwF R F false).2.1) L) := by
      intro p hp
      refine hC.istore_n dX9_sure_37 (by decide) ?_
      refine hC.iload_n dX9_sure_38 rfl ?_
      refine hC.bz dX9_sure_39 (tgt := 51) rfl (fun c2 => ?_) (fun c2 => ?_)
      · rw [hp] at c2
        rw [if_neg (of_decide_eq_false c2)] at hR
        refine hC.iconst dX9_sure_51 (v := (-1)) rfl ?_
        rw [m1_nI]
        exact hR.ireturn dX9_sure_52 ⟨_, _, rfl, rfl, mdQ_rw R F _ _ _ _ _⟩
      · rw [hp] at c2
        rw [if_pos (of_decide_eq_true c2)] at hR
        refine hC.aload_n dX9_sure_42 rfl ?_
        refine hC.getfield dX9_sure_43 lfX9_68 rfl rfl ?_
        refine hC.iload_n dX9_sure_46 rfl ?_
        refine hC.iaN (f := fun j => nI ((rwF R F false).2.2.2 j)) dX9_sure_47 rfl ⟨by omega, by decide⟩ ?_
        refine hC.goto dX9_sure_48 (tgt := 52) rfl ?_
        exact hR.ireturn dX9_sure_52 ⟨_, _, rfl, rfl, mdQ_rw R F _ _ _ _ _⟩
    refine hC.z_le (by omega) dX9_sure_16 (tgt := 36) rfl (fun c2 => ?_) (fun c2 => ?_)
    · refine hC.iconst dX9_sure_36 (v := nI 0) rfl ?_
      exact hC.loc rfl (k37 false (decide_eq_false (by omega)).symm)
    · refine hC.aload_n dX9_sure_19 rfl ?_
      refine hC.getfield dX9_sure_20 lfX9_71 rfl rfl ?_
      refine hC.iload_n dX9_sure_23 rfl ?_
      refine hC.iaN (f := fun j => nI ((rwF R F false).2.2.1 j)) dX9_sure_24 rfl ⟨by omega, by decide⟩ ?_
      refine hC.rdS [] dX9_sure_25 lmX9_231 mkX9_size sxX9_size (ct_X9_size l ((rwF R F false).2.2.1 a) (by omega)) ⟨Nat.le_of_ble_eq_true rfl, Nat.le_of_ble_eq_true rfl⟩ rfl rfl (Nat.le_of_ble_eq_true rfl) ⟨by decide, rfl⟩ ?_
      refine hC.iconst dX9_sure_28 (v := nI 1) rfl ?_
      refine hC.n_ne (by omega) (by omega) dX9_sure_29 (tgt := 36) rfl (fun c3 => ?_) (fun c3 => ?_)
      · refine hC.iconst dX9_sure_36 (v := nI 0) rfl ?_
        exact hC.loc rfl (k37 false (decide_eq_false (by omega)).symm)
      · refine hC.iconst dX9_sure_32 (v := nI 1) rfl ?_
        refine hC.goto dX9_sure_33 (tgt := 37) rfl ?_
        exact hC.loc rfl (k37 true (decide_eq_true ⟨c2, c3⟩).symm)
  · rw [mSure, if_neg (by simp [c1])] at hR
    refine hC.ldc dX9_sure_8 lcX9_205 ?_
    exact hR.ireturn dX9_sure_10 ⟨R, F, rfl, rfl, mdQ_rf R F⟩
