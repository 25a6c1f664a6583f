/-! StripFlagModel: doLast, lasts -/
/-- what goes at a, b, c -/
def dlT (g n a b c : Nat) : Nat := (if 2 < n then (if 1 < n then g &&& 2 ^ a ||| g &&& 2 ^ b else g &&& 2 ^ a) ||| g &&& 2 ^ c else (if 1 < n then g &&& 2 ^ a ||| g &&& 2 ^ b else g &&& 2 ^ a))
def dlOk (R : Nat → Nat → Nat) (t m g n a b c : Nat) : Prop := andn t (flyF (EM R) 20 (andn m (dlT g n a b c))) = 0
/-- all tries at a; at a, b -/
def dlC (R : Nat → Nat → Nat) (t m g n a b c0 : Nat) : Prop := ∀ c, c0 ≤ c → c ≤ b → (n ≤ 2 → c = 0) → dlOk R t m g n a b c
def dlBb (R : Nat → Nat → Nat) (t m g n a b0 : Nat) : Prop := ∀ b, b0 ≤ b → b ≤ a → g &&& 2 ^ a ≠ 0 → (n ≤ 1 → b = 0) → dlC R t m g n a b 0
def dlA (R : Nat → Nat → Nat) (t m g n a0 : Nat) : Prop := ∀ a, a0 ≤ a → a < 20 → 0 < n → dlBb R t m g n a 0
theorem decP_t {P : Prop} (h : P) : @decide P (Classical.propDecidable P) = true := @decide_eq_true P (Classical.propDecidable P) h
theorem decP_f {P : Prop} (h : ¬ P) : @decide P (Classical.propDecidable P) = false := @decide_eq_false P (Classical.propDecidable P) h
noncomputable def dlB (R : Nat → Nat → Nat) (t m g n : Nat) : Bool := @decide (andn t (flyF (EM R) 20 m) = 0 ∧ dlA R t m g n 0) (Classical.propDecidable _)
theorem dlT_lt {g n a b c : Nat} (hg : g < 2 ^ 20) : dlT g n a b c < 2 ^ 20 := by
  unfold dlT
  have h1 := @and_b g (2 ^ a) (2 ^ 20) hg
  have h2 := @and_b g (2 ^ b) (2 ^ 20) hg
  have h3 := @and_b g (2 ^ c) (2 ^ 20) hg
  split
  · split
    · exact or_b 20 (or_b 20 h1 h2) h3
    · exact or_b 20 h1 h3
  · split
    · exact or_b 20 h1 h2
    · exact h1
set_option maxHeartbeats 4000000 in
set_option maxRecDepth 20000 in
theorem ct_X9_doLast (l : Launch) (R : Nat → Nat → Nat) (F : Nat → Nat) (L : Nat → Int64) (h : MdOK R F) (t m g n : Nat) (ht : t < 2 ^ 31) (hm : m < 2 ^ 20) (hg : g < 2 ^ 20) (hn : n < 2 ^ 31) (hvm : ∀ s, m.testBit s = true → vS F s) : Ct l 1 yX9_doLast cX9_doLast 11 (some .boolean) [.ref 0, .int (nI t), .int (nI m), .int (nI g), .int (nI n)] (mdW R F L) (RV (.int (nI (dlB R t m g n).toNat)) (mdW R F L)) := by
  refine Ct.of (by decide) (Nat.le_of_ble_eq_true rfl) (fun K hC hR => ?_)
  show K 0 [(0, .ref 0), (1, .int (nI t)), (2, .int (nI m)), (3, .int (nI g)), (4, .int (nI n))] [] _
  refine hC.iload_n dX9_doLast_0 rfl ?_
  refine hC.aload_n dX9_doLast_1 rfl ?_
  refine hC.iload_n dX9_doLast_2 rfl ?_
  refine hC.rdV [0, 1, 2, 3, 4, 5, 6, 7, 8, 9, 10, 11, 12, 13, 14, 15, 16, 17, 18, 19, 20, 21, 22, 23, 24, 25] dX9_doLast_3 lmX9_223 mkX9_flying svX9_flying (ct_X9_flying l R F L h m (by omega) hvm) ⟨Nat.le_of_ble_eq_true rfl, Nat.le_of_ble_eq_true rfl⟩ rfl rfl (Nat.le_of_ble_eq_true rfl) ⟨by decide, rfl⟩ rfl rfl ?_
  refine hC.iconst dX9_doLast_6 (v := (-1)) rfl ?_
  refine hC.ixor dX9_doLast_7 ?_
  refine hC.iand dX9_doLast_8 ?_
  rw [nI_andn]
  refine hC.nz (andn_b (by omega)) dX9_doLast_9 (tgt := 14) rfl (fun c0 => ?_) (fun c0 => ?_)
  · refine hC.iconst dX9_doLast_14 (v := nI 0) rfl ?_
    refine hC.istore dX9_doLast_15 (by decide) ?_
    have yes : dlA R t m g n 0 → ∀ ls, K 173 ls [] (mdW R F L) := by
      intro hA ls
      rw [dlB, decP_t ⟨c0, hA⟩] at hR
      refine hC.iconst dX9_doLast_173 (v := nI 1) rfl ?_
      exact hR.zreturn dX9_doLast_174 (by first | decide | exact b01 _) ⟨rfl, rfl⟩
    have bad : ∀ a b c, a < 20 → 0 < n → g &&& 2 ^ a ≠ 0 → b ≤ a → (n ≤ 1 → b = 0) → c ≤ b → (n ≤ 2 → c = 0) → ¬ dlOk R t m g n a b c → ∀ ls, K 123 ls [] (mdW R F L) := by
      intro a b c h1 h2 h3 h4 h5 h6 h7 h8 ls
      rw [dlB, decP_f (fun z => h8 (z.2 a (Nat.zero_le a) h1 h2 b (Nat.zero_le b) h4 h3 h5 c (Nat.zero_le c) h6 h7))] at hR
      refine hC.iconst dX9_doLast_123 (v := nI 0) rfl ?_
      exact hR.zreturn dX9_doLast_124 (by first | decide | exact b01 _) ⟨rfl, rfl⟩
    have loop3 : ∀ a b, a < 20 → 0 < n → g &&& 2 ^ a ≠ 0 → b ≤ a → (n ≤ 1 → b = 0) → (dlC R t m g n a b 0 → ∀ z1 z2, K 146 [(0, .ref 0), (1, .int (nI t)), (2, .int (nI m)), (3, .int (nI g)), (4, .int (nI n)), (5, .int (nI a)), (6, .int (nI (g &&& 2 ^ a))), (7, .int (nI b)), (8, .int z1), (9, .int z2)] [] (mdW R F L)) → ∀ d c, c + d = b + 1 → (n ≤ 2 → c = 0 ∨ c = b + 1) → (∀ c2, c2 < c → (n ≤ 2 → c2 = 0) → dlOk R t m g n a b c2) → K 77 [(0, .ref 0), (1, .int (nI t)), (2, .int (nI m)), (3, .int (nI g)), (4, .int (nI n)), (5, .int (nI a)), (6, .int (nI (g &&& 2 ^ a))), (7, .int (nI b)), (8, .int (nI (if 1 < n then g &&& 2 ^ a ||| g &&& 2 ^ b else g &&& 2 ^ a))), (9, .int (nI c))] [] (mdW R F L) := by
      intro a b ha hn0 hga hba hb1 hexit d
      induction d using Nat.strongRecOn with
      | ind d ih =>
        intro c hcd hc2 hpre
        generalize hw : (if 1 < n then g &&& 2 ^ a ||| g &&& 2 ^ b else g &&& 2 ^ a) = w at ih hexit ⊢
        refine hC.iload dX9_doLast_77 rfl ?_
        refine hC.iload dX9_doLast_79 rfl ?_
        refine hC.n_gt (by omega) (by omega) dX9_doLast_81 (tgt := 146) rfl (fun e1 => ?_) (fun e1 => ?_)
        · exact hC.loc rfl (hexit (fun c3 _ h2 h3 => hpre c3 (by omega) h3) (nI w) (nI c))
        · have hT : ∀ v, v = dlT g n a b c → K 104 [(0, .ref 0), (1, .int (nI t)), (2, .int (nI m)), (3, .int (nI g)), (4, .int (nI n)), (5, .int (nI a)), (6, .int (nI (g &&& 2 ^ a))), (7, .int (nI b)), (8, .int (nI w)), (9, .int (nI c))] [.int (nI v)] (mdW R F L) := by
            intro v hv
            have hvl := dlT_lt (g := g) (n := n) (a := a) (b := b) (c := c) hg
            rw [← hv] at hvl
            refine hC.istore dX9_doLast_104 (by decide) ?_
            refine hC.iload_n dX9_doLast_106 rfl ?_
            refine hC.aload_n dX9_doLast_107 rfl ?_
            refine hC.iload_n dX9_doLast_108 rfl ?_
            refine hC.iload dX9_doLast_109 rfl ?_
            refine hC.iconst dX9_doLast_111 (v := (-1)) rfl ?_
            refine hC.ixor dX9_doLast_112 ?_
            refine hC.iand dX9_doLast_113 ?_
            rw [nI_andn]
            refine hC.rdV [0, 1, 2, 3, 4, 5, 6, 7, 8, 9, 10, 11, 12, 13, 14, 15, 16, 17, 18, 19, 20, 21, 22, 23, 24, 25] dX9_doLast_114 lmX9_223 mkX9_flying svX9_flying (ct_X9_flying l R F L h (andn m v) (andn_b (by omega)) (fun s hs => hvm s (andn_v hs))) ⟨Nat.le_of_ble_eq_true rfl, Nat.le_of_ble_eq_true rfl⟩ rfl rfl (Nat.le_of_ble_eq_true rfl) ⟨by decide, rfl⟩ rfl rfl ?_
            refine hC.iconst dX9_doLast_117 (v := (-1)) rfl ?_
            refine hC.ixor dX9_doLast_118 ?_
            refine hC.iand dX9_doLast_119 ?_
            rw [nI_andn]
            refine hC.nz (andn_b (by omega)) dX9_doLast_120 (tgt := 125) rfl (fun e3 => ?_) (fun e3 => ?_)
            · have hok : dlOk R t m g n a b c := by unfold dlOk; rw [← hv]; exact e3
              have hpre2 : ∀ c2, c2 < c + 1 → (n ≤ 2 → c2 = 0) → dlOk R t m g n a b c2 := fun c2 h1 h2 => by
                by_cases e : c2 = c
                · subst e; exact hok
                · exact hpre c2 (by omega) h2
              refine hC.iload dX9_doLast_125 rfl ?_
              refine hC.iconst dX9_doLast_127 (v := nI 2) rfl ?_
              refine hC.n_le (by omega) (by omega) dX9_doLast_128 (tgt := 136) rfl (fun e4 => ?_) (fun e4 => ?_)
              · refine hC.iload dX9_doLast_136 rfl ?_
                refine hC.istore dX9_doLast_138 (by decide) ?_
                refine hC.iinc dX9_doLast_140 rfl (nI_1 _) (by decide) ?_
                refine hC.goto dX9_doLast_143 (tgt := 77) rfl ?_
                exact hC.loc rfl (ih 0 (by omega) (b + 1) (by omega) (fun _ => Or.inr rfl) (fun c2 h1 h2 => hpre2 c2 (by have := h2 (by omega); omega) h2))
              · refine hC.iload dX9_doLast_131 rfl ?_
                refine hC.goto dX9_doLast_133 (tgt := 138) rfl ?_
                refine hC.istore dX9_doLast_138 (by decide) ?_
                refine hC.iinc dX9_doLast_140 rfl (nI_1 _) (by decide) ?_
                refine hC.goto dX9_doLast_143 (tgt := 77) rfl ?_
                exact hC.loc rfl (ih (d - 1) (by omega) (c + 1) (by omega) (fun z => by omega) hpre2)
            · have hc0 : n ≤ 2 → c = 0 := fun z => (hc2 z).resolve_right (by omega)
              exact bad a b c ha hn0 hga hba hb1 (by omega) hc0 (fun z => by unfold dlOk at z; rw [← hv] at z; exact e3 z) _
          refine hC.iload dX9_doLast_84 rfl ?_
          refine hC.iconst dX9_doLast_86 (v := nI 2) rfl ?_
          refine hC.n_le (by omega) (by omega) dX9_doLast_87 (tgt := 102) rfl (fun e2 => ?_) (fun e2 => ?_)
          · refine hC.iload dX9_doLast_102 rfl ?_
            exact hC.loc rfl (hT w (by rw [dlT, if_neg (by omega), hw]))
          · refine hC.iload dX9_doLast_90 rfl ?_
            refine hC.iload_n dX9_doLast_92 rfl ?_
            refine hC.iconst dX9_doLast_93 (v := nI 1) rfl ?_
            refine hC.iload dX9_doLast_94 rfl ?_
            refine hC.ishl dX9_doLast_96 ?_
            rw [nI_shl (by omega), Nat.one_mul]
            refine hC.iand dX9_doLast_97 ?_
            rw [nI_and]
            refine hC.ior dX9_doLast_98 ?_
            rw [nI_or]
            refine hC.goto dX9_doLast_99 (tgt := 104) rfl ?_
            exact hC.loc rfl (hT _ (by rw [dlT, if_pos (by omega), hw]))
    have loop2 : ∀ a, a < 20 → 0 < n → (dlBb R t m g n a 0 → ∀ ls2, ls2 = [(0, Value.ref 0), (1, .int (nI t)), (2, .int (nI m)), (3, .int (nI g)), (4, .int (nI n)), (5, .int (nI a))] → K 167 ls2 [] (mdW R F L)) → ∀ d b, b + d = a + 1 → (n ≤ 1 → b = 0 ∨ b = a + 1) → (∀ b2, b2 < b → (n ≤ 1 → b2 = 0) → dlC R t m g n a b2 0) → K 40 [(0, .ref 0), (1, .int (nI t)), (2, .int (nI m)), (3, .int (nI g)), (4, .int (nI n)), (5, .int (nI a)), (6, .int (nI (g &&& 2 ^ a))), (7, .int (nI b))] [] (mdW R F L) := by
      intro a ha hn0 hexit d
      have hga2 : g &&& 2 ^ a < 2 ^ 31 := and_b (by omega)
      induction d using Nat.strongRecOn with
      | ind d ih =>
        intro b hbd hb2 hpre
        refine hC.iload dX9_doLast_40 rfl ?_
        refine hC.iload dX9_doLast_42 rfl ?_
        refine hC.n_gt (by omega) (by omega) dX9_doLast_44 (tgt := 167) rfl (fun e1 => ?_) (fun e1 => ?_)
        · exact hC.loc rfl (hexit (fun b3 _ h2 _ h3 => hpre b3 (by omega) h3) _ rfl)
        · refine hC.iload dX9_doLast_47 rfl ?_
          refine hC.nz hga2 dX9_doLast_49 (tgt := 167) rfl (fun e2 => ?_) (fun e2 => ?_)
          · exact hC.loc rfl (hexit (fun b3 _ h2 h4 h3 => absurd e2 h4) _ rfl)
          · have hb0 : n ≤ 1 → b = 0 := fun z => (hb2 z).resolve_right (by omega)
            have k72 : K 72 [(0, .ref 0), (1, .int (nI t)), (2, .int (nI m)), (3, .int (nI g)), (4, .int (nI n)), (5, .int (nI a)), (6, .int (nI (g &&& 2 ^ a))), (7, .int (nI b))] [.int (nI (if 1 < n then g &&& 2 ^ a ||| g &&& 2 ^ b else g &&& 2 ^ a))] (mdW R F L) := by
              refine hC.istore dX9_doLast_72 (by decide) ?_
              refine hC.iconst dX9_doLast_74 (v := nI 0) rfl ?_
              refine hC.istore dX9_doLast_75 (by decide) ?_
              refine hC.loc rfl (loop3 a b ha hn0 e2 (by omega) hb0 (fun hdc z1 z2 => ?_) (b + 1) 0 (by omega) (fun _ => Or.inl rfl) (fun c2 h1 _ => absurd h1 (Nat.not_lt_zero c2)))
              have hpre2 : ∀ b2, b2 < b + 1 → (n ≤ 1 → b2 = 0) → dlC R t m g n a b2 0 := fun b2 h1 h2 => by
                by_cases e : b2 = b
                · subst e; exact hdc
                · exact hpre b2 (by omega) h2
              refine hC.iload dX9_doLast_146 rfl ?_
              refine hC.iconst dX9_doLast_148 (v := nI 1) rfl ?_
              refine hC.n_le (by omega) (by omega) dX9_doLast_149 (tgt := 157) rfl (fun e4 => ?_) (fun e4 => ?_)
              · refine hC.iload dX9_doLast_157 rfl ?_
                refine hC.istore dX9_doLast_159 (by decide) ?_
                refine hC.iinc dX9_doLast_161 rfl (nI_1 _) (by decide) ?_
                refine hC.goto dX9_doLast_164 (tgt := 40) rfl ?_
                exact hC.loc rfl (ih 0 (by omega) (a + 1) (by omega) (fun _ => Or.inr rfl) (fun b2 h1 h2 => hpre2 b2 (by have := h2 (by omega); omega) h2))
              · refine hC.iload dX9_doLast_152 rfl ?_
                refine hC.goto dX9_doLast_154 (tgt := 159) rfl ?_
                refine hC.istore dX9_doLast_159 (by decide) ?_
                refine hC.iinc dX9_doLast_161 rfl (nI_1 _) (by decide) ?_
                refine hC.goto dX9_doLast_164 (tgt := 40) rfl ?_
                exact hC.loc rfl (ih (d - 1) (by omega) (b + 1) (by omega) (fun z => by omega) hpre2)
            refine hC.iload dX9_doLast_52 rfl ?_
            refine hC.iconst dX9_doLast_54 (v := nI 1) rfl ?_
            refine hC.n_le (by omega) (by omega) dX9_doLast_55 (tgt := 70) rfl (fun e3 => ?_) (fun e3 => ?_)
            · rw [if_neg (by omega)] at k72
              refine hC.iload dX9_doLast_70 rfl ?_
              exact k72
            · rw [if_pos (by omega)] at k72
              refine hC.iload dX9_doLast_58 rfl ?_
              refine hC.iload_n dX9_doLast_60 rfl ?_
              refine hC.iconst dX9_doLast_61 (v := nI 1) rfl ?_
              refine hC.iload dX9_doLast_62 rfl ?_
              refine hC.ishl dX9_doLast_64 ?_
              rw [nI_shl (by omega), Nat.one_mul]
              refine hC.iand dX9_doLast_65 ?_
              rw [nI_and]
              refine hC.ior dX9_doLast_66 ?_
              rw [nI_or]
              refine hC.goto dX9_doLast_67 (tgt := 72) rfl ?_
              exact k72
    have loop1 : ∀ a, a ≤ 20 → (∀ a2, a2 < a → 0 < n → dlBb R t m g n a2 0) → K 17 [(0, .ref 0), (1, .int (nI t)), (2, .int (nI m)), (3, .int (nI g)), (4, .int (nI n)), (5, .int (nI a))] [] (mdW R F L) := by
      refine loopUp1 _ 20 ?_ (fun a ha ih => ?_)
      · intro hpre
        refine hC.iload dX9_doLast_17 rfl ?_
        refine hC.bipush dX9_doLast_19 (v := nI 20) rfl ?_
        refine hC.n_ge (by omega) (by omega) dX9_doLast_21 (tgt := 173) rfl (fun e1 => ?_) (fun e1 => ?_)
        · exact yes (fun a2 _ h2 h3 => hpre a2 h2 h3) _
        · omega
      · intro hpre
        refine hC.iload dX9_doLast_17 rfl ?_
        refine hC.bipush dX9_doLast_19 (v := nI 20) rfl ?_
        refine hC.n_ge (by omega) (by omega) dX9_doLast_21 (tgt := 173) rfl (fun e1 => ?_) (fun e1 => ?_)
        · omega
        · refine hC.iload dX9_doLast_24 rfl ?_
          refine hC.z_le hn dX9_doLast_26 (tgt := 173) rfl (fun e2 => ?_) (fun e2 => ?_)
          · exact yes (fun a2 _ h2 h3 => by omega) _
          · refine hC.iload_n dX9_doLast_29 rfl ?_
            refine hC.iconst dX9_doLast_30 (v := nI 1) rfl ?_
            refine hC.iload dX9_doLast_31 rfl ?_
            refine hC.ishl dX9_doLast_33 ?_
            rw [nI_shl (by omega), Nat.one_mul]
            refine hC.iand dX9_doLast_34 ?_
            rw [nI_and]
            refine hC.istore dX9_doLast_35 (by decide) ?_
            refine hC.iconst dX9_doLast_37 (v := nI 0) rfl ?_
            refine hC.istore dX9_doLast_38 (by decide) ?_
            refine hC.loc rfl (loop2 a ha e2 (fun hbb ls2 hls => ?_) (a + 1) 0 (by omega) (fun _ => Or.inl rfl) (fun b2 h1 _ => absurd h1 (Nat.not_lt_zero b2)))
            subst hls
            refine hC.iinc dX9_doLast_167 rfl (nI_1 _) (by decide) ?_
            refine hC.goto dX9_doLast_170 (tgt := 17) rfl ?_
            exact hC.loc rfl (ih (fun a2 h1 h2 => by
              by_cases e : a2 = a
              · subst e; exact hbb
              · exact hpre a2 (by omega) h2))
    exact hC.loc rfl (loop1 0 (by omega) (fun a2 h1 _ => absurd h1 (Nat.not_lt_zero a2)))
  · refine hC.iconst dX9_doLast_12 (v := nI 0) rfl ?_
    exact hR.zreturn dX9_doLast_13 (by first | decide | exact b01 _) ⟨by rw [dlB, decP_f (fun z => c0 z.1)] <;> rfl, rfl⟩
