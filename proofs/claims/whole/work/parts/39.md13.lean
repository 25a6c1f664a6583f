/-! StripFlagModel: odds -/
def ptF (q may b0 : Nat) : Nat → Nat → Nat
  | 0, j => if j = 0 then b0 else 0
  | s + 1, j => if may.testBit s = true then (if j < 2 ^ s then ptF q may b0 s j - ptF q may b0 s j * q / 100 else if j < 2 ^ (s + 1) then ptF q may b0 s (j - 2 ^ s) * q / 100 else 0) else ptF q may b0 s j
theorem pow_s (s : Nat) : 2 ^ (s + 1) = 2 * 2 ^ s := by rw [Nat.pow_succ, Nat.mul_comm]
theorem ptF_0 (q may b0 : Nat) : ∀ s j, 2 ^ s ≤ j → ptF q may b0 s j = 0
  | 0, j, h => by rw [ptF, if_neg (by have : 2 ^ 0 = 1 := rfl; omega)]
  | s + 1, j, h => by
    have e := pow_s s
    rw [ptF]
    split
    · rw [if_neg (by omega), if_neg (by omega)]
    · exact ptF_0 q may b0 s j (by omega)
theorem ptF_le {q may b0 : Nat} (hq : q ≤ 100) : ∀ s j, ptF q may b0 s j ≤ b0
  | 0, j => by rw [ptF]; split <;> omega
  | s + 1, j => by
    have h1 := ptF_le (may := may) (b0 := b0) hq s j
    have h2 := ptF_le (may := may) (b0 := b0) hq s (j - 2 ^ s)
    have h3 := goes_le (part := ptF q may b0 s (j - 2 ^ s)) hq
    rw [ptF]
    split
    · split
      · omega
      · split
        · omega
        · omega
    · exact h1
theorem tb_and0 {a s : Nat} : a &&& 2 ^ s = 0 ↔ a.testBit s = false := by
  rw [eq0_tb]
  constructor
  · intro h
    have := h s
    rw [Nat.testBit_and, Nat.testBit_two_pow_self] at this
    simpa using this
  · intro h i
    rw [Nat.testBit_and, Nat.testBit_two_pow]
    by_cases e : s = i
    · subst e; rw [h]; rfl
    · simp [e]
theorem or_pow {i s : Nat} (h : i < 2 ^ s) : i ||| 2 ^ s = 2 ^ s + i := by
  have := Nat.two_pow_add_eq_or_of_lt h 1
  rw [Nat.mul_one] at this
  rw [Nat.or_comm, ← this]
theorem lcP {p : Nat} (hp : p < 2 ^ 63) : lg_cmp (lN p) (lN 0) ≤ 0 ↔ p = 0 := by
  have h := lg_gt (lN p) (lN 0)
  rw [lN0_toInt, pk_lT hp] at h
  rw [← Int32.not_lt, h]
  omega
noncomputable def odG (R : Nat → Nat → Nat) (m a q may b0 S j : Nat) : Nat := if 0 < ptF q may b0 S j ∧ (flyF (EM R) 20 (andn m j)).testBit a = true then ptF q may b0 S j else 0
noncomputable def mOdds (R : Nat → Nat → Nat) (F : Nat → Nat) (x y : Int32) : Int32 := if inB x (F 7) = true then (if inR y 100 = true then nI (sm (odG R (thF (stM R F) 0) (ix x) (ix y) (andn (thF (stM R F) 0) (F 10)) 1000000000 (F 8)) (2 ^ F 8)) else cO) else cU
set_option maxHeartbeats 4000000 in
set_option maxRecDepth 20000 in
theorem ct_X9_odds (l : Launch) (R : Nat → Nat → Nat) (F : Nat → Nat) (L : Nat → Int64) (h : MdOK R F) (x y : Int32) : Ct l 3 yX9_odds cX9_odds 9 (some .int) [.ref 0, .int x, .int y] (mdW R F L) (fun r h2 => ∃ L2, r = some (.int (mOdds R F x y)) ∧ h2 = mdW R F L2) := by
  refine Ct.of (by decide) (Nat.le_of_ble_eq_true rfl) (fun K hC hR => ?_)
  show K 0 [(0, .ref 0), (1, .int x), (2, .int y)] [] _
  have h8 := h.2.1
  have h12 := h.2.2.1
  have hp := pow12 h12
  refine hC.aload_n dX9_odds_0 rfl ?_
  refine hC.iload_n dX9_odds_1 rfl ?_
  refine hC.rdV [0, 1, 2, 3, 4, 5, 6, 7, 8, 9, 10, 11, 12, 13, 14, 15, 16, 17, 18, 19, 20, 21, 22, 23, 24, 25] dX9_odds_2 lmX9_212 mkX9_isStrip svX9_isStrip (ct_X9_isStrip l R F L (by omega) x) ⟨Nat.le_of_ble_eq_true rfl, Nat.le_of_ble_eq_true rfl⟩ rfl rfl (Nat.le_of_ble_eq_true rfl) ⟨by decide, rfl⟩ rfl rfl ?_
  refine hC.bnz dX9_odds_5 (tgt := 11) rfl (fun c1 => ?_) (fun c1 => ?_)
  · obtain ⟨a, ha, rfl⟩ := inB_of c1 (by omega)
    have hix : ix (nI a) = a := nI_clamp (by omega)
    rw [mOdds, if_pos c1, hix] at hR
    refine hC.iload_n dX9_odds_11 rfl ?_
    refine hC.i2l dX9_odds_12 ?_
    refine hC.lconst dX9_odds_13 (v := lN 0) rfl ?_
    refine hC.ldc2_w (v := lN 100) dX9_odds_14 lcX9_260 ?_
    refine hC.rdS [] dX9_odds_17 lmX9_92 mkX9_in sxX9_in (ct_X9_in l y.toInt64 (lN 0) (lN 100)) ⟨Nat.le_of_ble_eq_true rfl, Nat.le_of_ble_eq_true rfl⟩ rfl rfl (Nat.le_of_ble_eq_true rfl) ⟨by decide, rfl⟩ ?_
    rw [in_R (by decide)]
    refine hC.bnz dX9_odds_20 (tgt := 26) rfl (fun c2 => ?_) (fun c2 => ?_)
    · obtain ⟨q, hq, rfl⟩ := inR_of (by decide) c2
      have hiy : ix (nI q) = q := nI_clamp (by omega)
      rw [if_pos c2, hiy] at hR
      have hm := thF_lt (stM R F) 0
      refine hC.aload_n dX9_odds_26 rfl ?_
      refine hC.iconst dX9_odds_27 (v := nI 0) rfl ?_
      refine hC.rdV [0, 1, 2, 3, 4, 5, 6, 7, 8, 9, 10, 11, 12, 13, 14, 15, 16, 17, 18, 19, 20, 21, 22, 23, 24, 25] dX9_odds_28 lmX9_198 mkX9_there svX9_there (ct_X9_there l R F L h 0 (by decide)) ⟨Nat.le_of_ble_eq_true rfl, Nat.le_of_ble_eq_true rfl⟩ rfl rfl (Nat.le_of_ble_eq_true rfl) ⟨by decide, rfl⟩ rfl rfl ?_
      have hv : ∀ s, (thF (stM R F) 0).testBit s = true → vS F s := fun s hs => Or.inl (thF_v hs)
      generalize hmg : thF (stM R F) 0 = m at hm hR hv ⊢
      have hfr : andn m (F 10) < 4096 := andn_b hm
      generalize hfg : andn m (F 10) = fr at hfr hR
      generalize hbg : (1000000000 : Nat) = b0 at hR ⊢
      have hb0 : b0 < 2 ^ 30 := by omega
      have hle := fun s j => ptF_le (q := q) (may := fr) (b0 := b0) hq s j
      refine hC.istore_n dX9_odds_31 (by decide) ?_
      refine hC.iconst dX9_odds_32 (v := nI 0) rfl ?_
      refine hC.istore dX9_odds_33 (by decide) ?_
      have k177 : ∀ L2 z, (∀ j, j < 2 ^ F 8 → L2 j = lN (ptF q fr b0 (F 8) j)) → K 177 [(0, .ref 0), (1, .int (nI a)), (2, .int (nI q)), (3, .int (nI m)), (4, .int z)] [] (mdW R F L2) := by
        intro L2 z hL
        have loop3 : ∀ i, i ≤ 2 ^ F 8 → K 183 [(0, .ref 0), (1, .int (nI a)), (2, .int (nI q)), (3, .int (nI m)), (4, .long (lN (sm (odG R m a q fr b0 (F 8)) i))), (6, .int (nI i))] [] (mdW R F L2) := by
          refine loopUp1 _ (2 ^ F 8) ?_ (fun i hi ih => ?_)
          · refine hC.iload dX9_odds_183 rfl ?_
            refine hC.iconst dX9_odds_185 (v := nI 1) rfl ?_
            refine hC.aload_n dX9_odds_186 rfl ?_
            refine hC.getfield dX9_odds_187 lfX9_186 rfl rfl ?_
            refine hC.ishl dX9_odds_190 ?_
            rw [nI_shl (by omega), Nat.one_mul]
            refine hC.n_ge (by omega) (by omega) dX9_odds_191 (tgt := 258) rfl (fun c => ?_) (fun c => ?_)
            · refine hC.lload dX9_odds_258 rfl ?_
              refine hC.l2i dX9_odds_260 ?_
              rw [lN_i]
              exact hR.ireturn dX9_odds_261 ⟨L2, rfl, rfl⟩
            · omega
          · have hpl := hle (F 8) i
            have hst : sm (odG R m a q fr b0 (F 8)) (i + 1) = sm (odG R m a q fr b0 (F 8)) i + (if 0 < ptF q fr b0 (F 8) i ∧ (flyF (EM R) 20 (andn m i)).testBit a = true then ptF q fr b0 (F 8) i else 0) := rfl
            have hLi := hL i hi
            have k229 : ∀ p : Bool, p = decide (0 < ptF q fr b0 (F 8) i ∧ (flyF (EM R) 20 (andn m i)).testBit a = true) → K 229 [(0, .ref 0), (1, .int (nI a)), (2, .int (nI q)), (3, .int (nI m)), (4, .long (lN (sm (odG R m a q fr b0 (F 8)) i))), (6, .int (nI i))] [.int (nI p.toNat)] (mdW R F L2) := by
              intro p hp3
              refine hC.istore dX9_odds_229 (by decide) ?_
              refine hC.lload dX9_odds_231 rfl ?_
              refine hC.iload dX9_odds_233 rfl ?_
              refine hC.bz dX9_odds_235 (tgt := 248) rfl (fun c6 => ?_) (fun c6 => ?_)
              · rw [hp3] at c6
                rw [hst, if_neg (of_decide_eq_false c6)] at ih
                refine hC.lconst dX9_odds_248 (v := lN 0) rfl ?_
                refine hC.ladd dX9_odds_249 ?_
                rw [lN_add]
                refine hC.lstore dX9_odds_250 (by decide) ?_
                refine hC.iinc dX9_odds_252 rfl (nI_1 _) (by decide) ?_
                refine hC.goto dX9_odds_255 (tgt := 183) rfl ?_
                exact hC.loc rfl ih
              · rw [hp3] at c6
                rw [hst, if_pos (of_decide_eq_true c6)] at ih
                refine hC.aload_n dX9_odds_238 rfl ?_
                refine hC.getfield dX9_odds_239 lfX9_52 rfl rfl ?_
                refine hC.iload dX9_odds_242 rfl ?_
                refine hC.laN dX9_odds_244 rfl ⟨by omega, by decide⟩ ?_
                rw [hLi]
                refine hC.goto dX9_odds_245 (tgt := 249) rfl ?_
                refine hC.ladd dX9_odds_249 ?_
                rw [lN_add]
                refine hC.lstore dX9_odds_250 (by decide) ?_
                refine hC.iinc dX9_odds_252 rfl (nI_1 _) (by decide) ?_
                refine hC.goto dX9_odds_255 (tgt := 183) rfl ?_
                exact hC.loc rfl ih
            refine hC.iload dX9_odds_183 rfl ?_
            refine hC.iconst dX9_odds_185 (v := nI 1) rfl ?_
            refine hC.aload_n dX9_odds_186 rfl ?_
            refine hC.getfield dX9_odds_187 lfX9_186 rfl rfl ?_
            refine hC.ishl dX9_odds_190 ?_
            rw [nI_shl (by omega), Nat.one_mul]
            refine hC.n_ge (by omega) (by omega) dX9_odds_191 (tgt := 258) rfl (fun c => ?_) (fun c => ?_)
            · omega
            · have hfl := flyF_lt (EM R) 20 (andn m i)
              refine hC.aload_n dX9_odds_194 rfl ?_
              refine hC.getfield dX9_odds_195 lfX9_52 rfl rfl ?_
              refine hC.iload dX9_odds_198 rfl ?_
              refine hC.laN dX9_odds_200 rfl ⟨by omega, by decide⟩ ?_
              rw [hLi]
              refine hC.lconst dX9_odds_201 (v := lN 0) rfl ?_
              refine hC.lcmp dX9_odds_202 ?_
              refine hC.if_le dX9_odds_203 (tgt := 228) rfl (fun c3 => ?_) (fun c3 => ?_)
              · have c3 := (lcP (by omega)).mp c3
                refine hC.iconst dX9_odds_228 (v := nI 0) rfl ?_
                exact hC.loc rfl (k229 false (decide_eq_false (fun z => by omega)).symm)
              · have c3 : ¬ ptF q fr b0 (F 8) i = 0 := fun z => c3 ((lcP (by omega)).mpr z)
                refine hC.aload_n dX9_odds_206 rfl ?_
                refine hC.iload_n dX9_odds_207 rfl ?_
                refine hC.iload dX9_odds_208 rfl ?_
                refine hC.iconst dX9_odds_210 (v := (-1)) rfl ?_
                refine hC.ixor dX9_odds_211 ?_
                refine hC.iand dX9_odds_212 ?_
                rw [nI_andn]
                refine hC.rdV [0, 1, 2, 3, 4, 5, 6, 7, 8, 9, 10, 11, 12, 13, 14, 15, 16, 17, 18, 19, 20, 21, 22, 23, 24, 25] dX9_odds_213 lmX9_223 mkX9_flying svX9_flying (ct_X9_flying l R F L2 h (andn m i) (andn_b (by omega)) (fun s hs => hv s (andn_v hs))) ⟨Nat.le_of_ble_eq_true rfl, Nat.le_of_ble_eq_true rfl⟩ rfl rfl (Nat.le_of_ble_eq_true rfl) ⟨by decide, rfl⟩ rfl rfl ?_
                refine hC.iload_n dX9_odds_216 rfl ?_
                refine hC.ishr dX9_odds_217 ?_
                refine hC.iconst dX9_odds_218 (v := nI 1) rfl ?_
                refine hC.iand dX9_odds_219 ?_
                rw [nI_bit (by omega) (by omega)]
                refine hC.iconst dX9_odds_220 (v := nI 1) rfl ?_
                refine hC.b1_ne dX9_odds_221 (tgt := 228) rfl (fun c4 => ?_) (fun c4 => ?_)
                · refine hC.iconst dX9_odds_228 (v := nI 0) rfl ?_
                  exact hC.loc rfl (k229 false (decide_eq_false (fun z => by rw [c4] at z; exact absurd z.2 (by decide))).symm)
                · refine hC.iconst dX9_odds_224 (v := nI 1) rfl ?_
                  refine hC.goto dX9_odds_225 (tgt := 229) rfl ?_
                  exact hC.loc rfl (k229 true (decide_eq_true ⟨by omega, c4⟩).symm)
        refine hC.lconst dX9_odds_177 (v := lN 0) rfl ?_
        refine hC.lstore dX9_odds_178 (by decide) ?_
        refine hC.iconst dX9_odds_180 (v := nI 0) rfl ?_
        refine hC.istore dX9_odds_181 (by decide) ?_
        exact hC.loc rfl (loop3 0 (by omega))
      have k74 : ∀ L2, (∀ j, j < 2 ^ F 8 → L2 j = lN (ptF q fr b0 0 j)) → K 74 [(0, .ref 0), (1, .int (nI a)), (2, .int (nI q)), (3, .int (nI m)), (4, .int (nI 0))] [] (mdW R F L2) := by
        intro L2 hL2
        refine loopUp (fun s L3 => K 74 [(0, .ref 0), (1, .int (nI a)), (2, .int (nI q)), (3, .int (nI m)), (4, .int (nI s))] [] (mdW R F L3)) (fun s L3 => ∀ j, j < 2 ^ F 8 → L3 j = lN (ptF q fr b0 s j)) (F 8) (fun L3 hL => ?_) (fun s L3 hs hL ih => ?_) 0 L2 (Nat.zero_le _) hL2
        · refine hC.iload dX9_odds_74 rfl ?_
          refine hC.aload_n dX9_odds_76 rfl ?_
          refine hC.getfield dX9_odds_77 lfX9_186 rfl rfl ?_
          refine hC.n_ge (by omega) (by omega) dX9_odds_80 (tgt := 177) rfl (fun c => ?_) (fun c => ?_)
          · exact hC.loc rfl (k177 L3 _ hL)
          · omega
        · have e2 := pow_s s
          have hps : 2 ^ (s + 1) ≤ 2 ^ F 8 := Nat.pow_le_pow_right (by decide) (by omega)
          have hps0 := Nat.two_pow_pos s
          have k104 : ∀ p : Bool, p = fr.testBit s → K 104 [(0, .ref 0), (1, .int (nI a)), (2, .int (nI q)), (3, .int (nI m)), (4, .int (nI s))] [.int (nI p.toNat)] (mdW R F L3) := by
            intro p hp3
            refine hC.istore dX9_odds_104 (by decide) ?_
            refine hC.iconst dX9_odds_106 (v := nI 0) rfl ?_
            refine hC.istore dX9_odds_107 (by decide) ?_
            cases p with
            | false =>
              have hkeep : ∀ j, ptF q fr b0 (s + 1) j = ptF q fr b0 s j := fun j => by rw [ptF, if_neg (by rw [← hp3]; decide)]
              refine hC.iload dX9_odds_109 rfl ?_
              refine hC.iconst dX9_odds_111 (v := nI 1) rfl ?_
              refine hC.iload dX9_odds_112 rfl ?_
              refine hC.ishl dX9_odds_114 ?_
              rw [nI_shl (by omega), Nat.one_mul]
              refine hC.n_ge (by omega) (by omega) dX9_odds_115 (tgt := 171) rfl (fun c => ?_) (fun c => ?_)
              · omega
              · refine hC.iload dX9_odds_118 rfl ?_
                refine hC.bz dX9_odds_120 (tgt := 171) rfl (fun c3 => ?_) (fun c3 => ?_)
                · refine hC.iinc dX9_odds_171 rfl (nI_1 _) (by decide) ?_
                  refine hC.goto dX9_odds_174 (tgt := 74) rfl ?_
                  exact hC.loc rfl (ih L3 (fun j hj => by rw [hkeep]; exact hL j hj))
                · exact absurd c3 (by decide)
            | true =>
              have hmay : fr.testBit s = true := hp3.symm
              have hlow : ∀ j, j < 2 ^ s → ptF q fr b0 (s + 1) j = ptF q fr b0 s j - ptF q fr b0 s j * q / 100 := fun j hj => by rw [ptF, if_pos hmay, if_pos hj]
              have hhigh : ∀ j, j < 2 ^ s → ptF q fr b0 (s + 1) (2 ^ s + j) = ptF q fr b0 s j * q / 100 := fun j hj => by rw [ptF, if_pos hmay, if_neg (by omega), if_pos (by omega), Nat.add_sub_cancel_left]
              refine hC.loc rfl (loopUp (fun i L4 => K 109 [(0, .ref 0), (1, .int (nI a)), (2, .int (nI q)), (3, .int (nI m)), (4, .int (nI s)), (5, .int (nI 1)), (6, .int (nI i))] [] (mdW R F L4)) (fun i L4 => ∀ j, j < 2 ^ F 8 → L4 j = lN (if j < i ∨ (2 ^ s ≤ j ∧ j < 2 ^ s + i) then ptF q fr b0 (s + 1) j else ptF q fr b0 s j)) (2 ^ s) (fun L4 hL4 => ?_) (fun i L4 hi hL4 ih2 => ?_) 0 L3 (Nat.zero_le _) (fun j hj => by rw [if_neg (by omega)]; exact hL j hj))
              · refine hC.iload dX9_odds_109 rfl ?_
                refine hC.iconst dX9_odds_111 (v := nI 1) rfl ?_
                refine hC.iload dX9_odds_112 rfl ?_
                refine hC.ishl dX9_odds_114 ?_
                rw [nI_shl (by omega), Nat.one_mul]
                refine hC.n_ge (by omega) (by omega) dX9_odds_115 (tgt := 171) rfl (fun c => ?_) (fun c => ?_)
                · refine hC.iinc dX9_odds_171 rfl (nI_1 _) (by decide) ?_
                  refine hC.goto dX9_odds_174 (tgt := 74) rfl ?_
                  refine hC.loc rfl (ih L4 (fun j hj => ?_))
                  rw [hL4 j hj]
                  by_cases hc : j < 2 ^ s ∨ (2 ^ s ≤ j ∧ j < 2 ^ s + 2 ^ s)
                  · rw [if_pos hc]
                  · rw [if_neg hc, ptF_0 q fr b0 s j (by omega), ptF_0 q fr b0 (s + 1) j (by omega)]
                · omega
              · have hgo := goes_le (part := ptF q fr b0 s i) hq
                have hli := hle s i
                have hmul : ptF q fr b0 s i * q ≤ b0 * 100 := Nat.mul_le_mul hli hq
                have hLi : L4 i = lN (ptF q fr b0 s i) := by rw [hL4 i (by omega), if_neg (by omega)]
                refine hC.iload dX9_odds_109 rfl ?_
                refine hC.iconst dX9_odds_111 (v := nI 1) rfl ?_
                refine hC.iload dX9_odds_112 rfl ?_
                refine hC.ishl dX9_odds_114 ?_
                rw [nI_shl (by omega), Nat.one_mul]
                refine hC.n_ge (by omega) (by omega) dX9_odds_115 (tgt := 171) rfl (fun c => ?_) (fun c => ?_)
                · omega
                · refine hC.iload dX9_odds_118 rfl ?_
                  refine hC.if_eq dX9_odds_120 (tgt := 171) rfl (fun c3 => absurd c3 (by decide)) (fun _ => ?_)
                  refine hC.aload_n dX9_odds_123 rfl ?_
                  refine hC.getfield dX9_odds_124 lfX9_52 rfl rfl ?_
                  refine hC.iload dX9_odds_127 rfl ?_
                  refine hC.laN dX9_odds_129 rfl ⟨by omega, by decide⟩ ?_
                  rw [hLi]
                  refine hC.iload_n dX9_odds_130 rfl ?_
                  refine hC.i2l dX9_odds_131 ?_
                  rw [nI_l (by omega)]
                  refine hC.lmul dX9_odds_132 ?_
                  rw [lN_mul]
                  refine hC.ldc2_w (v := lN 100) dX9_odds_133 lcX9_260 ?_
                  refine hC.ldiv dX9_odds_136 (by decide) ?_
                  rw [pk_lDiv (by omega) (by decide) (by decide)]
                  refine hC.lstore dX9_odds_137 (by decide) ?_
                  refine hC.aload_n dX9_odds_139 rfl ?_
                  refine hC.getfield dX9_odds_140 lfX9_52 rfl rfl ?_
                  refine hC.iload dX9_odds_143 rfl ?_
                  refine hC.iconst dX9_odds_145 (v := nI 1) rfl ?_
                  refine hC.iload dX9_odds_146 rfl ?_
                  refine hC.ishl dX9_odds_148 ?_
                  rw [nI_shl (by omega), Nat.one_mul]
                  refine hC.ior dX9_odds_149 ?_
                  rw [nI_or, or_pow hi]
                  refine hC.lload dX9_odds_150 rfl ?_
                  refine hC.lastore dX9_odds_152 rfl (by first | exact vp_in_nI (by omega) (by omega) | assumption) ?_
                  rw [nI_clamp (show 2 ^ s + i < 2 ^ 31 by omega)]
                  refine hC.aload_n dX9_odds_153 rfl ?_
                  refine hC.getfield dX9_odds_154 lfX9_52 rfl rfl ?_
                  refine hC.iload dX9_odds_157 rfl ?_
                  refine hC.dup2 dX9_odds_159 rfl rfl ?_
                  refine hC.laN dX9_odds_160 rfl ⟨by omega, by decide⟩ ?_
                  rw [pk_uLn (show i ≠ 2 ^ s + i by omega), hLi]
                  refine hC.lload dX9_odds_161 rfl ?_
                  refine hC.lsub dX9_odds_163 ?_
                  rw [lN_sub hgo]
                  refine hC.lastore dX9_odds_164 rfl (by first | exact vp_in_nI (by omega) (by omega) | assumption) ?_
                  refine hC.iinc dX9_odds_165 rfl (nI_1 _) (by decide) ?_
                  refine hC.goto dX9_odds_168 (tgt := 109) rfl ?_
                  rw [nI_clamp (show i < 2 ^ 31 by omega)]
                  refine hC.loc rfl (ih2 (vp_updL (vp_updL L4 (2 ^ s + i) (lN (ptF q fr b0 s i * q / 100))) i (lN (ptF q fr b0 s i - ptF q fr b0 s i * q / 100))) (fun j hj => ?_))
                  by_cases e : j = i
                  · subst e
                    rw [pk_uLs, if_pos (by omega), hlow j hi]
                  · rw [pk_uLn e]
                    by_cases e3 : j = 2 ^ s + i
                    · subst e3
                      rw [pk_uLs, if_pos (by omega), hhigh i hi]
                    · rw [pk_uLn e3, hL4 j hj]
                      by_cases hc : j < i ∨ (2 ^ s ≤ j ∧ j < 2 ^ s + i)
                      · rw [if_pos hc, if_pos (by omega)]
                      · rw [if_neg hc, if_neg (by omega)]
          refine hC.iload dX9_odds_74 rfl ?_
          refine hC.aload_n dX9_odds_76 rfl ?_
          refine hC.getfield dX9_odds_77 lfX9_186 rfl rfl ?_
          refine hC.n_ge (by omega) (by omega) dX9_odds_80 (tgt := 177) rfl (fun c => ?_) (fun c => ?_)
          · omega
          · refine hC.iload_n dX9_odds_83 rfl ?_
            refine hC.aload_n dX9_odds_84 rfl ?_
            refine hC.getfield dX9_odds_85 lfX9_192 rfl rfl ?_
            refine hC.iconst dX9_odds_88 (v := (-1)) rfl ?_
            refine hC.ixor dX9_odds_89 ?_
            refine hC.iand dX9_odds_90 ?_
            rw [nI_andn, hfg]
            refine hC.iconst dX9_odds_91 (v := nI 1) rfl ?_
            refine hC.iload dX9_odds_92 rfl ?_
            refine hC.ishl dX9_odds_94 ?_
            rw [nI_shl (by omega), Nat.one_mul]
            refine hC.iand dX9_odds_95 ?_
            rw [nI_and]
            refine hC.nz (and_b (by omega)) dX9_odds_96 (tgt := 103) rfl (fun c3 => ?_) (fun c3 => ?_)
            · refine hC.iconst dX9_odds_103 (v := nI 0) rfl ?_
              exact hC.loc rfl (k104 false (tb_and0.mp c3).symm)
            · refine hC.iconst dX9_odds_99 (v := nI 1) rfl ?_
              refine hC.goto dX9_odds_100 (tgt := 104) rfl ?_
              exact hC.loc rfl (k104 true (by cases hb : fr.testBit s; exact absurd (tb_and0.mpr hb) c3; rfl))
      refine hC.loc rfl (loopUp (fun i L2 => K 35 [(0, .ref 0), (1, .int (nI a)), (2, .int (nI q)), (3, .int (nI m)), (4, .int (nI i))] [] (mdW R F L2)) (fun i L2 => ∀ j, j < i → L2 j = lN (ptF q fr b0 0 j)) (2 ^ F 8) (fun L2 hL => ?_) (fun i L2 hi hL ih => ?_) 0 L (Nat.zero_le _) (fun j hj => absurd hj (Nat.not_lt_zero j)))
      · refine hC.iload dX9_odds_35 rfl ?_
        refine hC.iconst dX9_odds_37 (v := nI 1) rfl ?_
        refine hC.aload_n dX9_odds_38 rfl ?_
        refine hC.getfield dX9_odds_39 lfX9_186 rfl rfl ?_
        refine hC.ishl dX9_odds_42 ?_
        rw [nI_shl (by omega), Nat.one_mul]
        refine hC.n_ge (by omega) (by omega) dX9_odds_43 (tgt := 71) rfl (fun c => ?_) (fun c => ?_)
        · refine hC.iconst dX9_odds_71 (v := nI 0) rfl ?_
          refine hC.istore dX9_odds_72 (by decide) ?_
          exact hC.loc rfl (k74 L2 hL)
        · omega
      · have hst : ∀ v, v = lN (if i = 0 then b0 else 0) → K 64 [(0, .ref 0), (1, .int (nI a)), (2, .int (nI q)), (3, .int (nI m)), (4, .int (nI i))] [.long v, .int (nI i), .ref 15] (mdW R F L2) := by
          intro v hv
          refine hC.lastore dX9_odds_64 rfl (by first | exact vp_in_nI (by omega) (by omega) | assumption) ?_
          refine hC.iinc dX9_odds_65 rfl (nI_1 _) (by decide) ?_
          refine hC.goto dX9_odds_68 (tgt := 35) rfl ?_
          rw [nI_clamp (show i < 2 ^ 31 by omega)]
          refine hC.loc rfl (ih (vp_updL L2 i v) (fun j hj => ?_))
          by_cases e : j = i
          · subst e
            rw [pk_uLs, hv]; rfl
          · rw [pk_uLn e]
            exact hL j (by omega)
        refine hC.iload dX9_odds_35 rfl ?_
        refine hC.iconst dX9_odds_37 (v := nI 1) rfl ?_
        refine hC.aload_n dX9_odds_38 rfl ?_
        refine hC.getfield dX9_odds_39 lfX9_186 rfl rfl ?_
        refine hC.ishl dX9_odds_42 ?_
        rw [nI_shl (by omega), Nat.one_mul]
        refine hC.n_ge (by omega) (by omega) dX9_odds_43 (tgt := 71) rfl (fun c => ?_) (fun c => ?_)
        · omega
        · refine hC.aload_n dX9_odds_46 rfl ?_
          refine hC.getfield dX9_odds_47 lfX9_52 rfl rfl ?_
          refine hC.iload dX9_odds_50 rfl ?_
          refine hC.iload dX9_odds_52 rfl ?_
          refine hC.nnz (by omega) dX9_odds_54 (tgt := 63) rfl (fun c3 => ?_) (fun c3 => ?_)
          · refine hC.lconst dX9_odds_63 (v := lN 0) rfl ?_
            exact hC.loc rfl (hst _ (by rw [if_neg c3]))
          · refine hC.ldc2_w (v := lN 1000000000) dX9_odds_57 lcX9_262 ?_
            refine hC.goto dX9_odds_60 (tgt := 64) rfl ?_
            exact hC.loc rfl (hst _ (by rw [if_pos c3, hbg]))
    · rw [if_neg (by simp [c2])] at hR
      refine hC.ldc dX9_odds_23 lcX9_96 ?_
      exact hR.ireturn dX9_odds_25 ⟨L, rfl, rfl⟩
  · rw [mOdds, if_neg (by simp [c1])] at hR
    refine hC.ldc dX9_odds_8 lcX9_205 ?_
    exact hR.ireturn dX9_odds_10 ⟨L, rfl, rfl⟩
