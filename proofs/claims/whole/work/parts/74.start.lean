/-! the first state; the law's loop: written by program (wip/whole/mkstart.py) -/
abbrev Z00 : ClothT := (fun _ => 0, fun _ => 0, 0, 0)
abbrev P00 : PlanT := (fun _ _ => 0, fun _ => 0)
def s00 : Sf := ((fun _ => nI 0, xF 0 0 NN 0 0), Z00, Z00, Z00, (fun _ => 0, fun _ => 0, 0), (fun _ => 0, fun _ => 0, 0), (0, 0), nI 0, nI 0, fun _ => 0, (false, 0, 0, fun _ _ => 0), fun _ => 0, P00, P00, 0)
def R00 : Nat → Nat → Nat := fun _ _ => 0
def F00 : Nat → Nat
  | 1 => NN
  | _ => 0
def L00 : Nat → Int64 := fun _ => 0
theorem fr_start : FR s00 R00 F00 := by
  have hC0 : ClothOK Z00 := ⟨fun _ => Nat.zero_le _, fun _ => (by decide : (0 : Nat) < 4), (by decide : (0 : Nat) < 4096), (by decide : (0 : Nat) < 2 ^ 31)⟩
  have hP0 : PlX P00 := ⟨⟨Nat.zero_le _, Nat.zero_le _, Nat.zero_le _, Nat.zero_le _, fun _ => (by decide : (0 : Nat) < 512), fun _ => (by decide : (0 : Nat) < 512), fun _ => Nat.zero_le _, fun _ => Nat.zero_le _⟩, fun _ => Nat.zero_le _, fun _ => (by decide : (0 : Nat) < 4)⟩
  have h0 : ∀ k, 2 ≤ k → F00 k = 0 := fun k hk => by
    match k, hk with
    | k + 2, _ => rfl
  have hn : ∀ k j, 2 ≤ j → ¬ k < F00 j := fun k j hj => by rw [h0 j hj]; exact Nat.not_lt_zero k
  have hM : MdOK R00 F00 := by
    refine ⟨by rw [h0 6 (by decide)]; decide, by rw [h0 7 (by decide)]; decide, by rw [h0 8 (by decide)]; decide, by rw [h0 9 (by decide)]; decide, by rw [h0 10 (by decide)]; decide, by rw [h0 11 (by decide)]; decide, fun _ => (by decide : (0 : Nat) < 131072), fun _ => (by decide : (0 : Nat) < 131072), fun _ => (by decide : (0 : Nat) < 131072), fun _ => (by decide : (0 : Nat) < 131072), fun s hs => ⟨(by decide : (0 : Nat) < 8), (by decide : (0 : Nat) ≤ 8)⟩⟩
  refine ⟨⟨hP0, hM, ⟨h0 6 (by decide), h0 7 (by decide), h0 8 (by decide), h0 9 (by decide)⟩, fun k hk => absurd hk (hn k 6 (by decide)), fun _ => Nat.zero_le _, fun k hk => absurd hk (hn k 8 (by decide)), fun k hk => absurd hk (hn k 9 (by decide))⟩,
    ⟨hC0, fun k hk => absurd hk (hn k 8 (by decide)), fun _ _ _ => rfl, fun k hk => absurd hk (hn k 7 (by decide)), fun _ => (by decide : (0 : Nat) < 4), h0 10 (by decide), h0 11 (by decide)⟩,
    ⟨fun k hk => absurd hk (hn k 7 (by decide)), fun _ => (by decide : (0 : Nat) < 16), fun _ => (by decide : (0 : Nat) < 16)⟩,
    ⟨h0 14 (by decide), by rw [h0 14 (by decide)]; decide, fun k hk => absurd hk (hn k 14 (by decide))⟩,
    ⟨(by decide : (0 : Nat) < 4), hC0, hC0, fun _ => (by decide : (0 : Nat) < 2 ^ 31), ⟨fun z => absurd (show (0 : Nat).testBit 0 = true from z) (by decide), fun z => absurd rfl z⟩, ⟨fun z => absurd (show (0 : Nat).testBit 1 = true from z) (by decide), fun z => absurd rfl z⟩, fun z => absurd (show (0 : Nat).testBit 0 = true from z) (by decide), fun z => absurd (show (0 : Nat).testBit 1 = true from z) (by decide)⟩,
    ⟨rfl, Nat.zero_le _, fun j hj => absurd hj (Nat.not_lt_zero j), fun _ => (by decide : (0 : Nat) < 256), rfl, fun _ => ⟨(by decide : (0 : Nat) < 131072), (by decide : (0 : Nat) < 131072), (by decide : (0 : Nat) < 131072)⟩⟩,
    hP0, ⟨Nat.zero_le _, Nat.zero_le _, fun _ => (by decide : (0 : Nat) < 512), fun _ => (by decide : (0 : Nat) < 16), fun _ => (by decide : (0 : Nat) < 4)⟩, ⟨Nat.zero_le _, fun k hk => absurd hk (Nat.not_lt_zero k)⟩⟩
theorem and31 (x : Int32) : ∃ k, k < 32 ∧ x &&& nI 31 = nI k := by
  refine ⟨x.toBitVec.toNat &&& 31, ?_, ?_⟩
  · have := @Nat.and_le_right x.toBitVec.toNat 31
    omega
  · apply Int32.toBitVec_inj.mp
    apply BitVec.eq_of_toNat_eq
    rw [Int32.toBitVec_and, BitVec.toNat_and]
    have h31 : (nI 31).toBitVec.toNat = 31 := rfl
    rw [h31]
    show _ = (BitVec.ofNat 32 (x.toBitVec.toNat &&& 31)).toNat
    rw [BitVec.toNat_ofNat, Nat.mod_eq_of_lt]
    have := @Nat.and_le_right x.toBitVec.toNat 31
    omega
theorem law_lt5 {a b : Nat} (ha : a < 5) (hb : b < 5) : nI a - nI 5 < nI b := by
  rcases (show a = 0 ∨ a = 1 ∨ a = 2 ∨ a = 3 ∨ a = 4 by omega) with rfl | rfl | rfl | rfl | rfl <;> rcases (show b = 0 ∨ b = 1 ∨ b = 2 ∨ b = 3 ∨ b = 4 by omega) with rfl | rfl | rfl | rfl | rfl <;> decide
section LOOP
variable {l : Launch} {R0 : Room} {K : AK} {Lx : Nat} {xs : Nat → Int32}
set_option maxHeartbeats 4000000 in
theorem law_loop (hC : Cs l cL_law RL 4 R0 K Lx xs) (hR1 : 20 ≤ R0.frames) (hR2 : 800 ≤ R0.locals) (hLx : Lx ≤ 2560) (hE : ∀ (ls : AL) (hs : List va_E), K 1004 ls [.int (nI 1)] hs) : ∀ n i, Lx - i ≤ n → i ≤ Lx → ∀ (s : Sf) (R : Nat → Nat → Nat) (F : Nat → Nat) (L : Nat → Int64) (hs : List va_E), FR s R F → LW s R F L hs → K 18 [(0, .ref 500), (1, .ref 0), (2, .ref 45), (3, .int (nI i))] [] hs := by
  intro n
  induction n with
  | zero =>
    intro i h1 h2 s R F L hs hF hw
    refine hC.cl.iload_n dL_law_18 rfl ?_
    refine hC.cl.aload_n dL_law_19 rfl ?_
    refine hC.alen dL_law_20 ?_
    refine hC.cl.iconst dL_law_21 (v := nI 5) rfl ?_
    refine hC.cl.isub dL_law_22 ?_
    by_cases h5 : 5 ≤ Lx
    · rw [pk_sub h5]
      refine hC.cl.n_gt (a := i) (b := Lx - 5) (by omega) (by omega) dL_law_23 (tgt := 1003) rfl (fun c => ?_) (fun c => by omega)
      refine hC.cl.iconst dL_law_1003 (v := nI 1) rfl ?_
      exact hE _ _
    · refine hC.cl.icmp_gt dL_law_23 (tgt := 1003) rfl (fun _ => ?_) (fun c => absurd (law_lt5 (by omega) (by omega)) c)
      refine hC.cl.iconst dL_law_1003 (v := nI 1) rfl ?_
      exact hE _ _
  | succ n ih =>
    intro i h1 h2 s R F L hs hF hw
    refine hC.cl.iload_n dL_law_18 rfl ?_
    refine hC.cl.aload_n dL_law_19 rfl ?_
    refine hC.alen dL_law_20 ?_
    refine hC.cl.iconst dL_law_21 (v := nI 5) rfl ?_
    refine hC.cl.isub dL_law_22 ?_
    by_cases h5 : 5 ≤ Lx
    rotate_left
    · refine hC.cl.icmp_gt dL_law_23 (tgt := 1003) rfl (fun _ => ?_) (fun c => absurd (law_lt5 (by omega) (by omega)) c)
      refine hC.cl.iconst dL_law_1003 (v := nI 1) rfl ?_
      exact hE _ _
    rw [pk_sub h5]
    refine hC.cl.n_gt (a := i) (b := Lx - 5) (by omega) (by omega) dL_law_23 (tgt := 1003) rfl (fun c => ?_) (fun c => ?_)
    · refine hC.cl.iconst dL_law_1003 (v := nI 1) rfl ?_
      exact hE _ _
    have hi : i + 4 < Lx := by omega
    have hn : ∀ (s2 : Sf) (R2 : Nat → Nat → Nat) (F2 : Nat → Nat) (L2 : Nat → Int64) (hs2 : List va_E), FR s2 R2 F2 → LW s2 R2 F2 L2 hs2 → K 997 [(0, .ref 500), (1, .ref 0), (2, .ref 45), (3, .int (nI i))] [] hs2 := by
      intro s2 R2 F2 L2 hs2 hF2 hw2
      refine hC.cl.iinc dL_law_997 (v := nI (i + 5)) rfl (nI_add i 5) (by decide) ?_
      refine hC.cl.goto dL_law_1000 (tgt := 18) rfl ?_
      refine hC.cl.loc (ls2 := [(0, .ref 500), (1, .ref 0), (2, .ref 45), (3, .int (nI (i + 5)))]) rfl ?_
      exact ih (i + 5) (by omega) (by omega) s2 R2 F2 L2 hs2 hF2 hw2
    refine hC.cl.aload_n dL_law_26 rfl ?_
    refine hC.cl.iload_n dL_law_27 rfl ?_
    refine hC.iaload dL_law_28 (by omega) (by omega) ?_
    refine hC.cl.bipush dL_law_29 (v := nI 31) rfl ?_
    refine hC.cl.iand dL_law_31 ?_
    obtain ⟨k, hk, ek⟩ := and31 (xs i)
    rw [ek]
    rcases (show k = 0 ∨ k = 1 ∨ k = 2 ∨ k = 3 ∨ k = 4 ∨ k = 5 ∨ k = 6 ∨ k = 7 ∨ k = 8 ∨ k = 9 ∨ k = 10 ∨ k = 11 ∨ k = 12 ∨ k = 13 ∨ k = 14 ∨ k = 15 ∨ k = 16 ∨ k = 17 ∨ k = 18 ∨ k = 19 ∨ k = 20 ∨ k = 21 ∨ k = 22 ∨ k = 23 ∨ k = 24 ∨ k = 25 ∨ k = 26 ∨ k = 27 ∨ k = 28 ∨ 29 ≤ k by omega) with rfl | rfl | rfl | rfl | rfl | rfl | rfl | rfl | rfl | rfl | rfl | rfl | rfl | rfl | rfl | rfl | rfl | rfl | rfl | rfl | rfl | rfl | rfl | rfl | rfl | rfl | rfl | rfl | rfl | h29
    · refine hC.cl.tabIn dL_law_32 (off := 132) (tgt := 164) (by decide) (by decide) rfl rfl ?_
      exact law_feed hC hR1 hR2 (by omega) hi hF hw hn
    · refine hC.cl.tabIn dL_law_32 (off := 195) (tgt := 227) (by decide) (by decide) rfl rfl ?_
      exact law_flag hC hR1 hR2 (by omega) hi hF hw hn
    · refine hC.cl.tabIn dL_law_32 (off := 208) (tgt := 240) (by decide) (by decide) rfl rfl ?_
      exact law_fault hC hR1 hR2 (by omega) hi hF hw hn
    · refine hC.cl.tabIn dL_law_32 (off := 221) (tgt := 253) (by decide) (by decide) rfl rfl ?_
      exact law_told hC hR1 hR2 (by omega) hi hF hw hn
    · refine hC.cl.tabIn dL_law_32 (off := 244) (tgt := 276) (by decide) (by decide) rfl rfl ?_
      exact law_seam hC hR1 hR2 (by omega) hi hF hw hn
    · refine hC.cl.tabIn dL_law_32 (off := 277) (tgt := 309) (by decide) (by decide) rfl rfl ?_
      exact law_strip hC hR1 hR2 (by omega) hi hF hw hn
    · refine hC.cl.tabIn dL_law_32 (off := 310) (tgt := 342) (by decide) (by decide) rfl rfl ?_
      exact law_flies hC hR1 hR2 (by omega) hi hF hw hn
    · refine hC.cl.tabIn dL_law_32 (off := 333) (tgt := 365) (by decide) (by decide) rfl rfl ?_
      exact law_unpick hC hR1 hR2 (by omega) hi hF hw hn
    · refine hC.cl.tabIn dL_law_32 (off := 366) (tgt := 398) (by decide) (by decide) rfl rfl ?_
      exact law_sew hC hR1 hR2 (by omega) hi hF hw hn
    · refine hC.cl.tabIn dL_law_32 (off := 399) (tgt := 431) (by decide) (by decide) rfl rfl ?_
      exact law_hem hC hR1 hR2 (by omega) hi hF hw hn
    · refine hC.cl.tabIn dL_law_32 (off := 448) (tgt := 480) (by decide) (by decide) rfl rfl ?_
      exact law_fray hC hR1 hR2 (by omega) hi hF hw hn
    · refine hC.cl.tabIn dL_law_32 (off := 471) (tgt := 503) (by decide) (by decide) rfl rfl ?_
      exact law_dye hC hR1 hR2 (by omega) hi hF hw hn
    · refine hC.cl.tabIn dL_law_32 (off := 504) (tgt := 536) (by decide) (by decide) rfl rfl ?_
      exact law_drift hC hR1 hR2 (by omega) hi hF hw hn
    · refine hC.cl.tabIn dL_law_32 (off := 527) (tgt := 559) (by decide) (by decide) rfl rfl ?_
      exact law_cut hC hR1 hR2 (by omega) hi hF hw hn
    · refine hC.cl.tabIn dL_law_32 (off := 560) (tgt := 592) (by decide) (by decide) rfl rfl ?_
      exact law_lasts hC hR1 hR2 (by omega) hi hF hw hn
    · refine hC.cl.tabIn dL_law_32 (off := 593) (tgt := 625) (by decide) (by decide) rfl rfl ?_
      exact law_hems hC hR1 hR2 (by omega) hi hF hw hn
    · refine hC.cl.tabIn dL_law_32 (off := 626) (tgt := 658) (by decide) (by decide) rfl rfl ?_
      exact law_thread hC hR1 hR2 (by omega) hi hF hw hn
    · refine hC.cl.tabIn dL_law_32 (off := 659) (tgt := 691) (by decide) (by decide) rfl rfl ?_
      exact law_odds hC hR1 hR2 (by omega) hi hF hw hn
    · refine hC.cl.tabIn dL_law_32 (off := 692) (tgt := 724) (by decide) (by decide) rfl rfl ?_
      exact law_turnsOf hC hR1 hR2 (by omega) hi hF hw hn
    · refine hC.cl.tabIn dL_law_32 (off := 745) (tgt := 777) (by decide) (by decide) rfl rfl ?_
      exact law_colours hC hR1 hR2 (by omega) hi hF hw hn
    · refine hC.cl.tabIn dL_law_32 (off := 768) (tgt := 800) (by decide) (by decide) rfl rfl ?_
      exact law_left hC hR1 hR2 (by omega) hi hF hw hn
    · refine hC.cl.tabIn dL_law_32 (off := 801) (tgt := 833) (by decide) (by decide) rfl rfl ?_
      exact law_fits hC hR1 hR2 (by omega) hi hF hw hn
    · refine hC.cl.tabIn dL_law_32 (off := 814) (tgt := 846) (by decide) (by decide) rfl rfl ?_
      exact law_sure hC hR1 hR2 (by omega) hi hF hw hn
    · refine hC.cl.tabIn dL_law_32 (off := 837) (tgt := 869) (by decide) (by decide) rfl rfl ?_
      exact law_write hC hR1 hR2 (by omega) hi hF hw hn
    · refine hC.cl.tabIn dL_law_32 (off := 870) (tgt := 902) (by decide) (by decide) rfl rfl ?_
      exact law_tear hC hR1 hR2 (by omega) hi hF hw hn
    · refine hC.cl.tabIn dL_law_32 (off := 883) (tgt := 915) (by decide) (by decide) rfl rfl ?_
      exact law_judge hC hR1 hR2 (by omega) hi hF hw hn
    · refine hC.cl.tabIn dL_law_32 (off := 896) (tgt := 928) (by decide) (by decide) rfl rfl ?_
      exact law_seed hC hR1 hR2 (by omega) hi hF hw hn
    · refine hC.cl.tabIn dL_law_32 (off := 919) (tgt := 951) (by decide) (by decide) rfl rfl ?_
      exact law_keep hC hR1 hR2 (by omega) hi hF hw hn
    · refine hC.cl.tabIn dL_law_32 (off := 942) (tgt := 974) (by decide) (by decide) rfl rfl ?_
      exact law_goBack hC hR1 hR2 (by omega) hi hF hw hn
    · refine hC.cl.tabOut dL_law_32 (tgt := 997) (Or.inr (by rw [nI_toInt (by omega)]; omega)) rfl ?_
      exact hn s R F L hs hF hw
end LOOP
theorem teN6 : te (fun t => t) (rnN 0 1) (.inl (3, 2, .inr (.inr (.inr (.inr (fun j => if j = 0 then some 7 else some 10)))))) = .inl (3, 2, .inr (.inr (.inr (.inr (fun j => if j = 0 then some 7 else some 10))))) := by
  show Sum.inl (3, 2, Sum.inr (Sum.inr (Sum.inr (Sum.inr (fun j => Option.map (rnN 0 1) (if j = 0 then some 7 else some 10)))))) = _
  have e0 : (fun j : Nat => Option.map (rnN 0 1) (if j = 0 then some 7 else some 10)) = (fun j => if j = 0 then some 7 else some 10) := by
    funext j
    by_cases h : j = 0
    · rw [if_pos h]; rfl
    · rw [if_neg h]; rfl
  rw [e0]
set_option maxHeartbeats 8000000 in
set_option maxRecDepth 40000 in
theorem law_begin (l : Launch) {K : AK} {R0 : Room} (hR1 : 20 ≤ R0.frames) (hR2 : 800 ≤ R0.locals) (hC : Cn l cL_law RL 4 R0 71 0 10000 K) (h16 : K 16 [(2, .ref 45), (1, .ref 0), (0, .ref 500)] [] (lawW s00.w R00 F00 L00)) : K 0 [(0, .ref 500)] [] [] := by
  refine hC.newobj (ci := 8) (fs := dfX8) dL_law_0 rfl tbX8 (gw 69 (by decide +kernel) rfl) (gw 70 (by decide +kernel) rfl) (gw 52 (by decide +kernel) rfl) tyX8 tyX8_ok dfX8_ok rfl (fun _ => rfl) (Nat.le_of_ble_eq_true rfl) (Nat.le_of_ble_eq_true rfl) ?_
  show K 3 [(0, .ref 500)] [.ref 0] [.inr (8, dfX8)]
  refine hC.dup dL_law_3 rfl ?_
  refine hC.callI (a := 0) (fs := dfX8) lmL_9 dL_law_4 mkX8_init ⟨rfl, (gw 72 (by decide +kernel) rfl)⟩ (nt_X8 l) (rm_up ⟨(Nat.le_of_ble_eq_true rfl), (Nat.le_of_ble_eq_true rfl)⟩ hR1 hR2) (Nat.le_of_ble_eq_true rfl) rfl (fun _ => rfl) rfl rfl (Nat.le_of_ble_eq_true rfl) (Nat.le_of_ble_eq_true rfl) ?_
  refine hC.astore_n dL_law_7 (by decide) ?_
  have hl1 : [(Sum.inr (8, dfX8) : va_E)].length = 1 := rfl
  rw [hl1]
  refine Eq.mpr (congrArg (K 8 [(1, .ref 0), (0, .ref 500)] []) (?_ : _ = s00.w)) ?_
  · refine List.ext_getElem? (fun k => ?_)
    match k with
    | 0 => exact rfl
    | 1 => exact rfl
    | 2 => exact rfl
    | 3 => exact rfl
    | 4 => exact rfl
    | 5 => exact rfl
    | 6 => exact congrArg some teN6
    | 7 => exact rfl
    | 8 => exact rfl
    | 9 => exact rfl
    | 10 => exact rfl
    | 11 => exact rfl
    | 12 => exact rfl
    | 13 => exact rfl
    | 14 => exact rfl
    | 15 => exact rfl
    | 16 => exact rfl
    | 17 => exact rfl
    | 18 => exact rfl
    | 19 => exact rfl
    | 20 => exact rfl
    | 21 => exact rfl
    | 22 => exact rfl
    | 23 => exact rfl
    | 24 => exact rfl
    | 25 => exact rfl
    | 26 => exact rfl
    | 27 => exact rfl
    | 28 => exact rfl
    | 29 => exact rfl
    | 30 => exact rfl
    | 31 => exact rfl
    | 32 => exact rfl
    | 33 => exact rfl
    | 34 => exact rfl
    | 35 => exact rfl
    | 36 => exact rfl
    | 37 => exact rfl
    | 38 => exact rfl
    | 39 => exact rfl
    | 40 => exact rfl
    | 41 => exact rfl
    | 42 => exact rfl
    | 43 => exact rfl
    | 44 => exact rfl
    | k + 45 => exact rfl
  refine hC.newobj (ci := 9) (fs := dfX9) dL_law_8 rfl tbX9 (gw 864 (by decide +kernel) rfl) (gw 865 (by decide +kernel) rfl) (gw 61 (by decide +kernel) rfl) tyX9 tyX9_ok dfX9_ok rfl (fun _ => rfl) (Nat.le_of_ble_eq_true rfl) (Nat.le_of_ble_eq_true rfl) ?_
  show K 11 [(1, .ref 0), (0, .ref 500)] [.ref 45] (s00.w ++ [.inr (9, dfX9)])
  refine hC.dup dL_law_11 rfl ?_
  refine hC.callI (a := 45) (fs := dfX9) lmL_12 dL_law_12 mkX9_init ⟨rfl, (gw 867 (by decide +kernel) rfl)⟩ (nt_X9 l) (rm_up ⟨(Nat.le_of_ble_eq_true rfl), (Nat.le_of_ble_eq_true rfl)⟩ hR1 hR2) (Nat.le_of_ble_eq_true rfl) rfl (fun _ => rfl) rfl rfl (Nat.le_of_ble_eq_true rfl) (Nat.le_of_ble_eq_true rfl) ?_
  refine hC.astore_n dL_law_15 (by decide) ?_
  have hl : (s00.w ++ [Sum.inr (9, dfX9)]).length = 46 := rfl
  rw [hl]
  refine Eq.mpr (congrArg (K 16 [(2, .ref 45), (1, .ref 0), (0, .ref 500)] []) (?_ : _ = lawW s00.w R00 F00 L00)) h16
  unfold lawW
  rw [List.set_append_right 45 _ (by rw [w_len]; exact Nat.le_refl _), w_len, Nat.sub_self, List.append_assoc]
  exact congrArg (fun q => s00.w ++ q) rfl
