/-! StripFlagModel: worth, opens -/
theorem worth_num (p q : Bool) : nI 3 * (nI p.toNat - nI q.toNat) = zI (3 * (p.toNat : Int) - 3 * (q.toNat : Int)) := by
  cases p <;> cases q <;> decide
noncomputable def woF (R : Nat → Nat → Nat) (m x y : Nat) : Int := 3 * (((flyF (EM R) 20 m).testBit x).toNat : Int) - 3 * (((flyF (EM R) 20 m).testBit y).toNat : Int)
set_option maxHeartbeats 4000000 in
set_option maxRecDepth 20000 in
theorem ct_X9_worth (l : Launch) (R : Nat → Nat → Nat) (F : Nat → Nat) (L : Nat → Int64) (h : MdOK R F) (a b m : Nat) (ha : a < 32) (hb : b < 32) (hm : m < 2 ^ 31) (hv : ∀ s, m.testBit s = true → vS F s) : Ct l 1 yX9_worth cX9_worth 5 (some .int) [.ref 0, .int (nI a), .int (nI b), .int (nI m)] (mdW R F L) (RV (.int (zI (woF R m a b))) (mdW R F L)) := by
  refine Ct.of (by decide) (Nat.le_of_ble_eq_true rfl) (fun K hC hR => ?_)
  show K 0 [(0, .ref 0), (1, .int (nI a)), (2, .int (nI b)), (3, .int (nI m))] [] _
  have hf := flyF_lt (EM R) 20 m
  refine hC.aload_n dX9_worth_0 rfl ?_
  refine hC.iload_n dX9_worth_1 rfl ?_
  refine hC.rdV [0, 1, 2, 3, 4, 5, 6, 7, 8, 9, 10, 11, 12, 13, 14, 15, 16, 17, 18, 19, 20, 21, 22, 23, 24, 25] dX9_worth_2 lmX9_223 mkX9_flying svX9_flying (ct_X9_flying l R F L h m hm hv) ⟨Nat.le_of_ble_eq_true rfl, Nat.le_of_ble_eq_true rfl⟩ rfl rfl (Nat.le_of_ble_eq_true rfl) ⟨by decide, rfl⟩ rfl rfl ?_
  refine hC.istore dX9_worth_5 (by decide) ?_
  refine hC.iconst dX9_worth_7 (v := nI 3) rfl ?_
  refine hC.iload dX9_worth_8 rfl ?_
  refine hC.iload_n dX9_worth_10 rfl ?_
  refine hC.ishr dX9_worth_11 ?_
  refine hC.iconst dX9_worth_12 (v := nI 1) rfl ?_
  refine hC.iand dX9_worth_13 ?_
  rw [nI_bit (by omega) ha]
  refine hC.iload dX9_worth_14 rfl ?_
  refine hC.iload_n dX9_worth_16 rfl ?_
  refine hC.ishr dX9_worth_17 ?_
  refine hC.iconst dX9_worth_18 (v := nI 1) rfl ?_
  refine hC.iand dX9_worth_19 ?_
  rw [nI_bit (by omega) hb]
  refine hC.isub dX9_worth_20 ?_
  refine hC.imul dX9_worth_21 ?_
  exact hR.ireturn dX9_worth_22 ⟨by rw [worth_num]; rfl, rfl⟩
theorem m9_nI : (-9 : Int32) = nI 4294967287 := by decide
set_option maxHeartbeats 4000000 in
set_option maxRecDepth 20000 in
theorem ct_X9_opens (l : Launch) (R : Nat → Nat → Nat) (F : Nat → Nat) (L : Nat → Int64) (d m : Nat) (hd : d < 5) : Ct l 0 yX9_opens cX9_opens 3 none [.ref 0, .int (nI d), .int (nI m)] (mdW R F L) (RU (mdW (upR (upR (upR R 16 (updN (R 16) d m)) 17 (updN (R 17) d NN)) 18 (updN (R 18) d 4294967287)) F L)) := by
  refine Ct.of (by decide) (Nat.le_of_ble_eq_true rfl) (fun K hC hR => ?_)
  show K 0 [(0, .ref 0), (1, .int (nI d)), (2, .int (nI m))] [] _
  refine hC.aload_n dX9_opens_0 rfl ?_
  refine hC.getfield dX9_opens_1 lfX9_56 rfl rfl ?_
  refine hC.iload_n dX9_opens_4 rfl ?_
  refine hC.iload_n dX9_opens_5 rfl ?_
  refine hC.isN dX9_opens_6 rfl ⟨by omega, by decide⟩ ?_
  refine hC.aload_n dX9_opens_7 rfl ?_
  refine hC.getfield dX9_opens_8 lfX9_59 rfl rfl ?_
  refine hC.iload_n dX9_opens_11 rfl ?_
  refine hC.iconst dX9_opens_12 (v := (-1)) rfl ?_
  rw [m1_nI]
  refine hC.isN dX9_opens_13 rfl ⟨by omega, by decide⟩ ?_
  refine hC.aload_n dX9_opens_14 rfl ?_
  refine hC.getfield dX9_opens_15 lfX9_62 rfl rfl ?_
  refine hC.iload_n dX9_opens_18 rfl ?_
  refine hC.bipush dX9_opens_19 (v := (-9)) rfl ?_
  rw [m9_nI]
  refine hC.isN dX9_opens_21 rfl ⟨by omega, by decide⟩ ?_
  exact hR.return_ dX9_opens_22 ⟨rfl, rfl⟩
