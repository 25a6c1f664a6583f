/-! StripFlagModel: lasts -/
noncomputable def mLasts (R : Nat → Nat → Nat) (F : Nat → Nat) (x y : Int32) : Int32 := if inB x (2 ^ F 7) = true then (if inR y 3 = true then nI (dlB R (ix x) (thF (stM R F) 0) (andn (thF (stM R F) 0) (F 10)) (ix y)).toNat else cO) else cU
set_option maxHeartbeats 4000000 in
set_option maxRecDepth 20000 in
theorem ct_X9_lasts (l : Launch) (R : Nat → Nat → Nat) (F : Nat → Nat) (L : Nat → Int64) (h : MdOK R F) (x y : Int32) : Ct l 3 yX9_lasts cX9_lasts 3 (some .int) [.ref 0, .int x, .int y] (mdW R F L) (RV (.int (mLasts R F x y)) (mdW R F L)) := by
  refine Ct.of (by decide) (Nat.le_of_ble_eq_true rfl) (fun K hC hR => ?_)
  show K 0 [(0, .ref 0), (1, .int x), (2, .int y)] [] _
  have h8 := h.2.1
  have hp := pow8 h8
  refine hC.aload_n dX9_lasts_0 rfl ?_
  refine hC.iload_n dX9_lasts_1 rfl ?_
  refine hC.rdV [0, 1, 2, 3, 4, 5, 6, 7, 8, 9, 10, 11, 12, 13, 14, 15, 16, 17, 18, 19, 20, 21, 22, 23, 24, 25] dX9_lasts_2 lmX9_252 mkX9_areStrips svX9_areStrips (ct_X9_areStrips l R F L (by omega) x) ⟨Nat.le_of_ble_eq_true rfl, Nat.le_of_ble_eq_true rfl⟩ rfl rfl (Nat.le_of_ble_eq_true rfl) ⟨by decide, rfl⟩ rfl rfl ?_
  refine hC.bnz dX9_lasts_5 (tgt := 11) rfl (fun c1 => ?_) (fun c1 => ?_)
  · obtain ⟨a, ha, rfl⟩ := inB_of c1 (by omega)
    have hix : ix (nI a) = a := nI_clamp (by omega)
    rw [mLasts, if_pos c1, hix] at hR
    refine hC.iload_n dX9_lasts_11 rfl ?_
    refine hC.i2l dX9_lasts_12 ?_
    refine hC.lconst dX9_lasts_13 (v := lN 0) rfl ?_
    refine hC.ldc2_w (v := lN 3) dX9_lasts_14 lcX9_206 ?_
    refine hC.rdS [] dX9_lasts_17 lmX9_92 mkX9_in sxX9_in (ct_X9_in l y.toInt64 (lN 0) (lN 3)) ⟨Nat.le_of_ble_eq_true rfl, Nat.le_of_ble_eq_true rfl⟩ rfl rfl (Nat.le_of_ble_eq_true rfl) ⟨by decide, rfl⟩ ?_
    rw [in_R (by decide)]
    refine hC.bnz dX9_lasts_20 (tgt := 26) rfl (fun c2 => ?_) (fun c2 => ?_)
    · obtain ⟨k, hk, rfl⟩ := inR_of (by decide) c2
      have hiy : ix (nI k) = k := nI_clamp (by omega)
      rw [if_pos c2, hiy] at hR
      have hm := thF_lt (stM R F) 0
      refine hC.aload_n dX9_lasts_26 rfl ?_
      refine hC.iload_n dX9_lasts_27 rfl ?_
      refine hC.aload_n dX9_lasts_28 rfl ?_
      refine hC.iconst dX9_lasts_29 (v := nI 0) rfl ?_
      refine hC.rdV [0, 1, 2, 3, 4, 5, 6, 7, 8, 9, 10, 11, 12, 13, 14, 15, 16, 17, 18, 19, 20, 21, 22, 23, 24, 25] dX9_lasts_30 lmX9_198 mkX9_there svX9_there (ct_X9_there l R F L h 0 (by decide)) ⟨Nat.le_of_ble_eq_true rfl, Nat.le_of_ble_eq_true rfl⟩ rfl rfl (Nat.le_of_ble_eq_true rfl) ⟨by decide, rfl⟩ rfl rfl ?_
      refine hC.aload_n dX9_lasts_33 rfl ?_
      refine hC.iconst dX9_lasts_34 (v := nI 0) rfl ?_
      refine hC.rdV [0, 1, 2, 3, 4, 5, 6, 7, 8, 9, 10, 11, 12, 13, 14, 15, 16, 17, 18, 19, 20, 21, 22, 23, 24, 25] dX9_lasts_35 lmX9_198 mkX9_there svX9_there (ct_X9_there l R F L h 0 (by decide)) ⟨Nat.le_of_ble_eq_true rfl, Nat.le_of_ble_eq_true rfl⟩ rfl rfl (Nat.le_of_ble_eq_true rfl) ⟨by decide, rfl⟩ rfl rfl ?_
      refine hC.aload_n dX9_lasts_38 rfl ?_
      refine hC.getfield dX9_lasts_39 lfX9_192 rfl rfl ?_
      refine hC.iconst dX9_lasts_42 (v := (-1)) rfl ?_
      refine hC.ixor dX9_lasts_43 ?_
      refine hC.iand dX9_lasts_44 ?_
      rw [nI_andn]
      refine hC.iload_n dX9_lasts_45 rfl ?_
      refine hC.rdV [0, 1, 2, 3, 4, 5, 6, 7, 8, 9, 10, 11, 12, 13, 14, 15, 16, 17, 18, 19, 20, 21, 22, 23, 24, 25] dX9_lasts_46 lmX9_255 mkX9_doLast svX9_doLast (ct_X9_doLast l R F L h a (thF (stM R F) 0) (andn (thF (stM R F) 0) (F 10)) k (by omega) (by omega) (andn_b (by omega)) (by omega) (fun s hs => Or.inl (thF_v hs))) ⟨Nat.le_of_ble_eq_true rfl, Nat.le_of_ble_eq_true rfl⟩ rfl rfl (Nat.le_of_ble_eq_true rfl) ⟨by decide, rfl⟩ rfl rfl ?_
      refine hC.bz dX9_lasts_49 (tgt := 56) rfl (fun c3 => ?_) (fun c3 => ?_)
      · rw [c3] at hR
        refine hC.iconst dX9_lasts_56 (v := nI 0) rfl ?_
        exact hR.ireturn dX9_lasts_57 ⟨rfl, rfl⟩
      · rw [c3] at hR
        refine hC.iconst dX9_lasts_52 (v := nI 1) rfl ?_
        refine hC.goto dX9_lasts_53 (tgt := 57) rfl ?_
        exact hR.ireturn dX9_lasts_57 ⟨rfl, rfl⟩
    · rw [if_neg (by simp [c2])] at hR
      refine hC.ldc dX9_lasts_23 lcX9_96 ?_
      exact hR.ireturn dX9_lasts_25 ⟨rfl, rfl⟩
  · rw [mLasts, if_neg (by simp [c1])] at hR
    refine hC.ldc dX9_lasts_8 lcX9_205 ?_
    exact hR.ireturn dX9_lasts_10 ⟨rfl, rfl⟩
