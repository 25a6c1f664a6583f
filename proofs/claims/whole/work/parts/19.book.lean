/-! StripFlag$Book -/
abbrev BookT : Type := (Nat → Nat) × (Nat → Nat) × Nat
abbrev bookW (B : BookT) : List va_E := [.inr (0, [.ref 1, .ref 2, .int (nI B.2.2)]), rowI 30 B.1, rowI 30 B.2.1]
abbrev bpcW (B : BookT) (P : PlanT) (Q : ClothT) : List va_E := [.inr (0, [.ref 1, .ref 2, .int (nI B.2.2)]), rowI 30 B.1, rowI 30 B.2.1, .inr (4, [.ref 4, .ref 5, .ref 6, .ref 7, .ref 8, .ref 9, .ref 10, .ref 11, .int (nI (P.2 0)), .int (nI (P.2 1)), .int (nI (P.2 2)), .int (nI (P.2 3))]), rowI 4 (P.1 0), rowI 8 (P.1 1), rowI 12 (P.1 2), rowI 12 (P.1 3), rowI 12 (P.1 4), rowI 12 (P.1 5), rowI 8 (P.1 6), rowI 8 (P.1 7), .inr (1, [.ref 13, .ref 14, .int (nI Q.2.2.1), .int (nI Q.2.2.2)]), rowI 12 Q.1, rowI 8 Q.2.1]
def BookOK (B : BookT) : Prop := B.2.2 ≤ 30 ∧ ∀ i, i < B.2.2 → B.1 i < 8 ∧ B.2.1 i < 12
set_option maxHeartbeats 4000000 in
set_option maxRecDepth 20000 in
theorem ct_X0_add (l : Launch) (B : BookT) (x y : Nat) (h : B.2.2 < 30) : Ct l 0 yX0_add cX0_add 3 none [.ref 0, .int (nI x), .int (nI y)] (bookW B) (RU (bookW (updN B.1 B.2.2 x, updN B.2.1 B.2.2 y, B.2.2 + 1))) := by
  refine Ct.of (by decide) (Nat.le_of_ble_eq_true rfl) (fun K hC hR => ?_)
  show K 0 [(0, .ref 0), (1, .int (nI x)), (2, .int (nI y))] [] _
  refine hC.aload_n dX0_add_0 rfl ?_
  refine hC.getfield dX0_add_1 lfX0_18 rfl rfl ?_
  refine hC.z_lt (by omega) dX0_add_4 (tgt := 46) rfl ?_
  refine hC.aload_n dX0_add_7 rfl ?_
  refine hC.getfield dX0_add_8 lfX0_18 rfl rfl ?_
  refine hC.bipush dX0_add_11 (v := nI 30) rfl ?_
  refine hC.n_ge (by omega) (by omega) dX0_add_13 (tgt := 46) rfl (fun c => ?_) (fun c => ?_)
  · omega
  · refine hC.aload_n dX0_add_16 rfl ?_
    refine hC.getfield dX0_add_17 lfX0_9 rfl rfl ?_
    refine hC.aload_n dX0_add_20 rfl ?_
    refine hC.getfield dX0_add_21 lfX0_18 rfl rfl ?_
    refine hC.iload_n dX0_add_24 rfl ?_
    refine hC.isN dX0_add_25 rfl ⟨by omega, by decide⟩ ?_
    refine hC.aload_n dX0_add_26 rfl ?_
    refine hC.getfield dX0_add_27 lfX0_15 rfl rfl ?_
    refine hC.aload_n dX0_add_30 rfl ?_
    refine hC.getfield dX0_add_31 lfX0_18 rfl rfl ?_
    refine hC.iload_n dX0_add_34 rfl ?_
    refine hC.isN dX0_add_35 rfl ⟨by omega, by decide⟩ ?_
    refine hC.aload_n dX0_add_36 rfl ?_
    refine hC.dup dX0_add_37 rfl ?_
    refine hC.getfield dX0_add_38 lfX0_18 rfl rfl ?_
    refine hC.iconst dX0_add_41 (v := nI 1) rfl ?_
    refine hC.iadd dX0_add_42 ?_
    rw [nI_add]
    refine hC.putI dX0_add_43 lpX0_18 rfl rfl rfl (Nat.le_of_ble_eq_true rfl) ?_
    exact hR.return_ dX0_add_46 ⟨rfl, rfl⟩
def smL (B : BookT) (m : Nat) : Nat → Nat
  | 0 => m
  | i + 1 => andn (smL B m i) (2 ^ B.2.1 i)
theorem smL_lt {B : BookT} {m : Nat} (h : m < 4096) : ∀ i, smL B m i < 4096
  | 0 => h
  | i + 1 => andn_b (smL_lt h i)
def jgL (B : BookT) (P : PlanT) (m h : Nat) : Nat → Nat
  | 0 => NN
  | k + 1 => if jgL B P m h k = NN ∧ (upF P (B.1 k) (smL B m k) h).testBit (B.2.1 k) = false then k else jgL B P m h k
theorem jgL_stop {B : BookT} {P : PlanT} {m h s : Nat} (h1 : jgL B P m h s ≠ NN) : ∀ t, s ≤ t → jgL B P m h t = jgL B P m h s := by
  intro t ht
  induction t with
  | zero => have : s = 0 := by omega
            subst this; rfl
  | succ t ih =>
    by_cases e : s = t + 1
    · subst e; rfl
    · have := ih (by omega)
      rw [jgL, if_neg (by rw [this]; exact fun z => h1 z.1), this]
set_option maxHeartbeats 4000000 in
set_option maxRecDepth 20000 in
theorem ct_X0_firstWrong (l : Launch) (B : BookT) (P : PlanT) (Q : ClothT) (hB : BookOK B) (hP : PlanOK P) (hQ : ClothOK Q) : Ct l 3 yX0_firstWrong cX0_firstWrong 5 (some .int) [.ref 0, .ref 3, .ref 12] (bpcW B P Q) (RV (.int (nI (jgL B P (thF Q.1 0) Q.2.2.1 B.2.2))) (bpcW B P Q)) := by
  refine Ct.of (by decide) (Nat.le_of_ble_eq_true rfl) (fun K hC hR => ?_)
  show K 0 [(0, .ref 0), (1, .ref 3), (2, .ref 12)] [] _
  have h30 := hB.1
  refine hC.aload_n dX0_firstWrong_0 rfl ?_
  refine hC.rdV [12, 13, 14] dX0_firstWrong_1 lmX0_22 mkX1_sewn svX1_sewn (ct_X1_sewn l Q hQ) ⟨Nat.le_of_ble_eq_true rfl, Nat.le_of_ble_eq_true rfl⟩ rfl rfl (Nat.le_of_ble_eq_true rfl) ⟨by decide, rfl⟩ rfl rfl ?_
  have hm := thF_lt Q.1 0
  generalize hm0 : thF Q.1 0 = m at hm ⊢
  rw [hm0] at hR
  refine hC.istore_n dX0_firstWrong_4 (by decide) ?_
  refine hC.iconst dX0_firstWrong_5 (v := nI 0) rfl ?_
  refine hC.istore dX0_firstWrong_6 (by decide) ?_
  have loop : ∀ s, s ≤ B.2.2 → jgL B P m Q.2.2.1 s = NN → K 8 [(0, .ref 0), (1, .ref 3), (2, .ref 12), (3, .int (nI (smL B m s))), (4, .int (nI s))] [] (bpcW B P Q) := by
    refine loopUp1 _ B.2.2 ?_ (fun s hs ih => ?_)
    · intro hj
      refine hC.iload dX0_firstWrong_8 rfl ?_
      refine hC.aload_n dX0_firstWrong_10 rfl ?_
      refine hC.getfield dX0_firstWrong_11 lfX0_18 rfl rfl ?_
      refine hC.n_ge (by omega) (by omega) dX0_firstWrong_14 (tgt := 76) rfl (fun c => ?_) (fun c => ?_)
      · refine hC.iconst dX0_firstWrong_76 (v := (-1)) rfl ?_
        exact hR.ireturn dX0_firstWrong_77 ⟨by rw [hj, ← m1_nI], rfl⟩
      · omega
    · intro hj
      have hb := hB.2 s hs
      have hsm := smL_lt (B := B) hm s
      refine hC.iload dX0_firstWrong_8 rfl ?_
      refine hC.aload_n dX0_firstWrong_10 rfl ?_
      refine hC.getfield dX0_firstWrong_11 lfX0_18 rfl rfl ?_
      refine hC.n_ge (by omega) (by omega) dX0_firstWrong_14 (tgt := 76) rfl (fun c => ?_) (fun c => ?_)
      · omega
      · refine hC.iload dX0_firstWrong_17 rfl ?_
        refine hC.bipush dX0_firstWrong_19 (v := nI 30) rfl ?_
        refine hC.n_ge (by omega) (by omega) dX0_firstWrong_21 (tgt := 76) rfl (fun c2 => ?_) (fun c2 => ?_)
        · omega
        · refine hC.aload_n dX0_firstWrong_24 rfl ?_
          refine hC.aload_n dX0_firstWrong_25 rfl ?_
          refine hC.getfield dX0_firstWrong_26 lfX0_9 rfl rfl ?_
          refine hC.iload dX0_firstWrong_29 rfl ?_
          refine hC.iaN dX0_firstWrong_31 rfl ⟨by omega, by decide⟩ ?_
          refine hC.iload_n dX0_firstWrong_32 rfl ?_
          refine hC.aload_n dX0_firstWrong_33 rfl ?_
          refine hC.getfield dX0_firstWrong_34 lfX0_28 rfl rfl ?_
          refine hC.rdV [3, 4, 5, 6, 7, 8, 9, 10, 11] dX0_firstWrong_37 lmX0_31 mkX4_unpickable svX4_unpickable (ct_X4_unpickable l P hP (B.1 s) (smL B m s) Q.2.2.1 (by omega) hsm) ⟨Nat.le_of_ble_eq_true rfl, Nat.le_of_ble_eq_true rfl⟩ rfl rfl (Nat.le_of_ble_eq_true rfl) ⟨by decide, rfl⟩ rfl rfl ?_
          refine hC.aload_n dX0_firstWrong_40 rfl ?_
          refine hC.getfield dX0_firstWrong_41 lfX0_15 rfl rfl ?_
          refine hC.iload dX0_firstWrong_44 rfl ?_
          refine hC.iaN dX0_firstWrong_46 rfl ⟨by omega, by decide⟩ ?_
          refine hC.rdSN [] dX0_firstWrong_47 lnX0_37 mkX8_has sxX8_has (ct_X8_has l (upF P (B.1 s) (smL B m s) Q.2.2.1) (B.2.1 s) (Nat.lt_trans (bs_lt _ 12) (by decide)) (by omega)) ⟨Nat.le_of_ble_eq_true rfl, Nat.le_of_ble_eq_true rfl⟩ rfl rfl (Nat.le_of_ble_eq_true rfl) ⟨by decide, rfl⟩ ?_
          refine hC.bnz dX0_firstWrong_50 (tgt := 56) rfl (fun c3 => ?_) (fun c3 => ?_)
          · refine hC.iload_n dX0_firstWrong_56 rfl ?_
            refine hC.iconst dX0_firstWrong_57 (v := nI 1) rfl ?_
            refine hC.aload_n dX0_firstWrong_58 rfl ?_
            refine hC.getfield dX0_firstWrong_59 lfX0_15 rfl rfl ?_
            refine hC.iload dX0_firstWrong_62 rfl ?_
            refine hC.iaN dX0_firstWrong_64 rfl ⟨by omega, by decide⟩ ?_
            refine hC.ishl dX0_firstWrong_65 ?_
            rw [nI_shl (by omega), Nat.one_mul]
            refine hC.iconst dX0_firstWrong_66 (v := (-1)) rfl ?_
            refine hC.ixor dX0_firstWrong_67 ?_
            refine hC.iand dX0_firstWrong_68 ?_
            rw [nI_andn]
            refine hC.istore_n dX0_firstWrong_69 (by decide) ?_
            refine hC.iinc dX0_firstWrong_70 rfl (nI_1 _) (by decide) ?_
            refine hC.goto dX0_firstWrong_73 (tgt := 8) rfl ?_
            exact hC.loc rfl (ih (by rw [jgL, if_neg (fun z => by rw [c3] at z; exact absurd z.2 (by decide)), hj]))
          · have e1 : jgL B P m Q.2.2.1 (s + 1) = s := by rw [jgL, if_pos ⟨hj, c3⟩]
            have hne : jgL B P m Q.2.2.1 (s + 1) ≠ NN := by
              rw [e1]
              have : NN = 4294967295 := rfl
              omega
            refine hC.iload dX0_firstWrong_53 rfl ?_
            exact hR.ireturn dX0_firstWrong_55 ⟨by rw [jgL_stop hne B.2.2 (by omega), e1], rfl⟩
  exact hC.loc rfl (loop 0 (by omega) rfl)
