/-! StripFlag: feed, flag -/
abbrev sfV (X : TextT) (Q I0 I1 : ClothT) (B : BookT) (Z : CutT) (Y : Nat × Nat) (W V : Int32) (U : Nat → Nat) (T : PaintT) (g : Nat → Nat) (P S : PlanT) (kp : Nat) : List va_E := [.inr (8, [.ref 1, .ref 3, .ref 6, .ref 13, .ref 16, .ref 19, .ref 20, .ref 21, .ref 26, .ref 36, .ref 27, .int (nI kp)]),
  .inr (5, [.ref 2, .int (nI (X.2 0)), .int (nI (X.2 1)), .int (nI (X.2 2)), .int (nI (X.2 3)), .int (nI (X.2 4))]), .inl (1, 500, .inl X.1),
  .inr (1, [.ref 4, .ref 5, .int (nI Q.2.2.1), .int (nI Q.2.2.2)]), rowI 12 Q.1, rowI 8 Q.2.1,
  .inl (3, 2, .inr (.inr (.inr (.inr (fun j => if j = 0 then some 7 else some 10))))),
  .inr (1, [.ref 8, .ref 9, .int (nI I0.2.2.1), .int (nI I0.2.2.2)]), rowI 12 I0.1, rowI 8 I0.2.1,
  .inr (1, [.ref 11, .ref 12, .int (nI I1.2.2.1), .int (nI I1.2.2.2)]), rowI 12 I1.1, rowI 8 I1.2.1,
  .inr (0, [.ref 14, .ref 15, .int (nI B.2.2)]), rowI 30 B.1, rowI 30 B.2.1,
  .inr (2, [.ref 17, .ref 18, .int (nI Z.2.2)]), rowI 256 Z.1, rowI 256 Z.2.1,
  .inr (7, [.int (nI Y.1), .int (nI Y.2)]),
  .inr (6, [.int W, .int V, .int (nI (U 0)), .int (nI (U 1)), .int (nI (U 2)), .int (nI (U 3))]),
  .inr (3, [.int (nI T.1.toNat), .int (nI T.2.1), .ref 22, .ref 23, .ref 24, .ref 25, .int (nI T.2.2.1)]), rowI 8 (T.2.2.2 0), rowI 8 (T.2.2.2 1), rowI 8 (T.2.2.2 2), rowI 8 (T.2.2.2 3),
  rowI 8 g,
  .inr (4, [.ref 28, .ref 29, .ref 30, .ref 31, .ref 32, .ref 33, .ref 34, .ref 35, .int (nI (S.2 0)), .int (nI (S.2 1)), .int (nI (S.2 2)), .int (nI (S.2 3))]), rowI 4 (S.1 0), rowI 8 (S.1 1), rowI 12 (S.1 2), rowI 12 (S.1 3), rowI 12 (S.1 4), rowI 12 (S.1 5), rowI 8 (S.1 6), rowI 8 (S.1 7),
  .inr (4, [.ref 37, .ref 38, .ref 39, .ref 40, .ref 41, .ref 42, .ref 43, .ref 44, .int (nI (P.2 0)), .int (nI (P.2 1)), .int (nI (P.2 2)), .int (nI (P.2 3))]), rowI 4 (P.1 0), rowI 8 (P.1 1), rowI 12 (P.1 2), rowI 12 (P.1 3), rowI 12 (P.1 4), rowI 12 (P.1 5), rowI 8 (P.1 6), rowI 8 (P.1 7)]
def sFeed (X : TextT) (x : Int32) : Int32 := if inL x 1 8 = true then (if X.2 0 + ix x ≤ 500 then nI (X.2 0 + ix x) else cF) else cO
def fdX (X : TextT) (x : Int32) (y : Int64) (X2 : TextT) : Prop := if inL x 1 8 = true ∧ X.2 0 + ix x ≤ 500 then X2.2 = updN X.2 0 (X.2 0 + ix x) ∧ ∀ t, txB X.1 t (X.2 0) → txB X2.1 (fdT t (X.2 0) y (ix x) (ix x)) (X.2 0 + ix x) else X2 = X
set_option maxHeartbeats 4000000 in
set_option maxRecDepth 20000 in
theorem ct_X8_feed (l : Launch) (X : TextT) (Q I0 I1 : ClothT) (B : BookT) (Z : CutT) (Y : Nat × Nat) (W V : Int32) (U : Nat → Nat) (T : PaintT) (g : Nat → Nat) (P S : PlanT) (kp : Nat) (hok : SfOK X Q I0 I1 B T g P kp) (x : Int32) (y : Int64) : Ct l 2 yX8_feed cX8_feed 4 (some .int) [.ref 0, .int x, .long y] (sfW X Q I0 I1 B Z Y W V U T g P S kp) (fun r h2 => ∃ X2 : TextT, r = some (.int (sFeed X x)) ∧ fdX X x y X2 ∧ h2 = sfW X2 Q I0 I1 B Z Y W V U T g P S kp) := by
  refine Ct.of (by decide) (Nat.le_of_ble_eq_true rfl) (fun K hC hR => ?_)
  show K 0 [(0, .ref 0), (1, .int x), (2, .long y)] [] _
  have hX := hok.2.2.2.2.2.2.2.2
  have bad : ¬ inL x 1 8 = true → K 11 [(0, .ref 0), (1, .int x), (2, .long y)] [] (sfW X Q I0 I1 B Z Y W V U T g P S kp) := by
    intro hb
    have h1 : sFeed X x = cO := if_neg hb
    have h2 : fdX X x y X := by unfold fdX; rw [if_neg (fun z => hb z.1)]
    rw [h1] at hR
    refine hC.ldc dX8_feed_11 lcX8_76 ?_
    exact hR.ireturn dX8_feed_13 ⟨X, rfl, h2, rfl⟩
  have ein : inL x 1 8 = decide ((1 : Int) ≤ x.toInt ∧ x.toInt ≤ 8) := rfl
  refine hC.iload_n dX8_feed_0 rfl ?_
  refine hC.iconst dX8_feed_1 (v := nI 1) rfl ?_
  refine hC.icmp_lt dX8_feed_2 (tgt := 11) rfl (fun c1 => ?_) (fun c1 => ?_)
  · refine bad (fun z => ?_)
    rw [ein] at z
    have z := of_decide_eq_true z
    rw [Int32.lt_iff_toInt_lt, show (nI 1).toInt = 1 by decide] at c1
    omega
  · refine hC.iload_n dX8_feed_5 rfl ?_
    refine hC.bipush dX8_feed_6 (v := nI 8) rfl ?_
    refine hC.icmp_le dX8_feed_8 (tgt := 14) rfl (fun c2 => ?_) (fun c2 => ?_)
    · have c3 : inL x 1 8 = true := by
        rw [ein]
        apply decide_eq_true
        rw [Int32.lt_iff_toInt_lt, show (nI 1).toInt = 1 by decide] at c1
        rw [Int32.le_iff_toInt_le, show (nI 8).toInt = 8 by decide] at c2
        omega
      have c3b := of_decide_eq_true (ein ▸ c3)
      obtain ⟨k, hk31, rfl⟩ := nI_of (x := x) (by rw [lt0_iff]; omega)
      rw [nI_toInt hk31] at c3b
      have hix : ix (nI k) = k := nI_clamp hk31
      have hs : sFeed X (nI k) = if X.2 0 + k ≤ 500 then nI (X.2 0 + k) else cF := by unfold sFeed; rw [if_pos c3, hix]
      rw [hs] at hR
      refine hC.aload_n dX8_feed_14 rfl ?_
      refine hC.getfield dX8_feed_15 lfX8_12 rfl rfl ?_
      refine hC.iload_n dX8_feed_18 rfl ?_
      refine hC.rdV [1, 2] dX8_feed_19 lmX8_77 mkX5_hasRoom svX5_hasRoom (ct_X5_hasRoom l X.1 (X.2 0) (X.2 1) (X.2 2) (X.2 3) (X.2 4) k hX (by omega)) ⟨Nat.le_of_ble_eq_true rfl, Nat.le_of_ble_eq_true rfl⟩ rfl rfl (Nat.le_of_ble_eq_true rfl) ⟨by decide, rfl⟩ rfl rfl ?_
      refine hC.bnz dX8_feed_22 (tgt := 28) rfl (fun c4 => ?_) (fun c4 => ?_)
      · have c5 := of_decide_eq_true c4
        rw [if_pos c5] at hR
        refine hC.aload_n dX8_feed_28 rfl ?_
        refine hC.getfield dX8_feed_29 lfX8_12 rfl rfl ?_
        refine hC.iload_n dX8_feed_32 rfl ?_
        refine hC.lload_n dX8_feed_33 rfl ?_
        refine hC.callV [1, 2] dX8_feed_34 lmX8_82 mkX5_add svX5_add (ct_X5_add l X.1 (X.2 0) (X.2 1) (X.2 2) (X.2 3) (X.2 4) k y (by omega) c5) ⟨Nat.le_of_ble_eq_true rfl, Nat.le_of_ble_eq_true rfl⟩ rfl rfl (Nat.le_of_ble_eq_true rfl) ⟨by decide, rfl⟩ rfl rfl (fun r hc2 hp hl => ?_)
        obtain ⟨rfl, g2, rfl, hg⟩ := hp
        show K 37 _ [] (sfW (g2, updN X.2 0 (X.2 0 + k)) Q I0 I1 B Z Y W V U T g P S kp)
        refine hC.aload_n dX8_feed_37 rfl ?_
        refine hC.getfield dX8_feed_38 lfX8_12 rfl rfl ?_
        refine hC.getfield dX8_feed_41 lfX8_86 rfl rfl ?_
        exact hR.ireturn dX8_feed_44 ⟨(g2, updN X.2 0 (X.2 0 + k)), rfl, by unfold fdX; rw [hix, if_pos ⟨c3, c5⟩]; exact ⟨rfl, hg⟩, rfl⟩
      · have c5 := of_decide_eq_false c4
        rw [if_neg c5] at hR
        refine hC.ldc dX8_feed_25 lcX8_81 ?_
        exact hR.ireturn dX8_feed_27 ⟨X, rfl, by unfold fdX; rw [hix, if_neg (fun z => c5 z.2)], rfl⟩
    · refine bad (fun z => ?_)
      rw [ein] at z
      have z := of_decide_eq_true z
      rw [Int32.le_iff_toInt_le, show (nI 8).toInt = 8 by decide] at c2
      omega
def xF (n f q i b : Nat) : Nat → Nat := fun j => if j = 0 then n else if j = 1 then f else if j = 2 then q else if j = 3 then i else b
def flX (X : TextT) (Q I0 I1 : ClothT) (B : BookT) (Z : CutT) (Y : Nat × Nat) (W V : Int32) (U : Nat → Nat) (T : PaintT) (g : Nat → Nat) (P S : PlanT) (kp : Nat) (x : Except FaT ToldT) (r : Option Value) (h2 : List va_E) : Prop := match x with
  | .error (k, p) => ∃ (f i b : Nat) (P2 : PlanT), r = some (.int ((-10 : Int32) - nI k)) ∧ PlX P2 ∧ h2 = sfW (X.1, xF 0 f p i b) Q I0 I1 B Z Y W V U T g P P2 kp
  | .ok To => ∃ (i b : Nat) (P2 : PlanT) (g2 : Nat → Nat), r = some (.int (nI (To.2 1))) ∧ PlX P2 ∧ tdP P2 To ∧ TC To ∧ (∀ a, a < 8 → g2 a = 2 ^ To.2 0 - 1) ∧ (∀ a, 8 ≤ a → g2 a = g a) ∧ h2 = sfV (X.1, xF 0 0 NN i b) (P2.1 4, P2.1 1, 0, Q.2.2.2) I0 I1 (B.1, B.2.1, 0) Z Y W V U T g2 P2 P 0
set_option maxHeartbeats 4000000 in
set_option maxRecDepth 20000 in
theorem ct_X8_flag (l : Launch) (X : TextT) (Q I0 I1 : ClothT) (B : BookT) (Z : CutT) (Y : Nat × Nat) (W V : Int32) (U : Nat → Nat) (T : PaintT) (g : Nat → Nat) (P S : PlanT) (kp : Nat) (hok : SfOK X Q I0 I1 B T g P kp) (t : Nat → Nat) (ht : txB X.1 t (X.2 0)) (hxS : PlX S) : Ct l 8 yX8_flag cX8_flag 3 (some .int) [.ref 0] (sfW X Q I0 I1 B Z Y W V U T g P S kp) (flX X Q I0 I1 B Z Y W V U T g P S kp (paT t (X.2 0) 501 T0 0)) := by
  refine Ct.of (by decide) (Nat.le_of_ble_eq_true rfl) (fun K hC hR => ?_)
  show K 0 [(0, .ref 0)] [] _
  have hX := hok.2.2.2.2.2.2.2.2
  obtain ⟨C, hCg⟩ : ∃ C, paT t (X.2 0) 501 T0 0 = C := ⟨_, rfl⟩
  rw [hCg] at hR
  refine hC.aload_n dX8_flag_0 rfl ?_
  refine hC.getfield dX8_flag_1 lfX8_12 rfl rfl ?_
  refine hC.aload_n dX8_flag_4 rfl ?_
  refine hC.getfield dX8_flag_5 lfX8_73 rfl rfl ?_
  refine hC.callV [1, 2, 36, 37, 38, 39, 40, 41, 42, 43, 44] dX8_flag_8 lmX8_90 mkX5_read svX5_read (ct_X5_read l X.1 t (X.2 0) (X.2 1) (X.2 2) (X.2 3) (X.2 4) S hX ht hxS) ⟨Nat.le_of_ble_eq_true rfl, Nat.le_of_ble_eq_true rfl⟩ rfl rfl (Nat.le_of_ble_eq_true rfl) ⟨by decide, rfl⟩ rfl rfl (fun r hc2 hp hl => ?_)
  obtain ⟨rfl, hp⟩ := hp
  rw [hCg] at hp
  cases hCc : C with
  | error x =>
    obtain ⟨k, p⟩ := x
    rw [hCc] at hp hR
    obtain ⟨P2, i, b, hk0, hk10, hx2, rfl⟩ := hp
    show K 11 _ [] (sfW (X.1, xF (X.2 0) k p i b) Q I0 I1 B Z Y W V U T g P P2 kp)
    refine hC.aload_n dX8_flag_11 rfl ?_
    refine hC.getfield dX8_flag_12 lfX8_12 rfl rfl ?_
    refine hC.iconst dX8_flag_15 (v := nI 0) rfl ?_
    refine hC.putI dX8_flag_16 lpX8_86 rfl rfl rfl (Nat.le_of_ble_eq_true rfl) ?_
    refine hC.aload_n dX8_flag_19 rfl ?_
    refine hC.getfield dX8_flag_20 lfX8_12 rfl rfl ?_
    refine hC.getfield dX8_flag_23 lfX8_94 rfl rfl ?_
    refine hC.nz (x := k) (by omega) dX8_flag_26 (tgt := 40) rfl (fun c => absurd c hk0) (fun _ => ?_)
    refine hC.bipush dX8_flag_29 (v := (-10 : Int32)) rfl ?_
    refine hC.aload_n dX8_flag_31 rfl ?_
    refine hC.getfield dX8_flag_32 lfX8_12 rfl rfl ?_
    refine hC.getfield dX8_flag_35 lfX8_94 rfl rfl ?_
    refine hC.isub dX8_flag_38 ?_
    exact hR.ireturn dX8_flag_39 ⟨k, i, b, P2, rfl, hx2, rfl⟩
  | ok To =>
    rw [hCc] at hp hR
    obtain ⟨P2, i, b, hx2, hT2, hcT, rfl⟩ := hp
    have hP2 := hx2.1
    have h20 := hT2.1 0 (by decide)
    have h21 := hT2.1 1 (by decide)
    obtain ⟨hc0, hc1, -⟩ := id hcT
    show K 11 _ [] (sfW (X.1, xF (X.2 0) 0 NN i b) Q I0 I1 B Z Y W V U T g P P2 kp)
    refine hC.aload_n dX8_flag_11 rfl ?_
    refine hC.getfield dX8_flag_12 lfX8_12 rfl rfl ?_
    refine hC.iconst dX8_flag_15 (v := nI 0) rfl ?_
    refine hC.putI dX8_flag_16 lpX8_86 rfl rfl rfl (Nat.le_of_ble_eq_true rfl) ?_
    refine hC.aload_n dX8_flag_19 rfl ?_
    refine hC.getfield dX8_flag_20 lfX8_12 rfl rfl ?_
    refine hC.getfield dX8_flag_23 lfX8_94 rfl rfl ?_
    refine hC.nz (x := 0) (by omega) dX8_flag_26 (tgt := 40) rfl (fun _ => ?_) (fun c => absurd rfl c)
    have k71 : ∀ s, s ≤ 8 → ∀ g1 : Nat → Nat, (∀ a, a < s → g1 a = 2 ^ To.2 0 - 1) → (∀ a, s ≤ a → g1 a = g a) → K 71 [(0, .ref 0), (2, .int (nI s))] [] (sfV (X.1, xF 0 0 NN i b) (P2.1 4, P2.1 1, 0, Q.2.2.2) I0 I1 B Z Y W V U T g1 P2 P kp) := by
      refine loopUp1 _ 8 ?_ (fun s hs ih => ?_)
      · intro g1 h1 h2
        refine hC.iload_n dX8_flag_71 rfl ?_
        refine hC.bipush dX8_flag_72 (v := nI 8) rfl ?_
        refine hC.n_ge (by omega) (by omega) dX8_flag_74 (tgt := 96) rfl (fun c => ?_) (fun c => ?_)
        · refine hC.aload_n dX8_flag_96 rfl ?_
          refine hC.getfield dX8_flag_97 lfX8_30 rfl rfl ?_
          refine hC.iconst dX8_flag_100 (v := nI 0) rfl ?_
          refine hC.putI dX8_flag_101 lpX8_104 rfl rfl rfl (Nat.le_of_ble_eq_true rfl) ?_
          refine hC.aload_n dX8_flag_104 rfl ?_
          refine hC.iconst dX8_flag_105 (v := nI 0) rfl ?_
          refine hC.putI dX8_flag_106 lpX8_107 rfl rfl rfl (Nat.le_of_ble_eq_true rfl) ?_
          refine hC.aload_n dX8_flag_109 rfl ?_
          refine hC.getfield dX8_flag_110 lfX8_69 rfl rfl ?_
          refine hC.getfield dX8_flag_113 lfX8_110 rfl rfl ?_
          exact hR.ireturn dX8_flag_116 ⟨i, b, P2, g1, by rw [← h21], hx2, hT2, hcT, h1, h2, rfl⟩
        · omega
      · intro g1 h1 h2
        have ih := ih (updN g1 s (2 ^ P2.2 0 - 1)) (fun a ha => by
          by_cases e : a = s
          · rw [e, updN_s, h20]
          · rw [updN_n e]; exact h1 a (by omega)) (fun a ha => by rw [updN_n (by omega)]; exact h2 a (by omega))
        refine hC.iload_n dX8_flag_71 rfl ?_
        refine hC.bipush dX8_flag_72 (v := nI 8) rfl ?_
        refine hC.n_ge (by omega) (by omega) dX8_flag_74 (tgt := 96) rfl (fun c => ?_) (fun c => ?_)
        · omega
        · refine hC.aload_n dX8_flag_77 rfl ?_
          refine hC.getfield dX8_flag_78 lfX8_62 rfl rfl ?_
          refine hC.iload_n dX8_flag_81 rfl ?_
          refine hC.aload_n dX8_flag_82 rfl ?_
          refine hC.getfield dX8_flag_83 lfX8_69 rfl rfl ?_
          refine hC.rdV [36, 37, 38, 39, 40, 41, 42, 43, 44] dX8_flag_86 lmX8_100 mkX4_allColours svX4_allColours (ct_X4_allColours l P2 hP2) ⟨Nat.le_of_ble_eq_true rfl, Nat.le_of_ble_eq_true rfl⟩ rfl rfl (Nat.le_of_ble_eq_true rfl) ⟨by decide, rfl⟩ rfl rfl ?_
          refine hC.isN dX8_flag_89 rfl ⟨by omega, by decide⟩ ?_
          refine hC.iinc dX8_flag_90 rfl (nI_1 _) (by decide) ?_
          refine hC.goto dX8_flag_93 (tgt := 71) rfl ?_
          exact hC.loc rfl ih
    refine hC.aload_n dX8_flag_40 rfl ?_
    refine hC.getfield dX8_flag_41 lfX8_73 rfl rfl ?_
    refine hC.astore_n dX8_flag_44 (by decide) ?_
    refine hC.aload_n dX8_flag_45 rfl ?_
    refine hC.aload_n dX8_flag_46 rfl ?_
    refine hC.getfield dX8_flag_47 lfX8_69 rfl rfl ?_
    refine hC.putR dX8_flag_50 lpX8_73 rfl (Nat.le_of_ble_eq_true rfl) ?_
    refine hC.aload_n dX8_flag_53 rfl ?_
    refine hC.aload_n dX8_flag_54 rfl ?_
    refine hC.putR dX8_flag_55 lpX8_69 rfl (Nat.le_of_ble_eq_true rfl) ?_
    refine hC.aload_n dX8_flag_58 rfl ?_
    refine hC.getfield dX8_flag_59 lfX8_19 rfl rfl ?_
    refine hC.aload_n dX8_flag_62 rfl ?_
    refine hC.getfield dX8_flag_63 lfX8_69 rfl rfl ?_
    refine hC.wuV (hs2 := sfV (X.1, xF 0 0 NN i b) (P2.1 4, P2.1 1, 0, Q.2.2.2) I0 I1 B Z Y W V U T g P2 P kp) [3, 4, 5, 36, 37, 38, 39, 40, 41, 42, 43, 44] dX8_flag_66 lmX8_97 mkX1_begin svX1_begin (ct_X1_begin l Q P2) ⟨Nat.le_of_ble_eq_true rfl, Nat.le_of_ble_eq_true rfl⟩ rfl rfl (Nat.le_of_ble_eq_true rfl) ⟨by decide, rfl⟩ rfl rfl rfl ?_
    refine hC.iconst dX8_flag_69 (v := nI 0) rfl ?_
    refine hC.istore_n dX8_flag_70 (by decide) ?_
    exact hC.loc rfl (k71 0 (by omega) g (fun a ha => absurd ha (Nat.not_lt_zero a)) (fun _ _ => rfl))
