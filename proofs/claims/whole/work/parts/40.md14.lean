/-! StripFlagModel: plays, turnsOf -/
def zN (v : Int) : Nat := (zI v).toBitVec.toNat
theorem zN_eq (v : Int) : nI (zN v) = zI v := (nI_self (zI v)).symm
abbrev pR (R : Nat → Nat → Nat) (f g e : Nat → Nat) : Nat → Nat → Nat := upR (upR (upR R 16 f) 17 g) 18 e
noncomputable def ngL (g : Nat → Int) (p : Nat → Bool) (z : Int) : Nat → Int × Nat
  | 0 => (z, NN)
  | s + 1 => if p s = true ∧ (ngL g p z s).1 < g s then (g s, s) else ngL g p z s
theorem ngL_b {g : Nat → Int} {p : Nat → Bool} {z : Int} (hz : -3 ≤ z ∧ z ≤ 3) (hg : ∀ s, -3 ≤ g s ∧ g s ≤ 3) : ∀ s, -3 ≤ (ngL g p z s).1 ∧ (ngL g p z s).1 ≤ 3
  | 0 => hz
  | s + 1 => by
    have h1 := ngL_b (p := p) hz hg s
    have h2 := hg s
    unfold ngL; split
    · exact h2
    · exact h1
theorem woF_b (R : Nat → Nat → Nat) (m x y : Nat) : -3 ≤ woF R m x y ∧ woF R m x y ≤ 3 := by
  unfold woF
  cases (flyF (EM R) 20 m).testBit x <;> cases (flyF (EM R) 20 m).testBit y <;> decide
noncomputable def ngF (R : Nat → Nat → Nat) (F : Nat → Nat) (a b n : Nat) : Nat → Nat → Int
  | 0, m => if n % 2 = 0 then woF R m a b else -(woF R m a b)
  | k + 1, m => (ngL (fun s => -(ngF R F a b n k (andn m (2 ^ s)))) (fun s => muB R F (mvF a b (n - (k + 1))) s m (F 10)) (-(ngF R F a b n k m)) (F 8)).1
noncomputable def ngM (R : Nat → Nat → Nat) (F : Nat → Nat) (a b n k m : Nat) : Nat → Int × Nat := ngL (fun s => -(ngF R F a b n k (andn m (2 ^ s)))) (fun s => muB R F (mvF a b (n - (k + 1))) s m (F 10)) (-(ngF R F a b n k m))
theorem ngF_b (R : Nat → Nat → Nat) (F : Nat → Nat) (a b n : Nat) : ∀ k m, -3 ≤ ngF R F a b n k m ∧ ngF R F a b n k m ≤ 3
  | 0, m => by
    have := woF_b R m a b
    unfold ngF; split <;> omega
  | k + 1, m => by
    refine ngL_b ?_ (fun s => ?_) (F 8)
    · have := ngF_b R F a b n k m; omega
    · have := ngF_b R F a b n k (andn m (2 ^ s)); show -3 ≤ -_ ∧ -_ ≤ (3 : Int); omega
noncomputable def fmF (R : Nat → Nat → Nat) (F : Nat → Nat) (a b n k m d x : Nat) : Nat := if d = 0 then (match k with | 0 => x | k + 1 => (ngM R F a b n k m (F 8)).2) else x
def dpI (d : Nat) : Int32 := if d = 0 then -1 else nI (d - 1)
theorem dpI_s (d : Nat) : nI d + Int32.ofInt (-1) = dpI d := by
  cases d with
  | zero => rfl
  | succ d => exact pk_m1 d
theorem m9_zI : nI 4294967287 = zI (-9) := by decide
theorem NN_1 : nI NN + nI 1 = nI 0 := by decide
/-- the machine of plays goes on at 19 with what it holds below d, and the worth of what stood there -/
def plX (K : AK) (R : Nat → Nat → Nat) (F : Nat → Nat) (L : Nat → Int64) (a b n d : Nat) (f g e : Nat → Nat) (w : Int) (x : Nat) : Prop :=
  ∀ f' g' e' : Nat → Nat, (∀ j, j < d → f' j = f j ∧ g' j = g j ∧ e' j = e j) → K 19 [(0, .ref 0), (1, .int (nI a)), (2, .int (nI b)), (3, .int (nI n)), (4, .int (dpI d)), (5, .int (zI w)), (6, .int (nI 0))] [] (mdW (pR R f' g' e') (updN F 12 x) L)
theorem dpI_succ (d : Nat) : dpI (d + 1) = nI d := by unfold dpI; rw [if_neg (by omega), Nat.add_sub_cancel]
theorem zN_9 : zN (-9) = 4294967287 := by decide
set_option maxHeartbeats 8000000 in
set_option maxRecDepth 20000 in
theorem pl_walk (l : Launch) {K : AK} (hC : Cl l cX9_plays yX9_plays.cls 9 (rmD 3) K) (R : Nat → Nat → Nat) (F : Nat → Nat) (L : Nat → Int64) (h : MdOK R F) (a b n : Nat) (ha : a < 8) (hb : b < 8) (hn : n ≤ 4) : ∀ (k d m x : Nat) (f g e : Nat → Nat) (v : Int32), d + k = n → f d = m → g d = NN → e d = 4294967287 → m < 4096 → (∀ s, m.testBit s = true → vS F s) → plX K R F L a b n d f g e (ngF R F a b n k m) (fmF R F a b n k m d x) → K 19 [(0, .ref 0), (1, .int (nI a)), (2, .int (nI b)), (3, .int (nI n)), (4, .int (nI d)), (5, .int v), (6, .int (nI 1))] [] (mdW (pR R f g e) (updN F 12 x) L) := by
  have hOK : ∀ (f g e : Nat → Nat) (x : Nat), MdOK (pR R f g e) (updN F 12 x) := fun f g e x => h
  have h12 := h.2.2.1
  have hh := h.2.2.2.2.1
  intro k
  induction k with
  | zero =>
    intro d m x f g e v hd hf hg he hm hv hx
    have hd2 : d = n := by omega
    subst hd2
    have hxv : fmF R F a b d 0 m d x = x := by unfold fmF; split <;> rfl
    rw [hxv] at hx
    have hwb := woF_b R m a b
    have k67 : ∀ w, w = ngF R F a b d 0 m → K 67 [(0, .ref 0), (1, .int (nI a)), (2, .int (nI b)), (3, .int (nI d)), (4, .int (nI d)), (5, .int v), (6, .int (nI 1))] [.int (zI w)] (mdW (pR R f g e) (updN F 12 x) L) := by
      intro w hw
      refine hC.istore dX9_plays_67 (by decide) ?_
      refine hC.iinc dX9_plays_69 rfl (dpI_s d) (by decide) ?_
      refine hC.iconst dX9_plays_72 (v := nI 0) rfl ?_
      refine hC.istore dX9_plays_73 (by decide) ?_
      refine hC.goto dX9_plays_75 (tgt := 19) rfl ?_
      rw [hw]
      exact hC.loc rfl (hx f g e (fun j _ => ⟨rfl, rfl, rfl⟩))
    refine hC.iload dX9_plays_19 rfl ?_
    refine hC.z_lt (by omega) dX9_plays_21 (tgt := 332) rfl ?_
    refine hC.iload dX9_plays_24 rfl ?_
    refine hC.iload_n dX9_plays_26 rfl ?_
    refine hC.n_ne (by omega) (by omega) dX9_plays_27 (tgt := 78) rfl (fun c1 => ?_) (fun c1 => ?_)
    · exact absurd rfl c1
    · refine hC.iload dX9_plays_30 rfl ?_
      refine hC.iconst dX9_plays_32 (v := nI 2) rfl ?_
      refine hC.irem dX9_plays_33 (by decide) ?_
      rw [pk_rem (by omega) (by decide) (by decide)]
      refine hC.nnz (by omega) dX9_plays_34 (tgt := 53) rfl (fun c2 => ?_) (fun c2 => ?_)
      · refine hC.aload_n dX9_plays_53 rfl ?_
        refine hC.iload_n dX9_plays_54 rfl ?_
        refine hC.iload_n dX9_plays_55 rfl ?_
        refine hC.aload_n dX9_plays_56 rfl ?_
        refine hC.getfield dX9_plays_57 lfX9_56 rfl rfl ?_
        refine hC.iload dX9_plays_60 rfl ?_
        refine hC.iaN (f := fun j => nI (f j)) dX9_plays_62 rfl ⟨by omega, by decide⟩ ?_
        rw [hf]
        refine hC.rdV [0, 1, 2, 3, 4, 5, 6, 7, 8, 9, 10, 11, 12, 13, 14, 15, 16, 17, 18, 19, 20, 21, 22, 23, 24, 25] dX9_plays_63 lmX9_267 mkX9_worth svX9_worth (ct_X9_worth l (pR R f g e) (updN F 12 x) L (hOK f g e x) a b m (by omega) (by omega) (by omega) hv) ⟨Nat.le_of_ble_eq_true rfl, Nat.le_of_ble_eq_true rfl⟩ rfl rfl (Nat.le_of_ble_eq_true rfl) ⟨by decide, rfl⟩ rfl rfl ?_
        rw [show woF (pR R f g e) m a b = woF R m a b from rfl]
        refine hC.ineg dX9_plays_66 ?_
        rw [zI_neg (by omega) (by omega)]
        exact k67 _ (by rw [ngF, if_neg c2])
      · refine hC.aload_n dX9_plays_37 rfl ?_
        refine hC.iload_n dX9_plays_38 rfl ?_
        refine hC.iload_n dX9_plays_39 rfl ?_
        refine hC.aload_n dX9_plays_40 rfl ?_
        refine hC.getfield dX9_plays_41 lfX9_56 rfl rfl ?_
        refine hC.iload dX9_plays_44 rfl ?_
        refine hC.iaN (f := fun j => nI (f j)) dX9_plays_46 rfl ⟨by omega, by decide⟩ ?_
        rw [hf]
        refine hC.rdV [0, 1, 2, 3, 4, 5, 6, 7, 8, 9, 10, 11, 12, 13, 14, 15, 16, 17, 18, 19, 20, 21, 22, 23, 24, 25] dX9_plays_47 lmX9_267 mkX9_worth svX9_worth (ct_X9_worth l (pR R f g e) (updN F 12 x) L (hOK f g e x) a b m (by omega) (by omega) (by omega) hv) ⟨Nat.le_of_ble_eq_true rfl, Nat.le_of_ble_eq_true rfl⟩ rfl rfl (Nat.le_of_ble_eq_true rfl) ⟨by decide, rfl⟩ rfl rfl ?_
        rw [show woF (pR R f g e) m a b = woF R m a b from rfl]
        refine hC.goto dX9_plays_50 (tgt := 67) rfl ?_
        exact k67 _ (by rw [ngF, if_pos c2])
  | succ k ih =>
    intro d m x f g e v hd hf hg he hm hv hx
    have hnk : n - (k + 1) = d := by omega
    have hmv := mvF_lt (t := d) ha hb
    have hgb := fun t => ngF_b R F a b n k t
    have hwp : ngF R F a b n (k + 1) m = (ngM R F a b n k m (F 8)).1 := rfl
    rw [hwp] at hx
    have hMb : ∀ s, -3 ≤ (ngM R F a b n k m s).1 ∧ (ngM R F a b n k m s).1 ≤ 3 := fun s => ngL_b (by have := hgb m; omega) (fun s => by have := hgb (andn m (2 ^ s)); show -3 ≤ -_ ∧ -_ ≤ (3 : Int); omega) s
    have hMs : ∀ s, ngM R F a b n k m (s + 1) = if muB R F (mvF a b d) s m (F 10) = true ∧ (ngM R F a b n k m s).1 < -(ngF R F a b n k (andn m (2 ^ s))) then (-(ngF R F a b n k (andn m (2 ^ s))), s) else ngM R F a b n k m s := fun s => by rw [← hnk]; rfl
    have child : ∀ (m2 : Nat) (f2 g2 e2 : Nat → Nat) (x2 : Nat), m2 < 4096 → (∀ s, m2.testBit s = true → vS F s) → (∀ f3 g3 e3 : Nat → Nat, (∀ j, j < d + 1 → f3 j = f2 j ∧ g3 j = g2 j ∧ e3 j = e2 j) → K 19 [(0, .ref 0), (1, .int (nI a)), (2, .int (nI b)), (3, .int (nI n)), (4, .int (nI d)), (5, .int (zI (ngF R F a b n k m2))), (6, .int (nI 0))] [] (mdW (pR R f3 g3 e3) (updN F 12 x2) L)) → ∀ (v3 v6 : Int32), K 320 [(0, .ref 0), (1, .int (nI a)), (2, .int (nI b)), (3, .int (nI n)), (4, .int (nI d)), (5, .int v3), (6, .int v6)] [.int (nI m2), .int (nI (d + 1)), .ref 0] (mdW (pR R f2 g2 e2) (updN F 12 x2) L) := by
      intro m2 f2 g2 e2 x2 hm2 hv2 hk v3 v6
      refine hC.wuVs dX9_plays_320 lmX9_264 mkX9_opens svX9_opens (ct_X9_opens l (pR R f2 g2 e2) (updN F 12 x2) L (d + 1) m2 (by omega)) ⟨Nat.le_of_ble_eq_true rfl, Nat.le_of_ble_eq_true rfl⟩ rfl rfl (Nat.le_of_ble_eq_true rfl) rfl rfl ?_
      refine hC.iinc dX9_plays_323 rfl (nI_1 _) (by decide) ?_
      refine hC.iconst dX9_plays_326 (v := nI 1) rfl ?_
      refine hC.istore dX9_plays_327 (by decide) ?_
      refine hC.goto dX9_plays_329 (tgt := 19) rfl ?_
      refine hC.loc rfl (ih (d + 1) m2 x2 (updN f2 (d + 1) m2) (updN g2 (d + 1) NN) (updN e2 (d + 1) 4294967287) v3 (by omega) (updN_s _ _ _) (updN_s _ _ _) (updN_s _ _ _) hm2 hv2 ?_)
      intro f3 g3 e3 hj
      rw [show fmF R F a b n k m2 (d + 1) x2 = x2 by unfold fmF; rw [if_neg (by omega)], dpI_succ]
      refine hk f3 g3 e3 (fun j hj2 => ?_)
      obtain ⟨h1, h2, h3⟩ := hj j hj2
      rw [updN_n (by omega)] at h1 h2 h3
      exact ⟨h1, h2, h3⟩
    have k78 : ∀ (v5 v6 : Int32) (W : List va_E), K 92 [(0, .ref 0), (1, .int (nI a)), (2, .int (nI b)), (3, .int (nI n)), (4, .int (nI d)), (5, .int v5), (6, .int v6), (7, .int (nI (mvF a b d)))] [] W → K 78 [(0, .ref 0), (1, .int (nI a)), (2, .int (nI b)), (3, .int (nI n)), (4, .int (nI d)), (5, .int v5), (6, .int v6)] [] W := by
      intro v5 v6 W hk
      refine hC.iload dX9_plays_78 rfl ?_
      refine hC.iconst dX9_plays_80 (v := nI 2) rfl ?_
      refine hC.irem dX9_plays_81 (by decide) ?_
      rw [pk_rem (by omega) (by decide) (by decide)]
      refine hC.nnz (by omega) dX9_plays_82 (tgt := 89) rfl (fun c2 => ?_) (fun c2 => ?_)
      · refine hC.iload_n dX9_plays_89 rfl ?_
        refine hC.istore dX9_plays_90 (by decide) ?_
        rw [mvF, if_neg c2] at hk
        exact hC.loc rfl hk
      · refine hC.iload_n dX9_plays_85 rfl ?_
        refine hC.goto dX9_plays_86 (tgt := 90) rfl ?_
        refine hC.istore dX9_plays_90 (by decide) ?_
        rw [mvF, if_pos c2] at hk
        exact hC.loc rfl hk
    have back : ∀ (u u' : Nat) (β w : Int) (f2 g2 e2 : Nat → Nat) (x2 : Nat), nI u + nI 1 = nI u' → -9 ≤ β → β ≤ 3 → -3 ≤ w → w ≤ 3 → g2 d = u → e2 d = zN β → K 180 [(0, .ref 0), (1, .int (nI a)), (2, .int (nI b)), (3, .int (nI n)), (4, .int (nI d)), (5, .int (zI w)), (6, .int (nI 0)), (7, .int (nI (mvF a b d)))] [] (mdW (pR R f2 (updN g2 d u') (updN e2 d (zN (if β < -w then -w else β)))) (updN F 12 (if β < -w ∧ d = 0 then u else x2)) L) → K 19 [(0, .ref 0), (1, .int (nI a)), (2, .int (nI b)), (3, .int (nI n)), (4, .int (nI d)), (5, .int (zI w)), (6, .int (nI 0))] [] (mdW (pR R f2 g2 e2) (updN F 12 x2) L) := by
      intro u u' β w f2 g2 e2 x2 hu hb1 hb2 hw1 hw2 hgu heb hk
      have k115 : ∀ p : Bool, p = decide (β < -w) → K 115 [(0, .ref 0), (1, .int (nI a)), (2, .int (nI b)), (3, .int (nI n)), (4, .int (nI d)), (5, .int (zI w)), (6, .int (nI 0)), (7, .int (nI (mvF a b d)))] [.int (nI p.toNat)] (mdW (pR R f2 g2 e2) (updN F 12 x2) L) := by
        intro p hp
        have k169 : ∀ y, y = (if β < -w ∧ d = 0 then u else x2) → K 169 [(0, .ref 0), (1, .int (nI a)), (2, .int (nI b)), (3, .int (nI n)), (4, .int (nI d)), (5, .int (zI w)), (6, .int (nI 0)), (7, .int (nI (mvF a b d))), (8, .int (nI p.toNat))] [] (mdW (pR R f2 g2 (updN e2 d (zN (if β < -w then -w else β)))) (updN F 12 y) L) := by
          intro y hy
          refine hC.aload_n dX9_plays_169 rfl ?_
          refine hC.getfield dX9_plays_170 lfX9_59 rfl rfl ?_
          refine hC.iload dX9_plays_173 rfl ?_
          refine hC.dup2 dX9_plays_175 rfl rfl ?_
          refine hC.iaN (f := fun j => nI (g2 j)) dX9_plays_176 rfl ⟨by omega, by decide⟩ ?_
          rw [hgu]
          refine hC.iconst dX9_plays_177 (v := nI 1) rfl ?_
          refine hC.iadd dX9_plays_178 ?_
          rw [hu]
          refine hC.isN dX9_plays_179 rfl ⟨by omega, by decide⟩ ?_
          rw [← hy] at hk
          exact hC.loc rfl hk
        have k141 : ∀ y, y = (if β < -w ∧ d = 0 then u else x2) → K 141 [(0, .ref 0), (1, .int (nI a)), (2, .int (nI b)), (3, .int (nI n)), (4, .int (nI d)), (5, .int (zI w)), (6, .int (nI 0)), (7, .int (nI (mvF a b d))), (8, .int (nI p.toNat))] [.int (nI y), .ref 0] (mdW (pR R f2 g2 e2) (updN F 12 x2) L) := by
          intro y hy
          refine hC.putI dX9_plays_141 lpX9_271 rfl rfl rfl (Nat.le_of_ble_eq_true rfl) ?_
          refine hC.aload_n dX9_plays_144 rfl ?_
          refine hC.getfield dX9_plays_145 lfX9_62 rfl rfl ?_
          refine hC.iload dX9_plays_148 rfl ?_
          refine hC.iload dX9_plays_150 rfl ?_
          refine hC.bz dX9_plays_152 (tgt := 161) rfl (fun c4 => ?_) (fun c4 => ?_)
          · rw [hp] at c4
            have c5 := of_decide_eq_false c4
            have k2 := k169 y hy
            rw [if_neg c5] at k2
            refine hC.aload_n dX9_plays_161 rfl ?_
            refine hC.getfield dX9_plays_162 lfX9_62 rfl rfl ?_
            refine hC.iload dX9_plays_165 rfl ?_
            refine hC.iaN (f := fun j => nI (e2 j)) dX9_plays_167 rfl ⟨by omega, by decide⟩ ?_
            rw [heb]
            refine hC.isN dX9_plays_168 rfl ⟨by omega, by decide⟩ ?_
            exact hC.loc rfl k2
          · rw [hp] at c4
            have c5 := of_decide_eq_true c4
            have k2 := k169 y hy
            rw [if_pos c5] at k2
            refine hC.iload dX9_plays_155 rfl ?_
            refine hC.ineg dX9_plays_157 ?_
            rw [zI_neg (by omega) (by omega), ← zN_eq (-w)]
            refine hC.goto dX9_plays_158 (tgt := 168) rfl ?_
            refine hC.isN dX9_plays_168 rfl ⟨by omega, by decide⟩ ?_
            exact hC.loc rfl k2
        refine hC.istore dX9_plays_115 (by decide) ?_
        refine hC.aload_n dX9_plays_117 rfl ?_
        refine hC.iload dX9_plays_118 rfl ?_
        refine hC.bz dX9_plays_120 (tgt := 137) rfl (fun c3 => ?_) (fun c3 => ?_)
        · rw [hp] at c3
          refine hC.aload_n dX9_plays_137 rfl ?_
          refine hC.getfield dX9_plays_138 lfX9_271 rfl rfl ?_
          exact hC.loc rfl (k141 x2 (by rw [if_neg (fun z => of_decide_eq_false c3 z.1)]))
        · rw [hp] at c3
          refine hC.iload dX9_plays_123 rfl ?_
          refine hC.nnz (by omega) dX9_plays_125 (tgt := 137) rfl (fun c4 => ?_) (fun c4 => ?_)
          · refine hC.aload_n dX9_plays_137 rfl ?_
            refine hC.getfield dX9_plays_138 lfX9_271 rfl rfl ?_
            exact hC.loc rfl (k141 x2 (by rw [if_neg (fun z => c4 z.2)]))
          · refine hC.aload_n dX9_plays_128 rfl ?_
            refine hC.getfield dX9_plays_129 lfX9_59 rfl rfl ?_
            refine hC.iconst dX9_plays_132 (v := nI 0) rfl ?_
            refine hC.iaN (f := fun j => nI (g2 j)) dX9_plays_133 rfl ⟨by omega, by decide⟩ ?_
            rw [show g2 0 = u by rw [← hgu, c4]]
            refine hC.goto dX9_plays_134 (tgt := 141) rfl ?_
            exact hC.loc rfl (k141 u (by rw [if_pos ⟨of_decide_eq_true c3, c4⟩]))
      refine hC.iload dX9_plays_19 rfl ?_
      refine hC.z_lt (by omega) dX9_plays_21 (tgt := 332) rfl ?_
      refine hC.iload dX9_plays_24 rfl ?_
      refine hC.iload_n dX9_plays_26 rfl ?_
      refine hC.n_ne (by omega) (by omega) dX9_plays_27 (tgt := 78) rfl (fun c1 => ?_) (fun c1 => ?_)
      · refine hC.loc rfl (k78 (zI w) (nI 0) _ ?_)
        refine hC.iload dX9_plays_92 rfl ?_
        refine hC.if_ne dX9_plays_94 (tgt := 180) rfl (fun c => absurd (by decide) c) (fun _ => ?_)
        refine hC.iload dX9_plays_97 rfl ?_
        refine hC.ineg dX9_plays_99 ?_
        rw [zI_neg (by omega) (by omega)]
        refine hC.aload_n dX9_plays_100 rfl ?_
        refine hC.getfield dX9_plays_101 lfX9_62 rfl rfl ?_
        refine hC.iload dX9_plays_104 rfl ?_
        refine hC.iaN (f := fun j => nI (e2 j)) dX9_plays_106 rfl ⟨by omega, by decide⟩ ?_
        rw [heb, zN_eq]
        refine hC.icmp_le dX9_plays_107 (tgt := 114) rfl (fun c2 => ?_) (fun c2 => ?_)
        · have c2 := (zI_le (by omega) (by omega) (by omega) (by omega)).mp c2
          refine hC.iconst dX9_plays_114 (v := nI 0) rfl ?_
          exact hC.loc rfl (k115 false (decide_eq_false (by omega)).symm)
        · have c2 : ¬ -w ≤ β := fun z => c2 ((zI_le (by omega) (by omega) (by omega) (by omega)).mpr z)
          refine hC.iconst dX9_plays_110 (v := nI 1) rfl ?_
          refine hC.goto dX9_plays_111 (tgt := 115) rfl ?_
          exact hC.loc rfl (k115 true (decide_eq_true (by omega)).symm)
      · omega
    have hA : ∀ t s (f2 g2 e2 : Nat → Nat) (x2 : Nat) (v5 v6 : Int32), s + t = F 8 → (∀ j, j ≤ d → f2 j = f j) → (∀ j, j < d → g2 j = g j ∧ e2 j = e j) → g2 d = s → e2 d = zN (ngM R F a b n k m s).1 → x2 = (if d = 0 then (ngM R F a b n k m s).2 else x) → K 180 [(0, .ref 0), (1, .int (nI a)), (2, .int (nI b)), (3, .int (nI n)), (4, .int (nI d)), (5, .int v5), (6, .int v6), (7, .int (nI (mvF a b d)))] [] (mdW (pR R f2 g2 e2) (updN F 12 x2) L) := by
      intro t
      induction t with
      | zero =>
        intro s f2 g2 e2 x2 v5 v6 hst hf2 hge hgs hes hx2
        have hs : s = F 8 := by omega
        have hx3 := hx f2 g2 e2 (fun j hj => ⟨hf2 j (by omega), hge j hj⟩)
        rw [show fmF R F a b n (k + 1) m d x = x2 by rw [hx2, hs]; rfl] at hx3
        refine hC.aload_n dX9_plays_180 rfl ?_
        refine hC.getfield dX9_plays_181 lfX9_59 rfl rfl ?_
        refine hC.iload dX9_plays_184 rfl ?_
        refine hC.iaN (f := fun j => nI (g2 j)) dX9_plays_186 rfl ⟨by omega, by decide⟩ ?_
        rw [hgs]
        refine hC.z_lt (by omega) dX9_plays_187 (tgt := 245) rfl ?_
        refine hC.aload_n dX9_plays_190 rfl ?_
        refine hC.getfield dX9_plays_191 lfX9_59 rfl rfl ?_
        refine hC.iload dX9_plays_194 rfl ?_
        refine hC.iaN (f := fun j => nI (g2 j)) dX9_plays_196 rfl ⟨by omega, by decide⟩ ?_
        rw [hgs]
        refine hC.aload_n dX9_plays_197 rfl ?_
        refine hC.getfield dX9_plays_198 lfX9_186 rfl rfl ?_
        refine hC.n_ge (a := s) (b := F 8) (by omega) (by omega) dX9_plays_201 (tgt := 245) rfl (fun _ => ?_) (fun c => absurd c (by omega))
        refine hC.aload_n dX9_plays_245 rfl ?_
        refine hC.getfield dX9_plays_246 lfX9_59 rfl rfl ?_
        refine hC.iload dX9_plays_249 rfl ?_
        refine hC.iaN (f := fun j => nI (g2 j)) dX9_plays_251 rfl ⟨by omega, by decide⟩ ?_
        rw [hgs]
        refine hC.aload_n dX9_plays_252 rfl ?_
        refine hC.getfield dX9_plays_253 lfX9_186 rfl rfl ?_
        refine hC.n_ne (a := s) (b := F 8) (by omega) (by omega) dX9_plays_256 (tgt := 277) rfl (fun c => absurd hs c) (fun _ => ?_)
        refine hC.aload_n dX9_plays_259 rfl ?_
        refine hC.getfield dX9_plays_260 lfX9_62 rfl rfl ?_
        refine hC.iload dX9_plays_263 rfl ?_
        refine hC.iaN (f := fun j => nI (e2 j)) dX9_plays_265 rfl ⟨by omega, by decide⟩ ?_
        rw [hes, zN_eq, hs]
        refine hC.istore dX9_plays_266 (by decide) ?_
        refine hC.iinc dX9_plays_268 rfl (dpI_s d) (by decide) ?_
        refine hC.iconst dX9_plays_271 (v := nI 0) rfl ?_
        refine hC.istore dX9_plays_272 (by decide) ?_
        refine hC.goto dX9_plays_274 (tgt := 329) rfl ?_
        refine hC.goto dX9_plays_329 (tgt := 19) rfl ?_
        exact hC.loc rfl hx3
      | succ t iht =>
        intro s f2 g2 e2 x2 v5 v6 hst hf2 hge hgs hes hx2
        have hfd : f2 d = m := by rw [hf2 d (Nat.le_refl d), hf]
        refine hC.aload_n dX9_plays_180 rfl ?_
        refine hC.getfield dX9_plays_181 lfX9_59 rfl rfl ?_
        refine hC.iload dX9_plays_184 rfl ?_
        refine hC.iaN (f := fun j => nI (g2 j)) dX9_plays_186 rfl ⟨by omega, by decide⟩ ?_
        rw [hgs]
        refine hC.z_lt (by omega) dX9_plays_187 (tgt := 245) rfl ?_
        refine hC.aload_n dX9_plays_190 rfl ?_
        refine hC.getfield dX9_plays_191 lfX9_59 rfl rfl ?_
        refine hC.iload dX9_plays_194 rfl ?_
        refine hC.iaN (f := fun j => nI (g2 j)) dX9_plays_196 rfl ⟨by omega, by decide⟩ ?_
        rw [hgs]
        refine hC.aload_n dX9_plays_197 rfl ?_
        refine hC.getfield dX9_plays_198 lfX9_186 rfl rfl ?_
        refine hC.n_ge (a := s) (b := F 8) (by omega) (by omega) dX9_plays_201 (tgt := 245) rfl (fun c => absurd c (by omega)) (fun _ => ?_)
        refine hC.aload_n dX9_plays_204 rfl ?_
        refine hC.iload dX9_plays_205 rfl ?_
        refine hC.aload_n dX9_plays_207 rfl ?_
        refine hC.getfield dX9_plays_208 lfX9_59 rfl rfl ?_
        refine hC.iload dX9_plays_211 rfl ?_
        refine hC.iaN (f := fun j => nI (g2 j)) dX9_plays_213 rfl ⟨by omega, by decide⟩ ?_
        rw [hgs]
        refine hC.aload_n dX9_plays_214 rfl ?_
        refine hC.getfield dX9_plays_215 lfX9_56 rfl rfl ?_
        refine hC.iload dX9_plays_218 rfl ?_
        refine hC.iaN (f := fun j => nI (f2 j)) dX9_plays_220 rfl ⟨by omega, by decide⟩ ?_
        rw [hfd]
        refine hC.aload_n dX9_plays_221 rfl ?_
        refine hC.getfield dX9_plays_222 lfX9_192 rfl rfl ?_
        refine hC.rdV [0, 1, 2, 3, 4, 5, 6, 7, 8, 9, 10, 11, 12, 13, 14, 15, 16, 17, 18, 19, 20, 21, 22, 23, 24, 25] dX9_plays_225 lmX9_226 mkX9_mayUnpick svX9_mayUnpick (ct_X9_mayUnpick l (pR R f2 g2 e2) (updN F 12 x2) L (hOK f2 g2 e2 x2) (mvF a b d) s m (F 10) (by omega) (show s < F 8 by omega) (by omega) (by omega)) ⟨Nat.le_of_ble_eq_true rfl, Nat.le_of_ble_eq_true rfl⟩ rfl rfl (Nat.le_of_ble_eq_true rfl) ⟨by decide, rfl⟩ rfl rfl ?_
        rw [show muB (pR R f2 g2 e2) (updN F 12 x2) (mvF a b d) s m (F 10) = muB R F (mvF a b d) s m (F 10) from rfl]
        refine hC.bnz dX9_plays_228 (tgt := 245) rfl (fun c3 => ?_) (fun c3 => ?_)
        · refine hC.aload_n dX9_plays_245 rfl ?_
          refine hC.getfield dX9_plays_246 lfX9_59 rfl rfl ?_
          refine hC.iload dX9_plays_249 rfl ?_
          refine hC.iaN (f := fun j => nI (g2 j)) dX9_plays_251 rfl ⟨by omega, by decide⟩ ?_
          rw [hgs]
          refine hC.aload_n dX9_plays_252 rfl ?_
          refine hC.getfield dX9_plays_253 lfX9_186 rfl rfl ?_
          refine hC.n_ne (a := s) (b := F 8) (by omega) (by omega) dX9_plays_256 (tgt := 277) rfl (fun _ => ?_) (fun c => absurd c (by omega))
          refine hC.aload_n dX9_plays_277 rfl ?_
          refine hC.getfield dX9_plays_278 lfX9_59 rfl rfl ?_
          refine hC.iload dX9_plays_281 rfl ?_
          refine hC.iaN (f := fun j => nI (g2 j)) dX9_plays_283 rfl ⟨by omega, by decide⟩ ?_
          rw [hgs]
          refine hC.istore dX9_plays_284 (by decide) ?_
          refine hC.aload_n dX9_plays_286 rfl ?_
          refine hC.iload dX9_plays_287 rfl ?_
          refine hC.iconst dX9_plays_289 (v := nI 1) rfl ?_
          refine hC.iadd dX9_plays_290 ?_
          rw [nI_add]
          refine hC.iload dX9_plays_291 rfl ?_
          refine hC.if_ge dX9_plays_293 (tgt := 306) rfl (fun _ => ?_) (fun c => absurd (nI_pos' (by omega)) c)
          refine hC.aload_n dX9_plays_306 rfl ?_
          refine hC.getfield dX9_plays_307 lfX9_56 rfl rfl ?_
          refine hC.iload dX9_plays_310 rfl ?_
          refine hC.iaN (f := fun j => nI (f2 j)) dX9_plays_312 rfl ⟨by omega, by decide⟩ ?_
          rw [hfd]
          refine hC.iconst dX9_plays_313 (v := nI 1) rfl ?_
          refine hC.iload dX9_plays_314 rfl ?_
          refine hC.ishl dX9_plays_316 ?_
          rw [nI_shl (by omega), Nat.one_mul]
          refine hC.iconst dX9_plays_317 (v := (-1)) rfl ?_
          refine hC.ixor dX9_plays_318 ?_
          refine hC.iand dX9_plays_319 ?_
          rw [nI_andn]
          refine hC.loc rfl (child (andn m (2 ^ s)) f2 g2 e2 x2 (andn_b hm) (fun s hs => hv s (andn_v hs)) (fun f3 g3 e3 hj => ?_) v5 v6)
          have hw := hgb (andn m (2 ^ s))
          have hβ := hMb s
          have hMs1 := hMs s
          rw [c3] at hMs1
          obtain ⟨hj1, hj2, hj3⟩ := hj d (by omega)
          refine back s (s + 1) (ngM R F a b n k m s).1 (ngF R F a b n k (andn m (2 ^ s))) f3 g3 e3 x2 (nI_add s 1) (by omega) (by omega) (by omega) (by omega) (by rw [hj2, hgs]) (by rw [hj3, hes]) ?_
          refine hC.loc rfl (iht (s + 1) f3 (updN g3 d (s + 1)) _ _ _ _ (by omega) (fun j hj4 => by rw [(hj j (by omega)).1, hf2 j hj4]) (fun j hj4 => ?_) (updN_s _ _ _) ?_ ?_)
          · rw [updN_n (by omega), updN_n (by omega), (hj j (by omega)).2.1, (hj j (by omega)).2.2]
            exact hge j hj4
          · rw [updN_s, hMs1]
            by_cases hlt : (ngM R F a b n k m s).1 < -(ngF R F a b n k (andn m (2 ^ s)))
            · rw [if_pos hlt, if_pos ⟨rfl, hlt⟩]
            · rw [if_neg hlt, if_neg (fun z => hlt z.2)]
          · rw [hMs1, hx2]
            by_cases hlt : (ngM R F a b n k m s).1 < -(ngF R F a b n k (andn m (2 ^ s)))
            · rw [if_pos (⟨rfl, hlt⟩ : true = true ∧ _)]
              by_cases hd0 : d = 0
              · rw [if_pos ⟨hlt, hd0⟩, if_pos hd0]
              · rw [if_neg (fun z => hd0 z.2), if_neg hd0, if_neg hd0]
            · rw [if_neg (fun z => hlt z.1), if_neg (fun (z : true = true ∧ _) => hlt z.2)]
        · have hMs1 := hMs s
          rw [if_neg (fun z => by rw [c3] at z; exact absurd z.1 (by decide))] at hMs1
          refine hC.aload_n dX9_plays_231 rfl ?_
          refine hC.getfield dX9_plays_232 lfX9_59 rfl rfl ?_
          refine hC.iload dX9_plays_235 rfl ?_
          refine hC.dup2 dX9_plays_237 rfl rfl ?_
          refine hC.iaN (f := fun j => nI (g2 j)) dX9_plays_238 rfl ⟨by omega, by decide⟩ ?_
          rw [hgs]
          refine hC.iconst dX9_plays_239 (v := nI 1) rfl ?_
          refine hC.iadd dX9_plays_240 ?_
          rw [nI_add]
          refine hC.isN dX9_plays_241 rfl ⟨by omega, by decide⟩ ?_
          refine hC.goto dX9_plays_242 (tgt := 180) rfl ?_
          exact hC.loc rfl (iht (s + 1) f2 (updN g2 d (s + 1)) e2 x2 v5 v6 (by omega) hf2 (fun j hj4 => by rw [updN_n (by omega)]; exact hge j hj4) (updN_s _ _ _) (by rw [hMs1, hes]) (by rw [hMs1, hx2]))
    refine hC.iload dX9_plays_19 rfl ?_
    refine hC.z_lt (by omega) dX9_plays_21 (tgt := 332) rfl ?_
    refine hC.iload dX9_plays_24 rfl ?_
    refine hC.iload_n dX9_plays_26 rfl ?_
    refine hC.n_ne (by omega) (by omega) dX9_plays_27 (tgt := 78) rfl (fun c1 => ?_) (fun c1 => ?_)
    · refine hC.loc rfl (k78 v (nI 1) _ ?_)
      refine hC.iload dX9_plays_92 rfl ?_
      refine hC.if_ne dX9_plays_94 (tgt := 180) rfl (fun _ => ?_) (fun c => absurd c (by decide))
      refine hC.aload_n dX9_plays_180 rfl ?_
      refine hC.getfield dX9_plays_181 lfX9_59 rfl rfl ?_
      refine hC.iload dX9_plays_184 rfl ?_
      refine hC.iaN (f := fun j => nI (g j)) dX9_plays_186 rfl ⟨by omega, by decide⟩ ?_
      rw [hg]
      refine hC.if_lt dX9_plays_187 (tgt := 245) rfl (fun _ => ?_) (fun c => absurd (by decide) c)
      refine hC.aload_n dX9_plays_245 rfl ?_
      refine hC.getfield dX9_plays_246 lfX9_59 rfl rfl ?_
      refine hC.iload dX9_plays_249 rfl ?_
      refine hC.iaN (f := fun j => nI (g j)) dX9_plays_251 rfl ⟨by omega, by decide⟩ ?_
      rw [hg]
      refine hC.aload_n dX9_plays_252 rfl ?_
      refine hC.getfield dX9_plays_253 lfX9_186 rfl rfl ?_
      refine hC.icmp_ne dX9_plays_256 (tgt := 277) rfl (fun _ => ?_) (fun c => ?_)
      · refine hC.aload_n dX9_plays_277 rfl ?_
        refine hC.getfield dX9_plays_278 lfX9_59 rfl rfl ?_
        refine hC.iload dX9_plays_281 rfl ?_
        refine hC.iaN (f := fun j => nI (g j)) dX9_plays_283 rfl ⟨by omega, by decide⟩ ?_
        rw [hg]
        refine hC.istore dX9_plays_284 (by decide) ?_
        refine hC.aload_n dX9_plays_286 rfl ?_
        refine hC.iload dX9_plays_287 rfl ?_
        refine hC.iconst dX9_plays_289 (v := nI 1) rfl ?_
        refine hC.iadd dX9_plays_290 ?_
        rw [nI_add]
        refine hC.iload dX9_plays_291 rfl ?_
        refine hC.if_ge dX9_plays_293 (tgt := 306) rfl (fun c => absurd c (by decide)) (fun _ => ?_)
        refine hC.aload_n dX9_plays_296 rfl ?_
        refine hC.getfield dX9_plays_297 lfX9_56 rfl rfl ?_
        refine hC.iload dX9_plays_300 rfl ?_
        refine hC.iaN (f := fun j => nI (f j)) dX9_plays_302 rfl ⟨by omega, by decide⟩ ?_
        rw [hf]
        refine hC.goto dX9_plays_303 (tgt := 320) rfl ?_
        refine hC.loc rfl (child m f g e x hm hv (fun f3 g3 e3 hj => ?_) v (nI 1))
        have hw := hgb m
        obtain ⟨hj1, hj2, hj3⟩ := hj d (by omega)
        refine back NN 0 (-9) (ngF R F a b n k m) f3 g3 e3 x NN_1 (by omega) (by omega) (by omega) (by omega) (by rw [hj2, hg]) (by rw [hj3, he, zN_9]) ?_
        have hlt : (-9 : Int) < -(ngF R F a b n k m) := by omega
        refine hC.loc rfl (hA (F 8) 0 f3 (updN g3 d 0) _ _ _ _ (by omega) (fun j hj4 => (hj j (by omega)).1) (fun j hj4 => ?_) (updN_s _ _ _) ?_ ?_)
        · rw [updN_n (by omega), updN_n (by omega), (hj j (by omega)).2.1, (hj j (by omega)).2.2]
          exact ⟨rfl, rfl⟩
        · rw [updN_s, if_pos hlt]; rfl
        · by_cases hd0 : d = 0
          · rw [if_pos ⟨hlt, hd0⟩, if_pos hd0]; rfl
          · rw [if_neg (fun z => hd0 z.2), if_neg hd0]
      · have c2 := congrArg Int32.toInt (show nI NN = nI (F 8) from c)
        rw [nI_toInt (show F 8 < 2 ^ 31 by omega), show (nI NN).toInt = -1 by decide] at c2
        omega
    · omega
set_option maxHeartbeats 4000000 in
set_option maxRecDepth 20000 in
theorem ct_X9_plays (l : Launch) (R : Nat → Nat → Nat) (F : Nat → Nat) (L : Nat → Int64) (h : MdOK R F) (a b n : Nat) (ha : a < 8) (hb : b < 8) (hn : n ≤ 4) : Ct l 3 yX9_plays cX9_plays 9 (some .int) [.ref 0, .int (nI a), .int (nI b), .int (nI n)] (mdW R F L) (fun r h2 => ∃ f g e : Nat → Nat, r = some (.int (zI (ngF R F a b n n (thF (stM R F) 0)))) ∧ h2 = mdW (pR R f g e) (updN F 12 (fmF R F a b n n (thF (stM R F) 0) 0 (F 12))) L) := by
  refine Ct.of (by decide) (Nat.le_of_ble_eq_true rfl) (fun K hC hR => ?_)
  show K 0 [(0, .ref 0), (1, .int (nI a)), (2, .int (nI b)), (3, .int (nI n))] [] _
  have hm := thF_lt (stM R F) 0
  refine hC.iconst dX9_plays_0 (v := nI 0) rfl ?_
  refine hC.istore dX9_plays_1 (by decide) ?_
  refine hC.iconst dX9_plays_3 (v := nI 0) rfl ?_
  refine hC.istore dX9_plays_4 (by decide) ?_
  refine hC.iconst dX9_plays_6 (v := nI 1) rfl ?_
  refine hC.istore dX9_plays_7 (by decide) ?_
  refine hC.aload_n dX9_plays_9 rfl ?_
  refine hC.iconst dX9_plays_10 (v := nI 0) rfl ?_
  refine hC.aload_n dX9_plays_11 rfl ?_
  refine hC.iconst dX9_plays_12 (v := nI 0) rfl ?_
  refine hC.rdV [0, 1, 2, 3, 4, 5, 6, 7, 8, 9, 10, 11, 12, 13, 14, 15, 16, 17, 18, 19, 20, 21, 22, 23, 24, 25] dX9_plays_13 lmX9_198 mkX9_there svX9_there (ct_X9_there l R F L h 0 (by decide)) ⟨Nat.le_of_ble_eq_true rfl, Nat.le_of_ble_eq_true rfl⟩ rfl rfl (Nat.le_of_ble_eq_true rfl) ⟨by decide, rfl⟩ rfl rfl ?_
  have hv : ∀ s, (thF (stM R F) 0).testBit s = true → vS F s := fun s hs => Or.inl (thF_v hs)
  generalize hmg : thF (stM R F) 0 = m at hm hR hv ⊢
  refine hC.wuVs dX9_plays_16 lmX9_264 mkX9_opens svX9_opens (ct_X9_opens l R F L 0 m (by decide)) ⟨Nat.le_of_ble_eq_true rfl, Nat.le_of_ble_eq_true rfl⟩ rfl rfl (Nat.le_of_ble_eq_true rfl) rfl rfl ?_
  refine hC.loc rfl (pl_walk l hC R F L h a b n ha hb hn n 0 m (F 12) (updN (R 16) 0 m) (updN (R 17) 0 NN) (updN (R 18) 0 4294967287) (nI 0) (by omega) (updN_s _ _ _) (updN_s _ _ _) (updN_s _ _ _) hm hv ?_)
  intro f' g' e' _
  rw [show dpI 0 = -1 from rfl]
  refine hC.iload dX9_plays_19 rfl ?_
  refine hC.if_lt dX9_plays_21 (tgt := 332) rfl (fun _ => ?_) (fun c => absurd (by decide) c)
  refine hC.iload dX9_plays_332 rfl ?_
  exact hR.ireturn dX9_plays_334 ⟨f', g', e', rfl, rfl⟩
noncomputable def mTurns (R : Nat → Nat → Nat) (F : Nat → Nat) (x y z w : Int32) : Int32 := if (inB x (F 7) && inB y (F 7)) = true ∧ x ≠ y then (if (inR z 4 && inR w 1) = true then (if ix w = 0 then zI (ngF R (updN F 12 NN) (ix x) (ix y) (ix z) (ix z) (thF (stM R (updN F 12 NN)) 0)) else nI (fmF R (updN F 12 NN) (ix x) (ix y) (ix z) (ix z) (thF (stM R (updN F 12 NN)) 0) 0 NN)) else cO) else cU
set_option maxHeartbeats 4000000 in
set_option maxRecDepth 20000 in
theorem ct_X9_turnsOf (l : Launch) (R : Nat → Nat → Nat) (F : Nat → Nat) (L : Nat → Int64) (h : MdOK R F) (x y z w : Int32) : Ct l 4 yX9_turnsOf cX9_turnsOf 6 (some .int) [.ref 0, .int x, .int y, .int z, .int w] (mdW R F L) (fun r h2 => ∃ (f g e : Nat → Nat) (q : Nat), r = some (.int (mTurns R F x y z w)) ∧ h2 = mdW (pR R f g e) (updN F 12 q) L) := by
  refine Ct.of (by decide) (Nat.le_of_ble_eq_true rfl) (fun K hC hR => ?_)
  show K 0 [(0, .ref 0), (1, .int x), (2, .int y), (3, .int z), (4, .int w)] [] _
  have h8 := h.2.1
  have bad : ¬ ((inB x (F 7) && inB y (F 7)) = true ∧ x ≠ y) → K 21 [] [] (mdW R F L) := by
    intro hne
    rw [mTurns, if_neg hne] at hR
    refine hC.ldc dX9_turnsOf_21 lcX9_205 ?_
    exact hR.ireturn dX9_turnsOf_23 ⟨R 16, R 17, R 18, F 12, rfl, rfl⟩
  refine hC.aload_n dX9_turnsOf_0 rfl ?_
  refine hC.iload_n dX9_turnsOf_1 rfl ?_
  refine hC.rdV [0, 1, 2, 3, 4, 5, 6, 7, 8, 9, 10, 11, 12, 13, 14, 15, 16, 17, 18, 19, 20, 21, 22, 23, 24, 25] dX9_turnsOf_2 lmX9_212 mkX9_isStrip svX9_isStrip (ct_X9_isStrip l R F L (by omega) x) ⟨Nat.le_of_ble_eq_true rfl, Nat.le_of_ble_eq_true rfl⟩ rfl rfl (Nat.le_of_ble_eq_true rfl) ⟨by decide, rfl⟩ rfl rfl ?_
  refine hC.bz dX9_turnsOf_5 (tgt := 21) rfl (fun c1 => ?_) (fun c1 => ?_)
  · exact hC.loc rfl (bad (by simp [c1]))
  · refine hC.aload_n dX9_turnsOf_8 rfl ?_
    refine hC.iload_n dX9_turnsOf_9 rfl ?_
    refine hC.rdV [0, 1, 2, 3, 4, 5, 6, 7, 8, 9, 10, 11, 12, 13, 14, 15, 16, 17, 18, 19, 20, 21, 22, 23, 24, 25] dX9_turnsOf_10 lmX9_212 mkX9_isStrip svX9_isStrip (ct_X9_isStrip l R F L (by omega) y) ⟨Nat.le_of_ble_eq_true rfl, Nat.le_of_ble_eq_true rfl⟩ rfl rfl (Nat.le_of_ble_eq_true rfl) ⟨by decide, rfl⟩ rfl rfl ?_
    refine hC.bz dX9_turnsOf_13 (tgt := 21) rfl (fun c2 => ?_) (fun c2 => ?_)
    · exact hC.loc rfl (bad (by simp [c2]))
    · refine hC.iload_n dX9_turnsOf_16 rfl ?_
      refine hC.iload_n dX9_turnsOf_17 rfl ?_
      refine hC.icmp_ne dX9_turnsOf_18 (tgt := 24) rfl (fun c3 => ?_) (fun c3 => ?_)
      · have bad2 : ¬ (inR z 4 && inR w 1) = true → K 47 [] [] (mdW R F L) := by
          intro hne
          rw [mTurns, if_pos ⟨by simp [c1, c2], c3⟩, if_neg hne] at hR
          refine hC.ldc dX9_turnsOf_47 lcX9_96 ?_
          exact hR.ireturn dX9_turnsOf_49 ⟨R 16, R 17, R 18, F 12, rfl, rfl⟩
        refine hC.iload_n dX9_turnsOf_24 rfl ?_
        refine hC.i2l dX9_turnsOf_25 ?_
        refine hC.lconst dX9_turnsOf_26 (v := lN 0) rfl ?_
        refine hC.ldc2_w (v := lN 4) dX9_turnsOf_27 lcX9_274 ?_
        refine hC.rdS [] dX9_turnsOf_30 lmX9_92 mkX9_in sxX9_in (ct_X9_in l z.toInt64 (lN 0) (lN 4)) ⟨Nat.le_of_ble_eq_true rfl, Nat.le_of_ble_eq_true rfl⟩ rfl rfl (Nat.le_of_ble_eq_true rfl) ⟨by decide, rfl⟩ ?_
        rw [in_R (by decide)]
        refine hC.bz dX9_turnsOf_33 (tgt := 47) rfl (fun c4 => ?_) (fun c4 => ?_)
        · exact hC.loc rfl (bad2 (by simp [c4]))
        · refine hC.iload dX9_turnsOf_36 rfl ?_
          refine hC.i2l dX9_turnsOf_38 ?_
          refine hC.lconst dX9_turnsOf_39 (v := lN 0) rfl ?_
          refine hC.lconst dX9_turnsOf_40 (v := lN 1) rfl ?_
          refine hC.rdS [] dX9_turnsOf_41 lmX9_92 mkX9_in sxX9_in (ct_X9_in l w.toInt64 (lN 0) (lN 1)) ⟨Nat.le_of_ble_eq_true rfl, Nat.le_of_ble_eq_true rfl⟩ rfl rfl (Nat.le_of_ble_eq_true rfl) ⟨by decide, rfl⟩ ?_
          rw [in_R (by decide)]
          refine hC.bnz dX9_turnsOf_44 (tgt := 50) rfl (fun c5 => ?_) (fun c5 => ?_)
          · rw [mTurns, if_pos ⟨by simp [c1, c2], c3⟩, if_pos (by simp [c4, c5])] at hR
            obtain ⟨a, ha, rfl⟩ := inB_of c1 (by omega)
            obtain ⟨b, hb, rfl⟩ := inB_of c2 (by omega)
            obtain ⟨n, hn, rfl⟩ := inR_of (by decide) c4
            obtain ⟨k, hk, rfl⟩ := inR_of (by decide) c5
            rw [show ix (nI a) = a from nI_clamp (by omega), show ix (nI b) = b from nI_clamp (by omega), show ix (nI n) = n from nI_clamp (by omega), show ix (nI k) = k from nI_clamp (by omega)] at hR
            refine hC.aload_n dX9_turnsOf_50 rfl ?_
            refine hC.iconst dX9_turnsOf_51 (v := (-1)) rfl ?_
            rw [m1_nI]
            refine hC.putI dX9_turnsOf_52 lpX9_271 rfl rfl rfl (Nat.le_of_ble_eq_true rfl) ?_
            refine hC.aload_n dX9_turnsOf_55 rfl ?_
            refine hC.iload_n dX9_turnsOf_56 rfl ?_
            refine hC.iload_n dX9_turnsOf_57 rfl ?_
            refine hC.iload_n dX9_turnsOf_58 rfl ?_
            refine hC.callVs dX9_turnsOf_59 lmX9_276 mkX9_plays svX9_plays (ct_X9_plays l R (updN F 12 NN) L h a b n (by omega) (by omega) (by omega)) ⟨Nat.le_of_ble_eq_true rfl, Nat.le_of_ble_eq_true rfl⟩ rfl rfl (Nat.le_of_ble_eq_true rfl) rfl rfl (fun r h2 hp => ?_)
            obtain ⟨f, g, e, rfl, rfl⟩ := hp
            show K 62 _ [.int (zI _)] (mdW (pR R f g e) (updN F 12 _) L)
            refine hC.istore dX9_turnsOf_62 (by decide) ?_
            refine hC.iload dX9_turnsOf_64 rfl ?_
            refine hC.nnz (by omega) dX9_turnsOf_66 (tgt := 74) rfl (fun c6 => ?_) (fun c6 => ?_)
            · rw [if_neg c6] at hR
              refine hC.aload_n dX9_turnsOf_74 rfl ?_
              refine hC.getfield dX9_turnsOf_75 lfX9_271 rfl rfl ?_
              exact hR.ireturn dX9_turnsOf_78 ⟨f, g, e, _, rfl, rfl⟩
            · rw [if_pos c6] at hR
              refine hC.iload dX9_turnsOf_69 rfl ?_
              refine hC.goto dX9_turnsOf_71 (tgt := 78) rfl ?_
              exact hR.ireturn dX9_turnsOf_78 ⟨f, g, e, _, rfl, rfl⟩
          · exact hC.loc rfl (bad2 (by simp [c5]))
      · have c3 : x = y := c3
        exact hC.loc rfl (bad (fun z => z.2 c3))
