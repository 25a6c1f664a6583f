/-! the law's world: the class's cells, the reference's cells; the script lies outside, at place 500: written by program (wip/whole/mklaw.py) -/
theorem te_id (e : va_E) : te (fun t => t) (fun j => j) e = e := by
  have h0 : ∀ v : Value, tv (fun j => j) v = v := fun v => by cases v <;> rfl
  cases e with
  | inl x =>
    obtain ⟨t, n, f⟩ := x
    rcases f with f | f | f | f | f
    · rfl
    · rfl
    · rfl
    · rfl
    · show Sum.inl (t, n, Sum.inr (Sum.inr (Sum.inr (Sum.inr (fun j => Option.map (fun j => j) (f j)))))) = _
      have e0 : (fun j => Option.map (fun j : Nat => j) (f j)) = f := by
        funext j
        cases f j <;> rfl
      rw [e0]
  | inr x =>
    obtain ⟨c, fs⟩ := x
    show Sum.inr (c, fs.map (tv (fun j => j))) = Sum.inr (c, fs)
    have e0 : tv (fun j => j) = id := funext h0
    rw [e0, List.map_id]
theorem rn_range (n : Nat) : rn (List.range n) = fun j => j := by
  funext j
  show (List.range n).getD j j = j
  rw [List.getD_eq_getElem?_getD]
  by_cases h : j < n
  · rw [List.getElem?_range h]; rfl
  · rw [List.getElem?_eq_none (by rw [List.length_range]; omega)]; rfl
theorem cutI {hc : List va_E} {n : Nat} (hn : hc.length = n) (h1 : n ≤ 1000) : Cut (List.range n) hc hc := by
  refine ⟨⟨List.nodup_range, by rw [List.length_range]; exact h1⟩, ?_⟩
  rw [rn_range]
  apply List.ext_getElem?
  intro k
  rw [List.getElem?_map, List.getElem?_map]
  by_cases h : k < n
  · rw [List.getElem?_range h, List.getElem?_eq_getElem (by omega)]
    show some (hc[k]?) = some (some (te _ _ _))
    rw [te_id, List.getElem?_eq_getElem (by omega)]
  · rw [List.getElem?_eq_none (by rw [List.length_range]; omega), List.getElem?_eq_none (by omega)]; rfl
theorem Cut.app {is : List Nat} {hc hs hd : List va_E} (h : Cut is hc hs) (hl : ∀ i ∈ is, i < hs.length) : Cut is hc (hs ++ hd) := by
  refine ⟨h.1, ?_⟩
  rw [← h.2]
  apply List.map_congr_left
  intro i hi
  rw [List.getElem?_append_left (hl i hi)]
theorem cut_right {is : List Nat} {a n : Nat} {hc hm : List va_E} (hnd : is.Nodup) (his : is = (List.range n).map (fun i => a + i)) (ha : hc.length = a) (hm2 : hm.length = n) (h1 : n ≤ 1000) : Cut is hm (hc ++ hm.map (te (fun t => t) (rn is))) := by
  have hlen : is.length = n := by rw [his, List.length_map, List.length_range]
  refine ⟨⟨?_, by rw [hlen]; exact h1⟩, ?_⟩
  · exact hnd
  · generalize rn is = ρ
    rw [his]
    apply List.ext_getElem?
    intro k
    rw [List.getElem?_map, List.getElem?_map, List.getElem?_map]
    by_cases h : k < n
    · rw [List.getElem?_range h, List.getElem?_eq_getElem (l := hm) (by omega)]
      show some ((hc ++ hm.map (te (fun t => t) ρ))[a + k]?) = some (some (te _ _ _))
      rw [List.getElem?_append_right (by omega), show a + k - hc.length = k by omega, List.getElem?_map, List.getElem?_eq_getElem (l := hm) (by omega)]
      rfl
    · rw [List.getElem?_eq_none (l := List.range n) (by rw [List.length_range]; omega), List.getElem?_eq_none (l := hm) (by omega)]; rfl
theorem pb_app {is : List Nat} {hc2 v2 hs hd : List va_E} (h : Cut is hc2 v2) (hl : hs.length = v2.length) (h1 : ∀ i, i < v2.length → i ∈ is) (h2 : ∀ i ∈ is, i < v2.length) : pb is (hc2.map (te (fun t => t) (rn is))) (hs ++ hd) = v2 ++ hd := by
  apply List.ext_getElem?
  intro k
  by_cases hk : k < v2.length
  · obtain ⟨j, hj⟩ := List.getElem?_of_mem (h1 k hk)
    have hjl : j < hc2.length := by rw [← h.len]; exact (List.getElem?_eq_some_iff.mp hj).1
    obtain ⟨i, g1, g2, g3⟩ := h.at (List.getElem?_eq_getElem hjl)
    rw [hj] at g1
    have e1 : k = i := Option.some.inj g1
    subst e1
    rw [pb_in is _ _ j k (te (fun t => t) (rn is) hc2[j]) h.1.1 hj (by rw [List.getElem?_map, List.getElem?_eq_getElem hjl]; rfl) (by rw [List.length_append]; omega), List.getElem?_append_left hk, g3]
  · rw [pb_out is _ _ k (fun z => hk (h2 k z)), List.getElem?_append_right (by omega), List.getElem?_append_right (by omega), hl]
theorem pb_right {is : List Nat} {a n : Nat} {hc hm es : List va_E} (hnd : is.Nodup) (his : is = (List.range n).map (fun i => a + i)) (ha : hc.length = a) (hm2 : hm.length = n) (he : es.length = n) : pb is es (hc ++ hm) = hc ++ es := by
  have hat : ∀ j, j < n → is[j]? = some (a + j) := fun j hj => by rw [his, List.getElem?_map, List.getElem?_range hj]; rfl
  have hin : ∀ k ∈ is, a ≤ k ∧ k < a + n := fun k hk => by
    rw [his] at hk
    obtain ⟨i, hi, rfl⟩ := List.mem_map.mp hk
    have := List.mem_range.mp hi
    omega
  apply List.ext_getElem?
  intro k
  by_cases hk : k < a
  · rw [pb_out is _ _ k (fun z => by have := hin k z; omega), List.getElem?_append_left (by omega), List.getElem?_append_left (by omega)]
  · by_cases hk2 : k < a + n
    · have hj := hat (k - a) (by omega)
      rw [show a + (k - a) = k by omega] at hj
      rw [pb_in is es _ (k - a) k es[k - a] hnd hj (List.getElem?_eq_getElem (by omega)) (by rw [List.length_append]; omega), List.getElem?_append_right (by omega), show k - hc.length = k - a by omega, List.getElem?_eq_getElem (by omega)]
    · rw [pb_out is _ _ k (fun z => by have := hin k z; omega), List.getElem?_eq_none (by rw [List.length_append]; omega), List.getElem?_eq_none (by rw [List.length_append]; omega)]
def pB : List Nat := [0, 1, 2, 3, 4, 5, 6, 7, 8, 9, 10, 11, 12, 13, 14, 15, 16, 17, 18, 19, 20, 21, 22, 23, 24, 25, 26, 36, 37, 38, 39, 40, 41, 42, 43, 44, 27, 28, 29, 30, 31, 32, 33, 34, 35]
def pJ : List Nat := (List.range 26).map (fun i => 45 + i)
theorem pJ_nd : pJ.Nodup := by decide
theorem pB_1 : ∀ i, i < 45 → i ∈ pB := by decide
theorem pB_2 : ∀ i ∈ pB, i < 45 := by decide
theorem teB6 : te (fun t => t) (rn pB) (.inl (3, 2, .inr (.inr (.inr (.inr (fun j => if j = 0 then some 7 else some 10)))))) = .inl (3, 2, .inr (.inr (.inr (.inr (fun j => if j = 0 then some 7 else some 10))))) := by
  show Sum.inl (3, 2, Sum.inr (Sum.inr (Sum.inr (Sum.inr (fun j => Option.map (rn pB) (if j = 0 then some 7 else some 10)))))) = _
  have e0 : (fun j : Nat => Option.map (rn pB) (if j = 0 then some 7 else some 10)) = (fun j => if j = 0 then some 7 else some 10) := by
    funext j
    by_cases h : j = 0
    · rw [if_pos h]; rfl
    · rw [if_neg h]; rfl
  rw [e0]
section LAWW
variable {X : TextT} {Q I0 I1 : ClothT} {B : BookT} {Z : CutT} {Y : Nat × Nat} {W V : Int32} {U : Nat → Nat} {T : PaintT} {g : Nat → Nat} {P S : PlanT} {kp : Nat}
set_option maxRecDepth 20000 in
theorem cutBw : Cut pB (sfW X Q I0 I1 B Z Y W V U T g P S kp) (sfV X Q I0 I1 B Z Y W V U T g P S kp) := ⟨by decide, List.ext_getElem? (fun k => match k with
  | 0 => rfl
  | 1 => rfl
  | 2 => rfl
  | 3 => rfl
  | 4 => rfl
  | 5 => rfl
  | 6 => congrArg (fun e => some (some e)) teB6.symm
  | 7 => rfl
  | 8 => rfl
  | 9 => rfl
  | 10 => rfl
  | 11 => rfl
  | 12 => rfl
  | 13 => rfl
  | 14 => rfl
  | 15 => rfl
  | 16 => rfl
  | 17 => rfl
  | 18 => rfl
  | 19 => rfl
  | 20 => rfl
  | 21 => rfl
  | 22 => rfl
  | 23 => rfl
  | 24 => rfl
  | 25 => rfl
  | 26 => rfl
  | 27 => rfl
  | 28 => rfl
  | 29 => rfl
  | 30 => rfl
  | 31 => rfl
  | 32 => rfl
  | 33 => rfl
  | 34 => rfl
  | 35 => rfl
  | 36 => rfl
  | 37 => rfl
  | 38 => rfl
  | 39 => rfl
  | 40 => rfl
  | 41 => rfl
  | 42 => rfl
  | 43 => rfl
  | 44 => rfl
  | k + 45 => rfl)⟩
set_option maxRecDepth 20000 in
theorem cutBv : Cut pB (sfV X Q I0 I1 B Z Y W V U T g P S kp) (sfW X Q I0 I1 B Z Y W V U T g P S kp) := ⟨by decide, List.ext_getElem? (fun k => match k with
  | 0 => rfl
  | 1 => rfl
  | 2 => rfl
  | 3 => rfl
  | 4 => rfl
  | 5 => rfl
  | 6 => congrArg (fun e => some (some e)) teB6.symm
  | 7 => rfl
  | 8 => rfl
  | 9 => rfl
  | 10 => rfl
  | 11 => rfl
  | 12 => rfl
  | 13 => rfl
  | 14 => rfl
  | 15 => rfl
  | 16 => rfl
  | 17 => rfl
  | 18 => rfl
  | 19 => rfl
  | 20 => rfl
  | 21 => rfl
  | 22 => rfl
  | 23 => rfl
  | 24 => rfl
  | 25 => rfl
  | 26 => rfl
  | 27 => rfl
  | 28 => rfl
  | 29 => rfl
  | 30 => rfl
  | 31 => rfl
  | 32 => rfl
  | 33 => rfl
  | 34 => rfl
  | 35 => rfl
  | 36 => rfl
  | 37 => rfl
  | 38 => rfl
  | 39 => rfl
  | 40 => rfl
  | 41 => rfl
  | 42 => rfl
  | 43 => rfl
  | 44 => rfl
  | k + 45 => rfl)⟩
end LAWW
theorem w_len (s : Sf) : s.w.length = 45 := rfl
theorem v_len (s : Sf) : s.v.length = 45 := rfl
theorem md_len (R : Nat → Nat → Nat) (F : Nat → Nat) (L : Nat → Int64) : (mdW R F L).length = 26 := rfl
def lawJ (R : Nat → Nat → Nat) (F : Nat → Nat) (L : Nat → Int64) : List va_E := (mdW R F L).map (te (fun t => t) (rn pJ))
def lawW (hc : List va_E) (R : Nat → Nat → Nat) (F : Nat → Nat) (L : Nat → Int64) : List va_E := hc ++ lawJ R F L
def LW (s : Sf) (R : Nat → Nat → Nat) (F : Nat → Nat) (L : Nat → Int64) (hs : List va_E) : Prop := hs = lawW s.w R F L ∨ hs = lawW s.v R F L
section LAWX
variable {s s2 : Sf} {R R2 : Nat → Nat → Nat} {F F2 : Nat → Nat} {L L2 : Nat → Int64}
theorem cutA : Cut (List.range 45) s.w (lawW s.w R F L) := (cutI (w_len s) (by decide)).app (fun i hi => by rw [w_len]; exact List.mem_range.mp hi)
theorem cutB : Cut pB s.w (lawW s.v R F L) := (cutBw).app (fun i hi => by rw [v_len]; exact pB_2 i hi)
theorem cutJw : Cut pJ (mdW R F L) (lawW s.w R F L) := cut_right pJ_nd rfl (w_len s) (md_len R F L) (by decide)
theorem cutJv : Cut pJ (mdW R F L) (lawW s.v R F L) := cut_right pJ_nd rfl (v_len s) (md_len R F L) (by decide)
theorem pbAw : pb (List.range 45) (s2.w.map (te (fun t => t) (rn (List.range 45)))) (lawW s.w R F L) = lawW s2.w R F L := pb_app (cutI (w_len s2) (by decide)) (by rw [w_len, w_len]) (fun i hi => List.mem_range.mpr (by rw [w_len] at hi; exact hi)) (fun i hi => by rw [w_len]; exact List.mem_range.mp hi)
theorem pbAv : pb (List.range 45) (s2.v.map (te (fun t => t) (rn (List.range 45)))) (lawW s.w R F L) = lawW s2.v R F L := pb_app (cutI (v_len s2) (by decide)) (by rw [w_len, v_len]) (fun i hi => List.mem_range.mpr (by rw [v_len] at hi; exact hi)) (fun i hi => by rw [v_len]; exact List.mem_range.mp hi)
theorem pbBw : pb pB (s2.w.map (te (fun t => t) (rn pB))) (lawW s.v R F L) = lawW s2.v R F L := pb_app cutBw (by rw [v_len, v_len]) (fun i hi => pB_1 i (by rw [v_len] at hi; exact hi)) (fun i hi => by rw [v_len]; exact pB_2 i hi)
theorem pbBv : pb pB (s2.v.map (te (fun t => t) (rn pB))) (lawW s.v R F L) = lawW s2.w R F L := pb_app cutBv (by rw [v_len, w_len]) (fun i hi => pB_1 i (by rw [w_len] at hi; exact hi)) (fun i hi => by rw [w_len]; exact pB_2 i hi)
theorem pbJw : pb pJ ((mdW R2 F2 L2).map (te (fun t => t) (rn pJ))) (lawW s.w R F L) = lawW s.w R2 F2 L2 := pb_right pJ_nd rfl (w_len s) (by unfold lawJ; rw [List.length_map, md_len]) (by rw [List.length_map, md_len])
theorem pbJv : pb pJ ((mdW R2 F2 L2).map (te (fun t => t) (rn pJ))) (lawW s.v R F L) = lawW s.v R2 F2 L2 := pb_right pJ_nd rfl (v_len s) (by unfold lawJ; rw [List.length_map, md_len]) (by rw [List.length_map, md_len])
theorem rnA0 : rn (List.range 45) 0 = 0 := by rw [rn_range]
theorem rnB0 : rn pB 0 = 0 := rfl
theorem rnJ0 : rn pJ 0 = 45 := rfl
end LAWX
/-- the walk of the law: as any walk, and the script -/
def Cs (l : Launch) (cc : ByteArray) (own : String) (nL : Nat) (R : Room) (K : AK) (Lx : Nat) (xs : Nat → Int32) : Prop :=
  ∃ (p : Program) (e : Env) (s : State) (m : MethodId) (args : Array Value) (below : List Frame) (meth : Method) (c : Code) (D : va_G) (cA : Nat → ClassId) (ad : Nat → Nat) (A0 : Nat → Prop) (H0 : Heap) (N ck sk : Nat) (Q : State → Prop),
    GC p R s m args c D cA ad A0 H0 nL N ck sk cc own ∧ K = Go p l e R s m args below meth c D cA ad A0 H0 nL N ck sk Q ∧ va_X (ad 500) Lx xs s H0 ∧ ad 500 < H0.size ∧ ¬ A0 (ad 500)
section LAWC
variable {l : Launch} {cc : ByteArray} {own : String} {nL : Nat} {R0 : Room} {K : AK} {pc : Nat} {ls : AL} {st stk : List Value} {hs : List va_E} {idx n Lx : Nat} {xs : Nat → Int32} {yS yM : MethodName} {bS bM : ByteArray} {mS mM : Nat} {as : List Value} {s s2 : Sf} {R : Nat → Nat → Nat} {F : Nat → Nat} {L : Nat → Int64}
theorem Cs.cl (h : Cs l cc own nL R0 K Lx xs) : Cl l cc own nL R0 K := by
  obtain ⟨p, e, s, m, args, below, meth, c, D, cA, ad, A0, H0, N, ck, sk, Q, G, e1, -⟩ := h
  exact ⟨p, e, s, m, args, below, meth, c, D, cA, ad, A0, H0, N, ck, sk, Q, G, e1⟩
theorem Cs.iaload (h : Cs l cc own nL R0 K Lx xs) {i : Nat} (hd : decode cc pc = .ok (.iaload, 1)) (hi : i < Lx) (hL : Lx < 2 ^ 31) (k : K (pc + 1) ls (.int (xs i) :: st) hs) : K pc ls (.int (nI i) :: .ref 500 :: st) hs := by
  obtain ⟨p, e, s, m, args, below, meth, c, D, cA, ad, A0, H0, N, ck, sk, Q, ⟨hx, hb, hml, hown, hts, hKX, hD0, hA0, hcs⟩, rfl, hX, hbl, hbA⟩ := h
  intro hn H locs lsC hP hS hl
  have k2 := k hn H locs lsC hP hS hl
  refine va_sld hx hb hX hbl hbA hS (vp_in_nI hi hL) hd ?_
  rw [nI_clamp (by omega)]
  exact k2
theorem Cs.alen (h : Cs l cc own nL R0 K Lx xs) (hd : decode cc pc = .ok (.arraylength, 1)) (k : K (pc + 1) ls (.int (nI Lx) :: st) hs) : K pc ls (.ref 500 :: st) hs := by
  obtain ⟨p, e, s, m, args, below, meth, c, D, cA, ad, A0, H0, N, ck, sk, Q, ⟨hx, hb, hml, hown, hts, hKX, hD0, hA0, hcs⟩, rfl, hX, hbl, hbA⟩ := h
  intro hn H locs lsC hP hS hl
  exact va_slen hx hb hX hbl hbA hS hd (k hn H locs lsC hP hS hl)
theorem rm_up {d m : Nat} (h : rmOk d m (rmD 20)) (h1 : 20 ≤ R0.frames) (h2 : 800 ≤ R0.locals) : rmOk d m R0 := by
  obtain ⟨a, b⟩ := h
  have a : d + 1 ≤ 20 := a
  have b : 8 + (m + 11) + 40 * d ≤ 40 * 20 := b
  exact ⟨by omega, by omega⟩
/-- the class's call, in the law's world -/
theorem Cl.lawS (h : Cl l cc own nL R0 K) {v : Int32} {dS : Nat} {PS : Sf → List va_E → Prop} (hd : decode cc pc = .ok (.invokevirtual idx, 3)) (hlk : Cond.methodLink own idx yS ∈ GW) (hm : MK yS bS mS (some .int) n) (hiv : Cond.instanceMethod yS ∈ GW ∧ Cond.selects yS.cls yS yS ∈ GW) (hcl : (vwCl[8]?).map (fun q => q.1) = some yS.cls) (hR : rmOk dS mS R0)
    (hct : Ct l dS yS bS mS (some .int) (.ref 0 :: as) s.w (fun r h2 => r = some (.int v) ∧ ∃ s2, PS s2 h2 ∧ (h2 = s2.w ∨ h2 = s2.v))) (hlen : as.length = n) (has : ∀ ad : Nat → Nat, as.map (tv ad) = as) (hcat : (st.map fun v => v.category).sum ≤ 8) (hstk : stk = as.reverse ++ .ref 0 :: st) (hw : LW s R F L hs)
    (k : ∀ s2 h2 hs2, PS s2 h2 → LW s2 R F L hs2 → K (pc + 3) ls (.int v :: st) hs2) : K pc ls stk hs := by
  subst hstk
  rcases hw with rfl | rfl
  · refine h.callV (List.range 45) hd hlk hm hiv hct hR hlen (by rw [has, rnA0]) hcat cutA rfl hcl (fun r hc2 hp hl => ?_)
    obtain ⟨rfl, s2, hp, e | e⟩ := hp
    · subst e
      rw [pbAw]
      exact k s2 _ _ hp (Or.inl rfl)
    · subst e
      rw [pbAv]
      exact k s2 _ _ hp (Or.inr rfl)
  · refine h.callV pB hd hlk hm hiv hct hR hlen (by rw [has, rnB0]) hcat cutB rfl hcl (fun r hc2 hp hl => ?_)
    obtain ⟨rfl, s2, hp, e | e⟩ := hp
    · subst e
      rw [pbBw]
      exact k s2 _ _ hp (Or.inr rfl)
    · subst e
      rw [pbBv]
      exact k s2 _ _ hp (Or.inl rfl)
theorem Cl.lawM (h : Cl l cc own nL R0 K) {v : Int32} {dM : Nat} {PM : (Nat → Nat → Nat) → (Nat → Nat) → (Nat → Int64) → Prop} (hd : decode cc pc = .ok (.invokevirtual idx, 3)) (hlk : Cond.methodLink own idx yM ∈ GW) (hm : MK yM bM mM (some .int) n) (hiv : Cond.instanceMethod yM ∈ GW ∧ Cond.selects yM.cls yM yM ∈ GW) (hcl : (vwCl[9]?).map (fun q => q.1) = some yM.cls) (hR : rmOk dM mM R0)
    (hct : Ct l dM yM bM mM (some .int) (.ref 0 :: as) (mdW R F L) (fun r h2 => r = some (.int v) ∧ ∃ R2 F2 L2, PM R2 F2 L2 ∧ h2 = mdW R2 F2 L2)) (hlen : as.length = n) (has : ∀ ad : Nat → Nat, as.map (tv ad) = as) (hcat : (st.map fun v => v.category).sum ≤ 8) (hstk : stk = as.reverse ++ .ref 45 :: st) (hw : LW s R F L hs)
    (k : ∀ R2 F2 L2 hs2, PM R2 F2 L2 → LW s R2 F2 L2 hs2 → K (pc + 3) ls (.int v :: st) hs2) : K pc ls stk hs := by
  subst hstk
  rcases hw with rfl | rfl
  · refine h.callV pJ hd hlk hm hiv hct hR hlen (by rw [has, rnJ0]) hcat cutJw rfl hcl (fun r hc2 hp hl => ?_)
    obtain ⟨rfl, R2, F2, L2, hp, e⟩ := hp
    subst e
    rw [pbJw]
    exact k R2 F2 L2 _ hp (Or.inl rfl)
  · refine h.callV pJ hd hlk hm hiv hct hR hlen (by rw [has, rnJ0]) hcat cutJv rfl hcl (fun r hc2 hp hl => ?_)
    obtain ⟨rfl, R2, F2, L2, hp, e⟩ := hp
    subst e
    rw [pbJv]
    exact k R2 F2 L2 _ hp (Or.inr rfl)
/-- a number of the script is laid on the stack -/
theorem Cs.num (h : Cs l cc own nL R0 K Lx xs) {i k : Nat} (d0 : decode cc pc = .ok (.aload_n 0, 1)) (d1 : decode cc (pc + 1) = .ok (.iload_n 3, 1)) (d2 : decode cc (pc + 2) = .ok (.iconst (k : Int), 1)) (d3 : decode cc (pc + 3) = .ok (.iadd, 1)) (d4 : decode cc (pc + 4) = .ok (.iaload, 1)) (hl0 : lk ls 0 = some (.ref 500)) (hl3 : lk ls 3 = some (.int (nI i))) (hk : Int32.ofInt (k : Int) = nI k) (hL : Lx < 2 ^ 31) (hi : i + k < Lx) (kk : K (pc + 5) ls (.int (xs (i + k)) :: st) hs) : K pc ls st hs := by
  refine h.cl.aload_n d0 hl0 ?_
  refine h.cl.iload_n d1 hl3 ?_
  refine h.cl.iconst d2 hk ?_
  refine h.cl.iadd d3 ?_
  rw [nI_add]
  exact h.iaload d4 hi hL kk
end LAWC
