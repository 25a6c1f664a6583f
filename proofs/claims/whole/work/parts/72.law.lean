/-! the law's world: the class's cells, the reference's cells; the script lies outside, at place 500: written by program (wip/whole/mklaw.py) -/
def pA : List Nat := [0, 1, 2, 3, 4, 5, 6, 7, 8, 9, 10, 11, 12, 13, 14, 15, 16, 17, 18, 19, 20, 21, 22, 23, 24, 25, 26, 27, 28, 29, 30, 31, 32, 33, 34, 35, 36, 37, 38, 39, 40, 41, 42, 43, 44]
def pB : List Nat := [0, 1, 2, 3, 4, 5, 6, 7, 8, 9, 10, 11, 12, 13, 14, 15, 16, 17, 18, 19, 20, 21, 22, 23, 24, 25, 26, 36, 37, 38, 39, 40, 41, 42, 43, 44, 27, 28, 29, 30, 31, 32, 33, 34, 35]
def pJ : List Nat := [45, 46, 47, 48, 49, 50, 51, 52, 53, 54, 55, 56, 57, 58, 59, 60, 61, 62, 63, 64, 65, 66, 67, 68, 69, 70]
abbrev lawW (hc : List va_E) (R : Nat → Nat → Nat) (F : Nat → Nat) (L : Nat → Int64) : List va_E := hc.map (te (fun t => t) (rn pA)) ++ (mdW R F L).map (te (fun t => t) (rn pJ))
def LW (s : Sf) (R : Nat → Nat → Nat) (F : Nat → Nat) (L : Nat → Int64) (hs : List va_E) : Prop := hs = lawW s.w R F L ∨ hs = lawW s.v R F L
section LAWW
variable {s s2 : Sf} {R R2 : Nat → Nat → Nat} {F F2 : Nat → Nat} {L L2 : Nat → Int64}
set_option maxRecDepth 20000 in
theorem cutA : Cut pA s.w (lawW s.w R F L) := ⟨by decide, rfl⟩
set_option maxRecDepth 20000 in
theorem cutB : Cut pB s.w (lawW s.v R F L) := ⟨by decide, rfl⟩
set_option maxRecDepth 20000 in
theorem cutJw : Cut pJ (mdW R F L) (lawW s.w R F L) := ⟨by decide, rfl⟩
set_option maxRecDepth 20000 in
theorem cutJv : Cut pJ (mdW R F L) (lawW s.v R F L) := ⟨by decide, rfl⟩
set_option maxRecDepth 20000 in
theorem pbAw : pb pA (s2.w.map (te (fun t => t) (rn pA))) (lawW s.w R F L) = lawW s2.w R F L := rfl
set_option maxRecDepth 20000 in
theorem pbAv : pb pA (s2.v.map (te (fun t => t) (rn pA))) (lawW s.w R F L) = lawW s2.v R F L := rfl
set_option maxRecDepth 20000 in
theorem pbBw : pb pB (s2.w.map (te (fun t => t) (rn pB))) (lawW s.v R F L) = lawW s2.v R F L := rfl
set_option maxRecDepth 20000 in
theorem pbBv : pb pB (s2.v.map (te (fun t => t) (rn pB))) (lawW s.v R F L) = lawW s2.w R F L := rfl
set_option maxRecDepth 20000 in
theorem pbJw : pb pJ ((mdW R2 F2 L2).map (te (fun t => t) (rn pJ))) (lawW s.w R F L) = lawW s.w R2 F2 L2 := rfl
set_option maxRecDepth 20000 in
theorem pbJv : pb pJ ((mdW R2 F2 L2).map (te (fun t => t) (rn pJ))) (lawW s.v R F L) = lawW s.v R2 F2 L2 := rfl
end LAWW
/-- the walk of the law: as any walk, and the script -/
def Cs (l : Launch) (cc : ByteArray) (own : String) (nL : Nat) (R : Room) (K : AK) (Lx : Nat) (xs : Nat → Int32) : Prop :=
  ∃ (p : Program) (e : Env) (s : State) (m : MethodId) (args : Array Value) (below : List Frame) (meth : Method) (c : Code) (D : va_G) (cA : Nat → ClassId) (ad : Nat → Nat) (A0 : Nat → Prop) (H0 : Heap) (N ck sk : Nat) (Q : State → Prop),
    GC p R s m args c D cA ad A0 H0 nL N ck sk cc own ∧ K = Go p l e R s m args below meth c D cA ad A0 H0 nL N ck sk Q ∧ va_X (ad 500) Lx xs s H0 ∧ ad 500 < H0.size ∧ ¬ A0 (ad 500)
section LAWC
variable {l : Launch} {cc : ByteArray} {own : String} {nL : Nat} {R0 : Room} {K : AK} {pc : Nat} {ls : AL} {st stk : List Value} {hs : List va_E} {idx n Lx : Nat} {xs : Nat → Int32} {yS yM : MethodName} {bS bM : ByteArray} {mS mM : Nat} {as : List Value} {s s2 : Sf} {R : Nat → Nat → Nat} {F : Nat → Nat} {L : Nat → Int64}
theorem Cs.cl (h : Cs l cc own nL R0 K Lx xs) : Cl l cc own nL R0 K := by
  obtain ⟨p, e, s, m, args, below, meth, c, D, cA, ad, A0, H0, N, ck, sk, Q, G, e1, -⟩ := h
  exact ⟨p, e, s, m, args, below, meth, c, D, cA, ad, A0, H0, N, ck, sk, Q, G, e1⟩
theorem Cs.iaload (h : Cs l cc own nL R0 K Lx xs) {i : Nat} (hd : decode cc pc = .ok (.iaload, 1)) (hi : i < Lx) (hL : Lx < 2 ^ 31) (k : K (pc + 1) ls (.int (xs i) :: st) hs) : K pc ls (.int (nI i) :: .ref 500 :: st) hs := by
  obtain ⟨p, e, s, m, args, below, meth, c, D, cA, ad, A0, H0, N, ck, sk, Q, ⟨hx, hb, hml, hown, hts, hKX, hD0, hA0, hcs⟩, rfl, hX, hbl, hbA⟩ := h
  intro hn H locs lsC hP hS hl
  have k2 := k hn H locs lsC hP hS hl
  refine va_sld hx hb hX hbl hbA hS (vp_in_nI hi hL) hd ?_
  rw [nI_clamp (by omega)]
  exact k2
theorem Cs.alen (h : Cs l cc own nL R0 K Lx xs) (hd : decode cc pc = .ok (.arraylength, 1)) (k : K (pc + 1) ls (.int (nI Lx) :: st) hs) : K pc ls (.ref 500 :: st) hs := by
  obtain ⟨p, e, s, m, args, below, meth, c, D, cA, ad, A0, H0, N, ck, sk, Q, ⟨hx, hb, hml, hown, hts, hKX, hD0, hA0, hcs⟩, rfl, hX, hbl, hbA⟩ := h
  intro hn H locs lsC hP hS hl
  exact va_slen hx hb hX hbl hbA hS hd (k hn H locs lsC hP hS hl)
theorem rm_up {d m : Nat} (h : rmOk d m (rmD 20)) (h1 : 20 ≤ R0.frames) (h2 : 800 ≤ R0.locals) : rmOk d m R0 := by
  obtain ⟨a, b⟩ := h
  have a : d + 1 ≤ 20 := a
  have b : 8 + (m + 11) + 40 * d ≤ 40 * 20 := b
  exact ⟨by omega, by omega⟩
/-- the class's call, in the law's world -/
theorem Cl.lawS (h : Cl l cc own nL R0 K) {v : Int32} {dS : Nat} {PS : Sf → List va_E → Prop} (hd : decode cc pc = .ok (.invokevirtual idx, 3)) (hlk : Cond.methodLink own idx yS ∈ GW) (hm : MK yS bS mS (some .int) n) (hiv : Cond.instanceMethod yS ∈ GW ∧ Cond.selects yS.cls yS yS ∈ GW) (hcl : (vwCl[8]?).map (fun q => q.1) = some yS.cls) (hR : rmOk dS mS R0)
    (hct : Ct l dS yS bS mS (some .int) (.ref 0 :: as) s.w (fun r h2 => r = some (.int v) ∧ ∃ s2, PS s2 h2 ∧ (h2 = s2.w ∨ h2 = s2.v))) (hlen : as.length = n) (has : ∀ ad : Nat → Nat, as.map (tv ad) = as) (hcat : (st.map fun v => v.category).sum ≤ 8) (hstk : stk = as.reverse ++ .ref 0 :: st) (hw : LW s R F L hs)
    (k : ∀ s2 h2 hs2, PS s2 h2 → LW s2 R F L hs2 → K (pc + 3) ls (.int v :: st) hs2) : K pc ls stk hs := by
  subst hstk
  rcases hw with rfl | rfl
  · refine h.callV pA hd hlk hm hiv hct hR hlen (by rw [has]; rfl) hcat cutA rfl hcl (fun r hc2 hp hl => ?_)
    obtain ⟨rfl, s2, hp, e | e⟩ := hp
    · subst e
      rw [pbAw]
      exact k s2 _ _ hp (Or.inl rfl)
    · subst e
      rw [pbAv]
      exact k s2 _ _ hp (Or.inr rfl)
  · refine h.callV pB hd hlk hm hiv hct hR hlen (by rw [has]; rfl) hcat cutB rfl hcl (fun r hc2 hp hl => ?_)
    obtain ⟨rfl, s2, hp, e | e⟩ := hp
    · subst e
      rw [pbBw]
      exact k s2 _ _ hp (Or.inr rfl)
    · subst e
      rw [pbBv]
      exact k s2 _ _ hp (Or.inl rfl)
theorem Cl.lawM (h : Cl l cc own nL R0 K) {v : Int32} {dM : Nat} {PM : (Nat → Nat → Nat) → (Nat → Nat) → (Nat → Int64) → Prop} (hd : decode cc pc = .ok (.invokevirtual idx, 3)) (hlk : Cond.methodLink own idx yM ∈ GW) (hm : MK yM bM mM (some .int) n) (hiv : Cond.instanceMethod yM ∈ GW ∧ Cond.selects yM.cls yM yM ∈ GW) (hcl : (vwCl[9]?).map (fun q => q.1) = some yM.cls) (hR : rmOk dM mM R0)
    (hct : Ct l dM yM bM mM (some .int) (.ref 0 :: as) (mdW R F L) (fun r h2 => r = some (.int v) ∧ ∃ R2 F2 L2, PM R2 F2 L2 ∧ h2 = mdW R2 F2 L2)) (hlen : as.length = n) (has : ∀ ad : Nat → Nat, as.map (tv ad) = as) (hcat : (st.map fun v => v.category).sum ≤ 8) (hstk : stk = as.reverse ++ .ref 45 :: st) (hw : LW s R F L hs)
    (k : ∀ R2 F2 L2 hs2, PM R2 F2 L2 → LW s R2 F2 L2 hs2 → K (pc + 3) ls (.int v :: st) hs2) : K pc ls stk hs := by
  subst hstk
  rcases hw with rfl | rfl
  · refine h.callV pJ hd hlk hm hiv hct hR hlen (by rw [has]; rfl) hcat cutJw rfl hcl (fun r hc2 hp hl => ?_)
    obtain ⟨rfl, R2, F2, L2, hp, e⟩ := hp
    subst e
    rw [pbJw]
    exact k R2 F2 L2 _ hp (Or.inl rfl)
  · refine h.callV pJ hd hlk hm hiv hct hR hlen (by rw [has]; rfl) hcat cutJv rfl hcl (fun r hc2 hp hl => ?_)
    obtain ⟨rfl, R2, F2, L2, hp, e⟩ := hp
    subst e
    rw [pbJv]
    exact k R2 F2 L2 _ hp (Or.inr rfl)
/-- a number of the script is laid on the stack -/
theorem Cs.num (h : Cs l cc own nL R0 K Lx xs) {i k : Nat} (d0 : decode cc pc = .ok (.aload_n 0, 1)) (d1 : decode cc (pc + 1) = .ok (.iload_n 3, 1)) (d2 : decode cc (pc + 2) = .ok (.iconst (k : Int), 1)) (d3 : decode cc (pc + 3) = .ok (.iadd, 1)) (d4 : decode cc (pc + 4) = .ok (.iaload, 1)) (hl0 : lk ls 0 = some (.ref 500)) (hl3 : lk ls 3 = some (.int (nI i))) (hk : Int32.ofInt (k : Int) = nI k) (hL : Lx < 2 ^ 31) (hi : i + k < Lx) (kk : K (pc + 5) ls (.int (xs (i + k)) :: st) hs) : K pc ls st hs := by
  refine h.cl.aload_n d0 hl0 ?_
  refine h.cl.iload_n d1 hl3 ?_
  refine h.cl.iconst d2 hk ?_
  refine h.cl.iadd d3 ?_
  rw [nI_add]
  exact h.iaload d4 hi hL kk
end LAWC
