/-! THE WALK WITHOUT THE MACHINE. A method's world is a list of cells; a reference is a PLACE in that list (ad: where the places lie). K pc ls st hs: from this point the machine comes to its end. -/
abbrev AL : Type := List (Nat × Value)
abbrev AK : Type := Nat → AL → List Value → List va_E → Prop
def tv (ad : Nat → Nat) : Value → Value
  | .ref a => .ref (ad a)
  | v => v
def te (cA : Nat → ClassId) (ad : Nat → Nat) : va_E → va_E
  | .inl (t, n, .inr (.inr (.inr (.inr f)))) => .inl (cA t, n, .inr (.inr (.inr (.inr (fun j => (f j).map ad)))))
  | .inl (t, x) => .inl (cA t, x)
  | .inr (c, fs) => .inr (c, fs.map (tv ad))
def tl (ad : Nat → Nat) (ls : AL) : AL := ls.map (fun q => (q.1, tv ad q.2))
def tw (cA : Nat → ClassId) (ad : Nat → Nat) (hs : List va_E) : va_W := hs.mapIdx (fun i e => (ad i, te cA ad e))
theorem tv_cat (ad : Nat → Nat) (v : Value) : (tv ad v).category = v.category := by cases v <;> rfl
theorem tv_tv (ad ρ : Nat → Nat) (v : Value) : tv ad (tv ρ v) = tv (fun j => ad (ρ j)) v := by cases v <;> rfl
theorem te_te (cA : Nat → ClassId) (ad ρ : Nat → Nat) (e : va_E) : te cA ad (te (fun t => t) ρ e) = te cA (fun j => ad (ρ j)) e := by
  cases e with
  | inl x =>
    obtain ⟨t, n, f⟩ := x
    rcases f with f | f | f | f | f
    · rfl
    · rfl
    · rfl
    · rfl
    · show Sum.inl _ = Sum.inl _
      have e0 : (fun j => Option.map ad (Option.map ρ (f j))) = (fun j => Option.map (fun j => ad (ρ j)) (f j)) := by
        funext j
        cases f j <;> rfl
      exact congrArg (fun g => (Sum.inl (cA t, n, Sum.inr (Sum.inr (Sum.inr (Sum.inr g)))) : va_E)) e0
  | inr x =>
    obtain ⟨c, fs⟩ := x
    show Sum.inr (c, (fs.map (tv ρ)).map (tv ad)) = Sum.inr (c, fs.map _)
    rw [List.map_map]
    have e0 : (tv ad ∘ tv ρ) = tv (fun j => ad (ρ j)) := by
      funext v
      exact tv_tv ad ρ v
    rw [e0]
theorem tw_get (cA : Nat → ClassId) (ad : Nat → Nat) (hs : List va_E) (i : Nat) : (tw cA ad hs)[i]? = (hs[i]?).map (fun e => (ad i, te cA ad e)) := by simp [tw]
theorem tw_len (cA : Nat → ClassId) (ad : Nat → Nat) (hs : List va_E) : (tw cA ad hs).length = hs.length := by simp [tw]
theorem tw_at {cA : Nat → ClassId} {ad : Nat → Nat} {hs : List va_E} {i : Nat} {e : va_E} (h : hs[i]? = some e) : (tw cA ad hs)[i]? = some (ad i, te cA ad e) := by rw [tw_get, h]; rfl
theorem tw_set (cA : Nat → ClassId) (ad : Nat → Nat) (hs : List va_E) (i : Nat) (e : va_E) : tw cA ad (hs.set i e) = (tw cA ad hs).set i (ad i, te cA ad e) := by
  apply List.ext_getElem?
  intro k
  rw [tw_get, List.getElem?_set, List.getElem?_set, tw_len, tw_get]
  by_cases h : i = k
  · subst h
    by_cases h2 : i < hs.length
    · simp [h2]
    · simp [h2]
  · simp [h]
theorem tv_args (ad : Nat → Nat) (vs : List Value) : ∀ i, lv_args i (vs.map (tv ad)) = tl ad (lv_args i vs) := by
  induction vs with
  | nil => intro i; rfl
  | cons v vs ih =>
    intro i
    show (i, tv ad v) :: lv_args (if (tv ad v).category = 2 then i + 2 else i + 1) (vs.map (tv ad)) = (i, tv ad v) :: tl ad (lv_args _ vs)
    rw [tv_cat, ih]
theorem tl_filter (ad : Nat → Nat) (p : Nat × Value → Bool) (hp : ∀ q : Nat × Value, p (q.1, tv ad q.2) = p q) (ls : AL) : (tl ad ls).filter p = tl ad (ls.filter p) := by
  induction ls with
  | nil => rfl
  | cons q ls ih =>
    show List.filter p ((q.1, tv ad q.2) :: tl ad ls) = _
    rw [List.filter_cons, List.filter_cons, hp q, ih]
    cases p q <;> rfl
/-- the locals behind a store -/
def st1 (i : Nat) (v : Value) (ls : AL) : AL := (i, v) :: ls.filter (fun q => !(q.1 == i) && !(q.1 + 1 == i && q.2.category == 2))
def st2 (i : Nat) (v : Value) (ls : AL) : AL := (i, v) :: ls.filter (fun q => !(q.1 == i) && (!(q.1 == i + 1) && !(q.1 + 1 == i && q.2.category == 2)))
theorem st1_tl (ad : Nat → Nat) (i : Nat) (v w : Value) (hw : tv ad v = w) (ls : AL) : (i, w) :: (tl ad ls).filter (fun q => !(q.1 == i) && !(q.1 + 1 == i && q.2.category == 2)) = tl ad (st1 i v ls) := by
  rw [tl_filter ad _ (fun q => by simp [tv_cat])]
  show _ = (i, tv ad v) :: _
  rw [hw]; rfl
theorem st2_tl (ad : Nat → Nat) (i : Nat) (v w : Value) (hw : tv ad v = w) (ls : AL) : (i, w) :: (tl ad ls).filter (fun q => !(q.1 == i) && (!(q.1 == i + 1) && !(q.1 + 1 == i && q.2.category == 2))) = tl ad (st2 i v ls) := by
  rw [tl_filter ad _ (fun q => by simp [tv_cat])]
  show _ = (i, tv ad v) :: _
  rw [hw]; rfl
theorem st1c_tl (ad : Nat → Nat) (i : Nat) (u v w : Value) (hw : tv ad v = w) (ls : AL) : (i, w) :: ((i, u) :: tl ad ls).filter (fun q => !(q.1 == i) && !(q.1 + 1 == i && q.2.category == 2)) = tl ad (st1 i v ls) := by
  rw [List.filter_cons]
  simp only [beq_self_eq_true, Bool.not_true, Bool.false_and, Bool.false_eq_true, if_false]
  exact st1_tl ad i v w hw ls
/-- reading a local -/
def lk (ls : AL) (i : Nat) : Option Value := (ls.find? (fun q => q.1 == i)).map (fun q => q.2)
theorem lk_at {ad : Nat → Nat} {lsC : Array Slot} {nL : Nat} {ls : AL} (h : lv_has lsC nL (tl ad ls)) {i : Nat} {v : Value} (hv : lk ls i = some v) : lsC[i]? = some (.val (tv ad v)) := by
  unfold lk at hv
  cases hq : ls.find? (fun q => q.1 == i) with
  | none => rw [hq] at hv; cases hv
  | some q =>
    rw [hq] at hv
    have h1 : q.2 = v := Option.some.inj hv
    have h2 := List.find?_some hq
    have h3 : q.1 = i := by simpa using h2
    have h4 : (q.1, tv ad q.2) ∈ tl ad ls := List.mem_map.mpr ⟨q, List.mem_of_find?_eq_some hq, rfl⟩
    have := h.2.2 _ h4
    rw [h3, h1] at this
    exact this
/-- the words that go from method to method; the nest mates' -/
def GW : List Cond := lw_tbl.filter goodWord
theorem gw {w : Cond} (i : Nat) (h : lw_tbl[i]? = some w) (hg : goodWord w = true) : w ∈ GW := List.mem_filter.mpr ⟨List.mem_of_getElem? h, hg⟩
theorem gw_good {w : Cond} (h : w ∈ GW) : (w.onTables && w.keeps) = true ∨ ∃ ty, w = .arrayClass ty := good_of_word (List.mem_filter.mp h).2
def isNM : Cond → Bool
  | .methodLinkNest _ _ _ _ => true
  | _ => false
def NL : List Cond := tables_1.filter isNM
def NWs (U : State) : Prop := ∀ w ∈ NL, va_Nw w U
theorem NWs.warm {s U : State} (hW : s.WarmedH U.vm) (h : NWs s) : NWs U := by
  intro w hw
  have h1 := h w hw
  have h2 := (List.mem_filter.mp hw).2
  cases w <;> first | (exact va_Nw.warmM hW h1) | (exact Bool.noConfusion h2)
theorem NWs.same {s U : State} (e : s.vm = U.vm) (h : NWs s) : NWs U := by
  intro w hw
  have h1 := h w hw
  have h2 := (List.mem_filter.mp hw).2
  cases w <;> first | (exact va_Nw.same rfl e h1) | (exact Bool.noConfusion h2)
def tyL (cA : Nat → ClassId) : List (ClassId × FieldType) := [(cA 0, .int), (cA 1, .byte), (cA 2, .long), (cA 3, .object "StripFlag$Cloth")]
def KX (D : va_G) (cA : Nat → ClassId) (U : State) : Prop := va_K D vwCl (tyL cA) U ∧ NWs U
theorem KX.warm {D : va_G} {cA : Nat → ClassId} {s U : State} (hW : s.WarmedH U.vm) (h : KX D cA s) : KX D cA U := ⟨va_K.moved hW.alike h.1, h.2.warm hW⟩
theorem va_D_len {A : Nat → Prop} {cA : Nat → ClassId} {ad : Nat → Nat} {hs hs' : List va_E} (hn : hs'.length = hs.length) (h : va_D A (tw cA ad hs)) : va_D A (tw cA ad hs') := by
  have key : ∀ (k : Nat) (q : Nat × va_E), (tw cA ad hs')[k]? = some q → q.1 = ad k ∧ ∃ q0, (tw cA ad hs)[k]? = some q0 ∧ q0.1 = ad k := by
    intro k q hk
    rw [tw_get] at hk
    have hlt : k < hs'.length := by
      rcases Nat.lt_or_ge k hs'.length with h | h
      · exact h
      · rw [List.getElem?_eq_none h] at hk; cases hk
    have hlt2 : k < hs.length := by omega
    refine ⟨?_, (ad k, te cA ad hs[k]), ?_, rfl⟩
    · rw [List.getElem?_eq_getElem hlt] at hk
      rw [← Option.some.inj hk]
    · rw [tw_get, List.getElem?_eq_getElem hlt2]; rfl
  refine ⟨fun i j p q hi hj e => ?_, fun k q hk => ?_⟩
  · obtain ⟨e1, p0, h1, f1⟩ := key i p hi
    obtain ⟨e2, q0, h2, f2⟩ := key j q hj
    exact h.1 i j p0 q0 h1 h2 (by rw [f1, f2, ← e1, ← e2, e])
  · obtain ⟨e1, p0, h1, f1⟩ := key k q hk
    have := h.2 k p0 h1
    rw [e1, ← f1]; exact this
theorem va_A_len {cA : Nat → ClassId} {ad : Nat → Nat} {hs hs' : List va_E} {sz : Nat} (hn : hs'.length = hs.length) : va_A (tw cA ad hs') sz = va_A (tw cA ad hs) sz := by
  have key : ∀ (h1 h2 : List va_E), h2.length = h1.length → ∀ q, va_A (tw cA ad h1) sz q → va_A (tw cA ad h2) sz q := by
    intro h1 h2 hn q hq
    rcases hq with ⟨k, e, hk⟩ | hq
    · rw [tw_get] at hk
      have hlt : k < h1.length := by
        rcases Nat.lt_or_ge k h1.length with h | h
        · exact h
        · rw [List.getElem?_eq_none h] at hk; cases hk
      rw [List.getElem?_eq_getElem hlt] at hk
      have hlt2 : k < h2.length := by omega
      have e1 : ad k = q := congrArg Prod.fst (Option.some.inj hk)
      exact Or.inl ⟨k, te cA ad h2[k], by rw [tw_get, List.getElem?_eq_getElem hlt2, ← e1]; rfl⟩
    · exact Or.inr hq
  funext q
  exact propext ⟨key hs' hs hn.symm q, key hs hs' hn q⟩
/-- the point of a walk: from here the machine comes to its end -/
def Go (p : Program) (l : Launch) (e : Env) (R : Room) (s : State) (m : MethodId) (args : Array Value) (below : List Frame) (meth : Method) (c : Code) (D : va_G) (cA : Nat → ClassId) (ad : Nat → Nat) (A0 : Nat → Prop) (H0 : Heap) (nL N ck sk : Nat) (Q : State → Prop) : AK :=
  fun pc ls st hs => hs.length = N → ∀ (H : Heap) (locs : List Loc) (lsC : Array Slot), va_P D vwCl (tw cA ad hs) H → va_S A0 H0 H locs → lv_has lsC nL (tl ad ls) → W p l e R s m args below meth c H locs ck sk Q (F0 m pc lsC (st.map (tv ad)))
/-! the String constants: the i-th at place 1000 + i, its bytes at 2000 + i; the formatter of out-of-bounds texts at 3000 -/
def sxLen : List Nat := [7, 5, 4, 4, 5]
def sxByt : List (List Int32) := [[99, 111, 108, 111, 117, 114, 115], [115, 116, 114, 105, 112], [112, 111, 108, 101], [115, 101, 97, 109], [99, 111, 117, 108, 100]]
def sxIdx : List Nat := [109, 114, 116, 118, 120]
def sxTxt : List String := ["colours", "strip", "pole", "seam", "could"]
def SX (ad : Nat → Nat) (A : Nat → Prop) (U : State) (H : Heap) : Prop :=
  vk_S 5 sxLen sxByt (fun i => ad (1000 + i)) (fun i => ad (2000 + i)) A U H ∧ (∀ i, i < 5 → vk_R "StripFlag$Text" (sxIdx.getD i 0) (sxTxt.getD i "") (ad (1000 + i)) U) ∧ va_Z "java/lang/String" "COMPACT_STRINGS" "Z" (.int 1) A U H ∧ (va_Z "jdk/internal/util/Preconditions" "SIOOBE_FORMATTER" "Ljava/util/function/BiFunction;" .null A U H ∨ va_Z "jdk/internal/util/Preconditions" "SIOOBE_FORMATTER" "Ljava/util/function/BiFunction;" (.ref (ad 3000)) A U H)
theorem SX.kept {ad : Nat → Nat} {A : Nat → Prop} {U : State} {H H1 : Heap} (h : SX ad A U H) (hq : ∀ a : Nat, a < H.size → ¬ A a → H1[a]? = H[a]?) : SX ad A U H1 :=
  ⟨h.1.kept hq, h.2.1, h.2.2.1.kept hq, h.2.2.2.elim (fun z => Or.inl (z.kept hq)) (fun z => Or.inr (z.kept hq))⟩
theorem SX.narrow {ad : Nat → Nat} {A B : Nat → Prop} {U : State} {H : Heap} (h : SX ad A U H) (hAB : ∀ q, B q → A q) : SX ad B U H :=
  ⟨h.1.narrow hAB, h.2.1, h.2.2.1.narrow hAB, h.2.2.2.elim (fun z => Or.inl (z.narrow hAB)) (fun z => Or.inr (z.narrow hAB))⟩
theorem SX.warm {ad : Nat → Nat} {A : Nat → Prop} {s U : State} {H : Heap} (hW : s.WarmedH U.vm) (h : SX ad A s H) : SX ad A U H :=
  ⟨h.1.moved hW.alike, fun i hi => (h.2.1 i hi).warm hW, h.2.2.1.moved hW.alike, h.2.2.2.elim (fun z => Or.inl (z.moved hW.alike)) (fun z => Or.inr (z.moved hW.alike))⟩
theorem SX.same {ad : Nat → Nat} {A : Nat → Prop} {u U : State} {H : Heap} (hv : U.vm = u.vm) (h : SX ad A u H) : SX ad A U H := by
  have ha : u.vm.Alike U.vm := by rw [hv]; exact Vm.Alike.refl u.vm
  exact ⟨h.1.moved ha, fun i hi => (h.2.1 i hi).same hv, h.2.2.1.moved ha, h.2.2.2.elim (fun z => Or.inl (z.moved ha)) (fun z => Or.inr (z.moved ha))⟩
theorem SX.ren {ad ad2 : Nat → Nat} {A : Nat → Prop} {U : State} {H : Heap} (he : ∀ j, 1000 ≤ j → ad2 j = ad j) (h : SX ad A U H) : SX ad2 A U H := by
  have e1 : (fun i => ad2 (1000 + i)) = fun i => ad (1000 + i) := funext (fun i => he _ (by omega))
  have e2 : (fun i => ad2 (2000 + i)) = fun i => ad (2000 + i) := funext (fun i => he _ (by omega))
  unfold SX
  rw [e1, e2, he 3000 (by omega)]
  refine ⟨h.1, fun i hi => ?_, h.2.2⟩
  rw [he (1000 + i) (by omega)]
  exact h.2.1 i hi
def GC (p : Program) (R : Room) (s : State) (m : MethodId) (args : Array Value) (c : Code) (D : va_G) (cA : Nat → ClassId) (ad : Nat → Nat) (A0 : Nat → Prop) (H0 : Heap) (nL N ck sk : Nat) (cc : ByteArray) (own : String) : Prop :=
  p.tables.exec = Jvm.exec ∧ c.code = cc ∧ c.maxLocals = nL ∧ s.vm.findClass own = some m.cls ∧ (∀ w ∈ GW, w.before args s = true) ∧ KX D cA s ∧ (∀ hs : List va_E, hs.length = N → va_D A0 (tw cA ad hs)) ∧ (∀ q, H0.size ≤ q → A0 q) ∧ ((ck ≤ R.cells ∧ sk ≤ R.slots) ∧ SX ad A0 s H0)
def Cl (l : Launch) (cc : ByteArray) (own : String) (nL : Nat) (R : Room) (K : AK) : Prop :=
  ∃ (p : Program) (e : Env) (s : State) (m : MethodId) (args : Array Value) (below : List Frame) (meth : Method) (c : Code) (D : va_G) (cA : Nat → ClassId) (ad : Nat → Nat) (A0 : Nat → Prop) (H0 : Heap) (N ck sk : Nat) (Q : State → Prop),
    GC p R s m args c D cA ad A0 H0 nL N ck sk cc own ∧ K = Go p l e R s m args below meth c D cA ad A0 H0 nL N ck sk Q
section CLR
variable {l : Launch} {cc : ByteArray} {own : String} {nL : Nat} {R : Room} {K : AK} {pc : Nat} {ls : AL} {st : List Value} {hs : List va_E}

theorem Cl.iconst (h : Cl l cc own nL R K) {n : Int} {v : Int32} (hd : decode cc pc = .ok (.iconst n, 1)) (hv : Int32.ofInt n = v) (k : K (pc + 1) ls (.int v :: st) hs) : K pc ls st hs := by
  obtain ⟨p, e, s, m, args, below, meth, c, D, cA, ad, A0, H0, N, ck, sk, Q, ⟨hx, hb, hml, hown, hts, hKX, hD0, hA0, hcs⟩, rfl⟩ := h
  intro hn H locs lsC hP hS hl
  exact lv_iconst hx hb hd hv (k hn H locs lsC hP hS hl)
theorem Cl.bipush (h : Cl l cc own nL R K) {n : Int} {v : Int32} (hd : decode cc pc = .ok (.bipush n, 2)) (hv : (Int8.ofInt n).toInt32 = v) (k : K (pc + 2) ls (.int v :: st) hs) : K pc ls st hs := by
  obtain ⟨p, e, s, m, args, below, meth, c, D, cA, ad, A0, H0, N, ck, sk, Q, ⟨hx, hb, hml, hown, hts, hKX, hD0, hA0, hcs⟩, rfl⟩ := h
  intro hn H locs lsC hP hS hl
  exact lv_bipush hx hb hd hv (k hn H locs lsC hP hS hl)
theorem Cl.sipush (h : Cl l cc own nL R K) {n : Int} {v : Int32} (hd : decode cc pc = .ok (.sipush n, 3)) (hv : (Int16.ofInt n).toInt32 = v) (k : K (pc + 3) ls (.int v :: st) hs) : K pc ls st hs := by
  obtain ⟨p, e, s, m, args, below, meth, c, D, cA, ad, A0, H0, N, ck, sk, Q, ⟨hx, hb, hml, hown, hts, hKX, hD0, hA0, hcs⟩, rfl⟩ := h
  intro hn H locs lsC hP hS hl
  exact lv_sipush hx hb hd hv (k hn H locs lsC hP hS hl)
theorem Cl.lconst (h : Cl l cc own nL R K) {n : Fin 2} {v : Int64} (hd : decode cc pc = .ok (.lconst n, 1)) (hv : Int64.ofNat (n : Nat) = v) (k : K (pc + 1) ls (.long v :: st) hs) : K pc ls st hs := by
  obtain ⟨p, e, s, m, args, below, meth, c, D, cA, ad, A0, H0, N, ck, sk, Q, ⟨hx, hb, hml, hown, hts, hKX, hD0, hA0, hcs⟩, rfl⟩ := h
  intro hn H locs lsC hP hS hl
  exact lv_lconst hx hb hd hv (k hn H locs lsC hP hS hl)
theorem Cl.ldc (h : Cl l cc own nL R K) {n : Nat} {v : Int32} (hd : decode cc pc = .ok (.ldc n, 2)) (hc : Cond.constant own n v ∈ GW) (k : K (pc + 2) ls (.int v :: st) hs) : K pc ls st hs := by
  obtain ⟨p, e, s, m, args, below, meth, c, D, cA, ad, A0, H0, N, ck, sk, Q, ⟨hx, hb, hml, hown, hts, hKX, hD0, hA0, hcs⟩, rfl⟩ := h
  intro hn H locs lsC hP hS hl
  exact lv_ldc hx hb hown (hts _ hc) hd (k hn H locs lsC hP hS hl)
theorem Cl.ldc_w (h : Cl l cc own nL R K) {n : Nat} {v : Int32} (hd : decode cc pc = .ok (.ldc_w n, 3)) (hc : Cond.constant own n v ∈ GW) (k : K (pc + 3) ls (.int v :: st) hs) : K pc ls st hs := by
  obtain ⟨p, e, s, m, args, below, meth, c, D, cA, ad, A0, H0, N, ck, sk, Q, ⟨hx, hb, hml, hown, hts, hKX, hD0, hA0, hcs⟩, rfl⟩ := h
  intro hn H locs lsC hP hS hl
  exact lv_ldcw hx hb hown (hts _ hc) hd (k hn H locs lsC hP hS hl)
theorem Cl.ldc2_w (h : Cl l cc own nL R K) {n : Nat} {v : Int64} (hd : decode cc pc = .ok (.ldc2_w n, 3)) (hc : Cond.constantLong own n v ∈ GW) (k : K (pc + 3) ls (.long v :: st) hs) : K pc ls st hs := by
  obtain ⟨p, e, s, m, args, below, meth, c, D, cA, ad, A0, H0, N, ck, sk, Q, ⟨hx, hb, hml, hown, hts, hKX, hD0, hA0, hcs⟩, rfl⟩ := h
  intro hn H locs lsC hP hS hl
  exact lv_ldc2 hx hb hown (hts _ hc) hd (k hn H locs lsC hP hS hl)
theorem Cl.iload (h : Cl l cc own nL R K) {i : Nat} {x : Int32} (hd : decode cc pc = .ok (.iload i, 2)) (hv : lk ls i = some (.int x)) (k : K (pc + 2) ls (.int x :: st) hs) : K pc ls st hs := by
  obtain ⟨p, e, s, m, args, below, meth, c, D, cA, ad, A0, H0, N, ck, sk, Q, ⟨hx, hb, hml, hown, hts, hKX, hD0, hA0, hcs⟩, rfl⟩ := h
  intro hn H locs lsC hP hS hl
  exact lv_iload hx hb hd (lk_at hl hv) (k hn H locs lsC hP hS hl)
theorem Cl.iload_n (h : Cl l cc own nL R K) {i : Fin 4} {x : Int32} (hd : decode cc pc = .ok (.iload_n i, 1)) (hv : lk ls i = some (.int x)) (k : K (pc + 1) ls (.int x :: st) hs) : K pc ls st hs := by
  obtain ⟨p, e, s, m, args, below, meth, c, D, cA, ad, A0, H0, N, ck, sk, Q, ⟨hx, hb, hml, hown, hts, hKX, hD0, hA0, hcs⟩, rfl⟩ := h
  intro hn H locs lsC hP hS hl
  exact lv_iload_n hx hb hd rfl (lk_at hl hv) (k hn H locs lsC hP hS hl)
theorem Cl.lload (h : Cl l cc own nL R K) {i : Nat} {x : Int64} (hd : decode cc pc = .ok (.lload i, 2)) (hv : lk ls i = some (.long x)) (k : K (pc + 2) ls (.long x :: st) hs) : K pc ls st hs := by
  obtain ⟨p, e, s, m, args, below, meth, c, D, cA, ad, A0, H0, N, ck, sk, Q, ⟨hx, hb, hml, hown, hts, hKX, hD0, hA0, hcs⟩, rfl⟩ := h
  intro hn H locs lsC hP hS hl
  exact lv_lload hx hb hd (lk_at hl hv) (k hn H locs lsC hP hS hl)
theorem Cl.lload_n (h : Cl l cc own nL R K) {i : Fin 4} {x : Int64} (hd : decode cc pc = .ok (.lload_n i, 1)) (hv : lk ls i = some (.long x)) (k : K (pc + 1) ls (.long x :: st) hs) : K pc ls st hs := by
  obtain ⟨p, e, s, m, args, below, meth, c, D, cA, ad, A0, H0, N, ck, sk, Q, ⟨hx, hb, hml, hown, hts, hKX, hD0, hA0, hcs⟩, rfl⟩ := h
  intro hn H locs lsC hP hS hl
  exact lv_lload_n hx hb hd rfl (lk_at hl hv) (k hn H locs lsC hP hS hl)
theorem Cl.aload (h : Cl l cc own nL R K) {i : Nat} {x : Nat} (hd : decode cc pc = .ok (.aload i, 2)) (hv : lk ls i = some (.ref x)) (k : K (pc + 2) ls (.ref x :: st) hs) : K pc ls st hs := by
  obtain ⟨p, e, s, m, args, below, meth, c, D, cA, ad, A0, H0, N, ck, sk, Q, ⟨hx, hb, hml, hown, hts, hKX, hD0, hA0, hcs⟩, rfl⟩ := h
  intro hn H locs lsC hP hS hl
  exact lv_aload hx hb hd (lk_at hl hv) (k hn H locs lsC hP hS hl)
theorem Cl.aload_n (h : Cl l cc own nL R K) {i : Fin 4} {x : Nat} (hd : decode cc pc = .ok (.aload_n i, 1)) (hv : lk ls i = some (.ref x)) (k : K (pc + 1) ls (.ref x :: st) hs) : K pc ls st hs := by
  obtain ⟨p, e, s, m, args, below, meth, c, D, cA, ad, A0, H0, N, ck, sk, Q, ⟨hx, hb, hml, hown, hts, hKX, hD0, hA0, hcs⟩, rfl⟩ := h
  intro hn H locs lsC hP hS hl
  exact lv_aload_n hx hb hd rfl (lk_at hl hv) (k hn H locs lsC hP hS hl)
theorem Cl.istore (h : Cl l cc own nL R K) {i : Nat} {x : Int32} (hd : decode cc pc = .ok (.istore i, 2)) (hi : i < nL) (k : K (pc + 2) (st1 i (.int x) ls) st hs) : K pc ls (.int x :: st) hs := by
  obtain ⟨p, e, s, m, args, below, meth, c, D, cA, ad, A0, H0, N, ck, sk, Q, ⟨hx, hb, hml, hown, hts, hKX, hD0, hA0, hcs⟩, rfl⟩ := h
  intro hn H locs lsC hP hS hl
  exact lv_istore hx hb hd hl hi (st1_tl ad i (.int x) _ rfl ls) (fun ls2 hl2 => k hn H locs ls2 hP hS hl2)
theorem Cl.istore_n (h : Cl l cc own nL R K) {i : Fin 4} {x : Int32} (hd : decode cc pc = .ok (.istore_n i, 1)) (hi : (i : Nat) < nL) (k : K (pc + 1) (st1 (i : Nat) (.int x) ls) st hs) : K pc ls (.int x :: st) hs := by
  obtain ⟨p, e, s, m, args, below, meth, c, D, cA, ad, A0, H0, N, ck, sk, Q, ⟨hx, hb, hml, hown, hts, hKX, hD0, hA0, hcs⟩, rfl⟩ := h
  intro hn H locs lsC hP hS hl
  exact lv_istore_n hx hb hd rfl hl hi (st1_tl ad (i : Nat) (.int x) _ rfl ls) (fun ls2 hl2 => k hn H locs ls2 hP hS hl2)
theorem Cl.lstore (h : Cl l cc own nL R K) {i : Nat} {x : Int64} (hd : decode cc pc = .ok (.lstore i, 2)) (hi : i + 1 < nL) (k : K (pc + 2) (st2 i (.long x) ls) st hs) : K pc ls (.long x :: st) hs := by
  obtain ⟨p, e, s, m, args, below, meth, c, D, cA, ad, A0, H0, N, ck, sk, Q, ⟨hx, hb, hml, hown, hts, hKX, hD0, hA0, hcs⟩, rfl⟩ := h
  intro hn H locs lsC hP hS hl
  exact lv_lstore hx hb hd hl hi (st2_tl ad i (.long x) _ rfl ls) (fun ls2 hl2 => k hn H locs ls2 hP hS hl2)
theorem Cl.lstore_n (h : Cl l cc own nL R K) {i : Fin 4} {x : Int64} (hd : decode cc pc = .ok (.lstore_n i, 1)) (hi : (i : Nat) + 1 < nL) (k : K (pc + 1) (st2 (i : Nat) (.long x) ls) st hs) : K pc ls (.long x :: st) hs := by
  obtain ⟨p, e, s, m, args, below, meth, c, D, cA, ad, A0, H0, N, ck, sk, Q, ⟨hx, hb, hml, hown, hts, hKX, hD0, hA0, hcs⟩, rfl⟩ := h
  intro hn H locs lsC hP hS hl
  exact lv_lstore_n hx hb hd rfl hl hi (st2_tl ad (i : Nat) (.long x) _ rfl ls) (fun ls2 hl2 => k hn H locs ls2 hP hS hl2)
theorem Cl.astore (h : Cl l cc own nL R K) {i : Nat} {x : Nat} (hd : decode cc pc = .ok (.astore i, 2)) (hi : i < nL) (k : K (pc + 2) (st1 i (.ref x) ls) st hs) : K pc ls (.ref x :: st) hs := by
  obtain ⟨p, e, s, m, args, below, meth, c, D, cA, ad, A0, H0, N, ck, sk, Q, ⟨hx, hb, hml, hown, hts, hKX, hD0, hA0, hcs⟩, rfl⟩ := h
  intro hn H locs lsC hP hS hl
  exact lv_astore hx hb hd hl hi (st1_tl ad i (.ref x) _ rfl ls) (fun ls2 hl2 => k hn H locs ls2 hP hS hl2)
theorem Cl.astore_n (h : Cl l cc own nL R K) {i : Fin 4} {x : Nat} (hd : decode cc pc = .ok (.astore_n i, 1)) (hi : (i : Nat) < nL) (k : K (pc + 1) (st1 (i : Nat) (.ref x) ls) st hs) : K pc ls (.ref x :: st) hs := by
  obtain ⟨p, e, s, m, args, below, meth, c, D, cA, ad, A0, H0, N, ck, sk, Q, ⟨hx, hb, hml, hown, hts, hKX, hD0, hA0, hcs⟩, rfl⟩ := h
  intro hn H locs lsC hP hS hl
  exact lv_astore_n hx hb hd rfl hl hi (st1_tl ad (i : Nat) (.ref x) _ rfl ls) (fun ls2 hl2 => k hn H locs ls2 hP hS hl2)
theorem Cl.iinc (h : Cl l cc own nL R K) {i : Nat} {n : Int} {x v : Int32} (hd : decode cc pc = .ok (.iinc i n, 3)) (hv : lk ls i = some (.int x)) (he : x + Int32.ofInt n = v) (hi : i < nL) (k : K (pc + 3) (st1 i (.int v) ls) st hs) : K pc ls st hs := by
  obtain ⟨p, e, s, m, args, below, meth, c, D, cA, ad, A0, H0, N, ck, sk, Q, ⟨hx, hb, hml, hown, hts, hKX, hD0, hA0, hcs⟩, rfl⟩ := h
  intro hn H locs lsC hP hS hl
  have hl2 : lv_has lsC nL ((i, .int x) :: tl ad ls) := ⟨hl.1, hl.2.1, fun q hq => by
    rcases List.mem_cons.mp hq with rfl | hq
    · exact lk_at hl hv
    · exact hl.2.2 q hq⟩
  exact lv_iinc (k := 0) hx hb hd hl2 rfl he hi (st1c_tl ad i (.int x) (.int v) _ rfl ls) (fun ls2 hl2 => k hn H locs ls2 hP hS hl2)
theorem Cl.iadd (h : Cl l cc own nL R K) {x y : Int32} (hd : decode cc pc = .ok (.iadd, 1)) (k : K (pc + 1) ls (.int (x + y) :: st) hs) : K pc ls (.int y :: .int x :: st) hs := by
  obtain ⟨p, e, s, m, args, below, meth, c, D, cA, ad, A0, H0, N, ck, sk, Q, ⟨hx, hb, hml, hown, hts, hKX, hD0, hA0, hcs⟩, rfl⟩ := h
  intro hn H locs lsC hP hS hl
  exact lv_iadd hx hb hd (k hn H locs lsC hP hS hl)
theorem Cl.isub (h : Cl l cc own nL R K) {x y : Int32} (hd : decode cc pc = .ok (.isub, 1)) (k : K (pc + 1) ls (.int (x - y) :: st) hs) : K pc ls (.int y :: .int x :: st) hs := by
  obtain ⟨p, e, s, m, args, below, meth, c, D, cA, ad, A0, H0, N, ck, sk, Q, ⟨hx, hb, hml, hown, hts, hKX, hD0, hA0, hcs⟩, rfl⟩ := h
  intro hn H locs lsC hP hS hl
  exact lv_isub hx hb hd (k hn H locs lsC hP hS hl)
theorem Cl.imul (h : Cl l cc own nL R K) {x y : Int32} (hd : decode cc pc = .ok (.imul, 1)) (k : K (pc + 1) ls (.int (x * y) :: st) hs) : K pc ls (.int y :: .int x :: st) hs := by
  obtain ⟨p, e, s, m, args, below, meth, c, D, cA, ad, A0, H0, N, ck, sk, Q, ⟨hx, hb, hml, hown, hts, hKX, hD0, hA0, hcs⟩, rfl⟩ := h
  intro hn H locs lsC hP hS hl
  exact lv_imul hx hb hd (k hn H locs lsC hP hS hl)
theorem Cl.iand (h : Cl l cc own nL R K) {x y : Int32} (hd : decode cc pc = .ok (.iand, 1)) (k : K (pc + 1) ls (.int (x &&& y) :: st) hs) : K pc ls (.int y :: .int x :: st) hs := by
  obtain ⟨p, e, s, m, args, below, meth, c, D, cA, ad, A0, H0, N, ck, sk, Q, ⟨hx, hb, hml, hown, hts, hKX, hD0, hA0, hcs⟩, rfl⟩ := h
  intro hn H locs lsC hP hS hl
  exact lv_iand hx hb hd (k hn H locs lsC hP hS hl)
theorem Cl.ior (h : Cl l cc own nL R K) {x y : Int32} (hd : decode cc pc = .ok (.ior, 1)) (k : K (pc + 1) ls (.int (x ||| y) :: st) hs) : K pc ls (.int y :: .int x :: st) hs := by
  obtain ⟨p, e, s, m, args, below, meth, c, D, cA, ad, A0, H0, N, ck, sk, Q, ⟨hx, hb, hml, hown, hts, hKX, hD0, hA0, hcs⟩, rfl⟩ := h
  intro hn H locs lsC hP hS hl
  exact lv_ior hx hb hd (k hn H locs lsC hP hS hl)
theorem Cl.ixor (h : Cl l cc own nL R K) {x y : Int32} (hd : decode cc pc = .ok (.ixor, 1)) (k : K (pc + 1) ls (.int (x ^^^ y) :: st) hs) : K pc ls (.int y :: .int x :: st) hs := by
  obtain ⟨p, e, s, m, args, below, meth, c, D, cA, ad, A0, H0, N, ck, sk, Q, ⟨hx, hb, hml, hown, hts, hKX, hD0, hA0, hcs⟩, rfl⟩ := h
  intro hn H locs lsC hP hS hl
  exact lv_ixor hx hb hd (k hn H locs lsC hP hS hl)
theorem Cl.ishl (h : Cl l cc own nL R K) {x y : Int32} (hd : decode cc pc = .ok (.ishl, 1)) (k : K (pc + 1) ls (.int (x <<< (y &&& 31)) :: st) hs) : K pc ls (.int y :: .int x :: st) hs := by
  obtain ⟨p, e, s, m, args, below, meth, c, D, cA, ad, A0, H0, N, ck, sk, Q, ⟨hx, hb, hml, hown, hts, hKX, hD0, hA0, hcs⟩, rfl⟩ := h
  intro hn H locs lsC hP hS hl
  exact lv_ishl hx hb hd (k hn H locs lsC hP hS hl)
theorem Cl.ishr (h : Cl l cc own nL R K) {x y : Int32} (hd : decode cc pc = .ok (.ishr, 1)) (k : K (pc + 1) ls (.int (x >>> (y &&& 31)) :: st) hs) : K pc ls (.int y :: .int x :: st) hs := by
  obtain ⟨p, e, s, m, args, below, meth, c, D, cA, ad, A0, H0, N, ck, sk, Q, ⟨hx, hb, hml, hown, hts, hKX, hD0, hA0, hcs⟩, rfl⟩ := h
  intro hn H locs lsC hP hS hl
  exact lv_ishr hx hb hd (k hn H locs lsC hP hS hl)
theorem Cl.iushr (h : Cl l cc own nL R K) {x y : Int32} (hd : decode cc pc = .ok (.iushr, 1)) (k : K (pc + 1) ls (.int ((x.toUInt32 >>> (y.toUInt32 &&& Int32.toUInt32 31)).toInt32) :: st) hs) : K pc ls (.int y :: .int x :: st) hs := by
  obtain ⟨p, e, s, m, args, below, meth, c, D, cA, ad, A0, H0, N, ck, sk, Q, ⟨hx, hb, hml, hown, hts, hKX, hD0, hA0, hcs⟩, rfl⟩ := h
  intro hn H locs lsC hP hS hl
  exact lv_iushr hx hb hd rfl (k hn H locs lsC hP hS hl)
theorem Cl.ineg (h : Cl l cc own nL R K) {x : Int32} (hd : decode cc pc = .ok (.ineg, 1)) (k : K (pc + 1) ls (.int (-x) :: st) hs) : K pc ls (.int x :: st) hs := by
  obtain ⟨p, e, s, m, args, below, meth, c, D, cA, ad, A0, H0, N, ck, sk, Q, ⟨hx, hb, hml, hown, hts, hKX, hD0, hA0, hcs⟩, rfl⟩ := h
  intro hn H locs lsC hP hS hl
  exact lv_ineg hx hb hd (k hn H locs lsC hP hS hl)
theorem Cl.idiv (h : Cl l cc own nL R K) {x y : Int32} (hd : decode cc pc = .ok (.idiv, 1)) (hne : ¬ y = 0) (k : K (pc + 1) ls (.int (x / y) :: st) hs) : K pc ls (.int y :: .int x :: st) hs := by
  obtain ⟨p, e, s, m, args, below, meth, c, D, cA, ad, A0, H0, N, ck, sk, Q, ⟨hx, hb, hml, hown, hts, hKX, hD0, hA0, hcs⟩, rfl⟩ := h
  intro hn H locs lsC hP hS hl
  exact lv_idiv hx hb hd hne (k hn H locs lsC hP hS hl)
theorem Cl.irem (h : Cl l cc own nL R K) {x y : Int32} (hd : decode cc pc = .ok (.irem, 1)) (hne : ¬ y = 0) (k : K (pc + 1) ls (.int (x - x / y * y) :: st) hs) : K pc ls (.int y :: .int x :: st) hs := by
  obtain ⟨p, e, s, m, args, below, meth, c, D, cA, ad, A0, H0, N, ck, sk, Q, ⟨hx, hb, hml, hown, hts, hKX, hD0, hA0, hcs⟩, rfl⟩ := h
  intro hn H locs lsC hP hS hl
  exact lv_irem hx hb hd hne (k hn H locs lsC hP hS hl)
theorem Cl.ladd (h : Cl l cc own nL R K) {x y : Int64} (hd : decode cc pc = .ok (.ladd, 1)) (k : K (pc + 1) ls (.long (x + y) :: st) hs) : K pc ls (.long y :: .long x :: st) hs := by
  obtain ⟨p, e, s, m, args, below, meth, c, D, cA, ad, A0, H0, N, ck, sk, Q, ⟨hx, hb, hml, hown, hts, hKX, hD0, hA0, hcs⟩, rfl⟩ := h
  intro hn H locs lsC hP hS hl
  exact lv_ladd hx hb hd (k hn H locs lsC hP hS hl)
theorem Cl.lsub (h : Cl l cc own nL R K) {x y : Int64} (hd : decode cc pc = .ok (.lsub, 1)) (k : K (pc + 1) ls (.long (x - y) :: st) hs) : K pc ls (.long y :: .long x :: st) hs := by
  obtain ⟨p, e, s, m, args, below, meth, c, D, cA, ad, A0, H0, N, ck, sk, Q, ⟨hx, hb, hml, hown, hts, hKX, hD0, hA0, hcs⟩, rfl⟩ := h
  intro hn H locs lsC hP hS hl
  exact lv_lsub hx hb hd (k hn H locs lsC hP hS hl)
theorem Cl.lmul (h : Cl l cc own nL R K) {x y : Int64} (hd : decode cc pc = .ok (.lmul, 1)) (k : K (pc + 1) ls (.long (x * y) :: st) hs) : K pc ls (.long y :: .long x :: st) hs := by
  obtain ⟨p, e, s, m, args, below, meth, c, D, cA, ad, A0, H0, N, ck, sk, Q, ⟨hx, hb, hml, hown, hts, hKX, hD0, hA0, hcs⟩, rfl⟩ := h
  intro hn H locs lsC hP hS hl
  exact lv_lmul hx hb hd (k hn H locs lsC hP hS hl)
theorem Cl.land (h : Cl l cc own nL R K) {x y : Int64} (hd : decode cc pc = .ok (.land, 1)) (k : K (pc + 1) ls (.long (x &&& y) :: st) hs) : K pc ls (.long y :: .long x :: st) hs := by
  obtain ⟨p, e, s, m, args, below, meth, c, D, cA, ad, A0, H0, N, ck, sk, Q, ⟨hx, hb, hml, hown, hts, hKX, hD0, hA0, hcs⟩, rfl⟩ := h
  intro hn H locs lsC hP hS hl
  exact lv_land hx hb hd (k hn H locs lsC hP hS hl)
theorem Cl.lor (h : Cl l cc own nL R K) {x y : Int64} (hd : decode cc pc = .ok (.lor, 1)) (k : K (pc + 1) ls (.long (x ||| y) :: st) hs) : K pc ls (.long y :: .long x :: st) hs := by
  obtain ⟨p, e, s, m, args, below, meth, c, D, cA, ad, A0, H0, N, ck, sk, Q, ⟨hx, hb, hml, hown, hts, hKX, hD0, hA0, hcs⟩, rfl⟩ := h
  intro hn H locs lsC hP hS hl
  exact lv_lor hx hb hd (k hn H locs lsC hP hS hl)
theorem Cl.ldiv (h : Cl l cc own nL R K) {x y : Int64} (hd : decode cc pc = .ok (.ldiv, 1)) (hne : ¬ y = 0) (k : K (pc + 1) ls (.long (x / y) :: st) hs) : K pc ls (.long y :: .long x :: st) hs := by
  obtain ⟨p, e, s, m, args, below, meth, c, D, cA, ad, A0, H0, N, ck, sk, Q, ⟨hx, hb, hml, hown, hts, hKX, hD0, hA0, hcs⟩, rfl⟩ := h
  intro hn H locs lsC hP hS hl
  exact lv_ldiv hx hb hd hne (k hn H locs lsC hP hS hl)
theorem Cl.lshl (h : Cl l cc own nL R K) {x : Int64} {y : Int32} (hd : decode cc pc = .ok (.lshl, 1)) (k : K (pc + 1) ls (.long (x <<< (y.toInt64 &&& 63)) :: st) hs) : K pc ls (.int y :: .long x :: st) hs := by
  obtain ⟨p, e, s, m, args, below, meth, c, D, cA, ad, A0, H0, N, ck, sk, Q, ⟨hx, hb, hml, hown, hts, hKX, hD0, hA0, hcs⟩, rfl⟩ := h
  intro hn H locs lsC hP hS hl
  exact lv_lshl hx hb hd rfl (k hn H locs lsC hP hS hl)
theorem Cl.lshr (h : Cl l cc own nL R K) {x : Int64} {y : Int32} (hd : decode cc pc = .ok (.lshr, 1)) (k : K (pc + 1) ls (.long (x >>> (y.toInt64 &&& 63)) :: st) hs) : K pc ls (.int y :: .long x :: st) hs := by
  obtain ⟨p, e, s, m, args, below, meth, c, D, cA, ad, A0, H0, N, ck, sk, Q, ⟨hx, hb, hml, hown, hts, hKX, hD0, hA0, hcs⟩, rfl⟩ := h
  intro hn H locs lsC hP hS hl
  exact lv_lshr hx hb hd rfl (k hn H locs lsC hP hS hl)
theorem Cl.lcmp (h : Cl l cc own nL R K) {x y : Int64} (hd : decode cc pc = .ok (.lcmp, 1)) (k : K (pc + 1) ls (.int (lg_cmp x y) :: st) hs) : K pc ls (.long y :: .long x :: st) hs := by
  obtain ⟨p, e, s, m, args, below, meth, c, D, cA, ad, A0, H0, N, ck, sk, Q, ⟨hx, hb, hml, hown, hts, hKX, hD0, hA0, hcs⟩, rfl⟩ := h
  intro hn H locs lsC hP hS hl
  exact W.lcmp hx hb hd (k hn H locs lsC hP hS hl)
theorem Cl.i2l (h : Cl l cc own nL R K) {x : Int32} (hd : decode cc pc = .ok (.i2l, 1)) (k : K (pc + 1) ls (.long (x.toInt64) :: st) hs) : K pc ls (.int x :: st) hs := by
  obtain ⟨p, e, s, m, args, below, meth, c, D, cA, ad, A0, H0, N, ck, sk, Q, ⟨hx, hb, hml, hown, hts, hKX, hD0, hA0, hcs⟩, rfl⟩ := h
  intro hn H locs lsC hP hS hl
  exact lv_i2l hx hb hd rfl (k hn H locs lsC hP hS hl)
theorem Cl.l2i (h : Cl l cc own nL R K) {x : Int64} (hd : decode cc pc = .ok (.l2i, 1)) (k : K (pc + 1) ls (.int (x.toInt32) :: st) hs) : K pc ls (.long x :: st) hs := by
  obtain ⟨p, e, s, m, args, below, meth, c, D, cA, ad, A0, H0, N, ck, sk, Q, ⟨hx, hb, hml, hown, hts, hKX, hD0, hA0, hcs⟩, rfl⟩ := h
  intro hn H locs lsC hP hS hl
  exact lv_l2i hx hb hd rfl (k hn H locs lsC hP hS hl)
theorem Cl.i2b (h : Cl l cc own nL R K) {x : Int32} (hd : decode cc pc = .ok (.i2b, 1)) (k : K (pc + 1) ls (.int (x.toInt8.toInt32) :: st) hs) : K pc ls (.int x :: st) hs := by
  obtain ⟨p, e, s, m, args, below, meth, c, D, cA, ad, A0, H0, N, ck, sk, Q, ⟨hx, hb, hml, hown, hts, hKX, hD0, hA0, hcs⟩, rfl⟩ := h
  intro hn H locs lsC hP hS hl
  exact lv_i2b hx hb hd rfl (k hn H locs lsC hP hS hl)
theorem Cl.i2c (h : Cl l cc own nL R K) {x : Int32} (hd : decode cc pc = .ok (.i2c, 1)) (k : K (pc + 1) ls (.int ((x.toUInt32 % 65536).toInt32) :: st) hs) : K pc ls (.int x :: st) hs := by
  obtain ⟨p, e, s, m, args, below, meth, c, D, cA, ad, A0, H0, N, ck, sk, Q, ⟨hx, hb, hml, hown, hts, hKX, hD0, hA0, hcs⟩, rfl⟩ := h
  intro hn H locs lsC hP hS hl
  exact lv_i2c hx hb hd rfl (k hn H locs lsC hP hS hl)
theorem Cl.dup (h : Cl l cc own nL R K) {v : Value} (hd : decode cc pc = .ok (.dup, 1)) (hv : v.category = 1) (k : K (pc + 1) ls (v :: v :: st) hs) : K pc ls (v :: st) hs := by
  obtain ⟨p, e, s, m, args, below, meth, c, D, cA, ad, A0, H0, N, ck, sk, Q, ⟨hx, hb, hml, hown, hts, hKX, hD0, hA0, hcs⟩, rfl⟩ := h
  intro hn H locs lsC hP hS hl
  exact lv_dup hx hb hd ((tv_cat ad v).trans hv) (k hn H locs lsC hP hS hl)
theorem Cl.dup2 (h : Cl l cc own nL R K) {u v : Value} (hd : decode cc pc = .ok (.dup2, 1)) (hu : u.category = 1) (hv : v.category = 1) (k : K (pc + 1) ls (u :: v :: u :: v :: st) hs) : K pc ls (u :: v :: st) hs := by
  obtain ⟨p, e, s, m, args, below, meth, c, D, cA, ad, A0, H0, N, ck, sk, Q, ⟨hx, hb, hml, hown, hts, hKX, hD0, hA0, hcs⟩, rfl⟩ := h
  intro hn H locs lsC hP hS hl
  exact lv_dup2_11 hx hb hd ((tv_cat ad u).trans hu) ((tv_cat ad v).trans hv) (k hn H locs lsC hP hS hl)
theorem Cl.pop (h : Cl l cc own nL R K) {v : Value} (hd : decode cc pc = .ok (.pop, 1)) (hv : v.category = 1) (k : K (pc + 1) ls st hs) : K pc ls (v :: st) hs := by
  obtain ⟨p, e, s, m, args, below, meth, c, D, cA, ad, A0, H0, N, ck, sk, Q, ⟨hx, hb, hml, hown, hts, hKX, hD0, hA0, hcs⟩, rfl⟩ := h
  intro hn H locs lsC hP hS hl
  exact lv_pop hx hb hd ((tv_cat ad v).trans hv) (k hn H locs lsC hP hS hl)
theorem Cl.goto (h : Cl l cc own nL R K) {off : Int} {tgt : Nat} (hd : decode cc pc = .ok (.goto off, 3)) (ht : (pc : Int) + off = (tgt : Int)) (k : K tgt ls st hs) : K pc ls st hs := by
  obtain ⟨p, e, s, m, args, below, meth, c, D, cA, ad, A0, H0, N, ck, sk, Q, ⟨hx, hb, hml, hown, hts, hKX, hD0, hA0, hcs⟩, rfl⟩ := h
  intro hn H locs lsC hP hS hl
  exact lv_goto hx hb hd ht (k hn H locs lsC hP hS hl)
theorem Cl.if_eq (h : Cl l cc own nL R K) {x : Int32} {off : Int} {tgt : Nat} (hd : decode cc pc = .ok (.ifCond .eq off, 3)) (ht : (pc : Int) + off = (tgt : Int)) (kt : x = 0 → K tgt ls st hs) (kf : ¬ x = 0 → K (pc + 3) ls st hs) : K pc ls (.int x :: st) hs := by
  obtain ⟨p, e, s, m, args, below, meth, c, D, cA, ad, A0, H0, N, ck, sk, Q, ⟨hx, hb, hml, hown, hts, hKX, hD0, hA0, hcs⟩, rfl⟩ := h
  intro hn H locs lsC hP hS hl
  exact lv_if_eq hx hb hd ht (fun q => kt q hn H locs lsC hP hS hl) (fun q => kf q hn H locs lsC hP hS hl)
theorem Cl.icmp_eq (h : Cl l cc own nL R K) {x y : Int32} {off : Int} {tgt : Nat} (hd : decode cc pc = .ok (.if_icmp .eq off, 3)) (ht : (pc : Int) + off = (tgt : Int)) (kt : x = y → K tgt ls st hs) (kf : ¬ x = y → K (pc + 3) ls st hs) : K pc ls (.int y :: .int x :: st) hs := by
  obtain ⟨p, e, s, m, args, below, meth, c, D, cA, ad, A0, H0, N, ck, sk, Q, ⟨hx, hb, hml, hown, hts, hKX, hD0, hA0, hcs⟩, rfl⟩ := h
  intro hn H locs lsC hP hS hl
  exact lv_icmp_eq hx hb hd ht (fun q => kt q hn H locs lsC hP hS hl) (fun q => kf q hn H locs lsC hP hS hl)
theorem Cl.if_ne (h : Cl l cc own nL R K) {x : Int32} {off : Int} {tgt : Nat} (hd : decode cc pc = .ok (.ifCond .ne off, 3)) (ht : (pc : Int) + off = (tgt : Int)) (kt : ¬ x = 0 → K tgt ls st hs) (kf : x = 0 → K (pc + 3) ls st hs) : K pc ls (.int x :: st) hs := by
  obtain ⟨p, e, s, m, args, below, meth, c, D, cA, ad, A0, H0, N, ck, sk, Q, ⟨hx, hb, hml, hown, hts, hKX, hD0, hA0, hcs⟩, rfl⟩ := h
  intro hn H locs lsC hP hS hl
  exact lv_if_ne hx hb hd ht (fun q => kt q hn H locs lsC hP hS hl) (fun q => kf q hn H locs lsC hP hS hl)
theorem Cl.icmp_ne (h : Cl l cc own nL R K) {x y : Int32} {off : Int} {tgt : Nat} (hd : decode cc pc = .ok (.if_icmp .ne off, 3)) (ht : (pc : Int) + off = (tgt : Int)) (kt : ¬ x = y → K tgt ls st hs) (kf : x = y → K (pc + 3) ls st hs) : K pc ls (.int y :: .int x :: st) hs := by
  obtain ⟨p, e, s, m, args, below, meth, c, D, cA, ad, A0, H0, N, ck, sk, Q, ⟨hx, hb, hml, hown, hts, hKX, hD0, hA0, hcs⟩, rfl⟩ := h
  intro hn H locs lsC hP hS hl
  exact lv_icmp_ne hx hb hd ht (fun q => kt q hn H locs lsC hP hS hl) (fun q => kf q hn H locs lsC hP hS hl)
theorem Cl.if_lt (h : Cl l cc own nL R K) {x : Int32} {off : Int} {tgt : Nat} (hd : decode cc pc = .ok (.ifCond .lt off, 3)) (ht : (pc : Int) + off = (tgt : Int)) (kt : x < 0 → K tgt ls st hs) (kf : ¬ x < 0 → K (pc + 3) ls st hs) : K pc ls (.int x :: st) hs := by
  obtain ⟨p, e, s, m, args, below, meth, c, D, cA, ad, A0, H0, N, ck, sk, Q, ⟨hx, hb, hml, hown, hts, hKX, hD0, hA0, hcs⟩, rfl⟩ := h
  intro hn H locs lsC hP hS hl
  exact lv_if_lt hx hb hd ht (fun q => kt q hn H locs lsC hP hS hl) (fun q => kf q hn H locs lsC hP hS hl)
theorem Cl.icmp_lt (h : Cl l cc own nL R K) {x y : Int32} {off : Int} {tgt : Nat} (hd : decode cc pc = .ok (.if_icmp .lt off, 3)) (ht : (pc : Int) + off = (tgt : Int)) (kt : x < y → K tgt ls st hs) (kf : ¬ x < y → K (pc + 3) ls st hs) : K pc ls (.int y :: .int x :: st) hs := by
  obtain ⟨p, e, s, m, args, below, meth, c, D, cA, ad, A0, H0, N, ck, sk, Q, ⟨hx, hb, hml, hown, hts, hKX, hD0, hA0, hcs⟩, rfl⟩ := h
  intro hn H locs lsC hP hS hl
  exact lv_icmp_lt hx hb hd ht (fun q => kt q hn H locs lsC hP hS hl) (fun q => kf q hn H locs lsC hP hS hl)
theorem Cl.if_ge (h : Cl l cc own nL R K) {x : Int32} {off : Int} {tgt : Nat} (hd : decode cc pc = .ok (.ifCond .ge off, 3)) (ht : (pc : Int) + off = (tgt : Int)) (kt : 0 ≤ x → K tgt ls st hs) (kf : ¬ 0 ≤ x → K (pc + 3) ls st hs) : K pc ls (.int x :: st) hs := by
  obtain ⟨p, e, s, m, args, below, meth, c, D, cA, ad, A0, H0, N, ck, sk, Q, ⟨hx, hb, hml, hown, hts, hKX, hD0, hA0, hcs⟩, rfl⟩ := h
  intro hn H locs lsC hP hS hl
  exact lv_if_ge hx hb hd ht (fun q => kt q hn H locs lsC hP hS hl) (fun q => kf q hn H locs lsC hP hS hl)
theorem Cl.icmp_ge (h : Cl l cc own nL R K) {x y : Int32} {off : Int} {tgt : Nat} (hd : decode cc pc = .ok (.if_icmp .ge off, 3)) (ht : (pc : Int) + off = (tgt : Int)) (kt : y ≤ x → K tgt ls st hs) (kf : ¬ y ≤ x → K (pc + 3) ls st hs) : K pc ls (.int y :: .int x :: st) hs := by
  obtain ⟨p, e, s, m, args, below, meth, c, D, cA, ad, A0, H0, N, ck, sk, Q, ⟨hx, hb, hml, hown, hts, hKX, hD0, hA0, hcs⟩, rfl⟩ := h
  intro hn H locs lsC hP hS hl
  exact lv_icmp_ge hx hb hd ht (fun q => kt q hn H locs lsC hP hS hl) (fun q => kf q hn H locs lsC hP hS hl)
theorem Cl.if_gt (h : Cl l cc own nL R K) {x : Int32} {off : Int} {tgt : Nat} (hd : decode cc pc = .ok (.ifCond .gt off, 3)) (ht : (pc : Int) + off = (tgt : Int)) (kt : 0 < x → K tgt ls st hs) (kf : ¬ 0 < x → K (pc + 3) ls st hs) : K pc ls (.int x :: st) hs := by
  obtain ⟨p, e, s, m, args, below, meth, c, D, cA, ad, A0, H0, N, ck, sk, Q, ⟨hx, hb, hml, hown, hts, hKX, hD0, hA0, hcs⟩, rfl⟩ := h
  intro hn H locs lsC hP hS hl
  exact lv_if_gt hx hb hd ht (fun q => kt q hn H locs lsC hP hS hl) (fun q => kf q hn H locs lsC hP hS hl)
theorem Cl.icmp_gt (h : Cl l cc own nL R K) {x y : Int32} {off : Int} {tgt : Nat} (hd : decode cc pc = .ok (.if_icmp .gt off, 3)) (ht : (pc : Int) + off = (tgt : Int)) (kt : y < x → K tgt ls st hs) (kf : ¬ y < x → K (pc + 3) ls st hs) : K pc ls (.int y :: .int x :: st) hs := by
  obtain ⟨p, e, s, m, args, below, meth, c, D, cA, ad, A0, H0, N, ck, sk, Q, ⟨hx, hb, hml, hown, hts, hKX, hD0, hA0, hcs⟩, rfl⟩ := h
  intro hn H locs lsC hP hS hl
  exact lv_icmp_gt hx hb hd ht (fun q => kt q hn H locs lsC hP hS hl) (fun q => kf q hn H locs lsC hP hS hl)
theorem Cl.if_le (h : Cl l cc own nL R K) {x : Int32} {off : Int} {tgt : Nat} (hd : decode cc pc = .ok (.ifCond .le off, 3)) (ht : (pc : Int) + off = (tgt : Int)) (kt : x ≤ 0 → K tgt ls st hs) (kf : ¬ x ≤ 0 → K (pc + 3) ls st hs) : K pc ls (.int x :: st) hs := by
  obtain ⟨p, e, s, m, args, below, meth, c, D, cA, ad, A0, H0, N, ck, sk, Q, ⟨hx, hb, hml, hown, hts, hKX, hD0, hA0, hcs⟩, rfl⟩ := h
  intro hn H locs lsC hP hS hl
  exact lv_if_le hx hb hd ht (fun q => kt q hn H locs lsC hP hS hl) (fun q => kf q hn H locs lsC hP hS hl)
theorem Cl.icmp_le (h : Cl l cc own nL R K) {x y : Int32} {off : Int} {tgt : Nat} (hd : decode cc pc = .ok (.if_icmp .le off, 3)) (ht : (pc : Int) + off = (tgt : Int)) (kt : x ≤ y → K tgt ls st hs) (kf : ¬ x ≤ y → K (pc + 3) ls st hs) : K pc ls (.int y :: .int x :: st) hs := by
  obtain ⟨p, e, s, m, args, below, meth, c, D, cA, ad, A0, H0, N, ck, sk, Q, ⟨hx, hb, hml, hown, hts, hKX, hD0, hA0, hcs⟩, rfl⟩ := h
  intro hn H locs lsC hP hS hl
  exact lv_icmp_le hx hb hd ht (fun q => kt q hn H locs lsC hP hS hl) (fun q => kf q hn H locs lsC hP hS hl)
theorem Cl.tabIn (h : Cl l cc own nL R K) {dflt lo hi : Int} {offs : Array Int} {len : Nat} {x : Int32} {off : Int} {tgt : Nat} (hd : decode cc pc = .ok (.tableswitch dflt lo hi offs, len)) (h1 : ¬ x.toInt < lo) (h2 : ¬ hi < x.toInt) (ho : offs[(x.toInt - lo).toNat]? = some off) (ht : (pc : Int) + off = (tgt : Int)) (k : K tgt ls st hs) : K pc ls (.int x :: st) hs := by
  obtain ⟨p, e, s, m, args, below, meth, c, D, cA, ad, A0, H0, N, ck, sk, Q, ⟨hx, hb, hml, hown, hts, hKX, hD0, hA0, hcs⟩, rfl⟩ := h
  intro hn H locs lsC hP hS hl
  exact lv_tableIn hx hb hd h1 h2 ho ht (k hn H locs lsC hP hS hl)
theorem Cl.tabOut (h : Cl l cc own nL R K) {dflt lo hi : Int} {offs : Array Int} {len : Nat} {x : Int32} {tgt : Nat} (hd : decode cc pc = .ok (.tableswitch dflt lo hi offs, len)) (h1 : x.toInt < lo ∨ hi < x.toInt) (ht : (pc : Int) + dflt = (tgt : Int)) (k : K tgt ls st hs) : K pc ls (.int x :: st) hs := by
  obtain ⟨p, e, s, m, args, below, meth, c, D, cA, ad, A0, H0, N, ck, sk, Q, ⟨hx, hb, hml, hown, hts, hKX, hD0, hA0, hcs⟩, rfl⟩ := h
  intro hn H locs lsC hP hS hl
  exact lv_tableOut hx hb hd h1 ht (k hn H locs lsC hP hS hl)
theorem Cl.iaload (h : Cl l cc own nL R K) {a n : Nat} {f : Nat → Int32} {i : Int32} (hd : decode cc pc = .ok (.iaload, 1)) (ha : hs[a]? = some (.inl (0, n, .inl f))) (hi : vp_in i n) (k : K (pc + 1) ls (.int (f i.toNatClampNeg) :: st) hs) : K pc ls (.int i :: .ref a :: st) hs := by
  obtain ⟨p, e, s, m, args, below, meth, c, D, cA, ad, A0, H0, N, ck, sk, Q, ⟨hx, hb, hml, hown, hts, hKX, hD0, hA0, hcs⟩, rfl⟩ := h
  intro hn H locs lsC hP hS hl
  exact va_iald hx hb hKX.1 hP a 0 (tw_at ha) rfl hi hd (k hn H locs lsC hP hS hl)
theorem Cl.baload (h : Cl l cc own nL R K) {a n : Nat} {f : Nat → Int32} {i : Int32} (hd : decode cc pc = .ok (.baload, 1)) (ha : hs[a]? = some (.inl (1, n, .inl f))) (hi : vp_in i n) (k : K (pc + 1) ls (.int (f i.toNatClampNeg) :: st) hs) : K pc ls (.int i :: .ref a :: st) hs := by
  obtain ⟨p, e, s, m, args, below, meth, c, D, cA, ad, A0, H0, N, ck, sk, Q, ⟨hx, hb, hml, hown, hts, hKX, hD0, hA0, hcs⟩, rfl⟩ := h
  intro hn H locs lsC hP hS hl
  exact va_bald hx hb hKX.1 hP a 1 (tw_at ha) rfl hi hd (k hn H locs lsC hP hS hl)
theorem Cl.laload (h : Cl l cc own nL R K) {a n : Nat} {f : Nat → Int64} {i : Int32} (hd : decode cc pc = .ok (.laload, 1)) (ha : hs[a]? = some (.inl (2, n, .inr (.inl f)))) (hi : vp_in i n) (k : K (pc + 1) ls (.long (f i.toNatClampNeg) :: st) hs) : K pc ls (.int i :: .ref a :: st) hs := by
  obtain ⟨p, e, s, m, args, below, meth, c, D, cA, ad, A0, H0, N, ck, sk, Q, ⟨hx, hb, hml, hown, hts, hKX, hD0, hA0, hcs⟩, rfl⟩ := h
  intro hn H locs lsC hP hS hl
  exact va_lald hx hb hKX.1 hP a 2 (tw_at ha) rfl hi hd (k hn H locs lsC hP hS hl)
theorem Cl.aaload (h : Cl l cc own nL R K) {a n b : Nat} {f : Nat → Option Nat} {i : Int32} (hd : decode cc pc = .ok (.aaload, 1)) (ha : hs[a]? = some (.inl (3, n, .inr (.inr (.inr (.inr f)))))) (hi : vp_in i n) (hb2 : f i.toNatClampNeg = some b) (k : K (pc + 1) ls (.ref b :: st) hs) : K pc ls (.int i :: .ref a :: st) hs := by
  obtain ⟨p, e, s, m, args, below, meth, c, D, cA, ad, A0, H0, N, ck, sk, Q, ⟨hx, hb, hml, hown, hts, hKX, hD0, hA0, hcs⟩, rfl⟩ := h
  intro hn H locs lsC hP hS hl
  have k0 := va_aldq hx hb hKX.1 hP a 3 (tw_at ha) rfl hi hd (rest := st.map (tv ad)) (by rw [hb2]; exact k hn H locs lsC hP hS hl)
  exact k0
theorem Cl.alen (h : Cl l cc own nL R K) {a : Nat} {t n : Nat} {f} {v : Int32} (hd : decode cc pc = .ok (.arraylength, 1)) (ha : hs[a]? = some (.inl (t, n, f))) (ht : t < 4) (hv : Int32.ofNat n = v) (k : K (pc + 1) ls (.int v :: st) hs) : K pc ls (.ref a :: st) hs := by
  obtain ⟨p, e, s, m, args, below, meth, c, D, cA, ad, A0, H0, N, ck, sk, Q, ⟨hx, hb, hml, hown, hts, hKX, hD0, hA0, hcs⟩, rfl⟩ := h
  intro hn H locs lsC hP hS hl
  have k0 : W p l e R s m args below meth c H locs ck sk Q (F0 m pc lsC (.ref (ad a) :: st.map (tv ad))) := by
    rcases (show t = 0 ∨ t = 1 ∨ t = 2 ∨ t = 3 by omega) with rfl | rfl | rfl | rfl <;> rcases f with f | f | f | f | f
    all_goals first | exact va_alen hx hb hKX.1 hP a 0 (tw_at ha) rfl hv hd (k hn H locs lsC hP hS hl) | exact va_alen hx hb hKX.1 hP a 1 (tw_at ha) rfl hv hd (k hn H locs lsC hP hS hl) | exact va_alen hx hb hKX.1 hP a 2 (tw_at ha) rfl hv hd (k hn H locs lsC hP hS hl) | exact va_alen hx hb hKX.1 hP a 3 (tw_at ha) rfl hv hd (k hn H locs lsC hP hS hl)
  exact k0
theorem Cl.iastore (h : Cl l cc own nL R K) {a n : Nat} {f : Nat → Int32} {i : Int32} {x : Int32} (hd : decode cc pc = .ok (.iastore, 1)) (ha : hs[a]? = some (.inl (0, n, .inl f))) (hi : vp_in i n) (k : K (pc + 1) ls st (hs.set a (.inl (0, n, .inl (upd f i.toNatClampNeg x))))) : K pc ls (.int x :: .int i :: .ref a :: st) hs := by
  obtain ⟨p, e, s, m, args, below, meth, c, D, cA, ad, A0, H0, N, ck, sk, Q, ⟨hx, hb, hml, hown, hts, hKX, hD0, hA0, hcs⟩, rfl⟩ := h
  intro hn H locs lsC hP hS hl
  exact va_iast hx hb hKX.1 hP (hD0 hs hn) hS a 0 (tw_at ha) rfl hi hd (fun H1 locs1 hP1 hD1 hS1 => k (by rw [List.length_set]; exact hn) H1 locs1 lsC (by rw [tw_set]; exact hP1) hS1 hl)
theorem Cl.bastore (h : Cl l cc own nL R K) {a n : Nat} {f : Nat → Int32} {i : Int32} {x : Int32} (hd : decode cc pc = .ok (.bastore, 1)) (ha : hs[a]? = some (.inl (1, n, .inl f))) (hi : vp_in i n) (k : K (pc + 1) ls st (hs.set a (.inl (1, n, .inl (upd f i.toNatClampNeg (vp_nar .byte x)))))) : K pc ls (.int x :: .int i :: .ref a :: st) hs := by
  obtain ⟨p, e, s, m, args, below, meth, c, D, cA, ad, A0, H0, N, ck, sk, Q, ⟨hx, hb, hml, hown, hts, hKX, hD0, hA0, hcs⟩, rfl⟩ := h
  intro hn H locs lsC hP hS hl
  exact va_bast hx hb hKX.1 hP (hD0 hs hn) hS a 1 (tw_at ha) rfl hi hd (fun H1 locs1 hP1 hD1 hS1 => k (by rw [List.length_set]; exact hn) H1 locs1 lsC (by rw [tw_set]; exact hP1) hS1 hl)
theorem Cl.lastore (h : Cl l cc own nL R K) {a n : Nat} {f : Nat → Int64} {i : Int32} {x : Int64} (hd : decode cc pc = .ok (.lastore, 1)) (ha : hs[a]? = some (.inl (2, n, .inr (.inl f)))) (hi : vp_in i n) (k : K (pc + 1) ls st (hs.set a (.inl (2, n, .inr (.inl (vp_updL f i.toNatClampNeg x)))))) : K pc ls (.long x :: .int i :: .ref a :: st) hs := by
  obtain ⟨p, e, s, m, args, below, meth, c, D, cA, ad, A0, H0, N, ck, sk, Q, ⟨hx, hb, hml, hown, hts, hKX, hD0, hA0, hcs⟩, rfl⟩ := h
  intro hn H locs lsC hP hS hl
  exact va_last hx hb hKX.1 hP (hD0 hs hn) hS a 2 (tw_at ha) rfl hi hd (fun H1 locs1 hP1 hD1 hS1 => k (by rw [List.length_set]; exact hn) H1 locs1 lsC (by rw [tw_set]; exact hP1) hS1 hl)
end CLR
