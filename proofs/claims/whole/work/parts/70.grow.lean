/-! WORLDS THAT GROW (constructors, the law's beginning): the new cells' addresses are known beforehand: place k lies at z + k -/
def wt1 : va_E → Nat
  | .inl (_, n, _) => n
  | .inr (_, fs) => fs.length
def wt : List va_E → Nat
  | [] => 0
  | e :: es => wt1 e + wt es
theorem wt_app : ∀ (a b : List va_E), wt (a ++ b) = wt a + wt b
  | [], b => by show wt b = 0 + wt b; omega
  | e :: a, b => by
    show wt1 e + wt (a ++ b) = wt1 e + wt a + wt b
    rw [wt_app a b]; omega
theorem wt_set : ∀ (hs : List va_E) (i : Nat) (e e2 : va_E), hs[i]? = some e → wt1 e2 = wt1 e → wt (hs.set i e2) = wt hs
  | [], i, e, e2, h, _ => by simp at h
  | x :: hs, 0, e, e2, h, hw => by
    have hx : x = e := by simpa using h
    subst hx
    show wt1 e2 + wt hs = wt1 x + wt hs
    rw [hw]
  | x :: hs, i + 1, e, e2, h, hw => by
    show wt1 x + wt (hs.set i e2) = wt1 x + wt hs
    rw [wt_set hs i e e2 (by simpa using h) hw]
theorem tw_app (cA : Nat → ClassId) (ad : Nat → Nat) (hs : List va_E) (e : va_E) : tw cA ad (hs ++ [e]) = tw cA ad hs ++ [(ad hs.length, te cA ad e)] := by simp [tw, List.mapIdx_append]
theorem tw_1 {cA : Nat → ClassId} {ad : Nat → Nat} {hs : List va_E} {i : Nat} {q : Nat × va_E} (h : (tw cA ad hs)[i]? = some q) : q.1 = ad i ∧ i < hs.length := by
  rw [tw_get] at h
  cases he : hs[i]? with
  | none => rw [he] at h; cases h
  | some e =>
    rw [he] at h
    exact ⟨by rw [← Option.some.inj h], (List.getElem?_eq_some_iff.mp he).1⟩
def Gn (p : Program) (l : Launch) (e : Env) (R : Room) (s : State) (m : MethodId) (args : Array Value) (below : List Frame) (meth : Method) (c : Code) (D : va_G) (cA : Nat → ClassId) (ad : Nat → Nat) (A0 : Nat → Prop) (H0 : Heap) (nL z M b w : Nat) (Q : State → Prop) : AK :=
  fun pc ls st hs => hs.length ≤ M → b ≤ hs.length → ∀ (H : Heap) (locs : List Loc) (lsC : Array Slot) (ck sk : Nat), H.size = z + hs.length → ck + b ≤ hs.length → sk + w ≤ wt hs → va_P D vwCl (tw cA ad hs) H → va_S A0 H0 H locs → lv_has lsC nL (tl ad ls) → W p l e R s m args below meth c H locs ck sk Q (F0 m pc lsC (st.map (tv ad)))
def GnC (p : Program) (R : Room) (s : State) (m : MethodId) (args : Array Value) (meth : Method) (c : Code) (D : va_G) (cA : Nat → ClassId) (ad : Nat → Nat) (A0 : Nat → Prop) (H0 : Heap) (nL z M b w SL : Nat) (cc : ByteArray) (own : String) : Prop :=
  p.tables.exec = Jvm.exec ∧ c.code = cc ∧ c.maxLocals = nL ∧ s.vm.findClass own = some m.cls ∧ (∀ w ∈ GW, w.before args s = true) ∧ KX D cA s ∧ va_AO "StripFlag$Cloth" s ∧ (∀ hs : List va_E, hs.length ≤ M → va_D A0 (tw cA ad hs)) ∧ (∀ q, H0.size ≤ q → A0 q) ∧ (∀ k, b ≤ k → k < M → ad k = z + k) ∧ (b = 1 → meth.name = "<init>") ∧ M ≤ R.cells + b ∧ SL ≤ R.slots + w
def Cn (l : Launch) (cc : ByteArray) (own : String) (nL : Nat) (R : Room) (M b SL : Nat) (K : AK) : Prop :=
  ∃ (p : Program) (e : Env) (s : State) (m : MethodId) (args : Array Value) (below : List Frame) (meth : Method) (c : Code) (D : va_G) (cA : Nat → ClassId) (ad : Nat → Nat) (A0 : Nat → Prop) (H0 : Heap) (z w : Nat) (Q : State → Prop),
    GnC p R s m args meth c D cA ad A0 H0 nL z M b w SL cc own ∧ K = Gn p l e R s m args below meth c D cA ad A0 H0 nL z M b w Q
def LkI (own : String) (idx ci k : Nat) (C0 : String) : Prop := ∃ (C : String) (T : u_T) (N : Nat), vwCl[ci]? = some (C, T, N) ∧ TB (C, T, N) ∧ k < N ∧ (T k).1 = C ∧ Cond.fieldLink own idx C (T k).2.1 (T k).2.2.1 ∈ GW ∧ (T k).2.2.2 = true ∧ (T k).1 = own ∧ (parseFieldDescriptor (T k).2.2.1 = some (.object C0) ∨ ∃ t, parseFieldDescriptor (T k).2.2.1 = some (.array t))
section CN
variable {l : Launch} {cc : ByteArray} {own : String} {nL : Nat} {R : Room} {M b SL : Nat} {K : AK} {pc : Nat} {ls : AL} {st : List Value} {hs : List va_E}
theorem Cn.iconst (h : Cn l cc own nL R M b SL K) {n : Int} {v : Int32} (hd : decode cc pc = .ok (.iconst n, 1)) (hv : Int32.ofInt n = v) (k : K (pc + 1) ls (.int v :: st) hs) : K pc ls st hs := by
  obtain ⟨p, e, s, m, args, below, meth, c, D, cA, ad, A0, H0, z, w, Q, ⟨hx, hb, hml, hown, hts, hKX, hAO, hD0, hA0, had, hin, hcl, hsl⟩, rfl⟩ := h
  intro hM hb0 H locs lsC ck sk hz hck hsk hP hS hl
  exact lv_iconst hx hb hd hv (k hM hb0 H locs lsC ck sk hz hck hsk hP hS hl)
theorem Cn.bipush (h : Cn l cc own nL R M b SL K) {n : Int} {v : Int32} (hd : decode cc pc = .ok (.bipush n, 2)) (hv : (Int8.ofInt n).toInt32 = v) (k : K (pc + 2) ls (.int v :: st) hs) : K pc ls st hs := by
  obtain ⟨p, e, s, m, args, below, meth, c, D, cA, ad, A0, H0, z, w, Q, ⟨hx, hb, hml, hown, hts, hKX, hAO, hD0, hA0, had, hin, hcl, hsl⟩, rfl⟩ := h
  intro hM hb0 H locs lsC ck sk hz hck hsk hP hS hl
  exact lv_bipush hx hb hd hv (k hM hb0 H locs lsC ck sk hz hck hsk hP hS hl)
theorem Cn.sipush (h : Cn l cc own nL R M b SL K) {n : Int} {v : Int32} (hd : decode cc pc = .ok (.sipush n, 3)) (hv : (Int16.ofInt n).toInt32 = v) (k : K (pc + 3) ls (.int v :: st) hs) : K pc ls st hs := by
  obtain ⟨p, e, s, m, args, below, meth, c, D, cA, ad, A0, H0, z, w, Q, ⟨hx, hb, hml, hown, hts, hKX, hAO, hD0, hA0, had, hin, hcl, hsl⟩, rfl⟩ := h
  intro hM hb0 H locs lsC ck sk hz hck hsk hP hS hl
  exact lv_sipush hx hb hd hv (k hM hb0 H locs lsC ck sk hz hck hsk hP hS hl)
theorem Cn.aload_n (h : Cn l cc own nL R M b SL K) {i : Fin 4} {x : Nat} (hd : decode cc pc = .ok (.aload_n i, 1)) (hv : lk ls i = some (.ref x)) (k : K (pc + 1) ls (.ref x :: st) hs) : K pc ls st hs := by
  obtain ⟨p, e, s, m, args, below, meth, c, D, cA, ad, A0, H0, z, w, Q, ⟨hx, hb, hml, hown, hts, hKX, hAO, hD0, hA0, had, hin, hcl, hsl⟩, rfl⟩ := h
  intro hM hb0 H locs lsC ck sk hz hck hsk hP hS hl
  exact lv_aload_n hx hb hd rfl (lk_at hl hv) (k hM hb0 H locs lsC ck sk hz hck hsk hP hS hl)
theorem Cn.dup (h : Cn l cc own nL R M b SL K) {v : Value} (hd : decode cc pc = .ok (.dup, 1)) (hv : v.category = 1) (k : K (pc + 1) ls (v :: v :: st) hs) : K pc ls (v :: st) hs := by
  obtain ⟨p, e, s, m, args, below, meth, c, D, cA, ad, A0, H0, z, w, Q, ⟨hx, hb, hml, hown, hts, hKX, hAO, hD0, hA0, had, hin, hcl, hsl⟩, rfl⟩ := h
  intro hM hb0 H locs lsC ck sk hz hck hsk hP hS hl
  exact lv_dup hx hb hd (by rw [tv_cat]; exact hv) (k hM hb0 H locs lsC ck sk hz hck hsk hP hS hl)
theorem Cn.astore_n (h : Cn l cc own nL R M b SL K) {i : Fin 4} {x : Nat} (hd : decode cc pc = .ok (.astore_n i, 1)) (hi : (i : Nat) < nL) (k : K (pc + 1) (st1 (i : Nat) (.ref x) ls) st hs) : K pc ls (.ref x :: st) hs := by
  obtain ⟨p, e, s, m, args, below, meth, c, D, cA, ad, A0, H0, z, w, Q, ⟨hx, hb, hml, hown, hts, hKX, hAO, hD0, hA0, had, hin, hcl, hsl⟩, rfl⟩ := h
  intro hM hb0 H locs lsC ck sk hz hck hsk hP hS hl
  exact lv_astore_n hx hb hd rfl hl hi (st1_tl ad (i : Nat) (.ref x) _ rfl ls) (fun ls2 hl2 => k hM hb0 H locs ls2 ck sk hz hck hsk hP hS hl2)
theorem Cn.obj (h : Cn l cc own nL R M b SL K) {idx a : Nat} (hd : decode cc pc = .ok (.invokespecial idx, 3)) (hlk : Cond.methodLink own idx Lib.objectInit ∈ GW) (hio : Cond.instanceMethod Lib.objectInit ∈ GW) (hco : Cond.code Lib.objectInit ⟨#[0xb1]⟩ 1 none ∈ GW) (hR : 1 ≤ R.frames) (hR2 : 20 ≤ R.locals) (hcat : (st.map fun v => v.category).sum ≤ 8) (k : K (pc + 3) ls st hs) : K pc ls (.ref a :: st) hs := by
  obtain ⟨p, e, s, m, args, below, meth, c, D, cA, ad, A0, H0, z, w, Q, ⟨hx, hb, hml, hown, hts, hKX, hAO, hD0, hA0, had, hin, hcl, hsl⟩, rfl⟩ := h
  intro hM hb0 H locs lsC ck sk hz hck hsk hP hS hl
  refine W.objInit hx hb hown (hts _ hlk) (hts _ hio) (hts _ hco) rfl (by rw [hml]; exact hl.1) rfl hd hR ?_ (k hM hb0 H locs lsC ck sk hz hck hsk hP hS hl)
  show 2 * 0 + ((st.map (tv ad)).map fun v => v.category).sum + 12 ≤ R.locals
  rw [List.map_map]
  have : ((fun v : Value => v.category) ∘ tv ad) = fun v => v.category := funext (fun v => tv_cat ad v)
  rw [this]
  omega
theorem Cn.newarr (h : Cn l cc own nL R M b SL K) {atype : ArrayType} {t N' : Nat} {n : Int32} {a0 : vp_A} (hd : decode cc pc = .ok (.newarray atype, 2)) (harr : Cond.arrayClass (newarray.typeOf atype) ∈ GW) (htl : ∀ cA : Nat → ClassId, (tyL cA)[t]? = some (cA t, newarray.typeOf atype)) (hra : ∀ (U : State) (c : ClassId), va_RA U c (newarray.typeOf atype) → U.vm.findClass ("[" ++ (newarray.typeOf atype).toString) = some c)
    (ha : ∀ cA : ClassId, vp_cell cA a0 = arrV cA N' (fun _ => defaultValue (newarray.typeOf atype))) (hte : ∀ (cA : Nat → ClassId) (ad : Nat → Nat), te cA ad (.inl (t, a0)) = .inl (cA t, a0)) (hn : ¬ n < 0) (hN : n.toNatClampNeg = N') (hbytes : N' * componentBytes (newarray.typeOf atype) ≤ 536870912) (hw1 : wt1 (.inl (t, a0)) = N') (hlen : hs.length + 1 ≤ M) (hwt : wt hs + N' ≤ SL)
    (k : K (pc + 2) ls (.ref hs.length :: st) (hs ++ [.inl (t, a0)])) : K pc ls (.int n :: st) hs := by
  obtain ⟨p, e, s, m, args, below, meth, c, D, cA, ad, A0, H0, z, w, Q, ⟨hx, hb, hml, hown, hts, hKX, hAO, hD0, hA0, had, hin, hcl, hsl⟩, rfl⟩ := h
  intro hM hb0 H locs lsC ck sk hz hck hsk hP hS hl
  refine va_newaK hx hb (hts _ harr) rfl hd rfl hn hN hbytes (by omega) (by omega) rfl (fun H1 cA1 e1 z1 o1 hAr hNm => ?_)
  have hc : cA1 = cA t := by
    have h2 := hra s (cA t) (hKX.1.2 t _ (htl cA)).2
    rw [hNm] at h2
    exact Option.some.inj h2
  have had2 : ad hs.length = H.size := by rw [had _ hb0 (by omega), hz]
  have hk : ∀ (k : Nat) (x : Nat × va_E), (tw cA ad hs)[k]? = some x → H1[x.1]? = H[x.1]? := fun k x hx => o1 x.1 ((hP k x hx).lt)
  have hP1 : va_P D vwCl (tw cA ad (hs ++ [.inl (t, a0)])) H1 := by
    rw [tw_app, hte]
    refine (hP.kept hk).app (fun k x hx => ?_)
    have hz : k < 1 := (List.getElem?_eq_some_iff.mp hx).1
    rw [show k = 0 by omega] at hx
    cases hx
    show H1[ad hs.length]? = some (vp_cell (cA t) a0)
    rw [had2, e1, hc, ha]
  rw [← had2]
  exact k (by rw [List.length_append]; exact hlen) (by rw [List.length_append]; omega) H1 locs lsC (ck + 1) (sk + N') (by rw [List.length_append, z1, hz]; show z + hs.length + 1 = z + (hs.length + 1); omega) (by rw [List.length_append]; show ck + 1 + b ≤ hs.length + 1; omega) (by rw [wt_app]; show sk + N' + w ≤ wt hs + (wt1 (.inl (t, a0)) + 0); omega) hP1 ⟨Nat.le_trans hS.1 (by omega), fun x h1 h2 => (o1 x (Nat.lt_of_lt_of_le h1 hS.1)).trans (hS.2.1 x h1 h2), hS.2.2⟩ hl
theorem Cn.newobj (h : Cn l cc own nL R M b SL K) {idx ci N : Nat} {C : String} {T : u_T} {fs : List Value} (hd : decode cc pc = .ok (.new idx, 3)) (hc : vwCl[ci]? = some (C, T, N)) (htb : TB (C, T, N)) (hlk : Cond.classLink own idx C ∈ GW) (hinst : Cond.instantiable C N ∈ GW) (hini : Cond.initialized C ∈ GW) (ty : Nat → FieldType) (hty : ∀ k, k < N → parseFieldDescriptor (T k).2.2.1 = some (ty k)) (hfs : ∀ j, j < N → defaultValue (ty j) = vp_V fs j) (hfl : fs.length = N) (hte : ∀ ad : Nat → Nat, fs.map (tv ad) = fs) (hlen : hs.length + 1 ≤ M) (hwt : wt hs + N ≤ SL)
    (k : K (pc + 3) ls (.ref hs.length :: st) (hs ++ [.inr (ci, fs)])) : K pc ls st hs := by
  obtain ⟨p, e, s, m, args, below, meth, c, D, cA, ad, A0, H0, z, w, Q, ⟨hx, hb, hml, hown, hts, hKX, hAO, hD0, hA0, had, hin, hcl, hsl⟩, rfl⟩ := h
  intro hM hb0 H locs lsC ck sk hz hck hsk hP hS hl
  have hKn := hKX.1.1 ci _ hc
  refine W.newcK hx hb hown (hts _ hlk) (hts _ hinst) (hts _ hini) rfl hd (by omega) (by omega) hKn.2.1 rfl (fun H1 kC hkC e1 z1 o1 => ?_)
  have had2 : ad hs.length = H.size := by rw [had _ hb0 (by omega), hz]
  have hk : ∀ (k : Nat) (x : Nat × va_E), (tw cA ad hs)[k]? = some x → H1[x.1]? = H[x.1]? := fun k x hx => o1 x.1 ((hP k x hx).lt)
  have hP1 : va_P D vwCl (tw cA ad (hs ++ [.inr (ci, fs)])) H1 := by
    rw [tw_app, show te cA ad (.inr (ci, fs)) = .inr (ci, fs) from congrArg (fun q => (Sum.inr (ci, q) : va_E)) (hte ad)]
    refine (hP.kept hk).app (fun k x hx => ?_)
    have hz : k < 1 := (List.getElem?_eq_some_iff.mp hx).1
    rw [show k = 0 by omega] at hx
    cases hx
    show va_at D vwCl (ad hs.length, .inr (ci, fs)) H1
    rw [had2]
    exact ⟨_, hc, (u_born ty hts htb.1 hKn hkC e1 hty).to hfs⟩
  show W p l e R s m args below meth c H1 locs (ck + 1) (sk + N) Q { F0 m pc lsC (st.map (tv ad)) with pc := pc + 3, stack := .ref H.size :: st.map (tv ad) }
  rw [← had2]
  exact k (by rw [List.length_append]; exact hlen) (by rw [List.length_append]; omega) H1 locs lsC (ck + 1) (sk + N) (by rw [List.length_append, z1, hz]; show z + hs.length + 1 = z + (hs.length + 1); omega) (by rw [List.length_append]; show ck + 1 + b ≤ hs.length + 1; omega) (by rw [wt_app]; show sk + N + w ≤ wt hs + (fs.length + 0); omega) hP1 ⟨Nat.le_trans hS.1 (by omega), fun x h1 h2 => (o1 x (Nat.lt_of_lt_of_le h1 hS.1)).trans (hS.2.1 x h1 h2), hS.2.2⟩ hl
theorem Cn.newref (h : Cn l cc own nL R M b SL K) {idx N' : Nat} {n : Int32} (hd : decode cc pc = .ok (.anewarray idx, 3)) (hlk : Cond.classLink own idx "StripFlag$Cloth" ∈ GW) (hn : ¬ n < 0) (hN : n.toNatClampNeg = N') (hbytes : N' * 4 ≤ 536870912) (hlen : hs.length + 1 ≤ M) (hwt : wt hs + N' ≤ SL)
    (k : K (pc + 3) ls (.ref hs.length :: st) (hs ++ [.inl (3, N', .inr (.inr (.inr (.inr (fun _ => none)))))])) : K pc ls (.int n :: st) hs := by
  obtain ⟨p, e, s, m, args, below, meth, c, D, cA, ad, A0, H0, z, w, Q, ⟨hx, hb, hml, hown, hts, hKX, hAO, hD0, hA0, had, hin, hcl, hsl⟩, rfl⟩ := h
  intro hM hb0 H locs lsC ck sk hz hck hsk hP hS hl
  subst hN
  refine W.anew hx hb hown (hts _ hlk) (va_AO.use hAO) rfl hd rfl hn hbytes (by omega) (by omega) (fun cA1 kA comp f1 f2 f3 f4 => ?_)
  have hc : cA1 = cA 3 := by
    obtain ⟨_, _, _, _, _, h2⟩ := (hKX.1.2 3 (cA 3, .object "StripFlag$Cloth") rfl).2
    rw [f1] at h2
    exact Option.some.inj h2
  subst hc
  generalize hH1 : H.push ({ cls := cA 3, slots := Array.replicate n.toNatClampNeg .null, vm := .none } : Cell) = H1
  have z1 : H1.size = H.size + 1 := by rw [← hH1, Array.size_push]
  have e1 : H1[H.size]? = some (arrV (cA 3) n.toNatClampNeg (fun _ => .null)) := by rw [← hH1, Array.getElem?_push_size, ← arrV_new]
  have o1 : ∀ q : Nat, q < H.size → H1[q]? = H[q]? := fun q hq => by rw [← hH1, Array.getElem?_push, if_neg (Nat.ne_of_lt hq)]
  have had2 : ad hs.length = H.size := by rw [had _ hb0 (by omega), hz]
  have hk : ∀ (k : Nat) (x : Nat × va_E), (tw cA ad hs)[k]? = some x → H1[x.1]? = H[x.1]? := fun k x hx => o1 x.1 ((hP k x hx).lt)
  have hP1 : va_P D vwCl (tw cA ad (hs ++ [.inl (3, n.toNatClampNeg, .inr (.inr (.inr (.inr (fun _ => none)))))])) H1 := by
    rw [tw_app]
    refine (hP.kept hk).app (fun k x hx => ?_)
    have hz : k < 1 := (List.getElem?_eq_some_iff.mp hx).1
    rw [show k = 0 by omega] at hx
    cases hx
    show H1[ad hs.length]? = some (vp_cell (cA 3) _)
    rw [had2, vp_cell_q]
    exact e1
  show W p l e R s m args below meth c H1 locs (ck + 1) (sk + n.toNatClampNeg) Q { F0 m pc lsC (st.map (tv ad)) with pc := pc + 3, stack := .ref H.size :: st.map (tv ad) }
  rw [← had2]
  exact k (by rw [List.length_append]; exact hlen) (by rw [List.length_append]; omega) H1 locs lsC (ck + 1) (sk + n.toNatClampNeg) (by rw [List.length_append, z1, hz]; show z + hs.length + 1 = z + (hs.length + 1); omega) (by rw [List.length_append]; show ck + 1 + b ≤ hs.length + 1; omega) (by rw [wt_app]; show sk + n.toNatClampNeg + w ≤ wt hs + (n.toNatClampNeg + 0); omega) hP1 ⟨Nat.le_trans hS.1 (by omega), fun x h1 h2 => (o1 x (Nat.lt_of_lt_of_le h1 hS.1)).trans (hS.2.1 x h1 h2), hS.2.2⟩ hl
theorem Cn.putI (h : Cn l cc own nL R M b SL K) {idx ci k a : Nat} {ty : FieldType} {fs : List Value} {v : Int32} (hlk : LkP own idx ci k ty) (hnr : narrow ty (.int v) = .int v) (hft : fits ty (.int v) = true) (hd : decode cc pc = .ok (.putfield idx, 3)) (ha : hs[a]? = some (.inr (ci, fs))) (hf : k < fs.length) (kk : K (pc + 3) ls st (hs.set a (.inr (ci, fs.set k (.int v))))) : K pc ls ((.int v) :: .ref a :: st) hs := by
  obtain ⟨p, e, s, m, args, below, meth, c, D, cA, ad, A0, H0, z, w, Q, ⟨hx, hb, hml, hown, hts, hKX, hAO, hD0, hA0, had, hin, hcl, hsl⟩, rfl⟩ := h
  intro hM hb0 H locs lsC ck sk hz hck hsk hP hS hl
  obtain ⟨C, T, n, hc, ⟨htb, ⟨ty0, hty⟩, hnm⟩, hk, hT, hw, hfin, hpd⟩ := hlk
  have hD1 := hD0 hs hM
  have hap := va_apart (own := own) hts htb ty0 hty hnm hKX.1 hc
  obtain ⟨r, h1, cell, q1, q2, q3, q4⟩ := hP a _ (tw_at ha)
  obtain rfl : r = (C, T, n) := Option.some.inj (h1.symm.trans hc)
  obtain ⟨hSl, hfc, kC, hkC, hkind⟩ := hKX.1.1 ci _ hc
  obtain ⟨cf, kf, fi, f, hi, hsl2⟩ := hSl k hk
  have hlay := hts _ (htb _ (u_in_lay hk))
  unfold u_lay at hlay
  have hst := (u_facts hfc hkC (u_lays hts htb hk) hi).1
  rw [if_neg (by rw [hfin]; decide)] at hlay
  have h6 := u_store hfc hkC hkind hlay hi hpd (v := Value.int v) hnr hft
  refine W.putK hx hb (f := f) ⟨hown, hts _ hw, ⟨_, _, _, (by rw [← hT]; exact hi)⟩, hst⟩ (by rw [q2]; exact h6) q1 q3 (by rw [hsl2]; exact k2_hasslot (q4 k hk)) rfl rfl hd (fun H1 e1 e2 e3 => ?_)
  rw [hsl2] at e1 ⊢
  have hP1 : va_P D vwCl (tw cA ad (hs.set a (.inr (ci, fs.set k (.int v))))) H1 := by
    rw [tw_set, show te cA ad (.inr (ci, fs.set k (.int v))) = .inr (ci, (fs.map (tv ad)).set k (Value.int v)) from by show Sum.inr (ci, List.map (tv ad) (fs.set k (.int v))) = _; rw [List.map_set]; rfl]
    exact hP.set hD1 (tw_at ha) ⟨_, hc, t_OB.to (V := updV (vp_V (fs.map (tv ad))) k (Value.int v)) ⟨_, e1, q2, q3, t_set q4 hap hk (Value.int v)⟩ (fun j _ => vp_updV_set (by rw [List.length_map]; exact hf) (Value.int v) j)⟩ e3
  exact kk (by rw [List.length_set]; exact hM) (by rw [List.length_set]; exact hb0) H1 _ lsC ck sk (by rw [List.length_set, e2]; exact hz) (by rw [List.length_set]; exact hck) (by rw [wt_set hs a _ _ ha (by show (fs.set k (.int v)).length = fs.length; rw [List.length_set])]; exact hsk) hP1 (hS.put e2 e3 (hD1.2 a _ (tw_at ha))) hl
theorem Cn.putR (h : Cn l cc own nL R M b SL K) {idx ci k a v : Nat} {C0 : String} {fs : List Value} (hlk : LkP own idx ci k (.object C0)) (hd : decode cc pc = .ok (.putfield idx, 3)) (ha : hs[a]? = some (.inr (ci, fs))) (hf : k < fs.length) (kk : K (pc + 3) ls st (hs.set a (.inr (ci, fs.set k (.ref v))))) : K pc ls ((.ref v) :: .ref a :: st) hs := by
  obtain ⟨p, e, s, m, args, below, meth, c, D, cA, ad, A0, H0, z, w, Q, ⟨hx, hb, hml, hown, hts, hKX, hAO, hD0, hA0, had, hin, hcl, hsl⟩, rfl⟩ := h
  intro hM hb0 H locs lsC ck sk hz hck hsk hP hS hl
  obtain ⟨C, T, n, hc, ⟨htb, ⟨ty0, hty⟩, hnm⟩, hk, hT, hw, hfin, hpd⟩ := hlk
  have hD1 := hD0 hs hM
  have hap := va_apart (own := own) hts htb ty0 hty hnm hKX.1 hc
  obtain ⟨r, h1, cell, q1, q2, q3, q4⟩ := hP a _ (tw_at ha)
  obtain rfl : r = (C, T, n) := Option.some.inj (h1.symm.trans hc)
  obtain ⟨hSl, hfc, kC, hkC, hkind⟩ := hKX.1.1 ci _ hc
  obtain ⟨cf, kf, fi, f, hi, hsl2⟩ := hSl k hk
  have hlay := hts _ (htb _ (u_in_lay hk))
  unfold u_lay at hlay
  have hst := (u_facts hfc hkC (u_lays hts htb hk) hi).1
  rw [if_neg (by rw [hfin]; decide)] at hlay
  have h6 := u_store hfc hkC hkind hlay hi hpd (v := Value.ref (ad v)) rfl rfl
  refine W.putK hx hb (f := f) ⟨hown, hts _ hw, ⟨_, _, _, (by rw [← hT]; exact hi)⟩, hst⟩ (by rw [q2]; exact h6) q1 q3 (by rw [hsl2]; exact k2_hasslot (q4 k hk)) rfl rfl hd (fun H1 e1 e2 e3 => ?_)
  rw [hsl2] at e1 ⊢
  have hP1 : va_P D vwCl (tw cA ad (hs.set a (.inr (ci, fs.set k (.ref v))))) H1 := by
    rw [tw_set, show te cA ad (.inr (ci, fs.set k (.ref v))) = .inr (ci, (fs.map (tv ad)).set k (Value.ref (ad v))) from by show Sum.inr (ci, List.map (tv ad) (fs.set k (.ref v))) = _; rw [List.map_set]; rfl]
    exact hP.set hD1 (tw_at ha) ⟨_, hc, t_OB.to (V := updV (vp_V (fs.map (tv ad))) k (Value.ref (ad v))) ⟨_, e1, q2, q3, t_set q4 hap hk (Value.ref (ad v))⟩ (fun j _ => vp_updV_set (by rw [List.length_map]; exact hf) (Value.ref (ad v)) j)⟩ e3
  exact kk (by rw [List.length_set]; exact hM) (by rw [List.length_set]; exact hb0) H1 _ lsC ck sk (by rw [List.length_set, e2]; exact hz) (by rw [List.length_set]; exact hck) (by rw [wt_set hs a _ _ ha (by show (fs.set k (.ref v)).length = fs.length; rw [List.length_set])]; exact hsk) hP1 (hS.put e2 e3 (hD1.2 a _ (tw_at ha))) hl
theorem Cn.putF (h : Cn l cc own nL R M b SL K) {idx ci k a v : Nat} {C0 : String} {fs : List Value} (hb1 : b = 1) (hlk : LkI own idx ci k C0) (hd : decode cc pc = .ok (.putfield idx, 3)) (ha : hs[a]? = some (.inr (ci, fs))) (hf : k < fs.length) (kk : K (pc + 3) ls st (hs.set a (.inr (ci, fs.set k (.ref v))))) : K pc ls ((.ref v) :: .ref a :: st) hs := by
  obtain ⟨p, e, s, m, args, below, meth, c, D, cA, ad, A0, H0, z, w, Q, ⟨hx, hb, hml, hown, hts, hKX, hAO, hD0, hA0, had, hin, hcl, hsl⟩, rfl⟩ := h
  intro hM hb0 H locs lsC ck sk hz hck hsk hP hS hl
  obtain ⟨C, T, n, hc, ⟨htb, ⟨ty0, hty⟩, hnm⟩, hk, hT, hw, hfin, hdecl, hpd⟩ := hlk
  have hD1 := hD0 hs hM
  have hap := va_apart (own := own) hts htb ty0 hty hnm hKX.1 hc
  obtain ⟨r, h1, cell, q1, q2, q3, q4⟩ := hP a _ (tw_at ha)
  obtain rfl : r = (C, T, n) := Option.some.inj (h1.symm.trans hc)
  obtain ⟨hSl, hfc, kC, hkC, hkind⟩ := hKX.1.1 ci _ hc
  obtain ⟨cf, kf, fi, f, hi, hsl2⟩ := hSl k hk
  have hlay := hts _ (htb _ (u_in_lay hk))
  unfold u_lay at hlay
  have hst := (u_facts hfc hkC (u_lays hts htb hk) hi).1
  rw [if_pos hfin] at hlay
  have hcf : m.cls = cf := by
    obtain ⟨_, _, c', _, _, _, -, -, hf', -, -, -, hown2, -⟩ := Cond.laysFinal_spec hlay
    have e1 : c' = cf := by have := hi.symm.trans hf'; simp at this; exact this.1.symm
    rw [hdecl] at hown2
    rw [← e1]; exact Option.some.inj (hown.symm.trans hown2)
  obtain ⟨tyk, hpd, hnr, hft⟩ : ∃ tyk, parseFieldDescriptor (T k).2.2.1 = some tyk ∧ narrow tyk (.ref (ad v)) = .ref (ad v) ∧ fits tyk (.ref (ad v)) = true := by
    rcases hpd with h | ⟨t, h⟩
    · exact ⟨_, h, rfl, rfl⟩
    · exact ⟨_, h, rfl, rfl⟩
  have h6 := u_fits hfc hkC hkind (Or.inr hlay) hi hpd (v := Value.ref (ad v)) hnr hft
  refine W.putFinK hx hb hown (hts _ hw) (by rw [← hT]; exact hi) hst hcf (hin hb1) (by rw [q2]; exact h6) q1 q3 (by rw [hsl2]; exact k2_hasslot (q4 k hk)) rfl rfl hd (fun H1 e1 e2 e3 => ?_)
  rw [hsl2] at e1 ⊢
  have hP1 : va_P D vwCl (tw cA ad (hs.set a (.inr (ci, fs.set k (.ref v))))) H1 := by
    rw [tw_set, show te cA ad (.inr (ci, fs.set k (.ref v))) = .inr (ci, (fs.map (tv ad)).set k (Value.ref (ad v))) from by show Sum.inr (ci, List.map (tv ad) (fs.set k (.ref v))) = _; rw [List.map_set]; rfl]
    exact hP.set hD1 (tw_at ha) ⟨_, hc, t_OB.to (V := updV (vp_V (fs.map (tv ad))) k (Value.ref (ad v))) ⟨_, e1, q2, q3, t_set q4 hap hk (Value.ref (ad v))⟩ (fun j _ => vp_updV_set (by rw [List.length_map]; exact hf) (Value.ref (ad v)) j)⟩ e3
  exact kk (by rw [List.length_set]; exact hM) (by rw [List.length_set]; exact hb0) H1 _ lsC ck sk (by rw [List.length_set, e2]; exact hz) (by rw [List.length_set]; exact hck) (by rw [wt_set hs a _ _ ha (by show (fs.set k (.ref v)).length = fs.length; rw [List.length_set])]; exact hsk) hP1 (hS.put e2 e3 (hD1.2 a _ (tw_at ha))) hl
theorem Cn.aastore (h : Cn l cc own nL R M b SL K) {a v n ci : Nat} {i : Int32} {f : Nat → Option Nat} {fs : List Value} {T : u_T} {N : Nat} (hd : decode cc pc = .ok (.aastore, 1)) (ha : hs[a]? = some (.inl (3, n, .inr (.inr (.inr (.inr f)))))) (hv : hs[v]? = some (.inr (ci, fs))) (hc : vwCl[ci]? = some ("StripFlag$Cloth", T, N)) (hin : vp_in i n)
    (kk : K (pc + 1) ls st (hs.set a (.inl (3, n, .inr (.inr (.inr (.inr (va_up f i.toNatClampNeg (some v))))))))) : K pc ls (.ref v :: .int i :: .ref a :: st) hs := by
  obtain ⟨p, e, s, m, args, below, meth, c, D, cA, ad, A0, H0, z, w, Q, ⟨hx, hb, hml, hown, hts, hKX, hAO, hD0, hA0, had, _, hcl, hsl⟩, rfl⟩ := h
  intro hM hb0 H locs lsC ck sk hz hck hsk hP hS hl
  have hD1 := hD0 hs hM
  have hlt : i.toNatClampNeg < n := Nat.not_le.mp fun q => hin (Or.inr q)
  have h0 : ¬ i < 0 := fun q => hin (Or.inl q)
  have hPa := hP a _ (tw_at ha)
  obtain ⟨r', hr', cellV, g1, g2, g3, -⟩ := hP v _ (tw_at hv)
  have hcls := (hKX.1.1 ci _ hc).2
  obtain ⟨kA, comp, k1, k2, k3, -⟩ := (hKX.1.2 3 (cA 3, .object "StripFlag$Cloth") rfl).2
  have hcomp : comp = D.1 ci := Option.some.inj (k3.symm.trans hcls.1)
  subst hcomp
  obtain ⟨kC, hkC, -⟩ := hcls.2
  refine W.aast hx hb hPa (fun q h => by cases h) (fun h => by cases h) k1 k2 rfl hkC ⟨h0, by show _ < (arrV _ _ _).slots.size; rw [arrV_size]; exact hlt⟩ g1 (fun q h => by rw [g3] at h; cases h) (by rw [g2]; exact hkC) (by rw [g2]; exact va_assign hcls) rfl rfl hd (fun H1 e1 e2 e3 => ?_)
  have hP1 : va_P D vwCl (tw cA ad (hs.set a (.inl (3, n, .inr (.inr (.inr (.inr (va_up f i.toNatClampNeg (some v))))))))) H1 := by
    rw [tw_set, show te cA ad (.inl (3, n, .inr (.inr (.inr (.inr (va_up f i.toNatClampNeg (some v))))))) = .inl (cA 3, n, .inr (.inr (.inr (.inr (va_up (fun j => (f j).map ad) i.toNatClampNeg (some (ad v))))))) from by
      show Sum.inl (cA 3, n, _) = Sum.inl (cA 3, n, _)
      have e0 : (fun j => Option.map ad (va_up f i.toNatClampNeg (some v) j)) = va_up (fun j => (f j).map ad) i.toNatClampNeg (some (ad v)) := by
        funext j
        unfold va_up
        split <;> rfl
      rw [e0]]
    refine hP.set hD1 (tw_at ha) ?_ e3
    show H1[ad a]? = some (vp_cell _ _)
    rw [e1]
    show some (Cell.setSlot (vp_cell _ _) _ _) = _
    rw [vp_cell_q, vp_cell_q, arrV_store]
    congr 2
    funext q
    by_cases hq : q = i.toNatClampNeg
    · subst hq
      simp [updV, va_up, va_rf]
    · simp [updV, va_up, hq]
  exact kk (by rw [List.length_set]; exact hM) (by rw [List.length_set]; exact hb0) H1 _ lsC ck sk (by rw [List.length_set, e2]; exact hz) (by rw [List.length_set]; exact hck) (by rw [wt_set hs a _ (.inl (3, n, .inr (.inr (.inr (.inr (va_up f i.toNatClampNeg (some v))))))) ha rfl]; exact hsk) hP1 (hS.put e2 e3 (hD1.2 a _ (tw_at ha))) hl
/-- an array of references is told by its places alone -/
theorem Cn.eqref (h : Cn l cc own nL R M b SL K) {a n : Nat} {f f2 : Nat → Option Nat} (ha : hs[a]? = some (.inl (3, n, .inr (.inr (.inr (.inr f)))))) (he : ∀ j, j < n → f j = f2 j) (kk : K pc ls st (hs.set a (.inl (3, n, .inr (.inr (.inr (.inr f2))))))) : K pc ls st hs := by
  obtain ⟨p, e, s, m, args, below, meth, c, D, cA, ad, A0, H0, z, w, Q, ⟨hx, hb, hml, hown, hts, hKX, hAO, hD0, hA0, had, _, hcl, hsl⟩, rfl⟩ := h
  intro hM hb0 H locs lsC ck sk hz hck hsk hP hS hl
  have hP1 : va_P D vwCl (tw cA ad (hs.set a (.inl (3, n, .inr (.inr (.inr (.inr f2))))))) H := by
    intro i q hi
    rw [tw_set, List.getElem?_set] at hi
    by_cases hia : a = i
    · rw [if_pos hia] at hi
      split at hi
      · rw [← Option.some.inj hi]
        have h1 := hP a _ (tw_at ha)
        have h2 : H[ad a]? = some (vp_cell (cA 3) (n, .inr (.inr (.inr (.inr (fun j => (f j).map ad)))))) := h1
        show H[ad a]? = some (vp_cell (cA 3) (n, .inr (.inr (.inr (.inr (fun j => (f2 j).map ad))))))
        rw [h2, vp_cell_q, vp_cell_q]
        unfold arrV
        congr 2
        have : (fun j : Fin n => va_rf ((f j.val).map ad)) = fun j : Fin n => va_rf ((f2 j.val).map ad) := funext (fun j => by rw [he j.val j.isLt])
        rw [this]
      · cases hi
    · rw [if_neg hia] at hi
      exact hP i q hi
  exact kk (by rw [List.length_set]; exact hM) (by rw [List.length_set]; exact hb0) H locs lsC ck sk (by rw [List.length_set]; exact hz) (by rw [List.length_set]; exact hck) (by rw [wt_set hs a _ (.inl (3, n, .inr (.inr (.inr (.inr f2))))) ha rfl]; exact hsk) hP1 hS hl
end CN
/-! contracts of constructors: es are the new cells, behind this -/
def WPn (D : va_G) (cA : Nat → ClassId) (ad : Nat → Nat) (ci : Nat) (fs : List Value) (n z : Nat) : State → Prop := fun U => U.heap.size = z + 1 ∧ va_P D vwCl (tw cA ad [.inr (ci, fs)]) U.heap ∧ KX D cA U ∧ va_AO "StripFlag$Cloth" U ∧ ∀ k, 1 ≤ k → k < 1 + n → ad k = z + k
def QN (D : va_G) (cA : Nat → ClassId) (ad : Nat → Nat) (e0 : va_E) (es : List va_E) (z : Nat) (A : Nat → Prop) : Array Value → State → Outcome → State → Prop := fun _ st oc t =>
  (oc = .returned none ∧ t.heap.size = z + 1 + es.length ∧ va_P D vwCl (tw cA ad (e0 :: es)) t.heap) ∧ va_F A st t
def rmN (d : Nat) (es : List va_E) : Room := { frames := d, cells := es.length, slots := wt es, locals := 40 * d }
def Nt (l : Launch) (d : Nat) (y : MethodName) (bytes : ByteArray) (maxL ci : Nat) (fs : List Value) (e0 : va_E) (es : List va_E) : Prop :=
  ∀ (D : va_G) (cA : Nat → ClassId) (ad : Nat → Nat) (z : Nat), Met l y (.code y bytes maxL none :: GW) (rmN d es) (va_Pc [.ref (ad 0)] (WPn D cA ad ci fs es.length z)) (QN D cA ad e0 es z (va_A (tw cA ad [.inr (ci, fs)]) (z + 1))) es.length (wt es) (va_A (tw cA ad [.inr (ci, fs)]) (z + 1))
theorem wpn_blind {D : va_G} {cA : Nat → ClassId} {ad : Nat → Nat} {ci : Nat} {fs : List Value} {n z : Nat} {av : List Value} : FrameBlind (va_Pc av (WPn D cA ad ci fs n z)) := fun a U g mk q => ⟨q.1, q.2.1, q.2.2.1, ⟨va_K.moved (u := U) (U := U.calling g mk a) (Vm.Alike.refl U.vm) q.2.2.2.1.1, NWs.same (s := U) (U := U.calling g mk a) rfl q.2.2.2.1.2⟩, va_AO.moved (u := U) (U := U.calling g mk a) (Vm.Alike.refl U.vm) q.2.2.2.2.1, q.2.2.2.2.2⟩
set_option maxHeartbeats 4000000 in
theorem Nt.of {l : Launch} {d : Nat} {y : MethodName} {bytes : ByteArray} {maxL ci : Nat} {fs : List Value} {e0 : va_E} {es : List va_E} (hy : plainName y.cls = true) (hi : y.name = "<init>") (hml0 : 1 ≤ maxL) (hw0 : wt1 e0 = fs.length)
    (body : ∀ K : AK, Cn l bytes y.cls maxL (rmN d es) (1 + es.length) 1 (fs.length + wt es) K → (∀ (pc : Nat) (ls : AL), decode bytes pc = .ok (.return_, 1) → K pc ls [] (e0 :: es)) → K 0 [(0, .ref 0)] [] [.inr (ci, fs)]) : Nt l d y bytes maxL ci fs e0 es := by
  intro D cA ad z
  refine Met.ofW (cc := bytes) (maxL := maxL) (ret := none) hy rfl ?_
  intro p e s m args0 below meth c s₁ B hml hv
  obtain ⟨rfl, hsz, hP, hK, hAO, had⟩ := hv
  have hx := B.exec
  have hb := B.bytes
  have hr := B.returns
  have hts := atoms_spec (ws := Cond.code y bytes maxL none :: GW) B.pre
  have hown : s.vm.findClass y.cls = some m.cls := findClass_of_methodNamed B.named
  have hlocks := B.notSynchronized
  have hin : meth.name = "<init>" := by rw [← hi]; exact (name_of_methodNamed B.named B.method).1
  have had0 : ad 0 < z + 1 := by rw [← hsz]; exact (hP 0 _ rfl).lt
  have hA : ∀ q : Nat, s.heap.size ≤ q → va_A (tw cA ad [.inr (ci, fs)]) (z + 1) q := fun q h => Or.inr (by omega)
  have hS : va_S (va_A (tw cA ad [.inr (ci, fs)]) (z + 1)) s.heap s.heap [] := va_S.rf
  have hl := lv_entry ([Value.ref (ad 0)]) (n := maxL) hml0
  rw [lg_entry_eq]
  have hD0 : ∀ hs : List va_E, hs.length ≤ 1 + es.length → va_D (va_A (tw cA ad [.inr (ci, fs)]) (z + 1)) (tw cA ad hs) := by
    intro hs hn
    refine ⟨fun i j p q hp hq epq => ?_, fun k q hq => ?_⟩
    · obtain ⟨e1, l1⟩ := tw_1 hp
      obtain ⟨e2, l2⟩ := tw_1 hq
      rw [e1, e2] at epq
      rcases Nat.eq_zero_or_pos i with hi0 | hi0
      · rcases Nat.eq_zero_or_pos j with hj0 | hj0
        · omega
        · rw [had j hj0 (by omega), hi0] at epq; omega
      · rcases Nat.eq_zero_or_pos j with hj0 | hj0
        · rw [had i hi0 (by omega), hj0] at epq; omega
        · rw [had i hi0 (by omega), had j hj0 (by omega)] at epq; omega
    · obtain ⟨e1, l1⟩ := tw_1 hq
      rw [e1]
      rcases Nat.eq_zero_or_pos k with hk0 | hk0
      · rw [hk0]; exact va_A.in (k := 0) (q := (ad 0, _)) rfl
      · exact Or.inr (by rw [had k hk0 (by omega)]; omega)
  refine body (Gn p l e (rmN d es) s m ([Value.ref (ad 0)]).toArray below meth c D cA ad (va_A (tw cA ad [.inr (ci, fs)]) (z + 1)) s.heap maxL z (1 + es.length) 1 fs.length (MQ below (QN D cA ad e0 es z (va_A (tw cA ad [.inr (ci, fs)]) (z + 1))) ([Value.ref (ad 0)]).toArray s es.length (wt es) (va_A (tw cA ad [.inr (ci, fs)]) (z + 1)))) ?_ ?_ (by show 1 ≤ _; omega) (Nat.le_refl 1) s.heap [] _ 0 0 hsz (Nat.le_refl 1) (by show 0 + fs.length ≤ fs.length + 0; omega) hP hS hl
  · exact ⟨p, e, s, m, _, below, meth, c, D, cA, ad, _, s.heap, z, fs.length, _, ⟨hx, hb, hml, hown, fun w hw => hts w (List.mem_cons_of_mem _ hw), hK, hAO, hD0, hA, fun k h1 h2 => had k h1 (by omega), fun _ => hin, by show 1 + es.length ≤ es.length + 1; omega, by show fs.length + wt es ≤ wt es + fs.length; omega⟩, rfl⟩
  · intro pc ls hd hM hb0 H locs lsC ck sk hz hck hsk hP hS hl
    have hck : ck + 1 ≤ es.length + 1 := hck
    have hsk : sk + fs.length ≤ wt1 e0 + wt es := hsk
    have hz : H.size = z + (es.length + 1) := hz
    refine W.widen (k := es.length) (n := wt es) (by omega) (by omega) ?_
    exact W.vret hx hb hr (fun t ht hW => ⟨⟨rfl, by rw [ht, hz]; omega, by rw [ht]; exact hP⟩, hS.F ht⟩) hS.2.2 hd
/-- the caller's names of the callee's places -/
def rnN (a n : Nat) : Nat → Nat := fun k => if k = 0 then a else n + k - 1
section CNC
variable {l : Launch} {cc : ByteArray} {own : String} {nL : Nat} {R : Room} {M b SL : Nat} {K : AK} {pc : Nat} {ls : AL} {st : List Value} {hs : List va_E}
variable {y : MethodName} {bytes : ByteArray} {maxL d idx a ci : Nat} {fs : List Value} {e0 : va_E} {es : List va_E}
set_option maxHeartbeats 4000000 in
theorem Cn.callN (h : Cn l cc own nL R M b SL K) {host : String} (hlk : Cond.methodLinkNest own idx y host ∈ NL) (hd : decode cc pc = .ok (.invokespecial idx, 3)) (hm : MK y bytes maxL none 0) (hiv : y.name = "<init>" ∧ Cond.instanceMethod y ∈ GW) (hct : Nt l d y bytes maxL ci fs e0 es) (hR : rmOk d maxL R) (hcat : (st.map fun v => v.category).sum ≤ 8) (ha : hs[a]? = some (.inr (ci, fs))) (hfs : ∀ ad : Nat → Nat, fs.map (tv ad) = fs) (hw0 : wt1 (te (fun t => t) (rnN a hs.length) e0) = fs.length) (hwe : wt (es.map (te (fun t => t) (rnN a hs.length))) = wt es) (hlen : hs.length + es.length ≤ M) (hwt : wt hs + wt es ≤ SL)
    (k : K (pc + 3) ls st (hs.set a (te (fun t => t) (rnN a hs.length) e0) ++ es.map (te (fun t => t) (rnN a hs.length)))) : K pc ls (.ref a :: st) hs := by
  obtain ⟨p, e, s, m, args, below, meth, c, D, cA, ad, A0, H0, z, w, Q, ⟨hx, hb, hml, hown, hts, hKX, hAO, hD0, hA0, had, hin, hcl, hsl⟩, rfl⟩ := h
  intro hM hb0 H locs lsC ck sk hz hck hsk hP hS hl
  have hal : a < hs.length := (List.getElem?_eq_some_iff.mp ha).1
  have hDh := hD0 hs hM
  obtain ⟨z2, hz2⟩ : ∃ z2, H.size = z2 + 1 := ⟨H.size - 1, by omega⟩
  have hPc : va_P D vwCl (tw cA (fun j => ad (rnN a hs.length j)) [.inr (ci, fs)]) H := by
    intro k q hk
    have hk0 : k = 0 := by have := (tw_1 hk).2; simp at this; exact this
    subst hk0
    rw [tw_get] at hk
    rw [← Option.some.inj hk]
    have h1 := hP a _ (tw_at ha)
    show va_at D vwCl (ad (rnN a hs.length 0), Sum.inr (ci, fs.map (tv _))) H
    have e1 : te cA ad (.inr (ci, fs)) = .inr (ci, fs) := congrArg (fun q => (Sum.inr (ci, q) : va_E)) (hfs ad)
    rw [e1] at h1
    rw [hfs]
    exact h1
  have had2 : ∀ k, 1 ≤ k → k < 1 + es.length → ad (rnN a hs.length k) = z2 + k := fun k h1 h2 => by
    show ad (if k = 0 then a else hs.length + k - 1) = _
    rw [if_neg (by omega), had _ (by omega) (by omega)]
    omega
  have hr : va_Run p l e R s m args below meth c H locs ck sk es.length (wt es) (F0 m pc lsC (.ref (ad a) :: st.map (tv ad))) (st.map (tv ad)) (QN D cA (fun j => ad (rnN a hs.length j)) e0 es z2 (va_A (tw cA (fun j => ad (rnN a hs.length j)) [.inr (ci, fs)]) (z2 + 1)) [.ref (ad a)].toArray) (va_A (tw cA (fun j => ad (rnN a hs.length j)) [.inr (ci, fs)]) (z2 + 1)) :=
    va_runIN (As := []) (b := ad a) (n := 0) ⟨hx, hb, hml, hown, hts⟩ (hct D cA (fun j => ad (rnN a hs.length j)) z2) ⟨va_cnB 0 hts hm.good rfl rfl rfl (hKX.2 _ hlk) (hts _ hm.2.1) hm.2.2 hR, hiv.1, hts _ hiv.2⟩ ⟨wpn_blind, fun U hU hW => ⟨rfl, by rw [hU]; exact hz2, by rw [hU]; exact hPc, hKX.warm hW, hAO.moved hW.alike, had2⟩⟩ rfl rfl hl.1 rfl (lv_room (by
      rw [List.map_map]
      have : ((fun v : Value => v.category) ∘ tv ad) = fun v => v.category := funext (fun v => tv_cat ad v)
      rw [this]
      exact hcat)) hd ⟨by omega, by omega⟩
  have hF : ∀ q, va_A (tw cA (fun j => ad (rnN a hs.length j)) [.inr (ci, fs)]) (z2 + 1) q → A0 q := by
    intro q hq
    rcases hq with ⟨k0, e0, hk⟩ | hq
    · have h1 := tw_1 hk
      have hk0 : k0 = 0 := by have := h1.2; simp at this; exact this
      subst hk0
      have h2 : q = ad a := h1.1
      rw [h2]
      exact hDh.2 a _ (tw_at ha)
    · exact hA0 q (Nat.le_trans hS.1 (by omega))
  intro T hT X
  obtain ⟨v, st₀, t, T', L, h0, X', hL, e1, e2, ⟨⟨hv, hsz, hP1⟩, hzz, hk⟩, stp⟩ := hr T hT X
  cases hv
  rw [h0] at hzz hk
  have hPn : va_P D vwCl (tw cA ad (hs.set a (te (fun t => t) (rnN a hs.length) e0) ++ es.map (te (fun t => t) (rnN a hs.length)))) T'.heap := by
    intro i q hi
    rw [tw_get] at hi
    rw [e1]
    by_cases hil : i < hs.length
    · rw [List.getElem?_append_left (by rw [List.length_set]; exact hil), List.getElem?_set] at hi
      by_cases hia : a = i
      · subst hia
        rw [if_pos rfl, if_pos hil] at hi
        rw [← Option.some.inj hi]
        have h4 := hP1 0 _ (tw_at rfl)
        show va_at D vwCl (ad a, te cA ad (te (fun t => t) (rnN a hs.length) e0)) t.heap
        rw [te_te]
        exact h4
      · rw [if_neg hia] at hi
        have hi0 : (tw cA ad hs)[i]? = some q := by rw [tw_get]; exact hi
        have h4 := hP i q hi0
        refine h4.kept (hk q.1 h4.lt ?_)
        rintro (⟨j, ej, hj⟩ | hq)
        · have h1 := tw_1 hj
          have hk0 : j = 0 := by have := h1.2; simp at this; exact this
          subst hk0
          have h2 : q.1 = ad a := h1.1
          exact hia (hDh.1 a i _ q (tw_at ha) hi0 h2.symm)
        · have := h4.lt
          omega
    · rw [List.getElem?_append_right (by rw [List.length_set]; omega), List.length_set, List.getElem?_map] at hi
      cases he : es[i - hs.length]? with
      | none => rw [he] at hi; cases hi
      | some ej =>
        rw [he] at hi
        rw [← Option.some.inj hi]
        have h4 := hP1 (i - hs.length + 1) _ (tw_at (by rw [List.getElem?_cons_succ]; exact he))
        show va_at D vwCl (ad i, te cA ad (te (fun t => t) (rnN a hs.length) ej)) t.heap
        rw [te_te]
        have e5 : rnN a hs.length (i - hs.length + 1) = i := by
          show (if i - hs.length + 1 = 0 then a else hs.length + (i - hs.length + 1) - 1) = i
          rw [if_neg (by omega)]; omega
        rw [e5] at h4
        exact h4
  have hlen2 : (hs.set a (te (fun t => t) (rnN a hs.length) e0) ++ es.map (te (fun t => t) (rnN a hs.length))).length = hs.length + es.length := by rw [List.length_append, List.length_set, List.length_map]
  obtain ⟨t2, a1, b1⟩ := k (by rw [hlen2]; exact hlen) (by rw [hlen2]; omega) T'.heap (locs ++ L) lsC (ck + es.length) (sk + wt es) (by rw [hlen2, e1, hsz]; omega) (by rw [hlen2]; omega) (by rw [wt_app, wt_set hs a _ _ ha hw0, hwe]; omega) hPn
    ⟨Nat.le_trans hS.1 (by rw [e1]; exact hzz), fun q h1 h2 => by rw [e1, hk q (Nat.lt_of_lt_of_le h1 hS.1) (fun z => h2 (hF q z))]; exact hS.2.1 q h1 h2, fun q hq => by
      rcases List.mem_append.mp hq with h | h
      · exact hS.2.2 q h
      · exact hF _ (hL q h)⟩ hl T' rfl X'
  exact ⟨t2, stp t2 a1, b1⟩
set_option maxHeartbeats 4000000 in
theorem Cn.callI (h : Cn l cc own nL R M b SL K) (hlk : Cond.methodLink own idx y ∈ GW) (hd : decode cc pc = .ok (.invokespecial idx, 3)) (hm : MK y bytes maxL none 0) (hiv : y.name = "<init>" ∧ Cond.instanceMethod y ∈ GW) (hct : Nt l d y bytes maxL ci fs e0 es) (hR : rmOk d maxL R) (hcat : (st.map fun v => v.category).sum ≤ 8) (ha : hs[a]? = some (.inr (ci, fs))) (hfs : ∀ ad : Nat → Nat, fs.map (tv ad) = fs) (hw0 : wt1 (te (fun t => t) (rnN a hs.length) e0) = fs.length) (hwe : wt (es.map (te (fun t => t) (rnN a hs.length))) = wt es) (hlen : hs.length + es.length ≤ M) (hwt : wt hs + wt es ≤ SL)
    (k : K (pc + 3) ls st (hs.set a (te (fun t => t) (rnN a hs.length) e0) ++ es.map (te (fun t => t) (rnN a hs.length)))) : K pc ls (.ref a :: st) hs := by
  obtain ⟨p, e, s, m, args, below, meth, c, D, cA, ad, A0, H0, z, w, Q, ⟨hx, hb, hml, hown, hts, hKX, hAO, hD0, hA0, had, hin, hcl, hsl⟩, rfl⟩ := h
  intro hM hb0 H locs lsC ck sk hz hck hsk hP hS hl
  have hal : a < hs.length := (List.getElem?_eq_some_iff.mp ha).1
  have hDh := hD0 hs hM
  obtain ⟨z2, hz2⟩ : ∃ z2, H.size = z2 + 1 := ⟨H.size - 1, by omega⟩
  have hPc : va_P D vwCl (tw cA (fun j => ad (rnN a hs.length j)) [.inr (ci, fs)]) H := by
    intro k q hk
    have hk0 : k = 0 := by have := (tw_1 hk).2; simp at this; exact this
    subst hk0
    rw [tw_get] at hk
    rw [← Option.some.inj hk]
    have h1 := hP a _ (tw_at ha)
    show va_at D vwCl (ad (rnN a hs.length 0), Sum.inr (ci, fs.map (tv _))) H
    have e1 : te cA ad (.inr (ci, fs)) = .inr (ci, fs) := congrArg (fun q => (Sum.inr (ci, q) : va_E)) (hfs ad)
    rw [e1] at h1
    rw [hfs]
    exact h1
  have had2 : ∀ k, 1 ≤ k → k < 1 + es.length → ad (rnN a hs.length k) = z2 + k := fun k h1 h2 => by
    show ad (if k = 0 then a else hs.length + k - 1) = _
    rw [if_neg (by omega), had _ (by omega) (by omega)]
    omega
  have hr : va_Run p l e R s m args below meth c H locs ck sk es.length (wt es) (F0 m pc lsC (.ref (ad a) :: st.map (tv ad))) (st.map (tv ad)) (QN D cA (fun j => ad (rnN a hs.length j)) e0 es z2 (va_A (tw cA (fun j => ad (rnN a hs.length j)) [.inr (ci, fs)]) (z2 + 1)) [.ref (ad a)].toArray) (va_A (tw cA (fun j => ad (rnN a hs.length j)) [.inr (ci, fs)]) (z2 + 1)) :=
    va_runI (As := []) (b := ad a) (n := 0) ⟨hx, hb, hml, hown, hts⟩ (hct D cA (fun j => ad (rnN a hs.length j)) z2) ⟨callB_of 0 hts hm.good rfl rfl rfl (hts _ hm.2.1) (hts _ hlk) hm.2.2 hR, hiv.1, hts _ hiv.2⟩ ⟨wpn_blind, fun U hU hW => ⟨rfl, by rw [hU]; exact hz2, by rw [hU]; exact hPc, hKX.warm hW, hAO.moved hW.alike, had2⟩⟩ rfl rfl hl.1 rfl (lv_room (by
      rw [List.map_map]
      have : ((fun v : Value => v.category) ∘ tv ad) = fun v => v.category := funext (fun v => tv_cat ad v)
      rw [this]
      exact hcat)) hd ⟨by omega, by omega⟩
  have hF : ∀ q, va_A (tw cA (fun j => ad (rnN a hs.length j)) [.inr (ci, fs)]) (z2 + 1) q → A0 q := by
    intro q hq
    rcases hq with ⟨k0, e0, hk⟩ | hq
    · have h1 := tw_1 hk
      have hk0 : k0 = 0 := by have := h1.2; simp at this; exact this
      subst hk0
      have h2 : q = ad a := h1.1
      rw [h2]
      exact hDh.2 a _ (tw_at ha)
    · exact hA0 q (Nat.le_trans hS.1 (by omega))
  intro T hT X
  obtain ⟨v, st₀, t, T', L, h0, X', hL, e1, e2, ⟨⟨hv, hsz, hP1⟩, hzz, hk⟩, stp⟩ := hr T hT X
  cases hv
  rw [h0] at hzz hk
  have hPn : va_P D vwCl (tw cA ad (hs.set a (te (fun t => t) (rnN a hs.length) e0) ++ es.map (te (fun t => t) (rnN a hs.length)))) T'.heap := by
    intro i q hi
    rw [tw_get] at hi
    rw [e1]
    by_cases hil : i < hs.length
    · rw [List.getElem?_append_left (by rw [List.length_set]; exact hil), List.getElem?_set] at hi
      by_cases hia : a = i
      · subst hia
        rw [if_pos rfl, if_pos hil] at hi
        rw [← Option.some.inj hi]
        have h4 := hP1 0 _ (tw_at rfl)
        show va_at D vwCl (ad a, te cA ad (te (fun t => t) (rnN a hs.length) e0)) t.heap
        rw [te_te]
        exact h4
      · rw [if_neg hia] at hi
        have hi0 : (tw cA ad hs)[i]? = some q := by rw [tw_get]; exact hi
        have h4 := hP i q hi0
        refine h4.kept (hk q.1 h4.lt ?_)
        rintro (⟨j, ej, hj⟩ | hq)
        · have h1 := tw_1 hj
          have hk0 : j = 0 := by have := h1.2; simp at this; exact this
          subst hk0
          have h2 : q.1 = ad a := h1.1
          exact hia (hDh.1 a i _ q (tw_at ha) hi0 h2.symm)
        · have := h4.lt
          omega
    · rw [List.getElem?_append_right (by rw [List.length_set]; omega), List.length_set, List.getElem?_map] at hi
      cases he : es[i - hs.length]? with
      | none => rw [he] at hi; cases hi
      | some ej =>
        rw [he] at hi
        rw [← Option.some.inj hi]
        have h4 := hP1 (i - hs.length + 1) _ (tw_at (by rw [List.getElem?_cons_succ]; exact he))
        show va_at D vwCl (ad i, te cA ad (te (fun t => t) (rnN a hs.length) ej)) t.heap
        rw [te_te]
        have e5 : rnN a hs.length (i - hs.length + 1) = i := by
          show (if i - hs.length + 1 = 0 then a else hs.length + (i - hs.length + 1) - 1) = i
          rw [if_neg (by omega)]; omega
        rw [e5] at h4
        exact h4
  have hlen2 : (hs.set a (te (fun t => t) (rnN a hs.length) e0) ++ es.map (te (fun t => t) (rnN a hs.length))).length = hs.length + es.length := by rw [List.length_append, List.length_set, List.length_map]
  obtain ⟨t2, a1, b1⟩ := k (by rw [hlen2]; exact hlen) (by rw [hlen2]; omega) T'.heap (locs ++ L) lsC (ck + es.length) (sk + wt es) (by rw [hlen2, e1, hsz]; omega) (by rw [hlen2]; omega) (by rw [wt_app, wt_set hs a _ _ ha hw0, hwe]; omega) hPn
    ⟨Nat.le_trans hS.1 (by rw [e1]; exact hzz), fun q h1 h2 => by rw [e1, hk q (Nat.lt_of_lt_of_le h1 hS.1) (fun z => h2 (hF q z))]; exact hS.2.1 q h1 h2, fun q hq => by
      rcases List.mem_append.mp hq with h | h
      · exact hS.2.2 q h
      · exact hF _ (hL q h)⟩ hl T' rfl X'
  exact ⟨t2, stp t2 a1, b1⟩
end CNC
