/-! CONTRACTS (Ct) of methods over worlds of places; fields, calls, returns in the walk. -/
def rmD (d : Nat) : Room := { frames := d, cells := 0, slots := 0, locals := 40 * d }
def WPd (D : va_G) (cA : Nat → ClassId) (ad : Nat → Nat) (hs : List va_E) (sz : Nat) : State → Prop := fun U => U.heap.size = sz ∧ va_P D vwCl (tw cA ad hs) U.heap ∧ KX D cA U ∧ va_D (fun _ => True) (tw cA ad hs) ∧ SX ad (va_A (tw cA ad hs) sz) U U.heap
def QX (D : va_G) (cA : Nat → ClassId) (ad : Nat → Nat) (n : Nat) (post : Option Value → List va_E → Prop) (A : Nat → Prop) : Array Value → State → Outcome → State → Prop := fun _ st oc t =>
  (∃ (r : Option Value) (hs2 : List va_E), oc = .returned (r.map (tv ad)) ∧ post r hs2 ∧ hs2.length = n ∧ va_P D vwCl (tw cA ad hs2) t.heap) ∧ va_F A st t
def Ct (l : Launch) (d : Nat) (y : MethodName) (bytes : ByteArray) (maxL : Nat) (ret : Option FieldType) (args : List Value) (hs : List va_E) (post : Option Value → List va_E → Prop) : Prop :=
  ∀ (D : va_G) (cA : Nat → ClassId) (ad : Nat → Nat) (sz : Nat), Met l y (.code y bytes maxL ret :: GW) (rmD d) (va_Pc (args.map (tv ad)) (WPd D cA ad hs sz)) (QX D cA ad hs.length post (va_A (tw cA ad hs) sz)) 0 0 (va_A (tw cA ad hs) sz)
def ClR (cc : ByteArray) (ret : Option FieldType) (post : Option Value → List va_E → Prop) (K : AK) : Prop := ∀ (pc : Nat) (ls : AL) (hs : List va_E),
  (∀ v : Int32, ret = some .int → decode cc pc = .ok (.ireturn, 1) → post (some (.int v)) hs → K pc ls [.int v] hs) ∧
  (∀ v : Int32, ret = some .boolean → narrow .boolean (.int v) = .int v → decode cc pc = .ok (.ireturn, 1) → post (some (.int v)) hs → K pc ls [.int v] hs) ∧
  (∀ v : Int64, ret = some .long → decode cc pc = .ok (.lreturn, 1) → post (some (.long v)) hs → K pc ls [.long v] hs) ∧
  (ret = none → decode cc pc = .ok (.return_, 1) → post none hs → K pc ls [] hs) ∧
  (∀ v : Int32, ret = some .char → narrow .char (.int v) = .int v → decode cc pc = .ok (.ireturn, 1) → post (some (.int v)) hs → K pc ls [.int v] hs)
theorem ClR.ireturn {cc : ByteArray} {post : Option Value → List va_E → Prop} {K : AK} {pc : Nat} {ls : AL} {hs : List va_E} (h : ClR cc (some .int) post K) {v : Int32} (hd : decode cc pc = .ok (.ireturn, 1)) (hp : post (some (.int v)) hs) : K pc ls [.int v] hs := (h pc ls hs).1 v rfl hd hp
theorem ClR.zreturn {cc : ByteArray} {post : Option Value → List va_E → Prop} {K : AK} {pc : Nat} {ls : AL} {hs : List va_E} (h : ClR cc (some .boolean) post K) {v : Int32} (hd : decode cc pc = .ok (.ireturn, 1)) (hn : narrow .boolean (.int v) = .int v) (hp : post (some (.int v)) hs) : K pc ls [.int v] hs := (h pc ls hs).2.1 v rfl hn hd hp
theorem ClR.creturn {cc : ByteArray} {post : Option Value → List va_E → Prop} {K : AK} {pc : Nat} {ls : AL} {hs : List va_E} (h : ClR cc (some .char) post K) {v : Int32} (hd : decode cc pc = .ok (.ireturn, 1)) (hn : narrow .char (.int v) = .int v) (hp : post (some (.int v)) hs) : K pc ls [.int v] hs := (h pc ls hs).2.2.2.2 v rfl hn hd hp
theorem ClR.lreturn {cc : ByteArray} {post : Option Value → List va_E → Prop} {K : AK} {pc : Nat} {ls : AL} {hs : List va_E} (h : ClR cc (some .long) post K) {v : Int64} (hd : decode cc pc = .ok (.lreturn, 1)) (hp : post (some (.long v)) hs) : K pc ls [.long v] hs := (h pc ls hs).2.2.1 v rfl hd hp
theorem ClR.return_ {cc : ByteArray} {post : Option Value → List va_E → Prop} {K : AK} {pc : Nat} {ls : AL} {hs : List va_E} (h : ClR cc none post K) (hd : decode cc pc = .ok (.return_, 1)) (hp : post none hs) : K pc ls [] hs := (h pc ls hs).2.2.2.1 rfl hd hp
theorem lg_sl_tv (ad : Nat → Nat) (vs : List Value) : (lg_sl (vs.map (tv ad))).length = (lg_sl vs).length := by
  induction vs with
  | nil => rfl
  | cons v vs ih => cases v <;> simp_all [lg_sl, tv, Value.category]
set_option maxHeartbeats 4000000 in
theorem Ct.of {l : Launch} {d : Nat} {y : MethodName} {bytes : ByteArray} {maxL : Nat} {ret : Option FieldType} {args : List Value} {hs : List va_E} {post : Option Value → List va_E → Prop} (hy : plainName y.cls = true) (hlen : (lg_sl args).length ≤ maxL)
    (body : ∀ K : AK, Cl l bytes y.cls maxL (rmD d) K → ClR bytes ret post K → K 0 (lv_args 0 args) [] hs) : Ct l d y bytes maxL ret args hs post := by
  intro D cA ad sz
  refine Met.ofW (cc := bytes) (maxL := maxL) (ret := ret) hy rfl ?_
  intro p e s m args0 below meth c s₁ B hml hv
  obtain ⟨rfl, hsz, hP, hK, hD0, hSX⟩ := hv
  have hx := B.exec
  have hb := B.bytes
  have hr := B.returns
  have hts := atoms_spec (ws := Cond.code y bytes maxL ret :: GW) B.pre
  have hown : s.vm.findClass y.cls = some m.cls := findClass_of_methodNamed B.named
  have hlocks := B.notSynchronized
  subst hsz
  have hA : ∀ q : Nat, s.heap.size ≤ q → va_A (tw cA ad hs) s.heap.size q := fun q h => Or.inr h
  have hS : va_S (va_A (tw cA ad hs) s.heap.size) s.heap s.heap [] := va_S.rf
  have hl := lv_entry (args.map (tv ad)) (n := maxL) (by rw [lg_sl_tv]; exact hlen)
  rw [lg_entry_eq]
  rw [tv_args] at hl
  refine body (Go p l e (rmD d) s m (args.map (tv ad)).toArray below meth c D cA ad (va_A (tw cA ad hs) s.heap.size) s.heap maxL hs.length 0 0 (MQ below (QX D cA ad hs.length post (va_A (tw cA ad hs) s.heap.size)) (args.map (tv ad)).toArray s 0 0 (va_A (tw cA ad hs) s.heap.size))) ?_ ?_ rfl s.heap [] _ hP hS hl
  · exact ⟨p, e, s, m, _, below, meth, c, D, cA, ad, _, s.heap, _, 0, 0, _, ⟨hx, hb, hml, hown, fun w hw => hts w (List.mem_cons_of_mem _ hw), hK, fun hs2 hn => va_D_len hn hD0.self, hA, ⟨Nat.le_refl _, Nat.le_refl _⟩, hSX⟩, rfl⟩
  · intro pc ls hs2
    refine ⟨fun v e1 hd hp => ?_, fun v e1 hnr hd hp => ?_, fun v e1 hd hp => ?_, fun e1 hd hp => ?_, fun v e1 hnr hd hp => ?_⟩
    · subst e1
      intro hn H locs lsC hP hS hl
      exact W.iret hx hb hr (fun t ht hW => ⟨⟨some (.int v), hs2, rfl, hp, hn, by rw [ht]; exact hP⟩, hS.F ht⟩) hS.2.2 hd
    · subst e1
      intro hn H locs lsC hP hS hl
      exact W.zret hx hb hr hnr (fun t ht hW => ⟨⟨some (.int v), hs2, rfl, hp, hn, by rw [ht]; exact hP⟩, hS.F ht⟩) hS.2.2 hd
    · subst e1
      intro hn H locs lsC hP hS hl
      exact W.lret hx hb hr (fun t ht hW => ⟨⟨some (.long v), hs2, rfl, hp, hn, by rw [ht]; exact hP⟩, hS.F ht⟩) hS.2.2 hd
    · subst e1
      intro hn H locs lsC hP hS hl
      exact W.vret hx hb hr (fun t ht hW => ⟨⟨none, hs2, rfl, hp, hn, by rw [ht]; exact hP⟩, hS.F ht⟩) hS.2.2 hd
    · subst e1
      intro hn H locs lsC hP hS hl
      exact W.zret hx hb hr hnr (fun t ht hW => ⟨⟨some (.int v), hs2, rfl, hp, hn, by rw [ht]; exact hP⟩, hS.F ht⟩) hS.2.2 hd
/-- a contract with a weaker end, with more room -/
theorem Ct.mono {l : Launch} {d : Nat} {y : MethodName} {bytes : ByteArray} {maxL : Nat} {ret : Option FieldType} {args : List Value} {hs : List va_E} {post post2 : Option Value → List va_E → Prop} (h : Ct l d y bytes maxL ret args hs post) (hp : ∀ r h2, post r h2 → post2 r h2) : Ct l d y bytes maxL ret args hs post2 := by
  intro D cA ad sz p e ha hc hk s m args2 below hf happ hP hK
  obtain ⟨k, o, h1, h2, h3, ⟨⟨r, hs2, e1, e2, e3⟩, e4⟩, e5⟩ := h D cA ad sz p e ha hc hk s m args2 below hf happ hP hK
  exact ⟨k, o, h1, h2, h3, ⟨⟨r, hs2, e1, hp _ _ e2, e3⟩, e4⟩, e5⟩
/-! fields -/
def TB (q : vw_C) : Prop := (∀ w ∈ u_ws q.1 q.2.1 q.2.2, w ∈ GW) ∧ (∃ ty0 : Nat → FieldType, ∀ k, k < q.2.2 → parseFieldDescriptor (q.2.1 k).2.2.1 = some (ty0 k)) ∧ (∀ a, a < q.2.2 → ∀ b, b < q.2.2 → a ≠ b → (q.2.1 a).2.1 ≠ (q.2.1 b).2.1)
def LkF (own : String) (idx ci k : Nat) : Prop := ∃ (C : String) (T : u_T) (N : Nat), vwCl[ci]? = some (C, T, N) ∧ TB (C, T, N) ∧ k < N ∧ (T k).1 = C ∧ Cond.fieldLink own idx C (T k).2.1 (T k).2.2.1 ∈ GW
def LkP (own : String) (idx ci k : Nat) (ty : FieldType) : Prop := ∃ (C : String) (T : u_T) (N : Nat), vwCl[ci]? = some (C, T, N) ∧ TB (C, T, N) ∧ k < N ∧ (T k).1 = C ∧ Cond.fieldLink own idx C (T k).2.1 (T k).2.2.1 ∈ GW ∧ (T k).2.2.2 = false ∧ parseFieldDescriptor (T k).2.2.1 = some ty
section CLF
variable {l : Launch} {cc : ByteArray} {own : String} {nL : Nat} {R : Room} {K : AK} {pc : Nat} {ls : AL} {st : List Value} {hs : List va_E}
theorem Cl.getfield (h : Cl l cc own nL R K) {idx ci k a : Nat} {fs : List Value} {v : Value} (hd : decode cc pc = .ok (.getfield idx, 3)) (hlk : LkF own idx ci k) (ha : hs[a]? = some (.inr (ci, fs))) (hv : fs[k]? = some v) (kk : K (pc + 3) ls (v :: st) hs) : K pc ls (.ref a :: st) hs := by
  obtain ⟨p, e, s, m, args, below, meth, c, D, cA, ad, A0, H0, N, ck, sk, Q, ⟨hx, hb, hml, hown, hts, hKX, hD0, hA0, hcs⟩, rfl⟩ := h
  obtain ⟨C, T, n, hc, ⟨hin, -, -⟩, hk, hT, hw⟩ := hlk
  intro hn H locs lsC hP hS hl
  exact va_get (v := tv ad v) hx hb hts hin hown hKX.1 hP a (tw_at ha) hc k hk (hts _ hw) (fun x h => by rw [← hT]; exact h) (by rw [List.getElem?_map, hv]; rfl) hd (kk hn H locs lsC hP hS hl)
theorem Cl.putI (h : Cl l cc own nL R K) {idx ci k a : Nat} {ty : FieldType} {fs : List Value} {v : Int32} (hd : decode cc pc = .ok (.putfield idx, 3)) (hlk : LkP own idx ci k ty) (hnr : narrow ty (.int v) = .int v) (hft : fits ty (.int v) = true) (ha : hs[a]? = some (.inr (ci, fs))) (hf : k < fs.length) (kk : K (pc + 3) ls st (hs.set a (.inr (ci, fs.set k (.int v))))) : K pc ls (.int v :: .ref a :: st) hs := by
  obtain ⟨p, e, s, m, args, below, meth, c, D, cA, ad, A0, H0, N, ck, sk, Q, ⟨hx, hb, hml, hown, hts, hKX, hD0, hA0, hcs⟩, rfl⟩ := h
  obtain ⟨C, T, n, hc, ⟨hin, ⟨ty0, hty⟩, hnm⟩, hk, hT, hw, hfin, hpd⟩ := hlk
  intro hn H locs lsC hP hS hl
  exact va_put (v := .int v) hx hb hts hin ty0 hty hnm hown hKX.1 hP (hD0 hs hn) hS a (tw_at ha) hc k hk (hts _ hw) (fun x h => by rw [← hT]; exact h) hfin hpd hnr hft (by rw [List.length_map]; exact hf) hd
    (fun H1 locs1 hP1 hD1 hS1 => kk (by rw [List.length_set]; exact hn) H1 locs1 lsC (by rw [tw_set]; rw [show te cA ad (.inr (ci, fs.set k (.int v))) = .inr (ci, (fs.map (tv ad)).set k (.int v)) from by show Sum.inr (ci, List.map (tv ad) (fs.set k (.int v))) = _; rw [List.map_set]; rfl]; exact hP1) hS1 hl)
theorem Cl.putR (h : Cl l cc own nL R K) {idx ci k a v : Nat} {C0 : String} {fs : List Value} (hd : decode cc pc = .ok (.putfield idx, 3)) (hlk : LkP own idx ci k (.object C0)) (ha : hs[a]? = some (.inr (ci, fs))) (hf : k < fs.length) (kk : K (pc + 3) ls st (hs.set a (.inr (ci, fs.set k (.ref v))))) : K pc ls (.ref v :: .ref a :: st) hs := by
  obtain ⟨p, e, s, m, args, below, meth, c, D, cA, ad, A0, H0, N, ck, sk, Q, ⟨hx, hb, hml, hown, hts, hKX, hD0, hA0, hcs⟩, rfl⟩ := h
  obtain ⟨C, T, n, hc, ⟨hin, ⟨ty0, hty⟩, hnm⟩, hk, hT, hw, hfin, hpd⟩ := hlk
  intro hn H locs lsC hP hS hl
  exact va_put (v := .ref (ad v)) hx hb hts hin ty0 hty hnm hown hKX.1 hP (hD0 hs hn) hS a (tw_at ha) hc k hk (hts _ hw) (fun x h => by rw [← hT]; exact h) hfin hpd rfl rfl (by rw [List.length_map]; exact hf) hd
    (fun H1 locs1 hP1 hD1 hS1 => kk (by rw [List.length_set]; exact hn) H1 locs1 lsC (by rw [tw_set]; rw [show te cA ad (.inr (ci, fs.set k (.ref v))) = .inr (ci, (fs.map (tv ad)).set k (.ref (ad v))) from by show Sum.inr (ci, List.map (tv ad) (fs.set k (.ref v))) = _; rw [List.map_set]; rfl]; exact hP1) hS1 hl)
/-- fewer locals, in any order -/
theorem Cl.locals (h : Cl l cc own nL R K) {ls2 : AL} (hsub : ∀ q ∈ ls2, lk ls q.1 = some q.2) (kk : K pc ls2 st hs) : K pc ls st hs := by
  obtain ⟨p, e, s, m, args, below, meth, c, D, cA, ad, A0, H0, N, ck, sk, Q, ⟨hx, hb, hml, hown, hts, hKX, hD0, hA0, hcs⟩, rfl⟩ := h
  intro hn H locs lsC hP hS hl
  refine kk hn H locs lsC hP hS ⟨hl.1, hl.2.1, fun q hq => ?_⟩
  obtain ⟨q0, h0, rfl⟩ := List.mem_map.mp hq
  exact lk_at hl (hsub q0 h0)
end CLF
/-! calls: the callee's world is cut out by places -/
def rn (is : List Nat) : Nat → Nat := fun j => is.getD j j
def pb : List Nat → List va_E → List va_E → List va_E
  | i :: is, e :: es, hs => pb is es (hs.set i e)
  | _, _, hs => hs
theorem nd_inj : ∀ (is : List Nat) (i j a : Nat), is.Nodup → is[i]? = some a → is[j]? = some a → i = j
  | [], _, _, _, _, h, _ => by simp at h
  | x :: is, 0, 0, _, _, _, _ => rfl
  | x :: is, 0, j + 1, a, hn, h1, h2 => by
    have e1 : x = a := by simpa using h1
    have h3 : is[j]? = some a := by simpa using h2
    exact absurd (e1 ▸ List.mem_of_getElem? h3) (List.nodup_cons.mp hn).1
  | x :: is, i + 1, 0, a, hn, h1, h2 => by
    have e1 : x = a := by simpa using h2
    have h3 : is[i]? = some a := by simpa using h1
    exact absurd (e1 ▸ List.mem_of_getElem? h3) (List.nodup_cons.mp hn).1
  | x :: is, i + 1, j + 1, a, hn, h1, h2 => by
    have := nd_inj is i j a (List.nodup_cons.mp hn).2 (by simpa using h1) (by simpa using h2)
    omega
theorem pb_len : ∀ (is : List Nat) (es hs : List va_E), (pb is es hs).length = hs.length
  | [], _, _ => rfl
  | _ :: _, [], _ => rfl
  | i :: is, e :: es, hs => by
    show (pb is es (hs.set i e)).length = _
    rw [pb_len is es, List.length_set]
theorem pb_out : ∀ (is : List Nat) (es hs : List va_E) (k : Nat), k ∉ is → (pb is es hs)[k]? = hs[k]?
  | [], _, _, _, _ => rfl
  | _ :: _, [], _, _, _ => rfl
  | i :: is, e :: es, hs, k, hk => by
    show (pb is es (hs.set i e))[k]? = _
    rw [pb_out is es _ k (fun h => hk (List.mem_cons_of_mem _ h)), List.getElem?_set_ne (fun h => hk (by rw [h]; exact List.mem_cons_self))]
theorem pb_in : ∀ (is : List Nat) (es hs : List va_E) (j k : Nat) (e : va_E), is.Nodup → is[j]? = some k → es[j]? = some e → k < hs.length → (pb is es hs)[k]? = some e
  | [], _, _, j, _, _, _, h, _, _ => by simp at h
  | _ :: _, [], _, j, _, _, _, _, h, _ => by simp at h
  | i :: is, x :: es, hs, j, k, e, hnd, hi, he, hl => by
    show (pb is es (hs.set i x))[k]? = _
    obtain ⟨h1, h2⟩ := List.nodup_cons.mp hnd
    cases j with
    | zero =>
      have e1 : i = k := by simpa using hi
      have e2 : x = e := by simpa using he
      subst e1; subst e2
      rw [pb_out is es _ i h1, List.getElem?_set_self hl]
    | succ j =>
      exact pb_in is es _ j k e h2 (by simpa using hi) (by simpa using he) (by rw [List.length_set]; exact hl)
def Cut (is : List Nat) (hc hs : List va_E) : Prop := (is.Nodup ∧ is.length ≤ 1000) ∧ is.map (fun i => hs[i]?) = hc.map (fun e => some (te (fun t => t) (rn is) e))
theorem Cut.at {is : List Nat} {hc hs : List va_E} (h : Cut is hc hs) {j : Nat} {e : va_E} (he : hc[j]? = some e) : ∃ i, is[j]? = some i ∧ rn is j = i ∧ hs[i]? = some (te (fun t => t) (rn is) e) := by
  have h1 : (is.map (fun i => hs[i]?))[j]? = some (some (te (fun t => t) (rn is) e)) := by rw [h.2, List.getElem?_map, he]; rfl
  rw [List.getElem?_map] at h1
  cases hi : is[j]? with
  | none => rw [hi] at h1; cases h1
  | some i =>
    rw [hi] at h1
    exact ⟨i, rfl, by simp [rn, List.getD, hi], Option.some.inj h1⟩
theorem Cut.len {is : List Nat} {hc hs : List va_E} (h : Cut is hc hs) : is.length = hc.length := by
  have := congrArg List.length h.2
  simpa using this
section CLC
variable {p : Program} {l : Launch} {e : Env} {R : Room} {s : State} {m : MethodId} {args : Array Value} {below : List Frame} {meth : Method} {c : Code} {D : va_G} {cA : Nat → ClassId} {ad : Nat → Nat} {A0 : Nat → Prop} {H0 : Heap} {nL N ck sk : Nat} {Q : State → Prop} {cc : ByteArray} {own : String}
variable {pc : Nat} {ls : AL} {st : List Value} {hs hc : List va_E} {is : List Nat} {H : Heap} {locs : List Loc} {lsC : Array Slot} {post : Option Value → List va_E → Prop}
theorem cut_P (hcut : Cut is hc hs) (hP : va_P D vwCl (tw cA ad hs) H) : va_P D vwCl (tw cA (fun j => ad (rn is j)) hc) H := by
  intro k q hk
  rw [tw_get] at hk
  cases he : hc[k]? with
  | none => rw [he] at hk; cases hk
  | some e0 =>
    rw [he] at hk
    obtain ⟨i, -, h2, h3⟩ := hcut.at he
    rw [← Option.some.inj hk]
    have h4 := hP i _ (tw_at h3)
    rw [te_te] at h4
    show va_at D vwCl (ad (rn is k), _) H
    rw [h2]
    exact h4
theorem cut_D {A : Nat → Prop} (hcut : Cut is hc hs) (hD : va_D A (tw cA ad hs)) : va_D A (tw cA (fun j => ad (rn is j)) hc) := by
  have key : ∀ (k : Nat) (q : Nat × va_E), (tw cA (fun j => ad (rn is j)) hc)[k]? = some q → ∃ i q0, is[k]? = some i ∧ (tw cA ad hs)[i]? = some q0 ∧ q0.1 = q.1 := by
    intro k q hk
    rw [tw_get] at hk
    cases he : hc[k]? with
    | none => rw [he] at hk; cases hk
    | some e0 =>
      rw [he] at hk
      obtain ⟨i, h1, h2, h3⟩ := hcut.at he
      refine ⟨i, _, h1, tw_at h3, ?_⟩
      rw [← Option.some.inj hk]
      show ad i = ad (rn is k)
      rw [h2]
  refine ⟨fun i j x y hi hj exy => ?_, fun k q hk => ?_⟩
  · obtain ⟨a, xa, g1, g2, g3⟩ := key i x hi
    obtain ⟨b, yb, f1, f2, f3⟩ := key j y hj
    have hab : a = b := hD.1 a b xa yb g2 f2 (by rw [g3, f3, exy])
    subst hab
    exact nd_inj is i j a hcut.1.1 g1 f1
  · obtain ⟨a, xa, g1, g2, g3⟩ := key k q hk
    rw [← g3]
    exact hD.2 a xa g2
theorem Go.after (G : GC p R s m args c D cA ad A0 H0 nL N ck sk cc own) (hn : hs.length = N) (hP : va_P D vwCl (tw cA ad hs) H) (hS : va_S A0 H0 H locs) (hl : lv_has lsC nL (tl ad ls)) (hcut : Cut is hc hs) {stk : List Value} {a : Array Value}
    (hr : va_Run p l e R s m args below meth c H locs ck sk 0 0 (F0 m pc lsC stk) (st.map (tv ad)) (QX D cA (fun j => ad (rn is j)) hc.length post (va_A (tw cA (fun j => ad (rn is j)) hc) H.size) a) (va_A (tw cA (fun j => ad (rn is j)) hc) H.size))
    (k : ∀ (r : Option Value) (hc2 : List va_E), post r hc2 → hc2.length = hc.length → Go p l e R s m args below meth c D cA ad A0 H0 nL N ck sk Q (pc + 3) ls ((r.map (tv (rn is))).toList ++ st) (pb is (hc2.map (te (fun t => t) (rn is))) hs)) :
    W p l e R s m args below meth c H locs ck sk Q (F0 m pc lsC stk) := by
  obtain ⟨hx, hb, hml, hown, hts, hKX, hD0, hA0, hcs⟩ := G
  have hDh := hD0 hs hn
  have hF : ∀ q, va_A (tw cA (fun j => ad (rn is j)) hc) H.size q → A0 q := by
    intro q hq
    rcases hq with ⟨k0, e0, hk⟩ | hq
    · exact (cut_D hcut hDh).2 k0 _ hk
    · exact hA0 q (Nat.le_trans hS.1 hq)
  intro T hT X
  obtain ⟨v, st₀, t, T', L, h0, X', hL, e1, e2, ⟨⟨r, hc2, hv, hp, hlen, hP1⟩, hz, hk⟩, stp⟩ := hr T hT X
  cases hv
  rw [h0] at hz hk
  have hstk : (Option.map (tv fun j => ad (rn is j)) r).toList ++ st.map (tv ad) = ((r.map (tv (rn is))).toList ++ st).map (tv ad) := by
    cases r with
    | none => rfl
    | some v => simp [tv_tv]
  rw [hstk] at stp
  have hPn : va_P D vwCl (tw cA ad (pb is (hc2.map (te (fun t => t) (rn is))) hs)) T'.heap := by
    intro i q hi
    rw [tw_get] at hi
    by_cases hm : i ∈ is
    · obtain ⟨j, hj⟩ := List.getElem?_of_mem hm
      have hjl : j < hc2.length := by rw [hlen, ← hcut.len]; exact (List.getElem?_eq_some_iff.mp hj).1
      have hi2 : i < hs.length := by
        have hjc : j < hc.length := by rw [← hlen]; exact hjl
        obtain ⟨i2, g1, g2, g3⟩ := hcut.at (List.getElem?_eq_getElem hjc)
        rw [hj] at g1
        rw [Option.some.inj g1]
        exact (List.getElem?_eq_some_iff.mp g3).1
      rw [pb_in is _ hs j i (te (fun t => t) (rn is) hc2[j]) hcut.1.1 hj (by rw [List.getElem?_map, List.getElem?_eq_getElem hjl]; rfl) hi2] at hi
      rw [← Option.some.inj hi]
      show va_at D vwCl (ad i, te cA ad (te (fun t => t) (rn is) hc2[j])) T'.heap
      rw [te_te]
      have h4 := hP1 j _ (tw_at (List.getElem?_eq_getElem hjl))
      rw [show rn is j = i from by simp [rn, List.getD, hj]] at h4
      rw [e1]
      exact h4
    · rw [pb_out is _ hs i hm] at hi
      have hi0 : (tw cA ad hs)[i]? = some q := by rw [tw_get]; exact hi
      have h4 := hP i q hi0
      refine h4.kept ?_
      rw [e1]
      refine hk q.1 h4.lt ?_
      rintro (⟨j, e0, hj⟩ | hq)
      · rw [tw_get] at hj
        cases he : hc[j]? with
        | none => rw [he] at hj; cases hj
        | some ej =>
          rw [he] at hj
          obtain ⟨i2, g1, g2, g3⟩ := hcut.at he
          have e5 : ad (rn is j) = q.1 := congrArg Prod.fst (Option.some.inj hj)
          have := hDh.1 i i2 q _ hi0 (tw_at g3) (by rw [← e5, g2])
          subst this
          exact hm (List.mem_of_getElem? g1)
      · exact absurd h4.lt (by omega)
  obtain ⟨t2, a1, b1⟩ := k r hc2 hp hlen (by rw [pb_len]; exact hn) T'.heap (locs ++ L) lsC hPn
    ⟨Nat.le_trans hS.1 (by rw [e1]; exact hz), fun q h1 h2 => by rw [e1, hk q (Nat.lt_of_lt_of_le h1 hS.1) (fun z => h2 (hF q z))]; exact hS.2.1 q h1 h2, fun q hq => by
      rcases List.mem_append.mp hq with h | h
      · exact hS.2.2 q h
      · exact hF _ (hL q h)⟩ hl T' rfl X'
  exact ⟨t2, stp t2 a1, b1⟩
theorem sx_call {cA : Nat → ClassId} {ad : Nat → Nat} {A0 : Nat → Prop} {H0 H : Heap} {s U : State} {locs : List Loc} {hs hc : List va_E} {is : List Nat} (hcut : Cut is hc hs) (hDh : va_D A0 (tw cA ad hs)) (hA0 : ∀ q, H0.size ≤ q → A0 q) (hS : va_S A0 H0 H locs) (hSX : SX ad A0 s H0) (hW : s.WarmedH U.vm) (hU : U.heap = H) : SX (fun j => ad (rn is j)) (va_A (tw cA (fun j => ad (rn is j)) hc) H.size) U U.heap := by
  rw [hU]
  refine SX.ren (ad := ad) (fun j hj => ?_) (((hSX.kept hS.2.1).narrow (fun q hq => ?_)).warm hW)
  · show ad (is.getD j j) = ad j
    have := hcut.1.2
    rw [List.getD_eq_getElem?_getD, List.getElem?_eq_none (by omega)]
    rfl
  · rcases hq with ⟨k0, e0, hk⟩ | hq
    · exact (cut_D hcut hDh).2 k0 _ hk
    · exact hA0 q (Nat.le_trans hS.1 hq)
theorem sx_callS {cA : Nat → ClassId} {ad : Nat → Nat} {A0 : Nat → Prop} {H0 H : Heap} {s U : State} {locs : List Loc} {hs : List va_E} (hDh : va_D A0 (tw cA ad hs)) (hA0 : ∀ q, H0.size ≤ q → A0 q) (hS : va_S A0 H0 H locs) (hSX : SX ad A0 s H0) (hW : s.WarmedH U.vm) (hU : U.heap = H) : SX ad (va_A (tw cA ad hs) H.size) U U.heap := by
  rw [hU]
  refine ((hSX.kept hS.2.1).narrow (fun q hq => ?_)).warm hW
  rcases hq with ⟨k0, e0, hk⟩ | hq
  · exact hDh.2 k0 _ hk
  · exact hA0 q (Nat.le_trans hS.1 hq)
theorem wpd_blind {hc : List va_E} {sz : Nat} {av : List Value} : FrameBlind (va_Pc av (WPd D cA ad hc sz)) := fun a U g mk q => ⟨q.1, q.2.1, q.2.2.1, ⟨va_K.moved (u := U) (U := U.calling g mk a) (Vm.Alike.refl U.vm) q.2.2.2.1.1, NWs.same (s := U) (U := U.calling g mk a) rfl q.2.2.2.1.2⟩, q.2.2.2.2.1, SX.same (u := U) (U := U.calling g mk a) rfl q.2.2.2.2.2⟩
end CLC
def MK (y : MethodName) (bytes : ByteArray) (maxL : Nat) (ret : Option FieldType) (n : Nat) : Prop := Cond.code y bytes maxL ret ∈ GW ∧ Cond.initialized y.cls ∈ GW ∧ (y.cls ≠ "java/lang/invoke/MethodHandle" ∧ y.cls ≠ "java/lang/invoke/VarHandle" ∧ (parseMethodDescriptor y.desc).map (fun d => d.parameters.length) = some n)
theorem MK.good {y : MethodName} {bytes : ByteArray} {maxL : Nat} {ret : Option FieldType} {n : Nat} (h : MK y bytes maxL ret n) : GoodIn GW (Cond.code y bytes maxL ret :: GW) := by
  intro w hw
  rcases List.mem_cons.mp hw with rfl | hw
  · exact ⟨h.1, gw_good h.1⟩
  · exact ⟨hw, gw_good hw⟩
def rmOk (d maxL : Nat) (R : Room) : Prop := d + 1 ≤ R.frames ∧ 8 + (maxL + 11) + 40 * d ≤ R.locals
section CLD
variable {l : Launch} {cc : ByteArray} {own : String} {nL : Nat} {R : Room} {K : AK} {pc : Nat} {ls : AL} {st stk : List Value} {hs hc : List va_E} {is : List Nat}
variable {y : MethodName} {bytes : ByteArray} {maxL n d idx : Nat} {ret : Option FieldType} {post : Option Value → List va_E → Prop} {As : List Value}
set_option maxHeartbeats 4000000 in
theorem Cl.callV (h : Cl l cc own nL R K) {b ci : Nat} {fs : List Value} (is : List Nat) (hd : decode cc pc = .ok (.invokevirtual idx, 3)) (hlk : Cond.methodLink own idx y ∈ GW) (hm : MK y bytes maxL ret n) (hiv : Cond.instanceMethod y ∈ GW ∧ Cond.selects y.cls y y ∈ GW)
    (hct : Ct l d y bytes maxL ret (.ref b :: As) hc post) (hR : rmOk d maxL R) (hlen : As.length = n) (hstk : stk = (As.map (tv (rn is))).reverse ++ .ref (rn is b) :: st) (hcat : (st.map fun v => v.category).sum ≤ 8) (hcut : Cut is hc hs) (hrc : hc[b]? = some (.inr (ci, fs))) (hcl : (vwCl[ci]?).map (fun q => q.1) = some y.cls)
    (k : ∀ (r : Option Value) (hc2 : List va_E), post r hc2 → hc2.length = hc.length → K (pc + 3) ls ((r.map (tv (rn is))).toList ++ st) (pb is (hc2.map (te (fun t => t) (rn is))) hs)) : K pc ls stk hs := by
  obtain ⟨p, e, s, m, args, below, meth, c, D, cA, ad, A0, H0, N, ck, sk, Q, G, rfl⟩ := h
  intro hn H locs lsC hP hS hl
  have G0 := G
  obtain ⟨hx, hb, hml, hown, hts, hKX, hD0, hA0, hcs⟩ := G
  have hPc := cut_P (cA := cA) (ad := ad) hcut hP
  have hDc := cut_D hcut (hD0 hs hn)
  refine Go.after G0 hn hP hS hl hcut (va_runV (As := As.map (tv (fun j => ad (rn is j)))) (b := ad (rn is b)) (C := y.cls) (n := n) ⟨hx, hb, hml, hown, hts⟩ (hct D cA (fun j => ad (rn is j)) H.size) ⟨callB_of n hts hm.good rfl rfl rfl (hts _ hm.2.1) (hts _ hlk) hm.2.2 hR, hts _ hiv.1, hts _ hiv.2⟩ ⟨wpd_blind, ?_, fun U hU hW => ⟨rfl, by rw [hU], by rw [hU]; exact hPc, hKX.warm hW, hDc.weaken (fun _ _ _ _ => trivial), sx_call hcut (hD0 hs hn) hA0 hS hcs.2 hW hU⟩⟩ rfl (by rw [List.length_map]; exact hlen) hl.1 ?_ (lv_room ?_) hd hcs.1) k
  · obtain ⟨q, hq, hq2⟩ : ∃ q, vwCl[ci]? = some q ∧ q.1 = y.cls := by
      cases hh : vwCl[ci]? with
      | none => rw [hh] at hcl; cases hcl
      | some q => rw [hh] at hcl; exact ⟨q, rfl, Option.some.inj hcl⟩
    rw [← hq2]
    exact va_recv hKX.1 hPc (ci := ci) (q0 := b) hq (tw_at hrc)
  · rw [hstk]
    show List.map (tv ad) _ = _
    rw [List.map_append, List.map_reverse, List.map_map, show (tv ad ∘ tv (rn is)) = tv (fun j => ad (rn is j)) from funext (fun v => tv_tv ad (rn is) v)]
    rfl
  · rw [List.map_map]
    have : ((fun v : Value => v.category) ∘ tv ad) = fun v => v.category := funext (fun v => tv_cat ad v)
    rw [this]
    exact hcat
set_option maxHeartbeats 4000000 in
theorem Cl.callS (h : Cl l cc own nL R K) (is : List Nat) (hd : decode cc pc = .ok (.invokestatic idx, 3)) (hlk : Cond.methodLink own idx y ∈ GW) (hm : MK y bytes maxL ret n) (hst : Cond.static y ∈ GW)
    (hct : Ct l d y bytes maxL ret As hc post) (hR : rmOk d maxL R) (hlen : As.length = n) (hstk : stk = (As.map (tv (rn is))).reverse ++ st) (hcat : (st.map fun v => v.category).sum ≤ 8) (hcut : Cut is hc hs)
    (k : ∀ (r : Option Value) (hc2 : List va_E), post r hc2 → hc2.length = hc.length → K (pc + 3) ls ((r.map (tv (rn is))).toList ++ st) (pb is (hc2.map (te (fun t => t) (rn is))) hs)) : K pc ls stk hs := by
  obtain ⟨p, e, s, m, args, below, meth, c, D, cA, ad, A0, H0, N, ck, sk, Q, G, rfl⟩ := h
  intro hn H locs lsC hP hS hl
  have G0 := G
  obtain ⟨hx, hb, hml, hown, hts, hKX, hD0, hA0, hcs⟩ := G
  have hPc := cut_P (cA := cA) (ad := ad) hcut hP
  have hDc := cut_D hcut (hD0 hs hn)
  refine Go.after G0 hn hP hS hl hcut (va_runS (As := As.map (tv (fun j => ad (rn is j)))) (n := n) ⟨hx, hb, hml, hown, hts⟩ (hct D cA (fun j => ad (rn is j)) H.size) ⟨callB_of n hts hm.good rfl rfl rfl (hts _ hm.2.1) (hts _ hlk) hm.2.2 hR, hts _ hst⟩ ⟨wpd_blind, fun U hU hW => ⟨rfl, by rw [hU], by rw [hU]; exact hPc, hKX.warm hW, hDc.weaken (fun _ _ _ _ => trivial), sx_call hcut (hD0 hs hn) hA0 hS hcs.2 hW hU⟩⟩ rfl (by rw [List.length_map]; exact hlen) hl.1 ?_ (lv_room ?_) hd hcs.1) k
  · rw [hstk]
    show List.map (tv ad) _ = _
    rw [List.map_append, List.map_reverse, List.map_map, show (tv ad ∘ tv (rn is)) = tv (fun j => ad (rn is j)) from funext (fun v => tv_tv ad (rn is) v)]
  · rw [List.map_map]
    have : ((fun v : Value => v.category) ∘ tv ad) = fun v => v.category := funext (fun v => tv_cat ad v)
    rw [this]
    exact hcat
set_option maxHeartbeats 4000000 in
theorem Cl.callSN (h : Cl l cc own nL R K) (is : List Nat) {host : String} (hd : decode cc pc = .ok (.invokestatic idx, 3)) (hlk : Cond.methodLinkNest own idx y host ∈ NL) (hm : MK y bytes maxL ret n) (hst : Cond.static y ∈ GW)
    (hct : Ct l d y bytes maxL ret As hc post) (hR : rmOk d maxL R) (hlen : As.length = n) (hstk : stk = (As.map (tv (rn is))).reverse ++ st) (hcat : (st.map fun v => v.category).sum ≤ 8) (hcut : Cut is hc hs)
    (k : ∀ (r : Option Value) (hc2 : List va_E), post r hc2 → hc2.length = hc.length → K (pc + 3) ls ((r.map (tv (rn is))).toList ++ st) (pb is (hc2.map (te (fun t => t) (rn is))) hs)) : K pc ls stk hs := by
  obtain ⟨p, e, s, m, args, below, meth, c, D, cA, ad, A0, H0, N, ck, sk, Q, G, rfl⟩ := h
  intro hn H locs lsC hP hS hl
  have G0 := G
  obtain ⟨hx, hb, hml, hown, hts, hKX, hD0, hA0, hcs⟩ := G
  have hPc := cut_P (cA := cA) (ad := ad) hcut hP
  have hDc := cut_D hcut (hD0 hs hn)
  refine Go.after G0 hn hP hS hl hcut (va_runSN (As := As.map (tv (fun j => ad (rn is j)))) (n := n) ⟨hx, hb, hml, hown, hts⟩ (hct D cA (fun j => ad (rn is j)) H.size) ⟨va_cnB n hts hm.good rfl rfl rfl (hKX.2 _ hlk) (hts _ hm.2.1) hm.2.2 hR, hts _ hst, trivial⟩ ⟨wpd_blind, fun U hU hW => ⟨rfl, by rw [hU], by rw [hU]; exact hPc, hKX.warm hW, hDc.weaken (fun _ _ _ _ => trivial), sx_call hcut (hD0 hs hn) hA0 hS hcs.2 hW hU⟩⟩ rfl (by rw [List.length_map]; exact hlen) hl.1 ?_ (lv_room ?_) hd hcs.1) k
  · rw [hstk]
    show List.map (tv ad) _ = _
    rw [List.map_append, List.map_reverse, List.map_map, show (tv ad ∘ tv (rn is)) = tv (fun j => ad (rn is j)) from funext (fun v => tv_tv ad (rn is) v)]
  · rw [List.map_map]
    have : ((fun v : Value => v.category) ∘ tv ad) = fun v => v.category := funext (fun v => tv_cat ad v)
    rw [this]
    exact hcat
end CLD
