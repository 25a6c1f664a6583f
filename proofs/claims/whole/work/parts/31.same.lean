/-! calls on the same world: nothing is renamed; then StripFlagModel's fray, drift -/
section CLS
variable {p : Program} {l : Launch} {e : Env} {R : Room} {s : State} {m : MethodId} {args : Array Value} {below : List Frame} {meth : Method} {c : Code} {D : va_G} {cA : Nat → ClassId} {ad : Nat → Nat} {A0 : Nat → Prop} {H0 : Heap} {nL N ck sk : Nat} {Q : State → Prop} {cc : ByteArray} {own : String}
variable {pc : Nat} {ls : AL} {st : List Value} {hs : List va_E} {H : Heap} {locs : List Loc} {lsC : Array Slot} {post : Option Value → List va_E → Prop}
theorem Go.afterS (G : GC p R s m args c D cA ad A0 H0 nL N ck sk cc own) (hn : hs.length = N) (hS : va_S A0 H0 H locs) (hl : lv_has lsC nL (tl ad ls)) {stk : List Value} {a : Array Value}
    (hr : va_Run p l e R s m args below meth c H locs ck sk 0 0 (F0 m pc lsC stk) (st.map (tv ad)) (QX D cA ad hs.length post (va_A (tw cA ad hs) H.size) a) (va_A (tw cA ad hs) H.size))
    (k : ∀ (r : Option Value) (hc2 : List va_E), post r hc2 → Go p l e R s m args below meth c D cA ad A0 H0 nL N ck sk Q (pc + 3) ls (r.toList ++ st) hc2) :
    W p l e R s m args below meth c H locs ck sk Q (F0 m pc lsC stk) := by
  obtain ⟨hx, hb, hml, hown, hts, hKX, hD0, hA0, hcs⟩ := G
  have hDh := hD0 hs hn
  have hF : ∀ q, va_A (tw cA ad hs) H.size q → A0 q := by
    intro q hq
    rcases hq with ⟨k0, e0, hk⟩ | hq
    · exact hDh.2 k0 _ hk
    · exact hA0 q (Nat.le_trans hS.1 hq)
  intro T hT X
  obtain ⟨v, st₀, t, T', L, h0, X', hL, e1, e2, ⟨⟨r, hc2, hv, hp, hlen, hP1⟩, hz, hk⟩, stp⟩ := hr T hT X
  cases hv
  rw [h0] at hz hk
  have hstk : (Option.map (tv ad) r).toList ++ st.map (tv ad) = (r.toList ++ st).map (tv ad) := by
    cases r with
    | none => rfl
    | some v => simp
  rw [hstk] at stp
  obtain ⟨t2, a1, b1⟩ := k r hc2 hp (by rw [hlen]; exact hn) T'.heap (locs ++ L) lsC (by rw [e1]; exact hP1)
    ⟨Nat.le_trans hS.1 (by rw [e1]; exact hz), fun q h1 h2 => by rw [e1, hk q (Nat.lt_of_lt_of_le h1 hS.1) (fun z => h2 (hF q z))]; exact hS.2.1 q h1 h2, fun q hq => by
      rcases List.mem_append.mp hq with h | h
      · exact hS.2.2 q h
      · exact hF _ (hL q h)⟩ hl T' rfl X'
  exact ⟨t2, stp t2 a1, b1⟩
end CLS
section CLT
variable {l : Launch} {cc : ByteArray} {own : String} {nL : Nat} {R : Room} {K : AK} {pc : Nat} {ls : AL} {st stk : List Value} {hs : List va_E}
variable {y : MethodName} {bytes : ByteArray} {maxL n d idx : Nat} {ret : Option FieldType} {post : Option Value → List va_E → Prop} {As : List Value}
set_option maxHeartbeats 4000000 in
theorem Cl.callVs (h : Cl l cc own nL R K) {b ci : Nat} {fs : List Value} (hd : decode cc pc = .ok (.invokevirtual idx, 3)) (hlk : Cond.methodLink own idx y ∈ GW) (hm : MK y bytes maxL ret n) (hiv : Cond.instanceMethod y ∈ GW ∧ Cond.selects y.cls y y ∈ GW)
    (hct : Ct l d y bytes maxL ret (.ref b :: As) hs post) (hR : rmOk d maxL R) (hlen : As.length = n) (hstk : stk = As.reverse ++ .ref b :: st) (hcat : (st.map fun v => v.category).sum ≤ 8) (hrc : hs[b]? = some (.inr (ci, fs))) (hcl : (vwCl[ci]?).map (fun q => q.1) = some y.cls)
    (k : ∀ (r : Option Value) (hc2 : List va_E), post r hc2 → K (pc + 3) ls (r.toList ++ st) hc2) : K pc ls stk hs := by
  obtain ⟨p, e, s, m, args, below, meth, c, D, cA, ad, A0, H0, N, ck, sk, Q, G, rfl⟩ := h
  intro hn H locs lsC hP hS hl
  have G0 := G
  obtain ⟨hx, hb, hml, hown, hts, hKX, hD0, hA0, hcs⟩ := G
  have hDc := hD0 hs hn
  refine Go.afterS G0 hn hS hl (va_runV (As := As.map (tv ad)) (b := ad b) (C := y.cls) (n := n) ⟨hx, hb, hml, hown, hts⟩ (hct D cA ad H.size) ⟨callB_of n hts hm.good rfl rfl rfl (hts _ hm.2.1) (hts _ hlk) hm.2.2 hR, hts _ hiv.1, hts _ hiv.2⟩ ⟨wpd_blind, ?_, fun U hU hW => ⟨rfl, by rw [hU], by rw [hU]; exact hP, hKX.warm hW, hDc.weaken (fun _ _ _ _ => trivial), sx_callS hDc hA0 hS hcs.2 hW hU⟩⟩ rfl (by rw [List.length_map]; exact hlen) hl.1 ?_ (lv_room ?_) hd hcs.1) k
  · obtain ⟨q, hq, hq2⟩ : ∃ q, vwCl[ci]? = some q ∧ q.1 = y.cls := by
      cases hh : vwCl[ci]? with
      | none => rw [hh] at hcl; cases hcl
      | some q => rw [hh] at hcl; exact ⟨q, rfl, Option.some.inj hcl⟩
    rw [← hq2]
    exact va_recv hKX.1 hP (ci := ci) (q0 := b) hq (tw_at hrc)
  · rw [hstk]
    show List.map (tv ad) _ = _
    rw [List.map_append, List.map_reverse]
    rfl
  · rw [List.map_map]
    have : ((fun v : Value => v.category) ∘ tv ad) = fun v => v.category := funext (fun v => tv_cat ad v)
    rw [this]
    exact hcat
theorem Cl.wrVs (h : Cl l cc own nL R K) {v : Int32} {hs2 : List va_E} {b ci : Nat} {fs : List Value} (hd : decode cc pc = .ok (.invokevirtual idx, 3)) (hlk : Cond.methodLink own idx y ∈ GW) (hm : MK y bytes maxL ret n) (hiv : Cond.instanceMethod y ∈ GW ∧ Cond.selects y.cls y y ∈ GW)
    (hct : Ct l d y bytes maxL ret (.ref b :: As) hs (RV (.int v) hs2)) (hR : rmOk d maxL R) (hlen : As.length = n) (hstk : stk = As.reverse ++ .ref b :: st) (hcat : (st.map fun v => v.category).sum ≤ 8) (hrc : hs[b]? = some (.inr (ci, fs))) (hcl : (vwCl[ci]?).map (fun q => q.1) = some y.cls)
    (k : K (pc + 3) ls (.int v :: st) hs2) : K pc ls stk hs := by
  refine h.callVs hd hlk hm hiv hct hR hlen hstk hcat hrc hcl (fun r hc3 hp => ?_)
  obtain ⟨rfl, rfl⟩ := hp
  exact k
theorem Cl.wuVs (h : Cl l cc own nL R K) {hs2 : List va_E} {b ci : Nat} {fs : List Value} (hd : decode cc pc = .ok (.invokevirtual idx, 3)) (hlk : Cond.methodLink own idx y ∈ GW) (hm : MK y bytes maxL ret n) (hiv : Cond.instanceMethod y ∈ GW ∧ Cond.selects y.cls y y ∈ GW)
    (hct : Ct l d y bytes maxL ret (.ref b :: As) hs (RU hs2)) (hR : rmOk d maxL R) (hlen : As.length = n) (hstk : stk = As.reverse ++ .ref b :: st) (hcat : (st.map fun v => v.category).sum ≤ 8) (hrc : hs[b]? = some (.inr (ci, fs))) (hcl : (vwCl[ci]?).map (fun q => q.1) = some y.cls)
    (k : K (pc + 3) ls st hs2) : K pc ls stk hs := by
  refine h.callVs hd hlk hm hiv hct hR hlen hstk hcat hrc hcl (fun r hc3 hp => ?_)
  obtain ⟨rfl, rfl⟩ := hp
  exact k
end CLT
set_option maxHeartbeats 4000000 in
set_option maxRecDepth 20000 in
theorem ct_X9_fray (l : Launch) (R : Nat → Nat → Nat) (F : Nat → Nat) (L : Nat → Int64) (h : MdOK R F) (x : Int32) : Ct l 3 yX9_fray cX9_fray 2 (some .int) [.ref 0, .int x] (mdW R F L) (RV (.int (mFray R F x).1) (mdW (mFray R F x).2 F L)) := by
  refine Ct.of (by decide) (Nat.le_of_ble_eq_true rfl) (fun K hC hR => ?_)
  show K 0 [(0, .ref 0), (1, .int x)] [] _
  refine hC.iload_n dX9_fray_0 rfl ?_
  refine hC.i2l dX9_fray_1 ?_
  refine hC.lconst dX9_fray_2 (v := lN 0) rfl ?_
  refine hC.ldc2_w (v := lN 9) dX9_fray_3 lcX9_221 ?_
  refine hC.rdS [] dX9_fray_6 lmX9_92 mkX9_in sxX9_in (ct_X9_in l x.toInt64 (lN 0) (lN 9)) ⟨Nat.le_of_ble_eq_true rfl, Nat.le_of_ble_eq_true rfl⟩ rfl rfl (Nat.le_of_ble_eq_true rfl) ⟨by decide, rfl⟩ ?_
  rw [in_R (by decide)]
  refine hC.bz dX9_fray_9 (tgt := 20) rfl (fun c1 => ?_) (fun c1 => ?_)
  · rw [mFray, if_neg (by simp [c1])] at hR
    refine hC.ldc dX9_fray_20 lcX9_96 ?_
    exact hR.ireturn dX9_fray_22 ⟨rfl, rfl⟩
  · obtain ⟨k, hk, rfl⟩ := inR_of (by decide) c1
    have hix : ix (nI k) = k := nI_clamp (by omega)
    rw [mFray, if_pos c1, hix] at hR
    refine hC.aload_n dX9_fray_12 rfl ?_
    refine hC.iload_n dX9_fray_13 rfl ?_
    refine hC.wrVs dX9_fray_14 lmX9_234 mkX9_frays svX9_frays (ct_X9_frays l R F L h k (by omega)) ⟨Nat.le_of_ble_eq_true rfl, Nat.le_of_ble_eq_true rfl⟩ rfl rfl (Nat.le_of_ble_eq_true rfl) rfl rfl ?_
    refine hC.goto dX9_fray_17 (tgt := 22) rfl ?_
    exact hR.ireturn dX9_fray_22 ⟨rfl, rfl⟩
