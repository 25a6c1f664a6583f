/-! the String constants in the walk; String.length, String.charAt -/
section CLSX
variable {l : Launch} {cc : ByteArray} {own : String} {nL : Nat} {R : Room} {K : AK} {pc : Nat} {ls : AL} {st stk : List Value} {hs : List va_E}
theorem Cl.ldcS (h : Cl l cc own nL R K) {idx i : Nat} (hd : decode cc pc = .ok (.ldc idx, 2)) (ho : own = "StripFlag$Text") (hi : i < 5) (hx : sxIdx.getD i 0 = idx) (k : K (pc + 2) ls (.ref (1000 + i) :: st) hs) : K pc ls st hs := by
  obtain ⟨p, e, s, m, args, below, meth, c, D, cA, ad, A0, H0, N, ck, sk, Q, ⟨hxx, hb, hml, hown, hts, hKX, hD0, hA0, hcs⟩, rfl⟩ := h
  intro hn H locs lsC hP hS hl
  subst ho
  have h1 := hcs.2.2.1 i hi
  rw [hx] at h1
  exact va_ldcS hxx hb hown h1 hd (k hn H locs lsC hP hS hl)
theorem Cl.strVal (h : Cl l cc own nL R K) {idx i : Nat} (hd : decode cc pc = .ok (.getfield idx, 3)) (hlk : Cond.fieldLink own idx "java/lang/String" "value" "[B" ∈ GW) (hi : i < 5) (k : K (pc + 3) ls (.ref (2000 + i) :: st) hs) : K pc ls (.ref (1000 + i) :: st) hs := by
  obtain ⟨p, e, s, m, args, below, meth, c, D, cA, ad, A0, H0, N, ck, sk, Q, ⟨hx, hb, hml, hown, hts, hKX, hD0, hA0, hcs⟩, rfl⟩ := h
  intro hn H locs lsC hP hS hl
  obtain ⟨cf, k2, fi, f, cell, h1, h2, h3, h4, h5, h6⟩ := ((hcs.2.kept hS.2.1).1.1 i hi).2.2.1
  exact W.getf hx hb hown (hts _ hlk) h1 h2 h3 h4 (v := .ref (ad (2000 + i))) h5 rfl rfl hd (k hn H locs lsC hP hS hl)
theorem Cl.strCod (h : Cl l cc own nL R K) {idx i : Nat} (hd : decode cc pc = .ok (.getfield idx, 3)) (hlk : Cond.fieldLink own idx "java/lang/String" "coder" "B" ∈ GW) (hi : i < 5) (k : K (pc + 3) ls (.int 0 :: st) hs) : K pc ls (.ref (1000 + i) :: st) hs := by
  obtain ⟨p, e, s, m, args, below, meth, c, D, cA, ad, A0, H0, N, ck, sk, Q, ⟨hx, hb, hml, hown, hts, hKX, hD0, hA0, hcs⟩, rfl⟩ := h
  intro hn H locs lsC hP hS hl
  obtain ⟨cf, k2, fi, f, cell, h1, h2, h3, h4, h5, h6⟩ := ((hcs.2.kept hS.2.1).1.1 i hi).2.1
  exact W.getf hx hb hown (hts _ hlk) h1 h2 h3 h4 (v := .int 0) h5 rfl rfl hd (k hn H locs lsC hP hS hl)
theorem Cl.strLen (h : Cl l cc own nL R K) {i : Nat} (hd : decode cc pc = .ok (.arraylength, 1)) (hi : i < 5) (k : K (pc + 1) ls (.int (nI (sxLen.getD i 0)) :: st) hs) : K pc ls (.ref (2000 + i) :: st) hs := by
  obtain ⟨p, e, s, m, args, below, meth, c, D, cA, ad, A0, H0, N, ck, sk, Q, ⟨hx, hb, hml, hown, hts, hKX, hD0, hA0, hcs⟩, rfl⟩ := h
  intro hn H locs lsC hP hS hl
  obtain ⟨cell, h1, h2, h3, h4, h5, h6, h7⟩ := ((hcs.2.kept hS.2.1).1.1 i hi).2.2.2
  exact W.alen (n := nI (sxLen.getD i 0)) hx hb h1 h2 h5 rfl rfl hd (k hn H locs lsC hP hS hl)
theorem Cl.strAt (h : Cl l cc own nL R K) {i j : Nat} (hd : decode cc pc = .ok (.baload, 1)) (hi : i < 5) (hj : j < sxLen.getD i 0) (h31 : sxLen.getD i 0 < 2 ^ 31) (k : K (pc + 1) ls (.int ((sxByt.getD i []).getD j 0) :: st) hs) : K pc ls (.int (nI j) :: .ref (2000 + i) :: st) hs := by
  obtain ⟨p, e, s, m, args, below, meth, c, D, cA, ad, A0, H0, N, ck, sk, Q, ⟨hx, hb, hml, hown, hts, hKX, hD0, hA0, hcs⟩, rfl⟩ := h
  intro hn H locs lsC hP hS hl
  obtain ⟨cell, h1, h2, h3, h4, h5, h6, h7⟩ := ((hcs.2.kept hS.2.1).1.1 i hi).2.2.2
  have hjc : (nI j).toNatClampNeg = j := nI_clamp (by omega)
  have hin := vp_in_nI hj h31
  have hin' : ¬ (nI j < 0 ∨ cell.slots.size ≤ (nI j).toNatClampNeg) := by
    intro q
    rcases q with q | q
    · exact hin (Or.inl q)
    · rw [hjc] at q; omega
  exact W.bald (v := .int ((sxByt.getD i []).getD j 0)) hx hb h1 h2 h3 hin' (by rw [hjc]; exact h6 j hj) rfl rfl hd (k hn H locs lsC hP hS hl)
theorem Cl.getCS (h : Cl l cc own nL R K) {idx : Nat} (hd : decode cc pc = .ok (.getstatic idx, 3)) (hlk : Cond.fieldLink own idx "java/lang/String" "COMPACT_STRINGS" "Z" ∈ GW) (k : K (pc + 3) ls (.int (nI 1) :: st) hs) : K pc ls st hs := by
  obtain ⟨p, e, s, m, args, below, meth, c, D, cA, ad, A0, H0, N, ck, sk, Q, ⟨hx, hb, hml, hown, hts, hKX, hD0, hA0, hcs⟩, rfl⟩ := h
  intro hn H locs lsC hP hS hl
  obtain ⟨cf, kf, fi, f, a, cell, h1, h2, h3, h4, h5, h6, h7, h8⟩ := (hcs.2.kept hS.2.1).2.2.1
  exact W.gets hx hb hown (hts _ hlk) h1 h2 h3 h4 h5 (fun e => by rw [e] at h6; cases h6) h7 rfl hd (k hn H locs lsC hP hS hl)
theorem Cl.getSI (h : Cl l cc own nL R K) {idx : Nat} (hd : decode cc pc = .ok (.getstatic idx, 3)) (hlk : Cond.fieldLink own idx "jdk/internal/util/Preconditions" "SIOOBE_FORMATTER" "Ljava/util/function/BiFunction;" ∈ GW) (k : ∀ v : Value, v = .null ∨ v = .ref 3000 → K (pc + 3) ls (v :: st) hs) : K pc ls st hs := by
  obtain ⟨p, e, s, m, args, below, meth, c, D, cA, ad, A0, H0, N, ck, sk, Q, ⟨hx, hb, hml, hown, hts, hKX, hD0, hA0, hcs⟩, rfl⟩ := h
  intro hn H locs lsC hP hS hl
  rcases (hcs.2.kept hS.2.1).2.2.2 with hz | hz
  · obtain ⟨cf, kf, fi, f, a, cell, h1, h2, h3, h4, h5, h6, h7, h8⟩ := hz
    exact W.gets hx hb hown (hts _ hlk) h1 h2 h3 h4 h5 (fun e => by rw [e] at h6; cases h6) h7 rfl hd (k .null (Or.inl rfl) hn H locs lsC hP hS hl)
  · obtain ⟨cf, kf, fi, f, a, cell, h1, h2, h3, h4, h5, h6, h7, h8⟩ := hz
    exact W.gets hx hb hown (hts _ hlk) h1 h2 h3 h4 h5 (fun e => by rw [e] at h6; cases h6) h7 rfl hd (k (.ref 3000) (Or.inr rfl) hn H locs lsC hP hS hl)
variable {y : MethodName} {bytes : ByteArray} {maxL n d idx : Nat} {ret : Option FieldType} {post : Option Value → List va_E → Prop} {As : List Value}
theorem cut_nil (hs : List va_E) : Cut [] [] hs := ⟨by decide, rfl⟩
set_option maxHeartbeats 4000000 in
theorem Cl.callStr (h : Cl l cc own nL R K) {i : Nat} {v : Int32} (hd : decode cc pc = .ok (.invokevirtual idx, 3)) (hlk : Cond.methodLink own idx y ∈ GW) (hm : MK y bytes maxL ret n) (hiv : Cond.instanceMethod y ∈ GW ∧ Cond.selects y.cls y y ∈ GW) (hy : y.cls = "java/lang/String") (hi : i < 5)
    (hct : Ct l d y bytes maxL ret (.ref (1000 + i) :: As) [] (RV (.int v) [])) (hR : rmOk d maxL R) (hlen : As.length = n) (hstk : stk = (As.map (tv (rn []))).reverse ++ .ref (1000 + i) :: st) (hcat : (st.map fun v => v.category).sum ≤ 8)
    (k : K (pc + 3) ls (.int v :: st) hs) : K pc ls stk hs := by
  obtain ⟨p, e, s, m, args, below, meth, c, D, cA, ad, A0, H0, N, ck, sk, Q, G, rfl⟩ := h
  intro hn H locs lsC hP hS hl
  have G0 := G
  obtain ⟨hx, hb, hml, hown, hts, hKX, hD0, hA0, hcs⟩ := G
  have hcut := cut_nil hs
  have hPc := cut_P (cA := cA) (ad := ad) hcut hP
  have hDc := cut_D hcut (hD0 hs hn)
  refine Go.after (st := st) G0 hn hP hS hl hcut (va_runV (As := As.map (tv (fun j => ad (rn [] j)))) (b := ad (1000 + i)) (C := y.cls) (n := n) ⟨hx, hb, hml, hown, hts⟩ (hct D cA (fun j => ad (rn [] j)) H.size) ⟨callB_of n hts hm.good rfl rfl rfl (hts _ hm.2.1) (hts _ hlk) hm.2.2 hR, hts _ hiv.1, hts _ hiv.2⟩ ⟨wpd_blind, ?_, fun U hU hW => ⟨rfl, by rw [hU], by rw [hU]; exact hPc, hKX.warm hW, hDc.weaken (fun _ _ _ _ => trivial), sx_call hcut (hD0 hs hn) hA0 hS hcs.2 hW hU⟩⟩ rfl (by rw [List.length_map]; exact hlen) hl.1 ?_ (lv_room ?_) hd hcs.1) (fun r hc2 hp hl2 => ?_)
  · rw [hy]
    obtain ⟨cell, h1, h2, h3, -⟩ := ((hcs.2.kept hS.2.1).1.1 i hi).1
    exact ⟨cell, h1, h2, h3⟩
  · rw [hstk]
    show List.map (tv ad) _ = _
    rw [List.map_append, List.map_reverse, List.map_map, show (tv ad ∘ tv (rn [])) = tv (fun j => ad (rn [] j)) from funext (fun v => tv_tv ad (rn []) v)]
    rfl
  · rw [List.map_map]
    have : ((fun v : Value => v.category) ∘ tv ad) = fun v => v.category := funext (fun v => tv_cat ad v)
    rw [this]
    exact hcat
  · obtain ⟨rfl, rfl⟩ := hp
    exact k
end CLSX
set_option maxHeartbeats 4000000 in
theorem Ct.ofB {l : Launch} {d : Nat} {y : MethodName} {bytes : ByteArray} {maxL : Nat} {args : List Value} {hs : List va_E} {post : Option Value → List va_E → Prop} (hy : plainName y.cls = true) (hlen : (lg_sl args).length ≤ maxL)
    (body : ∀ K : AK, Cl l bytes y.cls maxL (rmD d) K → (∀ (pc : Nat) (ls : AL) (hs : List va_E) (v : Int32), narrow .byte (.int v) = .int v → decode bytes pc = .ok (.ireturn, 1) → post (some (.int v)) hs → K pc ls [.int v] hs) → K 0 (lv_args 0 args) [] hs) : Ct l d y bytes maxL (some .byte) args hs post := by
  intro D cA ad sz
  refine Met.ofW (cc := bytes) (maxL := maxL) (ret := some .byte) hy rfl ?_
  intro p e s m args0 below meth c s₁ B hml hv
  obtain ⟨rfl, hsz, hP, hK, hD0, hSX⟩ := hv
  have hx := B.exec
  have hb := B.bytes
  have hr := B.returns
  have hts := atoms_spec (ws := Cond.code y bytes maxL (some .byte) :: GW) B.pre
  have hown : s.vm.findClass y.cls = some m.cls := findClass_of_methodNamed B.named
  have hlocks := B.notSynchronized
  subst hsz
  have hA : ∀ q : Nat, s.heap.size ≤ q → va_A (tw cA ad hs) s.heap.size q := fun q h => Or.inr h
  have hS : va_S (va_A (tw cA ad hs) s.heap.size) s.heap s.heap [] := va_S.rf
  have hl := lv_entry (args.map (tv ad)) (n := maxL) (by rw [lg_sl_tv]; exact hlen)
  rw [lg_entry_eq]
  rw [tv_args] at hl
  refine body (Go p l e (rmD d) s m (args.map (tv ad)).toArray below meth c D cA ad (va_A (tw cA ad hs) s.heap.size) s.heap maxL hs.length 0 0 (MQ below (QX D cA ad hs.length post (va_A (tw cA ad hs) s.heap.size)) (args.map (tv ad)).toArray s 0 0 (va_A (tw cA ad hs) s.heap.size))) ?_ ?_ rfl s.heap [] _ hP hS hl
  · exact ⟨p, e, s, m, _, below, meth, c, D, cA, ad, _, s.heap, _, 0, 0, _, ⟨hx, hb, hml, hown, fun w hw => hts w (List.mem_cons_of_mem _ hw), hK, fun hs2 hn => va_D_len hn hD0.self, hA, ⟨Nat.le_refl _, Nat.le_refl _⟩, hSX⟩, rfl⟩
  · intro pc ls hs2 v hnr hd hp hn H locs lsC hP hS hl
    exact W.zret hx hb hr hnr (fun t ht hW => ⟨⟨some (.int v), hs2, rfl, hp, hn, by rw [ht]; exact hP⟩, hS.F ht⟩) hS.2.2 hd
theorem sx31 {i : Nat} (hi : i < 5) : sxLen.getD i 0 < 2 ^ 31 := by
  have : ∀ i, i < 5 → sxLen.getD i 0 < 2 ^ 31 := by decide
  exact this i hi
theorem ct_J_coder (l : Launch) (i : Nat) (hi : i < 5) : Ct l 0 yJ_coder cJ_coder 1 (some .byte) [.ref (1000 + i)] [] (RV (.int 0) []) := by
  refine Ct.ofB (by decide) (Nat.le_of_ble_eq_true rfl) (fun K hC hR => ?_)
  show K 0 [(0, .ref (1000 + i))] [] _
  refine hC.getCS dJ_coder_0 lfJS_38 ?_
  refine hC.if_eq dJ_coder_3 (tgt := 13) rfl (fun c => absurd c (by decide)) (fun _ => ?_)
  refine hC.aload_n dJ_coder_6 rfl ?_
  refine hC.strCod dJ_coder_7 lfJS_15 hi ?_
  refine hC.goto dJ_coder_10 (tgt := 14) rfl ?_
  exact hR _ _ _ _ (by decide) dJ_coder_14 ⟨rfl, rfl⟩
theorem ct_J_isLatin1 (l : Launch) (i : Nat) (hi : i < 5) : Ct l 0 yJ_isLatin1 cJ_isLatin1 1 (some .boolean) [.ref (1000 + i)] [] (RV (.int (nI 1)) []) := by
  refine Ct.of (by decide) (Nat.le_of_ble_eq_true rfl) (fun K hC hR => ?_)
  show K 0 [(0, .ref (1000 + i))] [] _
  refine hC.getCS dJ_isLatin1_0 lfJS_38 ?_
  refine hC.if_eq dJ_isLatin1_3 (tgt := 17) rfl (fun c => absurd c (by decide)) (fun _ => ?_)
  refine hC.aload_n dJ_isLatin1_6 rfl ?_
  refine hC.strCod dJ_isLatin1_7 lfJS_15 hi ?_
  refine hC.if_ne dJ_isLatin1_10 (tgt := 17) rfl (fun c => absurd rfl c) (fun _ => ?_)
  refine hC.iconst dJ_isLatin1_13 (v := nI 1) rfl ?_
  refine hC.goto dJ_isLatin1_14 (tgt := 18) rfl ?_
  exact hR.zreturn dJ_isLatin1_18 (by decide) ⟨rfl, rfl⟩
theorem ct_J_length (l : Launch) (i : Nat) (hi : i < 5) : Ct l 1 yJ_length cJ_length 1 (some .int) [.ref (1000 + i)] [] (RV (.int (nI (sxLen.getD i 0))) []) := by
  refine Ct.of (by decide) (Nat.le_of_ble_eq_true rfl) (fun K hC hR => ?_)
  show K 0 [(0, .ref (1000 + i))] [] _
  refine hC.aload_n dJ_length_0 rfl ?_
  refine hC.strVal dJ_length_1 lfJS_9 hi ?_
  refine hC.strLen dJ_length_4 hi ?_
  refine hC.aload_n dJ_length_5 rfl ?_
  refine hC.callStr (i := i) dJ_length_6 lmJS_335 mkJ_coder svJ_coder rfl hi (ct_J_coder l i hi) ⟨Nat.le_of_ble_eq_true rfl, Nat.le_of_ble_eq_true rfl⟩ rfl rfl (Nat.le_of_ble_eq_true rfl) ?_
  refine hC.ishr dJ_length_9 ?_
  rw [show (0 : Int32) = nI 0 from rfl, nI_shr (sx31 hi) (by decide), Nat.pow_zero, Nat.div_one]
  exact hR.ireturn dJ_length_10 ⟨rfl, rfl⟩
theorem ct_J_pcheckIndex (l : Launch) (j n : Nat) (v : Value) (hv : v = .null ∨ v = .ref 3000) (hj : j < n) (hn : n < 2 ^ 31) : Ct l 0 yJ_pcheckIndex cJ_pcheckIndex 3 (some .int) [.int (nI j), .int (nI n), v] [] (RV (.int (nI j)) []) := by
  refine Ct.of (by decide) (by rcases hv with rfl | rfl <;> exact Nat.le_of_ble_eq_true rfl) (fun K hC hR => ?_)
  have e : ∃ ls : AL, lv_args 0 [.int (nI j), .int (nI n), v] = (0, .int (nI j)) :: (1, .int (nI n)) :: ls := by rcases hv with rfl | rfl <;> exact ⟨_, rfl⟩
  obtain ⟨ls, e⟩ := e
  rw [e]
  refine hC.iload_n dJ_pcheckIndex_0 rfl ?_
  refine hC.z_lt (by omega) dJ_pcheckIndex_1 (tgt := 9) rfl ?_
  refine hC.iload_n dJ_pcheckIndex_4 rfl ?_
  refine hC.iload_n dJ_pcheckIndex_5 rfl ?_
  refine hC.n_lt (by omega) (by omega) dJ_pcheckIndex_6 (tgt := 16) rfl (fun _ => ?_) (fun c => absurd c (by omega))
  refine hC.iload_n dJ_pcheckIndex_16 rfl ?_
  exact hR.ireturn dJ_pcheckIndex_17 ⟨rfl, rfl⟩
theorem ct_J_checkIndex (l : Launch) (j n : Nat) (hj : j < n) (hn : n < 2 ^ 31) : Ct l 1 yJ_checkIndex cJ_checkIndex 2 none [.int (nI j), .int (nI n)] [] (RU []) := by
  refine Ct.of (by decide) (Nat.le_of_ble_eq_true rfl) (fun K hC hR => ?_)
  show K 0 [(0, .int (nI j)), (1, .int (nI n))] [] _
  refine hC.iload_n dJ_checkIndex_0 rfl ?_
  refine hC.iload_n dJ_checkIndex_1 rfl ?_
  refine hC.getSI dJ_checkIndex_2 lfJS_1053 (fun v hv => ?_)
  refine hC.rdS [] dJ_checkIndex_5 lmJS_1059 mkJ_pcheckIndex sxJ_pcheckIndex (ct_J_pcheckIndex l j n v hv hj hn) ⟨Nat.le_of_ble_eq_true rfl, Nat.le_of_ble_eq_true rfl⟩ rfl (by rcases hv with rfl | rfl <;> rfl) (Nat.le_of_ble_eq_true rfl) ⟨by decide, rfl⟩ ?_
  refine hC.pop dJ_checkIndex_8 rfl ?_
  exact hR.return_ dJ_checkIndex_9 ⟨rfl, rfl⟩
def sxC (i j : Nat) : Nat := ((sxByt.getD i []).getD j 0).toNatClampNeg
theorem sxC_ok {i j : Nat} (hi : i < 5) (hj : j < sxLen.getD i 0) : (sxByt.getD i []).getD j 0 = nI (sxC i j) ∧ sxC i j < 256 := by
  have : ∀ i, i < 5 → ∀ j, j < sxLen.getD i 0 → (sxByt.getD i []).getD j 0 = nI (sxC i j) ∧ sxC i j < 256 := by decide
  exact this i hi j hj
theorem ct_J_lcharAt (l : Launch) (i j : Nat) (hi : i < 5) (hj : j < sxLen.getD i 0) : Ct l 2 yJ_lcharAt cJ_lcharAt 2 (some .char) [.ref (2000 + i), .int (nI j)] [] (RV (.int (nI (sxC i j))) []) := by
  obtain ⟨h1, h2⟩ := sxC_ok hi hj
  refine Ct.of (by decide) (Nat.le_of_ble_eq_true rfl) (fun K hC hR => ?_)
  show K 0 [(0, .ref (2000 + i)), (1, .int (nI j))] [] _
  refine hC.iload_n dJ_lcharAt_0 rfl ?_
  refine hC.aload_n dJ_lcharAt_1 rfl ?_
  refine hC.strLen dJ_lcharAt_2 hi ?_
  refine hC.wuS [] dJ_lcharAt_3 lmJL_9 mkJ_checkIndex sxJ_checkIndex (ct_J_checkIndex l j (sxLen.getD i 0) hj (sx31 hi)) ⟨Nat.le_of_ble_eq_true rfl, Nat.le_of_ble_eq_true rfl⟩ rfl rfl (Nat.le_of_ble_eq_true rfl) ⟨by decide, rfl⟩ rfl ?_
  refine hC.aload_n dJ_lcharAt_6 rfl ?_
  refine hC.iload_n dJ_lcharAt_7 rfl ?_
  refine hC.strAt dJ_lcharAt_8 hi hj (sx31 hi) ?_
  rw [h1]
  refine hC.sipush dJ_lcharAt_9 (v := nI 255) rfl ?_
  refine hC.iand dJ_lcharAt_12 ?_
  rw [nI_and, show (255 : Nat) = 2 ^ 8 - 1 from rfl, Nat.and_two_pow_sub_one_eq_mod, Nat.mod_eq_of_lt h2]
  refine hC.i2c dJ_lcharAt_13 ?_
  rw [pk_char, pk_tn (by omega), Nat.mod_eq_of_lt (by omega)]
  exact hR.creturn dJ_lcharAt_14 (pk_charN (by omega)).1 ⟨rfl, rfl⟩
theorem ct_J_charAt (l : Launch) (i j : Nat) (hi : i < 5) (hj : j < sxLen.getD i 0) : Ct l 3 yJ_charAt cJ_charAt 2 (some .char) [.ref (1000 + i), .int (nI j)] [] (RV (.int (nI (sxC i j))) []) := by
  obtain ⟨h1, h2⟩ := sxC_ok hi hj
  refine Ct.of (by decide) (Nat.le_of_ble_eq_true rfl) (fun K hC hR => ?_)
  show K 0 [(0, .ref (1000 + i)), (1, .int (nI j))] [] _
  refine hC.aload_n dJ_charAt_0 rfl ?_
  refine hC.callStr (i := i) dJ_charAt_1 lmJS_492 mkJ_isLatin1 svJ_isLatin1 rfl hi (ct_J_isLatin1 l i hi) ⟨Nat.le_of_ble_eq_true rfl, Nat.le_of_ble_eq_true rfl⟩ rfl rfl (Nat.le_of_ble_eq_true rfl) ?_
  refine hC.if_eq dJ_charAt_4 (tgt := 16) rfl (fun c => absurd c (by decide)) (fun _ => ?_)
  refine hC.aload_n dJ_charAt_7 rfl ?_
  refine hC.strVal dJ_charAt_8 lfJS_9 hi ?_
  refine hC.iload_n dJ_charAt_11 rfl ?_
  refine hC.rdS [] dJ_charAt_12 lmJS_495 mkJ_lcharAt sxJ_lcharAt (ct_J_lcharAt l i j hi hj) ⟨Nat.le_of_ble_eq_true rfl, Nat.le_of_ble_eq_true rfl⟩ rfl rfl (Nat.le_of_ble_eq_true rfl) ⟨by decide, rfl⟩ ?_
  exact hR.creturn dJ_charAt_15 (pk_charN (by omega)).1 ⟨rfl, rfl⟩
