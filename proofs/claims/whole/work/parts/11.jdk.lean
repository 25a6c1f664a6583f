/-- how many of the first n have p; how many bits a set has -/
def cn (p : Nat → Bool) : Nat → Nat
  | 0 => 0
  | n + 1 => cn p n + (p n).toNat
def cd (a : Nat) : Nat := cn a.testBit 12
def bcS (x : Int32) (k : Nat) : Int32 := (x.toUInt32 >>> ((nI k).toUInt32 &&& Int32.toUInt32 31)).toInt32
def bc1 (x : Int32) : Int32 := x - (bcS x 1 &&& 1431655765)
def bc2 (x : Int32) : Int32 := (x &&& 858993459) + (bcS x 2 &&& 858993459)
def bc3 (x : Int32) : Int32 := (x + bcS x 4) &&& 252645135
def bc4 (x : Int32) : Int32 := x + bcS x 8
def bc5 (x : Int32) : Int32 := x + bcS x 16
theorem bc_all : (List.range 4096).all (fun n => decide (bc5 (bc4 (bc3 (bc2 (bc1 (nI n))))) &&& nI 63 = nI (cd n))) = true := by decide +kernel
theorem bc_eq {n : Nat} (hn : n < 4096) : bc5 (bc4 (bc3 (bc2 (bc1 (nI n))))) &&& nI 63 = nI (cd n) := of_decide_eq_true (List.all_eq_true.mp bc_all n (List.mem_range.mpr hn))
set_option maxHeartbeats 4000000 in
set_option maxRecDepth 20000 in
theorem ct_J_bitCount (l : Launch) (n : Nat) (hn : n < 4096) : Ct l 0 yJ_bitCount cJ_bitCount 1 (some .int) [.int (nI n)] ([]) (RV (.int (nI (cd n))) []) := by
  refine Ct.of (by decide) (Nat.le_of_ble_eq_true rfl) (fun K hC hR => ?_)
  show K 0 [(0, .int (nI n))] [] _
  refine hC.iload_n dJ_bitCount_0 rfl ?_
  refine hC.iload_n dJ_bitCount_1 rfl ?_
  refine hC.iconst dJ_bitCount_2 (v := nI 1) rfl ?_
  refine hC.iushr dJ_bitCount_3 ?_
  refine hC.ldc_w dJ_bitCount_4 lcJ_265 ?_
  refine hC.iand dJ_bitCount_7 ?_
  refine hC.isub dJ_bitCount_8 ?_
  refine hC.istore_n (x := bc1 (nI n)) dJ_bitCount_9 (by decide) ?_
  refine hC.iload_n dJ_bitCount_10 rfl ?_
  refine hC.ldc_w dJ_bitCount_11 lcJ_266 ?_
  refine hC.iand dJ_bitCount_14 ?_
  refine hC.iload_n dJ_bitCount_15 rfl ?_
  refine hC.iconst dJ_bitCount_16 (v := nI 2) rfl ?_
  refine hC.iushr dJ_bitCount_17 ?_
  refine hC.ldc_w dJ_bitCount_18 lcJ_266 ?_
  refine hC.iand dJ_bitCount_21 ?_
  refine hC.iadd dJ_bitCount_22 ?_
  refine hC.istore_n (x := bc2 (bc1 (nI n))) dJ_bitCount_23 (by decide) ?_
  refine hC.iload_n dJ_bitCount_24 rfl ?_
  refine hC.iload_n dJ_bitCount_25 rfl ?_
  refine hC.iconst dJ_bitCount_26 (v := nI 4) rfl ?_
  refine hC.iushr dJ_bitCount_27 ?_
  refine hC.iadd dJ_bitCount_28 ?_
  refine hC.ldc_w dJ_bitCount_29 lcJ_267 ?_
  refine hC.iand dJ_bitCount_32 ?_
  refine hC.istore_n (x := bc3 (bc2 (bc1 (nI n)))) dJ_bitCount_33 (by decide) ?_
  refine hC.iload_n dJ_bitCount_34 rfl ?_
  refine hC.iload_n dJ_bitCount_35 rfl ?_
  refine hC.bipush dJ_bitCount_36 (v := nI 8) rfl ?_
  refine hC.iushr dJ_bitCount_38 ?_
  refine hC.iadd dJ_bitCount_39 ?_
  refine hC.istore_n (x := bc4 (bc3 (bc2 (bc1 (nI n))))) dJ_bitCount_40 (by decide) ?_
  refine hC.iload_n dJ_bitCount_41 rfl ?_
  refine hC.iload_n dJ_bitCount_42 rfl ?_
  refine hC.bipush dJ_bitCount_43 (v := nI 16) rfl ?_
  refine hC.iushr dJ_bitCount_45 ?_
  refine hC.iadd dJ_bitCount_46 ?_
  refine hC.istore_n (x := bc5 (bc4 (bc3 (bc2 (bc1 (nI n)))))) dJ_bitCount_47 (by decide) ?_
  refine hC.iload_n dJ_bitCount_48 rfl ?_
  refine hC.bipush dJ_bitCount_49 (v := nI 63) rfl ?_
  refine hC.iand dJ_bitCount_51 ?_
  exact hR.ireturn dJ_bitCount_52 ⟨congrArg (fun z => some (Value.int z)) (bc_eq hn), rfl⟩
theorem max_nI {a b : Nat} (ha : a < 2 ^ 31) (hb : b < 2 ^ 31) : (if nI a < nI b then nI b else nI a) = nI (max a b) := by
  by_cases h : a < b
  · rw [if_pos ((nI_ltI ha hb).mpr h), Nat.max_eq_right (by omega)]
  · rw [if_neg (fun c => h ((nI_ltI ha hb).mp c)), Nat.max_eq_left (by omega)]
theorem min_nI {a b : Nat} (ha : a < 2 ^ 31) (hb : b < 2 ^ 31) : (if nI b < nI a then nI b else nI a) = nI (min a b) := by
  by_cases h : b < a
  · rw [if_pos ((nI_ltI hb ha).mpr h), Nat.min_eq_right (by omega)]
  · rw [if_neg (fun c => h ((nI_ltI hb ha).mp c)), Nat.min_eq_left (by omega)]
section CLM
variable {l : Launch} {cc : ByteArray} {own : String} {nL : Nat} {R : Room} {K : AK} {pc : Nat} {ls : AL} {st : List Value} {hs : List va_E}
theorem Cl.mmax (h : Cl l cc own nL R K) {idx a b : Nat} (ha : a < 2 ^ 31) (hb2 : b < 2 ^ 31) (hd : decode cc pc = .ok (.invokestatic idx, 3)) (hlk : Cond.methodLink own idx Lib.Math.max.name ∈ GW) (hR : 1 ≤ R.frames ∧ (st.map fun v => v.category).sum + 13 ≤ R.locals) (k : K (pc + 3) ls (.int (nI (max a b)) :: st) hs) : K pc ls (.int (nI b) :: .int (nI a) :: st) hs := by
  obtain ⟨p, e, s, m, args, below, meth, c, D, cA, ad, A0, H0, N, ck, sk, Q, ⟨hx, hb, hml, hown, hts, hKX, hD0, hA0, hcs⟩, rfl⟩ := h
  intro hN H locs lsC hP hS hl
  refine va_mmax hx hb (hml.trans hl.1.symm) hown (hts _ hlk) (hts _ mmaxW.1) (hts _ mmaxW.2.1) (hts _ mmaxW.2.2) hR.1 ?_ hcs.1.1 hcs.1.2 hd ?_
  · rw [List.map_map]
    have e0 : ((fun v : Value => v.category) ∘ tv ad) = fun v => v.category := funext (fun v => tv_cat ad v)
    rw [e0]
    exact hR.2
  · rw [max_nI ha hb2]
    exact k hN H locs lsC hP hS hl
theorem Cl.mmin (h : Cl l cc own nL R K) {idx a b : Nat} (ha : a < 2 ^ 31) (hb2 : b < 2 ^ 31) (hd : decode cc pc = .ok (.invokestatic idx, 3)) (hlk : Cond.methodLink own idx Lib.Math.min.name ∈ GW) (hR : 1 ≤ R.frames ∧ (st.map fun v => v.category).sum + 13 ≤ R.locals) (k : K (pc + 3) ls (.int (nI (min a b)) :: st) hs) : K pc ls (.int (nI b) :: .int (nI a) :: st) hs := by
  obtain ⟨p, e, s, m, args, below, meth, c, D, cA, ad, A0, H0, N, ck, sk, Q, ⟨hx, hb, hml, hown, hts, hKX, hD0, hA0, hcs⟩, rfl⟩ := h
  intro hN H locs lsC hP hS hl
  refine va_mmin hx hb (hml.trans hl.1.symm) hown (hts _ hlk) (hts _ mminW.1) (hts _ mminW.2.1) (hts _ mminW.2.2) hR.1 ?_ hcs.1.1 hcs.1.2 hd ?_
  · rw [List.map_map]
    have e0 : ((fun v : Value => v.category) ∘ tv ad) = fun v => v.category := funext (fun v => tv_cat ad v)
    rw [e0]
    exact hR.2
  · rw [min_nI ha hb2]
    exact k hN H locs lsC hP hS hl
end CLM
/-! copies of a row into another of the same length, from 0 to its end -/
theorem arrV_congr (cA : ClassId) (n : Nat) {f g : Nat → Value} (h : ∀ j, j < n → f j = g j) : arrV cA n f = arrV cA n g := by
  have e : ∀ k, k ≤ n → (List.range k).map f = (List.range k).map g := fun k hk => List.map_congr_left (fun j hj => h j (Nat.lt_of_lt_of_le (List.mem_range.mp hj) hk))
  first
    | (unfold arrV; simp only [e n (Nat.le_refl n)]; done)
    | (unfold arrV; congr 1; apply Array.ext <;> simp <;> intro i hi <;> exact h i (by omega))
set_option maxHeartbeats 4000000 in
theorem Cl.copyI {l : Launch} {cc : ByteArray} {own : String} {nL : Nat} {R : Room} {K : AK} {pc : Nat} {ls : AL} {st : List Value} {hs : List va_E} (h : Cl l cc own nL R K) {idx a0 a1 n : Nat} {f g : Nat → Int32} (hd : decode cc pc = .ok (.invokestatic idx, 3)) (hlk : Cond.methodLink own idx arraycopyName ∈ GW)
    (h0 : hs[a0]? = some (.inl (0, n, .inl f))) (h1 : hs[a1]? = some (.inl (0, n, .inl g))) (hn : n < 1000) (hR : 1 ≤ R.frames ∧ (st.map fun v => v.category).sum + 60 ≤ R.locals)
    (k : K (pc + 3) ls st (hs.set a1 (.inl (0, n, .inl f)))) : K pc ls (.int (nI n) :: .int (nI 0) :: .ref a1 :: .int (nI 0) :: .ref a0 :: st) hs := by
  obtain ⟨p, e, s, m, args, below, meth, c, D, cA, ad, A0, H0, N, ck, sk, Q, ⟨hx, hb, hml, hown, hts, hKX, hD0, hA0, hcs⟩, rfl⟩ := h
  intro hN H locs lsC hP hS hl
  have hc0 : (nI n).toNatClampNeg = n := nI_clamp (by omega)
  have hz : (nI 0).toNatClampNeg = 0 := nI_clamp (by decide)
  refine va_copyi hx hb (hml.trans hl.1.symm) hown (hts _ hlk) (hts _ acW.1) (hts _ acW.2.1) (hts _ acW.2.2) hKX.1 hP (hD0 hs hN) hS a0 a1 0 0 (tw_at h0) (tw_at h1) rfl rfl rfl (by decide) (by decide) (nI_pos (by omega)) (by rw [hc0, hz]; omega) (by rw [hc0, hz]; omega) (fun _ _ => rfl) hR.1 ?_ hd (fun H1 locs1 hP1 hD1 hS1 => k (by rw [List.length_set]; exact hN) H1 locs1 lsC ?_ hS1 hl)
  · rw [List.map_map]
    have e0 : ((fun v : Value => v.category) ∘ tv ad) = fun v => v.category := funext (fun v => tv_cat ad v)
    rw [e0]
    have : nativeFrameWords "java/lang/System" "arraycopy" 5 + 11 ≤ 60 := by decide +kernel
    omega
  · rw [tw_set]
    intro i q hi
    have h2 := hP1
    rw [hc0, hz] at h2
    by_cases hia : i = a1
    · subst hia
      have hlen : i < (tw cA ad hs).length := by rw [tw_len]; exact (List.getElem?_eq_some_iff.mp h1).1
      rw [List.getElem?_set_self hlen] at hi
      have h3 := h2 i _ (List.getElem?_set_self hlen)
      rw [← Option.some.inj hi]
      show H1[ad i]? = some (vp_cell (cA 0) (n, .inl f))
      have h4 : H1[ad i]? = some (vp_cell (cA 0) (n, .inl (va_cpy f g 0 0 n))) := h3
      rw [h4, vp_cell_i, vp_cell_i]
      exact congrArg some (arrV_congr _ _ (fun j hj => by simp [va_cpy, hj]))
    · rw [List.getElem?_set_ne (fun e => hia e.symm)] at hi
      refine h2 i q ?_
      rw [List.getElem?_set_ne (fun e => hia e.symm)]
      exact hi
