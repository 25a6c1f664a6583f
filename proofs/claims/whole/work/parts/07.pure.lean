/-! numbers and sets of bits: nI n with n a Nat; sets as Nats by testBit -/
theorem nI_bv (n : Nat) : (nI n).toBitVec = BitVec.ofNat 32 n := rfl
theorem i32_ext {x y : Int32} (h : x.toBitVec = y.toBitVec) : x = y := Int32.toBitVec_inj.mp h
theorem nI_and (a b : Nat) : nI a &&& nI b = nI (a &&& b) := by
  apply i32_ext
  rw [Int32.toBitVec_and, nI_bv, nI_bv, nI_bv]
  apply BitVec.eq_of_getLsbD_eq
  intro i hi
  simp [BitVec.getLsbD_and, BitVec.getLsbD_ofNat, hi]
theorem nI_or (a b : Nat) : nI a ||| nI b = nI (a ||| b) := by
  apply i32_ext
  rw [Int32.toBitVec_or, nI_bv, nI_bv, nI_bv]
  apply BitVec.eq_of_getLsbD_eq
  intro i hi
  simp [BitVec.getLsbD_or, BitVec.getLsbD_ofNat, hi]
theorem nI_xor (a b : Nat) : nI a ^^^ nI b = nI (a ^^^ b) := by
  apply i32_ext
  rw [Int32.toBitVec_xor, nI_bv, nI_bv, nI_bv]
  apply BitVec.eq_of_getLsbD_eq
  intro i hi
  simp [BitVec.getLsbD_xor, BitVec.getLsbD_ofNat, hi]
/-- a without b -/
def andn (a b : Nat) : Nat := a ^^^ (a &&& b)
theorem andn_tb (a b i : Nat) : (andn a b).testBit i = (a.testBit i && !b.testBit i) := by
  unfold andn
  rw [Nat.testBit_xor, Nat.testBit_and]
  cases a.testBit i <;> cases b.testBit i <;> rfl
theorem nI_andn (a b : Nat) : nI a &&& (nI b ^^^ (-1)) = nI (andn a b) := by
  apply i32_ext
  rw [Int32.toBitVec_and, Int32.toBitVec_xor, nI_bv, nI_bv, nI_bv]
  apply BitVec.eq_of_getLsbD_eq
  intro i hi
  have h1 : (Int32.toBitVec (-1)).getLsbD i = true := by
    have : (Int32.toBitVec (-1)) = BitVec.allOnes 32 := by decide
    rw [this, BitVec.getLsbD_allOnes]; simp [hi]
  rw [BitVec.getLsbD_and, BitVec.getLsbD_xor, h1, BitVec.getLsbD_ofNat, BitVec.getLsbD_ofNat, BitVec.getLsbD_ofNat, andn_tb]
  simp [hi]
theorem sh31 {s : Nat} (h : s < 32) : nI s &&& 31 = nI s := by
  rw [show (31 : Int32) = nI 31 from rfl, nI_and]
  congr 1
  rw [show (31 : Nat) = 2 ^ 5 - 1 from rfl, Nat.and_two_pow_sub_one_eq_mod]
  omega
theorem nI_shl {a s : Nat} (h : s < 32) : nI a <<< (nI s &&& 31) = nI (a * 2 ^ s) := by
  rw [sh31 h]
  apply i32_ext
  have h0 : ((nI s).toBitVec.smod 32).toNat = s := by
    have : ∀ s, s < 32 → ((nI s).toBitVec.smod 32).toNat = s := by decide +kernel
    exact this s h
  apply BitVec.eq_of_toNat_eq
  rw [pk_shl (nI a) (nI s) s h0, nI_bv, nI_bv, BitVec.toNat_ofNat, BitVec.toNat_ofNat, Nat.mod_mul_mod]
theorem nI_shr {a s : Nat} (ha : a < 2 ^ 31) (h : s < 32) : nI a >>> (nI s &&& 31) = nI (a / 2 ^ s) := by
  rw [sh31 h]
  have h0 : ((nI s).toBitVec.smod 32).toNat = s := by
    have : ∀ s, s < 32 → ((nI s).toBitVec.smod 32).toNat = s := by decide +kernel
    exact this s h
  exact pk_shrN ha (nI s) s h0
theorem nI_one_and {a s : Nat} (ha : a < 2 ^ 31) (h : s < 32) : (nI a >>> (nI s &&& 31)) &&& nI 1 = nI (if a.testBit s then 1 else 0) := by
  rw [nI_shr ha h, nI_and, Nat.and_one_is_mod]
  congr 1
  rw [Nat.testBit, Nat.shiftRight_eq_div_pow]
  rcases Nat.mod_two_eq_zero_or_one (a / 2 ^ s) with h | h <;> simp [Nat.and_comm 1, Nat.and_one_is_mod, h]
theorem tb_lt {a n : Nat} (h : a < 2 ^ n) {i : Nat} (hi : n ≤ i) : a.testBit i = false := Nat.testBit_lt_two_pow (Nat.lt_of_lt_of_le h (Nat.pow_le_pow_right (by decide) hi))
/-- the set of those below n that have p -/
def bs (n : Nat) (p : Nat → Bool) : Nat := match n with
  | 0 => 0
  | k + 1 => bs k p ||| (if p k then 2 ^ k else 0)
theorem bs_tb (p : Nat → Bool) : ∀ (n i : Nat), (bs n p).testBit i = (decide (i < n) && p i)
  | 0, i => by simp [bs]
  | n + 1, i => by
    show (bs n p ||| _).testBit i = _
    rw [Nat.testBit_or, bs_tb p n i]
    by_cases h : i = n
    · subst h
      cases hp : p i <;> simp [hp, Nat.testBit_two_pow_self]
    · have h2 : (if p n then 2 ^ n else 0 : Nat).testBit i = false := by
        cases p n <;> simp [Nat.testBit_two_pow, Ne.symm h]
      rw [h2]
      have : decide (i < n + 1) = decide (i < n) := by
        by_cases h3 : i < n
        · simp [h3]; omega
        · simp [h3]; omega
      rw [this]; simp
theorem bs_lt (p : Nat → Bool) (n : Nat) : bs n p < 2 ^ n := by
  apply Nat.lt_pow_two_of_testBit
  intro i hi
  rw [bs_tb]
  simp; omega
theorem bs_succ (p : Nat → Bool) (n : Nat) : bs (n + 1) p = bs n p ||| (if p n then 2 ^ n else 0) := rfl
theorem bs_t {p : Nat → Bool} {n : Nat} (h : p n = true) : bs (n + 1) p = bs n p ||| 2 ^ n := by rw [bs_succ, h]; rfl
theorem bs_f {p : Nat → Bool} {n : Nat} (h : p n = false) : bs (n + 1) p = bs n p := by rw [bs_succ, h]; simp
theorem bs_congr {p q : Nat → Bool} {n : Nat} (h : ∀ i, i < n → p i = q i) : bs n p = bs n q := by
  apply Nat.eq_of_testBit_eq
  intro i
  rw [bs_tb, bs_tb]
  by_cases hi : i < n
  · rw [h i hi]
  · simp [hi]
theorem bs_self {a n : Nat} (h : a < 2 ^ n) : bs n a.testBit = a := by
  apply Nat.eq_of_testBit_eq
  intro i
  rw [bs_tb]
  by_cases hi : i < n
  · simp [hi]
  · simp [hi, tb_lt h (Nat.not_lt.mp hi)]
theorem set_ext {a b n : Nat} (ha : a < 2 ^ n) (hb : b < 2 ^ n) (h : ∀ i, i < n → a.testBit i = b.testBit i) : a = b := by
  apply Nat.eq_of_testBit_eq
  intro i
  by_cases hi : i < n
  · exact h i hi
  · rw [tb_lt ha (by omega), tb_lt hb (by omega)]
theorem ne0_tb {a : Nat} (h : a ≠ 0) : ∃ i, a.testBit i = true := Nat.exists_testBit_of_ne_zero h
theorem eq0_tb {a : Nat} : a = 0 ↔ ∀ i, a.testBit i = false := ⟨fun h i => by rw [h]; simp, fun h => Nat.eq_of_testBit_eq (fun i => by rw [h i]; simp)⟩
/-- a counted loop -/
theorem loopUp {σ : Type} (W : Nat → σ → Prop) (I : Nat → σ → Prop) (e : Nat) (hx : ∀ s, I e s → W e s) (hs : ∀ i s, i < e → I i s → (∀ s', I (i + 1) s' → W (i + 1) s') → W i s) : ∀ i s, i ≤ e → I i s → W i s := by
  have key : ∀ n i s, i + n = e → I i s → W i s := by
    intro n
    induction n with
    | zero => intro i s h hI; have : i = e := by omega
              subst this; exact hx s hI
    | succ n ih => intro i s h hI; exact hs i s (by omega) hI (fun s' h' => ih (i + 1) s' (by omega) h')
  intro i s h hI
  exact key (e - i) i s (by omega) hI
theorem loopUp1 (W : Nat → Prop) (e : Nat) (hx : W e) (hs : ∀ i, i < e → W (i + 1) → W i) : ∀ i, i ≤ e → W i := by
  have key : ∀ n i, i + n = e → W i := by
    intro n
    induction n with
    | zero => intro i h; have : i = e := by omega
              subst this; exact hx
    | succ n ih => intro i h; exact hs i (by omega) (ih (i + 1) (by omega))
  intro i h
  exact key (e - i) i (by omega)
/-! contracts' ends, and the calls that read -/
abbrev RV (v : Value) (h : List va_E) : Option Value → List va_E → Prop := fun r h2 => r = some v ∧ h2 = h
abbrev RU (h : List va_E) : Option Value → List va_E → Prop := fun r h2 => r = none ∧ h2 = h
theorem pb_same : ∀ (is : List Nat) (es hs : List va_E), is.map (fun i => hs[i]?) = es.map some → pb is es hs = hs
  | [], _, _, _ => rfl
  | _ :: _, [], _, _ => rfl
  | i :: is, e :: es, hs, h => by
    show pb is es (hs.set i e) = hs
    have h1 : hs[i]? = some e := by simpa using congrArg List.head? h
    have h2 : is.map (fun i => hs[i]?) = es.map some := by simpa using congrArg List.tail h
    obtain ⟨hl, he⟩ := List.getElem?_eq_some_iff.mp h1
    have h3 : hs.set i e = hs := by rw [← he, List.set_getElem_self]
    rw [h3]
    exact pb_same is es hs h2
theorem Cut.same {is : List Nat} {hc hs : List va_E} (h : Cut is hc hs) : pb is (hc.map (te (fun t => t) (rn is))) hs = hs := pb_same is _ hs (by rw [h.2, List.map_map]; rfl)
section CLX
variable {l : Launch} {cc : ByteArray} {own : String} {nL : Nat} {R : Room} {K : AK} {pc : Nat} {ls : AL} {st stk : List Value} {hs hc : List va_E}
variable {y : MethodName} {bytes : ByteArray} {maxL n d idx : Nat} {ret : Option FieldType} {As : List Value} {v : Int32}
theorem Cl.loc (h : Cl l cc own nL R K) {ls2 : AL} (hsub : ls2.map (fun q => lk ls q.1) = ls2.map (fun q => some q.2)) (kk : K pc ls2 st hs) : K pc ls st hs := by
  refine h.locals (fun q hq => ?_) kk
  obtain ⟨i, hi⟩ := List.getElem?_of_mem hq
  have := congrArg (fun l => l[i]?) hsub
  simp only [List.getElem?_map, hi, Option.map_some] at this
  exact Option.some.inj this
theorem Cl.rdV (h : Cl l cc own nL R K) {b ci : Nat} {fs : List Value} (is : List Nat) (hd : decode cc pc = .ok (.invokevirtual idx, 3)) (hlk : Cond.methodLink own idx y ∈ GW) (hm : MK y bytes maxL ret n) (hiv : Cond.instanceMethod y ∈ GW ∧ Cond.selects y.cls y y ∈ GW)
    (hct : Ct l d y bytes maxL ret (.ref b :: As) hc (RV (.int v) hc)) (hR : rmOk d maxL R) (hlen : As.length = n) (hstk : stk = (As.map (tv (rn is))).reverse ++ .ref (rn is b) :: st) (hcat : (st.map fun v => v.category).sum ≤ 8) (hcut : Cut is hc hs) (hrc : hc[b]? = some (.inr (ci, fs))) (hcl : (vwCl[ci]?).map (fun q => q.1) = some y.cls)
    (k : K (pc + 3) ls (.int v :: st) hs) : K pc ls stk hs := by
  refine h.callV is hd hlk hm hiv hct hR hlen hstk hcat hcut hrc hcl (fun r hc2 hp hl => ?_)
  obtain ⟨rfl, rfl⟩ := hp
  rw [hcut.same]
  exact k
theorem Cl.rdS (h : Cl l cc own nL R K) (is : List Nat) (hd : decode cc pc = .ok (.invokestatic idx, 3)) (hlk : Cond.methodLink own idx y ∈ GW) (hm : MK y bytes maxL ret n) (hst : Cond.static y ∈ GW)
    (hct : Ct l d y bytes maxL ret As hc (RV (.int v) hc)) (hR : rmOk d maxL R) (hlen : As.length = n) (hstk : stk = (As.map (tv (rn is))).reverse ++ st) (hcat : (st.map fun v => v.category).sum ≤ 8) (hcut : Cut is hc hs)
    (k : K (pc + 3) ls (.int v :: st) hs) : K pc ls stk hs := by
  refine h.callS is hd hlk hm hst hct hR hlen hstk hcat hcut (fun r hc2 hp hl => ?_)
  obtain ⟨rfl, rfl⟩ := hp
  rw [hcut.same]
  exact k
theorem Cl.rdSN (h : Cl l cc own nL R K) {host : String} (is : List Nat) (hd : decode cc pc = .ok (.invokestatic idx, 3)) (hlk : Cond.methodLinkNest own idx y host ∈ NL) (hm : MK y bytes maxL ret n) (hst : Cond.static y ∈ GW)
    (hct : Ct l d y bytes maxL ret As hc (RV (.int v) hc)) (hR : rmOk d maxL R) (hlen : As.length = n) (hstk : stk = (As.map (tv (rn is))).reverse ++ st) (hcat : (st.map fun v => v.category).sum ≤ 8) (hcut : Cut is hc hs)
    (k : K (pc + 3) ls (.int v :: st) hs) : K pc ls stk hs := by
  refine h.callSN is hd hlk hm hst hct hR hlen hstk hcat hcut (fun r hc2 hp hl => ?_)
  obtain ⟨rfl, rfl⟩ := hp
  rw [hcut.same]
  exact k
theorem Cl.wrV (h : Cl l cc own nL R K) {b ci : Nat} {fs : List Value} {hc2 hs2 : List va_E} (is : List Nat) (hd : decode cc pc = .ok (.invokevirtual idx, 3)) (hlk : Cond.methodLink own idx y ∈ GW) (hm : MK y bytes maxL ret n) (hiv : Cond.instanceMethod y ∈ GW ∧ Cond.selects y.cls y y ∈ GW)
    (hct : Ct l d y bytes maxL ret (.ref b :: As) hc (RV (.int v) hc2)) (hR : rmOk d maxL R) (hlen : As.length = n) (hstk : stk = (As.map (tv (rn is))).reverse ++ .ref (rn is b) :: st) (hcat : (st.map fun v => v.category).sum ≤ 8) (hcut : Cut is hc hs) (hrc : hc[b]? = some (.inr (ci, fs))) (hcl : (vwCl[ci]?).map (fun q => q.1) = some y.cls) (hpb : pb is (hc2.map (te (fun t => t) (rn is))) hs = hs2)
    (k : K (pc + 3) ls (.int v :: st) hs2) : K pc ls stk hs := by
  refine h.callV is hd hlk hm hiv hct hR hlen hstk hcat hcut hrc hcl (fun r hc3 hp hl => ?_)
  obtain ⟨rfl, rfl⟩ := hp
  rw [hpb]
  exact k
theorem Cl.wuV (h : Cl l cc own nL R K) {b ci : Nat} {fs : List Value} {hc2 hs2 : List va_E} (is : List Nat) (hd : decode cc pc = .ok (.invokevirtual idx, 3)) (hlk : Cond.methodLink own idx y ∈ GW) (hm : MK y bytes maxL ret n) (hiv : Cond.instanceMethod y ∈ GW ∧ Cond.selects y.cls y y ∈ GW)
    (hct : Ct l d y bytes maxL ret (.ref b :: As) hc (RU hc2)) (hR : rmOk d maxL R) (hlen : As.length = n) (hstk : stk = (As.map (tv (rn is))).reverse ++ .ref (rn is b) :: st) (hcat : (st.map fun v => v.category).sum ≤ 8) (hcut : Cut is hc hs) (hrc : hc[b]? = some (.inr (ci, fs))) (hcl : (vwCl[ci]?).map (fun q => q.1) = some y.cls) (hpb : pb is (hc2.map (te (fun t => t) (rn is))) hs = hs2)
    (k : K (pc + 3) ls st hs2) : K pc ls stk hs := by
  refine h.callV is hd hlk hm hiv hct hR hlen hstk hcat hcut hrc hcl (fun r hc3 hp hl => ?_)
  obtain ⟨rfl, rfl⟩ := hp
  rw [hpb]
  exact k
end CLX
