/-! the tables' and the start's words: what the law's walk begins with: written by program (wip/whole/mkstart.py) -/
theorem hK_start {s : State} {args : Array Value} (hts : ∀ w ∈ lw_tbl, w.before args s = true) : ∃ (D : va_G) (cA : Nat → ClassId), KX D cA s := by
  have hG : ∀ w ∈ GW, w.before args s = true := fun w hw => hts w (List.mem_filter.mp hw).1
  obtain ⟨c0, i0, hk0⟩ := u_known (C := RX0) (T := TX0) (N := 3) (n := 3) hG tbX0.1 (hG _ (gw 134 (by decide +kernel) rfl))
  obtain ⟨c1, i1, hk1⟩ := u_known (C := RX1) (T := TX1) (N := 4) (n := 4) hG tbX1.1 (hG _ (gw 107 (by decide +kernel) rfl))
  obtain ⟨c2, i2, hk2⟩ := u_known (C := RX2) (T := TX2) (N := 3) (n := 3) hG tbX2.1 (hG _ (gw 151 (by decide +kernel) rfl))
  obtain ⟨c3, i3, hk3⟩ := u_known (C := RX3) (T := TX3) (N := 7) (n := 7) hG tbX3.1 (hG _ (gw 208 (by decide +kernel) rfl))
  obtain ⟨c4, i4, hk4⟩ := u_known (C := RX4) (T := TX4) (N := 12) (n := 12) hG tbX4.1 (hG _ (gw 239 (by decide +kernel) rfl))
  obtain ⟨c5, i5, hk5⟩ := u_known (C := RX5) (T := TX5) (N := 6) (n := 6) hG tbX5.1 (hG _ (gw 78 (by decide +kernel) rfl))
  obtain ⟨c6, i6, hk6⟩ := u_known (C := RX6) (T := TX6) (N := 6) (n := 6) hG tbX6.1 (hG _ (gw 181 (by decide +kernel) rfl))
  obtain ⟨c7, i7, hk7⟩ := u_known (C := RX7) (T := TX7) (N := 2) (n := 2) hG tbX7.1 (hG _ (gw 168 (by decide +kernel) rfl))
  obtain ⟨c8, i8, hk8⟩ := u_known (C := RX8) (T := TX8) (N := 12) (n := 12) hG tbX8.1 (hG _ (gw 70 (by decide +kernel) rfl))
  obtain ⟨c9, i9, hk9⟩ := u_known (C := RX9) (T := TX9) (N := 40) (n := 40) hG tbX9.1 (hG _ (gw 865 (by decide +kernel) rfl))
  obtain ⟨a0, ka0, ca0, fa0, ha0, ea0⟩ := Cond.arrayClass_spec (args := args) (first := s) (o := none) (s := s) (idx := []) (type := .int) (hG _ gArI)
  obtain ⟨a1, ka1, ca1, fa1, ha1, ea1⟩ := Cond.arrayClass_spec (args := args) (first := s) (o := none) (s := s) (idx := []) (type := .byte) (hG _ gArB)
  obtain ⟨a2, ka2, ca2, fa2, ha2, ea2⟩ := Cond.arrayClass_spec (args := args) (first := s) (o := none) (s := s) (idx := []) (type := .long) (hG _ gArL)
  obtain ⟨ca3, a3, ka3, fb3, -, ha3, ea3, fa3⟩   := Cond.arrayOver_spec (args := args) (first := s) (o := none) (s := s) (idx := []) (n := "StripFlag$Cloth") (hts _ (List.mem_of_getElem? (i := 132) (by decide +kernel)) : (Cond.arrayOver (.object "StripFlag$Cloth")).before args s = true)
  refine ⟨(fun k => if k = 0 then c0 else if k = 1 then c1 else if k = 2 then c2 else if k = 3 then c3 else if k = 4 then c4 else if k = 5 then c5 else if k = 6 then c6 else if k = 7 then c7 else if k = 8 then c8 else c9, fun k => if k = 0 then i0 else if k = 1 then i1 else if k = 2 then i2 else if k = 3 then i3 else if k = 4 then i4 else if k = 5 then i5 else if k = 6 then i6 else if k = 7 then i7 else if k = 8 then i8 else i9), fun t => if t = 0 then a0 else if t = 1 then a1 else if t = 2 then a2 else a3, ⟨fun k q hq => ?_, fun k q hq => ?_⟩, fun w hw => ?_⟩
  · match k, hq with
    | 0, hq => cases hq; exact hk0
    | 1, hq => cases hq; exact hk1
    | 2, hq => cases hq; exact hk2
    | 3, hq => cases hq; exact hk3
    | 4, hq => cases hq; exact hk4
    | 5, hq => cases hq; exact hk5
    | 6, hq => cases hq; exact hk6
    | 7, hq => cases hq; exact hk7
    | 8, hq => cases hq; exact hk8
    | 9, hq => cases hq; exact hk9
    | k + 10, hq => simp [vwCl] at hq
  · match k, hq with
    | 0, hq => cases hq; exact ⟨fun n z => ⟨fun k h => (by cases h), ka0, ha0, ca0, ea0⟩, fa0⟩
    | 1, hq => cases hq; exact ⟨fun n z => ⟨fun k h => (by cases h), ka1, ha1, ca1, ea1⟩, fa1⟩
    | 2, hq => cases hq; exact ⟨fun n z => ⟨fun k h => (by cases h), ka2, ha2, ca2, ea2⟩, fa2⟩
    | 3, hq => cases hq; exact ⟨fun n z => ⟨fun k h => (by cases h), ka3, ha3, ca3, ea3⟩, ka3, ca3, ha3, ea3, fb3, fa3⟩
    | k + 4, hq => simp [tyL] at hq
  · have h1 : w.before args s = true := hts w (List.mem_append_right _ (List.mem_filter.mp hw).1)
    have h2 := (List.mem_filter.mp hw).2
    cases w <;> first | (exact va_Nw.of rfl h1) | (exact Bool.noConfusion h2)
def sxT (i : Nat) : Term := Term.string "StripFlag$Text" (sxIdx.getD i 0)
set_option maxHeartbeats 4000000 in
theorem hS_start {s : State} {args : Array Value} {A : Nat → Prop} (hts : ∀ w ∈ lw_tbl, w.before args s = true) (hgv : (Jvm.Cond.and given_1 narrow_1).before args s = true) (hA : ∀ a : Nat, a < s.heap.size → ¬ A a) : ∃ (gs gb : Nat → Nat) (gf : Nat), vk_S 5 sxLen sxByt gs gb A s s.heap ∧ (∀ i, i < 5 → vk_R "StripFlag$Text" (sxIdx.getD i 0) (sxTxt.getD i "") (gs i) s) ∧ va_Z "java/lang/String" "COMPACT_STRINGS" "Z" (.int 1) A s s.heap ∧ (va_Z "jdk/internal/util/Preconditions" "SIOOBE_FORMATTER" "Ljava/util/function/BiFunction;" .null A s s.heap ∨ va_Z "jdk/internal/util/Preconditions" "SIOOBE_FORMATTER" "Ljava/util/function/BiFunction;" (.ref gf) A s s.heap) := by
  have hs := flat_of_before _ hgv
  have h5 : ∀ i, i < 5 → i = 0 ∨ i = 1 ∨ i = 2 ∨ i = 3 ∨ i = 4 := fun i hi => by omega
  obtain ⟨gs, gb, hV, hR⟩ := vk_Sof (args := args) (s := s) (N := 5) (tm := sxT) (len := sxLen) (byt := sxByt) (A := A)
    (fun i hi => by rcases h5 i hi with rfl | rfl | rfl | rfl | rfl <;> decide)
    (fun i hi => by rcases h5 i hi with rfl | rfl | rfl | rfl | rfl <;> exact hs _ (by decide +kernel))
    (fun i hi => by rcases h5 i hi with rfl | rfl | rfl | rfl | rfl <;> exact hs _ (by decide +kernel))
    (fun i hi => by rcases h5 i hi with rfl | rfl | rfl | rfl | rfl <;> exact hs _ (by decide +kernel))
    (fun i hi => by rcases h5 i hi with rfl | rfl | rfl | rfl | rfl <;> exact hs _ (by decide +kernel))
    (fun i hi j hj => by
      have h7 : j < 7 := by rcases h5 i hi with rfl | rfl | rfl | rfl | rfl <;> exact Nat.lt_of_lt_of_le hj (by decide)
      rcases h5 i hi with rfl | rfl | rfl | rfl | rfl <;> rcases (show j = 0 ∨ j = 1 ∨ j = 2 ∨ j = 3 ∨ j = 4 ∨ j = 5 ∨ j = 6 by omega) with rfl | rfl | rfl | rfl | rfl | rfl | rfl <;> first | exact hs _ (by decide +kernel) | exact absurd hj (by decide))
    (fun i j hi hj hij => by
      rcases h5 i hi with rfl | rfl | rfl | rfl | rfl <;> rcases h5 j hj with rfl | rfl | rfl | rfl | rfl <;> first | exact absurd rfl hij | exact Or.inl (hs _ (by decide +kernel)) | exact Or.inr (hs _ (by decide +kernel)))
    hA
  have hr : ∀ i, i < 5 → vk_R "StripFlag$Text" (sxIdx.getD i 0) (sxTxt.getD i "") (gs i) s := fun i hi => by
    have h1 := hR i hi
    rcases h5 i hi with rfl | rfl | rfl | rfl | rfl
    · exact vk_R.of (hts _ (List.mem_of_getElem? (i := 384) (by decide +kernel))) h1
    · exact vk_R.of (hts _ (List.mem_of_getElem? (i := 437) (by decide +kernel))) h1
    · exact vk_R.of (hts _ (List.mem_of_getElem? (i := 438) (by decide +kernel))) h1
    · exact vk_R.of (hts _ (List.mem_of_getElem? (i := 439) (by decide +kernel))) h1
    · exact vk_R.of (hts _ (List.mem_of_getElem? (i := 440) (by decide +kernel))) h1
  have hZ : va_Z "java/lang/String" "COMPACT_STRINGS" "Z" (.int 1) A s s.heap := va_Zof (hts _ (List.mem_of_getElem? (i := 398) (by decide +kernel))) (hts _ (List.mem_of_getElem? (i := 62) (by decide +kernel))) (va_eqt (hs (.eq (.static "java/lang/String" "COMPACT_STRINGS" "Z") (.int 1)) (by decide +kernel))) hA
  have hQ := va_Zqof (A := A) (hts (.laysStatic "jdk/internal/util/Preconditions" "SIOOBE_FORMATTER" "Ljava/util/function/BiFunction;") (List.mem_of_getElem? (i := 414) (by decide +kernel))) (hts _ (List.mem_of_getElem? (i := 64) (by decide +kernel))) (hs (.isRef (.static "jdk/internal/util/Preconditions" "SIOOBE_FORMATTER" "Ljava/util/function/BiFunction;")) (by decide +kernel)) hA
  rcases hQ with h | ⟨t, h⟩
  · exact ⟨gs, gb, 0, hV, hr, hZ, Or.inl h⟩
  · exact ⟨gs, gb, t, hV, hr, hZ, Or.inr h⟩
theorem vk_Sc {N : Nat} {len : List Nat} {byt : List (List Int32)} {a1 a2 b1 b2 : Nat → Nat} {A : Nat → Prop} {U : State} {H : Heap} (h1 : ∀ i, i < N → a2 i = a1 i) (h2 : ∀ i, i < N → b2 i = b1 i) (h : vk_S N len byt a1 b1 A U H) : vk_S N len byt a2 b2 A U H := by
  refine ⟨fun i hi => ?_, fun i j hi hj e => ?_⟩
  · rw [h1 i hi, h2 i hi]; exact h.1 i hi
  · rw [h1 i hi, h1 j hj] at e; exact h.2 i j hi hj e
/-- where the law's places lie -/
def adL (z b : Nat) (gs gb : Nat → Nat) (gf : Nat) : Nat → Nat := fun k => if k = 500 then b else if k < 1000 then z + k else if k < 2000 then gs (k - 1000) else if k < 3000 then gb (k - 2000) else gf
