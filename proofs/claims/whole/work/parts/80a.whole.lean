/-! ===== from the law's entry ===== -/
theorem w_arr {s : State} {args : Array Value} {ty : FieldType} (h : (Cond.arrayClass ty).before args s = true) : ∃ cA : ClassId, ArrOfT s cA ty ∧ s.vm.findClass ("[" ++ ty.toString) = some cA := by
  obtain ⟨cA, kA, comp, hfind, hk, hkind⟩ := Cond.arrayClass_spec h
  exact ⟨cA, fun n z => ⟨(fun k h => by cases h), kA, hk, comp, hkind⟩, hfind⟩
theorem w_over {s : State} {args : Array Value} {C : String} (h : (Cond.arrayOver (.object C)).before args s = true) : ∃ cA : ClassId, ArrOfT s cA (.object C) ∧ va_RA s cA (.object C) := by
  obtain ⟨comp, c, k, h1, -, h3, h4, h5⟩ := Cond.arrayOver_spec h
  exact ⟨c, fun n z => ⟨(fun k h => by cases h), k, h3, comp, h4⟩, k, comp, h3, h4, h1, h5⟩
theorem w_known {s : State} {args : Array Value} (hw : ∀ w ∈ xa_W, w.before args s = true) : ∃ (dC : Nat → ClassId) (dI : Nat → Nat → Nat), ∀ (k : Nat) (q : vw_C), vwCl[k]? = some q → u_Kn s q.1 q.2.1 q.2.2 (dC k) (dI k) := by
  obtain ⟨c0, i0, k0⟩ := u_known hw xu_0 (hw _ xw_328)
  obtain ⟨c1, i1, k1⟩ := u_known hw xu_1 (hw _ xw_312)
  obtain ⟨c2, i2, k2⟩ := u_known hw xu_2 (hw _ xw_835)
  obtain ⟨c3, i3, k3⟩ := u_known hw xu_3 (hw _ xw_293)
  obtain ⟨c4, i4, k4⟩ := u_known hw xu_4 (hw _ xw_453)
  obtain ⟨c5, i5, k5⟩ := u_known hw xu_5 (hw _ xw_505)
  obtain ⟨c6, i6, k6⟩ := u_known hw xu_6 (hw _ xw_191)
  obtain ⟨c7, i7, k7⟩ := u_known hw xu_7 (hw _ xw_473)
  obtain ⟨c8, i8, k8⟩ := u_known hw xu_8 (hw _ xw_1034)
  obtain ⟨c9, i9, k9⟩ := u_known hw xu_9 (hw _ xw_334)
  obtain ⟨c10, i10, k10⟩ := u_known hw xu_10 (hw _ xw_538)
  obtain ⟨c11, i11, k11⟩ := u_known hw xu_11 (hw _ xw_183)
  obtain ⟨c12, i12, k12⟩ := u_known hw xu_12 (hw _ xw_1298)
  refine ⟨fun k => [c0, c1, c2, c3, c4, c5, c6, c7, c8, c9, c10, c11, c12].getD k c0, fun k => [i0, i1, i2, i3, i4, i5, i6, i7, i8, i9, i10, i11, i12].getD k i0, ?_⟩
  intro k q hq
  match k, hq with
  | 0, hq => cases hq; exact k0
  | 1, hq => cases hq; exact k1
  | 2, hq => cases hq; exact k2
  | 3, hq => cases hq; exact k3
  | 4, hq => cases hq; exact k4
  | 5, hq => cases hq; exact k5
  | 6, hq => cases hq; exact k6
  | 7, hq => cases hq; exact k7
  | 8, hq => cases hq; exact k8
  | 9, hq => cases hq; exact k9
  | 10, hq => cases hq; exact k10
  | 11, hq => cases hq; exact k11
  | 12, hq => cases hq; exact k12
  | k + 13, hq => simp at hq
abbrev w_tm : Term := .string "WrongCook$Reader" 26
abbrev w_val : Term := .field w_tm "java/lang/String" "value" "[B"
def w_row (j : Nat) : Cond := .eq (.elem w_val (.int (Int32.ofNat j))) (.int (Int32.ofInt (xby j)))
set_option maxRecDepth 100000 in
theorem w_list : (flatC (Jvm.Cond.and given_1 narrow_1)).drop 39 = (List.range 151).map w_row := by decide +kernel
theorem w_el (j : Nat) (hj : j < 151) : w_row j ∈ flatC (Jvm.Cond.and given_1 narrow_1) := by
  refine List.mem_of_mem_drop (i := 39) ?_
  rw [w_list]
  exact List.mem_map.mpr ⟨j, List.mem_range.mpr hj, rfl⟩
set_option maxRecDepth 100000 in
theorem w_given : (Cond.exactly w_tm "java/lang/String" ∈ flatC (Jvm.Cond.and given_1 narrow_1) ∧ Cond.eq (.field w_tm "java/lang/String" "coder" "B") (.int 0) ∈ flatC (Jvm.Cond.and given_1 narrow_1) ∧ Cond.arrayOf w_val .byte ∈ flatC (Jvm.Cond.and given_1 narrow_1) ∧ Cond.eq (.length w_val) (.int (Int32.ofNat 151)) ∈ flatC (Jvm.Cond.and given_1 narrow_1)) ∧ Cond.eq (.static "java/lang/String" "COMPACT_STRINGS" "Z") (.int 1) ∈ flatC (Jvm.Cond.and given_1 narrow_1) ∧ Cond.isRef (.static "jdk/internal/util/Preconditions" "SIOOBE_FORMATTER" "Ljava/util/function/BiFunction;") ∈ flatC (Jvm.Cond.and given_1 narrow_1) := by decide +kernel
set_option maxRecDepth 100000 in
theorem w_words : (Cond.arrayClass .int ∈ lw_tbl ∧ Cond.arrayClass .long ∈ lw_tbl ∧ Cond.arrayClass .byte ∈ lw_tbl ∧ Cond.arrayClass .char ∈ lw_tbl ∧ Cond.arrayOver (.object "WrongCook$State") ∈ lw_tbl ∧ Cond.arrayOver (.object "WrongCook$Sorter") ∈ lw_tbl) ∧ (Cond.laysStatic "java/lang/String" "COMPACT_STRINGS" "Z" ∈ lw_tbl ∧ Cond.initialized "java/lang/String" ∈ lw_tbl ∧ Cond.laysStatic "jdk/internal/util/Preconditions" "SIOOBE_FORMATTER" "Ljava/util/function/BiFunction;" ∈ lw_tbl ∧ Cond.initialized "jdk/internal/util/Preconditions" ∈ lw_tbl) ∧ Cond.stringRef "WrongCook$Reader" 26 "held salt holder has wants purse values feud sister swaps pays fog gets gives met night number or and not all min max first last often total most least" ∈ lw_tbl ∧ ∀ w ∈ xa_N, w ∈ lw_tbl := by decide +kernel
theorem w_Kn {s : State} {args : Array Value} {b L : Nat} {xs : Nat → Int32} (hts : ∀ w ∈ lw_tbl, w.before args s = true) (hgv : (Jvm.Cond.and given_1 narrow_1).before args s = true) (hX : va_X b L xs s s.heap) : ∃ G : xa_C, gb G = s.heap.size ∧ gS G = b ∧ gH G = s.heap ∧ xa_Kn G s := by
  have hwW : ∀ w ∈ xa_W, w.before args s = true := fun w hw => hts w (List.mem_filter.mp hw).1
  have hs := flat_of_before _ hgv
  obtain ⟨⟨g1, g2, g3, g4⟩, g5, g6⟩ := w_given
  obtain ⟨⟨t0, t1, t2, t3, t4, t5⟩, ⟨t6, t7, t8, t9⟩, t10, t11⟩ := w_words
  obtain ⟨dC, dI, hKc⟩ := w_known hwW
  obtain ⟨a0, r0, n0⟩ := w_arr (hts _ t0)
  obtain ⟨a1, r1, n1⟩ := w_arr (hts _ t1)
  obtain ⟨a2, r2, n2⟩ := w_arr (hts _ t2)
  obtain ⟨a3, r3, n3⟩ := w_arr (hts _ t3)
  obtain ⟨a4, r4, n4⟩ := w_over (hts _ t4)
  obtain ⟨a5, r5, n5⟩ := w_over (hts _ t5)
  have hA : ∀ a : Nat, a < s.heap.size → ¬ s.heap.size ≤ a := fun a h => Nat.not_le.mpr h
  obtain ⟨q, cQ, cA, kA, q1, q2, q3, q4, q5, q6, -⟩ := Cond.exactly_spec (args := args) (first := s) (o := none) (s := s) (idx := []) (t := w_tm) (cls := "java/lang/String") (hs _ g1)
  obtain ⟨tv, ht, hT⟩ := va_Tof (N := 151) (f := fun j => .int (Int32.ofInt (xby j))) (A := fun q : Nat => s.heap.size ≤ q) (by decide) (hs _ g3) (va_eqt (hs _ g4)) (fun j hj => va_eqt (hs _ (w_el j hj))) hA
  have z1 := va_Zof (A := fun q : Nat => s.heap.size ≤ q) (hts _ t6) (hts _ t7) (va_eqt (hs _ g5)) hA
  have z2 := va_Zqof (A := fun q : Nat => s.heap.size ≤ q) (hts _ t8) (hts _ t9) (hs _ g6) hA
  obtain ⟨gw, hgw, z3⟩ : ∃ v : Value, (v = .null ∨ ∃ a : Nat, v = .ref a) ∧ va_Z "jdk/internal/util/Preconditions" "SIOOBE_FORMATTER" "Ljava/util/function/BiFunction;" v (fun q : Nat => s.heap.size ≤ q) s s.heap := by
    rcases z2 with h | ⟨t, h⟩
    · exact ⟨.null, Or.inl rfl, h⟩
    · exact ⟨.ref t, Or.inr ⟨t, rfl⟩, h⟩
  obtain ⟨scr, h1, h2, h3, -, -⟩ := hX
  refine ⟨(s.heap.size, dC, dI, (fun k => [a0, a1, a2, a3, a4, a5].getD k a0), b, q, s.heap, tv, gw), rfl, rfl, rfl, ⟨hKc, fun k x hx => ?_⟩, ?_, va_AO.of (hts _ t4), va_AO.of (hts _ t5), ⟨cA, q3, q5, by rw [q6]; exact q2, hA _ (Array.getElem?_eq_some_iff.mp q3).1⟩, vk_OFof q1 (va_eqt (hs _ g2)) hA, vk_OFof q1 ht hA, hT, z1, z3, hgw, vk_R.of (hts _ t10) q1, scr, h1, h2, h3⟩
  · match k, hx with
    | 0, hx => cases hx; exact ⟨r0, n0⟩
    | 1, hx => cases hx; exact ⟨r1, n1⟩
    | 2, hx => cases hx; exact ⟨r2, n2⟩
    | 3, hx => cases hx; exact ⟨r3, n3⟩
    | 4, hx => cases hx; exact ⟨r4, n4⟩
    | 5, hx => cases hx; exact ⟨r5, n5⟩
    | k + 6, hx => simp [xa_tys] at hx
  · intro w hw
    have hl := hts w (t11 w hw)
    simp only [xa_N, List.mem_cons, List.not_mem_nil, or_false] at hw
    rcases hw with rfl | rfl | rfl | rfl | rfl | rfl <;> exact va_Nw.of rfl hl
/-- a smaller room, and what the walk of the law leaves -/
theorem w_room {s : State} {pl : Platform} {r r' : Room} (h : s.hasRoom pl r = true) (h1 : r'.frames ≤ r.frames) (h2 : r'.locals ≤ r.locals) (h3 : r'.cells ≤ r.cells) (h4 : r'.slots ≤ r.slots) : s.hasRoom pl r' = true := by
  have a := State.hasRoom_stack h
  have b := State.hasRoom_heap h
  have c := State.hasRoom_real h
  refine State.hasRoom_of (State.hasRoom_plain h) (by omega) (by omega) (by omega) (by omega) ?_ (by omega)
  simp only [State.hasRoom, Bool.and_eq_true, decide_eq_true_eq] at h
  exact h.2
