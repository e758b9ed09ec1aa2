/-! ===== the abstract machine: values, heap, relation to the machine's own ===== -/
abbrev xa_V : Type := Int ⊕ Int ⊕ Int
abbrev xI (v : Int) : xa_V := .inl v
abbrev xL (v : Int) : xa_V := .inr (.inl v)
abbrev xR (v : Int) : xa_V := .inr (.inr v)
/-- base, numbers of the classes, their slots, numbers of the array classes, the script's cell, the text's cell, the heap at the start -/
abbrev xa_C : Type := Nat × (Nat → ClassId) × (Nat → Nat → Nat) × (Nat → ClassId) × Nat × Nat × Heap × Nat × Value
def gb (G : xa_C) : Nat := G.1
def gC (G : xa_C) : Nat → ClassId := G.2.1
def gI (G : xa_C) : Nat → Nat → Nat := G.2.2.1
def gAq (G : xa_C) : Nat → ClassId := G.2.2.2.1
def gS (G : xa_C) : Nat := G.2.2.2.2.1
def gT (G : xa_C) : Nat := G.2.2.2.2.2.1
def gH (G : xa_C) : Heap := G.2.2.2.2.2.2.1
def gV (G : xa_C) : Nat := G.2.2.2.2.2.2.2.1
def gW (G : xa_C) : Value := G.2.2.2.2.2.2.2.2
def xvt (t : Nat) (v : Int) : xa_V := match t with
  | 1 => xL v
  | 2 => xR v
  | _ => xI v
def xaty : Nat → FieldType
  | 0 => .int
  | 1 => .long
  | 2 => .byte
  | 3 => .char
  | 4 => .object "WrongCook$State"
  | _ => .object "WrongCook$Sorter"
def xa_r (G : xa_C) (v : Int) (c : Value) : Prop := (v = -1 ∧ c = .null) ∨ (∃ n : Nat, v = (n : Int) ∧ c = .ref (gb G + n)) ∨ (v = -2 ∧ c = .ref (gS G)) ∨ (v = -3 ∧ c = .ref (gT G)) ∨ (v = -4 ∧ c = .ref (gV G)) ∨ (v = -5 ∧ c = gW G ∧ (c = .null ∨ ∃ a : Nat, c = .ref a))
def xa_v (G : xa_C) : xa_V → Value → Prop
  | .inl v, c => ∃ x : Int32, c = .int x ∧ v = x.toInt
  | .inr (.inl v), c => ∃ x : Int64, c = .long x ∧ v = x.toInt
  | .inr (.inr v), c => xa_r G v c
def xa_vs (G : xa_C) : List xa_V → List Value → Prop
  | [], cs => cs = []
  | a :: as, cs => ∃ (c : Value) (cs' : List Value), cs = c :: cs' ∧ xa_v G a c ∧ xa_vs G as cs'
def xa_l (G : xa_C) (ls : List (Option xa_V)) (nL : Nat) (lc : Array Slot) : Prop := lc.size = nL ∧ lv_wf lc ∧ ∀ (i : Nat) (v : xa_V), ls[i]? = some (some v) → ∃ c : Value, xa_v G v c ∧ lc[i]? = some (.val c)
def xa_c (G : xa_C) (h : xa_H) (H : Heap) (a : Nat) : Prop :=
  ((xk h a).1 < 6 ∧ ∃ F : Nat → Value, H[gb G + a]? = some (arrV (gAq G (xk h a).1) (xk h a).2 F) ∧ ∀ k, k < (xk h a).2 → xa_v G (xvt (xtag (xaty (xk h a).1)) (xm h a k)) (F k)) ∨
  (∃ (ci : Nat) (C : String) (T : u_T), (xk h a).1 = 10 + ci ∧ vwCl[ci]? = some (C, T, (xk h a).2) ∧ ∃ F : Nat → Value, t_OB (gb G + a) (gC G ci) (xk h a).2 (gI G ci) H F ∧ ∀ k, k < (xk h a).2 → xa_v G (xvt (xtag (xtyf ci k)) (xm h a k)) (F k))
def xa_rel (G : xa_C) (h : xa_H) (H : Heap) : Prop := H.size = gb G + xn h ∧ (∀ a, a < xn h → xa_c G h H a) ∧ ∀ q : Nat, q < gb G → H[q]? = (gH G)[q]?
def xa_tys (G : xa_C) : List (ClassId × FieldType) := [(gAq G 0, .int), (gAq G 1, .long), (gAq G 2, .byte), (gAq G 3, .char), (gAq G 4, .object "WrongCook$State"), (gAq G 5, .object "WrongCook$Sorter")]
/-- links of private constructors among nest mates -/
def xa_N : List Cond := [Cond.methodLinkNest RX0 55 yX9_init RX11, Cond.methodLinkNest RX11 53 yX9_init RX11, Cond.methodLinkNest RX4 24 yX9_init RX11, Cond.methodLinkNest RX11 67 yX7_init RX11, Cond.methodLinkNest RX11 77 yX5_init RX11, Cond.methodLinkNest RX11 84 yX10_init RX11]
def xa_A (G : xa_C) : Nat → Prop := fun q => gb G ≤ q
/-- what lies below: the text, two statics, the script -/
def xa_K2 (G : xa_C) (s : State) : Prop :=
  va_O "java/lang/String" (gT G) (xa_A G) s (gH G) ∧ va_OF "java/lang/String" "coder" "B" (.int 0) (gT G) (xa_A G) s (gH G) ∧ va_OF "java/lang/String" "value" "[B" (.ref (gV G)) (gT G) (xa_A G) s (gH G) ∧ va_T .byte (gV G) 151 (fun j => .int (Int32.ofInt (xby j))) (xa_A G) s (gH G) ∧
  va_Z "java/lang/String" "COMPACT_STRINGS" "Z" (.int 1) (xa_A G) s (gH G) ∧ va_Z "jdk/internal/util/Preconditions" "SIOOBE_FORMATTER" "Ljava/util/function/BiFunction;" (gW G) (xa_A G) s (gH G) ∧ (gW G = .null ∨ ∃ a : Nat, gW G = .ref a) ∧
  vk_R "WrongCook$Reader" 26 "held salt holder has wants purse values feud sister swaps pays fog gets gives met night number or and not all min max first last often total most least" (gT G) s ∧ ∃ scr : Cell, (gH G)[gS G]? = some scr ∧ s.isArrayOf scr .int ∧ scr.vm ≠ .unknown
theorem xa_K2.al {G : xa_C} {s U : State} (hv : s.vm.Alike U.vm) (hR : vk_R "WrongCook$Reader" 26 "held salt holder has wants purse values feud sister swaps pays fog gets gives met night number or and not all min max first last often total most least" (gT G) U) (h : xa_K2 G s) : xa_K2 G U := by
  obtain ⟨h1, h2, h3, h4, h5, h6, h7, h8, scr, h9, h10, h11⟩ := h
  exact ⟨h1.moved hv, h2.moved hv, h3.moved hv, h4.moved hv, h5.moved hv, h6.moved hv, h7, hR, scr, h9, State.isArrayOf_alike hv h10, h11⟩
def xa_Kn (G : xa_C) (s : State) : Prop := va_K (gC G, gI G) vwCl (xa_tys G) s ∧ (∀ w ∈ xa_N, va_Nw w s) ∧ va_AO "WrongCook$State" s ∧ va_AO "WrongCook$Sorter" s ∧ xa_K2 G s
theorem xa_Kn.mv {G : xa_C} {s U : State} (hW : s.WarmedH U.vm) (h : xa_Kn G s) : xa_Kn G U := by
  refine ⟨va_K.moved hW.alike h.1, ?_, va_AO.moved hW.alike h.2.2.1, va_AO.moved hW.alike h.2.2.2.1, h.2.2.2.2.al hW.alike (h.2.2.2.2.2.2.2.2.2.2.2.1.warm hW)⟩
  intro w hw
  have h1 := h.2.1 w hw
  simp only [xa_N, List.mem_cons, List.not_mem_nil, or_false] at hw
  rcases hw with rfl | rfl | rfl | rfl | rfl | rfl <;> exact va_Nw.warmM hW h1
theorem xa_Kn.same {G : xa_C} {s : State} {g : JFrame} {mk : MethodId} {a : Array Value} (h : xa_Kn G s) : xa_Kn G (s.calling g mk a) := by
  refine ⟨va_K.moved (u := s) (U := s.calling g mk a) (Vm.Alike.refl s.vm) h.1, ?_, va_AO.moved (u := s) (U := s.calling g mk a) (Vm.Alike.refl s.vm) h.2.2.1, va_AO.moved (u := s) (U := s.calling g mk a) (Vm.Alike.refl s.vm) h.2.2.2.1, h.2.2.2.2.al (U := s.calling g mk a) (Vm.Alike.refl s.vm) (h.2.2.2.2.2.2.2.2.2.2.2.1.same rfl)⟩
  intro w hw
  have h1 := h.2.1 w hw
  simp only [xa_N, List.mem_cons, List.not_mem_nil, or_false] at hw
  rcases hw with rfl | rfl | rfl | rfl | rfl | rfl <;> exact va_Nw.same rfl rfl h1
/-- a method: bytes, locals, what it returns, its class, whether a constructor -/
abbrev xa_M : Type := ByteArray × Nat × Option FieldType × String × Bool
def xa_W : List Cond := lw_tbl.filter goodWord
theorem xa_in {w : Cond} (i : Nat) (h : lw_tbl[i]? = some w) (hg : goodWord w = true) : w ∈ xa_W := List.mem_filter.mpr ⟨List.mem_of_getElem? h, hg⟩
theorem xa_Wgood : ∀ w ∈ xa_W, (w.onTables && w.keeps) = true ∨ ∃ ty, w = .arrayClass ty := fun _ h => good_of_word (List.mem_filter.mp h).2
theorem xa_goodIn {w : Cond} (h : w ∈ xa_W) : GoodIn xa_W (w :: xa_W) := fun u hu => by
  rcases List.mem_cons.mp hu with rfl | hu
  · exact ⟨h, xa_Wgood _ h⟩
  · exact ⟨hu, xa_Wgood _ hu⟩
def xa_F (G : xa_C) (M : xa_M) (p : Program) (s : State) (m : MethodId) (args : Array Value) (meth : Method) (c : Code) : Prop :=
  p.tables.exec = Jvm.exec ∧ c.code = M.1 ∧ c.maxLocals = M.2.1 ∧ s.vm.findClass M.2.2.2.1 = some m.cls ∧ (∀ w ∈ xa_W, w.before args s = true) ∧ xa_Kn G s ∧ meth.sig.returnType = M.2.2.1 ∧ meth.locks = false ∧ (M.2.2.2.2 = true → meth.name = "<init>")
abbrev xa_O : Type := Option xa_V × xa_H
def xa_ov (G : xa_C) : Option xa_V → Option Value → Prop
  | none, c => c = none
  | some v, c => ∃ x : Value, c = some x ∧ xa_v G v x
def xa_Q (G : xa_C) (o : xa_O) : Array Value → State → Outcome → State → Prop := fun _ _ oc t => (∃ c : Option Value, oc = .returned c ∧ xa_ov G o.1 c) ∧ xa_rel G o.2 t.heap
def xa_P (G : xa_C) (as : List xa_V) (h : xa_H) : Array Value → State → Prop := fun v U => (∃ cs : List Value, v = cs.toArray ∧ xa_vs G as cs) ∧ xa_rel G h U.heap ∧ xa_Kn G U
def xa_rm (d nc ns : Nat) : Room := { frames := d, cells := nc, slots := ns, locals := 64 * d }
/-- the method's contract: from these arguments and this heap it comes to this outcome -/
def xa_CT (l : Launch) (G : xa_C) (d : Nat) (M : xa_M) (y : MethodName) (as : List xa_V) (h : xa_H) (o : xa_O) : Prop :=
  (xn h ≤ xn o.2 ∧ xz h ≤ xz o.2) ∧ Met l y (Cond.code y M.1 M.2.1 M.2.2.1 :: xa_W) (xa_rm d (xn o.2 - xn h) (xz o.2 - xz h)) (xa_P G as h) (xa_Q G o) (xn o.2 - xn h) (xz o.2 - xz h) (fun q => gb G ≤ q)
/-- from here (pc, locals, stack, heap) the method comes to the outcome that E, then F tell -/
def xa_G (l : Launch) (G : xa_C) (d : Nat) (M : xa_M) {α : Type} (E : Option α) (F : α → Option xa_O) (pc : Nat) (ls : List (Option xa_V)) (st : List xa_V) (h : xa_H) : Prop :=
  ∀ o : xa_O, E.bind F = some o → (xn h ≤ xn o.2 ∧ xz h ≤ xz o.2) ∧ ∀ (n0 z0 : Nat), n0 ≤ xn h → z0 ≤ xz h →
    ∀ (p : Program) (e : Env) (s : State) (m : MethodId) (args : Array Value) (below : List Frame) (meth : Method) (c : Code) (H : Heap) (locs : List Loc) (lc : Array Slot) (cs : List Value),
      xa_F G M p s m args meth c → xa_l G ls M.2.1 lc → xa_vs G st cs → xa_rel G h H → (∀ q ∈ locs, gb G ≤ q.base) →
      W p l e (xa_rm d (xn o.2 - n0) (xz o.2 - z0)) s m args below meth c H locs (xn h - n0) (xz h - z0) (MQ below (xa_Q G o) args s (xn o.2 - n0) (xz o.2 - z0) (fun q => gb G ≤ q)) (F0 m pc lc cs)
/-- one step that leaves the heap -/
def xa_S (G : xa_C) (M : xa_M) (pc : Nat) (ls : List (Option xa_V)) (st : List xa_V) (pc' : Nat) (ls' : List (Option xa_V)) (st' : List xa_V) : Prop :=
  ∀ (p : Program) (l : Launch) (e : Env) (R : Room) (s : State) (m : MethodId) (args : Array Value) (below : List Frame) (meth : Method) (c : Code) (H : Heap) (locs : List Loc) (cells slots : Nat) (Q : State → Prop) (lc : Array Slot) (cs : List Value),
    xa_F G M p s m args meth c → xa_l G ls M.2.1 lc → xa_vs G st cs → (∀ (lc' : Array Slot) (cs' : List Value), xa_l G ls' M.2.1 lc' → xa_vs G st' cs' → W p l e R s m args below meth c H locs cells slots Q (F0 m pc' lc' cs')) → W p l e R s m args below meth c H locs cells slots Q (F0 m pc lc cs)
section XA
variable {l : Launch} {G : xa_C} {d : Nat} {M : xa_M} {α β : Type} {E : Option α} {F : α → Option xa_O} {pc pc' : Nat} {ls ls' : List (Option xa_V)} {st st' : List xa_V} {h : xa_H}
theorem xa_step (hs : xa_S G M pc ls st pc' ls' st') (k : xa_G l G d M E F pc' ls' st' h) : xa_G l G d M E F pc ls st h := by
  intro o ho
  obtain ⟨h1, h2⟩ := k o ho
  exact ⟨h1, fun n0 z0 a b p e s m args below meth c H locs lc cs hf hl hv hr hq => hs p l e _ s m args below meth c H locs _ _ _ lc cs hf hl hv (fun lc' cs' hl' hv' => h2 n0 z0 a b p e s m args below meth c H locs lc' cs' hf hl' hv' hr hq)⟩
theorem xa_eqE {E' : Option β} {F' : β → Option xa_O} (e : E.bind F = E'.bind F') (k : xa_G l G d M E' F' pc ls st h) : xa_G l G d M E F pc ls st h := by
  intro o ho
  exact k o (by rw [← e]; exact ho)
theorem xa_bind {E0 : Option β} {E1 : β → Option α} (k : xa_G l G d M E0 (fun b => (E1 b).bind F) pc ls st h) : xa_G l G d M (E0.bind E1) F pc ls st h := xa_eqE (by rw [Option.bind_assoc]) k
theorem xa_none : xa_G l G d M (none : Option α) F pc ls st h := by
  intro o ho
  simp at ho
/-- fewer locals known -/
def xa_le : List (Option xa_V) → List (Option xa_V) → Prop
  | [], _ => True
  | none :: t', a :: t => xa_le t' t
  | some v :: t', a :: t => a = some v ∧ xa_le t' t
  | none :: t', [] => xa_le t' []
  | some _ :: _, [] => False
theorem xa_le_get : ∀ (l1 l2 : List (Option xa_V)), xa_le l1 l2 → ∀ (i : Nat) (v : xa_V), l1[i]? = some (some v) → l2[i]? = some (some v)
  | [], _, _, i, v, h => by simp at h
  | none :: t', a :: t, hl, 0, v, h => by simp at h
  | none :: t', a :: t, hl, i + 1, v, h => by simpa using xa_le_get t' t hl i v (by simpa using h)
  | some w :: t', a :: t, hl, 0, v, h => by
    have e : w = v := by simpa using h
    have e2 : a = some w := hl.1
    rw [e2, e]; simp
  | some w :: t', a :: t, hl, i + 1, v, h => by simpa using xa_le_get t' t hl.2 i v (by simpa using h)
  | none :: t', [], hl, 0, v, h => by simp at h
  | none :: t', [], hl, i + 1, v, h => by
    have := xa_le_get t' [] hl i v (by simpa using h)
    simp at this
  | some _ :: _, [], hl, i, v, h => hl.elim
theorem xa_weak (hle : xa_le ls' ls) (k : xa_G l G d M E F pc ls' st h) : xa_G l G d M E F pc ls st h :=
  xa_step (fun p l e R s m args below meth c H locs cells slots Q lc cs hf hl hv kk => kk lc cs ⟨hl.1, hl.2.1, fun i v hi => hl.2.2 i v (xa_le_get _ _ hle i v hi)⟩ hv) k
end XA
