section XR5
def xa_cs : List xa_V → Nat
  | [] => 0
  | .inl _ :: t => 1 + xa_cs t
  | .inr (.inl _) :: t => 2 + xa_cs t
  | .inr (.inr _) :: t => 1 + xa_cs t
def xa_push : Option xa_V → List xa_V → List xa_V
  | none, st => st
  | some v, st => v :: st
variable {l : Launch} {G : xa_C} {d : Nat} {M : xa_M} {α β : Type} {F : α → Option xa_O} {pc pc' : Nat} {ls ls' : List (Option xa_V)} {st st' : List xa_V} {h : xa_H}
theorem xa_cs_ok : ∀ (st : List xa_V) (cs : List Value), xa_vs G st cs → (cs.map fun v => v.category).sum = xa_cs st
  | [], cs, hv => by
    obtain rfl := hv
    rfl
  | .inl v :: t, cs, hv => by
    obtain ⟨c, cs', rfl, h1, h2⟩ := hv
    have := xa_cs_ok t cs' h2
    have hc := xa_cat h1 (xa_tI v)
    simp [xa_cs, hc, this]
  | .inr (.inl v) :: t, cs, hv => by
    obtain ⟨c, cs', rfl, h1, h2⟩ := hv
    have := xa_cs_ok t cs' h2
    have hc := xa_catL h1
    simp [xa_cs, hc, this]
  | .inr (.inr v) :: t, cs, hv => by
    obtain ⟨c, cs', rfl, h1, h2⟩ := hv
    have := xa_cs_ok t cs' h2
    have hc := xa_cat h1 (xa_tR v)
    simp [xa_cs, hc, this]
theorem xa_vs_app : ∀ (s1 s2 : List xa_V) (cs : List Value), xa_vs G (s1 ++ s2) cs → ∃ c1 c2, cs = c1 ++ c2 ∧ xa_vs G s1 c1 ∧ xa_vs G s2 c2
  | [], s2, cs, hv => ⟨[], cs, rfl, rfl, hv⟩
  | a :: t, s2, cs, hv => by
    obtain ⟨c, cs', rfl, h1, h2⟩ := hv
    obtain ⟨c1, c2, rfl, h3, h4⟩ := xa_vs_app t s2 cs' h2
    exact ⟨c :: c1, c2, rfl, ⟨_, _, rfl, h1, h3⟩, h4⟩
theorem xa_vs_app' : ∀ (s1 s2 : List xa_V) (c1 c2 : List Value), xa_vs G s1 c1 → xa_vs G s2 c2 → xa_vs G (s1 ++ s2) (c1 ++ c2)
  | [], s2, c1, c2, h1, h2 => by
    obtain rfl := h1
    exact h2
  | a :: t, s2, c1, c2, h1, h2 => by
    obtain ⟨c, cs', rfl, h3, h4⟩ := h1
    exact ⟨c, cs' ++ c2, rfl, h3, xa_vs_app' t s2 cs' c2 h4 h2⟩
theorem xa_vs_rev : ∀ (as : List xa_V) (cs : List Value), xa_vs G as.reverse cs → xa_vs G as cs.reverse
  | [], cs, hv => by
    obtain rfl : cs = [] := hv
    rfl
  | a :: t, cs, hv => by
    rw [List.reverse_cons] at hv
    obtain ⟨c1, c2, rfl, h1, c, cs', rfl, h2, rfl⟩ := xa_vs_app _ _ _ hv
    rw [List.reverse_append]
    exact ⟨c, c1.reverse, rfl, h2, xa_vs_rev t c1 h1⟩
theorem xa_vs_len : ∀ (as : List xa_V) (cs : List Value), xa_vs G as cs → cs.length = as.length
  | [], cs, hv => by
    obtain rfl := hv
    rfl
  | a :: t, cs, hv => by
    obtain ⟨c, cs', rfl, h1, h2⟩ := hv
    simp [xa_vs_len t cs' h2]
theorem xa_blind (as : List xa_V) (h : xa_H) : FrameBlind (xa_P G as h) := fun a U g mk q => ⟨q.1, q.2.1, q.2.2.same⟩
/-- behind a call -/
theorem xa_after {p : Program} {e : Env} {R : Room} {s : State} {m : MethodId} {args a : Array Value} {below : List Frame} {meth : Method} {c : Code} {H : Heap} {locs : List Loc} {cells slots mc ms : Nat} {Q : State → Prop} {g : JFrame} {rest : List Value} {o' : xa_O}
    (hr : CallRun p l e R s m args below meth c H locs cells slots mc ms g rest (xa_Q G o' a) (fun q => gb G ≤ q)) (hq : ∀ q ∈ locs, gb G ≤ q.base) (hrest : xa_vs G st rest)
    (kk : ∀ (H' : Heap) (locs' : List Loc) (cs : List Value), xa_rel G o'.2 H' → (∀ q ∈ locs', gb G ≤ q.base) → xa_vs G (xa_push o'.1 st) cs → W p l e R s m args below meth c H' locs' (cells + mc) (slots + ms) Q { g with pc := g.pc + 3, stack := cs }) : W p l e R s m args below meth c H locs cells slots Q g := by
  intro T hT X
  obtain ⟨v, st₀, t, T', L, h0, X', hL, e1, ⟨⟨cv, hcv, hov⟩, hrel⟩, go⟩ := hr T hT X
  obtain rfl : v = cv := Outcome.returned.inj hcv
  have hcs : xa_vs G (xa_push o'.1 st) (v.toList ++ rest) := by
    rcases o' with ⟨o1, o2⟩
    cases o1 with
    | none =>
      obtain rfl : v = none := hov
      exact hrest
    | some w =>
      obtain ⟨x, rfl, hx⟩ := hov
      exact ⟨x, rest, rfl, hx, hrest⟩
  obtain ⟨t2, a1, b1⟩ := kk t.heap (locs ++ L) (v.toList ++ rest) hrel (fun q hq' => (List.mem_append.mp hq').elim (hq q) (hL q)) hcs T' e1 X'
  exact ⟨t2, go t2 a1, b1⟩
theorem xa_callV {Ef : Option β} {cv : β → xa_O} {E : β → Option α} {a : Int} {as st0 : List xa_V} {y : MethodName} {M' : xa_M} {d' idx n ci N : Nat} {C : String} {T : u_T} (xc : vwCl[ci]? = some (C, T, N))
    (wl : Cond.methodLink M.2.2.2.1 idx y ∈ xa_W) (wi : Cond.instanceMethod y ∈ xa_W) (wse : Cond.selects C y y ∈ xa_W) (wc : Cond.code y M'.1 M'.2.1 M'.2.2.1 ∈ xa_W) (wz : Cond.initialized y.cls ∈ xa_W)
    (hy : y.cls ≠ "java/lang/invoke/MethodHandle" ∧ y.cls ≠ "java/lang/invoke/VarHandle" ∧ (parseMethodDescriptor y.desc).map (fun d => d.parameters.length) = some n) (hn : as.length = n) (hd2 : d' + 1 ≤ d ∧ 8 + (M'.2.1 + 11) + 64 * d' ≤ 64 * d) (hst : xa_cs st ≤ 8) (hs0 : st0 = as.reverse ++ xR a :: st)
    (hd : decode M.1 pc = .ok (.invokevirtual idx, 3) ∧ pc + 3 = pc')
    (hct : ∀ r, Ef = some r → xa_CT l G d' M' y (xR a :: as) h (cv r))
    (kk : ∀ r, Ef = some r → xa_G l G d M (E r) F pc' ls (xa_push (cv r).1 st) (cv r).2) : xa_G l G d M ((xrc h ci a Ef).bind E) F pc ls st0 h := by
  subst hs0
  intro o ho
  obtain ⟨hd, rfl⟩ := hd
  unfold xrc at ho
  by_cases hok : xok h ci a = true
  case neg =>
    rw [if_neg hok] at ho
    simp at ho
  rw [if_pos hok] at ho
  cases hE : Ef with
  | none => rw [hE] at ho; simp at ho
  | some r =>
    rw [hE] at ho
    obtain ⟨h1, h2⟩ := kk r hE o ho
    obtain ⟨hm, hM⟩ := hct r hE
    refine ⟨⟨by omega, by omega⟩, fun n0 z0 a' b' p e s m args below meth c H locs lc cs hf hll hvs hrel hq => ?_⟩
    obtain ⟨ca, cr, rfl, hca, c1, cs1, rfl, hr, hvs'⟩ := xa_vs_app _ _ _ hvs
    obtain ⟨nn, rfl, hnn, hkd⟩ := xok_spec hok
    obtain rfl := xa_ref hr
    obtain ⟨-, FF, ⟨cell, q1, q2, q3, -⟩, -⟩ := xa_obj xc hrel hnn hkd
    have hcls := (hf.2.2.2.2.2.1.1.1 ci _ xc).2.1
    have hcar := xa_vs_rev as ca hca
    refine xa_after (o' := cv r) (rest := cs1) (mc := xn (cv r).2 - xn h) (ms := xz (cv r).2 - xz h) (W.runV (As := ca.reverse) (rest := cs1) (cc := M.1) (nL := M.2.1) (Ts := xa_W) (own := M.2.2.2.1) (C := C) ⟨hf.1, hf.2.1, hf.2.2.1, hf.2.2.2.1, hf.2.2.2.2.1⟩ hM ⟨callB_of n hf.2.2.2.2.1 (xa_goodIn wc) rfl rfl rfl (hf.2.2.2.2.1 _ wz) (hf.2.2.2.2.1 _ wl) hy hd2, hf.2.2.2.2.1 _ wi, hf.2.2.2.2.1 _ wse⟩ ⟨xa_blind _ _, ⟨cell, q1, by rw [q3]; rfl, by rw [q2]; exact hcls⟩, fun U hU hW => ⟨⟨_, rfl, _, _, rfl, hr, hcar⟩, by rw [hU]; exact hrel, xa_Kn.mv hW hf.2.2.2.2.2.1⟩⟩ rfl (by rw [xa_vs_len _ _ hcar]; exact hn) hll.1 (by simp) (by show 2 * 0 + _ ≤ 8; rw [xa_cs_ok _ _ hvs']; omega) hd ⟨show xn h - n0 + (xn (cv r).2 - xn h) ≤ xn o.2 - n0 by omega, show xz h - z0 + (xz (cv r).2 - xz h) ≤ xz o.2 - z0 by omega⟩) hq hvs' (fun H' locs' cs' hrel' hq' hcs' => ?_)
    refine W.cs (cells' := xn (cv r).2 - n0) (slots' := xz (cv r).2 - z0) (by omega) (by omega) ?_
    exact h2 n0 z0 (by omega) (by omega) p e s m args below meth c H' locs' lc cs' hf hll hcs' hrel' hq'
theorem xa_callS {Ef : Option β} {cv : β → xa_O} {E : β → Option α} {as st0 : List xa_V} {y : MethodName} {M' : xa_M} {d' idx n : Nat}
    (wl : Cond.methodLink M.2.2.2.1 idx y ∈ xa_W) (wi : Cond.static y ∈ xa_W) (wc : Cond.code y M'.1 M'.2.1 M'.2.2.1 ∈ xa_W) (wz : Cond.initialized y.cls ∈ xa_W)
    (hy : y.cls ≠ "java/lang/invoke/MethodHandle" ∧ y.cls ≠ "java/lang/invoke/VarHandle" ∧ (parseMethodDescriptor y.desc).map (fun d => d.parameters.length) = some n) (hn : as.length = n) (hd2 : d' + 1 ≤ d ∧ 8 + (M'.2.1 + 11) + 64 * d' ≤ 64 * d) (hst : xa_cs st ≤ 8) (hs0 : st0 = as.reverse ++ st)
    (hd : decode M.1 pc = .ok (.invokestatic idx, 3) ∧ pc + 3 = pc')
    (hct : ∀ r, Ef = some r → xa_CT l G d' M' y as h (cv r))
    (kk : ∀ r, Ef = some r → xa_G l G d M (E r) F pc' ls (xa_push (cv r).1 st) (cv r).2) : xa_G l G d M (Ef.bind E) F pc ls st0 h := by
  subst hs0
  intro o ho
  obtain ⟨hd, rfl⟩ := hd
  cases hE : Ef with
  | none => rw [hE] at ho; simp at ho
  | some r =>
    rw [hE] at ho
    obtain ⟨h1, h2⟩ := kk r hE o ho
    obtain ⟨hm, hM⟩ := hct r hE
    refine ⟨⟨by omega, by omega⟩, fun n0 z0 a' b' p e s m args below meth c H locs lc cs hf hll hvs hrel hq => ?_⟩
    obtain ⟨ca, cs1, rfl, hca, hvs'⟩ := xa_vs_app _ _ _ hvs
    have hcar := xa_vs_rev as ca hca
    refine xa_after (o' := cv r) (rest := cs1) (mc := xn (cv r).2 - xn h) (ms := xz (cv r).2 - xz h) (W.runS (As := ca.reverse) (rest := cs1) (cc := M.1) (nL := M.2.1) (Ts := xa_W) (own := M.2.2.2.1) ⟨hf.1, hf.2.1, hf.2.2.1, hf.2.2.2.1, hf.2.2.2.2.1⟩ hM ⟨callB_of n hf.2.2.2.2.1 (xa_goodIn wc) rfl rfl rfl (hf.2.2.2.2.1 _ wz) (hf.2.2.2.2.1 _ wl) hy hd2, hf.2.2.2.2.1 _ wi⟩ ⟨xa_blind _ _, fun U hU hW => ⟨⟨_, rfl, hcar⟩, by rw [hU]; exact hrel, xa_Kn.mv hW hf.2.2.2.2.2.1⟩⟩ rfl (by rw [xa_vs_len _ _ hcar]; exact hn) hll.1 (by simp) (by show 2 * 0 + _ ≤ 8; rw [xa_cs_ok _ _ hvs']; omega) hd ⟨show xn h - n0 + (xn (cv r).2 - xn h) ≤ xn o.2 - n0 by omega, show xz h - z0 + (xz (cv r).2 - xz h) ≤ xz o.2 - z0 by omega⟩) hq hvs' (fun H' locs' cs' hrel' hq' hcs' => ?_)
    refine W.cs (cells' := xn (cv r).2 - n0) (slots' := xz (cv r).2 - z0) (by omega) (by omega) ?_
    exact h2 n0 z0 (by omega) (by omega) p e s m args below meth c H' locs' lc cs' hf hll hcs' hrel' hq'
theorem xa_callI {Ef : Option β} {cv : β → xa_O} {E : β → Option α} {nn : Nat} {as st0 : List xa_V} {y : MethodName} {M' : xa_M} {d' idx n : Nat} (hr0 : M'.2.2.1 = none) (hyn : y.name = "<init>")
    (wl : Cond.methodLink M.2.2.2.1 idx y ∈ xa_W) (wi : Cond.instanceMethod y ∈ xa_W) (wc : Cond.code y M'.1 M'.2.1 M'.2.2.1 ∈ xa_W) (wz : Cond.initialized y.cls ∈ xa_W)
    (hy : y.cls ≠ "java/lang/invoke/MethodHandle" ∧ y.cls ≠ "java/lang/invoke/VarHandle" ∧ (parseMethodDescriptor y.desc).map (fun d => d.parameters.length) = some n) (hn : as.length = n) (hd2 : d' + 1 ≤ d ∧ 8 + (M'.2.1 + 11) + 64 * d' ≤ 64 * d) (hst : xa_cs st ≤ 8) (hs0 : st0 = as.reverse ++ xR (nn : Int) :: st)
    (hd : decode M.1 pc = .ok (.invokespecial idx, 3) ∧ pc + 3 = pc')
    (hct : ∀ r, Ef = some r → xa_CT l G d' M' y (xR (nn : Int) :: as) h (cv r))
    (kk : ∀ r, Ef = some r → xa_G l G d M (E r) F pc' ls (xa_push (cv r).1 st) (cv r).2) : xa_G l G d M (Ef.bind E) F pc ls st0 h := by
  subst hs0
  intro o ho
  obtain ⟨hd, rfl⟩ := hd
  cases hE : Ef with
  | none => rw [hE] at ho; simp at ho
  | some r =>
    rw [hE] at ho
    obtain ⟨h1, h2⟩ := kk r hE o ho
    obtain ⟨hm, hM⟩ := hct r hE
    rw [hr0] at hM wc
    refine ⟨⟨by omega, by omega⟩, fun n0 z0 a' b' p e s m args below meth c H locs lc cs hf hll hvs hrel hq => ?_⟩
    obtain ⟨ca, cr, rfl, hca, c1, cs1, rfl, hr, hvs'⟩ := xa_vs_app _ _ _ hvs
    obtain rfl := xa_ref hr
    have hcar := xa_vs_rev as ca hca
    refine xa_after (o' := cv r) (rest := cs1) (mc := xn (cv r).2 - xn h) (ms := xz (cv r).2 - xz h) (W.runI (As := ca.reverse) (rest := cs1) (cc := M.1) (nL := M.2.1) (Ts := xa_W) (own := M.2.2.2.1) (b := gb G + nn) ⟨hf.1, hf.2.1, hf.2.2.1, hf.2.2.2.1, hf.2.2.2.2.1⟩ hM ⟨callB_of n hf.2.2.2.2.1 (xa_goodIn wc) rfl rfl rfl (hf.2.2.2.2.1 _ wz) (hf.2.2.2.2.1 _ wl) hy hd2, hyn, hf.2.2.2.2.1 _ wi⟩ ⟨xa_blind _ _, fun U hU hW => ⟨⟨_, rfl, _, _, rfl, hr, hcar⟩, by rw [hU]; exact hrel, xa_Kn.mv hW hf.2.2.2.2.2.1⟩⟩ rfl (by rw [xa_vs_len _ _ hcar]; exact hn) hll.1 (by simp) (by show 2 * 0 + _ ≤ 8; rw [xa_cs_ok _ _ hvs']; omega) hd ⟨show xn h - n0 + (xn (cv r).2 - xn h) ≤ xn o.2 - n0 by omega, show xz h - z0 + (xz (cv r).2 - xz h) ≤ xz o.2 - z0 by omega⟩) hq hvs' (fun H' locs' cs' hrel' hq' hcs' => ?_)
    refine W.cs (cells' := xn (cv r).2 - n0) (slots' := xz (cv r).2 - z0) (by omega) (by omega) ?_
    exact h2 n0 z0 (by omega) (by omega) p e s m args below meth c H' locs' lc cs' hf hll hcs' hrel' hq'
theorem xa_runC {p : Program} {e : Env} {R : Room} {s : State} {m : MethodId} {args : Array Value} {below : List Frame} {meth : Method} {c : Code} {H : Heap} {locs : List Loc} {cells slots mc ms : Nat} {g : JFrame} {rest : List Value} {Qa : State → Outcome → State → Prop} {free : Addr → Prop} (h : va_Run p l e R s m args below meth c H locs cells slots mc ms g rest Qa free) : CallRun p l e R s m args below meth c H locs cells slots mc ms g rest Qa free := by
  intro T hT X
  obtain ⟨v, st₀, t, T', L, h0, X', hL, e1, e2, hq, go⟩ := h T hT X
  exact ⟨v, st₀, t, T', L, h0, X', hL, e1, hq, go⟩
theorem xa_callIN {Ef : Option β} {cv : β → xa_O} {E : β → Option α} {nn : Nat} {as st0 : List xa_V} {y : MethodName} {M' : xa_M} {d' idx n : Nat} {host : String} (hr0 : M'.2.2.1 = none) (hyn : y.name = "<init>")
    (wl : Cond.methodLinkNest M.2.2.2.1 idx y host ∈ xa_N) (wi : Cond.instanceMethod y ∈ xa_W) (wc : Cond.code y M'.1 M'.2.1 M'.2.2.1 ∈ xa_W) (wz : Cond.initialized y.cls ∈ xa_W)
    (hy : y.cls ≠ "java/lang/invoke/MethodHandle" ∧ y.cls ≠ "java/lang/invoke/VarHandle" ∧ (parseMethodDescriptor y.desc).map (fun d => d.parameters.length) = some n) (hn : as.length = n) (hd2 : d' + 1 ≤ d ∧ 8 + (M'.2.1 + 11) + 64 * d' ≤ 64 * d) (hst : xa_cs st ≤ 8) (hs0 : st0 = as.reverse ++ xR (nn : Int) :: st)
    (hd : decode M.1 pc = .ok (.invokespecial idx, 3) ∧ pc + 3 = pc')
    (hct : ∀ r, Ef = some r → xa_CT l G d' M' y (xR (nn : Int) :: as) h (cv r))
    (kk : ∀ r, Ef = some r → xa_G l G d M (E r) F pc' ls (xa_push (cv r).1 st) (cv r).2) : xa_G l G d M (Ef.bind E) F pc ls st0 h := by
  subst hs0
  intro o ho
  obtain ⟨hd, rfl⟩ := hd
  cases hE : Ef with
  | none => rw [hE] at ho; simp at ho
  | some r =>
    rw [hE] at ho
    obtain ⟨h1, h2⟩ := kk r hE o ho
    obtain ⟨hm, hM⟩ := hct r hE
    rw [hr0] at hM wc
    refine ⟨⟨by omega, by omega⟩, fun n0 z0 a' b' p e s m args below meth c H locs lc cs hf hll hvs hrel hq => ?_⟩
    obtain ⟨ca, cr, rfl, hca, c1, cs1, rfl, hr, hvs'⟩ := xa_vs_app _ _ _ hvs
    obtain rfl := xa_ref hr
    have hcar := xa_vs_rev as ca hca
    refine xa_after (o' := cv r) (rest := cs1) (mc := xn (cv r).2 - xn h) (ms := xz (cv r).2 - xz h) (xa_runC (va_runIN (As := ca.reverse) (rest := cs1) (cc := M.1) (nL := M.2.1) (Ts := xa_W) (own := M.2.2.2.1) (b := gb G + nn) ⟨hf.1, hf.2.1, hf.2.2.1, hf.2.2.2.1, hf.2.2.2.2.1⟩ hM ⟨va_cnB n hf.2.2.2.2.1 (xa_goodIn wc) rfl rfl rfl (hf.2.2.2.2.2.1.2.1 _ wl) (hf.2.2.2.2.1 _ wz) hy hd2, hyn, hf.2.2.2.2.1 _ wi⟩ ⟨xa_blind _ _, fun U hU hW => ⟨⟨_, rfl, _, _, rfl, hr, hcar⟩, by rw [hU]; exact hrel, xa_Kn.mv hW hf.2.2.2.2.2.1⟩⟩ rfl (by rw [xa_vs_len _ _ hcar]; exact hn) hll.1 (by simp) (by show 2 * 0 + _ ≤ 8; rw [xa_cs_ok _ _ hvs']; omega) hd ⟨show xn h - n0 + (xn (cv r).2 - xn h) ≤ xn o.2 - n0 by omega, show xz h - z0 + (xz (cv r).2 - xz h) ≤ xz o.2 - z0 by omega⟩)) hq hvs' (fun H' locs' cs' hrel' hq' hcs' => ?_)
    refine W.cs (cells' := xn (cv r).2 - n0) (slots' := xz (cv r).2 - z0) (by omega) (by omega) ?_
    exact h2 n0 z0 (by omega) (by omega) p e s m args below meth c H' locs' lc cs' hf hll hcs' hrel' hq'
theorem xa_objInit {E : Option α} {a : Int} {ci idx : Nat} (wl : Cond.methodLink M.2.2.2.1 idx Lib.objectInit ∈ xa_W) (wi : Cond.instanceMethod Lib.objectInit ∈ xa_W) (wc : Cond.code Lib.objectInit ⟨#[0xb1]⟩ 1 none ∈ xa_W) (hd2 : 1 ≤ d) (hst : xa_cs st ≤ 8) (hd : decode M.1 pc = .ok (.invokespecial idx, 3) ∧ pc + 3 = pc')
    (kk : xok h ci a = true → xa_G l G d M E F pc' ls st h) : xa_G l G d M (xrc h ci a E) F pc ls (xR a :: st) h := by
  intro o ho
  obtain ⟨hd, rfl⟩ := hd
  unfold xrc at ho
  by_cases hok : xok h ci a = true
  case neg =>
    rw [if_neg hok] at ho
    simp at ho
  rw [if_pos hok] at ho
  obtain ⟨h1, h2⟩ := kk hok o ho
  refine ⟨h1, fun n0 z0 a' b' p e s m args below meth c H locs lc cs hf hll hvs hrel hq => ?_⟩
  obtain ⟨c1, cs1, rfl, hr, hvs'⟩ := hvs
  obtain ⟨nn, rfl, hnn, hkd⟩ := xok_spec hok
  obtain rfl := xa_ref hr
  refine W.objInit hf.1 hf.2.1 hf.2.2.2.1 (hf.2.2.2.2.1 _ wl) (hf.2.2.2.2.1 _ wi) (hf.2.2.2.2.1 _ wc) rfl (hll.1.trans hf.2.2.1.symm) rfl hd hd2 (by show 2 * 0 + _ + 12 ≤ 64 * d; rw [xa_cs_ok _ _ hvs']; omega) ?_
  exact h2 n0 z0 a' b' p e s m args below meth c H locs lc cs1 hf hll hvs' hrel hq
theorem xa_nz {E : Option α} {v : Int} (kk : v ≠ 0 → xa_G l G d M E F pc ls st h) : xa_G l G d M (xnz v E) F pc ls st h := by
  unfold xnz
  split
  · exact xa_none
  · rename_i q; exact kk q
theorem xa_bo {E : Option α} {v : Int} (kk : (v = 0 ∨ v = 1) → xa_G l G d M E F pc ls st h) : xa_G l G d M (xbo v E) F pc ls st h := by
  unfold xbo
  split
  · rename_i q; exact kk q
  · exact xa_none
theorem xa_n5 {E : Option α} {v : Int} (kk : v ≠ -5 → xa_G l G d M E F pc ls st h) : xa_G l G d M (xn5 v E) F pc ls st h := by
  unfold xn5
  split
  · exact xa_none
  · rename_i q; exact kk q
/-- a loop: its body by itself, then what is behind it -/
theorem xa_loop {σ ε : Type} {f : σ → Option (σ ⊕ ε)} {L : σ → List (Option xa_V)} {P : σ → xa_H} {E : ε → Option α} {X : ε → (σ ⊕ ε → Option xa_O) → Prop}
    (body : ∀ (K : σ ⊕ ε → Option xa_O), (∀ s', xa_G l G d M (some (Sum.inl s')) K pc (L s') st (P s')) → (∀ e, X e K) → ∀ s, xa_G l G d M (f s) K pc (L s) st (P s))
    (kk : ∀ (e : ε) (K : σ ⊕ ε → Option xa_O), K (.inr e) = (E e).bind F → X e K) : ∀ (n : Nat) (s : σ), xa_G l G d M ((xit f n s).bind E) F pc (L s) st (P s)
  | 0, s => xa_none
  | n + 1, s => by
    refine xa_eqE (E' := f s) (F' := fun r => ((match r with | .inl s' => xit f n s' | .inr e => some e : Option ε).bind E).bind F) ?_ (body _ (fun s' => ?_) (fun e => ?_) s)
    · show (((f s).bind _).bind E).bind F = _
      rw [Option.bind_assoc, Option.bind_assoc]
      congr 1
      funext r
      cases r <;> first | rfl | exact (Option.bind_assoc _ _ _).symm | exact Option.bind_assoc _ _ _
    · exact xa_eqE (by rfl) (xa_loop body kk n s')
    · exact kk e _ rfl
theorem xa_ints {n : Nat} {FF : Nat → Value} {m : Nat → Int} (cA : ClassId) (h : ∀ k, k < n → xa_v G (xI (m k)) (FF k)) : ∃ f : Nat → Int32, arrV cA n FF = arrV cA n (fun j => .int (f j)) ∧ ∀ k, k < n → m k = (f k).toInt := by
  refine ⟨fun k => match FF k with | .int x => x | _ => 0, ?_, ?_⟩
  · unfold arrV
    congr 1
    apply Array.ext
    · simp
    · intro j h1 h2
      have hj : j < n := by simpa using h1
      obtain ⟨x, hx, -⟩ := h j hj
      simp [hx]
  · intro k hk
    obtain ⟨x, hx, hy⟩ := h k hk
    simp [hx, hy]
theorem xa_room {d n : Nat} (hd2 : 2 ≤ d) (hst : n ≤ 8) : 2 * 0 + n + (nativeFrameWords "java/lang/System" "arraycopy" 5 + 11) ≤ 64 * d := by
  have hw : nativeFrameWords "java/lang/System" "arraycopy" 5 + 11 ≤ 64 := by decide +kernel
  omega
theorem xa_acopy {E : xa_H → Option α} {s sp dd dp n : Int} {idx : Nat} (wl : Cond.methodLink M.2.2.2.1 idx arraycopyName ∈ xa_W) (wn : Cond.native arraycopyName ∈ xa_W) (ws : Cond.static arraycopyName ∈ xa_W) (wz : Cond.initialized "java/lang/System" ∈ xa_W) (hd2 : 2 ≤ d) (hst : xa_cs st ≤ 8) (hd : decode M.1 pc = .ok (.invokestatic idx, 3) ∧ pc + 3 = pc')
    (kk : ∀ h', xcp h s sp dd dp n = some h' → xa_G l G d M (E h') F pc' ls st h') : xa_G l G d M ((xcp h s sp dd dp n).bind E) F pc ls (xI n :: xI dp :: xR dd :: xI sp :: xR s :: st) h := by
  intro o ho
  obtain ⟨hd, rfl⟩ := hd
  unfold xcp at ho
  split at ho
  case isFalse => simp at ho
  rename_i hc
  obtain ⟨h1, h2⟩ := kk _ (by unfold xcp; rw [if_pos hc]) o ho
  obtain ⟨c1, c2, c3, c4, c5, c6, c7, c8, c9, c10, c11⟩ := hc
  refine ⟨h1, fun n0 z0 a' b' p e s' m args below meth c H locs lc cs hf hll hvs hrel hq => ?_⟩
  obtain ⟨v1, cs1, rfl, ⟨xn', rfl, ex1⟩, v2, cs2, rfl, ⟨xdp, rfl, ex2⟩, v3, cs3, rfl, hr3, v4, cs4, rfl, ⟨xsp, rfl, ex4⟩, v5, cs5, rfl, hr5, hvs'⟩ := hvs
  obtain ⟨ss, rfl⟩ : ∃ q : Nat, s = (q : Int) := ⟨s.toNat, by omega⟩
  obtain ⟨ds, rfl⟩ : ∃ q : Nat, dd = (q : Int) := ⟨dd.toNat, by omega⟩
  simp only [Int.toNat_natCast] at c2 c3 c5 c6 c10 c11 h1 h2
  obtain rfl := xa_ref hr3
  obtain rfl := xa_ref hr5
  obtain ⟨F0', hcell0, hv0⟩ := xa_arr hrel c2 (by rw [c3]; decide)
  obtain ⟨F1', hcell1, hv1⟩ := xa_arr hrel c5 (by rw [c6]; decide)
  rw [c3] at hcell0 hv0
  rw [c6] at hcell1 hv1
  obtain ⟨f, ef, hf0⟩ := xa_ints (gAq G 0) hv0
  obtain ⟨g, eg, hg0⟩ := xa_ints (gAq G 0) hv1
  rw [ef] at hcell0
  rw [eg] at hcell1
  have hKA := (xa_kna (kd := 0) hf.2.2.2.2.2.1 (by decide)).1
  have z0' : (0 : Int32).toInt = 0 := rfl
  have n1 : ¬ xsp < 0 := fun q => by have := (xa_ilt xsp 0).mp q; omega
  have n2 : ¬ xdp < 0 := fun q => by have := (xa_ilt xdp 0).mp q; omega
  have n3 : ¬ xn' < 0 := fun q => by have := (xa_ilt xn' 0).mp q; omega
  have t1 : xsp.toNatClampNeg = sp.toNat := by rw [xa_clamp, ← ex4]
  have t2 : xdp.toNatClampNeg = dp.toNat := by rw [xa_clamp, ← ex2]
  have t3 : xn'.toNatClampNeg = n.toNat := by rw [xa_clamp, ← ex1]
  intro T hT X
  obtain ⟨-, k0, hk0, cm0, hkk0⟩ := hKA (xk h ss).2 (fun j => .int (f j))
  obtain ⟨-, k1, hk1, cm1, hkk1⟩ := hKA (xk h ds).2 (fun j => .int (g j))
  obtain ⟨vm', X', step⟩ := X.arraycopy hf.1 hf.2.2.2.1 (hf.2.2.2.2.1 _ wl) (hf.2.2.2.2.1 _ wn) (hf.2.2.2.2.1 _ ws) (hf.2.2.2.2.1 _ wz) (src := gb G + ss) (dst := gb G + ds) (cs := vp_cell (gAq G 0) ((xk h ss).2, .inl f)) (cd := vp_cell (gAq G 0) ((xk h ds).2, .inl g)) (srcPos := xsp) (destPos := xdp) (n := xn') (by rw [hT]; exact hcell0) (by rw [hT]; exact hcell1)
    (fun _ h => by cases h) (fun _ h => by cases h) (fun h => by cases h) (fun h => by cases h) hk0 hk1 hkk0 hkk1 (by simp [show refKind .int = false from rfl]) n1 n2 n3
    (by show ¬ _ > ((arrV (gAq G 0) (xk h ss).2 (fun j => .int (f j))).slots.size : Int); rw [arrV_size, ← ex4, ← ex1]; omega)
    (by show ¬ _ > ((arrV (gAq G 0) (xk h ds).2 (fun j => .int (g j))).slots.size : Int); rw [arrV_size, ← ex2, ← ex1]; omega)
    (fun vm₁ _ i hi => by
      have e : (vp_cell (gAq G 0) ((xk h ss).2, .inl f)).slots.getD (xsp.toNatClampNeg + i) .null = .int (f (xsp.toNatClampNeg + i)) := by
        show (arrV (gAq G 0) (xk h ss).2 (fun j => .int (f j))).slots.getD _ _ = _
        rw [Array.getD_eq_getD_getElem?, arrV_read _ _ (by rw [t1]; rw [t3] at hi; omega)]
        rfl
      refine ⟨?_, ?_⟩
      · rw [e]
        rfl
      · rw [e]
        exact trivial)
    (g := F0 m pc lc (.int xn' :: .int xdp :: .ref (gb G + ds) :: .int xsp :: .ref (gb G + ss) :: cs5)) rfl (by rw [hf.2.2.1]; exact hll.1) (rest := cs5) rfl (by rw [hf.2.1]; exact hd) (show 1 ≤ d by omega) (by show 2 * 0 + _ + _ ≤ 64 * d; rw [xa_cs_ok _ _ hvs']; exact xa_room hd2 hst)
  have e1 : copied (vp_cell (gAq G 0) ((xk h ss).2, .inl f)) (vp_cell (gAq G 0) ((xk h ds).2, .inl g)) xsp xdp xn' = vp_cell (gAq G 0) ((xk h ds).2, .inl (va_cpy f g xsp.toNatClampNeg xdp.toNatClampNeg xn'.toNatClampNeg)) := va_copied (fun z => .int z) (gAq G 0) (gAq G 0) f g (by rw [t1, t3]; omega)
  rw [e1] at X' step
  have hl : gb G + ds < H.size := (Array.getElem?_eq_some_iff.mp hcell1).1
  have hheap : ((T.setVm vm').setCell (gb G + ds) (vp_cell (gAq G 0) ((xk h ds).2, .inl (va_cpy f g xsp.toNatClampNeg xdp.toNatClampNeg xn'.toNatClampNeg)))).heap = H.setIfInBounds (gb G + ds) (vp_cell (gAq G 0) ((xk h ds).2, .inl (va_cpy f g xsp.toNatClampNeg xdp.toNatClampNeg xn'.toNatClampNeg))) := by rw [← hT]; rfl
  have oq : ∀ q : Nat, q ≠ gb G + ds → (H.setIfInBounds (gb G + ds) (vp_cell (gAq G 0) ((xk h ds).2, .inl (va_cpy f g xsp.toNatClampNeg xdp.toNatClampNeg xn'.toNatClampNeg))))[q]? = H[q]? := fun q hq => by simp [Array.getElem?_setIfInBounds, Ne.symm hq]
  have hrel' : xa_rel G (xcpy h ss sp.toNat ds dp.toNat n.toNat) (H.setIfInBounds (gb G + ds) (vp_cell (gAq G 0) ((xk h ds).2, .inl (va_cpy f g xsp.toNatClampNeg xdp.toNatClampNeg xn'.toNatClampNeg)))) := by
    refine ⟨by simp; exact hrel.1, fun a ha => ?_, fun q hq' => (oq q (by omega)).trans (hrel.2.2 q hq')⟩
    by_cases ea : a = ds
    · subst ea
      refine Or.inl ⟨by show (xk h a).1 < 6; rw [c6]; decide, fun j => .int (va_cpy f g xsp.toNatClampNeg xdp.toNatClampNeg xn'.toNatClampNeg j), ?_, ?_⟩
      · show (H.setIfInBounds (gb G + a) _)[gb G + a]? = some (arrV (gAq G (xk h a).1) (xk h a).2 _)
        rw [c6]
        simp [Array.getElem?_setIfInBounds, hl]
        rfl
      · intro k hk
        have hk : k < (xk h a).2 := hk
        have e6 : (xk (xcpy h ss sp.toNat a dp.toNat n.toNat) a).1 = 0 := c6
        rw [e6]
        refine ⟨_, rfl, ?_⟩
        rw [t1, t2, t3]
        by_cases hin : dp.toNat ≤ k ∧ k < dp.toNat + n.toNat
        · have : xm (xcpy h ss sp.toNat a dp.toNat n.toNat) a k = xm h ss (sp.toNat + (k - dp.toNat)) := by
            simp only [xm, xcpy]
            rw [if_pos ⟨trivial, hin⟩]
          rw [this]
          simp only [va_cpy, if_pos hin]
          exact hf0 _ (by omega)
        · have : xm (xcpy h ss sp.toNat a dp.toNat n.toNat) a k = xm h a k := by
            simp only [xm, xcpy]
            rw [if_neg (fun q => hin q.2)]
          rw [this]
          simp only [va_cpy, if_neg hin]
          exact hg0 _ hk
    · refine xa_c_kept (hrel.2.1 a ha) (oq _ (by omega)) rfl (fun k => ?_)
      simp only [xm, xcpy]
      rw [if_neg (fun q => ea q.1)]
  obtain ⟨t, a1, b1⟩ := h2 n0 z0 a' b' p e s' m args below meth c _ _ lc cs5 hf hll hvs' hrel' (fun q hq' => by
    rcases List.mem_append.mp hq' with h3 | h3
    · exact hq q h3
    · obtain ⟨z, -, hz⟩ := List.mem_map.mp h3
      rw [← hz]
      exact Nat.le_add_right _ _) _ hheap X'
  exact ⟨t, step t a1, b1⟩
end XR5
