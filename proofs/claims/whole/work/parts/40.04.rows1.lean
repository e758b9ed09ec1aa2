section XR1
variable {G : xa_C} {M : xa_M} {pc pc' : Nat} {ls ls' : List (Option xa_V)} {st : List xa_V}
theorem xa_toInt_ofInt (x : Int32) : Int32.ofInt x.toInt = x := by simp
theorem xa_b2 (f : Int32 → Int32 → Int32) (x y : Int32) : (f x y).toInt = xb2 f x.toInt y.toInt := by simp [xb2]
theorem xa_add32 (x y : Int32) : (x + y).toInt = w32 (x.toInt + y.toInt) := by simpa [w32] using Int32.toInt_add x y
theorem xa_sub32 (x y : Int32) : (x - y).toInt = w32 (x.toInt - y.toInt) := by simpa [w32] using Int32.toInt_sub x y
theorem xa_mul32 (x y : Int32) : (x * y).toInt = w32 (x.toInt * y.toInt) := by simpa [w32] using Int32.toInt_mul x y
theorem xa_neg32 (x : Int32) : (-x).toInt = w32 (-x.toInt) := by simpa [w32] using Int32.toInt_neg x
theorem xa_div32 (x y : Int32) : (x / y).toInt = w32 (x.toInt.tdiv y.toInt) := by simpa [w32] using Int32.toInt_div x y
theorem xa_rem32 (x y : Int32) : (x - x / y * y).toInt = x.toInt.tmod y.toInt := rem_toInt x y
theorem xa_add64 (x y : Int64) : (x + y).toInt = w64 (x.toInt + y.toInt) := by simpa [w64] using Int64.toInt_add x y
theorem xa_sub64 (x y : Int64) : (x - y).toInt = w64 (x.toInt - y.toInt) := by simpa [w64] using Int64.toInt_sub x y
theorem xa_mul64 (x y : Int64) : (x * y).toInt = w64 (x.toInt * y.toInt) := by simpa [w64] using Int64.toInt_mul x y
theorem xa_div64 (x y : Int64) : (x / y).toInt = w64 (x.toInt.tdiv y.toInt) := by simpa [w64] using Int64.toInt_div x y
theorem xa_rem64 (x y : Int64) : (x - x / y * y).toInt = x.toInt.tmod y.toInt := by
  have e : x - x / y * y = x % y := by
    apply Int64.toInt_inj.mp
    rw [Int64.toInt_mod, Int64.toInt_sub, Int64.toInt_mul, Int64.toInt_div]
    have h1 : x.toInt - (x.toInt.tdiv y.toInt) * y.toInt = x.toInt.tmod y.toInt := by
      have := Int.tdiv_mul_add_tmod x.toInt y.toInt
      omega
    simp only [Int.sub_bmod_bmod, Int.bmod_mul_bmod, h1]
    have hx : -9223372036854775808 ≤ x.toInt ∧ x.toInt < 9223372036854775808 := ⟨by have := Int64.le_toInt x; simpa using this, by have := Int64.toInt_lt x; simpa using this⟩
    have ha : (x.toInt.tmod y.toInt).natAbs ≤ x.toInt.natAbs := by rw [Int.natAbs_tmod]; exact Nat.mod_le _ _
    by_cases hm : x.toInt.tmod y.toInt = 9223372036854775808
    · exfalso
      have h0 : x.toInt = -9223372036854775808 := by omega
      have h2 : x.toInt.tmod y.toInt ≤ 0 := by
        have := Int.tmod_nonneg y.toInt (show 0 ≤ -x.toInt by omega)
        rw [Int.neg_tmod] at this
        omega
      omega
    exact Int.bmod_eq_of_le (by omega) (by omega)
  rw [e]; exact Int64.toInt_mod x y
def xa_vl (lc : Array Slot) (j : Nat) : Option (Nat × Value) := match lc[j]? with
  | some (Slot.val c) => some (j, c)
  | _ => none
def xa_al (lc : Array Slot) (nL : Nat) : List (Nat × Value) := (List.range nL).filterMap (xa_vl lc)
theorem xa_all (lc : Array Slot) {nL : Nat} (h1 : lc.size = nL) (h2 : lv_wf lc) : lv_has lc nL (xa_al lc nL) := by
  refine ⟨h1, h2, fun q hq => ?_⟩
  obtain ⟨j, -, hj⟩ := List.mem_filterMap.mp hq
  unfold xa_vl at hj
  split at hj
  next c hc =>
    cases hj
    exact hc
  next => cases hj
theorem xa_all_mem {lc : Array Slot} {nL i : Nat} {c : Value} (h1 : lc.size = nL) (h : lc[i]? = some (.val c)) : (i, c) ∈ (xa_al lc nL) := by
  refine List.mem_filterMap.mpr ⟨i, List.mem_range.mpr (by rw [← h1]; exact lv_lt h), ?_⟩
  unfold xa_vl
  rw [h]
/-- storing: a long just before goes -/
def xa_kp : Option xa_V → Option xa_V
  | some (.inr (.inl _)) => none
  | o => o
def xa_s1 : List (Option xa_V) → Nat → xa_V → List (Option xa_V)
  | [], _, _ => []
  | _ :: t, 0, v => some v :: t
  | a :: t, 1, v => xa_kp a :: xa_s1 t 0 v
  | a :: t, i + 2, v => a :: xa_s1 t (i + 1) v
def xa_s2 : List (Option xa_V) → Nat → xa_V → List (Option xa_V)
  | [], _, _ => []
  | [_], 0, v => [some v]
  | _ :: _ :: t, 0, v => some v :: none :: t
  | a :: t, 1, v => xa_kp a :: xa_s2 t 0 v
  | a :: t, i + 2, v => a :: xa_s2 t (i + 1) v
theorem xa_kp_some {o : Option xa_V} {v : xa_V} (h : xa_kp o = some v) : o = some v ∧ ∀ z, v ≠ .inr (.inl z) := by
  cases o with
  | none => simp [xa_kp] at h
  | some a =>
    rcases a with a | a | a
    · simp [xa_kp] at h; subst h; exact ⟨rfl, fun z h => by cases h⟩
    · simp [xa_kp] at h
    · simp [xa_kp] at h; subst h; exact ⟨rfl, fun z h => by cases h⟩
theorem xa_s1_get : ∀ (l : List (Option xa_V)) (i : Nat) (v : xa_V) (j : Nat) (u : xa_V), (xa_s1 l i v)[j]? = some (some u) → (j = i ∧ u = v) ∨ (j ≠ i ∧ l[j]? = some (some u) ∧ (j + 1 = i → ∀ z, u ≠ .inr (.inl z)))
  | [], i, v, j, u, h => by simp [xa_s1] at h
  | a :: t, 0, v, 0, u, h => by simp [xa_s1] at h; exact Or.inl ⟨rfl, h.symm⟩
  | a :: t, 0, v, j + 1, u, h => by simp [xa_s1] at h; exact Or.inr ⟨by omega, by simpa using h, fun e => by omega⟩
  | a :: t, 1, v, 0, u, h => by
    simp [xa_s1] at h
    obtain ⟨h1, h2⟩ := xa_kp_some h
    exact Or.inr ⟨by omega, by simp [h1], fun _ => h2⟩
  | a :: t, 1, v, j + 1, u, h => by
    simp [xa_s1] at h
    rcases xa_s1_get t 0 v j u h with ⟨h1, h2⟩ | ⟨h1, h2, h3⟩
    · exact Or.inl ⟨by omega, h2⟩
    · exact Or.inr ⟨by omega, by simpa using h2, fun e => by omega⟩
  | a :: t, i + 2, v, 0, u, h => by simp [xa_s1] at h; exact Or.inr ⟨by omega, by simp [h], fun e => by omega⟩
  | a :: t, i + 2, v, j + 1, u, h => by
    simp [xa_s1] at h
    rcases xa_s1_get t (i + 1) v j u h with ⟨h1, h2⟩ | ⟨h1, h2, h3⟩
    · exact Or.inl ⟨by omega, h2⟩
    · exact Or.inr ⟨by omega, by simpa using h2, fun e => h3 (by omega)⟩
theorem xa_s2_get : ∀ (l : List (Option xa_V)) (i : Nat) (v : xa_V) (j : Nat) (u : xa_V), (xa_s2 l i v)[j]? = some (some u) → (j = i ∧ u = v) ∨ (j ≠ i ∧ j ≠ i + 1 ∧ l[j]? = some (some u) ∧ (j + 1 = i → ∀ z, u ≠ .inr (.inl z)))
  | [], i, v, j, u, h => by simp [xa_s2] at h
  | [a], 0, v, 0, u, h => by simp [xa_s2] at h; exact Or.inl ⟨rfl, h.symm⟩
  | [a], 0, v, j + 1, u, h => by simp [xa_s2] at h
  | a :: b :: t, 0, v, 0, u, h => by simp [xa_s2] at h; exact Or.inl ⟨rfl, h.symm⟩
  | a :: b :: t, 0, v, 1, u, h => by simp [xa_s2] at h
  | a :: b :: t, 0, v, j + 2, u, h => by simp [xa_s2] at h; exact Or.inr ⟨by omega, by omega, by simpa using h, fun e => by omega⟩
  | a :: t, 1, v, 0, u, h => by
    simp [xa_s2] at h
    obtain ⟨h1, h2⟩ := xa_kp_some h
    exact Or.inr ⟨by omega, by omega, by simp [h1], fun _ => h2⟩
  | a :: t, 1, v, j + 1, u, h => by
    simp [xa_s2] at h
    rcases xa_s2_get t 0 v j u h with ⟨h1, h2⟩ | ⟨h1, h2, h3, h4⟩
    · exact Or.inl ⟨by omega, h2⟩
    · exact Or.inr ⟨by omega, by omega, by simpa using h3, fun e => by omega⟩
  | a :: t, i + 2, v, 0, u, h => by simp [xa_s2] at h; exact Or.inr ⟨by omega, by omega, by simp [h], fun e => by omega⟩
  | a :: t, i + 2, v, j + 1, u, h => by
    simp [xa_s2] at h
    rcases xa_s2_get t (i + 1) v j u h with ⟨h1, h2⟩ | ⟨h1, h2, h3, h4⟩
    · exact Or.inl ⟨by omega, h2⟩
    · exact Or.inr ⟨by omega, by omega, by simpa using h3, fun e => h4 (by omega)⟩
theorem xa_cat {u : xa_V} {c : Value} (h : xa_v G u c) (hz : ∀ z, u ≠ .inr (.inl z)) : c.category = 1 := by
  rcases u with a | a | a
  · obtain ⟨x, rfl, -⟩ := h; rfl
  · exact absurd rfl (hz a)
  · rcases h with ⟨-, rfl⟩ | ⟨n, -, rfl⟩ | ⟨-, rfl⟩ | ⟨-, rfl⟩ | ⟨-, rfl⟩ | ⟨-, -, rfl | ⟨b, rfl⟩⟩ <;> rfl
theorem xa_stored1 {lc lc' : Array Slot} {nL i : Nat} {v : xa_V} {c : Value} (hl : xa_l G ls nL lc) (hv : xa_v G v c)
    (h : lv_has lc' nL ((i, c) :: (xa_al lc nL).filter (fun q => !(q.1 == i) && !(q.1 + 1 == i && q.2.category == 2)))) : xa_l G (xa_s1 ls i v) nL lc' := by
  refine ⟨h.1, h.2.1, fun j u hj => ?_⟩
  rcases xa_s1_get _ _ _ _ _ hj with ⟨rfl, rfl⟩ | ⟨h1, h2, h3⟩
  · exact ⟨c, hv, h.2.2 (j, c) List.mem_cons_self⟩
  · obtain ⟨cu, e1, e2⟩ := hl.2.2 j u h2
    refine ⟨cu, e1, h.2.2 (j, cu) (List.mem_cons_of_mem _ (List.mem_filter.mpr ⟨xa_all_mem hl.1 e2, ?_⟩))⟩
    by_cases e : j + 1 = i
    · have := xa_cat e1 (h3 e)
      simp [h1, this]
    · simp [h1, e]
theorem xa_stored2 {lc lc' : Array Slot} {nL i : Nat} {v : xa_V} {c : Value} (hl : xa_l G ls nL lc) (hv : xa_v G v c)
    (h : lv_has lc' nL ((i, c) :: (xa_al lc nL).filter (fun q => !(q.1 == i) && (!(q.1 == i + 1) && !(q.1 + 1 == i && q.2.category == 2))))) : xa_l G (xa_s2 ls i v) nL lc' := by
  refine ⟨h.1, h.2.1, fun j u hj => ?_⟩
  rcases xa_s2_get _ _ _ _ _ hj with ⟨rfl, rfl⟩ | ⟨h1, h2, h3, h4⟩
  · exact ⟨c, hv, h.2.2 (j, c) List.mem_cons_self⟩
  · obtain ⟨cu, e1, e2⟩ := hl.2.2 j u h3
    refine ⟨cu, e1, h.2.2 (j, cu) (List.mem_cons_of_mem _ (List.mem_filter.mpr ⟨xa_all_mem hl.1 e2, ?_⟩))⟩
    by_cases e : j + 1 = i
    · have := xa_cat e1 (h4 e)
      simp [h1, h2, this]
    · simp [h1, h2, e]
theorem xa_iconst {n v : Int} (hd : decode M.1 pc = .ok (.iconst n, 1) ∧ pc + 1 = pc') (hn : (Int32.ofInt n).toInt = v) : xa_S G M pc ls st pc' ls (xI v :: st) := by
  intro p l e R s m args below meth c H locs cells slots Q lc cs hf hl hv k
  obtain ⟨hd, rfl⟩ := hd
  exact lv_iconst hf.1 hf.2.1 hd rfl (k _ _ hl ⟨_, _, rfl, ⟨_, rfl, hn.symm⟩, hv⟩)
theorem xa_bipush {n v : Int} (hd : decode M.1 pc = .ok (.bipush n, 2) ∧ pc + 2 = pc') (hn : (Int8.ofInt n).toInt32.toInt = v) : xa_S G M pc ls st pc' ls (xI v :: st) := by
  intro p l e R s m args below meth c H locs cells slots Q lc cs hf hl hv k
  obtain ⟨hd, rfl⟩ := hd
  exact lv_bipush hf.1 hf.2.1 hd rfl (k _ _ hl ⟨_, _, rfl, ⟨_, rfl, hn.symm⟩, hv⟩)
theorem xa_sipush {n v : Int} (hd : decode M.1 pc = .ok (.sipush n, 3) ∧ pc + 3 = pc') (hn : (Int16.ofInt n).toInt32.toInt = v) : xa_S G M pc ls st pc' ls (xI v :: st) := by
  intro p l e R s m args below meth c H locs cells slots Q lc cs hf hl hv k
  obtain ⟨hd, rfl⟩ := hd
  exact lv_sipush hf.1 hf.2.1 hd rfl (k _ _ hl ⟨_, _, rfl, ⟨_, rfl, hn.symm⟩, hv⟩)
theorem xa_lconst {n : Fin 2} {v : Int} (hd : decode M.1 pc = .ok (.lconst n, 1) ∧ pc + 1 = pc') (hn : (Int64.ofNat (n : Nat)).toInt = v) : xa_S G M pc ls st pc' ls (xL v :: st) := by
  intro p l e R s m args below meth c H locs cells slots Q lc cs hf hl hv k
  obtain ⟨hd, rfl⟩ := hd
  exact lv_lconst hf.1 hf.2.1 hd rfl (k _ _ hl ⟨_, _, rfl, ⟨_, rfl, hn.symm⟩, hv⟩)
theorem xa_iload {i : Nat} {v : Int} (hd : decode M.1 pc = .ok (.iload i, 2) ∧ pc + 2 = pc') (hi : ls[i]? = some (some (xI v))) : xa_S G M pc ls st pc' ls (xI v :: st) := by
  intro p l e R s m args below meth c H locs cells slots Q lc cs hf hl hv k
  obtain ⟨hd, rfl⟩ := hd
  obtain ⟨c1, ⟨x, rfl, hx⟩, h2⟩ := hl.2.2 i _ hi
  exact lv_iload hf.1 hf.2.1 hd h2 (k _ _ hl ⟨_, _, rfl, ⟨x, rfl, hx⟩, hv⟩)
theorem xa_iload_n {j : Fin 4} {v : Int} (hd : decode M.1 pc = .ok (.iload_n j, 1) ∧ pc + 1 = pc') (hi : ls[(j : Nat)]? = some (some (xI v))) : xa_S G M pc ls st pc' ls (xI v :: st) := by
  intro p l e R s m args below meth c H locs cells slots Q lc cs hf hl hv k
  obtain ⟨hd, rfl⟩ := hd
  obtain ⟨c1, ⟨x, rfl, hx⟩, h2⟩ := hl.2.2 _ _ hi
  exact lv_iload_n hf.1 hf.2.1 hd rfl h2 (k _ _ hl ⟨_, _, rfl, ⟨x, rfl, hx⟩, hv⟩)
theorem xa_lload {i : Nat} {v : Int} (hd : decode M.1 pc = .ok (.lload i, 2) ∧ pc + 2 = pc') (hi : ls[i]? = some (some (xL v))) : xa_S G M pc ls st pc' ls (xL v :: st) := by
  intro p l e R s m args below meth c H locs cells slots Q lc cs hf hl hv k
  obtain ⟨hd, rfl⟩ := hd
  obtain ⟨c1, ⟨x, rfl, hx⟩, h2⟩ := hl.2.2 i _ hi
  exact lv_lload hf.1 hf.2.1 hd h2 (k _ _ hl ⟨_, _, rfl, ⟨x, rfl, hx⟩, hv⟩)
theorem xa_lload_n {j : Fin 4} {v : Int} (hd : decode M.1 pc = .ok (.lload_n j, 1) ∧ pc + 1 = pc') (hi : ls[(j : Nat)]? = some (some (xL v))) : xa_S G M pc ls st pc' ls (xL v :: st) := by
  intro p l e R s m args below meth c H locs cells slots Q lc cs hf hl hv k
  obtain ⟨hd, rfl⟩ := hd
  obtain ⟨c1, ⟨x, rfl, hx⟩, h2⟩ := hl.2.2 _ _ hi
  exact lv_lload_n hf.1 hf.2.1 hd rfl h2 (k _ _ hl ⟨_, _, rfl, ⟨x, rfl, hx⟩, hv⟩)
theorem xa_rr {v : Int} {c : Value} (h : xa_r G v c) : c = .null ∨ ∃ a : Nat, c = .ref a := by
  rcases h with ⟨-, rfl⟩ | ⟨n, -, rfl⟩ | ⟨-, rfl⟩ | ⟨-, rfl⟩ | ⟨-, rfl⟩ | ⟨-, -, h⟩
  · exact Or.inl rfl
  · exact Or.inr ⟨_, rfl⟩
  · exact Or.inr ⟨_, rfl⟩
  · exact Or.inr ⟨_, rfl⟩
  · exact Or.inr ⟨_, rfl⟩
  · exact h
theorem xa_aload {i : Nat} {v : Int} (hd : decode M.1 pc = .ok (.aload i, 2) ∧ pc + 2 = pc') (hi : ls[i]? = some (some (xR v))) : xa_S G M pc ls st pc' ls (xR v :: st) := by
  intro p l e R s m args below meth c H locs cells slots Q lc cs hf hl hv k
  obtain ⟨hd, rfl⟩ := hd
  obtain ⟨c1, hr, h2⟩ := hl.2.2 i _ hi
  have hr : xa_r G v c1 := hr
  rcases xa_rr hr with rfl | ⟨a, rfl⟩
  · exact lv_aloadN hf.1 hf.2.1 hd h2 (k _ _ hl ⟨_, _, rfl, hr, hv⟩)
  · exact lv_aload hf.1 hf.2.1 hd h2 (k _ _ hl ⟨_, _, rfl, hr, hv⟩)
theorem xa_aload_n {j : Fin 4} {v : Int} (hd : decode M.1 pc = .ok (.aload_n j, 1) ∧ pc + 1 = pc') (hi : ls[(j : Nat)]? = some (some (xR v))) : xa_S G M pc ls st pc' ls (xR v :: st) := by
  intro p l e R s m args below meth c H locs cells slots Q lc cs hf hl hv k
  obtain ⟨hd, rfl⟩ := hd
  obtain ⟨c1, hr, h2⟩ := hl.2.2 _ _ hi
  have hr : xa_r G v c1 := hr
  rcases xa_rr hr with rfl | ⟨a, rfl⟩
  · exact lv_aload_nN hf.1 hf.2.1 hd rfl h2 (k _ _ hl ⟨_, _, rfl, hr, hv⟩)
  · exact lv_aload_n hf.1 hf.2.1 hd rfl h2 (k _ _ hl ⟨_, _, rfl, hr, hv⟩)
theorem xa_istore {i : Nat} {v : Int} (hd : decode M.1 pc = .ok (.istore i, 2) ∧ pc + 2 = pc') (hi : i < M.2.1) (hs : xa_s1 ls i (xI v) = ls') : xa_S G M pc ls (xI v :: st) pc' ls' st := by
  intro p l e R s m args below meth c H locs cells slots Q lc cs hf hl hv k
  obtain ⟨hd, rfl⟩ := hd
  obtain ⟨c1, cs', rfl, ⟨x, rfl, hx⟩, hv'⟩ := hv
  subst hs
  exact lv_istore hf.1 hf.2.1 hd (xa_all lc hl.1 hl.2.1) hi rfl (fun lc' h' => k _ _ (xa_stored1 hl ⟨x, rfl, hx⟩ h') hv')
theorem xa_istore_n {j : Fin 4} {v : Int} (hd : decode M.1 pc = .ok (.istore_n j, 1) ∧ pc + 1 = pc') (hi : (j : Nat) < M.2.1) (hs : xa_s1 ls (j : Nat) (xI v) = ls') : xa_S G M pc ls (xI v :: st) pc' ls' st := by
  intro p l e R s m args below meth c H locs cells slots Q lc cs hf hl hv k
  obtain ⟨hd, rfl⟩ := hd
  obtain ⟨c1, cs', rfl, ⟨x, rfl, hx⟩, hv'⟩ := hv
  subst hs
  exact lv_istore_n hf.1 hf.2.1 hd rfl (xa_all lc hl.1 hl.2.1) hi rfl (fun lc' h' => k _ _ (xa_stored1 hl ⟨x, rfl, hx⟩ h') hv')
theorem xa_lstore {i : Nat} {v : Int} (hd : decode M.1 pc = .ok (.lstore i, 2) ∧ pc + 2 = pc') (hi : i + 1 < M.2.1) (hs : xa_s2 ls i (xL v) = ls') : xa_S G M pc ls (xL v :: st) pc' ls' st := by
  intro p l e R s m args below meth c H locs cells slots Q lc cs hf hl hv k
  obtain ⟨hd, rfl⟩ := hd
  obtain ⟨c1, cs', rfl, ⟨x, rfl, hx⟩, hv'⟩ := hv
  subst hs
  exact lv_lstore hf.1 hf.2.1 hd (xa_all lc hl.1 hl.2.1) hi rfl (fun lc' h' => k _ _ (xa_stored2 hl ⟨x, rfl, hx⟩ h') hv')
theorem xa_lstore_n {j : Fin 4} {v : Int} (hd : decode M.1 pc = .ok (.lstore_n j, 1) ∧ pc + 1 = pc') (hi : (j : Nat) + 1 < M.2.1) (hs : xa_s2 ls (j : Nat) (xL v) = ls') : xa_S G M pc ls (xL v :: st) pc' ls' st := by
  intro p l e R s m args below meth c H locs cells slots Q lc cs hf hl hv k
  obtain ⟨hd, rfl⟩ := hd
  obtain ⟨c1, cs', rfl, ⟨x, rfl, hx⟩, hv'⟩ := hv
  subst hs
  exact lv_lstore_n hf.1 hf.2.1 hd rfl (xa_all lc hl.1 hl.2.1) hi rfl (fun lc' h' => k _ _ (xa_stored2 hl ⟨x, rfl, hx⟩ h') hv')
theorem xa_astore {i : Nat} {v : Int} (hd : decode M.1 pc = .ok (.astore i, 2) ∧ pc + 2 = pc') (hi : i < M.2.1) (hs : xa_s1 ls i (xR v) = ls') : xa_S G M pc ls (xR v :: st) pc' ls' st := by
  intro p l e R s m args below meth c H locs cells slots Q lc cs hf hl hv k
  obtain ⟨hd, rfl⟩ := hd
  obtain ⟨c1, cs', rfl, hr, hv'⟩ := hv
  have hr : xa_r G v c1 := hr
  subst hs
  rcases xa_rr hr with rfl | ⟨a, rfl⟩
  · exact lv_astoreN hf.1 hf.2.1 hd (xa_all lc hl.1 hl.2.1) hi rfl (fun lc' h' => k _ _ (xa_stored1 (v := xR v) hl hr h') hv')
  · exact lv_astore hf.1 hf.2.1 hd (xa_all lc hl.1 hl.2.1) hi rfl (fun lc' h' => k _ _ (xa_stored1 (v := xR v) hl hr h') hv')
theorem xa_astore_n {j : Fin 4} {v : Int} (hd : decode M.1 pc = .ok (.astore_n j, 1) ∧ pc + 1 = pc') (hi : (j : Nat) < M.2.1) (hs : xa_s1 ls (j : Nat) (xR v) = ls') : xa_S G M pc ls (xR v :: st) pc' ls' st := by
  intro p l e R s m args below meth c H locs cells slots Q lc cs hf hl hv k
  obtain ⟨hd, rfl⟩ := hd
  obtain ⟨c1, cs', rfl, hr, hv'⟩ := hv
  have hr : xa_r G v c1 := hr
  subst hs
  rcases xa_rr hr with rfl | ⟨a, rfl⟩
  · exact lv_astore_nN hf.1 hf.2.1 hd rfl (xa_all lc hl.1 hl.2.1) hi rfl (fun lc' h' => k _ _ (xa_stored1 (v := xR v) hl hr h') hv')
  · exact lv_astore_n hf.1 hf.2.1 hd rfl (xa_all lc hl.1 hl.2.1) hi rfl (fun lc' h' => k _ _ (xa_stored1 (v := xR v) hl hr h') hv')
theorem xa_iinc {i : Nat} {n kz v : Int} (hd : decode M.1 pc = .ok (.iinc i n, 3) ∧ pc + 3 = pc') (hn : (Int32.ofInt n).toInt = kz) (hi : ls[i]? = some (some (xI v))) (hi2 : i < M.2.1) (hs : xa_s1 ls i (xI (w32 (v + kz))) = ls') : xa_S G M pc ls st pc' ls' st := by
  intro p l e R s m args below meth c H locs cells slots Q lc cs hf hl hv k
  obtain ⟨hd, rfl⟩ := hd
  obtain ⟨c1, ⟨x, rfl, hx⟩, h2⟩ := hl.2.2 i _ hi
  subst hs
  obtain ⟨kk, hkk⟩ := List.getElem?_of_mem (xa_all_mem hl.1 h2)
  exact lv_iinc (v := x + Int32.ofInt n) hf.1 hf.2.1 hd (xa_all lc hl.1 hl.2.1) hkk rfl hi2 rfl (fun lc' h' => k _ _ (xa_stored1 (v := xI _) hl ⟨_, rfl, by rw [← hn, hx, xa_add32]⟩ h') hv)
theorem xa_iadd {a b : Int} (hd : decode M.1 pc = .ok (.iadd, 1) ∧ pc + 1 = pc') : xa_S G M pc ls (xI b :: xI a :: st) pc' ls (xI (w32 (a + b)) :: st) := by
  intro p l e R s m args below meth c H locs cells slots Q lc cs hf hl hv k
  obtain ⟨hd, rfl⟩ := hd
  obtain ⟨c1, cs1, rfl, ⟨y, rfl, rfl⟩, c2, cs2, rfl, ⟨x, rfl, rfl⟩, hv'⟩ := hv
  exact lv_iadd hf.1 hf.2.1 hd (k _ _ hl ⟨_, _, rfl, ⟨_, rfl, (xa_add32 x y).symm⟩, hv'⟩)
theorem xa_isub {a b : Int} (hd : decode M.1 pc = .ok (.isub, 1) ∧ pc + 1 = pc') : xa_S G M pc ls (xI b :: xI a :: st) pc' ls (xI (w32 (a - b)) :: st) := by
  intro p l e R s m args below meth c H locs cells slots Q lc cs hf hl hv k
  obtain ⟨hd, rfl⟩ := hd
  obtain ⟨c1, cs1, rfl, ⟨y, rfl, rfl⟩, c2, cs2, rfl, ⟨x, rfl, rfl⟩, hv'⟩ := hv
  exact lv_isub hf.1 hf.2.1 hd (k _ _ hl ⟨_, _, rfl, ⟨_, rfl, (xa_sub32 x y).symm⟩, hv'⟩)
theorem xa_imul {a b : Int} (hd : decode M.1 pc = .ok (.imul, 1) ∧ pc + 1 = pc') : xa_S G M pc ls (xI b :: xI a :: st) pc' ls (xI (w32 (a * b)) :: st) := by
  intro p l e R s m args below meth c H locs cells slots Q lc cs hf hl hv k
  obtain ⟨hd, rfl⟩ := hd
  obtain ⟨c1, cs1, rfl, ⟨y, rfl, rfl⟩, c2, cs2, rfl, ⟨x, rfl, rfl⟩, hv'⟩ := hv
  exact lv_imul hf.1 hf.2.1 hd (k _ _ hl ⟨_, _, rfl, ⟨_, rfl, (xa_mul32 x y).symm⟩, hv'⟩)
theorem xa_iand {a b : Int} (hd : decode M.1 pc = .ok (.iand, 1) ∧ pc + 1 = pc') : xa_S G M pc ls (xI b :: xI a :: st) pc' ls (xI (xand a b) :: st) := by
  intro p l e R s m args below meth c H locs cells slots Q lc cs hf hl hv k
  obtain ⟨hd, rfl⟩ := hd
  obtain ⟨c1, cs1, rfl, ⟨y, rfl, rfl⟩, c2, cs2, rfl, ⟨x, rfl, rfl⟩, hv'⟩ := hv
  exact lv_iand hf.1 hf.2.1 hd (k _ _ hl ⟨_, _, rfl, ⟨_, rfl, (xa_b2 (fun x y => x &&& y) x y).symm⟩, hv'⟩)
theorem xa_ior {a b : Int} (hd : decode M.1 pc = .ok (.ior, 1) ∧ pc + 1 = pc') : xa_S G M pc ls (xI b :: xI a :: st) pc' ls (xI (xior a b) :: st) := by
  intro p l e R s m args below meth c H locs cells slots Q lc cs hf hl hv k
  obtain ⟨hd, rfl⟩ := hd
  obtain ⟨c1, cs1, rfl, ⟨y, rfl, rfl⟩, c2, cs2, rfl, ⟨x, rfl, rfl⟩, hv'⟩ := hv
  exact lv_ior hf.1 hf.2.1 hd (k _ _ hl ⟨_, _, rfl, ⟨_, rfl, (xa_b2 (fun x y => x ||| y) x y).symm⟩, hv'⟩)
theorem xa_ixor {a b : Int} (hd : decode M.1 pc = .ok (.ixor, 1) ∧ pc + 1 = pc') : xa_S G M pc ls (xI b :: xI a :: st) pc' ls (xI (xxor a b) :: st) := by
  intro p l e R s m args below meth c H locs cells slots Q lc cs hf hl hv k
  obtain ⟨hd, rfl⟩ := hd
  obtain ⟨c1, cs1, rfl, ⟨y, rfl, rfl⟩, c2, cs2, rfl, ⟨x, rfl, rfl⟩, hv'⟩ := hv
  exact lv_ixor hf.1 hf.2.1 hd (k _ _ hl ⟨_, _, rfl, ⟨_, rfl, (xa_b2 (fun x y => x ^^^ y) x y).symm⟩, hv'⟩)
theorem xa_ishl {a b : Int} (hd : decode M.1 pc = .ok (.ishl, 1) ∧ pc + 1 = pc') : xa_S G M pc ls (xI b :: xI a :: st) pc' ls (xI (xshl a b) :: st) := by
  intro p l e R s m args below meth c H locs cells slots Q lc cs hf hl hv k
  obtain ⟨hd, rfl⟩ := hd
  obtain ⟨c1, cs1, rfl, ⟨y, rfl, rfl⟩, c2, cs2, rfl, ⟨x, rfl, rfl⟩, hv'⟩ := hv
  exact lv_ishl hf.1 hf.2.1 hd (k _ _ hl ⟨_, _, rfl, ⟨_, rfl, (xa_b2 (fun x y => x <<< (y &&& 31)) x y).symm⟩, hv'⟩)
theorem xa_ishr {a b : Int} (hd : decode M.1 pc = .ok (.ishr, 1) ∧ pc + 1 = pc') : xa_S G M pc ls (xI b :: xI a :: st) pc' ls (xI (xshr a b) :: st) := by
  intro p l e R s m args below meth c H locs cells slots Q lc cs hf hl hv k
  obtain ⟨hd, rfl⟩ := hd
  obtain ⟨c1, cs1, rfl, ⟨y, rfl, rfl⟩, c2, cs2, rfl, ⟨x, rfl, rfl⟩, hv'⟩ := hv
  exact lv_ishr hf.1 hf.2.1 hd (k _ _ hl ⟨_, _, rfl, ⟨_, rfl, (xa_b2 (fun x y => x >>> (y &&& 31)) x y).symm⟩, hv'⟩)
theorem xa_ladd {a b : Int} (hd : decode M.1 pc = .ok (.ladd, 1) ∧ pc + 1 = pc') : xa_S G M pc ls (xL b :: xL a :: st) pc' ls (xL (w64 (a + b)) :: st) := by
  intro p l e R s m args below meth c H locs cells slots Q lc cs hf hl hv k
  obtain ⟨hd, rfl⟩ := hd
  obtain ⟨c1, cs1, rfl, ⟨y, rfl, rfl⟩, c2, cs2, rfl, ⟨x, rfl, rfl⟩, hv'⟩ := hv
  exact lv_ladd hf.1 hf.2.1 hd (k _ _ hl ⟨_, _, rfl, ⟨_, rfl, (xa_add64 x y).symm⟩, hv'⟩)
theorem xa_lsub {a b : Int} (hd : decode M.1 pc = .ok (.lsub, 1) ∧ pc + 1 = pc') : xa_S G M pc ls (xL b :: xL a :: st) pc' ls (xL (w64 (a - b)) :: st) := by
  intro p l e R s m args below meth c H locs cells slots Q lc cs hf hl hv k
  obtain ⟨hd, rfl⟩ := hd
  obtain ⟨c1, cs1, rfl, ⟨y, rfl, rfl⟩, c2, cs2, rfl, ⟨x, rfl, rfl⟩, hv'⟩ := hv
  exact lv_lsub hf.1 hf.2.1 hd (k _ _ hl ⟨_, _, rfl, ⟨_, rfl, (xa_sub64 x y).symm⟩, hv'⟩)
theorem xa_lmul {a b : Int} (hd : decode M.1 pc = .ok (.lmul, 1) ∧ pc + 1 = pc') : xa_S G M pc ls (xL b :: xL a :: st) pc' ls (xL (w64 (a * b)) :: st) := by
  intro p l e R s m args below meth c H locs cells slots Q lc cs hf hl hv k
  obtain ⟨hd, rfl⟩ := hd
  obtain ⟨c1, cs1, rfl, ⟨y, rfl, rfl⟩, c2, cs2, rfl, ⟨x, rfl, rfl⟩, hv'⟩ := hv
  exact lv_lmul hf.1 hf.2.1 hd (k _ _ hl ⟨_, _, rfl, ⟨_, rfl, (xa_mul64 x y).symm⟩, hv'⟩)
theorem xa_iushr {a b : Int} (hd : decode M.1 pc = .ok (.iushr, 1) ∧ pc + 1 = pc') : xa_S G M pc ls (xI b :: xI a :: st) pc' ls (xI (xushr a b) :: st) := by
  intro p l e R s m args below meth c H locs cells slots Q lc cs hf hl hv k
  obtain ⟨hd, rfl⟩ := hd
  obtain ⟨c1, cs1, rfl, ⟨y, rfl, rfl⟩, c2, cs2, rfl, ⟨x, rfl, rfl⟩, hv'⟩ := hv
  exact lv_iushr hf.1 hf.2.1 hd rfl (k _ _ hl ⟨_, _, rfl, ⟨_, rfl, (xa_b2 (fun x y => (x.toUInt32 >>> (y.toUInt32 &&& Int32.toUInt32 31)).toInt32) x y).symm⟩, hv'⟩)
theorem xa_idiv {a b : Int} (hd : decode M.1 pc = .ok (.idiv, 1) ∧ pc + 1 = pc') (hb : b ≠ 0) : xa_S G M pc ls (xI b :: xI a :: st) pc' ls (xI (w32 (a.tdiv b)) :: st) := by
  intro p l e R s m args below meth c H locs cells slots Q lc cs hf hl hv k
  obtain ⟨hd, rfl⟩ := hd
  obtain ⟨c1, cs1, rfl, ⟨y, rfl, rfl⟩, c2, cs2, rfl, ⟨x, rfl, rfl⟩, hv'⟩ := hv
  exact lv_idiv hf.1 hf.2.1 hd (fun e => hb (by rw [e]; rfl)) (k _ _ hl ⟨_, _, rfl, ⟨_, rfl, (xa_div32 x y).symm⟩, hv'⟩)
theorem xa_irem {a b : Int} (hd : decode M.1 pc = .ok (.irem, 1) ∧ pc + 1 = pc') (hb : b ≠ 0) : xa_S G M pc ls (xI b :: xI a :: st) pc' ls (xI (a.tmod b) :: st) := by
  intro p l e R s m args below meth c H locs cells slots Q lc cs hf hl hv k
  obtain ⟨hd, rfl⟩ := hd
  obtain ⟨c1, cs1, rfl, ⟨y, rfl, rfl⟩, c2, cs2, rfl, ⟨x, rfl, rfl⟩, hv'⟩ := hv
  exact lv_irem hf.1 hf.2.1 hd (fun e => hb (by rw [e]; rfl)) (k _ _ hl ⟨_, _, rfl, ⟨_, rfl, (xa_rem32 x y).symm⟩, hv'⟩)
theorem xa_ldiv {a b : Int} (hd : decode M.1 pc = .ok (.ldiv, 1) ∧ pc + 1 = pc') (hb : b ≠ 0) : xa_S G M pc ls (xL b :: xL a :: st) pc' ls (xL (w64 (a.tdiv b)) :: st) := by
  intro p l e R s m args below meth c H locs cells slots Q lc cs hf hl hv k
  obtain ⟨hd, rfl⟩ := hd
  obtain ⟨c1, cs1, rfl, ⟨y, rfl, rfl⟩, c2, cs2, rfl, ⟨x, rfl, rfl⟩, hv'⟩ := hv
  exact lv_ldiv hf.1 hf.2.1 hd (fun e => hb (by rw [e]; rfl)) (k _ _ hl ⟨_, _, rfl, ⟨_, rfl, (xa_div64 x y).symm⟩, hv'⟩)
theorem xa_lrem {a b : Int} (hd : decode M.1 pc = .ok (.lrem, 1) ∧ pc + 1 = pc') (hb : b ≠ 0) : xa_S G M pc ls (xL b :: xL a :: st) pc' ls (xL (a.tmod b) :: st) := by
  intro p l e R s m args below meth c H locs cells slots Q lc cs hf hl hv k
  obtain ⟨hd, rfl⟩ := hd
  obtain ⟨c1, cs1, rfl, ⟨y, rfl, rfl⟩, c2, cs2, rfl, ⟨x, rfl, rfl⟩, hv'⟩ := hv
  exact lv_lrem hf.1 hf.2.1 hd (fun e => hb (by rw [e]; rfl)) (k _ _ hl ⟨_, _, rfl, ⟨_, rfl, (xa_rem64 x y).symm⟩, hv'⟩)
theorem xa_ineg {a : Int} (hd : decode M.1 pc = .ok (.ineg, 1) ∧ pc + 1 = pc') : xa_S G M pc ls (xI a :: st) pc' ls (xI (w32 (-a)) :: st) := by
  intro p l e R s m args below meth c H locs cells slots Q lc cs hf hl hv k
  obtain ⟨hd, rfl⟩ := hd
  obtain ⟨c1, cs1, rfl, ⟨x, rfl, rfl⟩, hv'⟩ := hv
  exact lv_ineg hf.1 hf.2.1 hd (k _ _ hl ⟨_, _, rfl, ⟨_, rfl, (xa_neg32 x).symm⟩, hv'⟩)
theorem xa_i2l {a : Int} (hd : decode M.1 pc = .ok (.i2l, 1) ∧ pc + 1 = pc') : xa_S G M pc ls (xI a :: st) pc' ls (xL a :: st) := by
  intro p l e R s m args below meth c H locs cells slots Q lc cs hf hl hv k
  obtain ⟨hd, rfl⟩ := hd
  obtain ⟨c1, cs1, rfl, ⟨x, rfl, rfl⟩, hv'⟩ := hv
  exact lv_i2l hf.1 hf.2.1 hd rfl (k _ _ hl ⟨_, _, rfl, ⟨_, rfl, by simp⟩, hv'⟩)
theorem xa_l2i {a : Int} (hd : decode M.1 pc = .ok (.l2i, 1) ∧ pc + 1 = pc') : xa_S G M pc ls (xL a :: st) pc' ls (xI (w32 a) :: st) := by
  intro p l e R s m args below meth c H locs cells slots Q lc cs hf hl hv k
  obtain ⟨hd, rfl⟩ := hd
  obtain ⟨c1, cs1, rfl, ⟨x, rfl, rfl⟩, hv'⟩ := hv
  exact lv_l2i hf.1 hf.2.1 hd rfl (k _ _ hl ⟨_, _, rfl, ⟨_, rfl, by simp [w32]⟩, hv'⟩)
theorem xa_i2b {a : Int} (hd : decode M.1 pc = .ok (.i2b, 1) ∧ pc + 1 = pc') : xa_S G M pc ls (xI a :: st) pc' ls (xI (xi2b a) :: st) := by
  intro p l e R s m args below meth c H locs cells slots Q lc cs hf hl hv k
  obtain ⟨hd, rfl⟩ := hd
  obtain ⟨c1, cs1, rfl, ⟨x, rfl, rfl⟩, hv'⟩ := hv
  exact lv_i2b hf.1 hf.2.1 hd rfl (k _ _ hl ⟨_, _, rfl, ⟨_, rfl, by simp [xi2b]⟩, hv'⟩)
theorem xa_lcmp {a b : Int} (hd : decode M.1 pc = .ok (.lcmp, 1) ∧ pc + 1 = pc') : xa_S G M pc ls (xL b :: xL a :: st) pc' ls (xI (xcmp a b) :: st) := by
  intro p l e R s m args below meth c H locs cells slots Q lc cs hf hl hv k
  obtain ⟨hd, rfl⟩ := hd
  obtain ⟨c1, cs1, rfl, ⟨y, rfl, rfl⟩, c2, cs2, rfl, ⟨x, rfl, rfl⟩, hv'⟩ := hv
  refine W.lcmp hf.1 hf.2.1 hd (k _ _ hl ⟨_, _, rfl, ⟨_, rfl, ?_⟩, hv'⟩)
  simp only [lg_cmp, xcmp, Int64.lt_iff_toInt_lt]
  by_cases h1 : x.toInt < y.toInt
  · have h4 : ¬ y.toInt < x.toInt := by omega
    have h5 : ¬ x = y := fun e => by rw [e] at h1; omega
    simp [h1, h4, h5]
  · by_cases h2 : x = y
    · subst h2; simp
    · have h3 : ¬ x.toInt = y.toInt := fun e => h2 (Int64.toInt_inj.mp e)
      have h4 : y.toInt < x.toInt := by omega
      simp [h1, h2, h3, h4]
theorem xa_goto {off : Int} {tgt : Nat} (hd : decode M.1 pc = .ok (.goto off, 3) ∧ (pc : Int) + off = (tgt : Int)) : xa_S G M pc ls st tgt ls st := by
  intro p l e R s m args below meth c H locs cells slots Q lc cs hf hl hv k
  exact lv_goto hf.1 hf.2.1 hd.1 hd.2 (k _ _ hl hv)
theorem xa_pop {v : Int} (hd : decode M.1 pc = .ok (.pop, 1) ∧ pc + 1 = pc') : xa_S G M pc ls (xI v :: st) pc' ls st := by
  intro p l e R s m args below meth c H locs cells slots Q lc cs hf hl hv k
  obtain ⟨hd, rfl⟩ := hd
  obtain ⟨c1, cs1, rfl, ⟨x, rfl, hx⟩, hv'⟩ := hv
  exact lv_pop hf.1 hf.2.1 hd rfl (k _ _ hl hv')
theorem xa_dup {v : xa_V} (hd : decode M.1 pc = .ok (.dup, 1) ∧ pc + 1 = pc') (hz : ∀ z, v ≠ .inr (.inl z)) : xa_S G M pc ls (v :: st) pc' ls (v :: v :: st) := by
  intro p l e R s m args below meth c H locs cells slots Q lc cs hf hl hv k
  obtain ⟨hd, rfl⟩ := hd
  obtain ⟨c1, cs1, rfl, h1, hv'⟩ := hv
  exact lv_dup hf.1 hf.2.1 hd (xa_cat h1 hz) (k _ _ hl ⟨_, _, rfl, h1, _, _, rfl, h1, hv'⟩)
theorem xa_dup_x1 {v u : xa_V} (hd : decode M.1 pc = .ok (.dup_x1, 1) ∧ pc + 1 = pc') (hz : ∀ z, v ≠ .inr (.inl z)) (hz2 : ∀ z, u ≠ .inr (.inl z)) : xa_S G M pc ls (v :: u :: st) pc' ls (v :: u :: v :: st) := by
  intro p l e R s m args below meth c H locs cells slots Q lc cs hf hl hv k
  obtain ⟨hd, rfl⟩ := hd
  obtain ⟨c1, cs1, rfl, h1, c2, cs2, rfl, h2, hv'⟩ := hv
  exact lv_dup_x1 hf.1 hf.2.1 hd (xa_cat h1 hz) (xa_cat h2 hz2) (k _ _ hl ⟨_, _, rfl, h1, _, _, rfl, h2, _, _, rfl, h1, hv'⟩)
theorem xa_dup_x2 {v u t : xa_V} (hd : decode M.1 pc = .ok (.dup_x2, 1) ∧ pc + 1 = pc') (hz : ∀ z, v ≠ .inr (.inl z)) (hz2 : ∀ z, u ≠ .inr (.inl z)) (hz3 : ∀ z, t ≠ .inr (.inl z)) : xa_S G M pc ls (v :: u :: t :: st) pc' ls (v :: u :: t :: v :: st) := by
  intro p l e R s m args below meth c H locs cells slots Q lc cs hf hl hv k
  obtain ⟨hd, rfl⟩ := hd
  obtain ⟨c1, cs1, rfl, h1, c2, cs2, rfl, h2, c3, cs3, rfl, h3, hv'⟩ := hv
  exact lv_dup_x2 hf.1 hf.2.1 hd (xa_cat h1 hz) (xa_cat h2 hz2) (xa_cat h3 hz3) (k _ _ hl ⟨_, _, rfl, h1, _, _, rfl, h2, _, _, rfl, h3, _, _, rfl, h1, hv'⟩)
theorem xa_dup2 {v u : xa_V} (hd : decode M.1 pc = .ok (.dup2, 1) ∧ pc + 1 = pc') (hz : ∀ z, v ≠ .inr (.inl z)) (hz2 : ∀ z, u ≠ .inr (.inl z)) : xa_S G M pc ls (v :: u :: st) pc' ls (v :: u :: v :: u :: st) := by
  intro p l e R s m args below meth c H locs cells slots Q lc cs hf hl hv k
  obtain ⟨hd, rfl⟩ := hd
  obtain ⟨c1, cs1, rfl, h1, c2, cs2, rfl, h2, hv'⟩ := hv
  exact lv_dup2_11 hf.1 hf.2.1 hd (xa_cat h1 hz) (xa_cat h2 hz2) (k _ _ hl ⟨_, _, rfl, h1, _, _, rfl, h2, _, _, rfl, h1, _, _, rfl, h2, hv'⟩)
theorem xa_tI (v : Int) : ∀ z, (xI v) ≠ .inr (.inl z) := fun z h => by cases h
theorem xa_tR (v : Int) : ∀ z, (xR v) ≠ .inr (.inl z) := fun z h => by cases h
theorem xa_ldc {idx : Nat} {c32 : Int32} {v : Int} (hn : c32.toInt = v) (hc : Cond.constant M.2.2.2.1 idx c32 ∈ xa_W) (hd : decode M.1 pc = .ok (.ldc idx, 2) ∧ pc + 2 = pc') : xa_S G M pc ls st pc' ls (xI v :: st) := by
  intro p l e R s m args below meth c H locs cells slots Q lc cs hf hl hv k
  obtain ⟨hd, rfl⟩ := hd
  exact W.ldc hf.1 hf.2.1 hf.2.2.2.1 (hf.2.2.2.2.1 _ hc) rfl hd (k _ _ hl ⟨_, _, rfl, ⟨_, rfl, hn.symm⟩, hv⟩)
theorem xa_ldcw {idx : Nat} {c32 : Int32} {v : Int} (hn : c32.toInt = v) (hc : Cond.constant M.2.2.2.1 idx c32 ∈ xa_W) (hd : decode M.1 pc = .ok (.ldc_w idx, 3) ∧ pc + 3 = pc') : xa_S G M pc ls st pc' ls (xI v :: st) := by
  intro p l e R s m args below meth c H locs cells slots Q lc cs hf hl hv k
  obtain ⟨hd, rfl⟩ := hd
  exact lv_ldcw hf.1 hf.2.1 hf.2.2.2.1 (hf.2.2.2.2.1 _ hc) hd (k _ _ hl ⟨_, _, rfl, ⟨_, rfl, hn.symm⟩, hv⟩)
theorem xa_ldc2 {idx : Nat} {c64 : Int64} {v : Int} (hn : c64.toInt = v) (hc : Cond.constantLong M.2.2.2.1 idx c64 ∈ xa_W) (hd : decode M.1 pc = .ok (.ldc2_w idx, 3) ∧ pc + 3 = pc') : xa_S G M pc ls st pc' ls (xL v :: st) := by
  intro p l e R s m args below meth c H locs cells slots Q lc cs hf hl hv k
  obtain ⟨hd, rfl⟩ := hd
  exact W.ldc2 hf.1 hf.2.1 hf.2.2.2.1 (hf.2.2.2.2.1 _ hc) rfl hd (k _ _ hl ⟨_, _, rfl, ⟨_, rfl, hn.symm⟩, hv⟩)
end XR1
