section XR8
variable {l : Launch} {G : xa_C} {d : Nat} {M : xa_M} {α β : Type} {E : Option α} {F : α → Option xa_O} {pc pc' : Nat} {ls ls' : List (Option xa_V)} {st st' : List xa_V} {h : xa_H}
theorem xa_mmaxI {a b : Int} {idx : Nat} (wl : Cond.methodLink M.2.2.2.1 idx Lib.Math.max.name ∈ xa_W) (ws : Cond.static Lib.Math.max.name ∈ xa_W) (wz : Cond.initialized "java/lang/Math" ∈ xa_W) (wc : Cond.code Lib.Math.max.name Lib.Math.max.code 2 (some .int) ∈ xa_W) (hd2 : 1 ≤ d) (hst : xa_cs st ≤ 8) (hd : decode M.1 pc = .ok (.invokestatic idx, 3) ∧ pc + 3 = pc') (k : xa_G l G d M E F pc' ls (xI (max a b) :: st) h) : xa_G l G d M E F pc ls (xI b :: xI a :: st) h := by
  intro o ho
  obtain ⟨hd, rfl⟩ := hd
  obtain ⟨h1, h2⟩ := k o ho
  refine ⟨h1, fun n0 z0 a' b' p e s m args below meth c H locs lc cs hf hll hvs hrel hq => ?_⟩
  obtain ⟨c1, cs1, rfl, ⟨y, rfl, rfl⟩, c2, cs2, rfl, ⟨x, rfl, rfl⟩, hv'⟩ := hvs
  refine va_mmax hf.1 hf.2.1 (hf.2.2.1.trans hll.1.symm) hf.2.2.2.1 (hf.2.2.2.2.1 _ wl) (hf.2.2.2.2.1 _ ws) (hf.2.2.2.2.1 _ wz) (hf.2.2.2.2.1 _ wc) hd2 (by rw [xa_cs_ok _ _ hv']; show _ ≤ 64 * d; omega) (show xn h - n0 ≤ xn o.2 - n0 by omega) (show xz h - z0 ≤ xz o.2 - z0 by omega) hd ?_
  refine h2 n0 z0 a' b' p e s m args below meth c H locs lc _ hf hll ⟨_, _, rfl, ⟨_, rfl, ?_⟩, hv'⟩ hrel hq
  split
  · rename_i q
    have q := Int32.lt_iff_toInt_lt.mp q
    simp only [Int.max_def, Int.min_def]
    split <;> omega
  · rename_i q
    have q := _root_.mt Int32.lt_iff_toInt_lt.mpr q
    simp only [Int.max_def, Int.min_def]
    split <;> omega
theorem xa_mminI {a b : Int} {idx : Nat} (wl : Cond.methodLink M.2.2.2.1 idx Lib.Math.min.name ∈ xa_W) (ws : Cond.static Lib.Math.min.name ∈ xa_W) (wz : Cond.initialized "java/lang/Math" ∈ xa_W) (wc : Cond.code Lib.Math.min.name Lib.Math.min.code 2 (some .int) ∈ xa_W) (hd2 : 1 ≤ d) (hst : xa_cs st ≤ 8) (hd : decode M.1 pc = .ok (.invokestatic idx, 3) ∧ pc + 3 = pc') (k : xa_G l G d M E F pc' ls (xI (min a b) :: st) h) : xa_G l G d M E F pc ls (xI b :: xI a :: st) h := by
  intro o ho
  obtain ⟨hd, rfl⟩ := hd
  obtain ⟨h1, h2⟩ := k o ho
  refine ⟨h1, fun n0 z0 a' b' p e s m args below meth c H locs lc cs hf hll hvs hrel hq => ?_⟩
  obtain ⟨c1, cs1, rfl, ⟨y, rfl, rfl⟩, c2, cs2, rfl, ⟨x, rfl, rfl⟩, hv'⟩ := hvs
  refine va_mmin hf.1 hf.2.1 (hf.2.2.1.trans hll.1.symm) hf.2.2.2.1 (hf.2.2.2.2.1 _ wl) (hf.2.2.2.2.1 _ ws) (hf.2.2.2.2.1 _ wz) (hf.2.2.2.2.1 _ wc) hd2 (by rw [xa_cs_ok _ _ hv']; show _ ≤ 64 * d; omega) (show xn h - n0 ≤ xn o.2 - n0 by omega) (show xz h - z0 ≤ xz o.2 - z0 by omega) hd ?_
  refine h2 n0 z0 a' b' p e s m args below meth c H locs lc _ hf hll ⟨_, _, rfl, ⟨_, rfl, ?_⟩, hv'⟩ hrel hq
  split
  · rename_i q
    have q := Int32.lt_iff_toInt_lt.mp q
    simp only [Int.max_def, Int.min_def]
    split <;> omega
  · rename_i q
    have q := _root_.mt Int32.lt_iff_toInt_lt.mpr q
    simp only [Int.max_def, Int.min_def]
    split <;> omega
theorem xa_mmaxL {a b : Int} {idx : Nat} (wl : Cond.methodLink M.2.2.2.1 idx Lib.MathLoose.max_long.x ∈ xa_W) (ws : Cond.static Lib.MathLoose.max_long.x ∈ xa_W) (wz : Cond.initialized "java/lang/Math" ∈ xa_W) (wc : Cond.code Lib.MathLoose.max_long.x Lib.MathLoose.max_long.code 4 (some .long) ∈ xa_W) (hd2 : 1 ≤ d) (hst : xa_cs st ≤ 8) (hd : decode M.1 pc = .ok (.invokestatic idx, 3) ∧ pc + 3 = pc') (k : xa_G l G d M E F pc' ls (xL (max a b) :: st) h) : xa_G l G d M E F pc ls (xL b :: xL a :: st) h := by
  intro o ho
  obtain ⟨hd, rfl⟩ := hd
  obtain ⟨h1, h2⟩ := k o ho
  refine ⟨h1, fun n0 z0 a' b' p e s m args below meth c H locs lc cs hf hll hvs hrel hq => ?_⟩
  obtain ⟨c1, cs1, rfl, ⟨y, rfl, rfl⟩, c2, cs2, rfl, ⟨x, rfl, rfl⟩, hv'⟩ := hvs
  refine va_mmax_long hf.1 hf.2.1 (hf.2.2.1.trans hll.1.symm) hf.2.2.2.1 (hf.2.2.2.2.1 _ wl) (hf.2.2.2.2.1 _ ws) (hf.2.2.2.2.1 _ wz) (hf.2.2.2.2.1 _ wc) hd2 (by rw [xa_cs_ok _ _ hv']; show _ ≤ 64 * d; omega) (show xn h - n0 ≤ xn o.2 - n0 by omega) (show xz h - z0 ≤ xz o.2 - z0 by omega) hd ?_
  refine h2 n0 z0 a' b' p e s m args below meth c H locs lc _ hf hll ⟨_, _, rfl, ⟨_, rfl, ?_⟩, hv'⟩ hrel hq
  split
  · rename_i q
    have q := Int64.lt_iff_toInt_lt.mp q
    simp only [Int.max_def, Int.min_def]
    split <;> omega
  · rename_i q
    have q := _root_.mt Int64.lt_iff_toInt_lt.mpr q
    simp only [Int.max_def, Int.min_def]
    split <;> omega
theorem xa_mminL {a b : Int} {idx : Nat} (wl : Cond.methodLink M.2.2.2.1 idx Lib.MathLoose.min_long.x ∈ xa_W) (ws : Cond.static Lib.MathLoose.min_long.x ∈ xa_W) (wz : Cond.initialized "java/lang/Math" ∈ xa_W) (wc : Cond.code Lib.MathLoose.min_long.x Lib.MathLoose.min_long.code 4 (some .long) ∈ xa_W) (hd2 : 1 ≤ d) (hst : xa_cs st ≤ 8) (hd : decode M.1 pc = .ok (.invokestatic idx, 3) ∧ pc + 3 = pc') (k : xa_G l G d M E F pc' ls (xL (min a b) :: st) h) : xa_G l G d M E F pc ls (xL b :: xL a :: st) h := by
  intro o ho
  obtain ⟨hd, rfl⟩ := hd
  obtain ⟨h1, h2⟩ := k o ho
  refine ⟨h1, fun n0 z0 a' b' p e s m args below meth c H locs lc cs hf hll hvs hrel hq => ?_⟩
  obtain ⟨c1, cs1, rfl, ⟨y, rfl, rfl⟩, c2, cs2, rfl, ⟨x, rfl, rfl⟩, hv'⟩ := hvs
  refine va_mmin_long hf.1 hf.2.1 (hf.2.2.1.trans hll.1.symm) hf.2.2.2.1 (hf.2.2.2.2.1 _ wl) (hf.2.2.2.2.1 _ ws) (hf.2.2.2.2.1 _ wz) (hf.2.2.2.2.1 _ wc) hd2 (by rw [xa_cs_ok _ _ hv']; show _ ≤ 64 * d; omega) (show xn h - n0 ≤ xn o.2 - n0 by omega) (show xz h - z0 ≤ xz o.2 - z0 by omega) hd ?_
  refine h2 n0 z0 a' b' p e s m args below meth c H locs lc _ hf hll ⟨_, _, rfl, ⟨_, rfl, ?_⟩, hv'⟩ hrel hq
  split
  · rename_i q
    have q := Int64.lt_iff_toInt_lt.mp q
    simp only [Int.max_def, Int.min_def]
    split <;> omega
  · rename_i q
    have q := _root_.mt Int64.lt_iff_toInt_lt.mpr q
    simp only [Int.max_def, Int.min_def]
    split <;> omega
end XR8
