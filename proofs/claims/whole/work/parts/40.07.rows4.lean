section XR4
variable {l : Launch} {G : xa_C} {d : Nat} {M : xa_M} {α β : Type} {F : α → Option xa_O} {pc pc' : Nat} {ls ls' : List (Option xa_V)} {st st' : List xa_V} {h : xa_H}
theorem xa_kna {s : State} {kd : Nat} (hK : xa_Kn G s) (hk : kd < 6) : ArrOfT s (gAq G kd) (xaty kd) ∧ va_RA s (gAq G kd) (xaty kd) := by
  rcases (show kd = 0 ∨ kd = 1 ∨ kd = 2 ∨ kd = 3 ∨ kd = 4 ∨ kd = 5 by omega) with rfl | rfl | rfl | rfl | rfl | rfl
  · exact hK.1.2 0 _ rfl
  · exact hK.1.2 1 _ rfl
  · exact hK.1.2 2 _ rfl
  · exact hK.1.2 3 _ rfl
  · exact hK.1.2 4 _ rfl
  · exact hK.1.2 5 _ rfl
theorem xa_clamp (x : Int32) : x.toNatClampNeg = x.toInt.toNat := rfl
theorem xa_inb {x : Int32} {j n : Nat} (e : (x.toInt) = (j : Int)) (hj : j < n) : ¬ (x < 0 ∨ n ≤ x.toNatClampNeg) := by
  rintro (q | q)
  · have := (xa_ilt x 0).mp q
    have e0 : (0 : Int32).toInt = 0 := rfl
    omega
  · rw [xa_clamp, e] at q
    simp at q
    omega
theorem xa_arr_set {H H' : Heap} {n j : Nat} {v : Int} {FF : Nat → Value} {c0 : Value} (hrel : xa_rel G h H) (hn : n < xn h) (hkd : (xk h n).1 < 6) (hvals : ∀ k, k < (xk h n).2 → xa_v G (xvt (xtag (xaty (xk h n).1)) (xm h n k)) (FF k)) (hsz : H'.size = H.size) (ho : ∀ q, q ≠ gb G + n → H'[q]? = H[q]?) (e1 : H'[gb G + n]? = some ((arrV (gAq G (xk h n).1) (xk h n).2 FF).setSlot j c0)) (hv : xa_v G (xvt (xtag (xaty (xk h n).1)) v) c0) : xa_rel G (xset h n j v) H' := by
  refine xa_rel_set hrel hn hsz ho (Or.inl ⟨hkd, updV FF j c0, ?_, ?_⟩)
  · rw [e1, arrV_store]; rfl
  · intro k hk
    by_cases e : k = j
    · subst e
      simp only [updV, if_pos]
      have : xm (xset h n k v) n k = v := by simp [xm, xset]
      rw [this]
      exact hv
    · simp only [updV, if_neg e]
      have : xm (xset h n j v) n k = xm h n k := by simp [xm, xset, e]
      rw [this]
      exact hvals k hk
theorem xa_locs {locs : List Loc} {n j : Nat} (hq : ∀ q ∈ locs, gb G ≤ q.base) : ∀ q ∈ locs ++ [(⟨gb G + n, j⟩ : Loc)], gb G ≤ q.base := by
  intro q hq'
  rcases List.mem_append.mp hq' with hq' | hq'
  · exact hq q hq'
  · simp at hq'
    subst hq'
    exact Nat.le_add_right _ _
theorem xa_iaload {a i : Int} {E : Int → Option α} (hd : decode M.1 pc = .ok (.iaload, 1) ∧ pc + 1 = pc') (kk : ∀ v, xal h 0 a i = some v → xa_G l G d M (E v) F pc' ls (xI v :: st) h) : xa_G l G d M ((xal h 0 a i).bind E) F pc ls (xI i :: xR a :: st) h := by
  intro o ho
  obtain ⟨hd, rfl⟩ := hd
  cases hv : xal h 0 a i with
  | none => rw [hv] at ho; simp at ho
  | some v =>
    rw [hv] at ho
    obtain ⟨h1, h2⟩ := kk v hv o ho
    refine ⟨h1, fun n0 z0 a' b' p e s m args below meth c H locs lc cs hf hll hvs hrel hq => ?_⟩
    have hok : xia h 0 a i = true := by
      unfold xal at hv
      split at hv
      · assumption
      · cases hv
    have hv2 : xm h a.toNat i.toNat = v := by
      unfold xal at hv
      rw [if_pos hok] at hv
      exact Option.some.inj hv
    obtain ⟨n, j, rfl, hn, hkd, rfl, hj⟩ := xia_spec hok
    simp only [Int.toNat_natCast] at hv2
    obtain ⟨c0, cs0, rfl, ⟨x, rfl, hx⟩, c1, cs1, rfl, hr, hvs'⟩ := hvs
    obtain rfl := xa_ref hr
    obtain ⟨FF, hcell, hvals⟩ := xa_arr hrel hn (by rw [hkd]; decide)
    have hK := (xa_kna (kd := 0) hf.2.2.2.2.2.1 (by decide)).1
    rw [hkd] at hcell hvals
    refine W.iald hf.1 hf.2.1 hcell (hK _ _) (fun q => by cases q) (by rw [arrV_size]; exact xa_inb hx.symm hj) (v := FF j) (by rw [xa_clamp, ← hx, Int.toNat_natCast]; exact arrV_read _ _ hj) rfl rfl hd ?_
    exact h2 n0 z0 a' b' p e s m args below meth c H locs lc _ hf hll ⟨_, _, rfl, by have := hvals j hj; rw [hv2] at this; exact this, hvs'⟩ hrel hq
theorem xa_laload {a i : Int} {E : Int → Option α} (hd : decode M.1 pc = .ok (.laload, 1) ∧ pc + 1 = pc') (kk : ∀ v, xal h 1 a i = some v → xa_G l G d M (E v) F pc' ls (xL v :: st) h) : xa_G l G d M ((xal h 1 a i).bind E) F pc ls (xI i :: xR a :: st) h := by
  intro o ho
  obtain ⟨hd, rfl⟩ := hd
  cases hv : xal h 1 a i with
  | none => rw [hv] at ho; simp at ho
  | some v =>
    rw [hv] at ho
    obtain ⟨h1, h2⟩ := kk v hv o ho
    refine ⟨h1, fun n0 z0 a' b' p e s m args below meth c H locs lc cs hf hll hvs hrel hq => ?_⟩
    have hok : xia h 1 a i = true := by
      unfold xal at hv
      split at hv
      · assumption
      · cases hv
    have hv2 : xm h a.toNat i.toNat = v := by
      unfold xal at hv
      rw [if_pos hok] at hv
      exact Option.some.inj hv
    obtain ⟨n, j, rfl, hn, hkd, rfl, hj⟩ := xia_spec hok
    simp only [Int.toNat_natCast] at hv2
    obtain ⟨c0, cs0, rfl, ⟨x, rfl, hx⟩, c1, cs1, rfl, hr, hvs'⟩ := hvs
    obtain rfl := xa_ref hr
    obtain ⟨FF, hcell, hvals⟩ := xa_arr hrel hn (by rw [hkd]; decide)
    have hK := (xa_kna (kd := 1) hf.2.2.2.2.2.1 (by decide)).1
    rw [hkd] at hcell hvals
    refine W.lald hf.1 hf.2.1 hcell (hK _ _) (fun q => by cases q) (by rw [arrV_size]; exact xa_inb hx.symm hj) (v := FF j) (by rw [xa_clamp, ← hx, Int.toNat_natCast]; exact arrV_read _ _ hj) rfl rfl hd ?_
    exact h2 n0 z0 a' b' p e s m args below meth c H locs lc _ hf hll ⟨_, _, rfl, by have := hvals j hj; rw [hv2] at this; exact this, hvs'⟩ hrel hq
theorem xa_baload {a i : Int} {E : Int → Option α} (hd : decode M.1 pc = .ok (.baload, 1) ∧ pc + 1 = pc') (kk : ∀ v, xal h 2 a i = some v → xa_G l G d M (E v) F pc' ls (xI v :: st) h) : xa_G l G d M ((xal h 2 a i).bind E) F pc ls (xI i :: xR a :: st) h := by
  intro o ho
  obtain ⟨hd, rfl⟩ := hd
  cases hv : xal h 2 a i with
  | none => rw [hv] at ho; simp at ho
  | some v =>
    rw [hv] at ho
    obtain ⟨h1, h2⟩ := kk v hv o ho
    refine ⟨h1, fun n0 z0 a' b' p e s m args below meth c H locs lc cs hf hll hvs hrel hq => ?_⟩
    have hok : xia h 2 a i = true := by
      unfold xal at hv
      split at hv
      · assumption
      · cases hv
    have hv2 : xm h a.toNat i.toNat = v := by
      unfold xal at hv
      rw [if_pos hok] at hv
      exact Option.some.inj hv
    obtain ⟨n, j, rfl, hn, hkd, rfl, hj⟩ := xia_spec hok
    simp only [Int.toNat_natCast] at hv2
    obtain ⟨c0, cs0, rfl, ⟨x, rfl, hx⟩, c1, cs1, rfl, hr, hvs'⟩ := hvs
    obtain rfl := xa_ref hr
    obtain ⟨FF, hcell, hvals⟩ := xa_arr hrel hn (by rw [hkd]; decide)
    have hK := (xa_kna (kd := 2) hf.2.2.2.2.2.1 (by decide)).1
    rw [hkd] at hcell hvals
    refine W.bald hf.1 hf.2.1 hcell (hK _ _) (fun q => by cases q) (by rw [arrV_size]; exact xa_inb hx.symm hj) (v := FF j) (by rw [xa_clamp, ← hx, Int.toNat_natCast]; exact arrV_read _ _ hj) rfl rfl hd ?_
    exact h2 n0 z0 a' b' p e s m args below meth c H locs lc _ hf hll ⟨_, _, rfl, by have := hvals j hj; rw [hv2] at this; exact this, hvs'⟩ hrel hq
theorem xa_caload {a i : Int} {E : Int → Option α} (hd : decode M.1 pc = .ok (.caload, 1) ∧ pc + 1 = pc') (kk : ∀ v, xal h 3 a i = some v → xa_G l G d M (E v) F pc' ls (xI v :: st) h) : xa_G l G d M ((xal h 3 a i).bind E) F pc ls (xI i :: xR a :: st) h := by
  intro o ho
  obtain ⟨hd, rfl⟩ := hd
  cases hv : xal h 3 a i with
  | none => rw [hv] at ho; simp at ho
  | some v =>
    rw [hv] at ho
    obtain ⟨h1, h2⟩ := kk v hv o ho
    refine ⟨h1, fun n0 z0 a' b' p e s m args below meth c H locs lc cs hf hll hvs hrel hq => ?_⟩
    have hok : xia h 3 a i = true := by
      unfold xal at hv
      split at hv
      · assumption
      · cases hv
    have hv2 : xm h a.toNat i.toNat = v := by
      unfold xal at hv
      rw [if_pos hok] at hv
      exact Option.some.inj hv
    obtain ⟨n, j, rfl, hn, hkd, rfl, hj⟩ := xia_spec hok
    simp only [Int.toNat_natCast] at hv2
    obtain ⟨c0, cs0, rfl, ⟨x, rfl, hx⟩, c1, cs1, rfl, hr, hvs'⟩ := hvs
    obtain rfl := xa_ref hr
    obtain ⟨FF, hcell, hvals⟩ := xa_arr hrel hn (by rw [hkd]; decide)
    have hK := (xa_kna (kd := 3) hf.2.2.2.2.2.1 (by decide)).1
    rw [hkd] at hcell hvals
    refine W.cald hf.1 hf.2.1 hcell (hK _ _) (fun q => by cases q) (by rw [arrV_size]; exact xa_inb hx.symm hj) (v := FF j) (by rw [xa_clamp, ← hx, Int.toNat_natCast]; exact arrV_read _ _ hj) rfl rfl hd ?_
    exact h2 n0 z0 a' b' p e s m args below meth c H locs lc _ hf hll ⟨_, _, rfl, by have := hvals j hj; rw [hv2] at this; exact this, hvs'⟩ hrel hq
theorem xa_aaload_4 {a i : Int} {E : Int → Option α} (hd : decode M.1 pc = .ok (.aaload, 1) ∧ pc + 1 = pc') (kk : ∀ v, xal h 4 a i = some v → xa_G l G d M (E v) F pc' ls (xR v :: st) h) : xa_G l G d M ((xal h 4 a i).bind E) F pc ls (xI i :: xR a :: st) h := by
  intro o ho
  obtain ⟨hd, rfl⟩ := hd
  cases hv : xal h 4 a i with
  | none => rw [hv] at ho; simp at ho
  | some v =>
    rw [hv] at ho
    obtain ⟨h1, h2⟩ := kk v hv o ho
    refine ⟨h1, fun n0 z0 a' b' p e s m args below meth c H locs lc cs hf hll hvs hrel hq => ?_⟩
    have hok : xia h 4 a i = true := by
      unfold xal at hv
      split at hv
      · assumption
      · cases hv
    have hv2 : xm h a.toNat i.toNat = v := by
      unfold xal at hv
      rw [if_pos hok] at hv
      exact Option.some.inj hv
    obtain ⟨n, j, rfl, hn, hkd, rfl, hj⟩ := xia_spec hok
    simp only [Int.toNat_natCast] at hv2
    obtain ⟨c0, cs0, rfl, ⟨x, rfl, hx⟩, c1, cs1, rfl, hr, hvs'⟩ := hvs
    obtain rfl := xa_ref hr
    obtain ⟨FF, hcell, hvals⟩ := xa_arr hrel hn (by rw [hkd]; decide)
    have hK := (xa_kna (kd := 4) hf.2.2.2.2.2.1 (by decide)).1
    rw [hkd] at hcell hvals
    refine W.aald hf.1 hf.2.1 hcell (hK _ _) rfl (fun q => by cases q) (by rw [arrV_size]; exact xa_inb hx.symm hj) (v := FF j) (by rw [xa_clamp, ← hx, Int.toNat_natCast]; exact arrV_read _ _ hj) rfl rfl hd ?_
    exact h2 n0 z0 a' b' p e s m args below meth c H locs lc _ hf hll ⟨_, _, rfl, by have := hvals j hj; rw [hv2] at this; exact this, hvs'⟩ hrel hq
theorem xa_aaload_5 {a i : Int} {E : Int → Option α} (hd : decode M.1 pc = .ok (.aaload, 1) ∧ pc + 1 = pc') (kk : ∀ v, xal h 5 a i = some v → xa_G l G d M (E v) F pc' ls (xR v :: st) h) : xa_G l G d M ((xal h 5 a i).bind E) F pc ls (xI i :: xR a :: st) h := by
  intro o ho
  obtain ⟨hd, rfl⟩ := hd
  cases hv : xal h 5 a i with
  | none => rw [hv] at ho; simp at ho
  | some v =>
    rw [hv] at ho
    obtain ⟨h1, h2⟩ := kk v hv o ho
    refine ⟨h1, fun n0 z0 a' b' p e s m args below meth c H locs lc cs hf hll hvs hrel hq => ?_⟩
    have hok : xia h 5 a i = true := by
      unfold xal at hv
      split at hv
      · assumption
      · cases hv
    have hv2 : xm h a.toNat i.toNat = v := by
      unfold xal at hv
      rw [if_pos hok] at hv
      exact Option.some.inj hv
    obtain ⟨n, j, rfl, hn, hkd, rfl, hj⟩ := xia_spec hok
    simp only [Int.toNat_natCast] at hv2
    obtain ⟨c0, cs0, rfl, ⟨x, rfl, hx⟩, c1, cs1, rfl, hr, hvs'⟩ := hvs
    obtain rfl := xa_ref hr
    obtain ⟨FF, hcell, hvals⟩ := xa_arr hrel hn (by rw [hkd]; decide)
    have hK := (xa_kna (kd := 5) hf.2.2.2.2.2.1 (by decide)).1
    rw [hkd] at hcell hvals
    refine W.aald hf.1 hf.2.1 hcell (hK _ _) rfl (fun q => by cases q) (by rw [arrV_size]; exact xa_inb hx.symm hj) (v := FF j) (by rw [xa_clamp, ← hx, Int.toNat_natCast]; exact arrV_read _ _ hj) rfl rfl hd ?_
    exact h2 n0 z0 a' b' p e s m args below meth c H locs lc _ hf hll ⟨_, _, rfl, by have := hvals j hj; rw [hv2] at this; exact this, hvs'⟩ hrel hq
theorem xa_iastore {a i v : Int} {E : xa_H → Option α} (hd : decode M.1 pc = .ok (.iastore, 1) ∧ pc + 1 = pc') (kk : xia h 0 a i = true → xa_G l G d M (E (xset h a.toNat i.toNat (v))) F pc' ls st (xset h a.toNat i.toNat (v))) : xa_G l G d M ((xas h 0 a i (v)).bind E) F pc ls (xI v :: xI i :: xR a :: st) h := by
  intro o ho
  obtain ⟨hd, rfl⟩ := hd
  unfold xas at ho
  by_cases hok : xia h 0 a i = true
  · rw [if_pos hok] at ho
    obtain ⟨h1, h2⟩ := kk hok o ho
    refine ⟨h1, fun n0 z0 a' b' p e s m args below meth c H locs lc cs hf hll hvs hrel hq => ?_⟩
    obtain ⟨n, j, rfl, hn, hkd, rfl, hj⟩ := xia_spec hok
    simp only [Int.toNat_natCast] at h2
    obtain ⟨cv, csv, rfl, ⟨y, rfl, hy⟩, c0, cs0, rfl, ⟨x, rfl, hx⟩, c1, cs1, rfl, hr, hvs'⟩ := hvs
    obtain rfl := xa_ref hr
    obtain ⟨FF, hcell, hvals⟩ := xa_arr hrel hn (by rw [hkd]; decide)
    have hK := (xa_kna (kd := 0) hf.2.2.2.2.2.1 (by decide)).1
    have hcell2 := hcell
    rw [hkd] at hcell2
    refine W.iast hf.1 hf.2.1 hcell2 (hK _ _) (fun q => by cases q) (by rw [arrV_size]; exact xa_inb hx.symm hj) rfl rfl hd fun H' e1 e2 e3 => ?_
    have ej : x.toNatClampNeg = j := by rw [xa_clamp, ← hx, Int.toNat_natCast]
    rw [ej] at e1 ⊢
    exact h2 n0 z0 a' b' p e s m args below meth c H' _ lc _ hf hll hvs' (xa_arr_set hrel hn (by rw [hkd]; decide) hvals e2 e3 (by rw [hkd]; exact e1) (by rw [hkd]; exact ⟨y, rfl, hy⟩)) (xa_locs hq)
  · rw [if_neg hok] at ho
    simp at ho
theorem xa_lastore {a i v : Int} {E : xa_H → Option α} (hd : decode M.1 pc = .ok (.lastore, 1) ∧ pc + 1 = pc') (kk : xia h 1 a i = true → xa_G l G d M (E (xset h a.toNat i.toNat (v))) F pc' ls st (xset h a.toNat i.toNat (v))) : xa_G l G d M ((xas h 1 a i (v)).bind E) F pc ls (xL v :: xI i :: xR a :: st) h := by
  intro o ho
  obtain ⟨hd, rfl⟩ := hd
  unfold xas at ho
  by_cases hok : xia h 1 a i = true
  · rw [if_pos hok] at ho
    obtain ⟨h1, h2⟩ := kk hok o ho
    refine ⟨h1, fun n0 z0 a' b' p e s m args below meth c H locs lc cs hf hll hvs hrel hq => ?_⟩
    obtain ⟨n, j, rfl, hn, hkd, rfl, hj⟩ := xia_spec hok
    simp only [Int.toNat_natCast] at h2
    obtain ⟨cv, csv, rfl, ⟨y, rfl, hy⟩, c0, cs0, rfl, ⟨x, rfl, hx⟩, c1, cs1, rfl, hr, hvs'⟩ := hvs
    obtain rfl := xa_ref hr
    obtain ⟨FF, hcell, hvals⟩ := xa_arr hrel hn (by rw [hkd]; decide)
    have hK := (xa_kna (kd := 1) hf.2.2.2.2.2.1 (by decide)).1
    have hcell2 := hcell
    rw [hkd] at hcell2
    refine W.last hf.1 hf.2.1 hcell2 (hK _ _) (fun q => by cases q) (by rw [arrV_size]; exact xa_inb hx.symm hj) rfl rfl hd fun H' e1 e2 e3 => ?_
    have ej : x.toNatClampNeg = j := by rw [xa_clamp, ← hx, Int.toNat_natCast]
    rw [ej] at e1 ⊢
    exact h2 n0 z0 a' b' p e s m args below meth c H' _ lc _ hf hll hvs' (xa_arr_set hrel hn (by rw [hkd]; decide) hvals e2 e3 (by rw [hkd]; exact e1) (by rw [hkd]; exact ⟨y, rfl, hy⟩)) (xa_locs hq)
  · rw [if_neg hok] at ho
    simp at ho
theorem xa_bastore {a i v : Int} {E : xa_H → Option α} (hd : decode M.1 pc = .ok (.bastore, 1) ∧ pc + 1 = pc') (kk : xia h 2 a i = true → xa_G l G d M (E (xset h a.toNat i.toNat (xi2b v))) F pc' ls st (xset h a.toNat i.toNat (xi2b v))) : xa_G l G d M ((xas h 2 a i (xi2b v)).bind E) F pc ls (xI v :: xI i :: xR a :: st) h := by
  intro o ho
  obtain ⟨hd, rfl⟩ := hd
  unfold xas at ho
  by_cases hok : xia h 2 a i = true
  · rw [if_pos hok] at ho
    obtain ⟨h1, h2⟩ := kk hok o ho
    refine ⟨h1, fun n0 z0 a' b' p e s m args below meth c H locs lc cs hf hll hvs hrel hq => ?_⟩
    obtain ⟨n, j, rfl, hn, hkd, rfl, hj⟩ := xia_spec hok
    simp only [Int.toNat_natCast] at h2
    obtain ⟨cv, csv, rfl, ⟨y, rfl, hy⟩, c0, cs0, rfl, ⟨x, rfl, hx⟩, c1, cs1, rfl, hr, hvs'⟩ := hvs
    obtain rfl := xa_ref hr
    obtain ⟨FF, hcell, hvals⟩ := xa_arr hrel hn (by rw [hkd]; decide)
    have hK := (xa_kna (kd := 2) hf.2.2.2.2.2.1 (by decide)).1
    have hcell2 := hcell
    rw [hkd] at hcell2
    refine W.bast hf.1 hf.2.1 hcell2 (hK _ _) (fun q => by cases q) (by rw [arrV_size]; exact xa_inb hx.symm hj) rfl rfl hd fun H' e1 e2 e3 => ?_
    have ej : x.toNatClampNeg = j := by rw [xa_clamp, ← hx, Int.toNat_natCast]
    rw [ej] at e1 ⊢
    exact h2 n0 z0 a' b' p e s m args below meth c H' _ lc _ hf hll hvs' (xa_arr_set hrel hn (by rw [hkd]; decide) hvals e2 e3 (by rw [hkd]; exact e1) (by rw [hkd]; exact ⟨_, rfl, by rw [hy]; simp [xi2b]⟩)) (xa_locs hq)
  · rw [if_neg hok] at ho
    simp at ho
theorem xa_castore {a i v : Int} {E : xa_H → Option α} (hz : 0 ≤ v ∧ v < 65536) (hd : decode M.1 pc = .ok (.castore, 1) ∧ pc + 1 = pc') (kk : xia h 3 a i = true → xa_G l G d M (E (xset h a.toNat i.toNat (v))) F pc' ls st (xset h a.toNat i.toNat (v))) : xa_G l G d M ((xas h 3 a i (v)).bind E) F pc ls (xI v :: xI i :: xR a :: st) h := by
  intro o ho
  obtain ⟨hd, rfl⟩ := hd
  unfold xas at ho
  by_cases hok : xia h 3 a i = true
  · rw [if_pos hok] at ho
    obtain ⟨h1, h2⟩ := kk hok o ho
    refine ⟨h1, fun n0 z0 a' b' p e s m args below meth c H locs lc cs hf hll hvs hrel hq => ?_⟩
    obtain ⟨n, j, rfl, hn, hkd, rfl, hj⟩ := xia_spec hok
    simp only [Int.toNat_natCast] at h2
    obtain ⟨cv, csv, rfl, ⟨y, rfl, hy⟩, c0, cs0, rfl, ⟨x, rfl, hx⟩, c1, cs1, rfl, hr, hvs'⟩ := hvs
    obtain rfl := xa_ref hr
    obtain ⟨FF, hcell, hvals⟩ := xa_arr hrel hn (by rw [hkd]; decide)
    have hK := (xa_kna (kd := 3) hf.2.2.2.2.2.1 (by decide)).1
    have hcell2 := hcell
    rw [hkd] at hcell2
    refine W.cast hf.1 hf.2.1 hcell2 (hK _ _) (fun q => by cases q) (by rw [arrV_size]; exact xa_inb hx.symm hj) rfl rfl hd fun H' e1 e2 e3 => ?_
    have ej : x.toNatClampNeg = j := by rw [xa_clamp, ← hx, Int.toNat_natCast]
    rw [ej] at e1 ⊢
    exact h2 n0 z0 a' b' p e s m args below meth c H' _ lc _ hf hll hvs' (xa_arr_set hrel hn (by rw [hkd]; decide) hvals e2 e3 (by rw [hkd]; exact e1) (by rw [hkd]; (obtain ⟨z1, z2⟩ := hz; have hy2 : y = nI v.toNat := (xa_ieq _ _).mpr (by rw [← hy, nI_toInt (by omega)]; omega); rw [hy2, (pk_charN (show v.toNat < 65536 by omega)).1]; exact ⟨_, rfl, by rw [nI_toInt (by omega)]; omega⟩))) (xa_locs hq)
  · rw [if_neg hok] at ho
    simp at ho
theorem xa_aastoreN_4 {a i : Int} {E : xa_H → Option α} (hd : decode M.1 pc = .ok (.aastore, 1) ∧ pc + 1 = pc') (kk : xia h 4 a i = true → xa_G l G d M (E (xset h a.toNat i.toNat (-1))) F pc' ls st (xset h a.toNat i.toNat (-1))) : xa_G l G d M ((xas h 4 a i (-1)).bind E) F pc ls (xR (-1) :: xI i :: xR a :: st) h := by
  intro o ho
  obtain ⟨hd, rfl⟩ := hd
  unfold xas at ho
  by_cases hok : xia h 4 a i = true
  · rw [if_pos hok] at ho
    obtain ⟨h1, h2⟩ := kk hok o ho
    refine ⟨h1, fun n0 z0 a' b' p e s m args below meth c H locs lc cs hf hll hvs hrel hq => ?_⟩
    obtain ⟨n, j, rfl, hn, hkd, rfl, hj⟩ := xia_spec hok
    simp only [Int.toNat_natCast] at h2
    obtain ⟨cv, csv, rfl, hr0, c0, cs0, rfl, ⟨x, rfl, hx⟩, c1, cs1, rfl, hr, hvs'⟩ := hvs
    obtain rfl := xa_ref hr
    have hr0 : xa_r G (-1) cv := hr0
    rcases xa_rnull (by decide) hr0 with ⟨-, rfl⟩ | ⟨q, -⟩
    rotate_left
    · exact absurd rfl q
    obtain ⟨FF, hcell, hvals⟩ := xa_arr hrel hn (by rw [hkd]; decide)
    have hK := (xa_kna (kd := 4) hf.2.2.2.2.2.1 (by decide)).1
    have hcell2 := hcell
    rw [hkd] at hcell2
    refine va_WaastN hf.1 hf.2.1 hcell2 (hK _ _) (fun q => by cases q) (by rw [arrV_size]; exact xa_inb hx.symm hj) rfl rfl hd fun H' e1 e2 e3 => ?_
    have ej : x.toNatClampNeg = j := by rw [xa_clamp, ← hx, Int.toNat_natCast]
    rw [ej] at e1 ⊢
    exact h2 n0 z0 a' b' p e s m args below meth c H' _ lc _ hf hll hvs' (xa_arr_set hrel hn (by rw [hkd]; decide) hvals e2 e3 (by rw [hkd]; exact e1) (by rw [hkd]; exact hr0)) (xa_locs hq)
  · rw [if_neg hok] at ho
    simp at ho
theorem xa_aastore_4 {a i v : Int} {E : xa_H → Option α} (hd : decode M.1 pc = .ok (.aastore, 1) ∧ pc + 1 = pc') (kk : xia h 4 a i = true → xok h 9 v = true → xa_G l G d M (E (xset h a.toNat i.toNat v)) F pc' ls st (xset h a.toNat i.toNat v)) : xa_G l G d M (xrc h 9 v ((xas h 4 a i v).bind E)) F pc ls (xR v :: xI i :: xR a :: st) h := by
  intro o ho
  obtain ⟨hd, rfl⟩ := hd
  unfold xrc at ho
  by_cases hov : xok h 9 v = true
  rotate_left
  · rw [if_neg hov] at ho
    simp at ho
  rw [if_pos hov] at ho
  unfold xas at ho
  by_cases hok : xia h 4 a i = true
  · rw [if_pos hok] at ho
    obtain ⟨h1, h2⟩ := kk hok hov o ho
    refine ⟨h1, fun n0 z0 a' b' p e s m args below meth c H locs lc cs hf hll hvs hrel hq => ?_⟩
    obtain ⟨n, j, rfl, hn, hkd, rfl, hj⟩ := xia_spec hok
    obtain ⟨nv, rfl, hnv, hkv⟩ := xok_spec hov
    simp only [Int.toNat_natCast] at h2
    obtain ⟨cv, csv, rfl, hr0, c0, cs0, rfl, ⟨x, rfl, hx⟩, c1, cs1, rfl, hr, hvs'⟩ := hvs
    obtain rfl := xa_ref hr
    have hr0' : xa_r G (nv : Int) cv := hr0
    obtain rfl := xa_ref hr0'
    obtain ⟨FF, hcell, hvals⟩ := xa_arr hrel hn (by rw [hkd]; decide)
    have hK := xa_kna (kd := 4) hf.2.2.2.2.2.1 (by decide)
    have hcell2 := hcell
    rw [hkd] at hcell2
    obtain ⟨-, FV, ⟨cellV, g1, g2, g3, -⟩, -⟩ := xa_obj (ci := 9) (C := RX9) (T := TX9) (N := 7) rfl hrel hnv hkv
    have hcls := (hf.2.2.2.2.2.1.1.1 9 _ rfl).2
    obtain ⟨kA, comp, k1, k2, k3, -⟩ := hK.2
    have hcomp : comp = gC G 9 := Option.some.inj (k3.symm.trans hcls.1)
    subst hcomp
    obtain ⟨kC, hkC, -⟩ := hcls.2
    have ej : x.toNatClampNeg = j := by rw [xa_clamp, ← hx, Int.toNat_natCast]
    refine W.aast hf.1 hf.2.1 hcell2 (fun q h => by cases h) (fun h => by cases h) k1 k2 rfl hkC ⟨fun q => xa_inb hx.symm hj (Or.inl q), by rw [arrV_size, ej]; exact hj⟩ g1 (fun q h => by rw [g3] at h; cases h) (by rw [g2]; exact hkC) (by rw [g2]; exact va_assign hcls) rfl rfl hd fun H' e1 e2 e3 => ?_
    rw [ej] at e1 ⊢
    exact h2 n0 z0 a' b' p e s m args below meth c H' _ lc _ hf hll hvs' (xa_arr_set hrel hn (by rw [hkd]; decide) hvals e2 e3 (by rw [hkd]; exact e1) (by rw [hkd]; exact hr0)) (xa_locs hq)
  · rw [if_neg hok] at ho
    simp at ho
theorem xa_aastoreN_5 {a i : Int} {E : xa_H → Option α} (hd : decode M.1 pc = .ok (.aastore, 1) ∧ pc + 1 = pc') (kk : xia h 5 a i = true → xa_G l G d M (E (xset h a.toNat i.toNat (-1))) F pc' ls st (xset h a.toNat i.toNat (-1))) : xa_G l G d M ((xas h 5 a i (-1)).bind E) F pc ls (xR (-1) :: xI i :: xR a :: st) h := by
  intro o ho
  obtain ⟨hd, rfl⟩ := hd
  unfold xas at ho
  by_cases hok : xia h 5 a i = true
  · rw [if_pos hok] at ho
    obtain ⟨h1, h2⟩ := kk hok o ho
    refine ⟨h1, fun n0 z0 a' b' p e s m args below meth c H locs lc cs hf hll hvs hrel hq => ?_⟩
    obtain ⟨n, j, rfl, hn, hkd, rfl, hj⟩ := xia_spec hok
    simp only [Int.toNat_natCast] at h2
    obtain ⟨cv, csv, rfl, hr0, c0, cs0, rfl, ⟨x, rfl, hx⟩, c1, cs1, rfl, hr, hvs'⟩ := hvs
    obtain rfl := xa_ref hr
    have hr0 : xa_r G (-1) cv := hr0
    rcases xa_rnull (by decide) hr0 with ⟨-, rfl⟩ | ⟨q, -⟩
    rotate_left
    · exact absurd rfl q
    obtain ⟨FF, hcell, hvals⟩ := xa_arr hrel hn (by rw [hkd]; decide)
    have hK := (xa_kna (kd := 5) hf.2.2.2.2.2.1 (by decide)).1
    have hcell2 := hcell
    rw [hkd] at hcell2
    refine va_WaastN hf.1 hf.2.1 hcell2 (hK _ _) (fun q => by cases q) (by rw [arrV_size]; exact xa_inb hx.symm hj) rfl rfl hd fun H' e1 e2 e3 => ?_
    have ej : x.toNatClampNeg = j := by rw [xa_clamp, ← hx, Int.toNat_natCast]
    rw [ej] at e1 ⊢
    exact h2 n0 z0 a' b' p e s m args below meth c H' _ lc _ hf hll hvs' (xa_arr_set hrel hn (by rw [hkd]; decide) hvals e2 e3 (by rw [hkd]; exact e1) (by rw [hkd]; exact hr0)) (xa_locs hq)
  · rw [if_neg hok] at ho
    simp at ho
theorem xa_aastore_5 {a i v : Int} {E : xa_H → Option α} (hd : decode M.1 pc = .ok (.aastore, 1) ∧ pc + 1 = pc') (kk : xia h 5 a i = true → xok h 8 v = true → xa_G l G d M (E (xset h a.toNat i.toNat v)) F pc' ls st (xset h a.toNat i.toNat v)) : xa_G l G d M (xrc h 8 v ((xas h 5 a i v).bind E)) F pc ls (xR v :: xI i :: xR a :: st) h := by
  intro o ho
  obtain ⟨hd, rfl⟩ := hd
  unfold xrc at ho
  by_cases hov : xok h 8 v = true
  rotate_left
  · rw [if_neg hov] at ho
    simp at ho
  rw [if_pos hov] at ho
  unfold xas at ho
  by_cases hok : xia h 5 a i = true
  · rw [if_pos hok] at ho
    obtain ⟨h1, h2⟩ := kk hok hov o ho
    refine ⟨h1, fun n0 z0 a' b' p e s m args below meth c H locs lc cs hf hll hvs hrel hq => ?_⟩
    obtain ⟨n, j, rfl, hn, hkd, rfl, hj⟩ := xia_spec hok
    obtain ⟨nv, rfl, hnv, hkv⟩ := xok_spec hov
    simp only [Int.toNat_natCast] at h2
    obtain ⟨cv, csv, rfl, hr0, c0, cs0, rfl, ⟨x, rfl, hx⟩, c1, cs1, rfl, hr, hvs'⟩ := hvs
    obtain rfl := xa_ref hr
    have hr0' : xa_r G (nv : Int) cv := hr0
    obtain rfl := xa_ref hr0'
    obtain ⟨FF, hcell, hvals⟩ := xa_arr hrel hn (by rw [hkd]; decide)
    have hK := xa_kna (kd := 5) hf.2.2.2.2.2.1 (by decide)
    have hcell2 := hcell
    rw [hkd] at hcell2
    obtain ⟨-, FV, ⟨cellV, g1, g2, g3, -⟩, -⟩ := xa_obj (ci := 8) (C := RX8) (T := TX8) (N := 8) rfl hrel hnv hkv
    have hcls := (hf.2.2.2.2.2.1.1.1 8 _ rfl).2
    obtain ⟨kA, comp, k1, k2, k3, -⟩ := hK.2
    have hcomp : comp = gC G 8 := Option.some.inj (k3.symm.trans hcls.1)
    subst hcomp
    obtain ⟨kC, hkC, -⟩ := hcls.2
    have ej : x.toNatClampNeg = j := by rw [xa_clamp, ← hx, Int.toNat_natCast]
    refine W.aast hf.1 hf.2.1 hcell2 (fun q h => by cases h) (fun h => by cases h) k1 k2 rfl hkC ⟨fun q => xa_inb hx.symm hj (Or.inl q), by rw [arrV_size, ej]; exact hj⟩ g1 (fun q h => by rw [g3] at h; cases h) (by rw [g2]; exact hkC) (by rw [g2]; exact va_assign hcls) rfl rfl hd fun H' e1 e2 e3 => ?_
    rw [ej] at e1 ⊢
    exact h2 n0 z0 a' b' p e s m args below meth c H' _ lc _ hf hll hvs' (xa_arr_set hrel hn (by rw [hkd]; decide) hvals e2 e3 (by rw [hkd]; exact e1) (by rw [hkd]; exact hr0)) (xa_locs hq)
  · rw [if_neg hok] at ho
    simp at ho
theorem xa_alen {a : Int} {E : Int → Option α} (hd : decode M.1 pc = .ok (.arraylength, 1) ∧ pc + 1 = pc') (kk : ∀ v, xln h a = some v → xa_G l G d M (E v) F pc' ls (xI v :: st) h) : xa_G l G d M ((xln h a).bind E) F pc ls (xR a :: st) h := by
  intro o ho
  obtain ⟨hd, rfl⟩ := hd
  cases hv : xln h a with
  | none => rw [hv] at ho; simp at ho
  | some v =>
    rw [hv] at ho
    obtain ⟨h1, h2⟩ := kk v hv o ho
    refine ⟨h1, fun n0 z0 a' b' p e s m args below meth c H locs lc cs hf hll hvs hrel hq => ?_⟩
    unfold xln at hv
    split at hv
    rotate_left
    · cases hv
    rename_i hok
    simp only [Bool.and_eq_true, decide_eq_true_eq] at hok
    obtain ⟨n, rfl⟩ : ∃ n : Nat, a = (n : Int) := ⟨a.toNat, by omega⟩
    simp only [Int.toNat_natCast] at hok hv
    obtain ⟨c1, cs1, rfl, hr, hvs'⟩ := hvs
    obtain rfl := xa_ref hr
    obtain ⟨FF, hcell, hvals⟩ := xa_arr hrel hok.1.1.2 hok.1.2
    have hK := (xa_kna hf.2.2.2.2.2.1 hok.1.2).1
    refine W.alen (n := nI (xk h n).2) hf.1 hf.2.1 hcell (hK _ _) (by rw [arrV_size]; rfl) rfl rfl hd ?_
    exact h2 n0 z0 a' b' p e s m args below meth c H locs lc _ hf hll ⟨_, _, rfl, ⟨_, rfl, by rw [nI_toInt hok.2]; exact (Option.some.inj hv).symm⟩, hvs'⟩ hrel hq
theorem xa_rel_new {H H' : Heap} {kd n : Nat} {dv : Nat → Int} (hrel : xa_rel G h H) (e1 : H'.size = H.size + 1) (e2 : ∀ q, q < H.size → H'[q]? = H[q]?) (hc : xa_c G (xnew h kd n dv) H' (xn h)) : xa_rel G (xnew h kd n dv) H' := by
  refine ⟨by rw [e1, hrel.1]; rfl, fun a ha => ?_, fun q hq => (e2 q (by rw [hrel.1]; omega)).trans (hrel.2.2 q hq)⟩
  have ha : a < xn h + 1 := ha
  by_cases e : a = xn h
  · subst e; exact hc
  · have hlt : a < xn h := by omega
    have e' : ¬ a = h.1 := e
    exact xa_c_kept (hrel.2.1 a hlt) (e2 _ (by rw [hrel.1]; omega)) (by simp [xk, xnew, e']) (fun k => by simp [xm, xnew, e'])
theorem xa_vdef (t : FieldType) (ht : xtag t = 2 ∨ t = .int ∨ t = .long ∨ t = .boolean ∨ t = .byte ∨ t = .char) : xa_v G (xvt (xtag t) (if xtag t = 2 then -1 else 0)) (defaultValue t) := by
  rcases ht with ht | rfl | rfl | rfl | rfl | rfl
  · rw [ht, if_pos rfl]
    have : defaultValue t = .null := by
      cases t <;> first | rfl | (simp [xtag] at ht)
    rw [this]
    exact Or.inl ⟨rfl, rfl⟩
  all_goals exact ⟨0, rfl, rfl⟩
theorem xa_new {E : xa_H → Option α} {ci idx N : Nat} {C : String} {T : u_T} (xc : xa_cls ci C T N) (hty : ∀ k, k < N → xtag (xtyf ci k) = 2 ∨ xtyf ci k = .int ∨ xtyf ci k = .long ∨ xtyf ci k = .boolean ∨ xtyf ci k = .byte ∨ xtyf ci k = .char) (hl : Cond.classLink M.2.2.2.1 idx C ∈ xa_W) (hi : Cond.instantiable C N ∈ xa_W) (hz : Cond.initialized C ∈ xa_W) (hd : decode M.1 pc = .ok (.new idx, 3) ∧ pc + 3 = pc')
    (kk : xa_G l G d M (E (xno h ci N)) F pc' ls (xR (xn h : Int) :: st) (xno h ci N)) : xa_G l G d M (E (xno h ci N)) F pc ls st h := by
  intro o ho
  obtain ⟨hd, rfl⟩ := hd
  obtain ⟨h1, h2⟩ := kk o ho
  have hh1 : xn h + 1 ≤ xn o.2 := h1.1
  have hh2 : xz h + N ≤ xz o.2 := h1.2
  refine ⟨⟨by omega, by omega⟩, fun n0 z0 a' b' p e s m args below meth c H locs lc cs hf hll hvs hrel hq => ?_⟩
  have hKn := hf.2.2.2.2.2.1.1.1 ci _ xc.1
  refine W.newcK hf.1 hf.2.1 hf.2.2.2.1 (hf.2.2.2.2.1 _ hl) (hf.2.2.2.2.1 _ hi) (hf.2.2.2.2.1 _ hz) rfl hd (show xn h - n0 + 1 ≤ xn o.2 - n0 by omega) (show xz h - z0 + N ≤ xz o.2 - z0 by omega) hKn.2.1 rfl fun H1 kC hkC e1 z1 o1 => ?_
  refine W.cs (cells' := xn (xno h ci N) - n0) (slots' := xz (xno h ci N) - z0) (show xn h - n0 + 1 = (xn h + 1) - n0 by omega) (show xz h - z0 + N = (xz h + N) - z0 by omega) ?_
  refine h2 n0 z0 (show n0 ≤ xn h + 1 by omega) (show z0 ≤ xz h + N by omega) p e s m args below meth c H1 locs lc _ hf hll ⟨_, _, rfl, Or.inr (Or.inl ⟨xn h, rfl, by rw [hrel.1]⟩), hvs⟩ ?_ hq
  refine xa_rel_new hrel z1 o1 (Or.inr ⟨ci, C, T, by simp [xk, xno, xnew, xn], by simp [xk, xno, xnew, xn]; exact xc.1, fun k => defaultValue (xtyf ci k), ?_, ?_⟩)
  · have hob := u_born (xtyf ci) hf.2.2.2.2.1 xc.2.1 hKn hkC (o := H.size) e1 xc.2.2.1
    rw [hrel.1] at hob
    simpa [xk, xno, xnew, xn] using hob
  · intro k hk
    have hk : k < N := by simpa [xk, xno, xnew, xn] using hk
    have : xm (xnew h (10 + ci) N (xd0 ci)) (xn h) k = xd0 ci k := by simp [xm, xnew, xn]
    rw [this]
    exact xa_vdef _ (hty k hk)
theorem xa_newarr {E : xa_H → Option α} {v : Int} (kd : Nat) (atype : ArrayType) (hk : kd < 4) (hat : newarray.typeOf atype = xaty kd) (hl : Cond.arrayClass (xaty kd) ∈ xa_W) (hd : decode M.1 pc = .ok (.newarray atype, 2) ∧ pc + 2 = pc')
    (kk : ∀ h', xna h kd v = some h' → xa_G l G d M (E h') F pc' ls (xR (xn h : Int) :: st) h') : xa_G l G d M ((xna h kd v).bind E) F pc ls (xI v :: st) h := by
  intro o ho
  obtain ⟨hd, rfl⟩ := hd
  unfold xna at ho
  split at ho
  rotate_left
  · simp at ho
  rename_i hv
  obtain ⟨h1, h2⟩ := kk _ (by unfold xna; rw [if_pos hv]) o ho
  have hh1 : xn h + 1 ≤ xn o.2 := h1.1
  have hh2 : xz h + v.toNat ≤ xz o.2 := h1.2
  refine ⟨⟨by omega, by omega⟩, fun n0 z0 a' b' p e s m args below meth c H locs lc cs hf hll hvs hrel hq => ?_⟩
  obtain ⟨c0, cs0, rfl, ⟨x, rfl, hx⟩, hvs'⟩ := hvs
  have hcl : x.toNatClampNeg = v.toNat := by rw [xa_clamp, hx]
  have hKa := xa_kna hf.2.2.2.2.2.1 (show kd < 6 by omega)
  have hby : componentBytes (newarray.typeOf atype) ≤ 8 := by cases atype <;> decide
  refine va_newaK hf.1 hf.2.1 (by rw [hat]; exact hf.2.2.2.2.1 _ hl) rfl hd rfl (fun q => by have := (xa_ilt x 0).mp q; have e0 : (0 : Int32).toInt = 0 := rfl; omega) hcl (Nat.le_trans (Nat.mul_le_mul (show v.toNat ≤ 1000000 by omega) hby) (by decide)) (show xn h - n0 + 1 ≤ xn o.2 - n0 by omega) (show xz h - z0 + v.toNat ≤ xz o.2 - z0 by omega) rfl fun H1 cA e1 z1 o1 hAr hNm => ?_
  refine W.cs (cells' := (xn h + 1) - n0) (slots' := (xz h + v.toNat) - z0) (by omega) (by omega) ?_
  refine h2 n0 z0 (show n0 ≤ xn h + 1 by omega) (show z0 ≤ xz h + v.toNat by omega) p e s m args below meth c H1 locs lc _ hf hll ⟨_, _, rfl, Or.inr (Or.inl ⟨xn h, rfl, by rw [hrel.1]⟩), hvs'⟩ ?_ hq
  have hcA : cA = gAq G kd := by
    rw [hat] at hNm
    have h3 := hKa.2
    rcases (show kd = 0 ∨ kd = 1 ∨ kd = 2 ∨ kd = 3 by omega) with rfl | rfl | rfl | rfl <;> exact Option.some.inj (hNm.symm.trans h3)
  subst hcA
  rw [hat, hrel.1] at e1
  refine xa_rel_new hrel z1 o1 (Or.inl ⟨by simp [xk, xnew, xn]; omega, fun _ => defaultValue (xaty kd), by simpa [xk, xnew, xn] using e1, ?_⟩)
  intro k hk'
  have : xm (xnew h kd v.toNat (fun _ => xda kd)) (xn h) k = xda kd := by simp [xm, xnew, xn]
  rw [this]
  have e5 : (xk (xnew h kd v.toNat (fun _ => xda kd)) (xn h)).1 = kd := by simp [xk, xnew, xn]
  rw [e5]
  rcases (show kd = 0 ∨ kd = 1 ∨ kd = 2 ∨ kd = 3 by omega) with rfl | rfl | rfl | rfl <;> exact ⟨0, rfl, rfl⟩
theorem xa_anew {E : xa_H → Option α} {v : Int} {idx : Nat} (kd : Nat) {C : String} (hk : kd = 4 ∨ kd = 5) (hat : xaty kd = .object C) (hl : Cond.classLink M.2.2.2.1 idx C ∈ xa_W) (hd : decode M.1 pc = .ok (.anewarray idx, 3) ∧ pc + 3 = pc')
    (kk : ∀ h', xna h kd v = some h' → xa_G l G d M (E h') F pc' ls (xR (xn h : Int) :: st) h') : xa_G l G d M ((xna h kd v).bind E) F pc ls (xI v :: st) h := by
  intro o ho
  obtain ⟨hd, rfl⟩ := hd
  unfold xna at ho
  split at ho
  rotate_left
  · simp at ho
  rename_i hv
  obtain ⟨h1, h2⟩ := kk _ (by unfold xna; rw [if_pos hv]) o ho
  have hh1 : xn h + 1 ≤ xn o.2 := h1.1
  have hh2 : xz h + v.toNat ≤ xz o.2 := h1.2
  refine ⟨⟨by omega, by omega⟩, fun n0 z0 a' b' p e s m args below meth c H locs lc cs hf hll hvs hrel hq => ?_⟩
  obtain ⟨c0, cs0, rfl, ⟨x, rfl, hx⟩, hvs'⟩ := hvs
  have hcl : x.toNatClampNeg = v.toNat := by rw [xa_clamp, hx]
  have hKa := xa_kna hf.2.2.2.2.2.1 (show kd < 6 by omega)
  have hover : va_AO C s := by
    rcases hk with rfl | rfl
    · have : C = "WrongCook$State" := by cases hat; rfl
      rw [this]; exact hf.2.2.2.2.2.1.2.2.1
    · have : C = "WrongCook$Sorter" := by cases hat; rfl
      rw [this]; exact hf.2.2.2.2.2.1.2.2.2.1
  refine W.anew hf.1 hf.2.1 hf.2.2.2.1 (hf.2.2.2.2.1 _ hl) (va_AO.use hover) rfl hd rfl (fun q => by have := (xa_ilt x 0).mp q; have e0 : (0 : Int32).toInt = 0 := rfl; omega) (by rw [hcl]; omega) (show xn h - n0 + 1 ≤ xn o.2 - n0 by omega) (by rw [hcl]; show xz h - z0 + v.toNat ≤ xz o.2 - z0; omega) fun cA kA comp f1 f2 f3 f4 => ?_
  rw [hcl]
  refine W.cs (cells' := (xn h + 1) - n0) (slots' := (xz h + v.toNat) - z0) (by omega) (by omega) ?_
  refine h2 n0 z0 (show n0 ≤ xn h + 1 by omega) (show z0 ≤ xz h + v.toNat by omega) p e s m args below meth c _ locs lc _ hf hll ⟨_, _, rfl, Or.inr (Or.inl ⟨xn h, rfl, by rw [hrel.1]⟩), hvs'⟩ ?_ hq
  have hcA : cA = gAq G kd := by
    obtain ⟨h3a, h3⟩ := hKa
    rw [hat] at h3
    obtain ⟨kA', comp', _, _, _, h4⟩ := h3
    exact Option.some.inj (f1.symm.trans h4)
  subst hcA
  refine xa_rel_new hrel (by rw [Array.size_push]) (fun q hq => by rw [Array.getElem?_push, if_neg (Nat.ne_of_lt hq)]) (Or.inl ⟨by simp [xk, xnew, xn]; omega, fun _ => .null, ?_, ?_⟩)
  · have e1 : (H.push ({ cls := gAq G kd, slots := Array.replicate v.toNat .null, vm := .none } : Cell))[H.size]? = some (arrV (gAq G kd) v.toNat (fun _ => .null)) := by rw [Array.getElem?_push_size, ← arrV_new]
    rw [hrel.1] at e1
    simpa [xk, xnew, xn] using e1
  · intro k hk'
    have : xm (xnew h kd v.toNat (fun _ => xda kd)) (xn h) k = xda kd := by simp [xm, xnew, xn]
    rw [this]
    have e5 : (xk (xnew h kd v.toNat (fun _ => xda kd)) (xn h)).1 = kd := by simp [xk, xnew, xn]
    rw [e5]
    rcases hk with rfl | rfl <;> exact Or.inl ⟨rfl, rfl⟩
end XR4
