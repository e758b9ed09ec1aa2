/-! ===== what codes come to ===== -/
def clp (v : Int) : Int := if 1000000 < v then 1000000 else if v < -1000000 then -1000000 else v
def vbin (r a b : Int) : Int := if r = 1 then clp (a + b) else if r = 2 then clp (a - b) else if r = 3 then clp (a * b) else if r = 4 then (if b = 0 then 0 else Int.fdiv a b) else if r = 5 then min a b else if r = 6 then max a b else if r = 7 then (if a < b then 1 else 0) else if r = 8 then (if b < a then 1 else 0) else if r = 9 then (if a = b then 1 else 0) else if r = 10 then a * b else (if 0 < a + b then 1 else 0)
def vone (fa : Nat → Int) (r a : Int) : Int := if r = 60 then (if 0 ≤ a ∧ a < 6 then fa (8 + a.toNat) else 0) else 1 - a
def vput (fa : Nat → Int) (r : Int) : Int := if 1000 ≤ r then r - 1000 else if 40 ≤ r then fa (r - 40).toNat else 1
/-- the new top, over what stays -/
def vtop (fa : Nat → Int) (r : Int) (vs : List Int) : Int × List Int :=
  if r = 60 ∨ r = 12 then (match vs with | a :: t => (vone fa r a, t) | [] => (0, []))
  else if 13 ≤ r then (vput fa r, vs)
  else (match vs with | b :: a :: t => (vbin r a b, t) | _ => (0, []))
def vstep (fa : Nat → Int) (r : Int) (vs : List Int) : List Int := (vtop fa r vs).1 :: (vtop fa r vs).2
def vrun (fa : Nat → Int) (c : Nat → Int) : Nat → List Int
  | 0 => []
  | n + 1 => vstep fa (c n) (vrun fa c n)
def okv1 (t : Bool) (v : Int) : Prop := if t = true then v = 0 ∨ v = 1 else -1000000 ≤ v ∧ v ≤ 1000000
def okv : List Bool → List Int → Prop
  | [], [] => True
  | t :: st, v :: vs => okv1 t v ∧ okv st vs
  | _, _ => False
theorem okv_len : ∀ (st : List Bool) (vs : List Int), okv st vs → vs.length = st.length
  | [], [], _ => rfl
  | t :: st, v :: vs, h => by
    have := okv_len st vs h.2
    simp [this]
  | [], _ :: _, h => h.elim
  | _ :: _, [], h => h.elim
theorem clp_ok (v : Int) : -1000000 ≤ clp v ∧ clp v ≤ 1000000 := by
  unfold clp
  split
  · omega
  · split <;> omega
theorem fdiv_ok {a b : Int} (h1 : -1000000 ≤ a) (h2 : a ≤ 1000000) (hb : b ≠ 0) : -1000000 ≤ Int.fdiv a b ∧ Int.fdiv a b ≤ 1000000 := by
  have pos : ∀ a b : Int, -1000000 ≤ a → a ≤ 1000000 → 0 < b → -1000000 ≤ Int.fdiv a b ∧ Int.fdiv a b ≤ 1000000 := by
    intro a b h1 h2 hb
    rw [Int.fdiv_eq_ediv_of_nonneg a (by omega)]
    have e1 := Int.le_ediv_of_mul_le hb (a := -1000000) (b := a) (by omega)
    have e2 := Int.ediv_lt_of_lt_mul hb (a := a) (b := 1000001) (by omega)
    omega
  by_cases z : 0 < b
  · exact pos a b h1 h2 z
  · have := pos (-a) (-b) (by omega) (by omega) (by omega)
    rw [Int.neg_fdiv_neg] at this
    exact this
theorem vb1 (a b : Int) : vbin 1 a b = clp (a + b) := by unfold vbin; rw [if_pos rfl]
theorem vb2 (a b : Int) : vbin 2 a b = clp (a - b) := by unfold vbin; rw [if_neg (by decide), if_pos rfl]
theorem vb3 (a b : Int) : vbin 3 a b = clp (a * b) := by unfold vbin; rw [if_neg (by decide), if_neg (by decide), if_pos rfl]
theorem vb4 (a b : Int) : vbin 4 a b = (if b = 0 then 0 else Int.fdiv a b) := by unfold vbin; rw [if_neg (by decide), if_neg (by decide), if_neg (by decide), if_pos rfl]
theorem vb5 (a b : Int) : vbin 5 a b = min a b := by unfold vbin; rw [if_neg (by decide), if_neg (by decide), if_neg (by decide), if_neg (by decide), if_pos rfl]
theorem vb6 (a b : Int) : vbin 6 a b = max a b := by unfold vbin; rw [if_neg (by decide), if_neg (by decide), if_neg (by decide), if_neg (by decide), if_neg (by decide), if_pos rfl]
theorem vb7 (a b : Int) : vbin 7 a b = (if a < b then 1 else 0) := by unfold vbin; rw [if_neg (by decide), if_neg (by decide), if_neg (by decide), if_neg (by decide), if_neg (by decide), if_neg (by decide), if_pos rfl]
theorem vb8 (a b : Int) : vbin 8 a b = (if b < a then 1 else 0) := by unfold vbin; rw [if_neg (by decide), if_neg (by decide), if_neg (by decide), if_neg (by decide), if_neg (by decide), if_neg (by decide), if_neg (by decide), if_pos rfl]
theorem vb9 (a b : Int) : vbin 9 a b = (if a = b then 1 else 0) := by unfold vbin; rw [if_neg (by decide), if_neg (by decide), if_neg (by decide), if_neg (by decide), if_neg (by decide), if_neg (by decide), if_neg (by decide), if_neg (by decide), if_pos rfl]
theorem vb10 (a b : Int) : vbin 10 a b = a * b := by unfold vbin; rw [if_neg (by decide), if_neg (by decide), if_neg (by decide), if_neg (by decide), if_neg (by decide), if_neg (by decide), if_neg (by decide), if_neg (by decide), if_neg (by decide), if_pos rfl]
theorem vb11 (a b : Int) : vbin 11 a b = (if 0 < a + b then 1 else 0) := by unfold vbin; rw [if_neg (by decide), if_neg (by decide), if_neg (by decide), if_neg (by decide), if_neg (by decide), if_neg (by decide), if_neg (by decide), if_neg (by decide), if_neg (by decide), if_neg (by decide)]
theorem vbin_num {r a b : Int} (h : 1 ≤ r ∧ r ≤ 6) (ha : -1000000 ≤ a ∧ a ≤ 1000000) (hb : -1000000 ≤ b ∧ b ≤ 1000000) : -1000000 ≤ vbin r a b ∧ vbin r a b ≤ 1000000 := by
  have c := clp_ok
  have : r = 1 ∨ r = 2 ∨ r = 3 ∨ r = 4 ∨ r = 5 ∨ r = 6 := by omega
  rcases this with rfl | rfl | rfl | rfl | rfl | rfl
  · rw [vb1]; exact c _
  · rw [vb2]; exact c _
  · rw [vb3]; exact c _
  · rw [vb4]
    by_cases z : b = 0
    · rw [if_pos z]; omega
    · rw [if_neg z]; exact fdiv_ok ha.1 ha.2 z
  · rw [vb5]; omega
  · rw [vb6]; omega
theorem vbin_cmp {r a b : Int} (h : 7 ≤ r ∧ r ≤ 9) : vbin r a b = 0 ∨ vbin r a b = 1 := by
  have : r = 7 ∨ r = 8 ∨ r = 9 := by omega
  rcases this with rfl | rfl | rfl
  · show (if a < b then (1 : Int) else 0) = 0 ∨ (if a < b then (1 : Int) else 0) = 1
    split <;> omega
  · show (if b < a then (1 : Int) else 0) = 0 ∨ (if b < a then (1 : Int) else 0) = 1
    split <;> omega
  · show (if a = b then (1 : Int) else 0) = 0 ∨ (if a = b then (1 : Int) else 0) = 1
    split <;> omega
theorem vbin_log {r a b : Int} (h : r = 10 ∨ r = 11) (ha : a = 0 ∨ a = 1) (hb : b = 0 ∨ b = 1) : vbin r a b = 0 ∨ vbin r a b = 1 := by
  rcases h with rfl | rfl <;> rcases ha with rfl | rfl <;> rcases hb with rfl | rfl <;> decide
/-- the ways a step of the kinds can go -/
theorem tstep_cases {q : Bool} {st st' : List Bool} {r : Int} (hv : vcode q r) (h : tstep st r = some st') :
    ((1000 ≤ r ∨ (40 ≤ r ∧ r ≤ 47)) ∧ st.length < 60 ∧ st' = false :: st) ∨ (r = 13 ∧ st.length < 60 ∧ st' = true :: st) ∨ (r = 60 ∧ q = true ∧ ∃ t, st = false :: t ∧ st' = false :: t) ∨ (r = 12 ∧ ∃ t, st = true :: t ∧ st' = true :: t) ∨
      ((r = 10 ∨ r = 11) ∧ ∃ t, st = true :: true :: t ∧ st' = true :: t) ∨ ((7 ≤ r ∧ r ≤ 9) ∧ ∃ t, st = false :: false :: t ∧ st' = true :: t) ∨ ((1 ≤ r ∧ r ≤ 6) ∧ ∃ t, st = false :: false :: t ∧ st' = false :: t) := by
  unfold tstep at h
  unfold vcode at hv
  by_cases a1 : 1000 ≤ r
  · rw [if_pos a1] at h
    by_cases y : st.length < 60
    · rw [if_pos y] at h
      exact Or.inl ⟨Or.inl a1, y, (Option.some.inj h).symm⟩
    · rw [if_neg y] at h; cases h
  rw [if_neg a1] at h
  by_cases a2 : r = 60
  · rw [if_pos a2] at h
    have hq : q = true := by
      rcases hv with y | ⟨y1, y2, -⟩ | y | y
      · omega
      · omega
      · omega
      · exact y.1
    match st, h with
    | false :: t, h => exact Or.inr (Or.inr (Or.inl ⟨a2, hq, t, rfl, (Option.some.inj h).symm⟩))
  rw [if_neg a2] at h
  by_cases a3 : 40 ≤ r
  · rw [if_pos a3] at h
    have h47 : r ≤ 47 := by
      rcases hv with y | ⟨y1, y2, -⟩ | y | ⟨-, y⟩ <;> omega
    by_cases y : st.length < 60
    · rw [if_pos y] at h
      exact Or.inl ⟨Or.inr ⟨a3, h47⟩, y, (Option.some.inj h).symm⟩
    · rw [if_neg y] at h; cases h
  rw [if_neg a3] at h
  have r13 : 1 ≤ r ∧ r ≤ 13 := by
    rcases hv with y | ⟨y1, y2, -⟩ | y | ⟨-, y⟩ <;> omega
  by_cases a4 : r = 13
  · rw [if_pos a4] at h
    by_cases y : st.length < 60
    · rw [if_pos y] at h
      exact Or.inr (Or.inl ⟨a4, y, (Option.some.inj h).symm⟩)
    · rw [if_neg y] at h; cases h
  rw [if_neg a4] at h
  by_cases a5 : r = 12
  · rw [if_pos a5] at h
    match st, h with
    | true :: t, h => exact Or.inr (Or.inr (Or.inr (Or.inl ⟨a5, t, rfl, (Option.some.inj h).symm⟩)))
  rw [if_neg a5] at h
  by_cases a6 : 10 ≤ r
  · rw [if_pos a6] at h
    match st, h with
    | true :: true :: t, h => exact Or.inr (Or.inr (Or.inr (Or.inr (Or.inl ⟨by omega, t, rfl, (Option.some.inj h).symm⟩))))
  rw [if_neg a6] at h
  by_cases a7 : 7 ≤ r
  · rw [if_pos a7] at h
    match st, h with
    | false :: false :: t, h => exact Or.inr (Or.inr (Or.inr (Or.inr (Or.inr (Or.inl ⟨by omega, t, rfl, (Option.some.inj h).symm⟩)))))
  rw [if_neg a7] at h
  match st, h with
  | false :: false :: t, h => exact Or.inr (Or.inr (Or.inr (Or.inr (Or.inr (Or.inr ⟨by omega, t, rfl, (Option.some.inj h).symm⟩)))))
def fok (fa : Nat → Int) : Prop := ∀ k, k < 14 → -1000000 ≤ fa k ∧ fa k ≤ 1000000
theorem vstep_ok {q : Bool} {fa : Nat → Int} (hf : fok fa) {st st' : List Bool} {vs : List Int} {r : Int} (hv : vcode q r) (h : tstep st r = some st') (ho : okv st vs) : okv st' (vstep fa r vs) := by
  unfold vstep vtop
  have v1 : r = 60 ∨ r ≤ 47 ∨ (1000 ≤ r ∧ r ≤ 10999) := by
    unfold vcode at hv
    rcases hv with y | ⟨y1, y2, -⟩ | y | ⟨-, y⟩ <;> omega
  rcases tstep_cases hv h with ⟨a, b, rfl⟩ | ⟨rfl, b, rfl⟩ | ⟨rfl, hq, t, rfl, rfl⟩ | ⟨rfl, t, rfl, rfl⟩ | ⟨a, t, rfl, rfl⟩ | ⟨a, t, rfl, rfl⟩ | ⟨a, t, rfl, rfl⟩
  · rw [if_neg (by omega), if_pos (by omega)]
    refine ⟨?_, ho⟩
    unfold okv1 vput
    rw [if_neg (by decide)]
    by_cases y : 1000 ≤ r
    · rw [if_pos y]; omega
    · rw [if_neg y, if_pos (by omega)]
      exact hf _ (by omega)
  · rw [if_neg (by omega), if_pos (by omega)]
    refine ⟨?_, ho⟩
    unfold okv1
    rw [if_pos rfl]
    exact Or.inr rfl
  · match vs, ho with
    | a :: vs, ho =>
      rw [if_pos (Or.inl rfl)]
      refine ⟨?_, ho.2⟩
      show okv1 false (vone fa 60 a)
      unfold okv1 vone
      rw [if_neg (by decide), if_pos rfl]
      by_cases y : 0 ≤ a ∧ a < 6
      · rw [if_pos y]; exact hf _ (by omega)
      · rw [if_neg y]; omega
  · match vs, ho with
    | a :: vs, ho =>
      rw [if_pos (Or.inr rfl)]
      refine ⟨?_, ho.2⟩
      have o := ho.1
      unfold okv1 at o
      rw [if_pos rfl] at o
      show okv1 true (1 - a)
      unfold okv1
      rw [if_pos rfl]
      omega
  · match vs, ho with
    | b :: a' :: vs, ho =>
      rw [if_neg (by omega), if_neg (by omega)]
      exact ⟨vbin_log a ho.2.1 ho.1, ho.2.2⟩
    | [_], ho => exact ho.2.elim
  · match vs, ho with
    | b :: a' :: vs, ho =>
      rw [if_neg (by omega), if_neg (by omega)]
      exact ⟨vbin_cmp a, ho.2.2⟩
    | [_], ho => exact ho.2.elim
  · match vs, ho with
    | b :: a' :: vs, ho =>
      rw [if_neg (by omega), if_neg (by omega)]
      exact ⟨vbin_num a ho.2.1 ho.1, ho.2.2⟩
    | [_], ho => exact ho.2.elim
theorem trun_pre (c : Nat → Int) : ∀ (n m : Nat) {st st' : List Bool}, trun c (n + m) st = some st' → ∃ s, trun c n st = some s
  | n, 0, st, st', h => ⟨st', h⟩
  | n, m + 1, st, st', h => by
    have : (trun c (n + m) st).bind (fun s => tstep s (c (n + m))) = some st' := h
    cases e : trun c (n + m) st with
    | none => rw [e] at this; cases this
    | some s => exact trun_pre c n m e
theorem trun_next {c : Nat → Int} {n L : Nat} {st' : List Bool} (hn : n < L) (h : trun c L [] = some st') {s : List Bool} (e : trun c n [] = some s) : ∃ s', tstep s (c n) = some s' ∧ trun c (n + 1) [] = some s' := by
  obtain ⟨s', e'⟩ := trun_pre c (n + 1) (L - (n + 1)) (st := []) (st' := st') (by rw [show n + 1 + (L - (n + 1)) = L by omega]; exact h)
  have : (trun c n []).bind (fun s => tstep s (c n)) = some s' := e'
  rw [e] at this
  exact ⟨s', this, e'⟩
theorem vrun_ok {q : Bool} {fa : Nat → Int} (hf : fok fa) {c : Nat → Int} : ∀ (n : Nat) {st : List Bool}, (∀ i, i < n → vcode q (c i)) → trun c n [] = some st → okv st (vrun fa c n)
  | 0, st, _, h => by
    cases Option.some.inj h
    exact True.intro
  | n + 1, st, hv, h => by
    have h' : (trun c n []).bind (fun s => tstep s (c n)) = some st := h
    cases e : trun c n [] with
    | none => rw [e] at h'; cases h'
    | some s =>
      rw [e] at h'
      exact vstep_ok hf (hv n (by omega)) h' (vrun_ok hf n (fun i hi => hv i (by omega)) e)
/-- the pile's cells -/
def stA : List Int → Nat → Int
  | [], _ => 0
  | v :: t, k => if k = t.length then v else stA t k
def pil (h : xa_H) (a : Nat) (vs : List Int) : Prop := ∀ k, k < vs.length → xm h a k = stA vs k
theorem pil_tl {h : xa_H} {a : Nat} {v : Int} {t : List Int} (p : pil h a (v :: t)) : pil h a t := fun k hk => by
  rw [p k (by simp; omega)]
  show (if k = t.length then v else stA t k) = _
  rw [if_neg (by omega)]
theorem pil_hd {h : xa_H} {a : Nat} {v : Int} {t : List Int} (p : pil h a (v :: t)) : xm h a t.length = v := by
  rw [p _ (by simp)]
  show (if t.length = t.length then v else stA t _) = _
  rw [if_pos rfl]
theorem pil_put {h : xa_H} {a : Nat} {v : Int} {t : List Int} (p : pil h a t) : pil (xset h a t.length v) a (v :: t) := fun k hk => by
  show _ = (if k = t.length then v else stA t k)
  rw [xm_xset]
  by_cases y : k = t.length
  · rw [if_pos ⟨rfl, y⟩, if_pos y]
  · rw [if_neg (by omega), if_neg y]
    refine p k ?_
    simp at hk
    omega
theorem pil_mv {h h' : xa_H} {a : Nat} {vs : List Int} (p : pil h a vs) (e : ∀ k, xm h' a k = xm h a k) : pil h' a vs := fun k hk => by rw [e]; exact p k hk
