/-! ===== reads over writes ===== -/
theorem xn_xset (h : xa_H) (a k : Nat) (v : Int) : xn (xset h a k v) = xn h := rfl
theorem xz_xset (h : xa_H) (a k : Nat) (v : Int) : xz (xset h a k v) = xz h := rfl
theorem xk_xset (h : xa_H) (a k : Nat) (v : Int) : xk (xset h a k v) = xk h := rfl
theorem xm_xset (h : xa_H) (a k : Nat) (v : Int) (b j : Nat) : xm (xset h a k v) b j = if b = a ∧ j = k then v else xm h b j := rfl
theorem xok_xset (h : xa_H) (a k : Nat) (v : Int) (ci : Nat) (b : Int) : xok (xset h a k v) ci b = xok h ci b := rfl
theorem xia_xset (h : xa_H) (a k : Nat) (v : Int) (kd : Nat) (b i : Int) : xia (xset h a k v) kd b i = xia h kd b i := rfl
theorem xln_xset (h : xa_H) (a k : Nat) (v : Int) (b : Int) : xln (xset h a k v) b = xln h b := rfl
/-- the array in a cell, written whole -/
def xarr (h : xa_H) (a : Nat) (F : Nat → Int) : xa_H := (h.1, h.2.1, h.2.2.1, fun a' k' => if a' = a then F k' else h.2.2.2 a' k')
theorem xn_xarr (h : xa_H) (a : Nat) (F : Nat → Int) : xn (xarr h a F) = xn h := rfl
theorem xz_xarr (h : xa_H) (a : Nat) (F : Nat → Int) : xz (xarr h a F) = xz h := rfl
theorem xk_xarr (h : xa_H) (a : Nat) (F : Nat → Int) : xk (xarr h a F) = xk h := rfl
theorem xm_xarr (h : xa_H) (a : Nat) (F : Nat → Int) (b j : Nat) : xm (xarr h a F) b j = if b = a then F j else xm h b j := rfl
theorem xok_xarr (h : xa_H) (a : Nat) (F : Nat → Int) (ci : Nat) (b : Int) : xok (xarr h a F) ci b = xok h ci b := rfl
theorem xia_xarr (h : xa_H) (a : Nat) (F : Nat → Int) (kd : Nat) (b i : Int) : xia (xarr h a F) kd b i = xia h kd b i := rfl
theorem xln_xarr (h : xa_H) (a : Nat) (F : Nat → Int) (b : Int) : xln (xarr h a F) b = xln h b := rfl
theorem xheq {h h' : xa_H} (h1 : xn h = xn h') (h2 : xz h = xz h') (h3 : xk h = xk h') (h4 : ∀ a k, xm h a k = xm h' a k) : h = h' := by
  obtain ⟨a, b, c, d⟩ := h
  obtain ⟨a', b', c', d'⟩ := h'
  simp only [xn, xz, xk, xm] at h1 h2 h3 h4
  subst h1 h2 h3
  have : d = d' := funext fun a => funext fun k => h4 a k
  subst this
  rfl
theorem xset_xset (h : xa_H) (a k : Nat) (v w : Int) : xset (xset h a k v) a k w = xset h a k w := by
  refine xheq rfl rfl rfl ?_
  intro b j
  simp only [xm_xset]
  split <;> rfl
theorem xset_comm (h : xa_H) (a k : Nat) (v : Int) (a' k' : Nat) (v' : Int) (hne : ¬(a = a' ∧ k = k')) : xset (xset h a k v) a' k' v' = xset (xset h a' k' v') a k v := by
  refine xheq rfl rfl rfl ?_
  intro b j
  simp only [xm_xset]
  by_cases p : b = a ∧ j = k
  · by_cases q : b = a' ∧ j = k'
    · omega
    · rw [if_neg q, if_pos p, if_pos p]
  · by_cases q : b = a' ∧ j = k'
    · rw [if_pos q, if_neg p, if_pos q]
    · rw [if_neg q, if_neg p, if_neg p, if_neg q]
theorem xset_self (h : xa_H) (a k : Nat) : xset h a k (xm h a k) = h := by
  refine xheq rfl rfl rfl ?_
  intro b j
  simp only [xm_xset]
  split
  · rename_i p
    rw [p.1, p.2]
  · rfl
theorem xset_xarr (h : xa_H) (a k : Nat) (v : Int) (F : Nat → Int) : xset (xarr h a F) a k v = xarr h a (fun j => if j = k then v else F j) := by
  refine xheq rfl rfl rfl ?_
  intro b j
  simp only [xm_xset, xm_xarr]
  by_cases p : b = a <;> by_cases q : j = k <;> simp [p, q]
theorem xset_as_xarr (h : xa_H) (a k : Nat) (v : Int) : xset h a k v = xarr h a (fun j => if j = k then v else xm h a j) := by
  refine xheq rfl rfl rfl ?_
  intro b j
  simp only [xm_xset, xm_xarr]
  by_cases p : b = a <;> by_cases q : j = k <;> simp [p, q]
theorem xarr_self (h : xa_H) (a : Nat) : xarr h a (xm h a) = h := by
  refine xheq rfl rfl rfl ?_
  intro b j
  simp only [xm_xarr]
  split
  · rename_i p
    rw [p]
  · rfl
theorem xarr_congr (h : xa_H) (a : Nat) {F F' : Nat → Int} (e : ∀ k, F k = F' k) : xarr h a F = xarr h a F' := by
  rw [show F = F' from funext e]
theorem xarr_xarr (h : xa_H) (a : Nat) (F F' : Nat → Int) : xarr (xarr h a F) a F' = xarr h a F' := by
  refine xheq rfl rfl rfl ?_
  intro b j
  simp only [xm_xarr]
  split <;> rfl
theorem xarr_comm (h : xa_H) (a a' : Nat) (F F' : Nat → Int) (hne : a ≠ a') : xarr (xarr h a F) a' F' = xarr (xarr h a' F') a F := by
  refine xheq rfl rfl rfl ?_
  intro b j
  simp only [xm_xarr]
  by_cases p : b = a
  · by_cases q : b = a'
    · omega
    · rw [if_neg q, if_pos p, if_pos p]
  · by_cases q : b = a'
    · rw [if_pos q, if_neg p, if_pos q]
    · rw [if_neg q, if_neg p, if_neg p, if_neg q]
/-! ===== numbers ===== -/
theorem w32_id {z : Int} (h1 : -2147483648 ≤ z) (h2 : z < 2147483648) : w32 z = z := by
  unfold w32
  exact Int.bmod_eq_of_le (by omega) (by omega)
theorem w64_id {z : Int} (h1 : -9223372036854775808 ≤ z) (h2 : z < 9223372036854775808) : w64 z = z := by
  unfold w64
  exact Int.bmod_eq_of_le (by omega) (by omega)
theorem w32_ge (z : Int) : -2147483648 ≤ w32 z := by
  unfold w32
  have := Int.le_bmod (x := z) (m := 4294967296) (by decide)
  omega
theorem w32_lt (z : Int) : w32 z < 2147483648 := by
  unfold w32
  have := Int.bmod_lt (x := z) (m := 4294967296) (by decide)
  omega
/-! ===== loops ===== -/
theorem xit_succ {σ ε : Type} (f : σ → Option (σ ⊕ ε)) (n : Nat) (s : σ) : xit f (n + 1) s = (f s).bind fun r => match r with
    | .inl s' => xit f n s'
    | .inr e => some e := rfl
theorem xit_go {σ ε : Type} {f : σ → Option (σ ⊕ ε)} {n : Nat} {s s' : σ} (h : f s = some (.inl s')) : xit f (n + 1) s = xit f n s' := by
  rw [xit_succ, h]
  rfl
theorem xit_end {σ ε : Type} {f : σ → Option (σ ⊕ ε)} {n : Nat} {s : σ} {e : ε} (h : f s = some (.inr e)) (hn : 0 < n) : xit f n s = some e := by
  obtain ⟨m, rfl⟩ : ∃ m, n = m + 1 := ⟨n - 1, by omega⟩
  rw [xit_succ, h]
  rfl
theorem xit_seq' {σ ε : Type} {f : σ → Option (σ ⊕ ε)} (st : Nat → σ) (N : Nat) (e : ε) (h1 : ∀ i, i < N → f (st i) = some (.inl (st (i + 1)))) (h2 : f (st N) = some (.inr e)) :
    ∀ (j i : Nat), i + j = N → ∀ fu, j < fu → xit f fu (st i) = some e
  | 0, i, hi, fu, hf => by
    have : i = N := by omega
    subst this
    exact xit_end h2 (by omega)
  | j + 1, i, hi, fu, hf => by
    obtain ⟨m, rfl⟩ : ∃ m, fu = m + 1 := ⟨fu - 1, by omega⟩
    rw [xit_go (h1 i (by omega))]
    exact xit_seq' st N e h1 h2 j (i + 1) (by omega) m (by omega)
theorem xit_seq {σ ε : Type} {f : σ → Option (σ ⊕ ε)} (st : Nat → σ) (N : Nat) (e : ε) (h1 : ∀ i, i < N → f (st i) = some (.inl (st (i + 1)))) (h2 : f (st N) = some (.inr e)) (hN : N < 1000000) : xit f xFU (st 0) = some e :=
  xit_seq' st N e h1 h2 N 0 (by omega) xFU (by unfold xFU; omega)
/-- by an invariant and a measure -/
theorem xit_inv' {σ ε : Type} {f : σ → Option (σ ⊕ ε)} (I : σ → Prop) (μ : σ → Nat) (Q : ε → Prop) (hs : ∀ s, I s → (∃ s', f s = some (.inl s') ∧ I s' ∧ μ s' < μ s) ∨ (∃ e, f s = some (.inr e) ∧ Q e)) :
    ∀ (n : Nat) (s : σ), I s → μ s < n → ∃ e, xit f n s = some e ∧ Q e
  | 0, s, _, h => by omega
  | n + 1, s, hi, h => by
    rcases hs s hi with ⟨s', e1, e2, e3⟩ | ⟨e, e1, e2⟩
    · rw [xit_go e1]
      exact xit_inv' I μ Q hs n s' e2 (by omega)
    · exact ⟨e, xit_end e1 (by omega), e2⟩
theorem xit_inv {σ ε : Type} {f : σ → Option (σ ⊕ ε)} (I : σ → Prop) (μ : σ → Nat) (Q : ε → Prop) (s : σ) (hi : I s) (hμ : μ s < 1000000) (hs : ∀ s, I s → (∃ s', f s = some (.inl s') ∧ I s' ∧ μ s' < μ s) ∨ (∃ e, f s = some (.inr e) ∧ Q e)) : ∃ e, xit f xFU s = some e ∧ Q e :=
  xit_inv' I μ Q hs xFU s hi (by unfold xFU; omega)
/-- the first place from i on of n where P holds -/
def xfd1 (P : Nat → Bool) : Nat → Nat → Int
  | 0, _ => -1
  | n + 1, i => if P i then (i : Int) else xfd1 P n (i + 1)
def xfind (P : Nat → Bool) (n : Nat) : Int := xfd1 P n 0
theorem xfd1_congr {P Q : Nat → Bool} : ∀ (n i : Nat), (∀ j, i ≤ j → j < i + n → P j = Q j) → xfd1 P n i = xfd1 Q n i
  | 0, _, _ => rfl
  | n + 1, i, h => by
    simp only [xfd1]
    rw [h i (by omega) (by omega), xfd1_congr n (i + 1) (fun j h1 h2 => h j (by omega) (by omega))]
theorem xfind_congr {P Q : Nat → Bool} {n : Nat} (h : ∀ j, j < n → P j = Q j) : xfind P n = xfind Q n := xfd1_congr n 0 (fun j _ h2 => h j (by omega))
theorem xfd1_spec (P : Nat → Bool) : ∀ (n i : Nat), (xfd1 P n i = -1 ∧ ∀ j, i ≤ j → j < i + n → P j = false) ∨ (∃ j : Nat, xfd1 P n i = (j : Int) ∧ i ≤ j ∧ j < i + n ∧ P j = true ∧ ∀ k, i ≤ k → k < j → P k = false)
  | 0, i => Or.inl ⟨rfl, fun j h1 h2 => by omega⟩
  | n + 1, i => by
    simp only [xfd1]
    by_cases p : P i = true
    · simp only [p, if_true]
      exact Or.inr ⟨i, rfl, by omega, by omega, p, fun k h1 h2 => by omega⟩
    · simp only [p]
      have p' : P i = false := by simpa using p
      rcases xfd1_spec P n (i + 1) with ⟨e1, e2⟩ | ⟨j, e1, e2, e3, e4, e5⟩
      · refine Or.inl ⟨by simpa using e1, fun j h1 h2 => ?_⟩
        by_cases q : j = i
        · rw [q]; exact p'
        · exact e2 j (by omega) (by omega)
      · refine Or.inr ⟨j, by simpa using e1, by omega, by omega, e4, fun k h1 h2 => ?_⟩
        by_cases q : k = i
        · rw [q]; exact p'
        · exact e5 k (by omega) h2
theorem xfind_spec (P : Nat → Bool) (n : Nat) : (xfind P n = -1 ∧ ∀ j, j < n → P j = false) ∨ (∃ j : Nat, xfind P n = (j : Int) ∧ j < n ∧ P j = true ∧ ∀ k, k < j → P k = false) := by
  rcases xfd1_spec P n 0 with ⟨e1, e2⟩ | ⟨j, e1, e2, e3, e4, e5⟩
  · exact Or.inl ⟨e1, fun j h => e2 j (by omega) (by omega)⟩
  · exact Or.inr ⟨j, e1, by omega, e4, fun k h => e5 k (by omega) h⟩
/-- a loop that looks for a place, and returns it -/
theorem xit_find' {f : Int → Option (Int ⊕ (Int ⊕ Unit))} (P : Nat → Bool) (N : Nat) (hN : N < 2147483647) (h1 : ∀ i : Nat, i < N → f (i : Int) = if P i then some (.inr (.inl (i : Int))) else some (.inl (w32 ((i : Int) + 1)))) (h2 : f (N : Int) = some (.inr (.inr ()))) :
    ∀ (j i : Nat), i + j = N → ∀ fu, j < fu → xit f fu (i : Int) = some (if xfd1 P j i = -1 then .inr () else .inl (xfd1 P j i))
  | 0, i, hi, fu, hf => by
    have : i = N := by omega
    subst this
    rw [xit_end h2 (by omega)]
    simp [xfd1]
  | j + 1, i, hi, fu, hf => by
    obtain ⟨m, rfl⟩ : ∃ m, fu = m + 1 := ⟨fu - 1, by omega⟩
    have e := h1 i (by omega)
    by_cases p : P i = true
    · rw [if_pos p] at e
      rw [xit_end e (by omega)]
      simp only [xfd1, p, if_true]
      rw [if_neg (by omega)]
    · rw [if_neg p] at e
      rw [xit_go e, w32_id (by omega) (by omega)]
      have := xit_find' P N hN h1 h2 j (i + 1) (by omega) m (by omega)
      rw [show ((i : Int) + 1) = ((i + 1 : Nat) : Int) by omega, this]
      simp [xfd1, p]
theorem xit_find {f : Int → Option (Int ⊕ (Int ⊕ Unit))} (P : Nat → Bool) (N : Nat) (hN : N < 1000000) (h1 : ∀ i : Nat, i < N → f (i : Int) = if P i then some (.inr (.inl (i : Int))) else some (.inl (w32 ((i : Int) + 1)))) (h2 : f (N : Int) = some (.inr (.inr ()))) :
    xit f xFU 0 = some (if xfind P N = -1 then .inr () else .inl (xfind P N)) :=
  xit_find' P N (by omega) h1 h2 N 0 (by omega) xFU (by unfold xFU; omega)
/-- sums as a loop makes them -/
def xsum (F : Nat → Int) : Nat → Int
  | 0 => 0
  | n + 1 => w32 (xsum F n + F n)
theorem xsum_congr {F F' : Nat → Int} : ∀ n : Nat, (∀ j, j < n → F j = F' j) → xsum F n = xsum F' n
  | 0, _ => rfl
  | n + 1, h => by
    simp only [xsum]
    rw [xsum_congr n (fun j hj => h j (by omega)), h n (by omega)]
/-! ===== the same cells ===== -/
def agr (D : Nat → Nat → Bool) (h h' : xa_H) : Prop := ∀ a k, D a k = true → xm h' a k = xm h a k
theorem agr_refl (D : Nat → Nat → Bool) (h : xa_H) : agr D h h := fun _ _ _ => rfl
theorem agr_set {D : Nat → Nat → Bool} {h h' : xa_H} {a k : Nat} {v : Int} (hD : D a k = false) (hh : agr D h h') : agr D h (xset h' a k v) := fun b j hb => by
  rw [xm_xset, if_neg, hh b j hb]
  rintro ⟨rfl, rfl⟩
  simp [hD] at hb
theorem agr_arr {D : Nat → Nat → Bool} {h h' : xa_H} {a : Nat} {F : Nat → Int} (hD : ∀ k, D a k = false) (hh : agr D h h') : agr D h (xarr h' a F) := fun b j hb => by
  rw [xm_xarr, if_neg, hh b j hb]
  rintro rfl
  simp [hD] at hb
theorem agr_trans {D : Nat → Nat → Bool} {h h' h'' : xa_H} (h1 : agr D h h') (h2 : agr D h' h'') : agr D h h'' := fun a k hD => (h2 a k hD).trans (h1 a k hD)
