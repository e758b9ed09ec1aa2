/-! ===== orders as numbers of base six ===== -/
def dg (i c : Nat) : Nat := c / 6 ^ i % 6
def vperm (n c : Nat) : Prop := c < 6 ^ n ∧ (∀ i, i < n → dg i c < n) ∧ ∀ i j, i < n → j < n → dg i c = dg j c → i = j
def enc (f : Nat → Nat) : Nat → Nat
  | 0 => 0
  | n + 1 => enc f n + f n * 6 ^ n
def pk3 (f : Nat → Nat) : Nat → Nat
  | 0 => 0
  | n + 1 => pk3 f n + f n * 8 ^ n
def swp (n a b c : Nat) : Nat := enc (fun t => if t = a then dg b c else if t = b then dg a c else dg t c) n
def fct : Nat → Nat
  | 0 => 1
  | n + 1 => fct n * (n + 1)
/-- how many of the first j places hold less than place k -/
def lsn (c k : Nat) : Nat → Nat
  | 0 => 0
  | j + 1 => lsn c k j + if dg j c < dg k c then 1 else 0
def rkn (n c : Nat) : Nat → Nat
  | 0 => 0
  | k + 1 => rkn n c k * (n - k) + (dg k c - lsn c k k)
def fd (fe : Nat → Int) (a b : Nat) : Bool := decide (xand (xshr (fe (6 + a)) (b : Int)) 1 = 1)
/-- a meeting of two, or of three -/
def mvt (n a b : Nat) (k : Int) (c : Nat) : Nat := if k = -1 then swp n a b c else swp n b k.toNat (swp n a b c)
def okm (n : Nat) (fe : Nat → Int) (mo a b : Nat) (k : Int) : Prop := a < n ∧ b < n ∧ a < b ∧ fd fe a b = false ∧ (k = -1 ∨ (mo = 3 ∧ 0 ≤ k ∧ k.toNat < n ∧ a < k.toNat ∧ k.toNat ≠ b ∧ fd fe a k.toNat = false ∧ fd fe b k.toNat = false))
def nbr (n : Nat) (fe : Nat → Int) (mo c c' : Nat) : Prop := ∃ a b k, okm n fe mo a b k ∧ c' = mvt n a b k c
/-- reached by at most k meetings -/
def rch (n : Nat) (fe : Nat → Int) (mo : Nat) : Nat → Nat → Prop
  | 0, c => c = enc (fun i => i) n
  | k + 1, c => rch n fe mo k c ∨ ∃ c0, rch n fe mo k c0 ∧ nbr n fe mo c0 c
/-- what a search in breadth holds -/
def BF (S : Nat → Nat → Prop) (nb : Nat → Nat → Prop) (Q L : Nat → Nat) (hd tl : Nat) : Prop :=
  (∀ i j, i < tl → j < tl → Q i = Q j → i = j) ∧ (∀ i, i < tl → S (L i) (Q i) ∧ ∀ k, k < L i → ¬ S k (Q i)) ∧ (∀ i, i < hd → ∀ c, nb (Q i) c → ∃ j, j < tl ∧ Q j = c) ∧
  (∀ i j, i ≤ j → j < tl → L i ≤ L j) ∧ (hd < tl → ∀ j, j < tl → L j ≤ L hd + 1) ∧ ∀ c, S 0 c → ∃ j, j < tl ∧ Q j = c
/-- the sorter's cells -/
def SIm (fld mov stp que : Nat → Int) (n : Nat) (fe : Nat → Int) (mo : Nat) : Prop :=
  fld 0 = (n : Int) ∧ (∃ t : Nat, t ≤ 55 ∧ fld 2 = ((3 * t : Nat) : Int) ∧ (∀ u, u < t → ∃ a b : Nat, mov (3 * u) = (a : Int) ∧ mov (3 * u + 1) = (b : Int) ∧ okm n fe mo a b (mov (3 * u + 2))) ∧
    ∀ a b k, okm n fe mo a b k → ∃ u, u < t ∧ mov (3 * u) = (a : Int) ∧ mov (3 * u + 1) = (b : Int) ∧ mov (3 * u + 2) = k) ∧
  ∃ (Q L : Nat → Nat) (hd tl : Nat), fld 5 = (hd : Int) ∧ fld 6 = (tl : Int) ∧ hd ≤ tl ∧ tl ≤ fct n ∧ (∀ i, i < tl → vperm n (Q i) ∧ que i = ((pk3 (fun t => dg t (Q i)) n : Nat) : Int) ∧ stp (rkn n (Q i) n) = (L i : Int)) ∧
    (∀ i, tl ≤ i → i < fct n → que i = 0) ∧ (∀ c, vperm n c → stp (rkn n c n) = -1 ∨ ∃ i, i < tl ∧ Q i = c) ∧ BF (rch n fe mo) (nbr n fe mo) Q L hd tl
def SI (h : xa_H) (T n : Nat) (fe : Nat → Int) (mo : Nat) : Prop := 249 ≤ T ∧ T + 5 ≤ xn h ∧ xk h T = (18, 8) ∧ xk h (T + 1) = (0, 165) ∧ xk h (T + 2) = (0, 6) ∧ xk h (T + 3) = (0, fct n) ∧ xk h (T + 4) = (0, fct n) ∧
  xm h T 1 = ((T + 1 : Nat) : Int) ∧ xm h T 7 = ((T + 2 : Nat) : Int) ∧ xm h T 3 = ((T + 3 : Nat) : Int) ∧ xm h T 4 = ((T + 4 : Nat) : Int) ∧ SIm (xm h T) (xm h (T + 1)) (xm h (T + 3)) (xm h (T + 4)) n fe mo
theorem SI.mv {h h' : xa_H} {T n : Nat} {fe fe' : Nat → Int} {mo : Nat} (R : SI h T n fe mo) (hn : xn h ≤ xn h') (hk : ∀ a, a < xn h → xk h' a = xk h a) (e : ∀ a k, T ≤ a → a < T + 5 → xm h' a k = xm h a k) (ef : fe' = fe) : SI h' T n fe' mo := by
  subst ef
  obtain ⟨h1, h2, h3, h4, h5, h6, h7, h8, h9, h10, h11, h12⟩ := R
  have q : ∀ j, j < 5 → xm h' (T + j) = xm h (T + j) := fun j hj => funext fun k => e _ k (by omega) (by omega)
  have q0 := q 0 (by omega)
  simp only [Nat.add_zero] at q0
  refine ⟨h1, by omega, by rw [hk _ (by omega)]; exact h3, by rw [hk _ (by omega)]; exact h4, by rw [hk _ (by omega)]; exact h5, by rw [hk _ (by omega)]; exact h6, by rw [hk _ (by omega)]; exact h7, by rw [q0]; exact h8, by rw [q0]; exact h9, by rw [q0]; exact h10, by rw [q0]; exact h11, ?_⟩
  rw [q0, q 1 (by omega), q 3 (by omega), q 4 (by omega)]
  exact h12
/-- a sorter of the class, if it was asked for -/
def RSo (h : xa_H) (s F1 F2 w T : Nat) : Prop := xm h 168 w = -1 ∨ (xm h 168 w = (T : Int) ∧ s + 13 ≤ T ∧ (xm h s 11 ≠ -1 → F1 + 3 ≤ T) ∧ (xm h s 12 ≠ -1 → F2 + 3 ≤ T) ∧ SI h T (xm h 199 4).toNat (xm h 207) (2 + w))
def RSs (h : xa_H) (s F1 F2 T2 T3 : Nat) : Prop := RSo h s F1 F2 0 T2 ∧ RSo h s F1 F2 1 T3 ∧ (xm h 168 0 ≠ -1 → xm h 168 1 ≠ -1 → T2 + 5 ≤ T3 ∨ T3 + 5 ≤ T2) ∧ 249 ≤ T2 ∧ 249 ≤ T3
def DRo (s T2 T3 a k : Nat) : Prop := a = 168 ∨ (a = s ∧ 11 ≤ k) ∨ (a = 199 ∧ 3 ≤ k) ∨ a = 207 ∨ (T2 ≤ a ∧ a < T2 + 5) ∨ (T3 ≤ a ∧ a < T3 + 5)
theorem RSs.mv {h h' : xa_H} {s F1 F2 T2 T3 : Nat} (R : RSs h s F1 F2 T2 T3) (hn : xn h ≤ xn h') (hk : ∀ a, a < xn h → xk h' a = xk h a) (e0 : ∀ a k, a = 168 ∨ (a = s ∧ 11 ≤ k) ∨ (a = 199 ∧ 3 ≤ k) ∨ a = 207 → xm h' a k = xm h a k)
    (e2 : xm h 168 0 ≠ -1 → ∀ a k, T2 ≤ a → a < T2 + 5 → xm h' a k = xm h a k) (e3 : xm h 168 1 ≠ -1 → ∀ a k, T3 ≤ a → a < T3 + 5 → xm h' a k = xm h a k) : RSs h' s F1 F2 T2 T3 := by
  have f0 := e0 168 0 (by omega)
  have f1 := e0 168 1 (by omega)
  have f2 := e0 s 11 (by omega)
  have f3 := e0 s 12 (by omega)
  have f4 := e0 199 4 (by omega)
  have f5 : xm h' 207 = xm h 207 := funext fun k => e0 207 k (by omega)
  obtain ⟨r1, r2, r3⟩ := R
  refine ⟨?_, ?_, by rw [f0, f1]; exact r3.1, r3.2⟩
  · rcases r1 with r1 | ⟨g1, g2, g3, g4, g5⟩
    · exact Or.inl (by rw [f0]; exact r1)
    · refine Or.inr ⟨by rw [f0]; exact g1, g2, by rw [f2]; exact g3, by rw [f3]; exact g4, ?_⟩
      rw [f4]
      exact g5.mv hn hk (e2 (by omega)) f5
  · rcases r2 with r1 | ⟨g1, g2, g3, g4, g5⟩
    · exact Or.inl (by rw [f1]; exact r1)
    · refine Or.inr ⟨by rw [f1]; exact g1, g2, by rw [f2]; exact g3, by rw [f3]; exact g4, ?_⟩
      rw [f4]
      exact g5.mv hn hk (e3 (by omega)) f5
/-! ===== notes ===== -/
def dgm (m i N : Nat) : Nat := N / m ^ i % m
def stb (m N : Nat) : Nat → Nat
  | 0 => 0
  | i + 1 => stb m N i ||| 2 ^ dgm m i N
def wvb (m N : Nat) : Nat → Bool
  | 0 => true
  | i + 1 => wvb m N i && !(stb m N i).testBit (dgm m i N)
def rwb (m : Nat) (ρ : Nat → Int) (N : Nat) : Nat → Bool
  | 0 => true
  | k + 1 => rwb m ρ N k && decide ((if ((dgm m (ρ (3 * k)).toNat N : Nat) : Int) = ρ (3 * k + 1) then (1 : Int) else 0) = ρ (3 * k + 2))
def wayb (n m : Nat) (ρ : Nat → Int) (r N : Nat) : Bool := wvb m N n && rwb m ρ N r
def sumN (f : Nat → Nat) : Nat → Nat
  | 0 => 0
  | n + 1 => sumN f n + f n
def nW (n m : Nat) (ρ : Nat → Int) (r : Nat) : Nat := sumN (fun N => if wayb n m ρ r N = true then 1 else 0) (m ^ n)
def nC (n m : Nat) (ρ : Nat → Int) (r i j : Nat) : Nat := sumN (fun N => if wayb n m ρ r N = true ∧ dgm m i N = j then 1 else 0) (m ^ n)
def Ro (h : xa_H) : Prop := ∃ r n m : Nat, r ≤ 20 ∧ xm h 173 70 = (r : Int) ∧ xm h 158 0 = (r : Int) ∧ xm h 199 4 = (n : Int) ∧ xm h 199 3 = (m : Int) ∧ xm h 158 2 = (n : Int) ∧ xm h 158 3 = (m : Int) ∧
  (∀ k, k < r → (0 ≤ xm h 222 (3 * k) ∧ xm h 222 (3 * k) < n) ∧ (0 ≤ xm h 222 (3 * k + 1) ∧ xm h 222 (3 * k + 1) < m) ∧ (xm h 222 (3 * k + 2) = 0 ∨ xm h 222 (3 * k + 2) = 1)) ∧
  xm h 158 1 = (nW n m (xm h 222) r : Int) ∧ ∀ i j, i < n → j < m → xm h 162 (i * 6 + j) = (nC n m (xm h 222) r i j : Int)
def DRo2 (a k : Nat) : Bool := a == 158 || a == 162 || a == 222 || (a == 173 && k == 70) || (a == 199 && Nat.ble 3 k)
theorem Ro.mv {h h' : xa_H} (R : Ro h) (e : agr DRo2 h h') : Ro h' := by
  obtain ⟨r, n, m, h1, h2, h3, h4, h5, h6, h7, h8, h9, h10⟩ := R
  have f : xm h' 222 = xm h 222 := funext fun k => e 222 k rfl
  refine ⟨r, n, m, h1, ?_, ?_, ?_, ?_, ?_, ?_, ?_, ?_, ?_⟩
  · rw [e _ _ rfl]; exact h2
  · rw [e _ _ rfl]; exact h3
  · rw [e _ _ rfl]; exact h4
  · rw [e _ _ rfl]; exact h5
  · rw [e _ _ rfl]; exact h6
  · rw [e _ _ rfl]; exact h7
  · rw [f]; exact h8
  · rw [e _ _ rfl, f]; exact h9
  · rw [f]; intro i j hi hj; rw [e _ _ rfl]; exact h10 i j hi hj
/-! ===== all ===== -/
def RR (h : xa_H) (s F1 F2 T2 T3 : Nat) : Prop := SH h ∧ Rt h ∧ Rr h ∧ Rf h ∧ Rc h s ∧ RFs h s F1 F2 ∧ Rn h ∧ Rh h ∧ Rj h ∧ Ri h ∧ Rs h ∧ RSs h s F1 F2 T2 T3 ∧ Ro h
theorem SH.mv {h h' : xa_H} (S : SH h) (hn : xn h ≤ xn h') (hk : ∀ a, a < xn h → xk h' a = xk h a) (e : ∀ a k, fixd a k = true → xm h' a k = xm h a k) : SH h' :=
  S.fixed (by have := S.1; omega) (fun a ha => hk a (by have := S.1; omega)) e
/-- what a change of cells alone must show -/
theorem RR.mv {h h' : xa_H} {s F1 F2 T2 T3 : Nat} (R : RR h s F1 F2 T2 T3) (S' : SH h') (hn : xn h ≤ xn h') (hk : ∀ a, a < xn h → xk h' a = xk h a) (gt : Rt h') (gr : Rr h') (gf : Rf h') (gc : ∀ a k, DRc s a k → xm h' a k = xm h a k) (gF : ∀ a k, DRF s F1 F2 a k → xm h' a k = xm h a k)
    (gn : Rn h') (gh : Rh h') (gj : Rj h') (gi : Ri h') (gs : Rs h') (go : RSs h' s F1 F2 T2 T3) (g2 : Ro h') : RR h' s F1 F2 T2 T3 :=
  ⟨S', gt, gr, gf, R.2.2.2.2.1.mv hn hk gc, R.2.2.2.2.2.1.mv hn hk gF, gn, gh, gj, gi, gs, go, g2⟩
