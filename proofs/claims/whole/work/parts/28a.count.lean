/-! ===== ways, counted ===== -/
theorem sumN_congr {f g : Nat → Nat} : ∀ n, (∀ i, i < n → f i = g i) → sumN f n = sumN g n
  | 0, _ => rfl
  | n + 1, h => by
    simp only [sumN]
    rw [sumN_congr n (fun i hi => h i (by omega)), h n (by omega)]
theorem sumN_zero : ∀ n, sumN (fun _ => 0) n = 0
  | 0 => rfl
  | n + 1 => by simp only [sumN]; rw [sumN_zero n]
theorem sumN_add (f g : Nat → Nat) : ∀ n, sumN (fun i => f i + g i) n = sumN f n + sumN g n
  | 0 => rfl
  | n + 1 => by simp only [sumN]; rw [sumN_add f g n]; omega
theorem sumN_swap (f : Nat → Nat → Nat) (a : Nat) : ∀ b, sumN (fun j => sumN (fun i => f i j) a) b = sumN (fun i => sumN (fun j => f i j) b) a
  | 0 => (sumN_zero a).symm
  | b + 1 => by
    simp only [sumN]
    rw [sumN_swap f a b, ← sumN_add]
theorem sumN_mul (f : Nat → Nat) (c : Nat) : ∀ n, sumN (fun i => f i * c) n = sumN f n * c
  | 0 => by simp [sumN]
  | n + 1 => by simp only [sumN]; rw [sumN_mul f c n, Nat.add_mul]
theorem sumN_le {f g : Nat → Nat} : ∀ n, (∀ i, i < n → f i ≤ g i) → sumN f n ≤ sumN g n
  | 0, _ => Nat.le_refl _
  | n + 1, h => by
    simp only [sumN]
    exact Nat.add_le_add (sumN_le n (fun i hi => h i (by omega))) (h n (by omega))
theorem sumN_const (c : Nat) : ∀ n, sumN (fun _ => c) n = n * c
  | 0 => by simp [sumN]
  | n + 1 => by simp only [sumN]; rw [sumN_const c n, Nat.add_mul, Nat.one_mul]
theorem sumN_mono {f : Nat → Nat} {a : Nat} : ∀ b, a ≤ b → sumN f a ≤ sumN f b
  | 0, h => by rw [Nat.le_zero.mp h]; exact Nat.le_refl _
  | b + 1, h => by
    by_cases q : a = b + 1
    · rw [q]; exact Nat.le_refl _
    · exact Nat.le_trans (sumN_mono b (by omega)) (Nat.le_add_right _ _)
theorem sumN_term {f : Nat → Nat} {i : Nat} : ∀ n, i < n → f i ≤ sumN f n
  | 0, h => by omega
  | n + 1, h => by
    simp only [sumN]
    by_cases q : i = n
    · rw [q]; exact Nat.le_add_left _ _
    · exact Nat.le_trans (sumN_term n (by omega)) (Nat.le_add_right _ _)
theorem sumN_one (f : Nat → Nat) (a : Nat) : ∀ n, a < n → sumN (fun i => if a = i then f i else 0) n = f a
  | 0, h => by omega
  | n + 1, h => by
    simp only [sumN]
    by_cases q : a = n
    · subst q
      rw [if_pos rfl, sumN_congr (g := fun _ => 0) a (fun i hi => if_neg (by omega)), sumN_zero, Nat.zero_add]
    · rw [if_neg q, sumN_one f a n (by omega), Nat.add_zero]
theorem sumN_split (f : Nat → Nat) (q : Nat) : ∀ m, sumN f (m * q) = sumN (fun x => sumN (fun N => f (x * q + N)) q) m
  | 0 => by rw [Nat.zero_mul]; rfl
  | m + 1 => by
    have ap : ∀ a b, sumN f (a + b) = sumN f a + sumN (fun N => f (a + N)) b := by
      intro a b
      induction b with
      | zero => rfl
      | succ b ih =>
        show sumN f (a + b) + f (a + b) = _
        rw [ih]
        simp only [sumN]
        omega
    rw [Nat.add_mul, Nat.one_mul, ap, sumN_split f q m]
    rfl
theorem sumN_ite (f : Nat → Nat) (c : Prop) [Decidable c] (n : Nat) : sumN (fun i => if c then f i else 0) n = if c then sumN f n else 0 := by
  split
  · rfl
  · exact sumN_zero n
def okp (ok : Nat → Nat → Bool) (m N : Nat) : Nat → Bool
  | 0 => true
  | i + 1 => okp ok m N i && ok i (dgm m i N)
def Wk (ok : Nat → Nat → Bool) (m k : Nat) (G : Nat → Nat) : Nat := sumN (fun N => if wvb m N k = true ∧ okp ok m N k = true then G (stb m N k) else 0) (m ^ k)
def opx (ok : Nat → Nat → Bool) (m k : Nat) (G : Nat → Nat) (B : Nat) : Nat := sumN (fun x => if ok k x = true ∧ B.testBit x = false then G (B ||| 2 ^ x) else 0) m
theorem dgm_low {m k x N i : Nat} (hN : N < m ^ k) (hi : i < k) : dgm m i (x * m ^ k + N) = dgm m i N := by
  unfold dgm
  have e : m ^ k = m ^ (k - i - 1) * m * m ^ i := by rw [Nat.mul_assoc, ← Nat.pow_succ', ← Nat.pow_add]; congr 1; omega
  have hp : 0 < m ^ i := by
    rcases Nat.eq_zero_or_pos m with z | z
    · subst z
      rw [Nat.zero_pow (by omega)] at hN
      omega
    · exact Nat.pow_pos z
  rw [show x * m ^ k + N = N + (x * m ^ (k - i - 1) * m) * m ^ i by rw [e, Nat.add_comm, Nat.mul_assoc x, Nat.mul_assoc x]]
  rw [Nat.add_mul_div_right _ _ hp, Nat.add_mul_mod_self_right]
theorem dgm_top {m k x N : Nat} (hN : N < m ^ k) (hx : x < m) : dgm m k (x * m ^ k + N) = x := by
  unfold dgm
  rw [Nat.add_comm, Nat.add_mul_div_right _ _ (by omega), Nat.div_eq_of_lt hN, Nat.zero_add, Nat.mod_eq_of_lt hx]
theorem stb_low {m k x N : Nat} (hN : N < m ^ k) : ∀ i, i ≤ k → stb m (x * m ^ k + N) i = stb m N i
  | 0, _ => rfl
  | i + 1, h => by simp only [stb]; rw [stb_low hN i (by omega), dgm_low hN (by omega)]
theorem wvb_low {m k x N : Nat} (hN : N < m ^ k) : ∀ i, i ≤ k → wvb m (x * m ^ k + N) i = wvb m N i
  | 0, _ => rfl
  | i + 1, h => by simp only [wvb]; rw [wvb_low hN i (by omega), stb_low hN i (by omega), dgm_low hN (by omega)]
theorem okp_low {ok : Nat → Nat → Bool} {m k x N : Nat} (hN : N < m ^ k) : ∀ i, i ≤ k → okp ok m (x * m ^ k + N) i = okp ok m N i
  | 0, _ => rfl
  | i + 1, h => by simp only [okp]; rw [okp_low hN i (by omega), dgm_low hN (by omega)]
theorem Wk_succ (ok : Nat → Nat → Bool) (m k : Nat) (G : Nat → Nat) : Wk ok m (k + 1) G = Wk ok m k (opx ok m k G) := by
  unfold Wk
  rw [Nat.pow_succ', sumN_split]
  rw [sumN_swap (fun N x => if wvb m (x * m ^ k + N) (k + 1) = true ∧ okp ok m (x * m ^ k + N) (k + 1) = true then G (stb m (x * m ^ k + N) (k + 1)) else 0) (m ^ k) m]
  refine sumN_congr _ (fun N hN => ?_)
  unfold opx
  rw [← sumN_ite]
  refine sumN_congr _ (fun x hx => ?_)
  simp only [wvb, okp, stb, wvb_low hN k (Nat.le_refl _), okp_low hN k (Nat.le_refl _), stb_low hN k (Nat.le_refl _), dgm_top hN hx, Bool.and_eq_true, Bool.not_eq_true']
  by_cases a : wvb m N k = true <;> by_cases b : okp ok m N k = true <;> by_cases c : ok k x = true <;> by_cases d : (stb m N k).testBit x = false <;> simp [a, b, c, d]
/-- ways for the last d of n holders -/
def frd (ok : Nat → Nat → Bool) (m n : Nat) : Nat → Nat → Nat
  | 0 => fun _ => 1
  | d + 1 => opx ok m (n - (d + 1)) (frd ok m n d)
theorem Wk_frd (ok : Nat → Nat → Bool) (m n : Nat) : ∀ d, d ≤ n → Wk ok m n (fun _ => 1) = Wk ok m (n - d) (frd ok m n d)
  | 0, _ => rfl
  | d + 1, h => by
    rw [Wk_frd ok m n d (by omega), show n - d = n - (d + 1) + 1 by omega, Wk_succ]
    rfl
theorem opx_congr {ok ok' : Nat → Nat → Bool} {m k : Nat} (h : ∀ x, ok k x = ok' k x) (G : Nat → Nat) : opx ok m k G = opx ok' m k G := by
  funext B
  unfold opx
  refine sumN_congr _ (fun x _ => ?_)
  rw [h x]
theorem frd_congr {ok ok' : Nat → Nat → Bool} {m n : Nat} : ∀ d, d ≤ n → (∀ k, n - d ≤ k → k < n → ∀ x, ok k x = ok' k x) → frd ok m n d = frd ok' m n d
  | 0, _, _ => rfl
  | d + 1, hd, h => by
    simp only [frd]
    rw [frd_congr d (by omega) (fun k h1 h2 => h k (by omega) h2), opx_congr (h (n - (d + 1)) (by omega) (by omega))]
theorem okp_congr {ok ok' : Nat → Nat → Bool} {m N : Nat} : ∀ k, (∀ i, i < k → ∀ x, ok i x = ok' i x) → okp ok m N k = okp ok' m N k
  | 0, _ => rfl
  | k + 1, h => by simp only [okp]; rw [okp_congr k (fun i hi => h i (by omega)), h k (by omega)]
theorem Wk_congr {ok ok' : Nat → Nat → Bool} {m k : Nat} (h : ∀ i, i < k → ∀ x, ok i x = ok' i x) (G : Nat → Nat) : Wk ok m k G = Wk ok' m k G := by
  unfold Wk
  refine sumN_congr _ (fun N _ => ?_)
  rw [okp_congr k h]
/-- one of them given -/
def ok1 (ok : Nat → Nat → Bool) (i j : Nat) (k x : Nat) : Bool := ok k x && (decide (k ≠ i) || decide (x = j))
theorem okp_ok1 {ok : Nat → Nat → Bool} {m N i j : Nat} : ∀ k, okp (ok1 ok i j) m N k = (okp ok m N k && (decide (k ≤ i) || decide (dgm m i N = j)))
  | 0 => by simp [okp]
  | k + 1 => by
    simp only [okp]
    rw [okp_ok1 k]
    unfold ok1
    by_cases a : okp ok m N k = true <;> by_cases b : ok k (dgm m k N) = true <;> by_cases c : k = i
    all_goals (try subst c)
    all_goals (simp [a, b])
    all_goals (try (intro h0; omega))
    all_goals (try (by_cases d : k ≤ i <;> by_cases e : k + 1 ≤ i <;> simp [*] <;> omega))
theorem Wk_given {ok : Nat → Nat → Bool} {m n i j : Nat} (hi : i < n) (hj : j < m) : sumN (fun N => if (wvb m N n = true ∧ okp ok m N n = true) ∧ dgm m i N = j then 1 else 0) (m ^ n) = Wk ok m i (fun B => if ok i j = true ∧ B.testBit j = false then frd ok m n (n - i - 1) (B ||| 2 ^ j) else 0) := by
  have e1 : sumN (fun N => if (wvb m N n = true ∧ okp ok m N n = true) ∧ dgm m i N = j then 1 else 0) (m ^ n) = Wk (ok1 ok i j) m n (fun _ => 1) := by
    unfold Wk
    refine sumN_congr _ (fun N _ => ?_)
    rw [okp_ok1]
    have : ¬ n ≤ i := by omega
    by_cases a : wvb m N n = true <;> by_cases b : okp ok m N n = true <;> by_cases c : dgm m i N = j <;> simp [a, b, c, this]
  rw [e1, Wk_frd _ m n (n - i - 1) (by omega), show n - (n - i - 1) = i + 1 by omega, Wk_succ]
  rw [frd_congr (ok := ok1 ok i j) (ok' := ok) (n - i - 1) (by omega) (fun k h1 h2 x => by unfold ok1; rw [show decide (k ≠ i) = true from decide_eq_true (by omega)]; simp)]
  rw [Wk_congr (ok := ok1 ok i j) (ok' := ok) (fun k hk x => by unfold ok1; rw [show decide (k ≠ i) = true from decide_eq_true (by omega)]; simp)]
  refine congrArg (Wk ok m i) (funext fun B => ?_)
  unfold opx
  rw [sumN_congr (g := fun x => if j = x then (if ok i x = true ∧ B.testBit x = false then frd ok m n (n - i - 1) (B ||| 2 ^ x) else 0) else 0) m (fun x hx => by
    unfold ok1
    by_cases a : j = x
    · subst a; simp
    · have : ¬ x = j := fun z => a z.symm
      simp [a, this])]
  rw [sumN_one _ j m hj]
/-- by the bits of the held -/
theorem stb_lt {m N : Nat} (hm : m ≤ 6) : ∀ k, 0 < m ∨ k = 0 → stb m N k < 2 ^ m
  | 0, _ => Nat.pow_pos (by decide)
  | k + 1, h => by
    simp only [stb]
    have hm0 : 0 < m := by omega
    have h1 := stb_lt (N := N) hm k (Or.inl hm0)
    have h2 : dgm m k N < m := Nat.mod_lt _ hm0
    exact Nat.or_lt_two_pow h1 (Nat.pow_lt_pow_right (by decide) h2)
theorem Wk_group {ok : Nat → Nat → Bool} {m k : Nat} (hm : m ≤ 6) (hk : 0 < m ∨ k = 0) (G : Nat → Nat) : Wk ok m k G = sumN (fun B => Wk ok m k (fun C => if C = B then 1 else 0) * G B) (2 ^ m) := by
  unfold Wk
  rw [sumN_congr (g := fun B => sumN (fun N => (if wvb m N k = true ∧ okp ok m N k = true then (if stb m N k = B then 1 else 0) else 0) * G B) (m ^ k)) (2 ^ m) (fun B _ => (sumN_mul _ _ _).symm)]
  rw [sumN_swap (fun N B => (if wvb m N k = true ∧ okp ok m N k = true then (if stb m N k = B then 1 else 0) else 0) * G B) (m ^ k) (2 ^ m)]
  refine sumN_congr _ (fun N _ => ?_)
  by_cases c : wvb m N k = true ∧ okp ok m N k = true
  · rw [if_pos c, sumN_congr (g := fun B => if stb m N k = B then G B else 0) (2 ^ m) (fun B _ => by
      rw [if_pos c]
      by_cases d : stb m N k = B <;> simp [d])]
    rw [sumN_one _ _ _ (stb_lt hm k hk)]
  · rw [if_neg c, sumN_congr (g := fun _ => 0) (2 ^ m) (fun B _ => by rw [if_neg c, Nat.zero_mul]), sumN_zero]
theorem pcn_stb {m N : Nat} (hm : m ≤ 6) : ∀ k, (0 < m ∨ k = 0) → wvb m N k = true → pcn (stb m N k) = k
  | 0, _, _ => (by decide : pcn 0 = 0)
  | k + 1, hk, h => by
    simp only [wvb, Bool.and_eq_true, Bool.not_eq_true'] at h
    have hm0 : 0 < m := by omega
    have h2 : dgm m k N < m := Nat.mod_lt _ hm0
    have h1 : stb m N k < 2 ^ m := stb_lt hm k (Or.inl hm0)
    have h3 : 2 ^ m ≤ 2 ^ 6 := Nat.pow_le_pow_right (by decide) hm
    simp only [stb]
    rw [pcn_add _ (Nat.lt_of_lt_of_le h1 h3) _ (by omega) h.2, pcn_stb hm k (Or.inl hm0) h.1]
/-- ways in which the first so many have just these -/
def toB (ok : Nat → Nat → Bool) (m B : Nat) : Nat := Wk ok m (pcn B) (fun C => if C = B then 1 else 0)
theorem Wk_at {ok : Nat → Nat → Bool} {m k B : Nat} (hm : m ≤ 6) (hk : 0 < m ∨ k = 0) : Wk ok m k (fun C => if C = B then 1 else 0) = if pcn B = k then toB ok m B else 0 := by
  by_cases q : pcn B = k
  · rw [if_pos q]; unfold toB; rw [q]
  · rw [if_neg q]
    unfold Wk
    rw [sumN_congr (g := fun _ => 0) _ (fun N _ => by
      by_cases c : wvb m N k = true ∧ okp ok m N k = true
      · rw [if_pos c]
        refine if_neg (fun e => ?_)
        exact q (e ▸ pcn_stb hm k hk c.1)
      · rw [if_neg c]), sumN_zero]
