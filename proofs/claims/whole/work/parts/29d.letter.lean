/-! ===== letter ===== -/
theorem nm5_b {f : Nat → Int} {n : Nat} (hn : n ≤ 6) (hf : ∀ k, k < n → 1 ≤ f k ∧ f k ≤ 26) : 0 ≤ nm5 f n ∧ nm5 f n < 2147483648 := by
  have h0 := hf 0
  have h1 := hf 1
  have h2 := hf 2
  have h3 := hf 3
  have h4 := hf 4
  have h5 := hf 5
  have : n = 0 ∨ n = 1 ∨ n = 2 ∨ n = 3 ∨ n = 4 ∨ n = 5 ∨ n = 6 := by omega
  rcases this with rfl | rfl | rfl | rfl | rfl | rfl | rfl <;> simp only [nm5, Nat.reduceMul, Nat.reduceSub, Int.reducePow] <;> omega
theorem nm5_d {f : Nat → Int} {n k : Nat} (hn : n ≤ 6) (hk : k < 6) (hf : ∀ k, k < n → 1 ≤ f k ∧ f k ≤ 26) : nm5 f n / ((2 ^ (25 - 5 * k) : Nat) : Int) % 32 = if k < n then f k else 0 := by
  have h0 := hf 0
  have h1 := hf 1
  have h2 := hf 2
  have h3 := hf 3
  have h4 := hf 4
  have h5 := hf 5
  have a : n = 0 ∨ n = 1 ∨ n = 2 ∨ n = 3 ∨ n = 4 ∨ n = 5 ∨ n = 6 := by omega
  have b : k = 0 ∨ k = 1 ∨ k = 2 ∨ k = 3 ∨ k = 4 ∨ k = 5 := by omega
  rcases a with rfl | rfl | rfl | rfl | rfl | rfl | rfl <;> rcases b with rfl | rfl | rfl | rfl | rfl | rfl <;> simp only [nm5, Nat.reduceMul, Nat.reduceSub, Int.reducePow, Nat.reducePow, Nat.reduceLT, if_true, if_false, reduceIte] <;> omega
theorem nm5_at {f : Nat → Int} {n k : Nat} (hn : n ≤ 6) (hk : k < 6) (hf : ∀ k, k < n → 1 ≤ f k ∧ f k ≤ 26) : xand (xshr (nm5 f n) (w32 (25 - w32 (5 * (k : Int))))) 31 = if k < n then f k else 0 := by
  have b := nm5_b hn hf
  have d := nm5_d hn hk hf
  obtain ⟨A, eA⟩ : ∃ A : Nat, nm5 f n = (A : Int) := ⟨(nm5 f n).toNat, by omega⟩
  rw [← d, eA]
  rw [eA] at b
  rw [w32_id (z := 5 * (k : Int)) (by omega) (by omega), w32_id (by omega) (by omega), show (25 : Int) - 5 * (k : Int) = ((25 - 5 * k : Nat) : Int) by omega, x_shr (by omega) (by omega)]
  have e := x_and (a := A / 2 ^ (25 - 5 * k)) (b := 31) (Nat.lt_of_le_of_lt (Nat.div_le_self _ _) (by omega))
  refine e.trans ?_
  rw [show (31 : Nat) = 2 ^ 5 - 1 from rfl, Nat.and_two_pow_sub_one_eq_mod, Int.natCast_emod, Int.natCast_ediv]
  rfl
theorem nm27_b {f : Nat → Int} {n : Nat} (hf : ∀ k, k < n → 1 ≤ f k ∧ f k ≤ 26) : ∀ j, j ≤ n → (0 ≤ nm27 f j ∧ nm27 f j < ((27 ^ j : Nat) : Int)) ∧ (0 < j → 0 < nm27 f j)
  | 0, _ => by simp [nm27]
  | j + 1, hj => by
    have e := nm27_b hf j (by omega)
    have := hf j (by omega)
    rw [Nat.pow_succ]
    simp only [nm27]
    omega
theorem nm27_c {f : Nat → Int} {n : Nat} (hn : n ≤ 6) (hf : ∀ k, k < n → 1 ≤ f k ∧ f k ≤ 26) {j : Nat} (hj : j ≤ n) : (0 ≤ nm27 f j ∧ nm27 f j < 387420489) ∧ (0 < j → 0 < nm27 f j) := by
  have e := nm27_b hf j hj
  have p : 27 ^ j ≤ 27 ^ 6 := Nat.pow_le_pow_right (by decide) (by omega)
  have q : (27 : Nat) ^ 6 = 387420489 := by decide
  omega
theorem nm27_s {f : Nat → Int} {n : Nat} (hn : n ≤ 6) (hf : ∀ k, k < n → 1 ≤ f k ∧ f k ≤ 26) {j : Nat} (hj : j < n) : w64 (Int.tdiv (nm27 f (j + 1)) 27) = nm27 f j := by
  have e := nm27_c hn hf (j := j) (by omega)
  have g := nm27_c hn hf (j := j + 1) (by omega)
  have := hf j hj
  rw [Int.tdiv_eq_ediv_of_nonneg g.1.1, show nm27 f (j + 1) / 27 = nm27 f j by simp only [nm27]; omega, w64_id (by omega) (by omega)]
theorem nm27_at {f : Nat → Int} {n : Nat} {h : xa_H} (c : Int) (hn : n ≤ 6) (hf : ∀ k, k < n → 1 ≤ f k ∧ f k ≤ 26) (k : Nat) : ((xit (fun s => f_X12_letter_L67 (k : Int) c h s.1 s.2) xFU ((0, nm27 f n))).bind fun e12 =>
    if (k : Int) < e12 then (xit (fun s => f_X12_letter_L102 (k : Int) h s.1 s.2) xFU ((nm27 f n, w32 (e12 - 1)))).bind fun e15 => some (w32 (Int.tmod e15 27)) else some 0) = some (if k < n then f k else 0) := by
  have l1 := xit_seq (f := fun s => f_X12_letter_L67 (k : Int) c h s.1 s.2) (fun j => ((j : Int), nm27 f (n - j))) n (n : Int) (fun j hj => by
    have e := nm27_c hn hf (j := n - j) (by omega)
    show f_X12_letter_L67 (k : Int) c h (j : Int) (nm27 f (n - j)) = _
    unfold f_X12_letter_L67
    rw [if_pos (xcmp_gt.mpr (e.2 (by omega))), w32_id (by omega) (by omega)]
    have g := nm27_s hn hf (j := n - (j + 1)) (by omega)
    rw [show n - (j + 1) + 1 = n - j by omega] at g
    rw [g]
    rfl) (by
    show f_X12_letter_L67 (k : Int) c h (n : Int) (nm27 f (n - n)) = _
    unfold f_X12_letter_L67
    rw [Nat.sub_self, if_neg (fun w => by have := xcmp_gt.mp w; simp [nm27] at this)]) (by omega)
  refine (bnd (v := (n : Int)) l1).trans ?_
  by_cases y : k < n
  · rw [if_pos (by omega), if_pos y, w32_id (by omega) (by omega)]
    have l2 := xit_seq (f := fun s => f_X12_letter_L102 (k : Int) h s.1 s.2) (fun j => (nm27 f (n - j), (n : Int) - 1 - (j : Int))) (n - 1 - k) (nm27 f (k + 1)) (fun j hj => by
      show f_X12_letter_L102 (k : Int) h (nm27 f (n - j)) ((n : Int) - 1 - (j : Int)) = _
      unfold f_X12_letter_L102
      rw [if_pos (by omega), w32_id (by omega) (by omega)]
      have g := nm27_s hn hf (j := n - (j + 1)) (by omega)
      rw [show n - (j + 1) + 1 = n - j by omega] at g
      rw [g, show (n : Int) - 1 - (j : Int) + -1 = (n : Int) - 1 - ((j + 1 : Nat) : Int) by omega]) (by
      show f_X12_letter_L102 (k : Int) h (nm27 f (n - (n - 1 - k))) ((n : Int) - 1 - ((n - 1 - k : Nat) : Int)) = _
      unfold f_X12_letter_L102
      rw [if_neg (by omega), show n - (n - 1 - k) = k + 1 by omega]) (by omega)
    rw [show (n : Int) - 1 - ((0 : Nat) : Int) = (n : Int) - 1 by omega] at l2
    refine (bnd l2).trans ?_
    have g := nm27_c hn hf (j := k + 1) (by omega)
    have e := nm27_c hn hf (j := k) (by omega)
    have := hf k y
    rw [Int.tmod_eq_emod_of_nonneg g.1.1, show nm27 f (k + 1) % 27 = f k by simp only [nm27]; omega, w32_id (by omega) (by omega)]
  · rw [if_neg (by omega), if_neg y]
