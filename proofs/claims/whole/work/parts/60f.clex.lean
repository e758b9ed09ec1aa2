/-! ===== the class reads its text ===== -/
def DC (a k : Nat) : Bool := a == 2 && Nat.ble 3 k
theorem DC_nf : nofix DC := by unfold nofix; decide +kernel
/-- what the class's reader rests on: the text, no fault yet -/
def Cb (T : Nat → Int) (L : Nat) (h : xa_H) : Prop := SH h ∧ (∀ k, k < 1600 → xm h 1 k = sx8 (T k) ∧ 0 ≤ T k ∧ T k < 256) ∧ xm h 2 2 = (L : Int) ∧ L ≤ 1600 ∧ xm h 2 9 = 0 ∧ xm h 2 10 = -1
/-- it stands at p -/
def Cx (T : Nat → Int) (L : Nat) (h : xa_H) (p : Nat) (b : Bool) : Prop := Cb T L h ∧ p ≤ L ∧ tk_b T L p = false ∧ xm h 2 3 = tk_k T L p b ∧ xm h 2 4 = (p : Int) ∧ xm h 2 5 = (tk_st T L p : Int) ∧ xm h 2 6 = tk_v T L p ∧ xm h 2 7 = tk_w T L p b
/-- it has a fault -/
def Ex (h : xa_H) (e : Nat × Nat) : Prop := SH h ∧ xm h 2 9 = (e.1 : Int) ∧ xm h 2 10 = (e.2 : Int)
theorem cb_set {T : Nat → Int} {L : Nat} {h : xa_H} (C : Cb T L h) {k : Nat} {v : Int} (h1 : 3 ≤ k) (h2 : k ≤ 8) : Cb T L (xset h 2 k v) := by
  obtain ⟨c1, c2, c3, c4, c5, c6⟩ := C
  have hf : ∀ k, k ≤ 8 → 3 ≤ k → fixd 2 k = false := by decide +kernel
  refine ⟨c1.set (hf k h2 h1), fun j hj => ?_, ?_, c4, ?_, ?_⟩
  · rw [xm_xset, if_neg (by omega)]; exact c2 j hj
  · rw [xm_xset, if_neg (by omega)]; exact c3
  · rw [xm_xset, if_neg (by omega)]; exact c5
  · rw [xm_xset, if_neg (by omega)]; exact c6
theorem sx_cmp {v : Int} (h : 0 ≤ v ∧ v < 256) : (sx8 v = 10 ↔ v = 10) ∧ (sx8 v = 32 ↔ v = 32) ∧ ((97 ≤ sx8 v ∧ sx8 v ≤ 122) ↔ (97 ≤ v ∧ v ≤ 122)) ∧ ((48 ≤ sx8 v ∧ sx8 v ≤ 57) ↔ (48 ≤ v ∧ v ≤ 57)) ∧ (v < 128 → sx8 v = v) := by
  unfold sx8
  split <;> omega
theorem s_stepB {T : Nat → Int} {L : Nat} {h : xa_H} (C : Cb T L h) {q : Nat} (hq : xm h 2 5 = (q : Int)) (hqL : q ≤ L) (c1 c2 : Int) : xit (fun s => f_X6_step_L27 2 c1 c2 s) xFU h = some (xset h 2 5 (tk_sk T L q : Int)) := by
  obtain ⟨p, hp⟩ : ∃ p, p = tk_sk T L q := ⟨_, rfl⟩
  have hap : q ≤ p := by rw [hp]; exact rn_ge _ _ _
  have hpL : p ≤ L := by rw [hp]; exact rn_le tk_b0 _ _ hqL
  have hall : ∀ j, q ≤ j → j < p → tk_b T L j = true := fun j h1 h2 => rn_all (tk_b T L) L q j h1 (by rw [hp] at h2; exact h2)
  have hst : tk_b T L p = false := by rw [hp]; exact tk_sk_stop
  have S := C.1
  have hL := C.2.2.1
  have hL2 := C.2.2.2.1
  rw [← hp]
  have r := xit_seq (f := fun s => f_X6_step_L27 2 c1 c2 s) (fun i => xset h 2 5 ((q + i : Nat) : Int)) (p - q) (xset h 2 5 (p : Int)) (fun i hi => by
    have z := tk_bi.mp (hall (q + i) (by omega) (by omega))
    have t := C.2.1 (q + i) (by omega)
    have sc := sx_cmp t.2
    have i1 : xia h 2 1 ((q + i : Nat) : Int) = true := ia_1 S (by omega) (by omega)
    unfold f_X6_step_L27
    simp (disch := omega) only [↓reduceIte, ↓bbind, ↓bxgf, ↓bxpf, ↓bxal, ↓bxas, ↓bxrc, ↓exrc, xbo, xok_xset, xia_xset, xln_xset, xm_xset, xok_xarr, xia_xarr, xln_xarr, xm_xarr, Option.bind_some, Int.reduceToNat, Nat.reduceEqDiff, Nat.reduceSub, Int.reduceLT, Int.reduceLE, Int.reduceEq, Int.reduceNeg, if_true, if_false, ite_true, ite_false, true_and, and_true, false_and, and_false, eq_self, reduceIte, Bool.false_eq_true, Nat.reduceBEq, reduceCtorEq, or_true, true_or, or_false, false_or, xel, Int.toNat_natCast, Int.toNat_add, Int.toNat_mul, ok_2 S, pt_2_0 S, hL, i1, t.1]
    rw [if_pos (by omega)]
    by_cases y : T (q + i) = 10
    · rw [if_pos (sc.1.mpr y), xset_xset, w32_id (by omega) (by omega)]
      rfl
    · rw [if_neg (fun g => y (sc.1.mp g)), if_pos (sc.2.1.mpr (by omega)), xset_xset, w32_id (by omega) (by omega)]
      rfl) (by
    have e : q + (p - q) = p := by omega
    rw [e]
    unfold f_X6_step_L27
    simp (disch := omega) only [↓reduceIte, ↓bbind, ↓bxgf, ↓bxpf, ↓bxal, ↓bxas, ↓bxrc, ↓exrc, xbo, xok_xset, xia_xset, xln_xset, xm_xset, xok_xarr, xia_xarr, xln_xarr, xm_xarr, Option.bind_some, Int.reduceToNat, Nat.reduceEqDiff, Nat.reduceSub, Int.reduceLT, Int.reduceLE, Int.reduceEq, Int.reduceNeg, if_true, if_false, ite_true, ite_false, true_and, and_true, false_and, and_false, eq_self, reduceIte, Bool.false_eq_true, Nat.reduceBEq, reduceCtorEq, or_true, true_or, or_false, false_or, xel, Int.toNat_natCast, Int.toNat_add, Int.toNat_mul, ok_2 S, pt_2_0 S, hL]
    by_cases y : p < L
    · have t := C.2.1 p (by omega)
      have sc := sx_cmp t.2
      have i1 : xia h 2 1 (p : Int) = true := ia_1 S (by omega) (by omega)
      have z : ¬ tk_b T L p = true := by rw [hst]; decide
      rw [tk_bi] at z
      rw [if_pos (by omega)]
      simp only [i1, if_true, t.1]
      rw [if_neg (fun g => z ⟨y, Or.inl (sc.1.mp g)⟩), if_neg (fun g => z ⟨y, Or.inr (sc.2.1.mp g)⟩)]
    · rw [if_neg (by omega)]) (by omega)
  have e0 : xset h 2 5 ((q + 0 : Nat) : Int) = h := by
    rw [Nat.add_zero, ← hq]
    exact xset_self h 2 5
  try dsimp only at r
  rw [e0] at r
  exact r
theorem or_add {A c k : Nat} (hk : k ≤ 25) (h1 : A % 2 ^ (k + 5) = 0) (hc : c < 32) (hA : A < 2147483648) (hs : A + c * 2 ^ k < 2147483648) : xior (A : Int) (xshl (c : Int) (k : Int)) = ((A + c * 2 ^ k : Nat) : Int) := by
  rw [x_shl (by omega) (by omega), x_or hA (by omega)]
  have e : A = 2 ^ (k + 5) * (A / 2 ^ (k + 5)) := by
    have := Nat.div_add_mod A (2 ^ (k + 5))
    omega
  have hl : c * 2 ^ k < 2 ^ (k + 5) := by
    rw [Nat.pow_add, Nat.mul_comm]
    exact Nat.mul_lt_mul_of_pos_left (by omega) (Nat.two_pow_pos k)
  congr 1
  conv => lhs; rw [e]
  conv => rhs; rw [e]
  exact (Nat.two_pow_add_eq_or_of_lt hl _).symm
theorem nm5_or {f : Nat → Int} {i : Nat} (hi : i < 6) (hf : ∀ k, k ≤ i → 1 ≤ f k ∧ f k ≤ 26) : xior (nm5 f i) (xshl (f i) (w32 (25 - w32 (5 * (i : Int))))) = nm5 f (i + 1) := by
  have h0 := hf 0
  have h1 := hf 1
  have h2 := hf 2
  have h3 := hf 3
  have h4 := hf 4
  have h5 := hf 5
  have b1 := nm5_b (f := f) (n := i) (by omega) (fun k hk => hf k (by omega))
  have b2 := nm5_b (f := f) (n := i + 1) (by omega) (fun k hk => hf k (by omega))
  have hi' := hf i (Nat.le_refl _)
  obtain ⟨A, eA⟩ : ∃ A : Nat, nm5 f i = (A : Int) := ⟨(nm5 f i).toNat, by omega⟩
  obtain ⟨c, ec⟩ : ∃ c : Nat, f i = (c : Int) := ⟨(f i).toNat, by omega⟩
  have e2 : nm5 f (i + 1) = ((A + c * 2 ^ (25 - 5 * i) : Nat) : Int) := by
    show nm5 f i + f i * 2 ^ (25 - 5 * i) = _
    rw [eA, ec]
    simp
  rw [w32_id (z := 5 * (i : Int)) (by omega) (by omega), w32_id (by omega) (by omega), show (25 : Int) - 5 * (i : Int) = ((25 - 5 * i : Nat) : Int) by omega, e2, eA, ec]
  have hm : A % 2 ^ (25 - 5 * i + 5) = 0 := by
    have a : i = 0 ∨ i = 1 ∨ i = 2 ∨ i = 3 ∨ i = 4 ∨ i = 5 := by omega
    rcases a with rfl | rfl | rfl | rfl | rfl | rfl <;> simp only [nm5, Nat.reduceMul, Nat.reduceSub, Int.reducePow, Nat.reducePow, Nat.reduceAdd] at eA ⊢ <;> omega
  refine or_add (by omega) hm (by omega) (by omega) ?_
  rw [e2] at b2
  omega
/-- the word's letters -/
def lw (T : Nat → Int) (p : Nat) (k : Nat) : Int := T (p + k) - 96
theorem s_stepW {T : Nat → Int} {L : Nat} {h : xa_H} (C : Cb T L h) {p : Nat} (hp : xm h 2 4 = (p : Int)) (h5 : xm h 2 5 = (p : Int)) (h6 : xm h 2 6 = 0) (hpL : p ≤ L) (c1 : Int) : xit (fun s => f_X6_step_L132 2 c1 s) xFU h = some (xset (xset h 2 6 (nm5 (lw T p) (min (tk_we T L p - p) 6))) 2 5 (tk_we T L p : Int)) := by
  have S := C.1
  have hL := C.2.2.1
  have hL2 := C.2.2.2.1
  have hpq : p ≤ tk_we T L p := rn_ge _ _ _
  have hqL : tk_we T L p ≤ L := rn_le tk_l0 _ _ hpL
  have hall : ∀ j, p ≤ j → j < tk_we T L p → tk_l T L j = true := fun j h1 h2 => rn_all (tk_l T L) L p j h1 h2
  have hst : ¬ tk_l T L (tk_we T L p) = true := by rw [tk_we_stop]; decide
  have r := xit_seq (f := fun s => f_X6_step_L132 2 c1 s) (fun i => xset (xset h 2 6 (nm5 (lw T p) (min i 6))) 2 5 ((p + i : Nat) : Int)) (tk_we T L p - p) (xset (xset h 2 6 (nm5 (lw T p) (min (tk_we T L p - p) 6))) 2 5 (tk_we T L p : Int)) (fun i hi => by
    have z := tk_li.mp (hall (p + i) (by omega) (by omega))
    have t := C.2.1 (p + i) (by omega)
    have sc := (sx_cmp t.2).2.2.2.2 (by omega)
    have i1 : xia h 2 1 ((p + i : Nat) : Int) = true := ia_1 S (by omega) (by omega)
    rw [sc] at t
    unfold f_X6_step_L132
    simp (disch := omega) only [↓reduceIte, ↓bbind, ↓bxgf, ↓bxpf, ↓bxal, ↓bxas, ↓bxrc, ↓exrc, xbo, xok_xset, xia_xset, xln_xset, xm_xset, xok_xarr, xia_xarr, xln_xarr, xm_xarr, Option.bind_some, Int.reduceToNat, Nat.reduceEqDiff, Nat.reduceSub, Int.reduceLT, Int.reduceLE, Int.reduceEq, Int.reduceNeg, if_true, if_false, ite_true, ite_false, true_and, and_true, false_and, and_false, eq_self, reduceIte, Bool.false_eq_true, Nat.reduceBEq, reduceCtorEq, or_true, true_or, or_false, false_or, xel, Int.toNat_natCast, Int.toNat_add, Int.toNat_mul, ok_2 S, pt_2_0 S, hL, hp, i1, t.1]
    rw [if_pos (by omega), if_neg (by omega), if_neg (by omega), w32_id (z := ((p + i : Nat) : Int) - (p : Int)) (by omega) (by omega)]
    have ei : ((p + i : Nat) : Int) - (p : Int) = (i : Int) := by omega
    rw [ei]
    by_cases y : i < 6
    · rw [if_pos (by omega), w32_id (z := T (p + i) - 97) (by omega) (by omega), w32_id (z := T (p + i) - 97 + 1) (by omega) (by omega), w32_id (z := ((p + i : Nat) : Int) + 1) (by omega) (by omega)]
      have e1 : T (p + i) - 97 + 1 = lw T p i := by unfold lw; omega
      rw [show min i 6 = i by omega, show min (i + 1) 6 = i + 1 by omega, e1, nm5_or y (fun k hk => by
        have zz := tk_li.mp (hall (p + k) (by omega) (by omega))
        unfold lw
        omega)]
      congr 2
      refine xheq rfl rfl rfl (fun a k => ?_)
      simp only [xm_xset]
      by_cases g : a = 2 ∧ k = 5
      · rw [if_pos g, if_pos g]; omega
      · rw [if_neg g, if_neg g]
        by_cases g2 : a = 2 ∧ k = 6
        · rw [if_pos g2, if_neg g, if_pos g2]
        · rw [if_neg g2, if_neg g2, if_neg g, if_neg g2]
    · rw [if_neg (by omega), show min i 6 = 6 by omega, show min (i + 1) 6 = 6 by omega, xset_xset, w32_id (by omega) (by omega)]
      rfl) (by
    have e : p + (tk_we T L p - p) = tk_we T L p := by omega
    rw [e]
    unfold f_X6_step_L132
    simp (disch := omega) only [↓reduceIte, ↓bbind, ↓bxgf, ↓bxpf, ↓bxal, ↓bxas, ↓bxrc, ↓exrc, xbo, xok_xset, xia_xset, xln_xset, xm_xset, xok_xarr, xia_xarr, xln_xarr, xm_xarr, Option.bind_some, Int.reduceToNat, Nat.reduceEqDiff, Nat.reduceSub, Int.reduceLT, Int.reduceLE, Int.reduceEq, Int.reduceNeg, if_true, if_false, ite_true, ite_false, true_and, and_true, false_and, and_false, eq_self, reduceIte, Bool.false_eq_true, Nat.reduceBEq, reduceCtorEq, or_true, true_or, or_false, false_or, xel, Int.toNat_natCast, Int.toNat_add, Int.toNat_mul, ok_2 S, pt_2_0 S, hL, hp]
    by_cases y : tk_we T L p < L
    · have t := C.2.1 (tk_we T L p) (by omega)
      have sc := (sx_cmp t.2).2.2.1
      have i1 : xia h 2 1 ((tk_we T L p : Nat) : Int) = true := ia_1 S (by omega) (by omega)
      rw [tk_li] at hst
      rw [if_pos (by omega)]
      simp only [i1, if_true, t.1]
      by_cases g : sx8 (T (tk_we T L p)) < 97
      · rw [if_pos g]
      · rw [if_neg g, if_pos (by omega)]
    · rw [if_neg (by omega)]) (by omega)
  have e0 : xset (xset h 2 6 (nm5 (lw T p) (min 0 6))) 2 5 ((p + 0 : Nat) : Int) = h := by
    have q1 : xset h 2 6 (nm5 (lw T p) (min 0 6)) = h := by
      have : nm5 (lw T p) (min 0 6) = xm h 2 6 := by rw [h6]; rfl
      rw [this]
      exact xset_self h 2 6
    rw [q1, Nat.add_zero, ← h5]
    exact xset_self h 2 5
  try dsimp only at r
  rw [e0] at r
  exact r
theorem s_stepD {T : Nat → Int} {L : Nat} {h : xa_H} (C : Cb T L h) {p : Nat} (hp : xm h 2 4 = (p : Int)) (h5 : xm h 2 5 = (p : Int)) (h6 : xm h 2 6 = 0) (hpL : p ≤ L) (c1 : Int) : xit (fun s => f_X6_step_L322 2 c1 s) xFU h = some (xset (xset h 2 6 (tk_nv T p (min (tk_de T L p - p) 4))) 2 5 (tk_de T L p : Int)) := by
  have S := C.1
  have hL := C.2.2.1
  have hL2 := C.2.2.2.1
  have hpq : p ≤ tk_de T L p := rn_ge _ _ _
  have hqL : tk_de T L p ≤ L := rn_le tk_d0 _ _ hpL
  have hall : ∀ j, p ≤ j → j < tk_de T L p → tk_d T L j = true := fun j h1 h2 => rn_all (tk_d T L) L p j h1 h2
  have hst : ¬ tk_d T L (tk_de T L p) = true := by rw [tk_de_stop]; decide
  have nvb := tk_nv_b (T := T) (L := L) (p := p) (n := tk_de T L p - p) (fun j hj => (tk_di.mp (hall (p + j) (by omega) (by omega))).2)
  have r := xit_seq (f := fun s => f_X6_step_L322 2 c1 s) (fun i => xset (xset h 2 6 (tk_nv T p (min i 4))) 2 5 ((p + i : Nat) : Int)) (tk_de T L p - p) (xset (xset h 2 6 (tk_nv T p (min (tk_de T L p - p) 4))) 2 5 (tk_de T L p : Int)) (fun i hi => by
    have z := tk_di.mp (hall (p + i) (by omega) (by omega))
    have t := C.2.1 (p + i) (by omega)
    have sc := (sx_cmp t.2).2.2.2.2 (by omega)
    have i1 : xia h 2 1 ((p + i : Nat) : Int) = true := ia_1 S (by omega) (by omega)
    rw [sc] at t
    unfold f_X6_step_L322
    simp (disch := omega) only [↓reduceIte, ↓bbind, ↓bxgf, ↓bxpf, ↓bxal, ↓bxas, ↓bxrc, ↓exrc, xbo, xok_xset, xia_xset, xln_xset, xm_xset, xok_xarr, xia_xarr, xln_xarr, xm_xarr, Option.bind_some, Int.reduceToNat, Nat.reduceEqDiff, Nat.reduceSub, Int.reduceLT, Int.reduceLE, Int.reduceEq, Int.reduceNeg, if_true, if_false, ite_true, ite_false, true_and, and_true, false_and, and_false, eq_self, reduceIte, Bool.false_eq_true, Nat.reduceBEq, reduceCtorEq, or_true, true_or, or_false, false_or, xel, Int.toNat_natCast, Int.toNat_add, Int.toNat_mul, ok_2 S, pt_2_0 S, hL, hp, i1, t.1]
    rw [if_pos (by omega), if_neg (by omega), if_neg (by omega), w32_id (z := ((p + i : Nat) : Int) - (p : Int)) (by omega) (by omega)]
    have ei : ((p + i : Nat) : Int) - (p : Int) = (i : Int) := by omega
    rw [ei]
    by_cases y : i < 4
    · have b1 := nvb i (by omega)
      have b2 : 10 ^ i ≤ 10 ^ 3 := Nat.pow_le_pow_right (by omega) (by omega)
      rw [if_pos (by omega), show min i 4 = i by omega, show min (i + 1) 4 = i + 1 by omega, w32_id (z := 10 * tk_nv T p i) (by omega) (by omega), w32_id (z := 10 * tk_nv T p i + T (p + i)) (by omega) (by omega), w32_id (z := 10 * tk_nv T p i + T (p + i) - 48) (by omega) (by omega), w32_id (z := ((p + i : Nat) : Int) + 1) (by omega) (by omega)]
      have e1 : 10 * tk_nv T p i + T (p + i) - 48 = tk_nv T p (i + 1) := by
        show _ = 10 * tk_nv T p i + (T (p + i) - 48)
        omega
      rw [e1]
      congr 2
      refine xheq rfl rfl rfl (fun a k => ?_)
      simp only [xm_xset]
      by_cases g : a = 2 ∧ k = 5
      · rw [if_pos g, if_pos g]; omega
      · rw [if_neg g, if_neg g]
        by_cases g2 : a = 2 ∧ k = 6
        · rw [if_pos g2, if_neg g, if_pos g2]
        · rw [if_neg g2, if_neg g2, if_neg g, if_neg g2]
    · rw [if_neg (by omega), show min i 4 = 4 by omega, show min (i + 1) 4 = 4 by omega, xset_xset, w32_id (by omega) (by omega)]
      rfl) (by
    have e : p + (tk_de T L p - p) = tk_de T L p := by omega
    rw [e]
    unfold f_X6_step_L322
    simp (disch := omega) only [↓reduceIte, ↓bbind, ↓bxgf, ↓bxpf, ↓bxal, ↓bxas, ↓bxrc, ↓exrc, xbo, xok_xset, xia_xset, xln_xset, xm_xset, xok_xarr, xia_xarr, xln_xarr, xm_xarr, Option.bind_some, Int.reduceToNat, Nat.reduceEqDiff, Nat.reduceSub, Int.reduceLT, Int.reduceLE, Int.reduceEq, Int.reduceNeg, if_true, if_false, ite_true, ite_false, true_and, and_true, false_and, and_false, eq_self, reduceIte, Bool.false_eq_true, Nat.reduceBEq, reduceCtorEq, or_true, true_or, or_false, false_or, xel, Int.toNat_natCast, Int.toNat_add, Int.toNat_mul, ok_2 S, pt_2_0 S, hL, hp]
    by_cases y : tk_de T L p < L
    · have t := C.2.1 (tk_de T L p) (by omega)
      have sc := (sx_cmp t.2).2.2.2.1
      have i1 : xia h 2 1 ((tk_de T L p : Nat) : Int) = true := ia_1 S (by omega) (by omega)
      rw [tk_di] at hst
      rw [if_pos (by omega)]
      simp only [i1, if_true, t.1]
      by_cases g : sx8 (T (tk_de T L p)) < 48
      · rw [if_pos g]
      · rw [if_neg g, if_pos (by omega)]
    · rw [if_neg (by omega)]) (by omega)
  have e0 : xset (xset h 2 6 (tk_nv T p (min 0 4))) 2 5 ((p + 0 : Nat) : Int) = h := by
    have q1 : xset h 2 6 (tk_nv T p (min 0 4)) = h := by
      have : tk_nv T p (min 0 4) = xm h 2 6 := by rw [h6]; rfl
      rw [this]
      exact xset_self h 2 6
    rw [q1, Nat.add_zero, ← h5]
    exact xset_self h 2 5
  try dsimp only at r
  rw [e0] at r
  exact r
