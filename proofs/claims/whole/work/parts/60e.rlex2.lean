/-! ===== the reference takes what stands there ===== -/
theorem tk_st_l {T : Nat → Int} {L p : Nat} (h : tk_l T L p = true) : tk_st T L p = tk_we T L p := by
  unfold tk_st
  rw [if_pos (tk_li.mp h).1, if_pos h]
theorem tk_st_d {T : Nat → Int} {L p : Nat} (h : tk_d T L p = true) : tk_st T L p = tk_de T L p := by
  have a := tk_di.mp h
  unfold tk_st
  rw [if_pos a.1, if_neg (fun q => by have := tk_li.mp q; omega), if_pos h]
theorem tk_st_s {T : Nat → Int} {L p : Nat} {b : Bool} (h : tk_k T L p b = 3) : tk_st T L p = p + 1 := by
  obtain ⟨a, b, c⟩ := tk_k_s.mp h
  unfold tk_st
  rw [if_pos a, if_neg b, if_neg c]
/-- behind a word or a number -/
theorem rx_wn {T : Nat → Int} {L : Nat} {h : xa_H} {p : Nat} {b : Bool} (R : Rx T L h p b) (hk : tk_k T L p b = 1 ∨ tk_k T L p b = 2) : Rx T L (xset (xset h 173 2 (tk_st T L p : Int)) 173 4 (tk_st T L p : Int)) (tk_n T L p b).1 (tk_n T L p b).2 := by
  obtain ⟨h1, h2, h3, h4, h5, h6, h7, h8, h9, a, h10, h11⟩ := R
  have g : tk_st T L p ≤ tk_sk T L (tk_st T L p) := rn_ge _ _ _
  refine ⟨(h1.set (by decide +kernel)).set (by decide +kernel), ?_, h3, h4, h5, h6, tk_n_le h7, ?_, ?_, tk_st T L p, ?_, rfl⟩
  · rw [← h2]
    rfl
  · rw [xm_xset, if_pos ⟨rfl, rfl⟩]
    show (decide _ && decide _) = true ↔ ((tk_st T L p : Nat) : Int) = ((tk_sk T L (tk_st T L p) : Nat) : Int)
    simp only [Bool.and_eq_true, decide_eq_true_eq, hk, true_and]
    omega
  · rw [xm_xset, if_pos ⟨rfl, rfl⟩]
    show -1 ≤ ((tk_st T L p : Nat) : Int) ∧ ((tk_st T L p : Nat) : Int) ≤ ((tk_sk T L (tk_st T L p) : Nat) : Int)
    omega
  · rw [xm_xset, if_neg (by omega), xm_xset, if_pos ⟨rfl, rfl⟩]
/-- behind a sign -/
theorem rx_sg {T : Nat → Int} {L : Nat} {h : xa_H} {p : Nat} {b : Bool} (R : Rx T L h p b) (hk : tk_k T L p b = 3) : Rx T L (xset h 173 2 ((p + 1 : Nat) : Int)) (tk_n T L p b).1 (tk_n T L p b).2 := by
  obtain ⟨h1, h2, h3, h4, h5, h6, h7, h8, h9, a, h10, h11⟩ := R
  have hs := tk_st_s hk
  have g : tk_st T L p ≤ tk_sk T L (tk_st T L p) := rn_ge _ _ _
  refine ⟨h1.set (by decide +kernel), ?_, h3, h4, h5, h6, tk_n_le h7, ?_, ?_, p + 1, ?_, by rw [← hs]; rfl⟩
  · rw [← h2]
    rfl
  · rw [xm_xset, if_neg (by omega)]
    show (decide _ && decide _) = true ↔ xm h 173 4 = ((tk_sk T L (tk_st T L p) : Nat) : Int)
    rw [hk]
    simp
    omega
  · rw [xm_xset, if_neg (by omega)]
    show -1 ≤ xm h 173 4 ∧ xm h 173 4 ≤ ((tk_sk T L (tk_st T L p) : Nat) : Int)
    omega
  · rw [xm_xset, if_pos ⟨rfl, rfl⟩]
theorem s_fail {h : xa_H} (S : SH h) (hb : xm h 173 5 = 0) (k p : Int) : f_X12_fail 173 k p h = some (xset (xset h 173 5 k) 173 6 p) := by
  unfold f_X12_fail
  simp (disch := omega) only [↓reduceIte, ↓bbind, ↓bxgf, ↓bxpf, ↓bxal, ↓bxas, ↓bxrc, ↓exrc, xbo, xok_xset, xia_xset, xln_xset, xm_xset, xok_xarr, xia_xarr, xln_xarr, xm_xarr, Option.bind_some, Int.reduceToNat, Nat.reduceEqDiff, Nat.reduceSub, Int.reduceLT, Int.reduceLE, Int.reduceEq, Int.reduceNeg, if_true, if_false, ite_true, ite_false, true_and, and_true, false_and, and_false, eq_self, reduceIte, Bool.false_eq_true, Nat.reduceBEq, reduceCtorEq, or_true, true_or, or_false, false_or, xel, Int.toNat_natCast, Int.toNat_add, Int.toNat_mul, ok_173 S, hb]
theorem bx_fail {h : xa_H} (S : SH h) (k p : Nat) (hk : k ≠ 0) : Bx (xset (xset h 173 5 (k : Int)) 173 6 (p : Int)) (k, p) := by
  refine ⟨(S.set (by decide +kernel)).set (by decide +kernel), ?_, ?_, hk⟩
  · rw [xm_xset, if_neg (by omega), xm_xset, if_pos ⟨rfl, rfl⟩]
  · rw [xm_xset, if_pos ⟨rfl, rfl⟩]
theorem s_takes {T : Nat → Int} {L : Nat} {h : xa_H} {p : Nat} {b : Bool} (R : Rx T L h p b) {A w : Nat} (hm : (A, w) ∈ wtab) (hw : w < 29) :
    (tk_w T L p b = (w : Int) ∧ ∃ h', f_X12_takes 173 (A : Int) h = some (1, h') ∧ Rx T L h' (tk_n T L p b).1 (tk_n T L p b).2 ∧ Fx DB h h') ∨ (tk_w T L p b ≠ (w : Int) ∧ f_X12_takes 173 (A : Int) h = some (0, xset h 173 2 (p : Int))) := by
  have R' := rx_at R
  have hh := s_isHere R hm hw
  by_cases q : tk_w T L p b = (w : Int)
  · left
    refine ⟨q, _, ?_, rx_wn R' (Or.inl (tk_k_w.mpr (tk_w_l (by omega)))), ((rx_fx.set rfl).set rfl)⟩
    rw [if_pos q] at hh
    obtain ⟨q1, q2⟩ := (tk_w_i hw).mp q
    obtain ⟨e1, e2, e3⟩ := tk_is_i.mp q2
    have hl := wA_ln (sh_wA R'.1 hm) hw
    have we2 : tk_we T L p ≤ L := rn_le tk_l0 _ _ R.2.2.2.2.2.2.1
    have hL := R.2.2.2.2.2.1
    unfold f_X12_takes
    simp (disch := omega) only [↓reduceIte, ↓bbind, ↓bxgf, ↓bxpf, ↓bxal, ↓bxas, ↓bxrc, ↓exrc, xbo, xok_xset, xia_xset, xln_xset, xm_xset, xok_xarr, xia_xarr, xln_xarr, xm_xarr, Option.bind_some, Int.reduceToNat, Nat.reduceEqDiff, Nat.reduceSub, Int.reduceLT, Int.reduceLE, Int.reduceEq, Int.reduceNeg, if_true, if_false, ite_true, ite_false, true_and, and_true, false_and, and_false, eq_self, reduceIte, Bool.false_eq_true, Nat.reduceBEq, reduceCtorEq, or_true, true_or, or_false, false_or, xel, Int.toNat_natCast, Int.toNat_add, Int.toNat_mul, ok_173 R.1, hh, ok_173 R'.1, hl]
    rw [w32_id (by omega) (by omega), tk_st_l e1, show (p : Int) + ((tk_ww w).length : Int) = ((tk_we T L p : Nat) : Int) by omega]
  · right
    refine ⟨q, ?_⟩
    rw [if_neg q] at hh
    unfold f_X12_takes
    simp (disch := omega) only [↓reduceIte, ↓bbind, ↓bxgf, ↓bxpf, ↓bxal, ↓bxas, ↓bxrc, ↓exrc, xbo, xok_xset, xia_xset, xln_xset, xm_xset, xok_xarr, xia_xarr, xln_xarr, xm_xarr, Option.bind_some, Int.reduceToNat, Nat.reduceEqDiff, Nat.reduceSub, Int.reduceLT, Int.reduceLE, Int.reduceEq, Int.reduceNeg, if_true, if_false, ite_true, ite_false, true_and, and_true, false_and, and_false, eq_self, reduceIte, Bool.false_eq_true, Nat.reduceBEq, reduceCtorEq, or_true, true_or, or_false, false_or, xel, Int.toNat_natCast, Int.toNat_add, Int.toNat_mul, ok_173 R.1, hh]
theorem s_asks {T : Nat → Int} {L : Nat} {h : xa_H} {p : Nat} {b : Bool} (R : Rx T L h p b) {A w : Nat} (hm : (A, w) ∈ wtab) (hw : w < 29) :
    ∃ h', f_X12_asks 173 (A : Int) h = some h' ∧ Fx DB h h' ∧ ((tk_w T L p b = (w : Int) ∧ Rx T L h' (tk_n T L p b).1 (tk_n T L p b).2) ∨ (tk_w T L p b ≠ (w : Int) ∧ Bx h' (1, p))) := by
  have R' := rx_at R
  have hb := R.2.2.2.1
  rcases s_takes R hm hw with ⟨q, h', e, R2, F2⟩ | ⟨q, e⟩
  · refine ⟨h', ?_, F2, Or.inl ⟨q, R2⟩⟩
    unfold f_X12_asks
    simp (disch := omega) only [↓reduceIte, ↓bbind, ↓bxgf, ↓bxpf, ↓bxal, ↓bxas, ↓bxrc, ↓exrc, xbo, xok_xset, xia_xset, xln_xset, xm_xset, xok_xarr, xia_xarr, xln_xarr, xm_xarr, Option.bind_some, Int.reduceToNat, Nat.reduceEqDiff, Nat.reduceSub, Int.reduceLT, Int.reduceLE, Int.reduceEq, Int.reduceNeg, if_true, if_false, ite_true, ite_false, true_and, and_true, false_and, and_false, eq_self, reduceIte, Bool.false_eq_true, Nat.reduceBEq, reduceCtorEq, or_true, true_or, or_false, false_or, xel, Int.toNat_natCast, Int.toNat_add, Int.toNat_mul, ok_173 R.1, hb, e]
  · refine ⟨_, ?_, ?_, Or.inr ⟨q, bx_fail R'.1 1 p (by decide)⟩⟩
    · unfold f_X12_asks
      simp (disch := omega) only [↓reduceIte, ↓bbind, ↓bxgf, ↓bxpf, ↓bxal, ↓bxas, ↓bxrc, ↓exrc, xbo, xok_xset, xia_xset, xln_xset, xm_xset, xok_xarr, xia_xarr, xln_xarr, xm_xarr, Option.bind_some, Int.reduceToNat, Nat.reduceEqDiff, Nat.reduceSub, Int.reduceLT, Int.reduceLE, Int.reduceEq, Int.reduceNeg, if_true, if_false, ite_true, ite_false, true_and, and_true, false_and, and_false, eq_self, reduceIte, Bool.false_eq_true, Nat.reduceBEq, reduceCtorEq, or_true, true_or, or_false, false_or, xel, Int.toNat_natCast, Int.toNat_add, Int.toNat_mul, ok_173 R.1, hb, e, ok_173 R'.1, s_fail R'.1 (show xm (xset h 173 2 (p : Int)) 173 5 = 0 from hb)]
      rfl
    · exact (rx_fx.set rfl).set rfl
def gsg (c : Int) : Prop := 0 ≤ c ∧ ¬(97 ≤ c ∧ c ≤ 122) ∧ ¬(48 ≤ c ∧ c ≤ 57)
theorem lkv_g {T : Nat → Int} {L p : Nat} {b : Bool} {c : Int} (hc : gsg c) : lkv T L p = c ↔ tk_k T L p b = 3 ∧ T p = c := by
  unfold gsg at hc
  rw [tk_k_s, tk_li, tk_di]
  unfold lkv
  split <;> omega
theorem lkv_pG {T : Nat → Int} {L : Nat} {s : pS} {c : Int} (hc : gsg c) : lkv T L s.1 = c ↔ pG T L s c = true := by
  rw [pG_i]
  exact lkv_g hc
theorem s_takesSign {T : Nat → Int} {L : Nat} {h : xa_H} {p : Nat} {b : Bool} (R : Rx T L h p b) {c : Int} (hc : gsg c) :
    ((tk_k T L p b = 3 ∧ T p = c) ∧ f_X12_takesSign 173 c h = some (1, xset h 173 2 ((p + 1 : Nat) : Int)) ∧ Rx T L (xset h 173 2 ((p + 1 : Nat) : Int)) (tk_n T L p b).1 (tk_n T L p b).2 ∧ Fx DB h (xset h 173 2 ((p + 1 : Nat) : Int))) ∨ (¬(tk_k T L p b = 3 ∧ T p = c) ∧ f_X12_takesSign 173 c h = some (0, xset h 173 2 (p : Int))) := by
  have R' := rx_at R
  have hb := R.2.2.2.1
  have hp := R.2.2.2.2.2.2.1
  have hL := R.2.2.2.2.2.1
  have hk := lkv_g (T := T) (L := L) (p := p) (b := b) hc
  by_cases q : lkv T L p = c
  · refine Or.inl ⟨hk.mp q, ?_, rx_sg R (hk.mp q).1, (Fx.refl DB h).set rfl⟩
    unfold f_X12_takesSign
    simp (disch := omega) only [↓reduceIte, ↓bbind, ↓bxgf, ↓bxpf, ↓bxal, ↓bxas, ↓bxrc, ↓exrc, xbo, xok_xset, xia_xset, xln_xset, xm_xset, xok_xarr, xia_xarr, xln_xarr, xm_xarr, Option.bind_some, Int.reduceToNat, Nat.reduceEqDiff, Nat.reduceSub, Int.reduceLT, Int.reduceLE, Int.reduceEq, Int.reduceNeg, if_true, if_false, ite_true, ite_false, true_and, and_true, false_and, and_false, eq_self, reduceIte, Bool.false_eq_true, Nat.reduceBEq, reduceCtorEq, or_true, true_or, or_false, false_or, xel, Int.toNat_natCast, Int.toNat_add, Int.toNat_mul, ok_173 R.1, hb, s_look R, if_pos q, ok_173 R'.1]
    rw [xset_xset, w32_id (by omega) (by omega)]
    rfl
  · refine Or.inr ⟨fun z => q (hk.mpr z), ?_⟩
    unfold f_X12_takesSign
    simp (disch := omega) only [↓reduceIte, ↓bbind, ↓bxgf, ↓bxpf, ↓bxal, ↓bxas, ↓bxrc, ↓exrc, xbo, xok_xset, xia_xset, xln_xset, xm_xset, xok_xarr, xia_xarr, xln_xarr, xm_xarr, Option.bind_some, Int.reduceToNat, Nat.reduceEqDiff, Nat.reduceSub, Int.reduceLT, Int.reduceLE, Int.reduceEq, Int.reduceNeg, if_true, if_false, ite_true, ite_false, true_and, and_true, false_and, and_false, eq_self, reduceIte, Bool.false_eq_true, Nat.reduceBEq, reduceCtorEq, or_true, true_or, or_false, false_or, xel, Int.toNat_natCast, Int.toNat_add, Int.toNat_mul, ok_173 R.1, hb, s_look R, if_neg q]
theorem s_asksSign {T : Nat → Int} {L : Nat} {h : xa_H} {p : Nat} {b : Bool} (R : Rx T L h p b) {c : Int} (hc : gsg c) :
    ∃ h', f_X12_asksSign 173 c h = some h' ∧ Fx DB h h' ∧ (((tk_k T L p b = 3 ∧ T p = c) ∧ Rx T L h' (tk_n T L p b).1 (tk_n T L p b).2) ∨ (¬(tk_k T L p b = 3 ∧ T p = c) ∧ Bx h' (1, p))) := by
  have R' := rx_at R
  have hb := R.2.2.2.1
  rcases s_takesSign R hc with ⟨q, e, R2, F2⟩ | ⟨q, e⟩
  · refine ⟨_, ?_, F2, Or.inl ⟨q, R2⟩⟩
    unfold f_X12_asksSign
    simp (disch := omega) only [↓reduceIte, ↓bbind, ↓bxgf, ↓bxpf, ↓bxal, ↓bxas, ↓bxrc, ↓exrc, xbo, xok_xset, xia_xset, xln_xset, xm_xset, xok_xarr, xia_xarr, xln_xarr, xm_xarr, Option.bind_some, Int.reduceToNat, Nat.reduceEqDiff, Nat.reduceSub, Int.reduceLT, Int.reduceLE, Int.reduceEq, Int.reduceNeg, if_true, if_false, ite_true, ite_false, true_and, and_true, false_and, and_false, eq_self, reduceIte, Bool.false_eq_true, Nat.reduceBEq, reduceCtorEq, or_true, true_or, or_false, false_or, xel, Int.toNat_natCast, Int.toNat_add, Int.toNat_mul, ok_173 R.1, hb, e]
  · refine ⟨_, ?_, ?_, Or.inr ⟨q, bx_fail R'.1 1 p (by decide)⟩⟩
    · unfold f_X12_asksSign
      simp (disch := omega) only [↓reduceIte, ↓bbind, ↓bxgf, ↓bxpf, ↓bxal, ↓bxas, ↓bxrc, ↓exrc, xbo, xok_xset, xia_xset, xln_xset, xm_xset, xok_xarr, xia_xarr, xln_xarr, xm_xarr, Option.bind_some, Int.reduceToNat, Nat.reduceEqDiff, Nat.reduceSub, Int.reduceLT, Int.reduceLE, Int.reduceEq, Int.reduceNeg, if_true, if_false, ite_true, ite_false, true_and, and_true, false_and, and_false, eq_self, reduceIte, Bool.false_eq_true, Nat.reduceBEq, reduceCtorEq, or_true, true_or, or_false, false_or, xel, Int.toNat_natCast, Int.toNat_add, Int.toNat_mul, ok_173 R.1, hb, e, ok_173 R'.1, s_fail R'.1 (show xm (xset h 173 2 (p : Int)) 173 5 = 0 from hb)]
      rfl
    · exact (rx_fx.set rfl).set rfl
/-- the fault of a number, 0 to most -/
def nFt (T : Nat → Int) (L p : Nat) (b : Bool) (most : Int) : Option (Nat × Nat) := if tk_k T L p b = 2 then (if 4 < tk_de T L p - p then some (1, p + 4) else if most < tk_v T L p then some (2, p) else none) else some (1, p)
theorem s_numL {T : Nat → Int} {L : Nat} {h : xa_H} {p : Nat} (S : SH h) (hT : xm h 174 = T) (hL : xm h 173 3 = (L : Int)) (hL2 : L ≤ 1600) (hb : xm h 173 5 = 0) (hd : tk_d T L p = true) (m : Int) :
    (tk_de T L p - p ≤ 4 ∧ xit (fun s => f_X12_number_L49 173 0 m (p : Int) s.1 s.2) xFU ((0, xset h 173 2 (p : Int))) = some (.inr (tk_v T L p, xset h 173 2 (tk_de T L p : Int)))) ∨
    (4 < tk_de T L p - p ∧ xit (fun s => f_X12_number_L49 173 0 m (p : Int) s.1 s.2) xFU ((0, xset h 173 2 (p : Int))) = some (.inl (0, xset (xset (xset h 173 2 ((p + 4 : Nat) : Int)) 173 5 1) 173 6 ((p + 4 : Nat) : Int)))) := by
  have hp := tk_di.mp hd
  have hde : tk_de T L p ≤ L := rn_le tk_d0 _ _ (by omega)
  have hg := tk_de_gt hd
  have hall : ∀ j, p ≤ j → j < tk_de T L p → tk_d T L j = true := fun j h1 h2 => rn_all (tk_d T L) L p j h1 h2
  have hst : ¬ tk_d T L (tk_de T L p) = true := by rw [tk_de_stop]; decide
  have nvb := tk_nv_b (T := T) (L := L) (p := p) (n := tk_de T L p - p) (fun j hj => (tk_di.mp (hall (p + j) (by omega) (by omega))).2)
  have step : ∀ i, i < 4 → i < tk_de T L p - p → (fun s : Int × xa_H => f_X12_number_L49 173 0 m (p : Int) s.1 s.2) (tk_nv T p i, xset h 173 2 ((p + i : Nat) : Int)) = some (.inl (tk_nv T p (i + 1), xset h 173 2 ((p + (i + 1) : Nat) : Int))) := by
    intro i h4 hi
    have z := tk_di.mp (hall (p + i) (by omega) (by omega))
    have t : xm h 174 (p + i) = T (p + i) := by rw [hT]
    have i1 : xia h 0 174 ((p + i : Nat) : Int) = true := ia_174 S (by omega) (by omega)
    have b1 := nvb i (by omega)
    have b2 : 10 ^ i ≤ 10 ^ 3 := Nat.pow_le_pow_right (by omega) (by omega)
    show f_X12_number_L49 173 0 m (p : Int) (tk_nv T p i) (xset h 173 2 ((p + i : Nat) : Int)) = _
    unfold f_X12_number_L49
    simp (disch := omega) only [↓reduceIte, ↓bbind, ↓bxgf, ↓bxpf, ↓bxal, ↓bxas, ↓bxrc, ↓exrc, xbo, xok_xset, xia_xset, xln_xset, xm_xset, xok_xarr, xia_xarr, xln_xarr, xm_xarr, Option.bind_some, Int.reduceToNat, Nat.reduceEqDiff, Nat.reduceSub, Int.reduceLT, Int.reduceLE, Int.reduceEq, Int.reduceNeg, if_true, if_false, ite_true, ite_false, true_and, and_true, false_and, and_false, eq_self, reduceIte, Bool.false_eq_true, Nat.reduceBEq, reduceCtorEq, or_true, true_or, or_false, false_or, xel, Int.toNat_natCast, Int.toNat_add, Int.toNat_mul, ok_173 S, pt_173_0 S, hL, i1, t, s_isDigit]
    rw [if_pos (by omega), if_pos (show 48 ≤ T (p + i) ∧ T (p + i) ≤ 57 by omega), if_neg (show ¬ (1 : Int) = 0 by decide), w32_id (z := ((p + i : Nat) : Int) - (p : Int)) (by omega) (by omega), if_neg (by omega), w32_id (z := 10 * tk_nv T p i) (by omega) (by omega), w32_id (z := 10 * tk_nv T p i + T (p + i)) (by omega) (by omega), w32_id (z := 10 * tk_nv T p i + T (p + i) - 48) (by omega) (by omega), xset_xset, w32_id (by omega) (by omega)]
    have e1 : 10 * tk_nv T p i + T (p + i) - 48 = tk_nv T p (i + 1) := by
      show _ = 10 * tk_nv T p i + (T (p + i) - 48)
      omega
    have e2 : ((p + i : Nat) : Int) + 1 = ((p + (i + 1) : Nat) : Int) := by omega
    rw [e1, e2]
  have run : ∀ (N : Nat), N ≤ 4 → N ≤ tk_de T L p - p → ∀ e, (fun s : Int × xa_H => f_X12_number_L49 173 0 m (p : Int) s.1 s.2) (tk_nv T p N, xset h 173 2 ((p + N : Nat) : Int)) = some (.inr e) → xit (fun s => f_X12_number_L49 173 0 m (p : Int) s.1 s.2) xFU ((0, xset h 173 2 (p : Int))) = some e := by
    intro N h4 hN e he
    exact xit_seq (f := fun s : Int × xa_H => f_X12_number_L49 173 0 m (p : Int) s.1 s.2) (fun i => (tk_nv T p i, xset h 173 2 ((p + i : Nat) : Int))) N e (fun i hi => step i (by omega) (by omega)) he (by omega)
  by_cases q : 4 < tk_de T L p - p
  · refine Or.inr ⟨q, run 4 (by omega) (by omega) _ ?_⟩
    have z := tk_di.mp (hall (p + 4) (by omega) (by omega))
    have t : xm h 174 (p + 4) = T (p + 4) := by rw [hT]
    have i1 : xia h 0 174 ((p + 4 : Nat) : Int) = true := ia_174 S (by omega) (by omega)
    have S' : SH (xset h 173 2 ((p + 4 : Nat) : Int)) := S.set (by decide +kernel)
    show f_X12_number_L49 173 0 m (p : Int) (tk_nv T p 4) (xset h 173 2 ((p + 4 : Nat) : Int)) = _
    unfold f_X12_number_L49
    simp (disch := omega) only [↓reduceIte, ↓bbind, ↓bxgf, ↓bxpf, ↓bxal, ↓bxas, ↓bxrc, ↓exrc, xbo, xok_xset, xia_xset, xln_xset, xm_xset, xok_xarr, xia_xarr, xln_xarr, xm_xarr, Option.bind_some, Int.reduceToNat, Nat.reduceEqDiff, Nat.reduceSub, Int.reduceLT, Int.reduceLE, Int.reduceEq, Int.reduceNeg, if_true, if_false, ite_true, ite_false, true_and, and_true, false_and, and_false, eq_self, reduceIte, Bool.false_eq_true, Nat.reduceBEq, reduceCtorEq, or_true, true_or, or_false, false_or, xel, Int.toNat_natCast, Int.toNat_add, Int.toNat_mul, ok_173 S, pt_173_0 S, hL, i1, t, s_isDigit]
    rw [if_pos (by omega), if_pos (show 48 ≤ T (p + 4) ∧ T (p + 4) ≤ 57 by omega), if_neg (show ¬ (1 : Int) = 0 by decide), w32_id (z := ((p + 4 : Nat) : Int) - (p : Int)) (by omega) (by omega), if_pos (by omega), s_fail S' (show xm (xset h 173 2 ((p + 4 : Nat) : Int)) 173 5 = 0 from hb)]
    rfl
  · refine Or.inl ⟨by omega, ?_⟩
    refine run (tk_de T L p - p) (by omega) (by omega) _ ?_
    have e : p + (tk_de T L p - p) = tk_de T L p := by omega
    have ev : tk_v T L p = tk_nv T p (tk_de T L p - p) := by
      unfold tk_v
      rw [if_pos hp.1, if_neg (fun g => by have := tk_li.mp g; omega), if_pos hd, show min (tk_de T L p - p) 4 = tk_de T L p - p by omega]
    rw [e, ev]
    show f_X12_number_L49 173 0 m (p : Int) _ _ = _
    unfold f_X12_number_L49
    simp (disch := omega) only [↓reduceIte, ↓bbind, ↓bxgf, ↓bxpf, ↓bxal, ↓bxas, ↓bxrc, ↓exrc, xbo, xok_xset, xia_xset, xln_xset, xm_xset, xok_xarr, xia_xarr, xln_xarr, xm_xarr, Option.bind_some, Int.reduceToNat, Nat.reduceEqDiff, Nat.reduceSub, Int.reduceLT, Int.reduceLE, Int.reduceEq, Int.reduceNeg, if_true, if_false, ite_true, ite_false, true_and, and_true, false_and, and_false, eq_self, reduceIte, Bool.false_eq_true, Nat.reduceBEq, reduceCtorEq, or_true, true_or, or_false, false_or, xel, Int.toNat_natCast, Int.toNat_add, Int.toNat_mul, ok_173 S, pt_173_0 S, hL]
    by_cases q2 : tk_de T L p < L
    · have t : xm h 174 (tk_de T L p) = T (tk_de T L p) := by rw [hT]
      have i1 : xia h 0 174 ((tk_de T L p : Nat) : Int) = true := ia_174 S (by omega) (by omega)
      rw [if_pos (by omega)]
      simp only [i1, if_true, t, s_isDigit, Option.bind_some]
      rw [tk_di] at hst
      rw [if_neg (show ¬(48 ≤ T (tk_de T L p) ∧ T (tk_de T L p) ≤ 57) by omega), if_pos rfl]
    · rw [if_neg (by omega)]
theorem s_number {T : Nat → Int} {L : Nat} {h : xa_H} {p : Nat} {b : Bool} (R : Rx T L h p b) (m : Int) :
    ∃ v h', f_X12_number 173 0 m h = some (v, h') ∧ Fx DB h h' ∧ ((nFt T L p b m = none ∧ tk_k T L p b = 2 ∧ v = tk_v T L p ∧ Rx T L h' (tk_n T L p b).1 (tk_n T L p b).2) ∨ (∃ e, nFt T L p b m = some e ∧ Bx h' e)) := by
  have R' := rx_at R
  have hb := R.2.2.2.1
  have hat : xm (xset h 173 2 (p : Int)) 173 2 = (p : Int) := by rw [xm_xset, if_pos ⟨rfl, rfl⟩]
  have fl : f_X12_number_J30 173 (xset h 173 2 (p : Int)) = some (0, xset (xset (xset h 173 2 (p : Int)) 173 5 1) 173 6 (p : Int)) := by
    unfold f_X12_number_J30
    simp (disch := omega) only [↓reduceIte, ↓bbind, ↓bxgf, ↓bxpf, ↓bxal, ↓bxas, ↓bxrc, ↓exrc, xbo, xok_xset, xia_xset, xln_xset, xm_xset, xok_xarr, xia_xarr, xln_xarr, xm_xarr, Option.bind_some, Int.reduceToNat, Nat.reduceEqDiff, Nat.reduceSub, Int.reduceLT, Int.reduceLE, Int.reduceEq, Int.reduceNeg, if_true, if_false, ite_true, ite_false, true_and, and_true, false_and, and_false, eq_self, reduceIte, Bool.false_eq_true, Nat.reduceBEq, reduceCtorEq, or_true, true_or, or_false, false_or, xel, Int.toNat_natCast, Int.toNat_add, Int.toNat_mul, ok_173 R.1, s_fail R'.1 (show xm (xset h 173 2 (p : Int)) 173 5 = 0 from hb)]
  by_cases q : tk_k T L p b = 2
  · obtain ⟨q1, q2⟩ := tk_k_n.mp q
    have q3 : ¬ ((p : Int) = xm h 173 4) := fun e => by
      have := (R.2.2.2.2.2.2.2.1).mpr e.symm
      rw [q1] at this
      cases this
    have start : ∀ (v : Int) (h' : xa_H), (xit (fun s => f_X12_number_L49 173 0 m (p : Int) s.1 s.2) xFU ((0, xset h 173 2 (p : Int)))).bind (fun e29 => xel e29 (fun r => some r) (fun y30 => f_X12_number_J129 173 0 m (p : Int) y30.1 y30.2)) = some (v, h') → f_X12_number 173 0 m h = some (v, h') := by
      intro v h' e
      rw [← e]
      unfold f_X12_number
      simp (disch := omega) only [↓reduceIte, ↓bbind, ↓bxgf, ↓bxpf, ↓bxal, ↓bxas, ↓bxrc, ↓exrc, xbo, xok_xset, xia_xset, xln_xset, xm_xset, xok_xarr, xia_xarr, xln_xarr, xm_xarr, Option.bind_some, Int.reduceToNat, Nat.reduceEqDiff, Nat.reduceSub, Int.reduceLT, Int.reduceLE, Int.reduceEq, Int.reduceNeg, if_true, if_false, ite_true, ite_false, true_and, and_true, false_and, and_false, eq_self, reduceIte, Bool.false_eq_true, Nat.reduceBEq, reduceCtorEq, or_true, true_or, or_false, false_or, xel, Int.toNat_natCast, Int.toNat_add, Int.toNat_mul, ok_173 R.1, hb, s_look R, s_isDigit, if_pos (lkv_d.mpr q2), ok_173 R'.1, if_neg q3]
    rcases s_numL R.1 R.2.1 R.2.2.1 R.2.2.2.2.2.1 hb q2 m with ⟨z, e⟩ | ⟨z, e⟩
    · have vb := tk_v_b q2
      have S2 : SH (xset (xset h 173 2 (tk_de T L p : Int)) 173 4 (tk_de T L p : Int)) := (R.1.set (by decide +kernel)).set (by decide +kernel)
      have w := rx_wn R (Or.inr q)
      rw [tk_st_d q2] at w
      by_cases y : m < tk_v T L p
      · refine ⟨tk_v T L p, xset (xset (xset (xset h 173 2 (tk_de T L p : Int)) 173 4 (tk_de T L p : Int)) 173 5 2) 173 6 (p : Int), start _ _ ?_, ?_, Or.inr ⟨(2, p), ?_, bx_fail S2 2 p (by decide)⟩⟩
        · rw [e]
          show f_X12_number_J129 173 0 m (p : Int) (tk_v T L p) (xset h 173 2 (tk_de T L p : Int)) = _
          unfold f_X12_number_J129
          simp (disch := omega) only [↓reduceIte, ↓bbind, ↓bxgf, ↓bxpf, ↓bxal, ↓bxas, ↓bxrc, ↓exrc, xbo, xok_xset, xia_xset, xln_xset, xm_xset, xok_xarr, xia_xarr, xln_xarr, xm_xarr, Option.bind_some, Int.reduceToNat, Nat.reduceEqDiff, Nat.reduceSub, Int.reduceLT, Int.reduceLE, Int.reduceEq, Int.reduceNeg, if_true, if_false, ite_true, ite_false, true_and, and_true, false_and, and_false, eq_self, reduceIte, Bool.false_eq_true, Nat.reduceBEq, reduceCtorEq, or_true, true_or, or_false, false_or, xel, Int.toNat_natCast, Int.toNat_add, Int.toNat_mul, ok_173 R.1, s_X12_isIn, if_pos (Or.inr y : tk_v T L p < 0 ∨ m < tk_v T L p), s_fail S2 (show xm (xset (xset h 173 2 (tk_de T L p : Int)) 173 4 (tk_de T L p : Int)) 173 5 = 0 from hb), ok_173 S2]
        · exact ((((Fx.refl DB h).set rfl).set rfl).set rfl).set rfl
        · unfold nFt
          rw [if_pos q, if_neg (by omega), if_pos y]
      · refine ⟨tk_v T L p, _, start _ _ ?_, ?_, Or.inl ⟨?_, q, rfl, w⟩⟩
        · rw [e]
          show f_X12_number_J129 173 0 m (p : Int) (tk_v T L p) (xset h 173 2 (tk_de T L p : Int)) = _
          unfold f_X12_number_J129
          simp (disch := omega) only [↓reduceIte, ↓bbind, ↓bxgf, ↓bxpf, ↓bxal, ↓bxas, ↓bxrc, ↓exrc, xbo, xok_xset, xia_xset, xln_xset, xm_xset, xok_xarr, xia_xarr, xln_xarr, xm_xarr, Option.bind_some, Int.reduceToNat, Nat.reduceEqDiff, Nat.reduceSub, Int.reduceLT, Int.reduceLE, Int.reduceEq, Int.reduceNeg, if_true, if_false, ite_true, ite_false, true_and, and_true, false_and, and_false, eq_self, reduceIte, Bool.false_eq_true, Nat.reduceBEq, reduceCtorEq, or_true, true_or, or_false, false_or, xel, Int.toNat_natCast, Int.toNat_add, Int.toNat_mul, ok_173 R.1, s_X12_isIn]
          rw [if_neg (show ¬(tk_v T L p < 0 ∨ m < tk_v T L p) by omega), if_neg (by decide)]
        · exact ((Fx.refl DB h).set rfl).set rfl
        · unfold nFt
          rw [if_pos q, if_neg (by omega), if_neg y]
    · have S2 : SH (xset h 173 2 ((p + 4 : Nat) : Int)) := R.1.set (by decide +kernel)
      refine ⟨0, _, start _ _ ?_, ?_, Or.inr ⟨(1, p + 4), ?_, bx_fail S2 1 (p + 4) (by decide)⟩⟩
      · rw [e]
        rfl
      · exact (((Fx.refl DB h).set rfl).set rfl).set rfl
      · unfold nFt
        rw [if_pos q, if_pos z]
  · refine ⟨0, _, ?_, ?_, Or.inr ⟨(1, p), ?_, bx_fail R'.1 1 p (by decide)⟩⟩
    · by_cases y : tk_d T L p = true
      · have yb : b = true := by
          by_cases g : b = true
          · exact g
          · exact absurd (tk_k_n.mpr ⟨by simpa using g, y⟩) q
        have q3 : (p : Int) = xm h 173 4 := (R.2.2.2.2.2.2.2.1.mp yb).symm
        unfold f_X12_number
        simp (disch := omega) only [↓reduceIte, ↓bbind, ↓bxgf, ↓bxpf, ↓bxal, ↓bxas, ↓bxrc, ↓exrc, xbo, xok_xset, xia_xset, xln_xset, xm_xset, xok_xarr, xia_xarr, xln_xarr, xm_xarr, Option.bind_some, Int.reduceToNat, Nat.reduceEqDiff, Nat.reduceSub, Int.reduceLT, Int.reduceLE, Int.reduceEq, Int.reduceNeg, if_true, if_false, ite_true, ite_false, true_and, and_true, false_and, and_false, eq_self, reduceIte, Bool.false_eq_true, Nat.reduceBEq, reduceCtorEq, or_true, true_or, or_false, false_or, xel, Int.toNat_natCast, Int.toNat_add, Int.toNat_mul, ok_173 R.1, hb, s_look R, s_isDigit, if_pos (lkv_d.mpr y), ok_173 R'.1, if_pos q3, fl]
        rfl
      · unfold f_X12_number
        simp (disch := omega) only [↓reduceIte, ↓bbind, ↓bxgf, ↓bxpf, ↓bxal, ↓bxas, ↓bxrc, ↓exrc, xbo, xok_xset, xia_xset, xln_xset, xm_xset, xok_xarr, xia_xarr, xln_xarr, xm_xarr, Option.bind_some, Int.reduceToNat, Nat.reduceEqDiff, Nat.reduceSub, Int.reduceLT, Int.reduceLE, Int.reduceEq, Int.reduceNeg, if_true, if_false, ite_true, ite_false, true_and, and_true, false_and, and_false, eq_self, reduceIte, Bool.false_eq_true, Nat.reduceBEq, reduceCtorEq, or_true, true_or, or_false, false_or, xel, Int.toNat_natCast, Int.toNat_add, Int.toNat_mul, ok_173 R.1, hb, s_look R, s_isDigit, if_neg (fun g => y (lkv_d.mp g)), fl]
        rfl
    · exact (rx_fx.set rfl).set rfl
    · unfold nFt
      rw [if_neg q]
