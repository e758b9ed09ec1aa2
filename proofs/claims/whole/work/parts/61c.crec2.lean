/-! ===== sums, tests ===== -/
theorem c_sum {T : Nat → Int} {L : Nat} {q : Bool} {rc : Nat → Int → Int → xa_H → Option (Int × xa_H)} {d m : Nat} {f : pS → pR} (hf : pOK L q false m f) (hr : cF T L q rc 4 d f) (h : xa_H) (s : pS) (P : Px T L q h s) (hl : s.2.2.length ≤ s.1) : cR T L q h (f_X3_sum rc 4 ((6 - d : Nat) : Int) h) (l1 T L f (pO2 T L) s) := by
  have S := px_S P
  have pl := px_le P
  have sc : ∀ (g : xa_H) (z : pS), Px T L q g z → xrc g 3 4 (f_X3_signCode 4 43 (-11) 45 (-12) g) = some (oC (pO2 T L) z) := fun g z Q => by
    rw [xrc4 (px_S Q), q_signCode Q, oC2]
  unfold f_X3_sum l1
  rw [xrc4 S]
  obtain ⟨v, h1, e, F1, o⟩ := hr h s P hl
  rw [e]
  simp only [Option.bind_some]
  have S1 := F1.sh DP_nf S
  rcases o with ⟨s1, e1, rfl, P1⟩ | ⟨er, e1, rfl, E1⟩
  · rw [sc h1 s1 P1, e1, bd_l]
    simp only [Option.bind_some]
    refine cR_tr F1 (xbo_cR ?_)
    have z := hf.sl' e1 pl.1 hl
    refine lp_cR (F := fun s => f_X3_sum_L22 rc 4 ((6 - d : Nat) : Int) s.1 s.2.1 s.2.2.1 s.2.2.2) hf pO2_ok (fun c k h => by unfold f_X3_sum_L22; exact if_pos rfl) (fun k h => by
      show f_X3_sum_L22 rc 4 _ 1 (-22) k h = _
      unfold f_X3_sum_L22
      rw [if_neg (by decide), if_pos rfl]) (fun c h => by
      show f_X3_sum_L22 rc 4 _ 1 c 1600 h = _
      unfold f_X3_sum_L22
      by_cases y : c = -22
      · rw [if_neg (by decide), if_pos y]
      · rw [if_neg (by decide), if_neg y, if_neg (by decide)]) (fun g z c k hk Q hz hc => ?_) 1600 0 s1 h1 (by omega) P1 z.1 xFU (by unfold xFU; omega)
    have Sg := px_S Q
    have zl := (pO2_some hc).1
    obtain ⟨g1, a1, a2, a3⟩ := q_step Q
    have nl := pN_lt (T := T) zl
    have sl := pN_sl (T := T) zl hz
    have kk : (k : Int) < 1600 := by clear pl zl nl sl hz; omega
    have cc4 : c = 1 ∨ c = 2 ∨ c = 3 ∨ c = 4 := by
      rcases (pO2_some hc).2 with y | y
      · exact Or.inl y
      · exact Or.inr (Or.inl y)
    have w1 : w32 ((k : Int) + 1) = ((k + 1 : Nat) : Int) := by rw [w32_id (by omega) (by omega)]; omega
    unfold f_X3_sum_L22
    dsimp only
    rw [if_neg (show ¬ (1 : Int) = 0 by decide), if_neg (cof_ne cc4), if_pos kk]
    obtain ⟨v2, g2, b1, b2, b3⟩ := hr g1 (pN T L z) a2 (by omega)
    have S1' := px_S a2
    simp (disch := omega) only [↓reduceIte, ↓bbind, ↓bxgf, ↓bxpf, ↓bxal, ↓bxas, ↓bxrc, ↓exrc, xbo, xok_xset, xia_xset, xln_xset, xm_xset, xok_xarr, xia_xarr, xln_xarr, xm_xarr, Option.bind_some, Int.reduceToNat, Nat.reduceEqDiff, Nat.reduceSub, Int.reduceLT, Int.reduceLE, Int.reduceEq, Int.reduceNeg, if_true, if_false, ite_true, ite_false, true_and, and_true, false_and, and_false, eq_self, reduceIte, Bool.false_eq_true, Nat.reduceBEq, reduceCtorEq, or_true, true_or, or_false, false_or, xel, Int.toNat_natCast, Int.toNat_add, Int.toNat_mul, ok_4 Sg, pt_4_0 Sg, xrc2 Sg, a1, ok_2 Sg, ok_4 S1', b1]
    have F2 := (DC_DP a3).tr b2
    rcases b3 with ⟨s2, c1, rfl, c3⟩ | ⟨er, c1, rfl, c3⟩
    · have sl2 := hf.sl c1 nl.2.1
      obtain ⟨g3, d1, d2, d3⟩ := q_put c3 (c := c) (v := cof c) rfl (by omega)
      rw [if_neg (show ¬ (1 : Int) = 0 by decide), if_pos (ok_4 (px_S c3)), d1]
      simp only [Option.bind_some]
      rw [if_neg (show ¬ (1 : Int) = 0 by decide)]
      unfold f_X3_sum_J68L22
      rw [sc g3 _ d2, w1]
      exact ⟨1, _, g3, rfl, F2.tr d3, Or.inl ⟨s2, c1, rfl, d2, rfl⟩⟩
    · obtain ⟨sg, esc⟩ := q_sgAny c3.1 43 (-11) 45 (-12)
      rw [if_pos rfl]
      unfold f_X3_sum_J67L22 f_X3_sum_J68L22
      rw [xrc4 c3.1, esc, w1]
      exact ⟨0, sg, g2, rfl, F2, Or.inr ⟨er, c1, rfl, c3⟩⟩
  · obtain ⟨cc, esc⟩ := q_sgAny E1.1 43 (-11) 45 (-12)
    rw [xrc4 E1.1, esc, e1, bd_r]
    simp only [Option.bind_some]
    rw [xit_end (f := fun s => f_X3_sum_L22 rc 4 ((6 - d : Nat) : Int) s.1 s.2.1 s.2.2.1 s.2.2.2) (e := (0, h1)) (by unfold f_X3_sum_L22; exact if_pos rfl) (by unfold xFU; omega)]
    exact cR_inr F1 E1
theorem c_both {T : Nat → Int} {L : Nat} {q : Bool} {rc : Nat → Int → Int → xa_H → Option (Int × xa_H)} {d m : Nat} {f : pS → pR} (hf : pOK L q true m f) (hr : cF T L q rc 2 d f) (h : xa_H) (s : pS) (P : Px T L q h s) (hl : s.2.2.length ≤ s.1) : cR T L q h (f_X3_both rc 4 ((6 - d : Nat) : Int) h) (l1 T L f (pA1 T L) s) := by
  have S := px_S P
  have pl := px_le P
  have gw : ∀ (g : xa_H) (z : pS), Px T L q g z → xm g 2 7 = pW T L z := fun g z Q => Q.1.2.2.2.2.2.2.2
  unfold f_X3_both l1
  rw [xrc4 S]
  obtain ⟨v, h1, e, F1, o⟩ := hr h s P hl
  rw [e]
  simp only [Option.bind_some]
  have S1 := F1.sh DP_nf S
  rcases o with ⟨s1, e1, rfl, P1⟩ | ⟨er, e1, rfl, E1⟩
  · rw [e1, bd_l]
    refine cR_tr F1 (xbo_cR ?_)
    have z := hf.sl' e1 pl.1 hl
    refine lp_cR2 (F := fun s => f_X3_both_L8 rc 4 ((6 - d : Nat) : Int) s.1 s.2.1 s.2.2) hf pA1_ok (fun k h => by unfold f_X3_both_L8; exact if_pos rfl) (fun g z k Q hz => ?_) (fun g z Q => ?_) (fun g z c k hk Q hz hc => ?_) 1600 0 s1 h1 (by omega) P1 z.1 xFU (by unfold xFU; omega)
    · have Sg := px_S Q
      have hw : ¬ pW T L z = 18 := fun y => by
        unfold pA1 at hz
        rw [if_pos y] at hz
        cases hz
      show f_X3_both_L8 rc 4 _ 1 k g = _
      unfold f_X3_both_L8
      simp (disch := omega) only [↓reduceIte, ↓bbind, ↓bxgf, ↓bxpf, ↓bxal, ↓bxas, ↓bxrc, ↓exrc, xbo, xok_xset, xia_xset, xln_xset, xm_xset, xok_xarr, xia_xarr, xln_xarr, xm_xarr, Option.bind_some, Int.reduceToNat, Nat.reduceEqDiff, Nat.reduceSub, Int.reduceLT, Int.reduceLE, Int.reduceEq, Int.reduceNeg, if_true, if_false, ite_true, ite_false, true_and, and_true, false_and, and_false, eq_self, reduceIte, Bool.false_eq_true, Nat.reduceBEq, reduceCtorEq, or_true, true_or, or_false, false_or, xel, Int.toNat_natCast, Int.toNat_add, Int.toNat_mul, ok_4 Sg, ok_2 Sg, pt_4_0 Sg, gw g z Q, if_neg hw]
    · have Sg := px_S Q
      show f_X3_both_L8 rc 4 _ 1 1600 g = _
      unfold f_X3_both_L8
      simp (disch := omega) only [↓reduceIte, ↓bbind, ↓bxgf, ↓bxpf, ↓bxal, ↓bxas, ↓bxrc, ↓exrc, xbo, xok_xset, xia_xset, xln_xset, xm_xset, xok_xarr, xia_xarr, xln_xarr, xm_xarr, Option.bind_some, Int.reduceToNat, Nat.reduceEqDiff, Nat.reduceSub, Int.reduceLT, Int.reduceLE, Int.reduceEq, Int.reduceNeg, if_true, if_false, ite_true, ite_false, true_and, and_true, false_and, and_false, eq_self, reduceIte, Bool.false_eq_true, Nat.reduceBEq, reduceCtorEq, or_true, true_or, or_false, false_or, xel, Int.toNat_natCast, Int.toNat_add, Int.toNat_mul, ok_4 Sg, ok_2 Sg, pt_4_0 Sg]
      split <;> rfl
    · have Sg := px_S Q
      have zl := (pA1_some hc).1
      have hc2 := (pA1_some hc).2
      have hw : pW T L z = 18 := by
        unfold pA1 at hc
        by_cases y : pW T L z = 18
        · exact y
        · rw [if_neg y] at hc
          cases hc
      obtain ⟨g1, a1, a2, a3⟩ := q_step Q
      have nl := pN_lt (T := T) zl
      have sl := pN_sl (T := T) zl hz
      have kk : (k : Int) < 1600 := by clear pl zl nl sl hz; omega
      have w1 : w32 ((k : Int) + 1) = ((k + 1 : Nat) : Int) := by rw [w32_id (by omega) (by omega)]; omega
      obtain ⟨v2, g2, b1, b2, b3⟩ := hr g1 (pN T L z) a2 (by omega)
      have S1' := px_S a2
      show ∃ v h', f_X3_both_L8 rc 4 ((6 - d : Nat) : Int) 1 (k : Int) g = _ ∧ _
      unfold f_X3_both_L8
      simp (disch := omega) only [↓reduceIte, ↓bbind, ↓bxgf, ↓bxpf, ↓bxal, ↓bxas, ↓bxrc, ↓exrc, xbo, xok_xset, xia_xset, xln_xset, xm_xset, xok_xarr, xia_xarr, xln_xarr, xm_xarr, Option.bind_some, Int.reduceToNat, Nat.reduceEqDiff, Nat.reduceSub, Int.reduceLT, Int.reduceLE, Int.reduceEq, Int.reduceNeg, if_true, if_false, ite_true, ite_false, true_and, and_true, false_and, and_false, eq_self, reduceIte, Bool.false_eq_true, Nat.reduceBEq, reduceCtorEq, or_true, true_or, or_false, false_or, xel, Int.toNat_natCast, Int.toNat_add, Int.toNat_mul, ok_4 Sg, pt_4_0 Sg, gw g z Q, if_pos hw, if_pos kk, ok_2 Sg, a1, ok_4 S1', b1, w1]
      have F2 := (DC_DP a3).tr b2
      rcases b3 with ⟨s2, c1, rfl, c3⟩ | ⟨er, c1, rfl, c3⟩
      · have sl2 := hf.sl c1 nl.2.1
        obtain ⟨g3, d1, d2, d3⟩ := q_put c3 (c := c) (v := -20) (by rw [hc2]; rfl) (by omega)
        rw [if_neg (show ¬ (1 : Int) = 0 by decide), if_pos (ok_4 (px_S c3)), d1]
        simp only [Option.bind_some]
        rw [if_neg (show ¬ (1 : Int) = 0 by decide)]
        exact ⟨1, g3, rfl, F2.tr d3, Or.inl ⟨s2, c1, rfl, d2⟩⟩
      · rw [if_pos rfl]
        exact ⟨0, g2, rfl, F2, Or.inr ⟨er, c1, rfl, c3⟩⟩
  · rw [e1, bd_r]
    rw [xit_end (f := fun s => f_X3_both_L8 rc 4 ((6 - d : Nat) : Int) s.1 s.2.1 s.2.2) (e := (0, h1)) (by unfold f_X3_both_L8; exact if_pos rfl) (by unfold xFU; omega)]
    exact cR_inr F1 E1
theorem c_test {T : Nat → Int} {L : Nat} {q : Bool} {rc : Nat → Int → Int → xa_H → Option (Int × xa_H)} {d m : Nat} {f : pS → pR} (hf : pOK L q true m f) (hr : cF T L q rc 1 d f) (h : xa_H) (s : pS) (P : Px T L q h s) (hl : s.2.2.length ≤ s.1) : cR T L q h (f_X3_test rc 4 ((6 - d : Nat) : Int) h) (l1 T L f (pA2 T L) s) := by
  have S := px_S P
  have pl := px_le P
  have gw : ∀ (g : xa_H) (z : pS), Px T L q g z → xm g 2 7 = pW T L z := fun g z Q => Q.1.2.2.2.2.2.2.2
  unfold f_X3_test l1
  rw [xrc4 S]
  obtain ⟨v, h1, e, F1, o⟩ := hr h s P hl
  rw [e]
  simp only [Option.bind_some]
  have S1 := F1.sh DP_nf S
  rcases o with ⟨s1, e1, rfl, P1⟩ | ⟨er, e1, rfl, E1⟩
  · rw [e1, bd_l]
    refine cR_tr F1 (xbo_cR ?_)
    have z := hf.sl' e1 pl.1 hl
    refine lp_cR2 (F := fun s => f_X3_test_L8 rc 4 ((6 - d : Nat) : Int) s.1 s.2.1 s.2.2) hf pA2_ok (fun k h => by unfold f_X3_test_L8; exact if_pos rfl) (fun g z k Q hz => ?_) (fun g z Q => ?_) (fun g z c k hk Q hz hc => ?_) 1600 0 s1 h1 (by omega) P1 z.1 xFU (by unfold xFU; omega)
    · have Sg := px_S Q
      have hw : ¬ pW T L z = 17 := fun y => by
        unfold pA2 at hz
        rw [if_pos y] at hz
        cases hz
      show f_X3_test_L8 rc 4 _ 1 k g = _
      unfold f_X3_test_L8
      simp (disch := omega) only [↓reduceIte, ↓bbind, ↓bxgf, ↓bxpf, ↓bxal, ↓bxas, ↓bxrc, ↓exrc, xbo, xok_xset, xia_xset, xln_xset, xm_xset, xok_xarr, xia_xarr, xln_xarr, xm_xarr, Option.bind_some, Int.reduceToNat, Nat.reduceEqDiff, Nat.reduceSub, Int.reduceLT, Int.reduceLE, Int.reduceEq, Int.reduceNeg, if_true, if_false, ite_true, ite_false, true_and, and_true, false_and, and_false, eq_self, reduceIte, Bool.false_eq_true, Nat.reduceBEq, reduceCtorEq, or_true, true_or, or_false, false_or, xel, Int.toNat_natCast, Int.toNat_add, Int.toNat_mul, ok_4 Sg, ok_2 Sg, pt_4_0 Sg, gw g z Q, if_neg hw]
    · have Sg := px_S Q
      show f_X3_test_L8 rc 4 _ 1 1600 g = _
      unfold f_X3_test_L8
      simp (disch := omega) only [↓reduceIte, ↓bbind, ↓bxgf, ↓bxpf, ↓bxal, ↓bxas, ↓bxrc, ↓exrc, xbo, xok_xset, xia_xset, xln_xset, xm_xset, xok_xarr, xia_xarr, xln_xarr, xm_xarr, Option.bind_some, Int.reduceToNat, Nat.reduceEqDiff, Nat.reduceSub, Int.reduceLT, Int.reduceLE, Int.reduceEq, Int.reduceNeg, if_true, if_false, ite_true, ite_false, true_and, and_true, false_and, and_false, eq_self, reduceIte, Bool.false_eq_true, Nat.reduceBEq, reduceCtorEq, or_true, true_or, or_false, false_or, xel, Int.toNat_natCast, Int.toNat_add, Int.toNat_mul, ok_4 Sg, ok_2 Sg, pt_4_0 Sg]
      split <;> rfl
    · have Sg := px_S Q
      have zl := (pA2_some hc).1
      have hc2 := (pA2_some hc).2
      have hw : pW T L z = 17 := by
        unfold pA2 at hc
        by_cases y : pW T L z = 17
        · exact y
        · rw [if_neg y] at hc
          cases hc
      obtain ⟨g1, a1, a2, a3⟩ := q_step Q
      have nl := pN_lt (T := T) zl
      have sl := pN_sl (T := T) zl hz
      have kk : (k : Int) < 1600 := by clear pl zl nl sl hz; omega
      have w1 : w32 ((k : Int) + 1) = ((k + 1 : Nat) : Int) := by rw [w32_id (by omega) (by omega)]; omega
      obtain ⟨v2, g2, b1, b2, b3⟩ := hr g1 (pN T L z) a2 (by omega)
      have S1' := px_S a2
      show ∃ v h', f_X3_test_L8 rc 4 ((6 - d : Nat) : Int) 1 (k : Int) g = _ ∧ _
      unfold f_X3_test_L8
      simp (disch := omega) only [↓reduceIte, ↓bbind, ↓bxgf, ↓bxpf, ↓bxal, ↓bxas, ↓bxrc, ↓exrc, xbo, xok_xset, xia_xset, xln_xset, xm_xset, xok_xarr, xia_xarr, xln_xarr, xm_xarr, Option.bind_some, Int.reduceToNat, Nat.reduceEqDiff, Nat.reduceSub, Int.reduceLT, Int.reduceLE, Int.reduceEq, Int.reduceNeg, if_true, if_false, ite_true, ite_false, true_and, and_true, false_and, and_false, eq_self, reduceIte, Bool.false_eq_true, Nat.reduceBEq, reduceCtorEq, or_true, true_or, or_false, false_or, xel, Int.toNat_natCast, Int.toNat_add, Int.toNat_mul, ok_4 Sg, pt_4_0 Sg, gw g z Q, if_pos hw, if_pos kk, ok_2 Sg, a1, ok_4 S1', b1, w1]
      have F2 := (DC_DP a3).tr b2
      rcases b3 with ⟨s2, c1, rfl, c3⟩ | ⟨er, c1, rfl, c3⟩
      · have sl2 := hf.sl c1 nl.2.1
        obtain ⟨g3, d1, d2, d3⟩ := q_put c3 (c := c) (v := -21) (by rw [hc2]; rfl) (by omega)
        rw [if_neg (show ¬ (1 : Int) = 0 by decide), if_pos (ok_4 (px_S c3)), d1]
        simp only [Option.bind_some]
        rw [if_neg (show ¬ (1 : Int) = 0 by decide)]
        exact ⟨1, g3, rfl, F2.tr d3, Or.inl ⟨s2, c1, rfl, d2⟩⟩
      · rw [if_pos rfl]
        exact ⟨0, g2, rfl, F2, Or.inr ⟨er, c1, rfl, c3⟩⟩
  · rw [e1, bd_r]
    rw [xit_end (f := fun s => f_X3_test_L8 rc 4 ((6 - d : Nat) : Int) s.1 s.2.1 s.2.2) (e := (0, h1)) (by unfold f_X3_test_L8; exact if_pos rfl) (by unfold xFU; omega)]
    exact cR_inr F1 E1
