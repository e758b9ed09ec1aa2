/-! ===== the class's parser: what it asks of the reader ===== -/
def DP (a k : Nat) : Bool := (a == 2 && Nat.ble 3 k) || a == 5 || (a == 4 && k == 2)
theorem DP_nf : nofix DP := by unfold nofix; decide +kernel
theorem DC_DP {h h' : xa_H} (e : Fx DC h h') : Fx DP h h' := e.mono fun x k q => by
  unfold DP at q
  unfold DC
  simp only [Bool.or_eq_false_iff] at q
  exact q.1.1
/-- the codes so far -/
def Fc (h : xa_H) (c : List Int) : Prop := xm h 4 2 = (c.length : Int) ∧ ∀ i, i < c.length → xm h 5 i = cof (c.getD i 0)
def Px (T : Nat → Int) (L : Nat) (q : Bool) (h : xa_H) (s : pS) : Prop := Cx T L h s.1 s.2.1 ∧ Fc h s.2.2 ∧ xm h 4 3 = (if q = true then 1 else 0)
/-- what a reading came to -/
def cR (T : Nat → Int) (L : Nat) (q : Bool) (h : xa_H) (f : Option (Int × xa_H)) (r : pR) : Prop := ∃ v h', f = some (v, h') ∧ Fx DP h h' ∧ ((∃ s', r = .inl s' ∧ v = 1 ∧ Px T L q h' s') ∨ (∃ e, r = .inr e ∧ v = 0 ∧ Ex h' e))
theorem px_S {T : Nat → Int} {L : Nat} {q : Bool} {h : xa_H} {s : pS} (P : Px T L q h s) : SH h := P.1.1.1
theorem px_le {T : Nat → Int} {L : Nat} {q : Bool} {h : xa_H} {s : pS} (P : Px T L q h s) : s.1 ≤ L ∧ L ≤ 1600 := ⟨P.1.2.1, P.1.1.2.2.2.1⟩
theorem fc_mv {h h' : xa_H} {c : List Int} (F : Fc h c) (e : Fx DC h h') : Fc h' c := by
  have d4 : ∀ k, DC 4 k = false := fun k => rfl
  have d5 : ∀ k, DC 5 k = false := fun k => rfl
  exact ⟨(e.2.2.2 _ _ (d4 2)).trans F.1, fun i hi => (e.2.2.2 _ _ (d5 i)).trans (F.2 i hi)⟩
theorem q_step {T : Nat → Int} {L : Nat} {q : Bool} {h : xa_H} {s : pS} (P : Px T L q h s) : ∃ h', f_X6_step 2 h = some h' ∧ Px T L q h' (pN T L s) ∧ Fx DC h h' := by
  obtain ⟨h', e1, e2, e3⟩ := s_step P.1
  exact ⟨h', e1, ⟨e2, fc_mv P.2.1 e3, (e3.2.2.2 4 3 rfl).trans P.2.2⟩, e3⟩
theorem ex_set {T : Nat → Int} {L : Nat} {h : xa_H} (C : Cb T L h) (k p : Nat) : Ex (xset (xset h 2 9 (k : Int)) 2 10 (p : Int)) (k, p) := by
  refine ⟨(C.1.set (by decide +kernel)).set (by decide +kernel), ?_, ?_⟩
  · rw [xm_xset, if_neg (by omega), xm_xset, if_pos ⟨rfl, rfl⟩]
  · rw [xm_xset, if_pos ⟨rfl, rfl⟩]
theorem q_refuse {T : Nat → Int} {L : Nat} {h : xa_H} (C : Cb T L h) (k p : Nat) {z : Int} (hz : z = (p : Int)) : ∃ h', f_X6_refuse 2 (k : Int) z h = some (0, h') ∧ Ex h' (k, p) ∧ Fx DC h h' := by
  subst hz
  refine ⟨_, ?_, ex_set C k p, ((Fx.refl DC h).set rfl).set rfl⟩
  unfold f_X6_refuse
  simp (disch := omega) only [↓reduceIte, ↓bbind, ↓bxgf, ↓bxpf, ↓bxal, ↓bxas, ↓bxrc, ↓exrc, xbo, xok_xset, xia_xset, xln_xset, xm_xset, xok_xarr, xia_xarr, xln_xarr, xm_xarr, Option.bind_some, Int.reduceToNat, Nat.reduceEqDiff, Nat.reduceSub, Int.reduceLT, Int.reduceLE, Int.reduceEq, Int.reduceNeg, if_true, if_false, ite_true, ite_false, true_and, and_true, false_and, and_false, eq_self, reduceIte, Bool.false_eq_true, Nat.reduceBEq, reduceCtorEq, or_true, true_or, or_false, false_or, xel, Int.toNat_natCast, Int.toNat_add, Int.toNat_mul, ok_2 C.1]
theorem q_stray {T : Nat → Int} {L : Nat} {h : xa_H} {p : Nat} {b : Bool} (C : Cx T L h p b) : ∃ h', f_X6_stray 2 h = some (0, h') ∧ Ex h' (1, p) ∧ Fx DC h h' := by
  refine ⟨_, ?_, ex_set C.1 1 p, ((Fx.refl DC h).set rfl).set rfl⟩
  unfold f_X6_stray
  simp (disch := omega) only [↓reduceIte, ↓bbind, ↓bxgf, ↓bxpf, ↓bxal, ↓bxas, ↓bxrc, ↓exrc, xbo, xok_xset, xia_xset, xln_xset, xm_xset, xok_xarr, xia_xarr, xln_xarr, xm_xarr, Option.bind_some, Int.reduceToNat, Nat.reduceEqDiff, Nat.reduceSub, Int.reduceLT, Int.reduceLE, Int.reduceEq, Int.reduceNeg, if_true, if_false, ite_true, ite_false, true_and, and_true, false_and, and_false, eq_self, reduceIte, Bool.false_eq_true, Nat.reduceBEq, reduceCtorEq, or_true, true_or, or_false, false_or, xel, Int.toNat_natCast, Int.toNat_add, Int.toNat_mul, ok_2 C.1.1, C.2.2.2.2.1]
  rfl
theorem tk_v_s {T : Nat → Int} {L p : Nat} {b : Bool} (h : tk_k T L p b = 3) : tk_v T L p = T p := by
  obtain ⟨a, b, c⟩ := tk_k_s.mp h
  unfold tk_v
  rw [if_pos a, if_neg b, if_neg c]
theorem q_isSign {T : Nat → Int} {L : Nat} {h : xa_H} {s : pS} (C : Cx T L h s.1 s.2.1) (c : Int) : f_X6_isSign 2 c h = some (if pG T L s c = true then 1 else 0) := by
  unfold f_X6_isSign
  rw [iteI pG_i]
  simp (disch := omega) only [↓reduceIte, ↓bbind, ↓bxgf, ↓bxpf, ↓bxal, ↓bxas, ↓bxrc, ↓exrc, xbo, xok_xset, xia_xset, xln_xset, xm_xset, xok_xarr, xia_xarr, xln_xarr, xm_xarr, Option.bind_some, Int.reduceToNat, Nat.reduceEqDiff, Nat.reduceSub, Int.reduceLT, Int.reduceLE, Int.reduceEq, Int.reduceNeg, if_true, if_false, ite_true, ite_false, true_and, and_true, false_and, and_false, eq_self, reduceIte, Bool.false_eq_true, Nat.reduceBEq, reduceCtorEq, or_true, true_or, or_false, false_or, xel, Int.toNat_natCast, Int.toNat_add, Int.toNat_mul, ok_2 C.1.1, C.2.2.2.1, C.2.2.2.2.2.2.1]
  by_cases k : tk_k T L s.1 s.2.1 = 3
  · rw [if_pos k, tk_v_s k]
    by_cases y : T s.1 = c
    · rw [if_pos y, if_pos ⟨k, y⟩]
    · rw [if_neg y, if_neg (fun z => y z.2)]
  · rw [if_neg k, if_neg (fun z => k z.1)]
theorem q_needSign {T : Nat → Int} {L : Nat} {q : Bool} {h : xa_H} {s : pS} (P : Px T L q h s) (c : Int) : cR T L q h (f_X6_needSign 2 c h) (pD T L c s) := by
  have C := P.1
  unfold pD
  by_cases g : pG T L s c = true
  · obtain ⟨k1, k2⟩ := pG_i.mp g
    obtain ⟨h', e1, e2, e3⟩ := q_step P
    rw [if_pos g]
    refine ⟨1, h', ?_, DC_DP e3, Or.inl ⟨_, rfl, rfl, e2⟩⟩
    unfold f_X6_needSign
    simp (disch := omega) only [↓reduceIte, ↓bbind, ↓bxgf, ↓bxpf, ↓bxal, ↓bxas, ↓bxrc, ↓exrc, xbo, xok_xset, xia_xset, xln_xset, xm_xset, xok_xarr, xia_xarr, xln_xarr, xm_xarr, Option.bind_some, Int.reduceToNat, Nat.reduceEqDiff, Nat.reduceSub, Int.reduceLT, Int.reduceLE, Int.reduceEq, Int.reduceNeg, if_true, if_false, ite_true, ite_false, true_and, and_true, false_and, and_false, eq_self, reduceIte, Bool.false_eq_true, Nat.reduceBEq, reduceCtorEq, or_true, true_or, or_false, false_or, xel, Int.toNat_natCast, Int.toNat_add, Int.toNat_mul, ok_2 C.1.1, C.2.2.2.1, C.2.2.2.2.2.2.1, if_pos k1, tk_v_s k1, if_pos k2, e1]
  · obtain ⟨h', e1, e2, e3⟩ := q_stray C
    rw [if_neg g]
    refine ⟨0, h', ?_, DC_DP e3, Or.inr ⟨_, rfl, rfl, e2⟩⟩
    rw [pG_i] at g
    unfold f_X6_needSign f_X6_needSign_J16
    simp (disch := omega) only [↓reduceIte, ↓bbind, ↓bxgf, ↓bxpf, ↓bxal, ↓bxas, ↓bxrc, ↓exrc, xbo, xok_xset, xia_xset, xln_xset, xm_xset, xok_xarr, xia_xarr, xln_xarr, xm_xarr, Option.bind_some, Int.reduceToNat, Nat.reduceEqDiff, Nat.reduceSub, Int.reduceLT, Int.reduceLE, Int.reduceEq, Int.reduceNeg, if_true, if_false, ite_true, ite_false, true_and, and_true, false_and, and_false, eq_self, reduceIte, Bool.false_eq_true, Nat.reduceBEq, reduceCtorEq, or_true, true_or, or_false, false_or, xel, Int.toNat_natCast, Int.toNat_add, Int.toNat_mul, ok_2 C.1.1, C.2.2.2.1, C.2.2.2.2.2.2.1, e1]
    by_cases k : tk_k T L s.1 s.2.1 = 3
    · rw [if_pos k, tk_v_s k, if_neg (fun z => g ⟨k, z⟩)]
    · rw [if_neg k]
theorem q_put {T : Nat → Int} {L : Nat} {q : Bool} {h : xa_H} {s : pS} (P : Px T L q h s) {c v : Int} (hv : v = cof c) (hl : s.2.2.length < 1600) : ∃ h', f_X3_put 4 v h = some (1, h') ∧ Px T L q h' (pU s c) ∧ Fx DP h h' := by
  have S := px_S P
  have i1 : xia h 0 5 (s.2.2.length : Int) = true := ia_5 S (by omega) (by omega)
  have ln : xln h 5 = some 1600 := S.ln 0 5 1600 (by decide) (by decide +kernel) (by decide) (by decide)
  obtain ⟨p1, ⟨p2, p3⟩, p4⟩ := P
  refine ⟨xset (xset h 5 s.2.2.length v) 4 2 ((s.2.2.length + 1 : Nat) : Int), ?_, ⟨?_, ⟨?_, ?_⟩, ?_⟩, ((Fx.refl DP h).set rfl).set rfl⟩
  · unfold f_X3_put
    simp (disch := omega) only [↓reduceIte, ↓bbind, ↓bxgf, ↓bxpf, ↓bxal, ↓bxas, ↓bxrc, ↓exrc, xbo, xok_xset, xia_xset, xln_xset, xm_xset, xok_xarr, xia_xarr, xln_xarr, xm_xarr, Option.bind_some, Int.reduceToNat, Nat.reduceEqDiff, Nat.reduceSub, Int.reduceLT, Int.reduceLE, Int.reduceEq, Int.reduceNeg, if_true, if_false, ite_true, ite_false, true_and, and_true, false_and, and_false, eq_self, reduceIte, Bool.false_eq_true, Nat.reduceBEq, reduceCtorEq, or_true, true_or, or_false, false_or, xel, Int.toNat_natCast, Int.toNat_add, Int.toNat_mul, ok_4 S, pt_4_1 S, p2, ln]
    rw [if_pos (by omega)]
    simp (disch := omega) only [↓reduceIte, ↓bbind, ↓bxgf, ↓bxpf, ↓bxal, ↓bxas, ↓bxrc, ↓exrc, xbo, xok_xset, xia_xset, xln_xset, xm_xset, xok_xarr, xia_xarr, xln_xarr, xm_xarr, Option.bind_some, Int.reduceToNat, Nat.reduceEqDiff, Nat.reduceSub, Int.reduceLT, Int.reduceLE, Int.reduceEq, Int.reduceNeg, if_true, if_false, ite_true, ite_false, true_and, and_true, false_and, and_false, eq_self, reduceIte, Bool.false_eq_true, Nat.reduceBEq, reduceCtorEq, or_true, true_or, or_false, false_or, xel, Int.toNat_natCast, Int.toNat_add, Int.toNat_mul, ok_4 S, pt_4_1 S, p2, i1]
    rw [w32_id (by omega) (by omega)]
    rfl
  · obtain ⟨⟨c1, c2, c3, c4, c5, c6⟩, d1, d2, d3, d4, d5, d6, d7⟩ := p1
    have m : ∀ a k, a ≠ 5 → a ≠ 4 → xm (xset (xset h 5 s.2.2.length v) 4 2 ((s.2.2.length + 1 : Nat) : Int)) a k = xm h a k := fun a k h1 h2 => by
      rw [xm_xset, if_neg (by omega), xm_xset, if_neg (by omega)]
    refine ⟨⟨((c1.set (fixd_of (by decide +kernel))).set (by decide +kernel)), fun k hk => ?_, ?_, c4, ?_, ?_⟩, d1, d2, ?_, ?_, ?_, ?_, ?_⟩ <;> rw [m _ _ (by omega) (by omega)]
    · exact c2 k hk
    · exact c3
    · exact c5
    · exact c6
    · exact d3
    · exact d4
    · exact d5
    · exact d6
    · exact d7
  · rw [xm_xset, if_pos ⟨rfl, rfl⟩]
    show _ = ((s.2.2 ++ [c]).length : Int)
    rw [List.length_append]
    rfl
  · intro i hi
    have hi' : i < s.2.2.length + 1 := by
      have : i < (s.2.2 ++ [c]).length := hi
      rw [List.length_append] at this
      exact this
    show _ = cof ((s.2.2 ++ [c]).getD i 0)
    rw [xm_xset, if_neg (by omega), xm_xset, List.getD_eq_getElem?_getD]
    by_cases y : i = s.2.2.length
    · subst y
      rw [if_pos ⟨rfl, rfl⟩, List.getElem?_append_right (Nat.le_refl _), hv]
      simp
    · rw [if_neg (by omega), p3 i (by omega), List.getElem?_append_left (by omega), ← List.getD_eq_getElem?_getD]
  · rw [xm_xset, if_neg (by omega), xm_xset, if_neg (by omega)]
    exact p4
theorem q_signCode {T : Nat → Int} {L : Nat} {q : Bool} {h : xa_H} {s : pS} (P : Px T L q h s) (c1 v1 c2 v2 : Int) : f_X3_signCode 4 c1 v1 c2 v2 h = some (if pG T L s c1 = true then v1 else if pG T L s c2 = true then v2 else -22) := by
  have S := px_S P
  unfold f_X3_signCode
  simp (disch := omega) only [↓reduceIte, ↓bbind, ↓bxgf, ↓bxpf, ↓bxal, ↓bxas, ↓bxrc, ↓exrc, xbo, xok_xset, xia_xset, xln_xset, xm_xset, xok_xarr, xia_xarr, xln_xarr, xm_xarr, Option.bind_some, Int.reduceToNat, Nat.reduceEqDiff, Nat.reduceSub, Int.reduceLT, Int.reduceLE, Int.reduceEq, Int.reduceNeg, if_true, if_false, ite_true, ite_false, true_and, and_true, false_and, and_false, eq_self, reduceIte, Bool.false_eq_true, Nat.reduceBEq, reduceCtorEq, or_true, true_or, or_false, false_or, xel, Int.toNat_natCast, Int.toNat_add, Int.toNat_mul, ok_4 S, ok_2 S, pt_4_0 S, q_isSign P.1]
  by_cases g : pG T L s c1 = true
  · rw [if_pos g, if_pos g]
    rfl
  · rw [if_neg g, if_neg g]
    simp only [if_true]
    by_cases g2 : pG T L s c2 = true
    · rw [if_pos g2, if_pos g2]
      rfl
    · rw [if_neg g2, if_neg g2]
      rfl
theorem q_stepInto {T : Nat → Int} {L : Nat} {q : Bool} {h : xa_H} {s : pS} (P : Px T L q h s) (d : Nat) (hd : d ≤ 6) : ∃ v h', f_X3_stepInto 4 ((6 - d : Nat) : Int) h = some (v, h') ∧ Fx DC h h' ∧ ((0 < d ∧ v = 1 ∧ Px T L q h' (pN T L s)) ∨ (d = 0 ∧ v = 0 ∧ Ex h' (4, s.1))) := by
  have S := px_S P
  by_cases g : 0 < d
  · obtain ⟨h', e1, e2, e3⟩ := q_step P
    refine ⟨1, h', ?_, e3, Or.inl ⟨g, rfl, e2⟩⟩
    unfold f_X3_stepInto
    rw [if_pos (by omega)]
    simp (disch := omega) only [↓reduceIte, ↓bbind, ↓bxgf, ↓bxpf, ↓bxal, ↓bxas, ↓bxrc, ↓exrc, xbo, xok_xset, xia_xset, xln_xset, xm_xset, xok_xarr, xia_xarr, xln_xarr, xm_xarr, Option.bind_some, Int.reduceToNat, Nat.reduceEqDiff, Nat.reduceSub, Int.reduceLT, Int.reduceLE, Int.reduceEq, Int.reduceNeg, if_true, if_false, ite_true, ite_false, true_and, and_true, false_and, and_false, eq_self, reduceIte, Bool.false_eq_true, Nat.reduceBEq, reduceCtorEq, or_true, true_or, or_false, false_or, xel, Int.toNat_natCast, Int.toNat_add, Int.toNat_mul, ok_4 S, ok_2 S, pt_4_0 S, e1]
  · obtain ⟨h', e1, e2, e3⟩ := q_refuse P.1.1 4 s.1 (z := (s.1 : Int)) rfl
    refine ⟨0, h', ?_, e3, Or.inr ⟨by omega, rfl, e2⟩⟩
    unfold f_X3_stepInto
    rw [if_neg (by omega)]
    have e1' : f_X6_refuse 2 4 (s.1 : Int) h = some (0, h') := e1
    simp (disch := omega) only [↓reduceIte, ↓bbind, ↓bxgf, ↓bxpf, ↓bxal, ↓bxas, ↓bxrc, ↓exrc, xbo, xok_xset, xia_xset, xln_xset, xm_xset, xok_xarr, xia_xarr, xln_xarr, xm_xarr, Option.bind_some, Int.reduceToNat, Nat.reduceEqDiff, Nat.reduceSub, Int.reduceLT, Int.reduceLE, Int.reduceEq, Int.reduceNeg, if_true, if_false, ite_true, ite_false, true_and, and_true, false_and, and_false, eq_self, reduceIte, Bool.false_eq_true, Nat.reduceBEq, reduceCtorEq, or_true, true_or, or_false, false_or, xel, Int.toNat_natCast, Int.toNat_add, Int.toNat_mul, ok_4 S, ok_2 S, pt_4_0 S, P.1.2.2.2.2.1, e1']
theorem q_factCode {T : Nat → Int} {L : Nat} {q : Bool} {h : xa_H} {s : pS} (P : Px T L q h s) : f_X3_factCode 4 (pW T L s) h = some (match pF q (pW T L s) with
    | none => -22
    | some c => cof c) := by
  have S := px_S P
  have p4 := P.2.2
  unfold pW
  rcases tk_w_r (T := T) (L := L) (p := s.1) (b := s.2.1) with e | ⟨w, hw, e⟩
  · rw [e]
    cases q <;> rfl
  · rw [e]
    have f0 : (xgf h 3 3 4) = some (if q = true then 1 else 0) := by
      unfold xgf
      rw [if_pos (ok_4 S)]
      exact congrArg some p4
    unfold f_X3_factCode
    rw [f0]
    have : ∀ q : Bool, ∀ w : Nat, w < 29 → (if (w : Int) = 1 then some (-4 : Int) else if (w : Int) = 2 then some (-22) else if (w : Int) = 3 then some (-22) else if (w : Int) = 4 then some (-3) else if (w : Int) = 5 then some (-6) else if (w : Int) = 6 then some (-22) else if (w : Int) = 7 then some (-22) else if (w : Int) = 8 then some (-22) else if (w : Int) = 9 then some (-22) else if (w : Int) = 10 then some (-22) else if (w : Int) = 11 then some (-22)
      else if (w : Int) = 12 then (some (if q = true then (1 : Int) else 0)).bind (fun x13 => if x13 = 0 then some (-1) else some (-22)) else if (w : Int) = 13 then some (-2) else if (w : Int) = 14 then (some (if q = true then (1 : Int) else 0)).bind (fun x17 => if x17 = 0 then some (-5) else some (-22)) else if (w : Int) = 15 then some (-7) else if (w : Int) = 16 then (some (if q = true then (1 : Int) else 0)).bind (fun x21 => if x21 = 0 then some (-22) else some (-8)) else some (-22)) = some (match pF q (w : Int) with
        | none => -22
        | some c => cof c) := by decide +kernel
    exact this q w hw
theorem pN_sl {T : Nat → Int} {L : Nat} {s : pS} (h : s.1 < L) (hl : s.2.2.length ≤ s.1) : (pN T L s).2.2.length + 1 ≤ (pN T L s).1 := by
  obtain ⟨n1, n2, n3⟩ := pN_lt (T := T) h
  rw [n3]
  omega
theorem pOK.sl {L m : Nat} {q t : Bool} {f : pS → pR} (h : pOK L q t m f) {s s' : pS} (e : f s = .inl s') (hl : s.1 ≤ L) : s'.2.2.length + s.1 ≤ s'.1 + s.2.2.length ∧ s'.1 ≤ L := by
  obtain ⟨a1, a2, c, a3, a4, -, -⟩ := h s s' e hl
  rw [a3, List.length_append]
  omega
theorem cR_inr {T : Nat → Int} {L : Nat} {q : Bool} {h h' : xa_H} {e : Nat × Nat} (F : Fx DP h h') (E : Ex h' e) : cR T L q h (some (0, h')) (.inr e) := ⟨0, h', rfl, F, Or.inr ⟨e, rfl, rfl, E⟩⟩
theorem cR_inl {T : Nat → Int} {L : Nat} {q : Bool} {h h' : xa_H} {s : pS} (F : Fx DP h h') (E : Px T L q h' s) : cR T L q h (some (1, h')) (.inl s) := ⟨1, h', rfl, F, Or.inl ⟨s, rfl, rfl, E⟩⟩
theorem cR_tr {T : Nat → Int} {L : Nat} {q : Bool} {h h1 : xa_H} {f : Option (Int × xa_H)} {r : pR} (F : Fx DP h h1) (R : cR T L q h1 f r) : cR T L q h f r := by
  obtain ⟨v, h', e, f', o⟩ := R
  exact ⟨v, h', e, F.tr f', o⟩
/-- a reading, and what follows where it went well -/
theorem cR_bd {T : Nat → Int} {L : Nat} {q : Bool} {h : xa_H} {f : Option (Int × xa_H)} {r : pR} {g : Int × xa_H → Option (Int × xa_H)} {k : pS → pR} (R : cR T L q h f r) (h0 : ∀ h', g (0, h') = some (0, h')) (h1 : ∀ h' s', Fx DP h h' → r = .inl s' → Px T L q h' s' → cR T L q h' (g (1, h')) (k s')) : cR T L q h (f.bind g) (bd r k) := by
  obtain ⟨v, h', e, F, o⟩ := R
  rw [e]
  simp only [Option.bind_some]
  rcases o with ⟨s', rfl, rfl, P⟩ | ⟨er, rfl, rfl, E⟩
  · exact cR_tr F (h1 h' s' F rfl P)
  · rw [h0]
    exact cR_inr F E
