/-! ===== the class's parser does as its meaning says ===== -/
/-- the class's code of what goes on, none: -22 -/
def oC (o : pS → Option Int) (s : pS) : Int := match o s with
  | none => -22
  | some c => cof c
theorem xrc4 {α : Type} {h : xa_H} (S : SH h) (E : Option α) : xrc h 3 4 E = E := if_pos (ok_4 S)
theorem xrc2 {α : Type} {h : xa_H} (S : SH h) (E : Option α) : xrc h 6 2 E = E := if_pos (ok_2 S)
theorem lp_cR {T : Nat → Int} {L m : Nat} {q t : Bool} {f : pS → pR} {o : pS → Option Int} {F : Int × Int × Int × xa_H → Option ((Int × Int × Int × xa_H) ⊕ (Int × xa_H))} (hf : pOK L q t m f) (ho : oOK L q t o) (hF0 : ∀ c k h, F (0, c, k, h) = some (.inr (0, h))) (hFn : ∀ k h, F (1, -22, k, h) = some (.inr (1, h))) (hFe : ∀ c h, F (1, c, 1600, h) = some (.inr (1, h)))
    (hFs : ∀ h s c (k : Nat), k < 1600 → Px T L q h s → s.2.2.length ≤ s.1 → o s = some c → ∃ v cc h', F (1, cof c, (k : Int), h) = some (.inl (v, cc, ((k + 1 : Nat) : Int), h')) ∧ Fx DP h h' ∧ ((∃ s', f (pN T L s) = .inl s' ∧ v = 1 ∧ Px T L q h' (pU s' c) ∧ cc = oC o (pU s' c)) ∨ (∃ e, f (pN T L s) = .inr e ∧ v = 0 ∧ Ex h' e))) :
    ∀ (n k : Nat) (s : pS) (h : xa_H), k + n = 1600 → Px T L q h s → s.2.2.length ≤ s.1 → ∀ fu, n + 1 < fu → cR T L q h (xit F fu (1, oC o s, (k : Int), h)) (lp T L f o n s) := by
  intro n
  induction n with
  | zero =>
    intro k s h hk P hl fu hfu
    have : k = 1600 := by omega
    subst this
    rw [show ((1600 : Nat) : Int) = 1600 from rfl, xit_end (hFe _ _) (by omega)]
    exact cR_inl (Fx.refl _ _) P
  | succ n ih =>
    intro k s h hk P hl fu hfu
    obtain ⟨fu, rfl⟩ : ∃ z, fu = z + 1 := ⟨fu - 1, by omega⟩
    rw [lp]
    cases ho' : o s with
    | none =>
      have e : oC o s = -22 := by unfold oC; rw [ho']
      rw [e, xit_end (hFn _ _) (by omega)]
      exact cR_inl (Fx.refl _ _) P
    | some c =>
      have e : oC o s = cof c := by unfold oC; rw [ho']
      obtain ⟨v, cc, h', e1, e2, e3⟩ := hFs h s c k (by omega) P hl ho'
      rw [e, xit_go e1]
      dsimp only
      have sl := (ho s c ho').1
      have nl := pN_lt (T := T) sl
      rcases e3 with ⟨s', g1, rfl, g3, rfl⟩ | ⟨er, g1, rfl, g3⟩
      · rw [g1, bd_l]
        have z := pOK.sl hf g1 nl.2.1
        have y := pN_sl (T := T) sl hl
        refine cR_tr e2 (ih (k + 1) (pU s' c) h' (by omega) g3 ?_ fu (by omega))
        show (s'.2.2 ++ [c]).length ≤ s'.1
        rw [List.length_append]
        show s'.2.2.length + 1 ≤ s'.1
        omega
      · rw [g1, bd_r, xit_end (hF0 _ _ _) (by omega)]
        exact cR_inr e2 g3
/-- the same, for the loops that look at a word themselves -/
theorem lp_cR2 {T : Nat → Int} {L m : Nat} {q t : Bool} {f : pS → pR} {o : pS → Option Int} {F : Int × Int × xa_H → Option ((Int × Int × xa_H) ⊕ (Int × xa_H))} (hf : pOK L q t m f) (ho : oOK L q t o) (hF0 : ∀ k h, F (0, k, h) = some (.inr (0, h))) (hFn : ∀ h s (k : Int), Px T L q h s → o s = none → F (1, k, h) = some (.inr (1, h))) (hFe : ∀ h s, Px T L q h s → F (1, 1600, h) = some (.inr (1, h)))
    (hFs : ∀ h s c (k : Nat), k < 1600 → Px T L q h s → s.2.2.length ≤ s.1 → o s = some c → ∃ v h', F (1, (k : Int), h) = some (.inl (v, ((k + 1 : Nat) : Int), h')) ∧ Fx DP h h' ∧ ((∃ s', f (pN T L s) = .inl s' ∧ v = 1 ∧ Px T L q h' (pU s' c)) ∨ (∃ e, f (pN T L s) = .inr e ∧ v = 0 ∧ Ex h' e))) :
    ∀ (n k : Nat) (s : pS) (h : xa_H), k + n = 1600 → Px T L q h s → s.2.2.length ≤ s.1 → ∀ fu, n + 1 < fu → cR T L q h (xit F fu (1, (k : Int), h)) (lp T L f o n s) := by
  intro n
  induction n with
  | zero =>
    intro k s h hk P hl fu hfu
    have : k = 1600 := by omega
    subst this
    rw [show ((1600 : Nat) : Int) = 1600 from rfl, xit_end (hFe _ _ P) (by omega)]
    exact cR_inl (Fx.refl _ _) P
  | succ n ih =>
    intro k s h hk P hl fu hfu
    obtain ⟨fu, rfl⟩ : ∃ z, fu = z + 1 := ⟨fu - 1, by omega⟩
    rw [lp]
    cases ho' : o s with
    | none =>
      rw [xit_end (hFn _ _ _ P ho') (by omega)]
      exact cR_inl (Fx.refl _ _) P
    | some c =>
      obtain ⟨v, h', e1, e2, e3⟩ := hFs h s c k (by omega) P hl ho'
      rw [xit_go e1]
      dsimp only
      have sl := (ho s c ho').1
      have nl := pN_lt (T := T) sl
      rcases e3 with ⟨s', g1, rfl, g3⟩ | ⟨er, g1, rfl, g3⟩
      · rw [g1, bd_l]
        have z := pOK.sl hf g1 nl.2.1
        have y := pN_sl (T := T) sl hl
        refine cR_tr e2 (ih (k + 1) (pU s' c) h' (by omega) g3 ?_ fu (by omega))
        show (s'.2.2 ++ [c]).length ≤ s'.1
        rw [List.length_append]
        show s'.2.2.length + 1 ≤ s'.1
        omega
      · rw [g1, bd_r, xit_end (hF0 _ _) (by omega)]
        exact cR_inr e2 g3
/-- a call of rank k at depth d reads as f does -/
def cF (T : Nat → Int) (L : Nat) (q : Bool) (rc : Nat → Int → Int → xa_H → Option (Int × xa_H)) (k d : Nat) (f : pS → pR) : Prop := ∀ h s, Px T L q h s → s.2.2.length ≤ s.1 → cR T L q h (rc k 4 ((6 - d : Nat) : Int) h) (f s)
theorem xbo_ok {α : Type} {v : Int} {E : Option α} (h : v = 0 ∨ v = 1) : xbo v E = E := if_pos h
theorem xbo_cR {T : Nat → Int} {L : Nat} {q : Bool} {h : xa_H} {f : Option (Int × xa_H)} {r : pR} (R : cR T L q h f r) : cR T L q h (f.bind fun e13 => xbo e13.1 <| some ((e13.1, e13.2))) r := by
  obtain ⟨v, h', e, F, o⟩ := R
  refine ⟨v, h', ?_, F, o⟩
  rw [e]
  simp only [Option.bind_some]
  refine if_pos ?_
  rcases o with ⟨s', -, rfl, -⟩ | ⟨e, -, rfl, -⟩
  · exact Or.inr rfl
  · exact Or.inl rfl
theorem oC1 {T : Nat → Int} {L : Nat} (s : pS) : (if pG T L s 42 = true then (-13 : Int) else if pG T L s 47 = true then -14 else -22) = oC (pO1 T L) s := by
  unfold oC pO1
  by_cases g : pG T L s 42 = true
  · rw [if_pos g, if_pos g]; rfl
  · rw [if_neg g, if_neg g]
    by_cases g2 : pG T L s 47 = true
    · rw [if_pos g2, if_pos g2]; rfl
    · rw [if_neg g2, if_neg g2]
theorem oC2 {T : Nat → Int} {L : Nat} (s : pS) : (if pG T L s 43 = true then (-11 : Int) else if pG T L s 45 = true then -12 else -22) = oC (pO2 T L) s := by
  unfold oC pO2
  by_cases g : pG T L s 43 = true
  · rw [if_pos g, if_pos g]; rfl
  · rw [if_neg g, if_neg g]
    by_cases g2 : pG T L s 45 = true
    · rw [if_pos g2, if_pos g2]; rfl
    · rw [if_neg g2, if_neg g2]
theorem pU_sl {s : pS} {c : Int} (h : s.2.2.length + 1 ≤ s.1) : (pU s c).2.2.length ≤ (pU s c).1 := by
  show (s.2.2 ++ [c]).length ≤ s.1
  rw [List.length_append]
  exact h
theorem pOK.sl' {L m : Nat} {q t : Bool} {f : pS → pR} (h : pOK L q t m f) {s s' : pS} (e : f s = .inl s') (hl : s.1 ≤ L) (hs : s.2.2.length ≤ s.1) : s'.2.2.length ≤ s'.1 ∧ s'.1 ≤ L := by
  have := h.sl e hl
  omega
theorem cof_ne {c : Int} (h : c = 1 ∨ c = 2 ∨ c = 3 ∨ c = 4) : cof c ≠ -22 := by
  rcases h with rfl | rfl | rfl | rfl <;> decide
theorem q_sgAny {h : xa_H} (S : SH h) (c1 v1 c2 v2 : Int) : ∃ cc, f_X3_signCode 4 c1 v1 c2 v2 h = some cc := by
  have e : ∀ c, f_X6_isSign 2 c h = some (if xm h 2 3 = 3 then (if xm h 2 6 = c then 1 else 0) else 0) := fun c => by
    unfold f_X6_isSign
    simp (disch := omega) only [↓reduceIte, ↓bbind, ↓bxgf, ↓bxpf, ↓bxal, ↓bxas, ↓bxrc, ↓exrc, xbo, xok_xset, xia_xset, xln_xset, xm_xset, xok_xarr, xia_xarr, xln_xarr, xm_xarr, Option.bind_some, Int.reduceToNat, Nat.reduceEqDiff, Nat.reduceSub, Int.reduceLT, Int.reduceLE, Int.reduceEq, Int.reduceNeg, if_true, if_false, ite_true, ite_false, true_and, and_true, false_and, and_false, eq_self, reduceIte, Bool.false_eq_true, Nat.reduceBEq, reduceCtorEq, or_true, true_or, or_false, false_or, xel, Int.toNat_natCast, Int.toNat_add, Int.toNat_mul, ok_2 S]
    split
    · split <;> rfl
    · rfl
  unfold f_X3_signCode
  simp (disch := omega) only [↓reduceIte, ↓bbind, ↓bxgf, ↓bxpf, ↓bxal, ↓bxas, ↓bxrc, ↓exrc, xbo, xok_xset, xia_xset, xln_xset, xm_xset, xok_xarr, xia_xarr, xln_xarr, xm_xarr, Option.bind_some, Int.reduceToNat, Nat.reduceEqDiff, Nat.reduceSub, Int.reduceLT, Int.reduceLE, Int.reduceEq, Int.reduceNeg, if_true, if_false, ite_true, ite_false, true_and, and_true, false_and, and_false, eq_self, reduceIte, Bool.false_eq_true, Nat.reduceBEq, reduceCtorEq, or_true, true_or, or_false, false_or, xel, Int.toNat_natCast, Int.toNat_add, Int.toNat_mul, ok_4 S, ok_2 S, pt_4_0 S, e]
  generalize (if xm h 2 3 = 3 then (if xm h 2 6 = c1 then (1 : Int) else 0) else 0) = a
  generalize (if xm h 2 3 = 3 then (if xm h 2 6 = c2 then (1 : Int) else 0) else 0) = b
  by_cases y : a = 0
  · rw [if_pos y]
    by_cases z : b = 0
    · exact ⟨_, if_pos z⟩
    · exact ⟨_, if_neg z⟩
  · exact ⟨_, if_neg y⟩
theorem c_product {T : Nat → Int} {L : Nat} {q : Bool} {rc : Nat → Int → Int → xa_H → Option (Int × xa_H)} {d m : Nat} {f : pS → pR} (hf : pOK L q false m f) (hr : cF T L q rc 5 d f) (h : xa_H) (s : pS) (P : Px T L q h s) (hl : s.2.2.length ≤ s.1) : cR T L q h (f_X3_product rc 4 ((6 - d : Nat) : Int) h) (l1 T L f (pO1 T L) s) := by
  have S := px_S P
  have pl := px_le P
  have sc : ∀ (g : xa_H) (z : pS), Px T L q g z → xrc g 3 4 (f_X3_signCode 4 42 (-13) 47 (-14) g) = some (oC (pO1 T L) z) := fun g z Q => by
    rw [xrc4 (px_S Q), q_signCode Q, oC1]
  unfold f_X3_product l1
  rw [xrc4 S]
  obtain ⟨v, h1, e, F1, o⟩ := hr h s P hl
  rw [e]
  simp only [Option.bind_some]
  have S1 := F1.sh DP_nf S
  rcases o with ⟨s1, e1, rfl, P1⟩ | ⟨er, e1, rfl, E1⟩
  · rw [sc h1 s1 P1, e1, bd_l]
    simp only [Option.bind_some]
    refine cR_tr F1 (xbo_cR ?_)
    have z := hf.sl' e1 pl.1 hl
    refine lp_cR (F := fun s => f_X3_product_L22 rc 4 ((6 - d : Nat) : Int) s.1 s.2.1 s.2.2.1 s.2.2.2) hf pO1_ok (fun c k h => by unfold f_X3_product_L22; exact if_pos rfl) (fun k h => by
      show f_X3_product_L22 rc 4 _ 1 (-22) k h = _
      unfold f_X3_product_L22
      rw [if_neg (by decide), if_pos rfl]) (fun c h => by
      show f_X3_product_L22 rc 4 _ 1 c 1600 h = _
      unfold f_X3_product_L22
      by_cases y : c = -22
      · rw [if_neg (by decide), if_pos y]
      · rw [if_neg (by decide), if_neg y, if_neg (by decide)]) (fun g z c k hk Q hz hc => ?_) 1600 0 s1 h1 (by omega) P1 z.1 xFU (by unfold xFU; omega)
    have Sg := px_S Q
    have zl := (pO1_some hc).1
    obtain ⟨g1, a1, a2, a3⟩ := q_step Q
    have nl := pN_lt (T := T) zl
    have sl := pN_sl (T := T) zl hz
    have kk : (k : Int) < 1600 := by clear pl zl nl sl hz; omega
    have cc4 : c = 1 ∨ c = 2 ∨ c = 3 ∨ c = 4 := by
      rcases (pO1_some hc).2 with y | y
      · exact Or.inr (Or.inr (Or.inl y))
      · exact Or.inr (Or.inr (Or.inr y))
    have w1 : w32 ((k : Int) + 1) = ((k + 1 : Nat) : Int) := by rw [w32_id (by omega) (by omega)]; omega
    unfold f_X3_product_L22
    dsimp only
    rw [if_neg (show ¬ (1 : Int) = 0 by decide), if_neg (cof_ne cc4), if_pos kk]
    obtain ⟨v2, g2, b1, b2, b3⟩ := hr g1 (pN T L z) a2 (by omega)
    have S1' := px_S a2
    simp (disch := omega) only [↓reduceIte, ↓bbind, ↓bxgf, ↓bxpf, ↓bxal, ↓bxas, ↓bxrc, ↓exrc, xbo, xok_xset, xia_xset, xln_xset, xm_xset, xok_xarr, xia_xarr, xln_xarr, xm_xarr, Option.bind_some, Int.reduceToNat, Nat.reduceEqDiff, Nat.reduceSub, Int.reduceLT, Int.reduceLE, Int.reduceEq, Int.reduceNeg, if_true, if_false, ite_true, ite_false, true_and, and_true, false_and, and_false, eq_self, reduceIte, Bool.false_eq_true, Nat.reduceBEq, reduceCtorEq, or_true, true_or, or_false, false_or, xel, Int.toNat_natCast, Int.toNat_add, Int.toNat_mul, ok_4 Sg, pt_4_0 Sg, xrc2 Sg, a1, ok_2 Sg, ok_4 S1', b1]
    have F2 := (DC_DP a3).tr b2
    rcases b3 with ⟨s2, c1, rfl, c3⟩ | ⟨er, c1, rfl, c3⟩
    · have sl2 := hf.sl c1 nl.2.1
      obtain ⟨g3, d1, d2, d3⟩ := q_put c3 (c := c) (v := cof c) rfl (by omega)
      rw [if_neg (show ¬ (1 : Int) = 0 by decide), if_pos (ok_4 (px_S c3)), d1]
      simp only [Option.bind_some]
      rw [if_neg (show ¬ (1 : Int) = 0 by decide)]
      unfold f_X3_product_J68L22
      rw [sc g3 _ d2, w1]
      exact ⟨1, _, g3, rfl, F2.tr d3, Or.inl ⟨s2, c1, rfl, d2, rfl⟩⟩
    · obtain ⟨sg, esc⟩ := q_sgAny c3.1 42 (-13) 47 (-14)
      rw [if_pos rfl]
      unfold f_X3_product_J67L22 f_X3_product_J68L22
      rw [xrc4 c3.1, esc, w1]
      exact ⟨0, sg, g2, rfl, F2, Or.inr ⟨er, c1, rfl, c3⟩⟩
  · obtain ⟨cc, esc⟩ := q_sgAny E1.1 42 (-13) 47 (-14)
    rw [xrc4 E1.1, esc, e1, bd_r]
    simp only [Option.bind_some]
    rw [xit_end (f := fun s => f_X3_product_L22 rc 4 ((6 - d : Nat) : Int) s.1 s.2.1 s.2.2.1 s.2.2.2) (e := (0, h1)) (by unfold f_X3_product_L22; exact if_pos rfl) (by unfold xFU; omega)]
    exact cR_inr F1 E1
