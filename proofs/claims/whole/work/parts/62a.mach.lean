/-! ===== the reference's parser: its cells ===== -/
def DQ (a k : Nat) : Bool := (a == 173 && (k == 2 || k == 4 || k == 5 || k == 6 || k == 98 || k == 100 || k == 101)) || a == 245 || a == 246
theorem DQ_nf : nofix DQ := by unfold nofix; decide +kernel
/-- what waits, from b on, the top first -/
def stk (h : xa_H) (b : Nat) : List Int → Prop
  | [] => True
  | w :: σ => xm h 246 (b + σ.length) = w ∧ stk h b σ
def Mx (T : Nat → Int) (L : Nat) (q : Bool) (b : Nat) (h : xa_H) (σ : List Int) (d : Nat) (s : pS) : Prop := Rx T L h s.1 s.2.1 ∧ (xm h 173 98 = (s.2.2.length : Int) ∧ ∀ i, i < s.2.2.length → xm h 245 i = s.2.2.getD i 0) ∧ xm h 173 100 = ((b + σ.length : Nat) : Int) ∧ stk h b σ ∧ xm h 173 102 = (b : Int) ∧ xm h 173 101 = ((6 - d : Nat) : Int) ∧ d ≤ 6 ∧ xm h 173 49 = (if q = true then 0 else 1) ∧ s.2.2.length + b + σ.length ≤ s.1 + 1 ∧ (b = 0 ∨ 10 ≤ xm h 246 (b - 1))
def Fm (b : Nat) (h h' : xa_H) : Prop := Fx DQ h h' ∧ ∀ i, i < b → xm h' 246 i = xm h 246 i
theorem Fm.refl (b : Nat) (h : xa_H) : Fm b h h := ⟨Fx.refl _ _, fun _ _ => rfl⟩
theorem Fm.tr {b : Nat} {h h' h'' : xa_H} (a : Fm b h h') (c : Fm b h' h'') : Fm b h h'' := ⟨a.1.tr c.1, fun i hi => (c.2 i hi).trans (a.2 i hi)⟩
theorem DB_DQ {b : Nat} {h h' : xa_H} (e : Fx DB h h') : Fm b h h' := ⟨e.mono fun x k q => by
  unfold DQ at q
  unfold DB
  simp only [Bool.or_eq_false_iff, Bool.and_eq_false_iff] at q ⊢
  rcases q.1.1 with z | z
  · exact Or.inl z
  · exact Or.inr z.1.1.1, fun i _ => e.2.2.2 _ _ rfl⟩
theorem mx_S {T : Nat → Int} {L : Nat} {q : Bool} {b : Nat} {h : xa_H} {σ : List Int} {d : Nat} {s : pS} (M : Mx T L q b h σ d s) : SH h := M.1.1
theorem mx_L {T : Nat → Int} {L : Nat} {q : Bool} {b : Nat} {h : xa_H} {σ : List Int} {d : Nat} {s : pS} (M : Mx T L q b h σ d s) : s.1 ≤ L ∧ L ≤ 1600 := ⟨M.1.2.2.2.2.2.2.1, M.1.2.2.2.2.2.1⟩
theorem mx_bad {T : Nat → Int} {L : Nat} {q : Bool} {b : Nat} {h : xa_H} {σ : List Int} {d : Nat} {s : pS} (M : Mx T L q b h σ d s) : xm h 173 5 = 0 := M.1.2.2.2.1
theorem stk_mv {h h' : xa_H} {b : Nat} : ∀ (σ : List Int), (∀ i, b ≤ i → i < b + σ.length → xm h' 246 i = xm h 246 i) → stk h b σ → stk h' b σ
  | [], _, _ => True.intro
  | w :: σ, e, g => by
    simp only [List.length_cons] at e
    exact ⟨(e _ (by omega) (by omega)).trans g.1, stk_mv σ (fun i h1 h2 => e i h1 (by omega)) g.2⟩
theorem mx_lex {T : Nat → Int} {L : Nat} {q : Bool} {b : Nat} {h h' : xa_H} {σ : List Int} {d : Nat} {s : pS} (M : Mx T L q b h σ d s) (e : Fx DB h h') {p : Nat} {t : Bool} (R : Rx T L h' p t) (hp : s.1 ≤ p) : Mx T L q b h' σ d (p, t, s.2.2) := by
  obtain ⟨m1, ⟨m2, m3⟩, m4, m5, m6, m7, m8, m9, m10, m11⟩ := M
  have e' := e.2.2.2
  have e6 : ∀ i, xm h' 246 i = xm h 246 i := fun i => e' _ _ rfl
  refine ⟨R, ⟨(e' _ _ rfl).trans m2, fun i hi => (e' _ _ rfl).trans (m3 i hi)⟩, (e' _ _ rfl).trans m4, stk_mv σ (fun i _ _ => e6 i) m5, (e' _ _ rfl).trans m6, (e' _ _ rfl).trans m7, m8, (e' _ _ rfl).trans m9, ?_, by rw [e6]; exact m11⟩
  show s.2.2.length + b + σ.length ≤ p + 1
  omega
theorem rx_dq {T : Nat → Int} {L : Nat} {h : xa_H} {p : Nat} {t : Bool} (R : Rx T L h p t) {a k : Nat} {v : Int} (h1 : a ≠ 174) (h2 : a = 173 → 98 ≤ k) (h3 : fixd a k = false) : Rx T L (xset h a k v) p t := by
  obtain ⟨r1, r2, r3, r4, r5, r6, r7, r8, r9, y, r10, r11⟩ := R
  have m : ∀ j, j < 98 → xm (xset h a k v) 173 j = xm h 173 j := fun j hj => by rw [xm_xset, if_neg (by omega)]
  refine ⟨r1.set h3, ?_, (m 3 (by omega)).trans r3, (m 5 (by omega)).trans r4, (m 6 (by omega)).trans r5, r6, r7, by rw [m 4 (by omega)]; exact r8, by rw [m 4 (by omega)]; exact r9, y, (m 2 (by omega)).trans r10, r11⟩
  rw [← r2]
  refine funext fun j => ?_
  rw [xm_xset, if_neg (by omega)]
theorem fx245 {k : Nat} : fixd 245 k = false := fixd_of (by decide +kernel)
theorem fx246 {k : Nat} : fixd 246 k = false := fixd_of (by decide +kernel)
theorem mx_code {T : Nat → Int} {L : Nat} {q : Bool} {b : Nat} {h : xa_H} {σ : List Int} {d : Nat} {s : pS} (M : Mx T L q b h σ d s) (hs : s.2.2.length + b + σ.length ≤ s.1) (c : Int) : ∃ h', f_X12_qCode 173 c h = some h' ∧ Mx T L q b h' σ d (pU s c) ∧ Fm b h h' := by
  have S := mx_S M
  have lL := mx_L M
  obtain ⟨m1, ⟨m2, m3⟩, m4, m5, m6, m7, m8, m9, m10, m11⟩ := M
  have i1 : xia h 0 245 (s.2.2.length : Int) = true := ia_245 S (by omega) (by omega)
  have hl : (s.2.2 ++ [c]).length = s.2.2.length + 1 := by rw [List.length_append]; rfl
  refine ⟨xset (xset h 245 s.2.2.length c) 173 98 ((s.2.2.length + 1 : Nat) : Int), ?_, ⟨rx_dq (rx_dq m1 (by omega) (by omega) fx245) (by omega) (by omega) (by decide +kernel), ⟨?_, fun i hi => ?_⟩, ?_, stk_mv σ (fun i _ _ => ?_) m5, ?_, ?_, m8, ?_, ?_, ?_⟩, ⟨((Fx.refl DQ h).set rfl).set rfl, fun i _ => ?_⟩⟩
  · have w1 : w32 ((s.2.2.length : Int) + 1) = ((s.2.2.length + 1 : Nat) : Int) := by rw [w32_id (by omega) (by omega)]; omega
    unfold f_X12_qCode
    simp (disch := omega) only [↓reduceIte, ↓bbind, ↓bxgf, ↓bxpf, ↓bxal, ↓bxas, ↓bxrc, ↓exrc, xbo, xok_xset, xia_xset, xln_xset, xm_xset, xok_xarr, xia_xarr, xln_xarr, xm_xarr, Option.bind_some, Int.reduceToNat, Nat.reduceEqDiff, Nat.reduceSub, Int.reduceLT, Int.reduceLE, Int.reduceEq, Int.reduceNeg, if_true, if_false, ite_true, ite_false, true_and, and_true, false_and, and_false, eq_self, reduceIte, Bool.false_eq_true, Nat.reduceBEq, reduceCtorEq, or_true, true_or, or_false, false_or, xel, Int.toNat_natCast, Int.toNat_add, Int.toNat_mul, ok_173 S, pt_173_97 S, m2, i1, w1]
  · rw [xm_xset, if_pos ⟨rfl, rfl⟩]
    show _ = ((s.2.2 ++ [c]).length : Int)
    rw [hl]
  · change i < (s.2.2 ++ [c]).length at hi
    rw [hl] at hi
    show _ = (s.2.2 ++ [c]).getD i 0
    rw [xm_xset, if_neg (by omega), xm_xset, List.getD_eq_getElem?_getD]
    by_cases y : i = s.2.2.length
    · subst y
      rw [if_pos ⟨rfl, rfl⟩, List.getElem?_append_right (Nat.le_refl _)]
      simp
    · rw [if_neg (by omega), m3 i (by omega), List.getElem?_append_left (by omega), ← List.getD_eq_getElem?_getD]
  · rw [xm_xset, if_neg (by omega), xm_xset, if_neg (by omega)]; exact m4
  · rw [xm_xset, if_neg (by omega), xm_xset, if_neg (by omega)]
  · rw [xm_xset, if_neg (by omega), xm_xset, if_neg (by omega)]; exact m6
  · rw [xm_xset, if_neg (by omega), xm_xset, if_neg (by omega)]; exact m7
  · rw [xm_xset, if_neg (by omega), xm_xset, if_neg (by omega)]; exact m9
  · show (s.2.2 ++ [c]).length + b + σ.length ≤ s.1 + 1
    rw [hl]
    omega
  · rw [xm_xset, if_neg (by omega), xm_xset, if_neg (by omega)]; exact m11
  · rw [xm_xset, if_neg (by omega), xm_xset, if_neg (by omega)]
theorem mx_pop {T : Nat → Int} {L : Nat} {q : Bool} {b : Nat} {h : xa_H} {c : Int} {σ : List Int} {d : Nat} {s : pS} (M : Mx T L q b h (c :: σ) d s) : Mx T L q b (xset h 173 100 ((b + σ.length : Nat) : Int)) σ d s ∧ xm h 246 (b + σ.length) = c ∧ xm h 173 100 = ((b + σ.length + 1 : Nat) : Int) ∧ Fm b h (xset h 173 100 ((b + σ.length : Nat) : Int)) ∧ s.2.2.length + b + σ.length ≤ s.1 := by
  obtain ⟨m1, ⟨m2, m3⟩, m4, m5, m6, m7, m8, m9, m10, m11⟩ := M
  simp only [List.length_cons] at m4 m10
  have m : ∀ a k, a ≠ 173 ∨ k ≠ 100 → xm (xset h 173 100 ((b + σ.length : Nat) : Int)) a k = xm h a k := fun a k g => by rw [xm_xset, if_neg (by omega)]
  refine ⟨⟨rx_dq m1 (by omega) (by omega) (by decide +kernel), ⟨?_, fun i hi => ?_⟩, ?_, stk_mv σ (fun i _ _ => ?_) m5.2, ?_, ?_, m8, ?_, by omega, ?_⟩, m5.1, m4, ⟨(Fx.refl DQ h).set rfl, fun i _ => ?_⟩, by omega⟩
  · rw [m _ _ (by omega)]; exact m2
  · rw [m _ _ (by omega)]; exact m3 i hi
  · rw [xm_xset, if_pos ⟨rfl, rfl⟩]
  · rw [m _ _ (by omega)]
  · rw [m _ _ (by omega)]; exact m6
  · rw [m _ _ (by omega)]; exact m7
  · rw [m _ _ (by omega)]; exact m9
  · rw [m _ _ (by omega)]; exact m11
  · rw [m _ _ (by omega)]
theorem mx_drop {T : Nat → Int} {L : Nat} {q : Bool} {b : Nat} {h : xa_H} {c : Int} {σ : List Int} {d : Nat} {s : pS} (M : Mx T L q b h (c :: σ) d s) : ∃ h', f_X12_qDrops 173 h = some h' ∧ Mx T L q b h' σ d (pU s c) ∧ Fm b h h' := by
  have S := mx_S M
  have lL := mx_L M
  obtain ⟨p1, p2, p3, p4, p5⟩ := mx_pop M
  obtain ⟨h', e1, e2, e3⟩ := mx_code p1 p5 c
  refine ⟨h', ?_, e2, p4.tr e3⟩
  have i1 : xia h 0 246 ((b + σ.length : Nat) : Int) = true := ia_246 S (by omega) (by omega)
  have w1 : w32 (((b + σ.length + 1 : Nat) : Int) - 1) = ((b + σ.length : Nat) : Int) := by rw [w32_id (by omega) (by omega)]; omega
  unfold f_X12_qDrops
  simp (disch := omega) only [↓reduceIte, ↓bbind, ↓bxgf, ↓bxpf, ↓bxal, ↓bxas, ↓bxrc, ↓exrc, xbo, xok_xset, xia_xset, xln_xset, xm_xset, xok_xarr, xia_xarr, xln_xarr, xm_xarr, Option.bind_some, Int.reduceToNat, Nat.reduceEqDiff, Nat.reduceSub, Int.reduceLT, Int.reduceLE, Int.reduceEq, Int.reduceNeg, if_true, if_false, ite_true, ite_false, true_and, and_true, false_and, and_false, eq_self, reduceIte, Bool.false_eq_true, Nat.reduceBEq, reduceCtorEq, or_true, true_or, or_false, false_or, xel, Int.toNat_natCast, Int.toNat_add, Int.toNat_mul, ok_173 S, pt_173_99 S, p3, w1, i1, p2, e1]
theorem mx_push {T : Nat → Int} {L : Nat} {q : Bool} {b : Nat} {h : xa_H} {σ : List Int} {d : Nat} {s : pS} (M : Mx T L q b h σ d s) (hs : s.2.2.length + b + σ.length ≤ s.1) (c : Int) : Mx T L q b (xset (xset h 246 (b + σ.length) c) 173 100 ((b + σ.length + 1 : Nat) : Int)) (c :: σ) d s ∧ Fm b h (xset (xset h 246 (b + σ.length) c) 173 100 ((b + σ.length + 1 : Nat) : Int)) ∧ xia h 0 246 ((b + σ.length : Nat) : Int) = true ∧ w32 (((b + σ.length : Nat) : Int) + 1) = ((b + σ.length + 1 : Nat) : Int) := by
  have S := mx_S M
  have lL := mx_L M
  obtain ⟨m1, ⟨m2, m3⟩, m4, m5, m6, m7, m8, m9, m10, m11⟩ := M
  have m : ∀ a k, (a ≠ 173 ∨ k ≠ 100) → (a ≠ 246 ∨ k ≠ b + σ.length) → xm (xset (xset h 246 (b + σ.length) c) 173 100 ((b + σ.length + 1 : Nat) : Int)) a k = xm h a k := fun a k g1 g2 => by rw [xm_xset, if_neg (by omega), xm_xset, if_neg (by omega)]
  refine ⟨⟨rx_dq (rx_dq m1 (by omega) (by omega) fx246) (by omega) (by omega) (by decide +kernel), ⟨?_, fun i hi => ?_⟩, ?_, ⟨?_, stk_mv σ (fun i _ _ => ?_) m5⟩, ?_, ?_, m8, ?_, ?_, ?_⟩, ⟨((Fx.refl DQ h).set rfl).set rfl, fun i _ => ?_⟩, ia_246 S (by omega) (by omega), by rw [w32_id (by omega) (by omega)]; omega⟩
  · rw [m _ _ (by omega) (by omega)]; exact m2
  · rw [m _ _ (by omega) (by omega)]; exact m3 i hi
  · rw [xm_xset, if_pos ⟨rfl, rfl⟩]
    rfl
  · rw [xm_xset, if_neg (by omega), xm_xset, if_pos ⟨rfl, rfl⟩]
  · rw [m _ _ (by omega) (by omega)]
  · rw [m _ _ (by omega) (by omega)]; exact m6
  · rw [m _ _ (by omega) (by omega)]; exact m7
  · rw [m _ _ (by omega) (by omega)]; exact m9
  · simp only [List.length_cons]
    omega
  · by_cases z : b = 0
    · exact Or.inl z
    · rw [m _ _ (by omega) (by omega)]; exact m11
  · rw [m _ _ (by omega) (by omega)]
theorem mx_op {T : Nat → Int} {L : Nat} {q : Bool} {b : Nat} {h : xa_H} {σ : List Int} {d : Nat} {s : pS} (M : Mx T L q b h σ d s) {d' : Nat} (hd : d' ≤ 6) : Mx T L q b (xset h 173 101 ((6 - d' : Nat) : Int)) σ d' s ∧ Fm b h (xset h 173 101 ((6 - d' : Nat) : Int)) := by
  obtain ⟨m1, ⟨m2, m3⟩, m4, m5, m6, m7, m8, m9, m10, m11⟩ := M
  have m : ∀ a k, a ≠ 173 ∨ k ≠ 101 → xm (xset h 173 101 ((6 - d' : Nat) : Int)) a k = xm h a k := fun a k g => by rw [xm_xset, if_neg (by omega)]
  refine ⟨⟨rx_dq m1 (by omega) (by omega) (by decide +kernel), ⟨?_, fun i hi => ?_⟩, ?_, stk_mv σ (fun i _ _ => ?_) m5, ?_, ?_, hd, ?_, m10, ?_⟩, ⟨(Fx.refl DQ h).set rfl, fun i _ => ?_⟩⟩
  · rw [m _ _ (by omega)]; exact m2
  · rw [m _ _ (by omega)]; exact m3 i hi
  · rw [m _ _ (by omega)]; exact m4
  · rw [m _ _ (by omega)]
  · rw [m _ _ (by omega)]; exact m6
  · rw [xm_xset, if_pos ⟨rfl, rfl⟩]
  · rw [m _ _ (by omega)]; exact m9
  · rw [m _ _ (by omega)]; exact m11
  · rw [m _ _ (by omega)]
/-- rows of the reference's own object -/
theorem gM {β : Type} {h : xa_H} (S : SH h) (k : Nat) (f : Int → Option β) : (xgf h 12 k 173).bind f = f (xm h 173 k) := by
  rw [bxgf, if_pos (ok_173 S)]
  rfl
theorem xM {α β : Type} {h : xa_H} (S : SH h) (E : Option α) (f : α → Option β) : (xrc h 12 173 E).bind f = E.bind f := by
  rw [show xrc h 12 173 E = E from if_pos (ok_173 S)]
theorem pMf {β : Type} {h : xa_H} (S : SH h) (k : Nat) (v : Int) (f : xa_H → Option β) : (xpf h 12 k 173 v).bind f = f (xset h 173 k v) := by
  rw [bxpf, if_pos (ok_173 S)]
  rfl
/-- the top, over all that waits -/
def top1 (h : xa_H) (b : Nat) (σ : List Int) : Int := match σ with
  | w :: _ => w
  | [] => if b = 0 then -1 else xm h 246 (b - 1)
theorem mx_isOn {T : Nat → Int} {L : Nat} {q : Bool} {b : Nat} {h : xa_H} {σ : List Int} {d : Nat} {s : pS} (M : Mx T L q b h σ d s) {c : Int} (hc : 0 ≤ c) : f_X12_qIsOn 173 c h = some (if top1 h b σ = c then 1 else 0) := by
  have S := mx_S M
  have lL := mx_L M
  obtain ⟨m1, ⟨m2, m3⟩, m4, m5, m6, m7, m8, m9, m10, m11⟩ := M
  unfold f_X12_qIsOn
  rw [gM S, m4]
  by_cases z : b + σ.length = 0
  · rw [if_neg (by omega)]
    have hb : b = 0 := by omega
    have hs : σ = [] := List.eq_nil_of_length_eq_zero (by omega)
    subst hb hs
    rw [show top1 h 0 [] = -1 from rfl, if_neg (by omega)]
  · have i1 : xia h 0 246 ((b + σ.length - 1 : Nat) : Int) = true := ia_246 S (by omega) (by omega)
    have w1 : w32 (((b + σ.length : Nat) : Int) - 1) = ((b + σ.length - 1 : Nat) : Int) := by rw [w32_id (by omega) (by omega)]; omega
    have t : xm h 246 (b + σ.length - 1) = top1 h b σ := by
      cases σ with
      | nil =>
        simp only [List.length_nil] at z ⊢
        unfold top1
        rw [if_neg (by omega)]
        rfl
      | cons w σ =>
        simp only [List.length_cons]
        exact m5.1
    rw [if_pos (by omega), gM S, gM S, m4, w1, pt_173_99 S, bxal, if_pos i1]
    show (if xm h 246 (b + σ.length - 1) = c then _ else _) = _
    rw [t]
    split <;> rfl
