/-! ===== the reference reads its text ===== -/
/-- the same but for the cells of D -/
def Fx (D : Nat → Nat → Bool) (h h' : xa_H) : Prop := xn h' = xn h ∧ xz h' = xz h ∧ xk h' = xk h ∧ ∀ a k, D a k = false → xm h' a k = xm h a k
theorem Fx.refl (D : Nat → Nat → Bool) (h : xa_H) : Fx D h h := ⟨rfl, rfl, rfl, fun _ _ _ => rfl⟩
theorem Fx.tr {D : Nat → Nat → Bool} {h h' h'' : xa_H} (a : Fx D h h') (b : Fx D h' h'') : Fx D h h'' := ⟨b.1.trans a.1, b.2.1.trans a.2.1, b.2.2.1.trans a.2.2.1, fun x k q => (b.2.2.2 x k q).trans (a.2.2.2 x k q)⟩
theorem Fx.mono {D D' : Nat → Nat → Bool} {h h' : xa_H} (a : Fx D h h') (hd : ∀ x k, D' x k = false → D x k = false) : Fx D' h h' := ⟨a.1, a.2.1, a.2.2.1, fun x k q => a.2.2.2 x k (hd x k q)⟩
theorem Fx.set {D : Nat → Nat → Bool} {h h' : xa_H} {a k : Nat} {v : Int} (e : Fx D h h') (hd : D a k = true) : Fx D h (xset h' a k v) := ⟨e.1, e.2.1, e.2.2.1, fun x j q => by
  rw [xm_xset, if_neg, e.2.2.2 x j q]
  rintro ⟨rfl, rfl⟩
  rw [hd] at q
  cases q⟩
theorem Fx.arr {D : Nat → Nat → Bool} {h h' : xa_H} {a : Nat} {F : Nat → Int} (e : Fx D h h') (hd : ∀ k, D a k = true) : Fx D h (xarr h' a F) := ⟨e.1, e.2.1, e.2.2.1, fun x j q => by
  rw [xm_xarr, if_neg, e.2.2.2 x j q]
  rintro rfl
  rw [hd j] at q
  cases q⟩
def nofix (D : Nat → Nat → Bool) : Prop := ∀ t ∈ pl0, D t.1 t.2.1 = false
theorem Fx.sh {D : Nat → Nat → Bool} {h h' : xa_H} (e : Fx D h h') (hd : nofix D) (S : SH h) : SH h' := by
  refine S.fixed (by rw [e.1]; exact S.1) (fun a _ => by rw [e.2.2.1]) (fun a k hf => e.2.2.2 a k ?_)
  obtain ⟨t, ht, h2⟩ := List.any_eq_true.mp hf
  simp at h2
  have := hd t ht
  rw [h2.1, h2.2] at this
  exact this
def DB (a k : Nat) : Bool := a == 173 && (k == 2 || k == 4 || k == 5 || k == 6)
theorem DB_nf : nofix DB := by unfold nofix; decide +kernel
/-- the reference stands at p -/
def Rx (T : Nat → Int) (L : Nat) (h : xa_H) (p : Nat) (b : Bool) : Prop := SH h ∧ xm h 174 = T ∧ xm h 173 3 = (L : Int) ∧ xm h 173 5 = 0 ∧ xm h 173 6 = -1 ∧ L ≤ 1600 ∧ p ≤ L ∧ (b = true ↔ xm h 173 4 = (p : Int)) ∧ (-1 ≤ xm h 173 4 ∧ xm h 173 4 ≤ (p : Int)) ∧ ∃ a : Nat, xm h 173 2 = (a : Int) ∧ tk_sk T L a = p
/-- it has a fault -/
def Bx (h : xa_H) (e : Nat × Nat) : Prop := SH h ∧ xm h 173 5 = (e.1 : Int) ∧ xm h 173 6 = (e.2 : Int) ∧ e.1 ≠ 0
theorem rx_stop {T : Nat → Int} {L : Nat} {h : xa_H} {p : Nat} {b : Bool} (R : Rx T L h p b) : tk_b T L p = false := by
  obtain ⟨-, -, -, -, -, -, -, -, -, a, -, e⟩ := R
  rw [← e]
  exact tk_sk_stop
theorem rx_at {T : Nat → Int} {L : Nat} {h : xa_H} {p : Nat} {b : Bool} (R : Rx T L h p b) : Rx T L (xset h 173 2 (p : Int)) p b := by
  have s := rx_stop R
  obtain ⟨h1, h2, h3, h4, h5, h6, h7, h8, h9, a, h10, h11⟩ := R
  refine ⟨h1.set (by decide +kernel), ?_, h3, h4, h5, h6, h7, h8, h9, p, rfl, tk_sk_self s⟩
  rw [← h2]
  rfl
theorem rx_fx {h : xa_H} {p : Nat} : Fx DB h (xset h 173 2 (p : Int)) := (Fx.refl DB h).set rfl
theorem rx_mv {D : Nat → Nat → Bool} {T : Nat → Int} {L : Nat} {h h' : xa_H} {p : Nat} {b : Bool} (R : Rx T L h p b) (e : Fx D h h') (hd : nofix D) (d0 : ∀ k, D 174 k = false) (d1 : D 173 2 = false) (d2 : D 173 3 = false) (d3 : D 173 4 = false) (d4 : D 173 5 = false) (d5 : D 173 6 = false) : Rx T L h' p b := by
  obtain ⟨h1, h2, h3, h4, h5, h6, h7, h8, h9, a, h10, h11⟩ := R
  have q := e.2.2.2
  refine ⟨e.sh hd h1, ?_, (q _ _ d2).trans h3, (q _ _ d4).trans h4, (q _ _ d5).trans h5, h6, h7, by rw [q _ _ d3]; exact h8, by rw [q _ _ d3]; exact h9, a, (q _ _ d1).trans h10, h11⟩
  rw [← h2]
  exact funext fun k => q _ _ (d0 k)
theorem s_lookL {T : Nat → Int} {L : Nat} {h : xa_H} (S : SH h) (hT : xm h 174 = T) (hL : xm h 173 3 = (L : Int)) (hL2 : L ≤ 1600) {a p : Nat} (ha : xm h 173 2 = (a : Int)) (hp : tk_sk T L a = p) : xit (fun s => f_X12_look_L0 173 s) xFU h = some (xset h 173 2 (p : Int)) := by
  have hap : a ≤ p := by rw [← hp]; exact rn_ge _ _ _
  have hall : ∀ j, a ≤ j → j < p → tk_b T L j = true := fun j h1 h2 => rn_all (tk_b T L) L a j h1 (by rw [← hp] at h2; exact h2)
  have hst : tk_b T L p = false := by rw [← hp]; exact tk_sk_stop
  have hpl : p ≤ L ∨ p = a := by
    by_cases q : p = a
    · exact Or.inr q
    · have := (tk_bi.mp (hall (p - 1) (by omega) (by omega))).1
      exact Or.inl (by omega)
  have main : ∀ (n i : Nat), a ≤ i → i + n = p → ∀ fu, n < fu → xit (fun s => f_X12_look_L0 173 s) fu (xset h 173 2 (i : Int)) = some (xset h 173 2 (p : Int)) := by
    intro n
    induction n with
    | zero =>
      intro i h1 h2 fu hf
      have e : i = p := by omega
      subst e
      have Si : SH (xset h 173 2 (i : Int)) := S.set (by decide +kernel)
      refine xit_end ?_ (by omega)
      unfold f_X12_look_L0
      simp (disch := omega) only [↓reduceIte, ↓bbind, ↓bxgf, ↓bxpf, ↓bxal, ↓bxas, ↓bxrc, ↓exrc, xbo, xok_xset, xia_xset, xln_xset, xm_xset, xok_xarr, xia_xarr, xln_xarr, xm_xarr, Option.bind_some, Int.reduceToNat, Nat.reduceEqDiff, Nat.reduceSub, Int.reduceLT, Int.reduceLE, Int.reduceEq, Int.reduceNeg, if_true, if_false, ite_true, ite_false, true_and, and_true, false_and, and_false, eq_self, reduceIte, Bool.false_eq_true, Nat.reduceBEq, reduceCtorEq, or_true, true_or, or_false, false_or, xel, Int.toNat_natCast, Int.toNat_add, Int.toNat_mul, ok_173 S, pt_173_0 S, hL]
      by_cases q : (i : Int) < (L : Int)
      · rw [if_pos q]
        have z : ¬ tk_b T L i = true := by rw [hst]; decide
        rw [tk_bi] at z
        have t : xm h 174 i = T i := by rw [hT]
        have i1 : xia h 0 174 (i : Int) = true := ia_174 S (by omega) (by omega)
        simp only [i1, if_true, t]
        rw [if_neg (by omega), if_neg (by omega)]
      · rw [if_neg q]
    | succ n ih =>
      intro i h1 h2 fu hf
      obtain ⟨m, rfl⟩ : ∃ m, fu = m + 1 := ⟨fu - 1, by omega⟩
      have z := tk_bi.mp (hall i h1 (by omega))
      have t : xm h 174 i = T i := by rw [hT]
      have i1 : xia h 0 174 (i : Int) = true := ia_174 S (by omega) (by omega)
      have st : f_X12_look_L0 173 (xset h 173 2 (i : Int)) = some (Sum.inl (xset h 173 2 ((i + 1 : Nat) : Int))) := by
        unfold f_X12_look_L0
        simp (disch := omega) only [↓reduceIte, ↓bbind, ↓bxgf, ↓bxpf, ↓bxal, ↓bxas, ↓bxrc, ↓exrc, xbo, xok_xset, xia_xset, xln_xset, xm_xset, xok_xarr, xia_xarr, xln_xarr, xm_xarr, Option.bind_some, Int.reduceToNat, Nat.reduceEqDiff, Nat.reduceSub, Int.reduceLT, Int.reduceLE, Int.reduceEq, Int.reduceNeg, if_true, if_false, ite_true, ite_false, true_and, and_true, false_and, and_false, eq_self, reduceIte, Bool.false_eq_true, Nat.reduceBEq, reduceCtorEq, or_true, true_or, or_false, false_or, xel, Int.toNat_natCast, Int.toNat_add, Int.toNat_mul, ok_173 S, pt_173_0 S, hL, i1, t]
        rw [if_pos (by omega)]
        by_cases q : T i = 10
        · rw [if_pos q, xset_xset, w32_id (by omega) (by omega)]
          rfl
        · rw [if_neg q, if_pos (by omega), xset_xset, w32_id (by omega) (by omega)]
          rfl
      rw [xit_go st]
      exact ih (i + 1) (by omega) (by omega) m (by omega)
  have e0 : xset h 173 2 (a : Int) = h := by rw [← ha]; exact xset_self h 173 2
  have := main (p - a) a (Nat.le_refl _) (by omega) xFU (by unfold xFU; omega)
  rw [e0] at this
  exact this
def lkv (T : Nat → Int) (L p : Nat) : Int := if p < L then T p else -1
theorem s_look {T : Nat → Int} {L : Nat} {h : xa_H} {p : Nat} {b : Bool} (R : Rx T L h p b) : f_X12_look 173 h = some (lkv T L p, xset h 173 2 (p : Int)) := by
  have R' := rx_at R
  have S' := R'.1
  obtain ⟨h1, h2, h3, h4, h5, h6, h7, h8, h9, a, h10, h11⟩ := R
  unfold f_X12_look
  rw [s_lookL h1 h2 h3 h6 h10 h11]
  simp only [Option.bind_some]
  unfold f_X12_look_J52 lkv
  simp (disch := omega) only [↓reduceIte, ↓bbind, ↓bxgf, ↓bxpf, ↓bxal, ↓bxas, ↓bxrc, ↓exrc, xbo, xok_xset, xia_xset, xln_xset, xm_xset, xok_xarr, xia_xarr, xln_xarr, xm_xarr, Option.bind_some, Int.reduceToNat, Nat.reduceEqDiff, Nat.reduceSub, Int.reduceLT, Int.reduceLE, Int.reduceEq, Int.reduceNeg, if_true, if_false, ite_true, ite_false, true_and, and_true, false_and, and_false, eq_self, reduceIte, Bool.false_eq_true, Nat.reduceBEq, reduceCtorEq, or_true, true_or, or_false, false_or, xel, Int.toNat_natCast, Int.toNat_add, Int.toNat_mul, ok_173 h1, pt_173_0 h1, h3]
  by_cases q : p < L
  · have t : xm h 174 p = T p := by rw [h2]
    have i1 : xia h 0 174 (p : Int) = true := ia_174 h1 (by omega) (by omega)
    rw [if_pos q, if_pos (by omega)]
    simp only [i1, if_true, t]
  · rw [if_neg q, if_neg (by omega)]
theorem s_isLetter (v : Int) (h : xa_H) : f_X12_isLetter v h = some (if 97 ≤ v ∧ v ≤ 122 then 1 else 0) := by
  unfold f_X12_isLetter
  by_cases q : v < 97
  · rw [if_pos q, if_neg (by omega)]
  · rw [if_neg q]
    by_cases q2 : 122 < v
    · rw [if_pos q2, if_neg (by omega)]
    · rw [if_neg q2, if_pos (by omega)]
theorem s_isDigit (v : Int) (h : xa_H) : f_X12_isDigit v h = some (if 48 ≤ v ∧ v ≤ 57 then 1 else 0) := by
  unfold f_X12_isDigit
  by_cases q : v < 48
  · rw [if_pos q, if_neg (by omega)]
  · rw [if_neg q]
    by_cases q2 : 57 < v
    · rw [if_pos q2, if_neg (by omega)]
    · rw [if_neg q2, if_pos (by omega)]
/-- a cell that holds the letters of the word w -/
def wA (h : xa_H) (A w : Nat) : Prop := A < xn h ∧ xk h A = (3, (tk_ww w).length) ∧ ∀ j, j < (tk_ww w).length → xm h A j = (tk_ww w).getD j 0
def wtab : List (Nat × Nat) := (List.range 23).map (fun i => (176 + i, i)) ++ [(225, 23), (226, 24), (227, 25), (228, 26), (229, 27), (230, 28), (231, 19), (232, 18), (233, 17), (234, 20), (235, 21), (236, 22), (237, 12), (238, 13), (239, 4), (240, 1), (241, 14), (242, 5), (243, 15), (244, 16)]
theorem sh_wA {h : xa_H} (S : SH h) {A w : Nat} (hm : (A, w) ∈ wtab) : wA h A w := by
  have h1 : ∀ t ∈ wtab, t.1 < 249 ∧ kd0 t.1 = (3, (tk_ww t.2).length) ∧ ∀ j, j < (tk_ww t.2).length → (t.1, j, (tk_ww t.2).getD j 0) ∈ pl0 := by decide +kernel
  obtain ⟨a1, a2, a3⟩ := h1 _ hm
  have := S.1
  exact ⟨by omega, (S.2.1 _ a1).trans a2, fun j hj => S.2.2 _ (a3 j hj)⟩
theorem tk_ww_b : ∀ w, w < 29 → 1 ≤ (tk_ww w).length ∧ (tk_ww w).length ≤ 6 := by decide +kernel
theorem wA_ln {h : xa_H} {A w : Nat} (W : wA h A w) (hw : w < 29) : xln h (A : Int) = some ((tk_ww w).length : Int) := by
  have := tk_ww_b w hw
  unfold xln
  rw [Int.toNat_natCast, W.2.1]
  rw [if_pos]
  simp only [Bool.and_eq_true, decide_eq_true_eq]
  have := W.1
  omega
theorem wA_al {h : xa_H} {A w : Nat} (W : wA h A w) {j : Nat} (hj : j < (tk_ww w).length) : xal h 3 (A : Int) (j : Int) = some ((tk_ww w).getD j 0) := by
  unfold xal xia
  rw [Int.toNat_natCast, Int.toNat_natCast, W.2.1, W.2.2 j hj, if_pos]
  simp only [Bool.and_eq_true, decide_eq_true_eq]
  have := W.1
  refine ⟨⟨⟨⟨by omega, by omega⟩, trivial⟩, by omega⟩, ?_⟩
  show (j : Int) < ((tk_ww w).length : Int)
  omega
theorem s_here1 {T : Nat → Int} {L : Nat} {h : xa_H} (S : SH h) (hT : xm h 174 = T) (hL : xm h 173 3 = (L : Int)) (hL2 : L ≤ 1600) (c : Int) {p : Nat} (hp : p ≤ L) : xit (fun s => f_X12_isHere_L35 173 c h s) xFU (p : Int) = some ((tk_we T L p : Nat) : Int) := by
  have hpq : p ≤ tk_we T L p := rn_ge _ _ _
  have hqL : tk_we T L p ≤ L := rn_le tk_l0 _ _ hp
  have hall : ∀ j, p ≤ j → j < tk_we T L p → tk_l T L j = true := fun j h1 h2 => rn_all (tk_l T L) L p j h1 h2
  have hst : ¬ tk_l T L (tk_we T L p) = true := by rw [tk_we_stop]; decide
  have := xit_seq (f := fun s => f_X12_isHere_L35 173 c h s) (fun i => ((p + i : Nat) : Int)) (tk_we T L p - p) ((tk_we T L p : Nat) : Int) (fun i hi => by
    have z := tk_li.mp (hall (p + i) (by omega) (by omega))
    have t : xm h 174 (p + i) = T (p + i) := by rw [hT]
    have i1 : xia h 0 174 ((p + i : Nat) : Int) = true := ia_174 S (by omega) (by omega)
    unfold f_X12_isHere_L35
    simp (disch := omega) only [↓reduceIte, ↓bbind, ↓bxgf, ↓bxpf, ↓bxal, ↓bxas, ↓bxrc, ↓exrc, xbo, xok_xset, xia_xset, xln_xset, xm_xset, xok_xarr, xia_xarr, xln_xarr, xm_xarr, Option.bind_some, Int.reduceToNat, Nat.reduceEqDiff, Nat.reduceSub, Int.reduceLT, Int.reduceLE, Int.reduceEq, Int.reduceNeg, if_true, if_false, ite_true, ite_false, true_and, and_true, false_and, and_false, eq_self, reduceIte, Bool.false_eq_true, Nat.reduceBEq, reduceCtorEq, or_true, true_or, or_false, false_or, xel, Int.toNat_natCast, Int.toNat_add, Int.toNat_mul, ok_173 S, pt_173_0 S, hL, i1, t, s_isLetter]
    rw [if_pos (by omega), if_pos (show 97 ≤ T (p + i) ∧ T (p + i) ≤ 122 by omega), if_neg (show ¬ (1 : Int) = 0 by decide), w32_id (by omega) (by omega)]
    rfl) (by
    have e : p + (tk_we T L p - p) = tk_we T L p := by omega
    rw [e]
    unfold f_X12_isHere_L35
    simp (disch := omega) only [↓reduceIte, ↓bbind, ↓bxgf, ↓bxpf, ↓bxal, ↓bxas, ↓bxrc, ↓exrc, xbo, xok_xset, xia_xset, xln_xset, xm_xset, xok_xarr, xia_xarr, xln_xarr, xm_xarr, Option.bind_some, Int.reduceToNat, Nat.reduceEqDiff, Nat.reduceSub, Int.reduceLT, Int.reduceLE, Int.reduceEq, Int.reduceNeg, if_true, if_false, ite_true, ite_false, true_and, and_true, false_and, and_false, eq_self, reduceIte, Bool.false_eq_true, Nat.reduceBEq, reduceCtorEq, or_true, true_or, or_false, false_or, xel, Int.toNat_natCast, Int.toNat_add, Int.toNat_mul, ok_173 S, pt_173_0 S, hL]
    by_cases q : tk_we T L p < L
    · have t : xm h 174 (tk_we T L p) = T (tk_we T L p) := by rw [hT]
      have i1 : xia h 0 174 ((tk_we T L p : Nat) : Int) = true := ia_174 S (by omega) (by omega)
      rw [if_pos (by omega)]
      simp only [i1, if_true, t, s_isLetter, Option.bind_some]
      rw [tk_li] at hst
      rw [if_neg (show ¬(97 ≤ T (tk_we T L p) ∧ T (tk_we T L p) ≤ 122) by omega), if_pos rfl]
    · rw [if_neg (by omega)]) (by omega)
  exact this
theorem s_here2 {T : Nat → Int} {L : Nat} {h : xa_H} (S : SH h) (hT : xm h 174 = T) {p : Nat} (hat : xm h 173 2 = (p : Int)) {A w : Nat} (W : wA h A w) (hw : w < 29) (hp : p + (tk_ww w).length ≤ 1600) :
    ((xit (fun s => f_X12_isHere_L76 173 (A : Int) h s) xFU 0).bind fun e27 => xel e27 (fun r => some r) (fun _ => some ((1 : Int), h))) = some (if ∀ j, j < (tk_ww w).length → T (p + j) = (tk_ww w).getD j 0 then 1 else 0, h) := by
  have hb := tk_ww_b w hw
  obtain ⟨e, e1, e2⟩ := xit_inv (f := fun s => f_X12_isHere_L76 173 (A : Int) h s) (fun s => ∃ j : Nat, s = (j : Int) ∧ j ≤ (tk_ww w).length ∧ ∀ i, i < j → T (p + i) = (tk_ww w).getD i 0) (fun s => (tk_ww w).length - s.toNat)
    (fun e => (e = .inr () ∧ ∀ j, j < (tk_ww w).length → T (p + j) = (tk_ww w).getD j 0) ∨ (e = .inl (0, h) ∧ ¬ ∀ j, j < (tk_ww w).length → T (p + j) = (tk_ww w).getD j 0)) 0 ⟨0, rfl, by omega, fun i hi => by omega⟩ (by omega) (fun s hs => by
    obtain ⟨j, rfl, hj, hall⟩ := hs
    by_cases q : j < (tk_ww w).length
    · have t : xm h 174 (p + j) = T (p + j) := by rw [hT]
      have i1 : xia h 0 174 ((p + j : Nat) : Int) = true := ia_174 S (by omega) (by omega)
      have e0 : f_X12_isHere_L76 173 (A : Int) h (j : Int) = if T (p + j) = (tk_ww w).getD j 0 then some (Sum.inl (w32 ((j : Int) + 1))) else some (Sum.inr (Sum.inl ((0, h)))) := by
        unfold f_X12_isHere_L76
        rw [wA_ln W hw, wA_al W q]
        have e5 : w32 ((p : Int) + (j : Int)) = ((p + j : Nat) : Int) := by rw [w32_id (by omega) (by omega)]; omega
        simp (disch := omega) only [↓reduceIte, ↓bbind, ↓bxgf, ↓bxpf, ↓bxal, ↓bxas, ↓bxrc, ↓exrc, xbo, xok_xset, xia_xset, xln_xset, xm_xset, xok_xarr, xia_xarr, xln_xarr, xm_xarr, Option.bind_some, Int.reduceToNat, Nat.reduceEqDiff, Nat.reduceSub, Int.reduceLT, Int.reduceLE, Int.reduceEq, Int.reduceNeg, if_true, if_false, ite_true, ite_false, true_and, and_true, false_and, and_false, eq_self, reduceIte, Bool.false_eq_true, Nat.reduceBEq, reduceCtorEq, or_true, true_or, or_false, false_or, xel, Int.toNat_natCast, Int.toNat_add, Int.toNat_mul, ok_173 S, pt_173_0 S, hat, e5, i1, t]
        rw [if_pos (by omega)]
      by_cases z : T (p + j) = (tk_ww w).getD j 0
      · rw [if_pos z] at e0
        refine Or.inl ⟨_, e0, ⟨j + 1, by rw [w32_id (by omega) (by omega)]; omega, by omega, fun i hi => ?_⟩, ?_⟩
        · by_cases y : i = j
          · rw [y]; exact z
          · exact hall i (by omega)
        · rw [w32_id (by omega) (by omega)]
          omega
      · rw [if_neg z] at e0
        exact Or.inr ⟨_, e0, Or.inr ⟨rfl, fun g => z (g j q)⟩⟩
    · refine Or.inr ⟨.inr (), ?_, Or.inl ⟨rfl, fun i hi => hall i (by omega)⟩⟩
      show f_X12_isHere_L76 173 (A : Int) h (j : Int) = _
      unfold f_X12_isHere_L76
      rw [wA_ln W hw]
      simp only [Option.bind_some]
      rw [if_neg (by omega)])
  rw [e1]
  rcases e2 with ⟨rfl, g⟩ | ⟨rfl, g⟩
  · rw [if_pos g]; rfl
  · rw [if_neg g]; rfl
theorem lkv_l {T : Nat → Int} {L p : Nat} : (97 ≤ lkv T L p ∧ lkv T L p ≤ 122) ↔ tk_l T L p = true := by
  unfold lkv
  rw [tk_li]
  split <;> omega
theorem lkv_d {T : Nat → Int} {L p : Nat} : (48 ≤ lkv T L p ∧ lkv T L p ≤ 57) ↔ tk_d T L p = true := by
  unfold lkv
  rw [tk_di]
  split <;> omega
theorem iteI {α : Type} {p q : Prop} [Decidable p] [Decidable q] {x y : α} (e : p ↔ q) : (if p then x else y) = if q then x else y := by
  by_cases h : p
  · rw [if_pos h, if_pos (e.mp h)]
  · rw [if_neg h, if_neg (fun z => h (e.mpr z))]
theorem s_isHere {T : Nat → Int} {L : Nat} {h : xa_H} {p : Nat} {b : Bool} (R : Rx T L h p b) {A w : Nat} (hm : (A, w) ∈ wtab) (hw : w < 29) : f_X12_isHere 173 (A : Int) h = some (if tk_w T L p b = (w : Int) then 1 else 0, xset h 173 2 (p : Int)) := by
  have R' := rx_at R
  have lk := s_look R
  obtain ⟨H, hH⟩ : ∃ H, H = xset h 173 2 (p : Int) := ⟨_, rfl⟩
  have at' : xm H 173 2 = (p : Int) := by rw [hH, xm_xset, if_pos ⟨rfl, rfl⟩]
  rw [← hH] at R' lk ⊢
  obtain ⟨h1, h2, h3, h4, h5, h6, h7, h8, h9, a, h10, h11⟩ := R'
  have hb := tk_ww_b w hw
  unfold f_X12_isHere
  have z1 : xrc h 12 173 (f_X12_look 173 h) = some (lkv T L p, H) := by rw [lk]; exact if_pos (ok_173 R.1)
  rw [show (if tk_w T L p b = (w : Int) then (1 : Int) else 0) = if (b = false ∧ tk_is T L p w = true) then 1 else 0 from iteI (tk_w_i hw)]
  simp (disch := omega) only [↓reduceIte, ↓bbind, ↓bxgf, ↓bxpf, ↓bxal, ↓bxas, ↓bxrc, ↓exrc, xbo, xok_xset, xia_xset, xln_xset, xm_xset, xok_xarr, xia_xarr, xln_xarr, xm_xarr, Option.bind_some, Int.reduceToNat, Nat.reduceEqDiff, Nat.reduceSub, Int.reduceLT, Int.reduceLE, Int.reduceEq, Int.reduceNeg, if_true, if_false, ite_true, ite_false, true_and, and_true, false_and, and_false, eq_self, reduceIte, Bool.false_eq_true, Nat.reduceBEq, reduceCtorEq, or_true, true_or, or_false, false_or, xel, Int.toNat_natCast, Int.toNat_add, Int.toNat_mul, ok_173 R.1, R.2.2.2.1, s_isLetter, lk]
  by_cases q : tk_l T L p = true
  · rw [if_pos (lkv_l.mpr q), if_neg (by decide)]
    simp (disch := omega) only [↓reduceIte, ↓bbind, ↓bxgf, ↓bxpf, ↓bxal, ↓bxas, ↓bxrc, ↓exrc, xbo, xok_xset, xia_xset, xln_xset, xm_xset, xok_xarr, xia_xarr, xln_xarr, xm_xarr, Option.bind_some, Int.reduceToNat, Nat.reduceEqDiff, Nat.reduceSub, Int.reduceLT, Int.reduceLE, Int.reduceEq, Int.reduceNeg, if_true, if_false, ite_true, ite_false, true_and, and_true, false_and, and_false, eq_self, reduceIte, Bool.false_eq_true, Nat.reduceBEq, reduceCtorEq, or_true, true_or, or_false, false_or, xel, Int.toNat_natCast, Int.toNat_add, Int.toNat_mul, ok_173 h1, at']
    by_cases q2 : b = true
    · rw [if_pos (h8.mp q2).symm, if_neg (by simp [q2])]
    · have q3 : ¬ ((p : Int) = xm H 173 4) := fun e => q2 (h8.mpr e.symm)
      rw [if_neg q3, s_here1 h1 h2 h3 h6 _ h7]
      simp only [Option.bind_some]
      unfold f_X12_isHere_J61
      have W := sh_wA h1 hm
      have we := tk_we_gt q
      have we2 : tk_we T L p ≤ L := rn_le tk_l0 _ _ h7
      rw [wA_ln W hw]
      simp (disch := omega) only [↓reduceIte, ↓bbind, ↓bxgf, ↓bxpf, ↓bxal, ↓bxas, ↓bxrc, ↓exrc, xbo, xok_xset, xia_xset, xln_xset, xm_xset, xok_xarr, xia_xarr, xln_xarr, xm_xarr, Option.bind_some, Int.reduceToNat, Nat.reduceEqDiff, Nat.reduceSub, Int.reduceLT, Int.reduceLE, Int.reduceEq, Int.reduceNeg, if_true, if_false, ite_true, ite_false, true_and, and_true, false_and, and_false, eq_self, reduceIte, Bool.false_eq_true, Nat.reduceBEq, reduceCtorEq, or_true, true_or, or_false, false_or, xel, Int.toNat_natCast, Int.toNat_add, Int.toNat_mul, ok_173 h1, at']
      rw [w32_id (by omega) (by omega)]
      have q4 : b = false := by simpa using q2
      by_cases q5 : tk_we T L p = p + (tk_ww w).length
      · rw [if_pos (by omega)]
        refine (s_here2 (T := T) (L := L) h1 h2 at' W hw (by omega)).trans ?_
        by_cases q6 : ∀ j, j < (tk_ww w).length → T (p + j) = (tk_ww w).getD j 0
        · rw [if_pos q6, if_pos ⟨q4, tk_is_i.mpr ⟨q, q5, q6⟩⟩]
        · rw [if_neg q6, if_neg (fun z => q6 (tk_is_i.mp z.2).2.2)]
      · rw [if_neg (by omega), if_neg (fun z => q5 (tk_is_i.mp z.2).2.1)]
  · rw [if_neg (fun z => q (lkv_l.mp z)), if_pos rfl, if_neg (fun z => q (tk_is_i.mp z.2).1)]
