/-! ===== the class's answer to a question ===== -/
def wv (h : xa_H) (n : Nat) (c : Nat → Int) (l i : Nat) : Int := (vrun (fq h n i) c l).headD 0
def rf (w : Nat → Int) (k : Nat) : Nat → Int
  | 0 => if k < 2 then -1 else 0
  | n + 1 => if k = 0 then (if w n = 1 ∧ rf w k n = -1 then (n : Int) else rf w k n) else if k = 1 then (if w n = 1 then (n : Int) else rf w k n) else if k = 2 then (if w n = 1 then rf w k n + 1 else rf w k n) else if k = 3 then rf w k n + w n else if k = 4 then (if n = 0 then w n else max (rf w k n) (w n)) else (if n = 0 then w n else min (rf w k n) (w n))
def DZ (F a _k : Nat) : Bool := a == 170 || a == F + 2
theorem fx_SH {h h' : xa_H} {F : Nat} (e : Fx (DZ F) h h') (hF : 249 ≤ F) (S : SH h) : SH h' := by
  refine S.fixed (by rw [e.1]; exact S.1) (fun a _ => by rw [e.2.2.1]) (fun a k hf => e.2.2.2 a k ?_)
  have := fix_lt hf
  unfold DZ
  have y : a ≠ 170 := by
    intro y
    subst y
    have : fixd 170 k = false := fixd_of (by decide +kernel)
    rw [this] at hf
    cases hf
  simp [y]
  omega
/-- what stands while a question is answered -/
def AC (h hA : xa_H) (s n F l : Nat) (c : Nat → Int) (t : Bool) : Prop := QC h hA s ∧ F = xn h ∧ FS hA F l ∧ l < 1602 ∧ (∀ i, i < l → xm hA (F + 1) i = cof (c i) ∧ vcode true (c i)) ∧ trun c l [] = some [t] ∧ xm h 199 4 = (n : Int)
theorem AC.qc {h hA H : xa_H} {s n F l F1 F2 T2 T3 : Nat} {c : Nat → Int} {t : Bool} (A : AC h hA s n F l c t) (R : RR h s F1 F2 T2 T3) (Z : Fx (DZ F) hA H) : QC h H s := by
  obtain ⟨⟨q1, q2, q3, q4⟩, f1, f2, -⟩ := A
  have f249 := f2.1
  have cs := (rr_c R).2.1
  have c1 := cs.1
  have c2 := cs.2.1
  refine ⟨fx_SH Z f249 q1, by rw [Z.1]; exact q2, fun a ha => by rw [Z.2.2.1]; exact q3 a ha, fun a k hd => ?_⟩
  rw [Z.2.2.2 a k (by unfold DZ; simp; omega)]
  exact q4 a k hd
theorem c_one {h hA H : xa_H} {s n F l F1 F2 T2 T3 : Nat} {c : Nat → Int} {t : Bool} (R : RR h s F1 F2 T2 T3) (A : AC h hA s n F l c t) (Z : Fx (DZ F) hA H) {i : Nat} (hi : i < n) :
    ∃ H1 H2, f_X11_findFacts 0 (i : Int) H = some H1 ∧ SH H1 ∧ xok H1 2 (F : Int) = true ∧ f_X2_worth (F : Int) 170 H1 = some (wv h n c l i, H2) ∧ okv1 t (wv h n c l i) ∧ vrun (fq h n i) c l = [wv h n c l i] ∧ Fx (DZ F) hA H2 := by
  have Q := A.qc R Z
  obtain ⟨q, f1, f2, hl, hc, ht, en⟩ := A
  have f249 := f2.1
  obtain ⟨H1, e1, m1, ⟨n1, z1, k1⟩, S1, v1⟩ := s_findFacts R Q en hi
  have Z1 : Fx (DZ F) hA H1 := ⟨by rw [n1, Z.1], by rw [z1, Z.2.1], by rw [k1, Z.2.2.1], fun a k hd => by
    have : a ≠ 170 := by
      intro y
      subst y
      simp [DZ] at hd
    rw [m1 a k this, Z.2.2.2 a k hd]⟩
  have FS1 : FS H1 F l := f2.mv (by rw [Z1.1]; exact Nat.le_refl _) (fun a _ => by rw [Z1.2.2.1]) (fun k => Z1.2.2.2 F k (by unfold DZ; simp; omega))
  obtain ⟨v, ev, o, w⟩ := c_worth (q := true) (fa := fq h n i) (A := 170) (N := 14) FS1 ⟨by have := S1.1; omega, (kd_xk S1 (by omega)).trans (by decide +kernel)⟩ ⟨by omega, fun _ => by omega⟩ (fq_ok R en hi) (fun k hk y _ => v1 k hk (y rfl).1 (y rfl).2) (by omega) hl (fun j hj => by
    rw [Z1.2.2.2 (F + 1) j (by unfold DZ; simp; omega)]
    exact hc j hj) ht
  have wvv : wv h n c l i = v := by unfold wv; rw [ev]; rfl
  refine ⟨H1, wH H1 (F + 2) (fq h n i) c l, e1, S1, fs_ok FS1, by rw [wvv]; exact w, by rw [wvv]; exact o, by rw [wvv]; exact ev, ?_⟩
  obtain ⟨w1, w2, w3⟩ := wH_n H1 (F + 2) (fq h n i) c l
  exact ⟨by rw [w1, Z1.1], by rw [w2, Z1.2.1], by rw [w3, Z1.2.2.1], fun a k hd => by
    have : a ≠ F + 2 := by
      intro y
      subst y
      simp [DZ] at hd
    rw [wH_o this l, Z1.2.2.2 a k hd]⟩
theorem rf_c {w : Nat → Int} : ∀ n, 0 ≤ rf w 2 n ∧ rf w 2 n ≤ n
  | 0 => by show 0 ≤ (if (2 : Nat) < 2 then (-1 : Int) else 0) ∧ _; rw [if_neg (by omega)]; simp [rf]
  | n + 1 => by
    have := rf_c (w := w) n
    show 0 ≤ (if w n = 1 then rf w 2 n + 1 else rf w 2 n) ∧ (if w n = 1 then rf w 2 n + 1 else rf w 2 n) ≤ _
    split <;> omega
theorem rf_s {w : Nat → Int} (hw : ∀ i, -1000000 ≤ w i ∧ w i ≤ 1000000) : ∀ n : Nat, -1000000 * (n : Int) ≤ rf w 3 n ∧ rf w 3 n ≤ 1000000 * (n : Int)
  | 0 => by show _ ≤ (if (3 : Nat) < 2 then (-1 : Int) else 0) ∧ (if (3 : Nat) < 2 then (-1 : Int) else 0) ≤ _; rw [if_neg (by omega)]; omega
  | n + 1 => by
    have := rf_s hw n
    have := hw n
    show _ ≤ rf w 3 n + w n ∧ rf w 3 n + w n ≤ _
    omega
theorem la_test {h hA : xa_H} {s n F l F1 F2 T2 T3 : Nat} {c : Nat → Int} (R : RR h s F1 F2 T2 T3) (A : AC h hA s n F l c true) (v1 : Int) : ∀ m i, i + m = n → ∀ H, Fx (DZ F) hA H → ∀ fu, m < fu →
    ∃ H', xit (fun s => f_X11_answerTest_L11 0 v1 (F : Int) s.1 s.2.1 s.2.2.1 s.2.2.2.1 s.2.2.2.2) fu (rf (wv h n c l) 2 i, rf (wv h n c l) 0 i, rf (wv h n c l) 1 i, (i : Int), H) = some (rf (wv h n c l) 2 n, rf (wv h n c l) 0 n, rf (wv h n c l) 1 n, H') ∧ Fx (DZ F) hA H' := by
  have C := rr_c R
  have n6 := rc_n C
  have en := A.2.2.2.2.2.2
  intro m
  induction m with
  | zero =>
    intro i him H Z fu hf
    have Q := A.qc R Z
    have SQ := Q.1
    have ct := Q.cs C.2.1
    have : i = n := by omega
    subst this
    refine ⟨H, xit_end ?_ hf, Z⟩
    show f_X11_answerTest_L11 0 v1 (F : Int) _ _ _ (i : Int) H = _
    unfold f_X11_answerTest_L11
    rw [g0k SQ, Q.2.2.2 0 5 (by omega), C.1, gCS ct, Q.2.2.2 s 2 (by omega), C.2.2.2.2.2.2.1, en, if_neg (by omega)]
  | succ m ih =>
    intro i him H Z fu hf
    have Q := A.qc R Z
    have SQ := Q.1
    have ct := Q.cs C.2.1
    obtain ⟨fu, rfl⟩ : ∃ z, fu = z + 1 := ⟨fu - 1, by omega⟩
    obtain ⟨H1, H2, e1, S1, o1, e2, o2, -, Z2⟩ := c_one R A Z (i := i) (by omega)
    obtain ⟨H', x1, x2⟩ := ih (i + 1) (by omega) H2 Z2 fu (by omega)
    refine ⟨H', ?_, x2⟩
    rw [← x1]
    refine xit_go ?_
    show f_X11_answerTest_L11 0 v1 (F : Int) _ _ _ (i : Int) H = _
    unfold f_X11_answerTest_L11
    rw [g0k SQ, Q.2.2.2 0 5 (by omega), C.1, gCS ct, Q.2.2.2 s 2 (by omega), C.2.2.2.2.2.2.1, en, if_pos (by omega), x0o SQ, e1, bbind, g0k S1, pt_0_14 S1, show xrc H1 2 (F : Int) (f_X2_worth (F : Int) 170 H1) = f_X2_worth (F : Int) 170 H1 from if_pos o1, e2, bbind]
    have b2 := rf_c (w := wv h n c l) i
    unfold okv1 at o2
    rw [if_pos rfl] at o2
    have r2 : rf (wv h n c l) 2 (i + 1) = if wv h n c l i = 1 then rf (wv h n c l) 2 i + 1 else rf (wv h n c l) 2 i := rfl
    have r0 : rf (wv h n c l) 0 (i + 1) = if wv h n c l i = 1 ∧ rf (wv h n c l) 0 i = -1 then (i : Int) else rf (wv h n c l) 0 i := rfl
    have r1 : rf (wv h n c l) 1 (i + 1) = if wv h n c l i = 1 then (i : Int) else rf (wv h n c l) 1 i := rfl
    by_cases y : wv h n c l i = 0
    · rw [if_pos y, wS (by omega), r2, r0, r1, if_neg (by omega), if_neg (by omega), if_neg (by omega)]
    · have y1 : wv h n c l i = 1 := by omega
      rw [if_neg y, r2, r0, r1, if_pos y1, if_pos y1]
      by_cases z : rf (wv h n c l) 0 i = -1
      · rw [if_pos z, if_pos ⟨y1, z⟩, wS (by omega), w32_id (by omega) (by omega)]
      · rw [if_neg z, if_neg (fun q => z q.2), wS (by omega), w32_id (by omega) (by omega)]
theorem la_sum {h hA : xa_H} {s n F l F1 F2 T2 T3 : Nat} {c : Nat → Int} (R : RR h s F1 F2 T2 T3) (A : AC h hA s n F l c false) (v1 : Int) : ∀ m i, i + m = n → ∀ H, Fx (DZ F) hA H → ∀ fu, m < fu → (-1000000 * (i : Int) ≤ rf (wv h n c l) 3 i ∧ rf (wv h n c l) 3 i ≤ 1000000 * (i : Int)) →
    ∃ H', xit (fun s => f_X11_answerSum_L11 0 v1 (F : Int) s.1 s.2.1 s.2.2.1 s.2.2.2.1 s.2.2.2.2) fu (rf (wv h n c l) 3 i, rf (wv h n c l) 4 i, rf (wv h n c l) 5 i, (i : Int), H) = some (rf (wv h n c l) 3 n, rf (wv h n c l) 4 n, rf (wv h n c l) 5 n, H') ∧ Fx (DZ F) hA H' := by
  have C := rr_c R
  have n6 := rc_n C
  have en := A.2.2.2.2.2.2
  intro m
  induction m with
  | zero =>
    intro i him H Z fu hf hb
    have Q := A.qc R Z
    have SQ := Q.1
    have ct := Q.cs C.2.1
    have : i = n := by omega
    subst this
    refine ⟨H, xit_end ?_ hf, Z⟩
    show f_X11_answerSum_L11 0 v1 (F : Int) _ _ _ (i : Int) H = _
    unfold f_X11_answerSum_L11
    rw [g0k SQ, Q.2.2.2 0 5 (by omega), C.1, gCS ct, Q.2.2.2 s 2 (by omega), C.2.2.2.2.2.2.1, en, if_neg (by omega)]
  | succ m ih =>
    intro i him H Z fu hf hb
    have Q := A.qc R Z
    have SQ := Q.1
    have ct := Q.cs C.2.1
    obtain ⟨fu, rfl⟩ : ∃ z, fu = z + 1 := ⟨fu - 1, by omega⟩
    obtain ⟨H1, H2, e1, S1, o1, e2, o2, -, Z2⟩ := c_one R A Z (i := i) (by omega)
    unfold okv1 at o2
    rw [if_neg (by decide)] at o2
    have r3 : rf (wv h n c l) 3 (i + 1) = rf (wv h n c l) 3 i + wv h n c l i := rfl
    have r4 : rf (wv h n c l) 4 (i + 1) = if i = 0 then wv h n c l i else max (rf (wv h n c l) 4 i) (wv h n c l i) := rfl
    have r5 : rf (wv h n c l) 5 (i + 1) = if i = 0 then wv h n c l i else min (rf (wv h n c l) 5 i) (wv h n c l i) := rfl
    obtain ⟨H', x1, x2⟩ := ih (i + 1) (by omega) H2 Z2 fu (by omega) (by rw [r3]; omega)
    refine ⟨H', ?_, x2⟩
    rw [← x1]
    refine xit_go ?_
    show f_X11_answerSum_L11 0 v1 (F : Int) _ _ _ (i : Int) H = _
    unfold f_X11_answerSum_L11
    rw [g0k SQ, Q.2.2.2 0 5 (by omega), C.1, gCS ct, Q.2.2.2 s 2 (by omega), C.2.2.2.2.2.2.1, en, if_pos (by omega), x0o SQ, e1, bbind, g0k S1, pt_0_14 S1, show xrc H1 2 (F : Int) (f_X2_worth (F : Int) 170 H1) = f_X2_worth (F : Int) 170 H1 from if_pos o1, e2, bbind]
    unfold f_X11_answerSum_J62L11
    rw [w64_id (by omega) (by omega), r3, r4, r5]
    by_cases y : i = 0
    · rw [if_pos (by omega), if_pos (by omega), if_pos y, if_pos y, wS (by omega)]
    · rw [if_neg (by omega), if_neg (by omega), if_neg y, if_neg y, wS (by omega)]
/-- the class's whole answer -/
theorem c_ans {h hA : xa_H} {s n F l F1 F2 T2 T3 k : Nat} {c : Nat → Int} (R : RR h s F1 F2 T2 T3) (A : AC h hA s n F l c (decide (k < 3))) (hk : k < 6) :
    ∃ H', (if k < 3 then (f_X11_answerTest 0 ((23 + k : Nat) : Int) (F : Int) hA).bind fun r21 => some (r21.1, r21.2) else (f_X11_answerSum 0 ((23 + k : Nat) : Int) (F : Int) hA).bind fun r20 => some (r20.1, r20.2)) = some (rf (wv h n c l) k n, H') ∧ Fx (DZ F) hA H' := by
  have n6 := rc_n (rr_c R)
  have en := A.2.2.2.2.2.2
  by_cases y : k < 3
  · rw [decide_eq_true y] at A
    obtain ⟨H', x1, x2⟩ := la_test R A ((23 + k : Nat) : Int) n 0 (by omega) hA (Fx.refl _ _) xFU (by unfold xFU; omega)
    refine ⟨H', ?_, x2⟩
    rw [if_pos y]
    unfold f_X11_answerTest
    have : k = 0 ∨ k = 1 ∨ k = 2 := by omega
    rcases this with rfl | rfl | rfl
    · refine (bnd (v := (rf (wv h n c l) 0 n, H')) ((bnd x1).trans ?_)).trans rfl
      rw [if_neg (by decide), if_pos (by decide)]
    · refine (bnd (v := (rf (wv h n c l) 1 n, H')) ((bnd x1).trans ?_)).trans rfl
      rw [if_neg (by decide), if_neg (by decide)]
    · refine (bnd (v := (rf (wv h n c l) 2 n, H')) ((bnd x1).trans ?_)).trans rfl
      rw [if_pos (by decide)]
  · rw [decide_eq_false y] at A
    obtain ⟨H', x1, x2⟩ := la_sum R A ((23 + k : Nat) : Int) n 0 (by omega) hA (Fx.refl _ _) xFU (by unfold xFU; omega) (by show _ ≤ (0 : Int) ∧ (0 : Int) ≤ _; omega)
    refine ⟨H', ?_, x2⟩
    rw [if_neg y]
    unfold f_X11_answerSum
    have : k = 3 ∨ k = 4 ∨ k = 5 := by omega
    rcases this with rfl | rfl | rfl
    · refine (bnd (v := (rf (wv h n c l) 3 n, H')) ((bnd x1).trans ?_)).trans rfl
      rw [if_pos (by decide)]
    · refine (bnd (v := (rf (wv h n c l) 4 n, H')) ((bnd x1).trans ?_)).trans rfl
      rw [if_neg (by decide), if_pos (by decide)]
    · refine (bnd (v := (rf (wv h n c l) 5 n, H')) ((bnd x1).trans ?_)).trans rfl
      rw [if_neg (by decide), if_neg (by decide)]
