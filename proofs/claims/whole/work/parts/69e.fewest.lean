/-! ===== the class's sorter says how many meetings it takes ===== -/
/-- a sorter between two questions -/
def SW (H : xa_H) (T n : Nat) (fe : Nat → Int) (mo : Nat) : Prop := SX H T n ∧ (∃ t, MO H T n t fe mo) ∧ ∃ Q L hd tl, hd ≤ tl ∧ tl ≤ fct n ∧ SS H T n Q L hd tl ∧ BF (rch n fe mo) (nbr n fe mo) Q L hd tl
theorem SI.sw {H : xa_H} {T n : Nat} {fe : Nat → Int} {mo : Nat} (R : SI H T n fe mo) (n6 : n ≤ 6) : SW H T n fe mo := by
  obtain ⟨h1, h2, h3, h4, h5, h6, h7, h8, h9, h10, h11, ⟨i1, ⟨t, t1, t2, t3, t4⟩, Q, L, hd, tl, q1, q2, q3, q4, q5, q6, q7, q8⟩⟩ := R
  exact ⟨⟨h1, h2, h3, h4, h5, h6, h7, h8, h9, h10, h11, i1, n6⟩, ⟨t, t1, t2, t3, t4⟩, Q, L, hd, tl, q3, q4, ⟨q1, q2, q5, q6, q7⟩, q8⟩
theorem SW.si {H : xa_H} {T n : Nat} {fe : Nat → Int} {mo : Nat} (R : SW H T n fe mo) : SI H T n fe mo := by
  obtain ⟨⟨h1, h2, h3, h4, h5, h6, h7, h8, h9, h10, h11, i1, n6⟩, ⟨t, t1, t2, t3, t4⟩, Q, L, hd, tl, q3, q4, ⟨q1, q2, q5, q6, q7⟩, q8⟩ := R
  exact ⟨h1, h2, h3, h4, h5, h6, h7, h8, h9, h10, h11, ⟨i1, ⟨t, t1, t2, t3, t4⟩, Q, L, hd, tl, q1, q2, q3, q4, q5, q6, q7, q8⟩⟩
theorem SS.ctr {H : xa_H} {T n hd tl : Nat} {Q L : Nat → Nat} (X : SS H T n Q L hd tl) : SS (xset H T 5 ((hd + 1 : Nat) : Int)) T n Q L (hd + 1) tl := by
  obtain ⟨h1, h2, h3, h4, h5⟩ := X
  have m : ∀ a k, a ≠ T → xm (xset H T 5 ((hd + 1 : Nat) : Int)) a k = xm H a k := fun a k y => by rw [xm_xset, if_neg (by omega)]
  refine ⟨by rw [xm_xset, if_pos ⟨rfl, rfl⟩], by rw [xm_xset, if_neg (by omega)]; exact h2, fun i hi => ?_, fun i h6 h7 => ?_, fun c V => ?_⟩
  · rw [m _ _ (by omega), m _ _ (by omega)]; exact h3 i hi
  · rw [m _ _ (by omega)]; exact h4 i h6 h7
  · rw [m _ _ (by omega)]; exact h5 c V
theorem t_few {fe : Nat → Int} {mo : Nat} {T n t rk : Nat} (hrk : rk < fct n) : ∀ r hd, hd + r = fct n → ∀ (H : xa_H) (Q L : Nat → Nat) (tl : Nat), SX H T n → MO H T n t fe mo → SS H T n Q L hd tl → BF (rch n fe mo) (nbr n fe mo) Q L hd tl → hd ≤ tl → tl ≤ fct n → ∀ fu, r < fu →
    ∃ H' Q' L' hd' tl', xit (fun s => f_X8_fewest_L17 (T : Int) (rk : Int) s) fu H = some H' ∧ FT T H H' ∧ SS H' T n Q' L' hd' tl' ∧ BF (rch n fe mo) (nbr n fe mo) Q' L' hd' tl' ∧ hd' ≤ tl' ∧ tl' ≤ fct n ∧ (xm H' (T + 3) rk = -1 → hd' = tl') := by
  intro r
  induction r with
  | zero =>
    intro hd hr H Q L tl R M X B h1 h2 fu hf
    refine ⟨H, Q, L, hd, tl, xit_end ?_ hf, FT.refl _ _, X, B, h1, h2, fun _ => by omega⟩
    unfold f_X8_fewest_L17
    rw [gSo R, sx_3 R]
    refine (bnd (xal_eq (v := xm H (T + 3) rk) (sx_i3 R hrk) rfl)).trans ?_
    by_cases y : xm H (T + 3) rk = -1
    · rw [if_pos y, gSo R, X.1, gSo R, X.2.1, if_neg (by omega)]
    · rw [if_neg y]
  | succ r ih =>
    intro hd hr H Q L tl R M X B h1 h2 fu hf
    obtain ⟨fu, rfl⟩ : ∃ z, fu = z + 1 := ⟨fu - 1, by omega⟩
    by_cases y : xm H (T + 3) rk = -1 ∧ hd < tl
    · obtain ⟨H1, Q1, L1, tl1, z1, z2, z3, z4, z5, z6⟩ := t_from R M X B y.2 h2 rfl
      have R1 := R.ft z2
      obtain ⟨H2, e2⟩ : ∃ z, z = xset H1 T 5 ((hd + 1 : Nat) : Int) := ⟨_, rfl⟩
      have F2 : FT T H1 H2 := by rw [e2]; exact (FT.refl _ _).set (by omega)
      have X2 : SS H2 T n Q1 L1 (hd + 1) tl1 := by rw [e2]; exact z3.ctr
      have f7 := fct_720 (sx_n R)
      obtain ⟨H', Q', L', hd', tl', w1, w2, w3, w4, w5, w6, w7⟩ := ih (hd + 1) (by omega) H2 Q1 L1 tl1 (R1.ft F2) ((M.ft z2).ft F2) X2 z4 (by omega) z6 fu (by omega)
      refine ⟨H', Q', L', hd', tl', (xit_go (s' := H2) ?_).trans w1, (z2.tr F2).tr w2, w3, w4, w5, w6, w7⟩
      unfold f_X8_fewest_L17
      rw [gSo R, sx_3 R]
      refine (bnd (xal_eq (v := xm H (T + 3) rk) (sx_i3 R hrk) rfl)).trans ?_
      rw [if_pos y.1, gSo R, X.1, gSo R, X.2.1, if_pos (by omega), gSo R, X.1, gSo R, sx_4 R, sx_ln R, bbind, if_pos (by omega), gSo R, sx_4 R, gSo R, X.1]
      refine (bnd (xal_eq (sx_i4 R (by omega)) (X.2.2.1 hd y.2).2.1)).trans ?_
      rw [xSo R, z1, bbind, gSo R1, z3.1, pSo R1, wS (by omega), ← e2]
    · refine ⟨H, Q, L, hd, tl, xit_end ?_ (by omega), FT.refl _ _, X, B, h1, h2, fun z => by omega⟩
      unfold f_X8_fewest_L17
      rw [gSo R, sx_3 R]
      refine (bnd (xal_eq (v := xm H (T + 3) rk) (sx_i3 R hrk) rfl)).trans ?_
      by_cases z : xm H (T + 3) rk = -1
      · rw [if_pos z, gSo R, X.1, gSo R, X.2.1, if_neg (by omega)]
      · rw [if_neg z]
theorem t_fewest {fe : Nat → Int} {mo : Nat} {H : xa_H} {T n c : Nat} (S : SH H) (W : SW H T n fe mo) (V : vperm n c) (src : ∀ i, i < n → xm H 169 i = ((dg i c : Nat) : Int)) :
    ∃ v H', f_X8_fewest (T : Int) 169 H = some (v, H') ∧ ansB (rch n fe mo) c v ∧ FT T H H' ∧ SW H' T n fe mo := by
  obtain ⟨R, ⟨t, M⟩, Q, L, hd, tl, h1, h2, X, B⟩ := W
  have n6 := sx_n R
  have T249 := R.1
  obtain ⟨H1, e1⟩ : ∃ z, z = xcpy H 169 0 (T + 2) 0 6 := ⟨_, rfl⟩
  have F1 : FO T H H1 := by
    rw [e1]
    exact ⟨rfl, rfl, rfl, fun a k y => by rw [xm_xcpy, if_neg (by omega)]⟩
  have R1 := R.fo F1
  have O1 : OD H1 T n c := fun i hi => by
    rw [e1, xm_xcpy, if_pos ⟨rfl, by omega, by omega⟩, show 0 + (i - 0) = i by omega]
    exact src i hi
  have M1 := M.ft F1.ft
  have X1 := X.fo F1
  have rb := rkn_bd V
  have f7 := fct_720 n6
  obtain ⟨H2, Q', L', hd', tl', w1, w2, w3, w4, w5, w6, w7⟩ := t_few (rk := rkn n c n) rb (fct n - hd) hd (by omega) H1 Q L tl R1 M1 X1 B h1 h2 xFU (by unfold xFU; omega)
  have R2 := R1.ft w2
  refine ⟨xm H2 (T + 3) (rkn n c n), H2, ?_, ?_, F1.ft.tr w2, R2, ⟨t, M1.ft w2⟩, Q', L', hd', tl', w5, w6, w3, w4⟩
  · have k69 : xk H 169 = (0, 6) := (kd_xk S (by omega)).trans (by decide +kernel)
    have n0 := S.1
    unfold f_X8_fewest
    rw [gSo R, sx_7 R]
    refine (bnd (v := H1) ((xcp_eq (s := 169) (d := T + 2) 6 k69 R.2.2.2.2.1 (by omega) (by have := R.2.1; omega) 0 0 (by omega) (by omega)).trans (by rw [e1]))).trans ?_
    rw [xSo R1, t_rank R1 O1 V, bbind]
    refine (bnd w1).trans ?_
    rw [gSo R2, sx_3 R2]
    exact (bnd (xal_eq (sx_i3 R2 rb) rfl)).trans rfl
  · rcases w3.2.2.2.2 c V with z | ⟨i, hi, e⟩
    · rw [z]
      refine bf_none w4 rch_S (w7 z) (fun j hj e => ?_)
      have := (w3.2.2.1 j hj).2.2
      rw [e, z] at this
      omega
    · have a := bf_ans w4 hi
      have := (w3.2.2.1 i hi).2.2
      rw [e] at this a
      rw [this]
      exact a
