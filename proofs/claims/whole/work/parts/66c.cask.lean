/-! ===== a question, begun by the class ===== -/
/-- what a question that is told comes to -/
def aQ (T : Nat → Int) (L k : Nat) : pR := bd (fmQ T L (if k < 3 then 0 else 1) (pN T L (tk_sk T L 0, false, []))) (fun s => if s.1 < L then .inr (1, s.1) else .inl s)
/-- it has a fault -/
def aE (T : Nat → Int) (L : Nat) (e : Nat × Nat) : Prop := (∃ k : Nat, k < 6 ∧ tk_w T L (tk_sk T L 0) false = ((23 + k : Nat) : Int) ∧ aQ T L k = .inr e) ∨ ((∀ k : Nat, k < 6 → tk_w T L (tk_sk T L 0) false ≠ ((23 + k : Nat) : Int)) ∧ e = (1, tk_sk T L 0))
/-- it is whole -/
def aG (T : Nat → Int) (L k : Nat) (s : pS) : Prop := k < 6 ∧ tk_w T L (tk_sk T L 0) false = ((23 + k : Nat) : Int) ∧ aQ T L k = .inl s
theorem aG_aE {T : Nat → Int} {L k : Nat} {s : pS} {e : Nat × Nat} (a : aG T L k s) (b : aE T L e) : False := by
  obtain ⟨a1, a2, a3⟩ := a
  rcases b with ⟨k', b1, b2, b3⟩ | ⟨b1, -⟩
  · have : k' = k := by omega
    subst this
    rw [a3] at b3
    cases b3
  · exact b1 k a1 a2
theorem aG_u {T : Nat → Int} {L k k' : Nat} {s s' : pS} (a : aG T L k s) (b : aG T L k' s') : k = k' ∧ s = s' := by
  obtain ⟨a1, a2, a3⟩ := a
  obtain ⟨b1, b2, b3⟩ := b
  have : k = k' := by omega
  subst this
  rw [a3] at b3
  exact ⟨rfl, Sum.inl.inj b3⟩
theorem aE_u {T : Nat → Int} {L : Nat} {e e' : Nat × Nat} (a : aE T L e) (b : aE T L e') : e = e' := by
  rcases a with ⟨k, a1, a2, a3⟩ | ⟨a1, rfl⟩
  · rcases b with ⟨k', b1, b2, b3⟩ | ⟨b1, -⟩
    · have : k = k' := by omega
      subst this
      rw [a3] at b3
      exact Sum.inr.inj b3
    · exact absurd a2 (b1 k a1)
  · rcases b with ⟨k', b1, b2, b3⟩ | ⟨b1, rfl⟩
    · exact absurd b2 (a1 k' b1)
    · rfl
/-- cells of the class that reading a question may change -/
def GQ (h h' : xa_H) : Prop := (xn h ≤ xn h' ∧ xn h' ≤ xn h + 3) ∧ (xz h ≤ xz h' ∧ xz h' ≤ xz h + 1700) ∧ (∀ a, a < xn h → xk h' a = xk h a) ∧ ∀ a k, a < xn h → ¬ (a = 6 ∧ k = 2) → a ≠ 2 → a ≠ 4 → a ≠ 5 → xm h' a k = xm h a k
theorem GQ.tr {h h' h'' : xa_H} (a : xn h' = xn h ∧ xz h' = xz h ∧ GQ h h') (b : GQ h' h'') : GQ h h'' := by
  obtain ⟨a1, a2, a3, a4, a5, a6⟩ := a
  obtain ⟨b1, b2, b3, b4⟩ := b
  exact ⟨by omega, by omega, fun x hx => by rw [b3 x (by omega), a5 x hx], fun x k hx h1 h2 h3 h4 => by rw [b4 x k (by omega) h1 h2 h3 h4, a6 x k hx h1 h2 h3 h4]⟩
theorem GQ.fx {D : Nat → Nat → Bool} {h h' : xa_H} (e : Fx D h h') (hd : ∀ a k, ¬ (a = 6 ∧ k = 2) → a ≠ 2 → a ≠ 4 → a ≠ 5 → D a k = false) : xn h' = xn h ∧ xz h' = xz h ∧ GQ h h' := by
  obtain ⟨e1, e2, e3, e4⟩ := e
  exact ⟨e1, e2, ⟨by omega, by omega⟩, ⟨by omega, by omega⟩, fun a _ => by rw [e3], fun a k _ h0 h1 h2 h3 => e4 a k (hd a k h0 h1 h2 h3)⟩
theorem GQ.new {h h' : xa_H} {c : List Int} (N : newG h h' c) (hc : c.length ≤ 1600) : GQ h h' := by
  obtain ⟨n1, n2, n3, n4, -⟩ := N
  exact ⟨by omega, by omega, n3, fun a k ha _ h1 h2 h3 => n4 a k ha (dr_ne ⟨h1, h2, h3⟩)⟩
theorem GQ.tr2 {h h' h'' : xa_H} (a : GQ h h') (b : xn h'' = xn h' ∧ xz h'' = xz h' ∧ GQ h' h'') : GQ h h'' := by
  obtain ⟨a1, a2, a3, a4⟩ := a
  obtain ⟨b0, b00, b1, b2, b3, b4⟩ := b
  exact ⟨by omega, by omega, fun x hx => by rw [b3 x (by omega), a3 x hx], fun x k hx h1 h2 h3 h4 => by rw [b4 x k (by omega) h1 h2 h3 h4, a4 x k hx h1 h2 h3 h4]⟩
theorem db6_q {a k : Nat} (h0 : ¬ (a = 6 ∧ k = 2)) (h1 : a ≠ 2) : DB6 a k = false := by
  unfold DB6
  simp
  omega
theorem ask_J110 {h : xa_H} (S : SH h) {v1 v2 : Int} {F : Nat} : f_X11_ask_J110 0 v1 v2 (F : Int) h = if xm h 2 3 = 0 then (if v2 = 0 then (f_X11_answerSum 0 v1 (F : Int) h).bind fun r20 => some (r20.1, r20.2) else (f_X11_answerTest 0 v1 (F : Int) h).bind fun r21 => some (r21.1, r21.2)) else (f_X6_stray 2 h).bind fun r23 => some (-1000000000000000, r23.2) := by
  unfold f_X11_ask_J110
  rw [xn5_ok (show ((F : Nat) : Int) ≠ -5 by omega), if_neg (show ¬ ((F : Nat) : Int) = -1 by omega), g0k S, pt_0_2 S, g2k S, x0o S, x0o S, g0k S, pt_0_2 S, x62 S]
theorem c_ask0 {h : xa_H} (S : SH h) {T : Nat → Int} {L : Nat} (eL : xm h 0 1 = (L : Int)) (hT : ∀ k, k < 1600 → xm h 1 k = sx8 (T k) ∧ 0 ≤ T k ∧ T k < 256) (hL : L ≤ 1600) :
    ∃ hA, GQ (xset h 0 1 0) hA ∧ SH hA ∧ ((∃ k s, aG T L k s ∧ Cb T L hA ∧ FS hA (xn h) s.2.2.length ∧ (∀ i, i < s.2.2.length → xm hA (xn h + 1) i = cof (s.2.2.getD i 0)) ∧ xn hA = xn h + 3 ∧ xm hA 4 4 = xm hA 4 4 ∧
        f_X11_ask 0 h = (if k < 3 then (f_X11_answerTest 0 ((23 + k : Nat) : Int) (xn h : Int) hA).bind fun r21 => some (r21.1, r21.2) else (f_X11_answerSum 0 ((23 + k : Nat) : Int) (xn h : Int) hA).bind fun r20 => some (r20.1, r20.2))) ∨
      ∃ e, aE T L e ∧ Ex hA e ∧ f_X11_ask 0 h = some (-1000000000000000, hA)) := by
  obtain ⟨h0, e0⟩ : ∃ z, z = xset h 0 1 0 := ⟨_, rfl⟩
  have S0 : SH h0 := by rw [e0]; exact S.set (by decide +kernel)
  have n0 : xn h0 = xn h := by rw [e0]; rfl
  rw [← e0]
  obtain ⟨h5, b1, C5, D5⟩ := c_begin0 S0 (T := T) (L := L) (fun k hk => by rw [e0, xm_xset, if_neg (by omega)]; exact hT k hk) hL
  have G5 := GQ.fx D5 (fun a k y0 y1 _ _ => db6_q y0 y1)
  have S5 := C5.1.1
  have w7 := C5.2.2.2.2.2.2.2
  obtain ⟨w, ew⟩ : ∃ w, w = tk_w T L (tk_sk T L 0) false := ⟨_, rfl⟩
  rw [← ew] at w7
  have hd : f_X11_ask 0 h = if w = 23 then f_X11_ask_J37 0 w h5 else if w = 24 then f_X11_ask_J37 0 w h5 else if w = 25 then f_X11_ask_J37 0 w h5 else f_X11_ask_J42 0 w 0 h5 := by
    unfold f_X11_ask
    rw [g0k S, pt_0_2 S, x0o S, s_takeTape S, bbind, eL, ← e0, x62 S0, b1, bbind, g0k S5, pt_0_2 S5, g2k S5, w7]
  by_cases hw : ∃ k : Nat, k < 6 ∧ w = ((23 + k : Nat) : Int)
  · obtain ⟨k, k6, ek⟩ := hw
    have pl : tk_sk T L 0 < L := by
      have := tk_w_l (T := T) (L := L) (p := tk_sk T L 0) (b := false) (by rw [← ew]; omega)
      exact (tk_li.mp this.2).1
    have rdK : ∃ q, (q = 0 ∧ k < 3 ∨ q = 3 ∧ ¬ k < 3) := by
      by_cases y : k < 3
      · exact ⟨0, Or.inl ⟨rfl, y⟩⟩
      · exact ⟨3, Or.inr ⟨rfl, y⟩⟩
    obtain ⟨q, hq⟩ := rdK
    obtain ⟨v, h6, r1, r2⟩ := c_codesQ C5 pl (w := if k < 3 then 0 else 1) (k := q) (by
      rcases hq with ⟨rfl, y⟩ | ⟨rfl, y⟩
      · rw [if_pos y]; exact Or.inl ⟨rfl, rfl⟩
      · rw [if_neg y]; exact Or.inr ⟨rfl, rfl⟩)
    have hd2 : f_X11_ask 0 h = f_X11_ask_J110 0 w (if k < 3 then 1 else 0) v h6 := by
      rw [hd]
      rcases hq with ⟨rfl, y⟩ | ⟨rfl, y⟩
      · have e1 : f_X11_ask_J37 0 w h5 = f_X11_ask_J110 0 w 1 v h6 := by
          unfold f_X11_ask_J37 f_X11_ask_J42 f_X11_ask_J66 f_X11_ask_J87
          rw [if_neg (by omega), if_neg (by omega), if_neg (by omega), if_neg one_ne, if_neg one_ne, g0k S5, pt_0_3 S5, x34 S5, rdQ_0, r1, bbind]
        rw [if_pos y, e1]
        have : w = 23 ∨ w = 24 ∨ w = 25 := by omega
        rcases this with z | z | z
        · rw [if_pos z]
        · rw [if_neg (by omega), if_pos z]
        · rw [if_neg (by omega), if_neg (by omega), if_pos z]
      · have e1 : f_X11_ask_J61 0 w 0 h5 = f_X11_ask_J110 0 w 0 v h6 := by
          unfold f_X11_ask_J61 f_X11_ask_J66 f_X11_ask_J87
          rw [if_pos rfl, if_neg one_ne, if_pos rfl, g0k S5, pt_0_3 S5, x34 S5, rdQ_3, r1, bbind]
        rw [if_neg y, if_neg (by omega), if_neg (by omega), if_neg (by omega)]
        unfold f_X11_ask_J42
        have : w = 26 ∨ w = 27 ∨ w = 28 := by omega
        rcases this with z | z | z
        · rw [if_pos z, e1]
        · rw [if_neg (by omega), if_pos z, e1]
        · rw [if_neg (by omega), if_neg (by omega), if_pos z, e1]
    rcases r2 with ⟨s', f1, rfl, C6, N⟩ | ⟨e, f1, rfl, E6, D6⟩
    · have ok := fmQ_ok (T := T) (L := L) (if k < 3 then 0 else 1) (pN T L (tk_sk T L 0, false, [])) s' f1 (by have := pN_lt (T := T) (s := (tk_sk T L 0, false, [])) pl; exact this.2.1)
      have S6 := C6.1.1
      have nn : xn h5 = xn h := by rw [D5.1, n0]
      have cl : s'.2.2.length ≤ 1600 := by
        obtain ⟨o1, o2, c, o3, o4, -⟩ := ok
        have o5 : s'.2.2 = c := by rw [o3]; rfl
        rw [o5]
        omega
      have GA : GQ h0 h6 := GQ.tr G5 (GQ.new N cl)
      have k3 := C6.2.2.2.1
      rw [ask_J110 S6] at hd2
      by_cases y : s'.1 < L
      · obtain ⟨h7, q1, q2, q3⟩ := q_stray C6
        have G7 := GQ.fx q3 (fun a k _ y1 _ _ => dc_ne y1)
        refine ⟨h7, GA.tr2 G7, q2.1, Or.inr ⟨(1, s'.1), Or.inl ⟨k, k6, by rw [← ew]; exact ek, ?_⟩, q2, ?_⟩⟩
        · unfold aQ
          rw [f1, bd_l, if_pos y]
        · rw [hd2, if_neg (by rw [k3, tk_k_e]; omega), q1]
          rfl
      · refine ⟨h6, GA, S6, Or.inl ⟨k, s', ⟨k6, by rw [← ew]; exact ek, ?_⟩, C6.1, ?_, ?_, by have := N.1; omega, rfl, ?_⟩⟩
        · unfold aQ
          rw [f1, bd_l, if_neg y]
        · rw [← nn]; exact N.2.2.2.2.1
        · rw [← nn]; exact N.2.2.2.2.2
        · rw [hd2, if_pos (by rw [k3, tk_k_e]; omega), ek, nn]
          by_cases z : k < 3
          · rw [if_pos z, if_neg one_ne, if_pos z]
          · rw [if_neg z, if_pos rfl, if_neg z]
    · have G6 := GQ.fx D6 (fun a k _ y1 y2 y3 => dr_ne ⟨y1, y2, y3⟩)
      refine ⟨h6, GQ.tr G5 G6.2.2, E6.1, Or.inr ⟨e, Or.inl ⟨k, k6, by rw [← ew]; exact ek, ?_⟩, E6, ?_⟩⟩
      · unfold aQ
        rw [f1]
        rfl
      · rw [hd2]
        unfold f_X11_ask_J110
        rw [xn5_ok (show (-1 : Int) ≠ -5 by decide), if_pos rfl]
  · obtain ⟨h7, q1, q2, q3⟩ := q_stray C5
    have G7 := GQ.fx q3 (fun a k _ y1 _ _ => dc_ne y1)
    have nw : ∀ k : Nat, k < 6 → w ≠ ((23 + k : Nat) : Int) := fun k hk e => hw ⟨k, hk, e⟩
    have w0 := nw 0 (by omega)
    have w1 := nw 1 (by omega)
    have w2 := nw 2 (by omega)
    have w3 := nw 3 (by omega)
    have w4 := nw 4 (by omega)
    have w5 := nw 5 (by omega)
    refine ⟨h7, GQ.tr G5 G7.2.2, q2.1, Or.inr ⟨(1, tk_sk T L 0), Or.inr ⟨by rw [← ew]; exact nw, rfl⟩, q2, ?_⟩⟩
    rw [hd, if_neg (by omega), if_neg (by omega), if_neg (by omega)]
    unfold f_X11_ask_J42
    rw [if_neg (by omega), if_neg (by omega), if_neg (by omega)]
    unfold f_X11_ask_J66
    rw [if_pos rfl, if_pos rfl, g0k S5, pt_0_2 S5, x62 S5, q1]
    rfl
