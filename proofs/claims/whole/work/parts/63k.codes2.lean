/-! ===== a formula of the case, read by the class: the whole ===== -/
def rdF (k : Nat) (h : xa_H) : Option (Int × xa_H) := xbo 0 <| (xpf h 3 3 4 0).bind fun h1 => (xpf h1 3 2 4 0).bind fun h3 => (xgf h3 3 0 4).bind fun x4 => (xrc h3 6 x4 (f_X6_step x4 h3)).bind fun r5 => (xrc r5 3 4 (f_rec 60 k 4 0 r5)).bind fun r6 => if r6.1 = 0 then some (-1, r6.2) else (xnO r6.2 2 2).bind fun h8 => (xgf h8 3 1 4).bind fun x9 => (xgf h8 3 2 4).bind fun x10 => (f_J7_copyOf_59c91 x9 x10 h8).bind fun r11 => (f_X2_init ((xn r6.2 : Int)) r11.1 r11.2).bind fun r12 => some ((xn r6.2 : Int), r12)
theorem rdF_0 (h : xa_H) : f_X3_readTest 4 0 h = rdF 0 h := rfl
theorem rdF_3 (h : xa_H) : f_X3_readSum 4 0 h = rdF 3 h := rfl
/-- by which reading -/
def fmP (T : Nat → Int) (L : Nat) (w : Nat) (s : pS) : pR := if w = 0 then testP T L false 6 s else sumP T L false 6 s
theorem fmP_ok {T : Nat → Int} {L : Nat} (w : Nat) : pOK L false (decide (w = 0)) 26 (fmP T L w) := by
  unfold fmP
  by_cases z : w = 0
  · simp only [z, if_true, decide_true]
    exact testP_ok 6
  · simp only [z, if_false, decide_false]
    exact pOK_mono (sumP_ok 6) (by omega)
def newG (h h' : xa_H) (c : List Int) : Prop := xn h' = xn h + 3 ∧ xz h' = xz h + (66 + c.length) ∧ (∀ a, a < xn h → xk h' a = xk h a) ∧ (∀ a k, a < xn h → DR a k = false → xm h' a k = xm h a k) ∧ FS h' (xn h) c.length ∧ ∀ i, i < c.length → xm h' (xn h + 1) i = cof (c.getD i 0)
theorem cx_mv {T : Nat → Int} {L : Nat} {h h' : xa_H} {p : Nat} {b : Bool} (C : Cx T L h p b) (S : SH h') (e : ∀ a k, a < 3 → xm h' a k = xm h a k) : Cx T L h' p b := by
  obtain ⟨⟨c1, c2, c3, c4, c5, c6⟩, c7, c8, c9, c10, c11, c12, c13⟩ := C
  exact ⟨⟨S, fun k hk => by rw [e _ _ (by omega)]; exact c2 k hk, by rw [e _ _ (by omega)]; exact c3, c4, by rw [e _ _ (by omega)]; exact c5, by rw [e _ _ (by omega)]; exact c6⟩, c7, c8, by rw [e _ _ (by omega)]; exact c9, by rw [e _ _ (by omega)]; exact c10, by rw [e _ _ (by omega)]; exact c11, by rw [e _ _ (by omega)]; exact c12, by rw [e _ _ (by omega)]; exact c13⟩
theorem c_codes {T : Nat → Int} {L : Nat} {h : xa_H} {p : Nat} {b : Bool} (C : Cx T L h p b) (hp : p < L) {w k : Nat} (hk : (w = 0 ∧ k = 0) ∨ (w = 1 ∧ k = 3)) :
    ∃ v h', rdF k h = some (v, h') ∧ ((∃ s', fmP T L w (pN T L (p, b, [])) = .inl s' ∧ v = (xn h : Int) ∧ Cx T L h' s'.1 s'.2.1 ∧ newG h h' s'.2.2) ∨ (∃ e, fmP T L w (pN T L (p, b, [])) = .inr e ∧ v = -1 ∧ Ex h' e ∧ Fx DR h h')) := by
  have S := C.1.1
  obtain ⟨h1, e1⟩ : ∃ z, z = xset h 4 3 0 := ⟨_, rfl⟩
  obtain ⟨h2, e2⟩ : ∃ z, z = xset h1 4 2 0 := ⟨_, rfl⟩
  have S1 : SH h1 := by rw [e1]; exact S.set (by decide +kernel)
  have S2 : SH h2 := by rw [e2]; exact S1.set (by decide +kernel)
  have C2 : Cx T L h2 p b := cx_mv C S2 (fun a k ha => by rw [e2, xm_xset, if_neg (by omega), e1, xm_xset, if_neg (by omega)])
  have P2 : Px T L false h2 (p, b, []) := ⟨C2, ⟨by rw [e2, xm_xset, if_pos ⟨rfl, rfl⟩]; rfl, fun i hi => by simp at hi⟩, by rw [e2, xm_xset, if_neg (by omega), e1, xm_xset, if_pos ⟨rfl, rfl⟩]; rfl⟩
  obtain ⟨h3, e3, P3, D3⟩ := q_step P2
  have S3 := px_S P3
  have d2 : Fx DR h h2 := by rw [e2, e1]; exact ((Fx.refl DR h).set rfl).set rfl
  have d3 : Fx DR h h3 := d2.tr (DP_DR (DC_DP D3))
  have lt := pN_lt (T := T) (s := (p, b, [])) hp
  have rc : cR T L false h3 (f_rec 60 k 4 0 h3) (fmP T L w (pN T L (p, b, []))) := by
    rcases hk with ⟨rfl, rfl⟩ | ⟨rfl, rfl⟩
    · exact rec_test 6 (by omega) 60 (by omega) h3 _ P3 (by rw [lt.2.2]; simp)
    · exact rec_sum 6 (by omega) 60 (by omega) h3 _ P3 (by rw [lt.2.2]; simp)
  obtain ⟨v, h4, e4, D4, o⟩ := rc
  have d4 : Fx DR h h4 := d3.tr (DP_DR D4)
  have S4 : SH h4 := d4.sh DR_nf S
  have s1 : xpf h 3 3 4 0 = some h1 := by rw [e1]; exact xpf_eq (a := 4) (ok_4 S)
  have s2 : xpf h1 3 2 4 0 = some h2 := by rw [e2]; exact xpf_eq (a := 4) (ok_4 S1)
  have hd : rdF k h = if v = 0 then some (-1, h4) else (xnO h4 2 2).bind fun h8 => (xgf h8 3 1 4).bind fun x9 => (xgf h8 3 2 4).bind fun x10 => (f_J7_copyOf_59c91 x9 x10 h8).bind fun r11 => (f_X2_init ((xn h4 : Int)) r11.1 r11.2).bind fun r12 => some ((xn h4 : Int), r12) := by
    unfold rdF
    rw [xbo_ok (Or.inl rfl)]
    refine (bnd s1).trans ?_
    refine (bnd s2).trans ?_
    rw [g40 S2, x62 S2, e3, bbind, x34 S3, e4, bbind]
  rcases o with ⟨s', r1, rfl, P4⟩ | ⟨e, r1, rfl, E4⟩
  · have ok := fmP_ok (T := T) (L := L) w (pN T L (p, b, [])) s' r1 (by omega)
    obtain ⟨o1, o2, c, o3, o4, -⟩ := ok
    have o5 : s'.2.2 = c := by rw [o3, lt.2.2]; rfl
    have hL := C.1.2.2.2.1
    have cl : s'.2.2.length < 1600 := by rw [o5]; omega
    obtain ⟨h5, t1, t2, t3, t4, t5, t6, t7⟩ := c_tail S4 P4.2.1.1 cl
    have nn : xn h4 = xn h := d4.1
    refine ⟨_, h5, by rw [hd, if_neg one_ne]; exact t1, Or.inl ⟨s', r1, by rw [nn], ?_, by omega, ?_, ?_, ?_, ?_, ?_⟩⟩
    · have n0 := S4.1
      refine cx_mv P4.1 (S4.mv (by omega) t4 (fun a k hf => t5 a k ?_)) (fun a k ha => t5 a k (by omega))
      have := fix_lt hf
      omega
    · rw [t3, d4.2.1]
    · intro a ha
      rw [t4 a (by omega), d4.2.2.1]
    · intro a k ha hD
      rw [t5 a k (by omega)]
      exact d4.2.2.2 a k hD
    · rw [← nn]; exact t6
    · intro i hi
      rw [← nn, t7 i hi]
      exact P4.2.1.2 i hi
  · exact ⟨-1, h4, by rw [hd, if_pos rfl], Or.inr ⟨e, r1, rfl, E4, d4⟩⟩
