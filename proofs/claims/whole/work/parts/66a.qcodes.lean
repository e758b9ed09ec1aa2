/-! ===== a question, read by the class ===== -/
theorem c_begin0 {h : xa_H} (S1 : SH h) {T : Nat → Int} {L : Nat} (hT : ∀ k, k < 1600 → xm h 1 k = sx8 (T k) ∧ 0 ≤ T k ∧ T k < 256) (hL : L ≤ 1600) :
    ∃ h5, f_X6_begin 2 (L : Int) h = some h5 ∧ Cx T L h5 (tk_sk T L 0) false ∧ Fx DB6 h h5 := by
  obtain ⟨B1, f1⟩ : ∃ z, z = xset h 2 2 (L : Int) := ⟨_, rfl⟩
  obtain ⟨B2, f2⟩ : ∃ z, z = xset B1 2 9 0 := ⟨_, rfl⟩
  obtain ⟨B3, f3⟩ : ∃ z, z = xset B2 2 10 (-1) := ⟨_, rfl⟩
  obtain ⟨B4, f4⟩ : ∃ z, z = xset B3 2 3 3 := ⟨_, rfl⟩
  obtain ⟨B5, f5⟩ : ∃ z, z = xset B4 2 5 0 := ⟨_, rfl⟩
  have s1 : SH B1 := by rw [f1]; exact S1.set (by decide +kernel)
  have s2 : SH B2 := by rw [f2]; exact s1.set (by decide +kernel)
  have s3 : SH B3 := by rw [f3]; exact s2.set (by decide +kernel)
  have s4 : SH B4 := by rw [f4]; exact s3.set (by decide +kernel)
  have s5 : SH B5 := by rw [f5]; exact s4.set (by decide +kernel)
  have p1 : xpf h 6 2 2 (L : Int) = some B1 := by rw [f1]; exact xpf_eq (a := 2) (ok_2 S1)
  have p2 : xpf B1 6 9 2 0 = some B2 := by rw [f2]; exact xpf_eq (a := 2) (ok_2 s1)
  have p3 : xpf B2 6 10 2 (-1) = some B3 := by rw [f3]; exact xpf_eq (a := 2) (ok_2 s2)
  have p4 : xpf B3 6 3 2 3 = some B4 := by rw [f4]; exact xpf_eq (a := 2) (ok_2 s3)
  have p5 : xpf B4 6 5 2 0 = some B5 := by rw [f5]; exact xpf_eq (a := 2) (ok_2 s4)
  have m5 : ∀ a k, a ≠ 2 → xm B5 a k = xm h a k := fun a k q => by
    rw [f5, xm_xset, if_neg (by omega), f4, xm_xset, if_neg (by omega), f3, xm_xset, if_neg (by omega), f2, xm_xset, if_neg (by omega), f1, xm_xset, if_neg (by omega)]
  have x22 : xm B5 2 2 = (L : Int) := by rw [f5, xm_xset, if_neg (by omega), f4, xm_xset, if_neg (by omega), f3, xm_xset, if_neg (by omega), f2, xm_xset, if_neg (by omega), f1, xm_xset, if_pos ⟨rfl, rfl⟩]
  have x29 : xm B5 2 9 = 0 := by rw [f5, xm_xset, if_neg (by omega), f4, xm_xset, if_neg (by omega), f3, xm_xset, if_neg (by omega), f2, xm_xset, if_pos ⟨rfl, rfl⟩]
  have x210 : xm B5 2 10 = -1 := by rw [f5, xm_xset, if_neg (by omega), f4, xm_xset, if_neg (by omega), f3, xm_xset, if_pos ⟨rfl, rfl⟩]
  have x23 : xm B5 2 3 = 3 := by rw [f5, xm_xset, if_neg (by omega), f4, xm_xset, if_pos ⟨rfl, rfl⟩]
  have x25 : xm B5 2 5 = ((0 : Nat) : Int) := by rw [f5, xm_xset, if_pos ⟨rfl, rfl⟩]; rfl
  have CB : Cb T L B5 := ⟨s5, fun k hk => by rw [m5 _ _ (by omega)]; exact hT k hk, x22, hL, x29, x210⟩
  obtain ⟨h5, e5, C5, D5⟩ := s_step0 CB x25 (Nat.zero_le _)
  have D6 := DS_DC D5
  rw [x23] at C5
  have C5' : Cx T L h5 (tk_sk T L 0) false := C5
  refine ⟨h5, ?_, C5', ?_⟩
  · unfold f_X6_begin
    refine (bnd p1).trans ?_
    refine (bnd p2).trans ?_
    refine (bnd p3).trans ?_
    refine (bnd p4).trans ?_
    refine (bnd p5).trans ?_
    rw [x62 s5, e5]
    rfl
  · have DC6 : Fx DB6 B5 h5 := D6.mono fun x k q => by
      unfold DB6 at q
      unfold DC
      by_cases z : x = 2
      · subst z
        have y : ¬ 2 ≤ k := fun y => by simp [Nat.ble_eq_true_of_le y] at q
        rw [show Nat.ble 3 k = false from ble_ff (by omega)]
        rfl
      · rw [show (x == 2) = false by simp [z]]
        rfl
    refine Fx.tr ?_ DC6
    rw [f5, f4, f3, f2, f1]
    exact (((((Fx.refl DB6 h).set rfl).set rfl).set rfl).set rfl).set rfl
def rdQ (k : Nat) (h : xa_H) : Option (Int × xa_H) := xbo 1 <| (xpf h 3 3 4 1).bind fun h1 => (xpf h1 3 2 4 0).bind fun h3 => (xgf h3 3 0 4).bind fun x4 => (xrc h3 6 x4 (f_X6_step x4 h3)).bind fun r5 => (xrc r5 3 4 (f_rec 60 k 4 0 r5)).bind fun r6 => if r6.1 = 0 then some (-1, r6.2) else (xnO r6.2 2 2).bind fun h8 => (xgf h8 3 1 4).bind fun x9 => (xgf h8 3 2 4).bind fun x10 => (f_J7_copyOf_59c91 x9 x10 h8).bind fun r11 => (f_X2_init ((xn r6.2 : Int)) r11.1 r11.2).bind fun r12 => some ((xn r6.2 : Int), r12)
theorem rdQ_0 (h : xa_H) : f_X3_readTest 4 1 h = rdQ 0 h := rfl
theorem rdQ_3 (h : xa_H) : f_X3_readSum 4 1 h = rdQ 3 h := rfl
def fmQ (T : Nat → Int) (L : Nat) (w : Nat) (s : pS) : pR := if w = 0 then testP T L true 6 s else sumP T L true 6 s
theorem fmQ_ok {T : Nat → Int} {L : Nat} (w : Nat) : pOK L true (decide (w = 0)) 26 (fmQ T L w) := by
  unfold fmQ
  by_cases z : w = 0
  · simp only [z, if_true, decide_true]
    exact testP_ok 6
  · simp only [z, if_false, decide_false]
    exact pOK_mono (sumP_ok 6) (by omega)
theorem c_codesQ {T : Nat → Int} {L : Nat} {h : xa_H} {p : Nat} {b : Bool} (C : Cx T L h p b) (hp : p < L) {w k : Nat} (hk : (w = 0 ∧ k = 0) ∨ (w = 1 ∧ k = 3)) :
    ∃ v h', rdQ k h = some (v, h') ∧ ((∃ s', fmQ T L w (pN T L (p, b, [])) = .inl s' ∧ v = (xn h : Int) ∧ Cx T L h' s'.1 s'.2.1 ∧ newG h h' s'.2.2) ∨ (∃ e, fmQ T L w (pN T L (p, b, [])) = .inr e ∧ v = -1 ∧ Ex h' e ∧ Fx DR h h')) := by
  have S := C.1.1
  obtain ⟨h1, e1⟩ : ∃ z, z = xset h 4 3 1 := ⟨_, rfl⟩
  obtain ⟨h2, e2⟩ : ∃ z, z = xset h1 4 2 0 := ⟨_, rfl⟩
  have S1 : SH h1 := by rw [e1]; exact S.set (by decide +kernel)
  have S2 : SH h2 := by rw [e2]; exact S1.set (by decide +kernel)
  have C2 : Cx T L h2 p b := cx_mv C S2 (fun a k ha => by rw [e2, xm_xset, if_neg (by omega), e1, xm_xset, if_neg (by omega)])
  have P2 : Px T L true h2 (p, b, []) := ⟨C2, ⟨by rw [e2, xm_xset, if_pos ⟨rfl, rfl⟩]; rfl, fun i hi => by simp at hi⟩, by rw [e2, xm_xset, if_neg (by omega), e1, xm_xset, if_pos ⟨rfl, rfl⟩]; rfl⟩
  obtain ⟨h3, e3, P3, D3⟩ := q_step P2
  have S3 := px_S P3
  have d2 : Fx DR h h2 := by rw [e2, e1]; exact ((Fx.refl DR h).set rfl).set rfl
  have d3 : Fx DR h h3 := d2.tr (DP_DR (DC_DP D3))
  have lt := pN_lt (T := T) (s := (p, b, [])) hp
  have rc : cR T L true h3 (f_rec 60 k 4 0 h3) (fmQ T L w (pN T L (p, b, []))) := by
    rcases hk with ⟨rfl, rfl⟩ | ⟨rfl, rfl⟩
    · exact rec_test 6 (by omega) 60 (by omega) h3 _ P3 (by rw [lt.2.2]; simp)
    · exact rec_sum 6 (by omega) 60 (by omega) h3 _ P3 (by rw [lt.2.2]; simp)
  obtain ⟨v, h4, e4, D4, o⟩ := rc
  have d4 : Fx DR h h4 := d3.tr (DP_DR D4)
  have S4 : SH h4 := d4.sh DR_nf S
  have s1 : xpf h 3 3 4 1 = some h1 := by rw [e1]; exact xpf_eq (a := 4) (ok_4 S)
  have s2 : xpf h1 3 2 4 0 = some h2 := by rw [e2]; exact xpf_eq (a := 4) (ok_4 S1)
  have hd : rdQ k h = if v = 0 then some (-1, h4) else (xnO h4 2 2).bind fun h8 => (xgf h8 3 1 4).bind fun x9 => (xgf h8 3 2 4).bind fun x10 => (f_J7_copyOf_59c91 x9 x10 h8).bind fun r11 => (f_X2_init ((xn h4 : Int)) r11.1 r11.2).bind fun r12 => some ((xn h4 : Int), r12) := by
    unfold rdQ
    rw [xbo_ok (Or.inr rfl)]
    refine (bnd s1).trans ?_
    refine (bnd s2).trans ?_
    rw [g40 S2, x62 S2, e3, bbind, x34 S3, e4, bbind]
  rcases o with ⟨s', r1, rfl, P4⟩ | ⟨e, r1, rfl, E4⟩
  · have ok := fmQ_ok (T := T) (L := L) w (pN T L (p, b, [])) s' r1 (by omega)
    obtain ⟨o1, o2, c, o3, o4, -⟩ := ok
    have o5 : s'.2.2 = c := by rw [o3, lt.2.2]; rfl
    have hL := C.1.2.2.2.1
    have cl : s'.2.2.length < 1600 := by rw [o5]; omega
    obtain ⟨h5, t1, t2, t3, t4, t5, t6, t7⟩ := c_tail S4 P4.2.1.1 cl
    have nn : xn h4 = xn h := d4.1
    refine ⟨_, h5, by rw [hd, if_neg one_ne]; exact t1, Or.inl ⟨s', r1, by rw [nn], ?_, by omega, ?_, ?_, ?_, ?_, ?_⟩⟩
    · have n0 := S4.1
      refine cx_mv P4.1 (S4.mv (by omega) t4 (fun a k hf => t5 a k ?_)) (fun a k ha => t5 a k (by omega))
      have := fix_lt hf
      omega
    · rw [t3, d4.2.1]
    · intro a ha
      rw [t4 a (by omega), d4.2.2.1]
    · intro a k ha hD
      rw [t5 a k (by omega)]
      exact d4.2.2.2 a k hD
    · rw [← nn]; exact t6
    · intro i hi
      rw [← nn, t7 i hi]
      exact P4.2.1.2 i hi
  · exact ⟨-1, h4, by rw [hd, if_pos rfl], Or.inr ⟨e, r1, rfl, E4, d4⟩⟩
