/-! ===== the law: call by call ===== -/
theorem xgf_none {h : xa_H} (hx : xok h 12 173 = false) (k : Nat) : xgf h 12 k 173 = none := if_neg (by rw [hx]; decide)
theorem xpf_none {h : xa_H} (hx : xok h 12 173 = false) (k : Nat) (v : Int) : xpf h 12 k 173 v = none := if_neg (by rw [hx]; decide)
theorem xrc_none {α : Type} {h : xa_H} (hx : xok h 12 173 = false) (E : Option α) : xrc h 12 173 E = none := if_neg (by rw [hx]; decide)
theorem n_feed {h : xa_H} (hx : xok h 12 173 = false) (a b c d e : Int) : f_X12_feed 173 a b c d e h = none := by
  unfold f_X12_feed
  rw [xgf_none hx]
  rfl
theorem n_open {h : xa_H} (hx : xok h 12 173 = false) : f_X12_open 173  h = none := by
  unfold f_X12_open
  rw [xgf_none hx]
  rfl
theorem n_judge {h : xa_H} (hx : xok h 12 173 = false) : f_X12_judge 173  h = none := by
  unfold f_X12_judge
  rw [xrc_none hx]
  rfl
theorem n_needed {h : xa_H} (hx : xok h 12 173 = false) (a : Int) : f_X12_needed 173 a h = none := by
  unfold f_X12_needed
  rw [xrc_none hx]
  rfl
theorem n_trade {h : xa_H} (hx : xok h 12 173 = false) (a b : Int) : f_X12_trade 173 a b h = none := by
  unfold f_X12_trade
  rw [xrc_none hx]
  rfl
theorem n_note {h : xa_H} (hx : xok h 12 173 = false) : f_X12_note 173  h = none := by
  unfold f_X12_note
  rw [xgf_none hx]
  rfl
theorem n_ring {h : xa_H} (hx : xok h 12 173 = false) : f_X12_ring 173  h = none := by
  unfold f_X12_ring
  rw [xrc_none hx]
  rfl
theorem n_want {h : xa_H} (hx : xok h 12 173 = false) (a b : Int) : f_X12_want 173 a b h = none := by
  unfold f_X12_want
  rw [xrc_none hx]
  rfl
theorem n_undo {h : xa_H} (hx : xok h 12 173 = false) : f_X12_undo 173  h = none := by
  unfold f_X12_undo
  rw [xgf_none hx]
  rfl
theorem n_ask {h : xa_H} (hx : xok h 12 173 = false) : f_X12_ask 173  h = none := by
  unfold f_X12_ask
  rw [xgf_none hx]
  rfl
theorem n_image {h : xa_H} (hx : xok h 12 173 = false) : f_X12_image 173  h = none := by
  unfold f_X12_image
  rw [xpf_none hx]
  rfl
theorem n_resume {h : xa_H} (hx : xok h 12 173 = false) : f_X12_resume 173  h = none := by
  unfold f_X12_resume
  rw [xgf_none hx]
  rfl
theorem n_end {h : xa_H} (hx : xok h 12 173 = false) (a : Int) : f_X12_end 173 a h = none := by
  unfold f_X12_end
  simp only [xgf_none hx, xpf_none hx, xrc_none hx, Option.bind_none, ite_self]
theorem n_seed {h : xa_H} (hx : xok h 12 173 = false) (a : Int) : f_X12_seed 173 a h = none := by
  unfold f_X12_seed
  simp only [xgf_none hx, xpf_none hx, xrc_none hx, Option.bind_none, ite_self]
theorem n_nights {h : xa_H} (hx : xok h 12 173 = false) (a : Int) : f_X12_nights 173 a h = none := by
  unfold f_X12_nights f_X12_nights_J26
  rw [s_X12_isIn, bbind]
  simp only [xgf_none hx, xpf_none hx, xrc_none hx, Option.bind_none, ite_self]
theorem ok12 {α : Type} {h : xa_H} {E : Option α} {v : α} (hn : xok h 12 173 = false → E = none) (e : E = some v) : xok h 12 173 = true := by
  cases hx : xok h 12 173 with
  | true => rfl
  | false => rw [hn hx] at e; cases e
/-- a call went well -/
def LOK (h : xa_H) (w : Int) (E : Option ((Int × xa_H) ⊕ ((Int × xa_H) ⊕ xa_H))) : Prop := ∃ h', E = some (Sum.inl (w, h')) ∧ (∃ s F1 F2 T2 T3, RR h' s F1 F2 T2 T3) ∧ (xn h ≤ xn h' ∧ xn h' ≤ xn h + 40) ∧ (xz h ≤ xz h' ∧ xz h' ≤ xz h + 8000)
theorem lpP {h : xa_H} {w r : Int} {A B : Option Int} (R : ∃ s F1 F2 T2 T3, RR h s F1 F2 T2 T3) (e1 : A = some r) (e2 : B = some r) : LOK h w ((xrc h 11 0 A).bind fun x => (xrc h 12 173 B).bind fun y => if x = y then some (Sum.inl (w, h)) else some (Sum.inr (Sum.inl (0, h)))) := by
  have S : SH h := by obtain ⟨s, F1, F2, T2, T3, R'⟩ := R; exact rr_S R'
  refine ⟨h, ?_, R, by omega, by omega⟩
  rw [x0o S, e1, bbind, xM S, e2, bbind, if_pos rfl]
theorem lpA {h : xa_H} {w : Int} {A : Option (Int × xa_H)} {B : xa_H → Option (Int × xa_H)} (S : SH h) (C : CallOK h A B) (hn : ∀ g, xok g 12 173 = false → B g = none) : LOK h w ((xrc h 11 0 A).bind fun x => (xrc x.2 12 173 (B x.2)).bind fun y => if x.1 = y.1 then some (Sum.inl (w, y.2)) else some (Sum.inr (Sum.inl (0, y.2)))) := by
  obtain ⟨v, h1, h2, e1, e2, R, b1, b2⟩ := C
  refine ⟨h2, ?_, R, b1, b2⟩
  rw [x0o S, e1, bbind, show xrc h1 12 173 (B h1) = B h1 from if_pos (ok12 (hn h1) e2), e2, bbind, if_pos rfl]
theorem lpX {h : xa_H} {w : Int} {A : Option (Int × xa_H)} {B : xa_H → Option (Int × xa_H)} (S : SH h) (C : CallOK h A B) (hn : ∀ g, xok g 12 173 = false → B g = none) : LOK h w ((xrc h 11 0 A).bind fun x => (xrc x.2 12 173 (B x.2)).bind fun y => if xcmp x.1 y.1 = 0 then some (Sum.inl (w, y.2)) else some (Sum.inr (Sum.inl (0, y.2)))) := by
  obtain ⟨v, h1, h2, e1, e2, R, b1, b2⟩ := C
  refine ⟨h2, ?_, R, b1, b2⟩
  have c0 : xcmp v v = 0 := by
    unfold xcmp
    rw [if_neg (Int.lt_irrefl v), if_pos rfl]
  rw [x0o S, e1, bbind, show xrc h1 12 173 (B h1) = B h1 from if_pos (ok12 (hn h1) e2), e2, bbind, if_pos c0]
theorem lpN {h : xa_H} {w : Int} {A : Option (Int × xa_H)} {B : xa_H → Option Int} (S : SH h) (C : CallOK h A (fun g => (B g).bind fun r => some (r, g))) (hn : ∀ g, xok g 12 173 = false → B g = none) : LOK h w ((xrc h 11 0 A).bind fun x => (xrc x.2 12 173 (B x.2)).bind fun y => if x.1 = y then some (Sum.inl (w, x.2)) else some (Sum.inr (Sum.inl (0, x.2)))) := by
  obtain ⟨v, h1, h2, e1, e2, R, b1, b2⟩ := C
  have e3 : ∃ r, B h1 = some r ∧ (r, h1) = (v, h2) := by
    cases h : B h1 with
    | none => simp only [h] at e2; cases e2
    | some r => simp only [h] at e2; exact ⟨r, rfl, Option.some.inj e2⟩
  obtain ⟨r, e3, e4⟩ := e3
  obtain ⟨rfl, rfl⟩ := Prod.mk.inj e4
  refine ⟨h1, ?_, R, b1, b2⟩
  rw [x0o S, e1, bbind, show xrc h1 12 173 (B h1) = B h1 from if_pos (ok12 (hn h1) e3), e3, bbind, if_pos rfl]
theorem lpC {h : xa_H} {w : Int} {A : Option Int} {B : xa_H → Option (Int × xa_H)} (S : SH h) (C : CallOK h (A.bind fun r => some (r, h)) B) : LOK h w ((xrc h 11 0 A).bind fun x => (xrc h 12 173 (B h)).bind fun y => if x = y.1 then some (Sum.inl (w, y.2)) else some (Sum.inr (Sum.inl (0, y.2)))) := by
  obtain ⟨v, h1, h2, e1, e2, R, b1, b2⟩ := C
  cases hA : A with
  | none => rw [hA] at e1; cases e1
  | some r =>
    rw [hA] at e1
    obtain ⟨rfl, rfl⟩ := Prod.mk.inj (Option.some.inj e1)
    refine ⟨h2, ?_, R, b1, b2⟩
    rw [x0o S, bbind, xM S, e2, bbind, if_pos rfl]
theorem lpL {h : xa_H} {w : Int} {A : Option Int} {B : xa_H → Option Int} (S : SH h) (C : CallOK h (A.bind fun r => some (r, h)) (fun g => (B g).bind fun r => some (r, g))) : LOK h w ((xrc h 11 0 A).bind fun x => (xrc h 12 173 (B h)).bind fun y => if x = y then some (Sum.inl (w, h)) else some (Sum.inr (Sum.inl (0, h)))) := by
  obtain ⟨v, h1, h2, e1, e2, R, b1, b2⟩ := C
  cases hA : A with
  | none => rw [hA] at e1; cases e1
  | some r =>
    rw [hA] at e1
    obtain ⟨rfl, rfl⟩ := Prod.mk.inj (Option.some.inj e1)
    have e3 : ∃ r', B h = some r' ∧ (r', h) = (r, h2) := by
      cases hB : B h with
      | none => simp only [hB] at e2; cases e2
      | some r' => simp only [hB] at e2; exact ⟨r', rfl, Option.some.inj e2⟩
    obtain ⟨r', e3, e4⟩ := e3
    obtain ⟨rfl, rfl⟩ := Prod.mk.inj e4
    refine ⟨h, ?_, R, b1, b2⟩
    rw [x0o S, bbind, xM S, e3, bbind, if_pos rfl]
theorem law_step {sL : Nat} {sc : Nat → Int} (hsc : ∀ j, j < sL → -2147483648 ≤ sc j ∧ sc j < 2147483648) (hL : sL ≤ 3072) {h : xa_H} {s F1 F2 T2 T3 i : Nat} (R : RR h s F1 F2 T2 T3) (hi : 6 * i + 6 ≤ sL) : LOK h ((6 * (i + 1) : Nat) : Int) (f_L_law_L18 sL sc 0 173 ((6 * i : Nat) : Int) h) := by
  have S := rr_S R
  have RE : ∃ s F1 F2 T2 T3, RR h s F1 F2 T2 T3 := ⟨s, F1, F2, T2, T3, R⟩
  have sx : ∀ j : Nat, j < 6 → xsl sL sc (w32 (((6 * i : Nat) : Int) + (j : Int))) = some (sc (6 * i + j)) := fun j hj => by
    rw [w32_id (by omega) (by omega), show ((6 * i : Nat) : Int) + (j : Int) = ((6 * i + j : Nat) : Int) by omega]
    unfold xsl
    rw [if_pos (by omega), Int.toNat_natCast]
  have s0 : xsl sL sc ((6 * i : Nat) : Int) = some (sc (6 * i)) := by
    unfold xsl
    rw [if_pos (by omega), Int.toNat_natCast]
  have s1 : xsl sL sc (w32 (((6 * i : Nat) : Int) + 1)) = some (sc (6 * i + 1)) := sx 1 (by decide)
  have s2 : xsl sL sc (w32 (((6 * i : Nat) : Int) + 2)) = some (sc (6 * i + 2)) := sx 2 (by decide)
  have s3 : xsl sL sc (w32 (((6 * i : Nat) : Int) + 3)) = some (sc (6 * i + 3)) := sx 3 (by decide)
  have s4 : xsl sL sc (w32 (((6 * i : Nat) : Int) + 4)) = some (sc (6 * i + 4)) := sx 4 (by decide)
  have s5 : xsl sL sc (w32 (((6 * i : Nat) : Int) + 5)) = some (sc (6 * i + 5)) := sx 5 (by decide)
  have w6 : w32 (((6 * i : Nat) : Int) + 6) = ((6 * (i + 1) : Nat) : Int) := by rw [w32_id (by omega) (by omega)]; omega
  have h1 := hsc (6 * i + 1) (by omega)
  unfold f_L_law_L18
  rw [if_neg (by rw [w32_id (by omega) (by omega)]; omega), s0, bbind]
  obtain ⟨y, ey⟩ : ∃ y, y = xand (sc (6 * i)) 63 := ⟨_, rfl⟩
  rw [← ey, w6]
  clear ey
  by_cases y0 : y = 0
  · rw [if_pos y0]
    simp only [s1, s2, s3, s4, s5, bbind]
    exact lpA S (c_feed R _ _ _ _ _) (fun g hx => n_feed hx _ _ _ _ _)
  rw [if_neg y0]
  by_cases y1 : y = 1
  · rw [if_pos y1]
    simp only [s1, bbind]
    exact lpA S (c_end R _) (fun g hx => n_end hx _)
  rw [if_neg y1]
  by_cases y2 : y = 2
  · rw [if_pos y2]
    exact lpA S (c_open R) (fun g hx => n_open hx)
  rw [if_neg y2]
  by_cases y3 : y = 3
  · rw [if_pos y3]
    simp only [s1, bbind]
    obtain ⟨r, e1, e2⟩ := p_fault S (rr_f R) _
    exact lpP RE e1 e2
  rw [if_neg y3]
  by_cases y4 : y = 4
  · rw [if_pos y4]
    simp only [s1, bbind]
    have rr9 : xm h 158 0 = xm h 173 70 ∧ xm h 26 2 = xm h 173 74 := by
      obtain ⟨r, n, m, -, q1, q2, -⟩ := rr_2 R
      exact ⟨q2.trans q1.symm, (rr_h R).2.2.2.1⟩
    obtain ⟨r, e1, e2⟩ := p_has S (rr_c R) (rr_n R) rr9.1 rr9.2 _
    exact lpP RE e1 e2
  rw [if_neg y4]
  by_cases y5 : y = 5
  · rw [if_pos y5]
    simp only [s1, s2, s3, bbind]
    exact lpL S (c_letter R _ _ _)
  rw [if_neg y5]
  by_cases y6 : y = 6
  · rw [if_pos y6]
    simp only [s1, s2, bbind]
    obtain ⟨r, e1, e2⟩ := p_held S (rr_c R) (rr_n R) _ _
    exact lpP RE e1 e2
  rw [if_neg y6]
  by_cases y7 : y = 7
  · rw [if_pos y7]
    simp only [s1, s2, bbind]
    obtain ⟨r, e1, e2⟩ := p_holder S (rr_c R) (rr_n R) _ _
    exact lpP RE e1 e2
  rw [if_neg y7]
  by_cases y8 : y = 8
  · rw [if_pos y8]
    simp only [s1, s2, bbind]
    obtain ⟨r, e1, e2⟩ := p_values S (rr_c R) _ _
    exact lpP RE e1 e2
  rw [if_neg y8]
  by_cases y9 : y = 9
  · rw [if_pos y9]
    simp only [s1, s2, bbind]
    obtain ⟨r, e1, e2⟩ := p_met S (rr_c R) (rr_n R) _ _
    exact lpP RE e1 e2
  rw [if_neg y9]
  by_cases y10 : y = 10
  · rw [if_pos y10]
    simp only [s1, s2, bbind]
    obtain ⟨r, e1, e2⟩ := p_kept S (rr_n R) _ _
    exact lpP RE e1 e2
  rw [if_neg y10]
  by_cases y11 : y = 11
  · rw [if_pos y11]
    exact lpA S (c_judge R) (fun g hx => n_judge hx)
  rw [if_neg y11]
  by_cases y12 : y = 12
  · rw [if_pos y12]
    simp only [s1, bbind]
    obtain ⟨r, e1, e2⟩ := p_judged S (rr_j R) _
    exact lpP RE e1 e2
  rw [if_neg y12]
  by_cases y13 : y = 13
  · rw [if_pos y13]
    simp only [s1, bbind]
    exact lpN S (c_needed R _) (fun g hx => n_needed hx _)
  rw [if_neg y13]
  by_cases y14 : y = 14
  · rw [if_pos y14]
    simp only [s1, bbind]
    obtain ⟨v, g1, g2, e1, e2, R2, b1, b2, SG⟩ := c_meetingS R (sc (6 * i + 1))
    refine ⟨g2, ?_, R2, b1, b2⟩
    rw [x0o S, e1, bbind, xM SG, e2, bbind, if_pos rfl]
  rw [if_neg y14]
  by_cases y15 : y = 15
  · rw [if_pos y15]
    simp only [s1, s2, bbind]
    obtain ⟨r, e1, e2⟩ := p_gain S (rr_c R) (rr_n R) _ _
    exact lpP RE e1 e2
  rw [if_neg y15]
  by_cases y16 : y = 16
  · rw [if_pos y16]
    simp only [s1, s2, bbind]
    exact lpA S (c_trade R _ _) (fun g hx => n_trade hx _ _)
  rw [if_neg y16]
  by_cases y17 : y = 17
  · rw [if_pos y17]
    simp only [s1, bbind]
    obtain ⟨r, e1, e2⟩ := p_together S (rr_c R) (rr_n R) _
    exact lpP RE e1 e2
  rw [if_neg y17]
  by_cases y18 : y = 18
  · rw [if_pos y18]
    simp only [s1, bbind]
    obtain ⟨r, e1, e2⟩ := p_clear S (rr_c R) _
    exact lpP RE e1 e2
  rw [if_neg y18]
  by_cases y19 : y = 19
  · rw [if_pos y19]
    simp only [s1, bbind]
    obtain ⟨r, e1, e2⟩ := p_on S (rr_c R) (rr_n R) _
    exact lpP RE e1 e2
  rw [if_neg y19]
  by_cases y20 : y = 20
  · rw [if_pos y20]
    exact lpA S (c_note R) (fun g hx => n_note hx)
  rw [if_neg y20]
  by_cases y21 : y = 21
  · rw [if_pos y21]
    simp only [s1, bbind]
    exact lpC S (c_can R _)
  rw [if_neg y21]
  by_cases y22 : y = 22
  · rw [if_pos y22]
    simp only [s1, bbind]
    exact lpC S (c_next R _)
  rw [if_neg y22]
  by_cases y23 : y = 23
  · rw [if_pos y23]
    exact lpA S (c_ring R) (fun g hx => n_ring hx)
  rw [if_neg y23]
  by_cases y24 : y = 24
  · rw [if_pos y24]
    simp only [s1, s2, bbind]
    exact lpA S (c_want R _ _) (fun g hx => n_want hx _ _)
  rw [if_neg y24]
  by_cases y25 : y = 25
  · rw [if_pos y25]
    simp only [s1, bbind]
    exact lpA S (c_nights R _) (fun g hx => n_nights hx _)
  rw [if_neg y25]
  by_cases y26 : y = 26
  · rw [if_pos y26]
    exact lpA S (c_undo R) (fun g hx => n_undo hx)
  rw [if_neg y26]
  by_cases y27 : y = 27
  · rw [if_pos y27]
    simp only [s1, bbind]
    exact lpA S (c_seed R _ h1.2) (fun g hx => n_seed hx _)
  rw [if_neg y27]
  by_cases y28 : y = 28
  · rw [if_pos y28]
    exact lpX S (c_ask R) (fun g hx => n_ask hx)
  rw [if_neg y28]
  by_cases y29 : y = 29
  · rw [if_pos y29]
    exact lpA S (c_image R) (fun g hx => n_image hx)
  rw [if_neg y29]
  by_cases y30 : y = 30
  · rw [if_pos y30]
    simp only [s1, bbind]
    obtain ⟨r, e1, e2⟩ := p_octet S (rr_i R) _
    exact lpP RE e1 e2
  rw [if_neg y30]
  by_cases y31 : y = 31
  · rw [if_pos y31]
    exact lpA S (c_resume R) (fun g hx => n_resume hx)
  rw [if_neg y31]
  by_cases y32 : y = 32
  · rw [if_pos y32]
    simp only [s1, bbind]
    obtain ⟨r, e1, e2⟩ := p_status S (rr_r R) _
    exact lpP RE e1 e2
  rw [if_neg y32]
  exact ⟨h, rfl, RE, by omega, by omega⟩
theorem law_loop {sL : Nat} {sc : Nat → Int} (hsc : ∀ j, j < sL → -2147483648 ≤ sc j ∧ sc j < 2147483648) (hL : sL ≤ 3072) {N : Nat} (hN : N = sL / 6) : ∀ r i, i + r = N → ∀ h, (∃ s F1 F2 T2 T3, RR h s F1 F2 T2 T3) → xn h ≤ 249 + 40 * i → xz h ≤ 67377 + 8000 * i → ∀ fu, r < fu →
    ∃ h', xit (fun s => f_L_law_L18 sL sc 0 173 s.1 s.2) fu (((6 * i : Nat) : Int), h) = some (Sum.inr h') ∧ xn h' ≤ 249 + 40 * N ∧ xz h' ≤ 67377 + 8000 * N := by
  intro r
  induction r with
  | zero =>
    intro i hi h R bn bz fu hf
    have : i = N := by omega
    subst this
    refine ⟨h, xit_end ?_ hf, bn, bz⟩
    show f_L_law_L18 sL sc 0 173 ((6 * i : Nat) : Int) h = _
    unfold f_L_law_L18
    rw [if_pos (by rw [w32_id (by omega) (by omega)]; omega)]
  | succ r ih =>
    intro i hi h R bn bz fu hf
    obtain ⟨fu, rfl⟩ : ∃ z, fu = z + 1 := ⟨fu - 1, by omega⟩
    obtain ⟨s, F1, F2, T2, T3, R'⟩ := R
    obtain ⟨h1, e1, R1, b1, b2⟩ := law_step (i := i) hsc hL R' (by omega)
    obtain ⟨h', g1, g2, g3⟩ := ih (i + 1) (by omega) h1 R1 (by omega) (by omega) fu (by omega)
    exact ⟨h', (xit_go (s' := (((6 * (i + 1) : Nat) : Int), h1)) e1).trans g1, g2, g3⟩
set_option maxRecDepth 100000 in
theorem st_173' : (((xnO h00 11 19).bind fun h1 => f_X11_init 0 h1).map xn) = some 173 := by decide +kernel
theorem st_173 {h1 r2 : xa_H} (a1 : xnO h00 11 19 = some h1) (a2 : f_X11_init 0 h1 = some r2) : xn r2 = 173 := by
  have := st_173'
  rw [a1, bbind, a2] at this
  exact Option.some.inj this
/-- the law answers 1, and stays within its room -/
theorem law_true {sL : Nat} {sc : Nat → Int} (hsc : ∀ j, j < sL → -2147483648 ≤ sc j ∧ sc j < 2147483648) (hL : sL ≤ 3072) : ∃ h', f_L_law sL sc h00 = some (1, h') ∧ xn h' ≤ 600000 ∧ xz h' ≤ 7302249 := by
  obtain ⟨n0, z0⟩ := hS_n
  obtain ⟨h', g1, g2, g3⟩ := law_loop hsc hL rfl (sL / 6) 0 (by omega) hS ⟨7, 249, 252, 249, 249, start_RR⟩ (by omega) (by omega) xFU (by unfold xFU; omega)
  refine ⟨h', ?_, by omega, by omega⟩
  obtain ⟨h1, r2, h3, a1, a2, a3, a4⟩ : ∃ h1 r2 h3, xnO h00 11 19 = some h1 ∧ f_X11_init 0 h1 = some r2 ∧ xnO r2 12 109 = some h3 ∧ f_X12_init 173 h3 = some hS := by
    have e := st0_some
    unfold st0 at e
    cases a1 : xnO h00 11 19 with
    | none => rw [a1] at e; cases e
    | some h1 =>
      rw [a1, bbind] at e
      cases a2 : f_X11_init 0 h1 with
      | none => rw [a2] at e; cases e
      | some r2 =>
        rw [a2, bbind] at e
        cases a3 : xnO r2 12 109 with
        | none => rw [a3] at e; cases e
        | some h3 =>
          rw [a3, bbind] at e
          exact ⟨h1, r2, h3, rfl, a2, a3, e⟩
  have nr : xn r2 = 173 := st_173 a1 a2
  unfold f_L_law
  rw [a1, bbind, show ((xn h00 : Nat) : Int) = 0 from rfl, a2, bbind, a3, bbind, nr]
  rw [show ((173 : Nat) : Int) = 173 from rfl, a4, bbind]
  exact (bnd g1).trans rfl
