/-! ===== the sorter learns which meetings there are ===== -/
def FA (T : Nat) (H H' : xa_H) : Prop := xn H' = xn H ∧ xz H' = xz H ∧ xk H' = xk H ∧ ∀ a k, a ≠ T + 1 → ¬ (a = T ∧ k = 2) → xm H' a k = xm H a k
theorem FA.tr {T : Nat} {H H' H'' : xa_H} (a : FA T H H') (b : FA T H' H'') : FA T H H'' := ⟨b.1.trans a.1, b.2.1.trans a.2.1, b.2.2.1.trans a.2.2.1, fun x k d1 d2 => (b.2.2.2 x k d1 d2).trans (a.2.2.2 x k d1 d2)⟩
theorem FA.refl (T : Nat) (H : xa_H) : FA T H H := ⟨rfl, rfl, rfl, fun _ _ _ _ => rfl⟩
theorem FA.set {T : Nat} {H H' : xa_H} (e : FA T H H') {x k : Nat} {v : Int} (h : x = T + 1 ∨ (x = T ∧ k = 2)) : FA T H (xset H' x k v) := ⟨e.1, e.2.1, e.2.2.1, fun a j y z => by rw [xm_xset, if_neg (by omega)]; exact e.2.2.2 a j y z⟩
def EV (H : xa_H) (s : Nat) (fe : Nat → Int) : Prop := CS H s ∧ ∀ i, i < 6 → xm H (s + 6) i = fe (6 + i)
theorem EV.fa {H H' : xa_H} {s T : Nat} {fe : Nat → Int} (E : EV H s fe) (e : FA T H H') (hT : s + 13 ≤ T) : EV H' s fe :=
  ⟨E.1.mv (by rw [e.1]; exact Nat.le_refl _) (fun a _ => by rw [e.2.2.1]) (fun a k y1 y2 => e.2.2.2 a k (by omega) (by omega)), fun i hi => by rw [e.2.2.2 _ _ (by omega) (by omega)]; exact E.2 i hi⟩
theorem s9_feud {H : xa_H} {s a b : Nat} {fe : Nat → Int} (E : EV H s fe) (ha : a < 6) : f_X0_areFeuding (s : Int) (a : Int) (b : Int) H = some (if fd fe a b = true then 1 else 0) := by
  unfold f_X0_areFeuding
  rw [gCS E.1, cs_p10 E.1]
  refine (bnd (xal_eq (cs_ia6 E.1 (by omega) (by omega)) (E.2 a ha))).trans ?_
  unfold fd
  by_cases y : xand (xshr (fe (6 + a)) (b : Int)) 1 = 1
  · rw [if_pos y, if_pos (decide_eq_true y)]
  · rw [if_neg y, if_neg (by rw [decide_eq_false y]; decide)]
def AM (H : xa_H) (T n u : Nat) (fe : Nat → Int) (mo : Nat) (P : Nat → Nat → Int → Prop) : Prop := SX H T n ∧ xm H T 2 = ((3 * u : Nat) : Int) ∧ (∀ w, w < u → ∃ a b : Nat, xm H (T + 1) (3 * w) = (a : Int) ∧ xm H (T + 1) (3 * w + 1) = (b : Int) ∧ okm n fe mo a b (xm H (T + 1) (3 * w + 2))) ∧
  ∀ a b k, okm n fe mo a b k → P a b k → ∃ w, w < u ∧ xm H (T + 1) (3 * w) = (a : Int) ∧ xm H (T + 1) (3 * w + 1) = (b : Int) ∧ xm H (T + 1) (3 * w + 2) = k
theorem AM.mono {H : xa_H} {T n u mo : Nat} {fe : Nat → Int} {P P' : Nat → Nat → Int → Prop} (A : AM H T n u fe mo P) (h : ∀ a b k, okm n fe mo a b k → P' a b k → P a b k) : AM H T n u fe mo P' :=
  ⟨A.1, A.2.1, A.2.2.1, fun a b k ok p => A.2.2.2 a b k ok (h a b k ok p)⟩
theorem sx_ln1 {H : xa_H} {T n : Nat} (R : SX H T n) : xln H ((T + 1 : Nat) : Int) = some 165 := by
  have h2 := R.2.1
  have h7 := R.2.2.2.1
  unfold xln
  simp only [Int.toNat_natCast, h7]
  rw [if_pos]
  · rfl
  · simp
    omega
theorem t_add {H : xa_H} {T n u mo a b : Nat} {k : Int} {fe : Nat → Int} {P : Nat → Nat → Int → Prop} (A : AM H T n u fe mo P) (hu : u ≤ 54) (ok : okm n fe mo a b k) :
    ∃ H', f_X8_addMove (T : Int) (a : Int) (b : Int) k H = some H' ∧ FA T H H' ∧ AM H' T n (u + 1) fe mo (fun a' b' k' => P a' b' k' ∨ (a' = a ∧ b' = b ∧ k' = k)) := by
  obtain ⟨R, h2, h3, h4⟩ := A
  have T249 := R.1
  obtain ⟨H1, e1⟩ : ∃ z, z = xset H (T + 1) (3 * u) (a : Int) := ⟨_, rfl⟩
  obtain ⟨H2, e2⟩ : ∃ z, z = xset H1 (T + 1) (3 * u + 1) (b : Int) := ⟨_, rfl⟩
  obtain ⟨H3, e3⟩ : ∃ z, z = xset H2 (T + 1) (3 * u + 2) k := ⟨_, rfl⟩
  obtain ⟨H4, e4⟩ : ∃ z, z = xset H3 T 2 ((3 * (u + 1) : Nat) : Int) := ⟨_, rfl⟩
  have R1 : SX H1 T n := by rw [e1]; exact R.set (by omega)
  have R2 : SX H2 T n := by rw [e2]; exact R1.set (by omega)
  have R3 : SX H3 T n := by rw [e3]; exact R2.set (by omega)
  have R4 : SX H4 T n := by rw [e4]; exact R3.set (by omega)
  have t1 : xm H1 T 2 = ((3 * u : Nat) : Int) := by rw [e1, xm_xset, if_neg (by omega)]; exact h2
  have t2 : xm H2 T 2 = ((3 * u : Nat) : Int) := by rw [e2, xm_xset, if_neg (by omega)]; exact t1
  have t3 : xm H3 T 2 = ((3 * u : Nat) : Int) := by rw [e3, xm_xset, if_neg (by omega)]; exact t2
  have w1 : w32 (((3 * u : Nat) : Int) + 1) = ((3 * u + 1 : Nat) : Int) := by rw [w32_id (by omega) (by omega)]; omega
  have w2 : w32 (((3 * u : Nat) : Int) + 2) = ((3 * u + 2 : Nat) : Int) := by rw [w32_id (by omega) (by omega)]; omega
  have w3 : w32 (((3 * u : Nat) : Int) + 3) = ((3 * (u + 1) : Nat) : Int) := by rw [w32_id (by omega) (by omega)]; omega
  have c : ∀ j, xm H4 (T + 1) j = if j = 3 * u + 2 then k else if j = 3 * u + 1 then (b : Int) else if j = 3 * u then (a : Int) else xm H (T + 1) j := fun j => by
    rw [e4, xm_xset, if_neg (by omega), e3, xm_xset]
    by_cases z2 : j = 3 * u + 2
    · rw [if_pos ⟨rfl, z2⟩, if_pos z2]
    · rw [if_neg (fun q => z2 q.2), if_neg z2, e2, xm_xset]
      by_cases z1 : j = 3 * u + 1
      · rw [if_pos ⟨rfl, z1⟩, if_pos z1]
      · rw [if_neg (fun q => z1 q.2), if_neg z1, e1, xm_xset]
        by_cases z0 : j = 3 * u
        · rw [if_pos ⟨rfl, z0⟩, if_pos z0]
        · rw [if_neg (fun q => z0 q.2), if_neg z0]
  have c0 : xm H4 (T + 1) (3 * u) = (a : Int) := by rw [c, if_neg (by omega), if_neg (by omega), if_pos rfl]
  have c1 : xm H4 (T + 1) (3 * u + 1) = (b : Int) := by rw [c, if_neg (by omega), if_pos rfl]
  have c2 : xm H4 (T + 1) (3 * u + 2) = k := by rw [c, if_pos rfl]
  have co : ∀ j, j < 3 * u → xm H4 (T + 1) j = xm H (T + 1) j := fun j hj => by rw [c, if_neg (by omega), if_neg (by omega), if_neg (by omega)]
  refine ⟨H4, ?_, ?_, R4, by rw [e4, xm_xset, if_pos ⟨rfl, rfl⟩], fun w hw => ?_, fun a' b' k' ok' p => ?_⟩
  · unfold f_X8_addMove
    rw [gSo R, h2, gSo R, sx_1 R, sx_ln1 R, bbind, w3, if_neg (by omega), gSo R, sx_1 R, gSo R, h2]
    refine (bnd (xas_eq (sx_i1 R (by omega)))).trans ?_
    rw [← e1, gSo R1, sx_1 R1, gSo R1, t1, w1]
    refine (bnd (xas_eq (sx_i1 R1 (by omega)))).trans ?_
    rw [← e2, gSo R2, sx_1 R2, gSo R2, t2, w2]
    refine (bnd (xas_eq (sx_i1 R2 (by omega)))).trans ?_
    rw [← e3, gSo R3, t3, w3, pSo R3, ← e4]
  · rw [e4, e3, e2, e1]
    exact ((((FA.refl T H).set (by omega)).set (by omega)).set (by omega)).set (by omega)
  · by_cases z : w = u
    · subst z
      exact ⟨a, b, c0, c1, by rw [c2]; exact ok⟩
    · rw [co _ (by omega), co _ (by omega), co _ (by omega)]
      exact h3 w (by omega)
  · rcases p with p | ⟨rfl, rfl, rfl⟩
    · obtain ⟨w, hw, d0, d1, d2⟩ := h4 a' b' k' ok' p
      exact ⟨w, by omega, by rw [co _ (by omega)]; exact d0, by rw [co _ (by omega)]; exact d1, by rw [co _ (by omega)]; exact d2⟩
    · exact ⟨u, by omega, c0, c1, c2⟩
theorem t_51 {fe : Nat → Int} {T n s a b : Nat} (hT : s + 13 ≤ T) (n6 : n ≤ 6) (hab : a < b) (hb : b < n) (nf : fd fe a b = false) (sy : ∀ i j, i < n → j < n → fd fe i j = fd fe j i) {B : Nat} (B55 : B ≤ 55) : ∀ r c, c + r = n → b < c → ∀ (H : xa_H) (u : Nat) (P : Nat → Nat → Int → Prop), AM H T n u fe 3 P → EV H s fe → u + 2 * r ≤ B → ∀ fu, r < fu →
    ∃ H' u', xit (fun x => f_X8_addMoves_L51 (T : Int) (s : Int) 3 (a : Int) (b : Int) x.1 x.2) fu ((c : Int), H) = some H' ∧ FA T H H' ∧ u' ≤ B ∧ AM H' T n u' fe 3 (fun a' b' k' => P a' b' k' ∨ (a' = a ∧ ∃ c' : Nat, c ≤ c' ∧ c' < n ∧ ((b' = b ∧ k' = (c' : Int)) ∨ (b' = c' ∧ k' = (b : Int))))) := by
  intro r
  induction r with
  | zero =>
    intro c hc hbc H u P A E hu fu hf
    have R := A.1
    refine ⟨H, u, xit_end ?_ hf, FA.refl _ _, by omega, A.mono (fun a' b' k' _ p => ?_)⟩
    · show f_X8_addMoves_L51 (T : Int) (s : Int) 3 (a : Int) (b : Int) (c : Int) H = _
      unfold f_X8_addMoves_L51
      rw [if_pos rfl, gSo R, sx_0 R, if_neg (by omega)]
    · rcases p with p | ⟨-, c', h1, h2, -⟩
      · exact p
      · omega
  | succ r ih =>
    intro c hc hbc H u P A E hu fu hf
    obtain ⟨fu, rfl⟩ : ∃ z, fu = z + 1 := ⟨fu - 1, by omega⟩
    have R := A.1
    have hd : f_X8_addMoves_L51 (T : Int) (s : Int) 3 (a : Int) (b : Int) (c : Int) H = if fd fe a c = true then some (Sum.inl (((c + 1 : Nat) : Int), H)) else if fd fe b c = true then some (Sum.inl (((c + 1 : Nat) : Int), H)) else (xrc H 8 (T : Int) (f_X8_addMove (T : Int) (a : Int) (b : Int) (c : Int) H)).bind fun r15 => (xrc r15 8 (T : Int) (f_X8_addMove (T : Int) (a : Int) (c : Int) (b : Int) r15)).bind fun r16 => some (Sum.inl (((c + 1 : Nat) : Int), r16)) := by
      unfold f_X8_addMoves_L51
      rw [if_pos rfl, gSo R, sx_0 R, if_pos (by omega), x0S E.1, s9_feud E (by omega), bbind, wS (by omega)]
      by_cases y : fd fe a c = true
      · rw [if_pos y, if_neg (by decide), if_pos y]
      · rw [if_neg y, if_pos rfl, if_neg y, x0S E.1, s9_feud E (by omega), bbind]
        by_cases z : fd fe b c = true
        · rw [if_pos z, if_neg (by decide), if_pos z]
        · rw [if_neg z, if_pos rfl, if_neg z]
    by_cases y : fd fe a c = true ∨ fd fe b c = true
    · obtain ⟨H', u', g1, g2, g3, g4⟩ := ih (c + 1) (by omega) (by omega) H u P A E (by omega) fu (by omega)
      refine ⟨H', u', (xit_go (s' := (((c + 1 : Nat) : Int), H)) ?_).trans g1, g2, g3, g4.mono (fun a' b' k' ok p => ?_)⟩
      · show f_X8_addMoves_L51 (T : Int) (s : Int) 3 (a : Int) (b : Int) (c : Int) H = _
        rw [hd]
        by_cases z : fd fe a c = true
        · rw [if_pos z]
        · rw [if_neg z, if_pos (by rcases y with y | y; exact absurd y z; exact y)]
      · rcases p with p | ⟨rfl, c', h1, h2, h3⟩
        · exact Or.inl p
        · by_cases z : c' = c
          · exfalso
            subst z
            obtain ⟨o1, o2, o3, o4, o5⟩ := ok
            rcases h3 with ⟨rfl, rfl⟩ | ⟨rfl, rfl⟩
            · rcases o5 with o5 | ⟨-, -, -, -, -, o6, o7⟩
              · omega
              · rw [Int.toNat_natCast] at o6 o7
                rw [o6, o7] at y
                simp at y
            · rcases o5 with o5 | ⟨-, -, -, -, -, o6, o7⟩
              · omega
              · rw [Int.toNat_natCast] at o6 o7
                rw [sy _ _ (by omega) (by omega)] at o7
                rw [o4, o7] at y
                simp at y
          · exact Or.inr ⟨rfl, c', by omega, h2, h3⟩
    · have y1 : fd fe a c = false := by cases h : fd fe a c with | true => exact absurd (Or.inl h) y | false => rfl
      have y2 : fd fe b c = false := by cases h : fd fe b c with | true => exact absurd (Or.inr h) y | false => rfl
      have ok1 : okm n fe 3 a b (c : Int) := ⟨by omega, by omega, hab, nf, Or.inr ⟨rfl, by omega, by rw [Int.toNat_natCast]; omega, by rw [Int.toNat_natCast]; omega, by rw [Int.toNat_natCast]; omega, by rw [Int.toNat_natCast]; exact y1, by rw [Int.toNat_natCast]; exact y2⟩⟩
      have ok2 : okm n fe 3 a c (b : Int) := ⟨by omega, by omega, by omega, y1, Or.inr ⟨rfl, by omega, by rw [Int.toNat_natCast]; omega, by rw [Int.toNat_natCast]; omega, by rw [Int.toNat_natCast]; omega, by rw [Int.toNat_natCast]; exact nf, by rw [Int.toNat_natCast, sy _ _ (by omega) (by omega)]; exact y2⟩⟩
      obtain ⟨H1, f1, f2, f3⟩ := t_add A (by omega) ok1
      obtain ⟨H2, q1, q2, q3⟩ := t_add f3 (by omega) ok2
      obtain ⟨H', u', g1, g2, g3, g4⟩ := ih (c + 1) (by omega) (by omega) H2 (u + 1 + 1) _ q3 ((E.fa f2 hT).fa q2 hT) (by omega) fu (by omega)
      refine ⟨H', u', (xit_go (s' := (((c + 1 : Nat) : Int), H2)) ?_).trans g1, (f2.tr q2).tr g2, g3, g4.mono (fun a' b' k' ok p => ?_)⟩
      · show f_X8_addMoves_L51 (T : Int) (s : Int) 3 (a : Int) (b : Int) (c : Int) H = _
        rw [hd, if_neg (by rw [y1]; decide), if_neg (by rw [y2]; decide), xSo R, f1, bbind, xSo f3.1, q1, bbind]
      · rcases p with p | ⟨rfl, c', h1, h2, h3⟩
        · exact Or.inl (Or.inl (Or.inl p))
        · by_cases z : c' = c
          · subst z
            rcases h3 with ⟨rfl, rfl⟩ | ⟨rfl, rfl⟩
            · exact Or.inl (Or.inl (Or.inr ⟨rfl, rfl, rfl⟩))
            · exact Or.inl (Or.inr ⟨rfl, rfl, rfl⟩)
          · exact Or.inr ⟨rfl, c', by omega, h2, h3⟩
theorem t_15 {fe : Nat → Int} {T n s a mo : Nat} (hT : s + 13 ≤ T) (n6 : n ≤ 6) (sy : ∀ i j, i < n → j < n → fd fe i j = fd fe j i) {B : Nat} (B55 : B ≤ 55) : ∀ r b, b + r = n → a < b → ∀ (H : xa_H) (u : Nat) (P : Nat → Nat → Int → Prop), AM H T n u fe mo P → EV H s fe → u + r * r ≤ B → ∀ fu, r < fu →
    ∃ H' u', xit (fun x => f_X8_addMoves_L15 (T : Int) (s : Int) (mo : Int) (a : Int) x.1 x.2) fu ((b : Int), H) = some H' ∧ FA T H H' ∧ u' ≤ B ∧ AM H' T n u' fe mo (fun a' b' k' => P a' b' k' ∨ (a' = a ∧ b ≤ b' ∧ (k' = -1 ∨ (b : Int) ≤ k'))) := by
  intro r
  induction r with
  | zero =>
    intro b hbr hab H u P A E hu fu hf
    have R := A.1
    refine ⟨H, u, xit_end ?_ hf, FA.refl _ _, by omega, A.mono (fun a' b' k' ok p => ?_)⟩
    · show f_X8_addMoves_L15 (T : Int) (s : Int) (mo : Int) (a : Int) (b : Int) H = _
      unfold f_X8_addMoves_L15
      rw [gSo R, sx_0 R, if_neg (by omega)]
    · rcases p with p | ⟨-, h1, -⟩
      · exact p
      · have := ok.2.1
        omega
  | succ r ih =>
    intro b hbr hab H u P A E hu fu hf
    obtain ⟨fu, rfl⟩ : ∃ z, fu = z + 1 := ⟨fu - 1, by omega⟩
    have R := A.1
    have sq : (r + 1) * (r + 1) = r * r + 2 * r + 1 := by rw [Nat.add_mul, Nat.mul_add]; omega
    rw [sq] at hu
    obtain ⟨rr, err⟩ : ∃ rr, rr = r * r := ⟨_, rfl⟩
    rw [← err] at hu
    have hd : f_X8_addMoves_L15 (T : Int) (s : Int) (mo : Int) (a : Int) (b : Int) H = if fd fe a b = true then some (Sum.inl (((b + 1 : Nat) : Int), H)) else (xrc H 8 (T : Int) (f_X8_addMove (T : Int) (a : Int) (b : Int) (-1) H)).bind fun r7 => (xit (fun x => f_X8_addMoves_L51 (T : Int) (s : Int) (mo : Int) (a : Int) (b : Int) x.1 x.2) xFU (((b + 1 : Nat) : Int), r7)).bind fun e17 => some (Sum.inl (((b + 1 : Nat) : Int), e17)) := by
      unfold f_X8_addMoves_L15
      rw [gSo R, sx_0 R, if_pos (by omega), x0S E.1, s9_feud E (by omega), bbind, wS (by omega)]
      by_cases y : fd fe a b = true
      · rw [if_pos y, if_neg (by decide), if_pos y]
      · rw [if_neg y, if_pos rfl, if_neg y]
    by_cases y : fd fe a b = true
    · obtain ⟨H', u', g1, g2, g3, g4⟩ := ih (b + 1) (by omega) (by omega) H u P A E (by omega) fu (by omega)
      refine ⟨H', u', (xit_go (s' := (((b + 1 : Nat) : Int), H)) ?_).trans g1, g2, g3, g4.mono (fun a' b' k' ok p => ?_)⟩
      · show f_X8_addMoves_L15 (T : Int) (s : Int) (mo : Int) (a : Int) (b : Int) H = _
        rw [hd, if_pos y]
      · rcases p with p | ⟨rfl, h1, h2⟩
        · exact Or.inl p
        · obtain ⟨o1, o2, o3, o4, o5⟩ := ok
          have b1 : b' ≠ b := fun z => by rw [z, y] at o4; exact absurd o4 (by decide)
          rcases o5 with o5 | ⟨-, o6, o7, -, -, o8, -⟩
          · exact Or.inr ⟨rfl, by omega, Or.inl o5⟩
          · have b2 : k' ≠ (b : Int) := fun z => by rw [z, Int.toNat_natCast, y] at o8; exact absurd o8 (by decide)
            exact Or.inr ⟨rfl, by omega, Or.inr (by omega)⟩
    · have y1 : fd fe a b = false := by cases h : fd fe a b with | true => exact absurd h y | false => rfl
      have ok1 : okm n fe mo a b (-1) := ⟨by omega, by omega, hab, y1, Or.inl rfl⟩
      obtain ⟨H1, f1, f2, f3⟩ := t_add A (by omega) ok1
      have E1 := E.fa f2 hT
      by_cases m3 : mo = 3
      · subst m3
        obtain ⟨H2, u2, q1, q2, q3, q4⟩ := t_51 hT n6 hab (by omega) y1 sy (B := u + 1 + 2 * r) (by omega) r (b + 1) (by omega) (by omega) H1 (u + 1) _ f3 E1 (Nat.le_refl _) xFU (by unfold xFU; omega)
        obtain ⟨H', u', g1, g2, g3, g4⟩ := ih (b + 1) (by omega) (by omega) H2 u2 _ q4 (E1.fa q2 hT) (by omega) fu (by omega)
        refine ⟨H', u', (xit_go (s' := (((b + 1 : Nat) : Int), H2)) ?_).trans g1, (f2.tr q2).tr g2, g3, g4.mono (fun a' b' k' ok p => ?_)⟩
        · show f_X8_addMoves_L15 (T : Int) (s : Int) ((3 : Nat) : Int) (a : Int) (b : Int) H = _
          rw [hd, if_neg y, xSo R, f1, bbind]
          exact (bnd q1).trans rfl
        · rcases p with p | ⟨rfl, h1, h2⟩
          · exact Or.inl (Or.inl (Or.inl p))
          · obtain ⟨o1, o2, o3, o4, o5⟩ := ok
            rcases o5 with o5 | ⟨-, o6, o7, o9, o10, o8, -⟩
            · by_cases z : b' = b
              · exact Or.inl (Or.inl (Or.inr ⟨rfl, z, o5⟩))
              · exact Or.inr ⟨rfl, by omega, Or.inl o5⟩
            · by_cases z : b' = b
              · exact Or.inl (Or.inr ⟨rfl, k'.toNat, by omega, o7, Or.inl ⟨z, by omega⟩⟩)
              · by_cases w : k' = (b : Int)
                · exact Or.inl (Or.inr ⟨rfl, b', by omega, o2, Or.inr ⟨rfl, w⟩⟩)
                · exact Or.inr ⟨rfl, by omega, Or.inr (by omega)⟩
      · obtain ⟨H', u', g1, g2, g3, g4⟩ := ih (b + 1) (by omega) (by omega) H1 (u + 1) _ f3 E1 (by omega) fu (by omega)
        refine ⟨H', u', (xit_go (s' := (((b + 1 : Nat) : Int), H1)) ?_).trans g1, f2.tr g2, g3, g4.mono (fun a' b' k' ok p => ?_)⟩
        · show f_X8_addMoves_L15 (T : Int) (s : Int) (mo : Int) (a : Int) (b : Int) H = _
          rw [hd, if_neg y, xSo R, f1, bbind]
          refine (bnd (xit_end (e := H1) ?_ (by unfold xFU; omega))).trans rfl
          show f_X8_addMoves_L51 (T : Int) (s : Int) (mo : Int) (a : Int) (b : Int) _ H1 = _
          unfold f_X8_addMoves_L51
          rw [if_neg (by omega)]
        · rcases p with p | ⟨rfl, h1, h2⟩
          · exact Or.inl (Or.inl p)
          · obtain ⟨o1, o2, o3, o4, o5⟩ := ok
            rcases o5 with o5 | ⟨o6, -⟩
            · by_cases z : b' = b
              · exact Or.inl (Or.inr ⟨rfl, z, o5⟩)
              · exact Or.inr ⟨rfl, by omega, Or.inl o5⟩
            · exact absurd o6 m3
def sqA : Nat → Nat
  | 0 => 0
  | r + 1 => sqA r + r * r
theorem t_2 {fe : Nat → Int} {T n s mo : Nat} (hT : s + 13 ≤ T) (n6 : n ≤ 6) (sy : ∀ i j, i < n → j < n → fd fe i j = fd fe j i) : ∀ r a, a + r = n → ∀ (H : xa_H) (u : Nat) (P : Nat → Nat → Int → Prop), AM H T n u fe mo P → EV H s fe → u + sqA r ≤ 55 → ∀ fu, r < fu →
    ∃ H' u', xit (fun x => f_X8_addMoves_L2 (T : Int) (s : Int) (mo : Int) x.1 x.2) fu ((a : Int), H) = some H' ∧ FA T H H' ∧ u' ≤ 55 ∧ AM H' T n u' fe mo (fun a' b' k' => P a' b' k' ∨ a ≤ a') := by
  intro r
  induction r with
  | zero =>
    intro a har H u P A E hu fu hf
    have R := A.1
    refine ⟨H, u, xit_end ?_ hf, FA.refl _ _, by omega, A.mono (fun a' b' k' ok p => ?_)⟩
    · show f_X8_addMoves_L2 (T : Int) (s : Int) (mo : Int) (a : Int) H = _
      unfold f_X8_addMoves_L2
      rw [gSo R, sx_0 R, if_neg (by omega)]
    · rcases p with p | h1
      · exact p
      · have := ok.1
        omega
  | succ r ih =>
    intro a har H u P A E hu fu hf
    obtain ⟨fu, rfl⟩ : ∃ z, fu = z + 1 := ⟨fu - 1, by omega⟩
    have R := A.1
    simp only [sqA] at hu
    obtain ⟨ra, era⟩ : ∃ ra, ra = sqA r := ⟨_, rfl⟩
    obtain ⟨rr, err⟩ : ∃ rr, rr = r * r := ⟨_, rfl⟩
    rw [← era, ← err] at hu
    obtain ⟨H1, u1, f1, f2, f3, f4⟩ := t_15 (a := a) (B := u + rr) hT n6 sy (by omega) r (a + 1) (by omega) (by omega) H u P A E (by omega) xFU (by unfold xFU; omega)
    obtain ⟨H', u', g1, g2, g3, g4⟩ := ih (a + 1) (by omega) H1 u1 _ f4 (E.fa f2 hT) (by omega) fu (by omega)
    refine ⟨H', u', (xit_go (s' := (((a + 1 : Nat) : Int), H1)) ?_).trans g1, f2.tr g2, g3, g4.mono (fun a' b' k' ok p => ?_)⟩
    · show f_X8_addMoves_L2 (T : Int) (s : Int) (mo : Int) (a : Int) H = _
      unfold f_X8_addMoves_L2
      rw [gSo R, sx_0 R, if_pos (by omega), wS (by omega)]
      exact (bnd f1).trans rfl
    · rcases p with p | h1
      · exact Or.inl (Or.inl p)
      · by_cases z : a' = a
        · subst z
          obtain ⟨o1, o2, o3, o4, o5⟩ := ok
          refine Or.inl (Or.inr ⟨rfl, by omega, ?_⟩)
          rcases o5 with o5 | ⟨-, o6, o7, o8, -⟩
          · exact Or.inl o5
          · exact Or.inr (by omega)
        · exact Or.inr (by omega)
theorem sqA_55 {n : Nat} (h : n ≤ 6) : sqA n ≤ 55 := by
  have : n = 0 ∨ n = 1 ∨ n = 2 ∨ n = 3 ∨ n = 4 ∨ n = 5 ∨ n = 6 := by omega
  rcases this with rfl | rfl | rfl | rfl | rfl | rfl | rfl <;> decide
theorem t_moves0 {fe : Nat → Int} {H : xa_H} {T n s mo : Nat} (hT : s + 13 ≤ T) (R : SX H T n) (E : EV H s fe) (sy : ∀ i j, i < n → j < n → fd fe i j = fd fe j i) (h0 : xm H T 2 = 0) :
    ∃ H' t, f_X8_addMoves (T : Int) (s : Int) (mo : Int) H = some H' ∧ FA T H H' ∧ SX H' T n ∧ MO H' T n t fe mo := by
  have n6 := sx_n R
  obtain ⟨H', u', g1, g2, g3, g4⟩ := t_2 (mo := mo) hT n6 sy n 0 (by omega) H 0 (fun _ _ _ => False) ⟨R, h0, fun w hw => absurd hw (by omega), fun a b k _ p => absurd p id⟩ E (by have := sqA_55 n6; omega) xFU (by unfold xFU; omega)
  refine ⟨H', u', ?_, g2, g4.1, g3, g4.2.1, g4.2.2.1, fun a b k ok => g4.2.2.2 a b k ok (Or.inr (Nat.zero_le _))⟩
  unfold f_X8_addMoves
  exact (bnd g1).trans rfl
