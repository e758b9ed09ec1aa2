/-! ===== the reference goes on from an order ===== -/
/-- the moves of P have been made from c0 -/
def HDm (n : Nat) (fe : Nat → Int) (mo c0 : Nat) (Q : Nat → Nat) (tl : Nat) (P : Nat → Nat → Int → Prop) : Prop := ∀ a b k, okm n fe mo a b k → P a b k → ∃ j, j < tl ∧ Q j = mvt n a b k c0
theorem HDm.mono {n mo c0 tl tl' : Nat} {fe : Nat → Int} {Q Q' : Nat → Nat} {P P' : Nat → Nat → Int → Prop} (A : HDm n fe mo c0 Q tl P) (hl : tl ≤ tl') (e : ∀ i, i < tl → Q' i = Q i) (h : ∀ a b k, okm n fe mo a b k → P' a b k → P a b k ∨ ∃ j, j < tl' ∧ Q' j = mvt n a b k c0) : HDm n fe mo c0 Q' tl' P' := fun a b k ok p => by
  rcases h a b k ok p with q | q
  · obtain ⟨j, hj, e1⟩ := A a b k ok q
    exact ⟨j, by omega, by rw [e j hj]; exact e1⟩
  · exact q
/-- what stands all along -/
def RK (h G : xa_H) (n mo hd c0 l0 : Nat) (N0 Q L : Nat → Nat) (tl : Nat) : Prop := MV h G ∧ RSS G n Q L tl ∧ BF (rch n (xm h 207) mo) (nbr n (xm h 207) mo) Q L hd tl ∧ hd < tl ∧ tl ≤ fct n ∧ Q hd = c0 ∧ L hd = l0 ∧ ∀ i, i ≤ hd → Q i = N0 i
theorem m_79 {h : xa_H} {n hd c0 l0 i j : Nat} {N0 : Nat → Nat} (en : xm h 199 4 = (n : Int)) (n6 : n ≤ 6) (hi : i < n) (hj : j < n) (hij : i < j) (nf : fd (xm h 207) i j = false) (sy : ∀ i j, i < n → j < n → fd (xm h 207) i j = fd (xm h 207) j i) (V0 : vperm n c0) : ∀ r k, k + r = n → ∀ (G : xa_H) (Q L : Nat → Nat) (tl : Nat) (P : Nat → Nat → Int → Prop), RK h G n 3 hd c0 l0 N0 Q L tl → HDm n (xm h 207) 3 c0 Q tl P → ∀ fu, r < fu →
    ∃ G' Q' L' tl', xit (fun s => f_X12_triesAll_L79 173 (c0 : Int) 3 ((l0 + 1 : Nat) : Int) (i : Int) (j : Int) s.1 s.2) fu ((k : Int), G) = some G' ∧ Fx DBt G G' ∧ RK h G' n 3 hd c0 l0 N0 Q' L' tl' ∧ HDm n (xm h 207) 3 c0 Q' tl' (fun a b k' => P a b k' ∨ (a = i ∧ k ≤ b ∧ k' = (j : Int))) := by
  have c6 := six_le n6
  have cl := V0.1
  intro r
  induction r with
  | zero =>
    intro k hk G Q L tl P R A fu hf
    refine ⟨G, Q, L, tl, xit_end ?_ hf, Fx.refl _ _, R, A.mono (Nat.le_refl _) (fun _ _ => rfl) (fun a b k' ok p => ?_)⟩
    · show f_X12_triesAll_L79 173 _ 3 _ (i : Int) (j : Int) (k : Int) G = _
      unfold f_X12_triesAll_L79
      rw [xM R.1.1, b_many R.1 en, bbind, if_neg (by omega)]
    · rcases p with p | ⟨-, p, -⟩
      · exact Or.inl p
      · have := ok.2.1
        omega
  | succ r ih =>
    intro k hk G Q L tl P R A fu hf
    obtain ⟨fu, rfl⟩ : ∃ z, fu = z + 1 := ⟨fu - 1, by omega⟩
    have M := R.1
    have S := M.1
    have hdd : f_X12_triesAll_L79 173 (c0 : Int) 3 ((l0 + 1 : Nat) : Int) (i : Int) (j : Int) (k : Int) G = if i < k ∧ k ≠ j ∧ fd (xm h 207) j k = false ∧ fd (xm h 207) i k = false then (xrc G 12 173 (f_X12_isState 173 (c0 : Int) G)).bind fun r23 => (xrc r23 12 173 (f_X12_tries 173 (i : Int) (j : Int) (k : Int) ((l0 + 1 : Nat) : Int) r23)).bind fun r24 => some (Sum.inl (((k + 1 : Nat) : Int), r24)) else some (Sum.inl (((k + 1 : Nat) : Int), G)) := by
      unfold f_X12_triesAll_L79
      rw [xM S, b_many M en, bbind, if_pos (by omega), if_pos rfl, wS (by omega)]
      by_cases y1 : i < k
      · rw [if_pos (by omega), if_pos (by omega)]
        by_cases y2 : k = j
        · rw [if_pos (by omega), if_neg (fun q => q.2.1 y2)]
        · rw [if_neg (by omega), xM S, m9_feud M (by omega), bbind]
          by_cases y3 : fd (xm h 207) j k = true
          · rw [if_pos y3, if_neg (by decide), if_neg (fun q => by rw [q.2.2.1] at y3; exact absurd y3 (by decide))]
          · rw [if_neg y3, if_pos rfl, xM S, m9_feud M (by omega), bbind]
            by_cases y4 : fd (xm h 207) i k = true
            · rw [if_pos y4, if_neg (by decide), if_neg (fun q => by rw [q.2.2.2] at y4; exact absurd y4 (by decide))]
            · rw [if_neg y4, if_pos rfl, if_pos ⟨y1, y2, Bool.eq_false_iff.2 y3, Bool.eq_false_iff.2 y4⟩]
      · rw [if_neg (by omega), if_neg (fun q => y1 q.1)]
    by_cases y : i < k ∧ k ≠ j ∧ fd (xm h 207) j k = false ∧ fd (xm h 207) i k = false
    · rw [if_pos y] at hdd
      obtain ⟨y1, y2, y3, y4⟩ := y
      have ok : okm n (xm h 207) 3 i k (j : Int) := ⟨hi, by omega, y1, y4, Or.inr ⟨rfl, by omega, by rw [Int.toNat_natCast]; exact hj, by rw [Int.toNat_natCast]; exact hij, by rw [Int.toNat_natCast]; omega, by rw [Int.toNat_natCast]; exact nf, by rw [Int.toNat_natCast, sy _ _ (by omega) hj]; exact y3⟩⟩
      obtain ⟨G1, a1, a2, a3, a4⟩ := m_isState (c := c0) M en n6 (by omega)
      have M1 := M.bt a4
      obtain ⟨G2, b1, b2, b3, b4⟩ := m_try3 (v := ((l0 + 1 : Nat) : Int)) M1 n6 a2 hi hj (show k < n by omega) hij y1 y2
      have M2 := M1.bt b4
      obtain ⟨-, X, B, hl, ht, q0, l0', qq⟩ := R
      have X2 : RSS G2 n Q L tl := (X.or a3).or b3
      obtain ⟨G3, Q3, L3, tl3, c1, c2, c3, c4, c5, c7, c8, c9⟩ := m_comes M2 en n6 b2 (mvt_vperm ok V0) X2 B rch_S rch_S' hl ht ⟨i, k, (j : Int), ok, by rw [q0]⟩
      rw [l0'] at c1
      have R3 : RK h G3 n 3 hd c0 l0 N0 Q3 L3 tl3 := ⟨M2.bt c2, c3, c4, by omega, c7, (c8 hd hl).1.trans q0, (c8 hd hl).2.trans l0', fun t ht => (c8 t (by omega)).1.trans (qq t ht)⟩
      obtain ⟨G', Q', L', tl', g1, g2, g3, g4⟩ := ih (k + 1) (by omega) G3 Q3 L3 tl3 (fun a b k' => P a b k' ∨ (a = i ∧ b = k ∧ k' = (j : Int))) R3 (A.mono c5 (fun t ht => (c8 t ht).1) (fun a b k' _ p => by
        rcases p with p | ⟨rfl, rfl, rfl⟩
        · exact Or.inl p
        · exact Or.inr c9)) fu (by omega)
      refine ⟨G', Q', L', tl', (xit_go (s' := (((k + 1 : Nat) : Int), G3)) ?_).trans g1, ((a4.tr b4).tr c2).tr g2, g3, g4.mono (Nat.le_refl _) (fun _ _ => rfl) (fun a b k' _ p => ?_)⟩
      · show f_X12_triesAll_L79 173 _ 3 _ (i : Int) (j : Int) (k : Int) G = _
        rw [hdd, xM S, a1, bbind, xM M1.1, b1, c1, bbind]
      · rcases p with p | ⟨p1, p2, p3⟩
        · exact Or.inl (Or.inl (Or.inl p))
        · by_cases z : b = k
          · exact Or.inl (Or.inl (Or.inr ⟨p1, z, p3⟩))
          · exact Or.inl (Or.inr ⟨p1, by omega, p3⟩)
    · rw [if_neg y] at hdd
      obtain ⟨G', Q', L', tl', g1, g2, g3, g4⟩ := ih (k + 1) (by omega) G Q L tl P R A fu (by omega)
      refine ⟨G', Q', L', tl', (xit_go (s' := (((k + 1 : Nat) : Int), G)) hdd).trans g1, g2, g3, g4.mono (Nat.le_refl _) (fun _ _ => rfl) (fun a b k' ok p => ?_)⟩
      rcases p with p | ⟨p1, p2, p3⟩
      · exact Or.inl (Or.inl p)
      · by_cases z : b = k
        · exfalso
          obtain ⟨o1, o2, o3, o4, o5⟩ := ok
          rw [p1, z] at o3 o4
          rcases o5 with o5 | ⟨-, -, -, o7, o8, o9, o10⟩
          · omega
          · rw [p3, Int.toNat_natCast] at o8 o10
            rw [z, sy _ _ (by omega) hj] at o10
            exact y ⟨o3, by omega, o10, o4⟩
        · exact Or.inl (Or.inr ⟨p1, by omega, p3⟩)
theorem m_24 {h : xa_H} {n mo hd c0 l0 i : Nat} {N0 : Nat → Nat} (en : xm h 199 4 = (n : Int)) (n6 : n ≤ 6) (hi : i < n) (sy : ∀ i j, i < n → j < n → fd (xm h 207) i j = fd (xm h 207) j i) (V0 : vperm n c0) : ∀ r j, j + r = n → ∀ (G : xa_H) (Q L : Nat → Nat) (tl : Nat) (P : Nat → Nat → Int → Prop), RK h G n mo hd c0 l0 N0 Q L tl → HDm n (xm h 207) mo c0 Q tl P → ∀ fu, r < fu →
    ∃ G' Q' L' tl', xit (fun s => f_X12_triesAll_L24 173 (c0 : Int) (mo : Int) ((l0 + 1 : Nat) : Int) (i : Int) s.1 s.2) fu ((j : Int), G) = some G' ∧ Fx DBt G G' ∧ RK h G' n mo hd c0 l0 N0 Q' L' tl' ∧ HDm n (xm h 207) mo c0 Q' tl' (fun a b k => P a b k ∨ (a = i ∧ ((k = -1 ∧ j ≤ b) ∨ (j : Int) ≤ k))) := by
  have c6 := six_le n6
  have cl := V0.1
  intro r
  induction r with
  | zero =>
    intro j hj G Q L tl P R A fu hf
    refine ⟨G, Q, L, tl, xit_end ?_ hf, Fx.refl _ _, R, A.mono (Nat.le_refl _) (fun _ _ => rfl) (fun a b k' ok p => ?_)⟩
    · show f_X12_triesAll_L24 173 _ _ _ (i : Int) (j : Int) G = _
      unfold f_X12_triesAll_L24
      rw [xM R.1.1, b_many R.1 en, bbind, if_neg (by omega)]
    · rcases p with p | ⟨-, p⟩
      · exact Or.inl p
      · have := ok.2.1
        rcases ok.2.2.2.2 with o5 | ⟨-, -, o5, -⟩
        · omega
        · omega
  | succ r ih =>
    intro j hj G Q L tl P R A fu hf
    obtain ⟨fu, rfl⟩ : ∃ z, fu = z + 1 := ⟨fu - 1, by omega⟩
    have M := R.1
    have S := M.1
    -- no meeting with j
    have skip : f_X12_triesAll_L24 173 (c0 : Int) (mo : Int) ((l0 + 1 : Nat) : Int) (i : Int) (j : Int) G = some (Sum.inl (((j + 1 : Nat) : Int), G)) → ¬ (i < j ∧ fd (xm h 207) i j = false) → ∃ G' Q' L' tl', xit (fun s => f_X12_triesAll_L24 173 (c0 : Int) (mo : Int) ((l0 + 1 : Nat) : Int) (i : Int) s.1 s.2) (fu + 1) ((j : Int), G) = some G' ∧ Fx DBt G G' ∧ RK h G' n mo hd c0 l0 N0 Q' L' tl' ∧ HDm n (xm h 207) mo c0 Q' tl' (fun a b k => P a b k ∨ (a = i ∧ ((k = -1 ∧ j ≤ b) ∨ (j : Int) ≤ k))) := by
      intro go no
      obtain ⟨G', Q', L', tl', g1, g2, g3, g4⟩ := ih (j + 1) (by omega) G Q L tl P R A fu (by omega)
      refine ⟨G', Q', L', tl', (xit_go go).trans g1, g2, g3, g4.mono (Nat.le_refl _) (fun _ _ => rfl) (fun a b k ok p => ?_)⟩
      obtain ⟨o1, o2, o3, o4, o5⟩ := ok
      rcases p with p | ⟨p1, p2⟩
      · exact Or.inl (Or.inl p)
      · subst p1
        rcases o5 with o5 | ⟨-, o6, o7, o8, o9, o10, -⟩
        · by_cases z : b = j
          · exact absurd ⟨by omega, by rw [← z]; exact o4⟩ no
          · exact Or.inl (Or.inr ⟨rfl, Or.inl ⟨o5, by omega⟩⟩)
        · by_cases z : k.toNat = j
          · exact absurd ⟨by omega, by rw [← z]; exact o10⟩ no
          · exact Or.inl (Or.inr ⟨rfl, Or.inr (by omega)⟩)
    have hdd : f_X12_triesAll_L24 173 (c0 : Int) (mo : Int) ((l0 + 1 : Nat) : Int) (i : Int) (j : Int) G = if i = j then some (Sum.inl (((j + 1 : Nat) : Int), G)) else if fd (xm h 207) i j = true then some (Sum.inl (((j + 1 : Nat) : Int), G)) else (xrc G 12 173 (f_X12_isState 173 (c0 : Int) G)).bind fun r10 => if (i : Int) < (j : Int) then (xrc r10 12 173 (f_X12_tries 173 (i : Int) (j : Int) (-1) ((l0 + 1 : Nat) : Int) r10)).bind fun r12 => f_X12_triesAll_J76L24 173 (c0 : Int) (mo : Int) ((l0 + 1 : Nat) : Int) (i : Int) (j : Int) r12 else f_X12_triesAll_J76L24 173 (c0 : Int) (mo : Int) ((l0 + 1 : Nat) : Int) (i : Int) (j : Int) r10 := by
      unfold f_X12_triesAll_L24
      rw [xM S, b_many M en, bbind, if_pos (by omega), wS (by omega)]
      by_cases y1 : i = j
      · rw [if_pos (by omega), if_pos y1]
      · rw [if_neg (by omega), if_neg y1, xM S, m9_feud M (by omega), bbind]
        by_cases y3 : fd (xm h 207) i j = true
        · rw [if_pos y3, if_neg (by decide), if_pos y3]
        · rw [if_neg y3, if_pos rfl, if_neg y3]
    by_cases y1 : i = j
    · rw [if_pos y1] at hdd
      exact skip hdd (by omega)
    rw [if_neg y1] at hdd
    by_cases y2 : fd (xm h 207) i j = true
    · rw [if_pos y2] at hdd
      exact skip hdd (fun q => by rw [q.2] at y2; exact absurd y2 (by decide))
    rw [if_neg y2] at hdd
    have nf := Bool.eq_false_iff.2 y2
    obtain ⟨G1, a1, a2, a3, a4⟩ := m_isState (c := c0) M en n6 (by omega)
    have M1 := M.bt a4
    rw [xM S, a1, bbind] at hdd
    obtain ⟨-, X, B, hl, ht, q0, l0', qq⟩ := R
    by_cases y3 : i < j
    · rw [if_pos (by omega)] at hdd
      have ok : okm n (xm h 207) mo i j (-1) := ⟨hi, by omega, y3, nf, Or.inl rfl⟩
      obtain ⟨G2, b1, b2, b3, b4⟩ := m_try2 (v := ((l0 + 1 : Nat) : Int)) M1 n6 a2 hi (show j < n by omega) y3
      have M2 := M1.bt b4
      have X2 : RSS G2 n Q L tl := (X.or a3).or b3
      obtain ⟨G3, Q3, L3, tl3, c1, c2, c3, c4, c5, c7, c8, c9⟩ := m_comes M2 en n6 b2 (mvt_vperm ok V0) X2 B rch_S rch_S' hl ht ⟨i, j, -1, ok, by rw [q0]⟩
      rw [l0'] at c1
      rw [xM M1.1, b1, c1, bbind] at hdd
      have R3 : RK h G3 n mo hd c0 l0 N0 Q3 L3 tl3 := ⟨M2.bt c2, c3, c4, by omega, c7, (c8 hd hl).1.trans q0, (c8 hd hl).2.trans l0', fun t ht => (c8 t (by omega)).1.trans (qq t ht)⟩
      have A3 : HDm n (xm h 207) mo c0 Q3 tl3 (fun a b k' => P a b k' ∨ (a = i ∧ b = j ∧ k' = -1)) := A.mono c5 (fun t ht => (c8 t ht).1) (fun a b k' _ p => by
        rcases p with p | ⟨rfl, rfl, rfl⟩
        · exact Or.inl p
        · exact Or.inr c9)
      by_cases m3 : mo = 3
      · subst m3
        obtain ⟨G4, Q4, L4, tl4, d1, d2, d3, d4⟩ := m_79 en n6 hi (show j < n by omega) y3 nf sy V0 n 0 (by omega) G3 Q3 L3 tl3 _ R3 A3 xFU (by unfold xFU; omega)
        obtain ⟨G', Q', L', tl', g1, g2, g3, g4⟩ := ih (j + 1) (by omega) G4 Q4 L4 tl4 _ d3 d4 fu (by omega)
        refine ⟨G', Q', L', tl', (xit_go (s' := (((j + 1 : Nat) : Int), G4)) ?_).trans g1, (((a4.tr b4).tr c2).tr d2).tr g2, g3, g4.mono (Nat.le_refl _) (fun _ _ => rfl) (fun a b k okk p => ?_)⟩
        · show f_X12_triesAll_L24 173 _ _ _ (i : Int) (j : Int) G = _
          rw [hdd]
          unfold f_X12_triesAll_J76L24
          rw [wS (by omega)]
          exact (bnd d1).trans rfl
        · obtain ⟨o1, o2, o3, o4, o5⟩ := okk
          rcases p with p | ⟨p1, p2⟩
          · exact Or.inl (Or.inl (Or.inl (Or.inl p)))
          · rcases o5 with o5 | ⟨-, o6, o7, o8, o9, o10, -⟩
            · by_cases z : b = j
              · exact Or.inl (Or.inl (Or.inl (Or.inr ⟨p1, z, o5⟩)))
              · exact Or.inl (Or.inr ⟨p1, Or.inl ⟨o5, by omega⟩⟩)
            · by_cases z : k = (j : Int)
              · exact Or.inl (Or.inl (Or.inr ⟨p1, Nat.zero_le _, z⟩))
              · exact Or.inl (Or.inr ⟨p1, Or.inr (by omega)⟩)
      · obtain ⟨G', Q', L', tl', g1, g2, g3, g4⟩ := ih (j + 1) (by omega) G3 Q3 L3 tl3 _ R3 A3 fu (by omega)
        refine ⟨G', Q', L', tl', (xit_go (s' := (((j + 1 : Nat) : Int), G3)) ?_).trans g1, ((a4.tr b4).tr c2).tr g2, g3, g4.mono (Nat.le_refl _) (fun _ _ => rfl) (fun a b k okk p => ?_)⟩
        · show f_X12_triesAll_L24 173 _ _ _ (i : Int) (j : Int) G = _
          rw [hdd]
          unfold f_X12_triesAll_J76L24
          rw [wS (by omega)]
          refine (bnd (xit_end (e := G3) ?_ (by unfold xFU; omega))).trans rfl
          show f_X12_triesAll_L79 173 _ (mo : Int) _ (i : Int) (j : Int) 0 G3 = _
          unfold f_X12_triesAll_L79
          rw [xM R3.1.1, b_many R3.1 en, bbind, if_pos (by omega), if_neg (by omega)]
        · obtain ⟨o1, o2, o3, o4, o5⟩ := okk
          rcases p with p | ⟨p1, p2⟩
          · exact Or.inl (Or.inl (Or.inl p))
          · rcases o5 with o5 | ⟨o6, -⟩
            · by_cases z : b = j
              · exact Or.inl (Or.inl (Or.inr ⟨p1, z, o5⟩))
              · exact Or.inl (Or.inr ⟨p1, Or.inl ⟨o5, by omega⟩⟩)
            · exact absurd o6 m3
    · rw [if_neg (by omega)] at hdd
      have X1 : RSS G1 n Q L tl := X.or a3
      have R1 : RK h G1 n mo hd c0 l0 N0 Q L tl := ⟨M1, X1, B, hl, ht, q0, l0', qq⟩
      -- the inner loop does nothing
      have idle : ∀ r k, k + r = n → ∀ fu, r < fu → xit (fun s => f_X12_triesAll_L79 173 (c0 : Int) (mo : Int) ((l0 + 1 : Nat) : Int) (i : Int) (j : Int) s.1 s.2) fu ((k : Int), G1) = some G1 := by
        intro r
        induction r with
        | zero =>
          intro k hk fu hf
          refine xit_end ?_ hf
          show f_X12_triesAll_L79 173 _ (mo : Int) _ (i : Int) (j : Int) (k : Int) G1 = _
          unfold f_X12_triesAll_L79
          rw [xM M1.1, b_many M1 en, bbind, if_neg (by omega)]
        | succ r ihr =>
          intro k hk fu hf
          obtain ⟨fu, rfl⟩ : ∃ z, fu = z + 1 := ⟨fu - 1, by omega⟩
          by_cases m3 : mo = 3
          · refine (xit_go (s' := (((k + 1 : Nat) : Int), G1)) ?_).trans (ihr (k + 1) (by omega) fu (by omega))
            show f_X12_triesAll_L79 173 _ (mo : Int) _ (i : Int) (j : Int) (k : Int) G1 = _
            unfold f_X12_triesAll_L79
            rw [xM M1.1, b_many M1 en, bbind, if_pos (by omega), if_pos (by omega), wS (by omega)]
            by_cases w : (i : Int) < (k : Int)
            · rw [if_pos w, if_neg (by omega)]
            · rw [if_neg w]
          · refine xit_end ?_ (by omega)
            show f_X12_triesAll_L79 173 _ (mo : Int) _ (i : Int) (j : Int) (k : Int) G1 = _
            unfold f_X12_triesAll_L79
            rw [xM M1.1, b_many M1 en, bbind, if_pos (by omega), if_neg (by omega)]
      obtain ⟨G', Q', L', tl', g1, g2, g3, g4⟩ := ih (j + 1) (by omega) G1 Q L tl P R1 A fu (by omega)
      refine ⟨G', Q', L', tl', (xit_go (s' := (((j + 1 : Nat) : Int), G1)) ?_).trans g1, a4.tr g2, g3, g4.mono (Nat.le_refl _) (fun _ _ => rfl) (fun a b k ok p => ?_)⟩
      · show f_X12_triesAll_L24 173 _ _ _ (i : Int) (j : Int) G = _
        rw [hdd]
        unfold f_X12_triesAll_J76L24
        rw [wS (by omega)]
        exact (bnd (idle n 0 (by omega) xFU (by unfold xFU; omega))).trans rfl
      · obtain ⟨o1, o2, o3, o4, o5⟩ := ok
        rcases p with p | ⟨p1, p2⟩
        · exact Or.inl (Or.inl p)
        · rcases o5 with o5 | ⟨-, o6, o7, o8, o9, o10, -⟩
          · exact Or.inl (Or.inr ⟨p1, Or.inl ⟨o5, by omega⟩⟩)
          · exact Or.inl (Or.inr ⟨p1, Or.inr (by omega)⟩)
theorem m_12 {h : xa_H} {n mo hd c0 l0 : Nat} {N0 : Nat → Nat} (en : xm h 199 4 = (n : Int)) (n6 : n ≤ 6) (sy : ∀ i j, i < n → j < n → fd (xm h 207) i j = fd (xm h 207) j i) (V0 : vperm n c0) : ∀ r i, i + r = n → ∀ (G : xa_H) (Q L : Nat → Nat) (tl : Nat) (P : Nat → Nat → Int → Prop), RK h G n mo hd c0 l0 N0 Q L tl → HDm n (xm h 207) mo c0 Q tl P → ∀ fu, r < fu →
    ∃ G' Q' L' tl', xit (fun s => f_X12_triesAll_L12 173 (c0 : Int) (mo : Int) ((l0 + 1 : Nat) : Int) s.1 s.2) fu ((i : Int), G) = some G' ∧ Fx DBt G G' ∧ RK h G' n mo hd c0 l0 N0 Q' L' tl' ∧ HDm n (xm h 207) mo c0 Q' tl' (fun a b k => P a b k ∨ i ≤ a) := by
  intro r
  induction r with
  | zero =>
    intro i hi G Q L tl P R A fu hf
    refine ⟨G, Q, L, tl, xit_end ?_ hf, Fx.refl _ _, R, A.mono (Nat.le_refl _) (fun _ _ => rfl) (fun a b k' ok p => ?_)⟩
    · show f_X12_triesAll_L12 173 _ _ _ (i : Int) G = _
      unfold f_X12_triesAll_L12
      rw [xM R.1.1, b_many R.1 en, bbind, if_neg (by omega)]
    · rcases p with p | p
      · exact Or.inl p
      · have := ok.1
        omega
  | succ r ih =>
    intro i hi G Q L tl P R A fu hf
    obtain ⟨fu, rfl⟩ : ∃ z, fu = z + 1 := ⟨fu - 1, by omega⟩
    obtain ⟨G1, Q1, L1, tl1, d1, d2, d3, d4⟩ := m_24 (i := i) en n6 (by omega) sy V0 n 0 (by omega) G Q L tl P R A xFU (by unfold xFU; omega)
    obtain ⟨G', Q', L', tl', g1, g2, g3, g4⟩ := ih (i + 1) (by omega) G1 Q1 L1 tl1 _ d3 d4 fu (by omega)
    refine ⟨G', Q', L', tl', (xit_go (s' := (((i + 1 : Nat) : Int), G1)) ?_).trans g1, d2.tr g2, g3, g4.mono (Nat.le_refl _) (fun _ _ => rfl) (fun a b k ok p => ?_)⟩
    · show f_X12_triesAll_L12 173 _ _ _ (i : Int) G = _
      unfold f_X12_triesAll_L12
      rw [xM R.1.1, b_many R.1 en, bbind, if_pos (by omega), wS (by omega)]
      exact (bnd d1).trans rfl
    · rcases p with p | p
      · exact Or.inl (Or.inl (Or.inl p))
      · by_cases z : a = i
        · refine Or.inl (Or.inl (Or.inr ⟨z, ?_⟩))
          rcases ok.2.2.2.2 with o5 | ⟨-, o6, -⟩
          · exact Or.inl ⟨o5, Nat.zero_le _⟩
          · exact Or.inr o6
        · exact Or.inl (Or.inr (by omega))
theorem m_triesAll {h G : xa_H} {n mo hd tl : Nat} {Q L : Nat → Nat} (en : xm h 199 4 = (n : Int)) (n6 : n ≤ 6) (sy : ∀ i j, i < n → j < n → fd (xm h 207) i j = fd (xm h 207) j i) (M : MV h G) (X : RSS G n Q L tl) (B : BF (rch n (xm h 207) mo) (nbr n (xm h 207) mo) Q L hd tl) (hl : hd < tl) (ht : tl ≤ fct n) :
    ∃ G' Q' L' tl', f_X12_triesAll 173 ((Q hd : Nat) : Int) (mo : Int) G = some G' ∧ Fx DBt G G' ∧ RSS G' n Q' L' tl' ∧ BF (rch n (xm h 207) mo) (nbr n (xm h 207) mo) Q' L' (hd + 1) tl' ∧ hd + 1 ≤ tl' ∧ tl' ≤ fct n ∧ ∀ i, i ≤ hd → Q' i = Q i := by
  obtain ⟨V0, -, l1⟩ := X.2.1 hd hl
  have c6 := six_le n6
  have cl := V0.1
  have f7 := fct_720 n6
  have lle := bf_le B rch_S rch_S' (fun k c h => Or.inl h) (by omega) hd hl
  obtain ⟨G', Q', L', tl', g1, g2, g3, g4⟩ := m_12 (hd := hd) (l0 := L hd) (N0 := Q) en n6 sy V0 n 0 (by omega) G Q L tl (fun _ _ _ => False) ⟨M, X, B, hl, ht, rfl, rfl, fun _ _ => rfl⟩ (fun a b k _ p => absurd p id) xFU (by unfold xFU; omega)
  obtain ⟨M', X', B', hl', ht', q0, l0, qq⟩ := g3
  have S := M.1
  refine ⟨G', Q', L', tl', ?_, g2, X', bf_next B' hl' (fun c hc => ?_), hl', ht', qq⟩
  · unfold f_X12_triesAll
    rw [gM S, pt_173_63 S]
    refine (bnd (xal_eq (a := 216) (ia_216 S (by omega) (by omega)) l1)).trans ?_
    rw [wS (by omega)]
    exact (bnd g1).trans rfl
  · rw [q0] at hc
    obtain ⟨a, b, k, ok, rfl⟩ := hc
    exact g4 a b k ok (Or.inr (Nat.zero_le _))
