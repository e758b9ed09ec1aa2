theorem rc_hn {h : xa_H} {s : Nat} (R : Rc h s) {i : Nat} (hi : (i : Int) < xm h 199 3) : nmr (xm h (s + 1) i) (xm h 200 (12 + i)) := R.2.2.2.2.2.2.2.2.2.2.2.2.2.2.1 i hi
theorem rc_on {h : xa_H} {s : Nat} (R : Rc h s) {i : Nat} (hi : (i : Int) < xm h 199 4) : nmr (xm h (s + 2) i) (xm h 200 (18 + i)) := R.2.2.2.2.2.2.2.2.2.2.2.2.2.2.2 i hi
theorem c_letter {h : xa_H} {s F1 F2 T2 T3 : Nat} (R : RR h s F1 F2 T2 T3) (a b c : Int) : CallOK h ((f_X11_letter 0 a b c h).bind fun r => some (r, h)) (fun g => (f_X12_letter 173 a b c g).bind fun r => some (r, g)) := by
  have S := rr_S R
  have C := rr_c R
  have hn := rc_n C
  have hm := rc_m C
  suffices e : ∃ v, f_X11_letter 0 a b c h = some v ∧ f_X12_letter 173 a b c h = some v by
    obtain ⟨v, e1, e2⟩ := e
    exact CallOK.same (v := v) (h1 := h) (h2 := h) (by rw [e1]; rfl) (by show (f_X12_letter 173 a b c h).bind _ = _; rw [e2]; rfl) ⟨s, F1, F2, T2, T3, R⟩ rfl rfl
  -- refused by both
  have no : (a < 0 ∨ 1 < a) ∨ (b < 0 ∨ (a = 0 ∧ xm h 199 3 ≤ b) ∨ (a = 1 ∧ xm h 199 4 ≤ b)) ∨ (c < 0 ∨ 5 < c) → f_X11_letter 0 a b c h = some (-1) ∧ f_X12_letter 173 a b c h = some (-1) := by
    intro z
    constructor
    · unfold f_X11_letter
      by_cases c0 : c < 0
      · rw [if_pos c0]
      · rw [if_neg c0]
        by_cases c6 : c < 6
        · rw [if_pos c6]
          have J : a ≠ 0 ∨ True → (a = 1 → b < 0 ∨ xm h 199 4 ≤ b) → f_X11_letter_J38 0 a b c h = some (-1) := by
            intro _ w
            unfold f_X11_letter_J38
            by_cases a1 : a = 1
            · rw [if_pos a1]
              have e := w a1
              refine (bnd (v := (0 : Int)) (by unfold xrc; rw [if_pos (ok_0 S), s_X11_isHolder S C b, if_neg (by omega)])).trans ?_
              rw [if_pos rfl]
            · rw [if_neg a1]
          by_cases a0 : a = 0
          · rw [if_pos a0]
            refine (bnd (v := (0 : Int)) (by unfold xrc; rw [if_pos (ok_0 S), s_X11_isHeld S C b, if_neg (by omega)])).trans ?_
            rw [if_pos rfl]
            exact J (Or.inr trivial) (by omega)
          · rw [if_neg a0]
            exact J (Or.inl a0) (by omega)
        · rw [if_neg c6]
    · unfold f_X12_letter
      rw [s_X12_isIn]
      by_cases z1 : a < 0 ∨ 1 < a
      · rw [if_pos z1]; rfl
      · rw [if_neg z1]
        refine (bnd (v := (1 : Int)) rfl).trans ?_
        rw [if_neg (by decide)]
        refine (bnd (xgf_eq (a := 173) (ok_173 S) (pt_173_34 S))).trans ?_
        obtain ⟨N, eN⟩ : ∃ N, N = xm h 199 (3 + a.toNat) := ⟨_, rfl⟩
        rw [w32_id (z := 3 + a) (by omega) (by omega)]
        refine (bnd (v := N) (by unfold xal; rw [if_pos (ia_199 S (by omega) (by omega)), eN, show (3 + a).toNat = 3 + a.toNat by omega]; rfl)).trans ?_
        have bN : N = if a = 0 then xm h 199 3 else xm h 199 4 := by
          rw [eN]
          by_cases a0 : a = 0
          · rw [if_pos a0, a0]; rfl
          · rw [if_neg a0, show a = 1 by omega]; rfl
        have N6 : 0 ≤ N ∧ N ≤ 6 := by rw [bN]; split <;> omega
        rw [w32_id (z := N - 1) (by omega) (by omega), s_X12_isIn]
        by_cases z2 : b < 0 ∨ N - 1 < b
        · rw [if_pos z2]; rfl
        · rw [if_neg z2]
          refine (bnd (v := (1 : Int)) rfl).trans ?_
          rw [if_neg (by decide), s_X12_isIn, if_pos ?_]
          · rfl
          · rcases z with z | z | z
            · omega
            · by_cases a0 : a = 0
              · rw [if_pos a0] at bN; omega
              · rw [if_neg a0] at bN; omega
            · exact z
  by_cases z : (a < 0 ∨ 1 < a) ∨ (b < 0 ∨ (a = 0 ∧ xm h 199 3 ≤ b) ∨ (a = 1 ∧ xm h 199 4 ≤ b)) ∨ (c < 0 ∨ 5 < c)
  · exact ⟨-1, no z⟩
  · obtain ⟨k, ek⟩ : ∃ k : Nat, c = (k : Int) := ⟨c.toNat, by omega⟩
    obtain ⟨i, ei⟩ : ∃ i : Nat, b = (i : Int) := ⟨b.toNat, by omega⟩
    have M : ∀ (u : Nat) (f : Nat → Int) (l : Nat), a = (u : Int) → u < 2 → (i : Int) < xm h 199 (3 + u) → xm h 199 (3 + u) ≤ 6 → l ≤ 6 → (∀ k, k < l → 1 ≤ f k ∧ f k ≤ 26) → xm h 200 (12 + 6 * u + i) = nm27 f l → f_X12_letter 173 a b c h = some (if k < l then f k else 0) := by
      intro u f l eu hu hi h6 hl hf en
      unfold f_X12_letter
      rw [s_X12_isIn, if_neg (by omega)]
      refine (bnd (v := (1 : Int)) rfl).trans ?_
      rw [if_neg (by decide)]
      refine (bnd (xgf_eq (a := 173) (ok_173 S) (pt_173_34 S))).trans ?_
      rw [w32_id (z := 3 + a) (by omega) (by omega)]
      refine (bnd (v := xm h 199 (3 + u)) (by unfold xal; rw [if_pos (ia_199 S (by omega) (by omega)), show (3 + a).toNat = 3 + u by omega]; rfl)).trans ?_
      rw [w32_id (z := xm h 199 (3 + u) - 1) (by omega) (by omega), s_X12_isIn, if_neg (by omega)]
      refine (bnd (v := (1 : Int)) rfl).trans ?_
      rw [if_neg (by decide), s_X12_isIn, if_neg (by omega)]
      refine (bnd (v := (1 : Int)) rfl).trans ?_
      rw [if_neg (by decide)]
      refine (bnd (xgf_eq (a := 173) (ok_173 S) (pt_173_35 S))).trans ?_
      rw [w32_id (z := 6 * a) (by omega) (by omega), w32_id (z := 12 + 6 * a) (by omega) (by omega), w32_id (z := 12 + 6 * a + b) (by omega) (by omega)]
      refine (bnd (v := nm27 f l) (by unfold xal; rw [if_pos (ia_200 S (by omega) (by omega)), show (12 + 6 * a + b).toNat = 12 + 6 * u + i by omega]; exact congrArg some en)).trans ?_
      rw [ek]
      exact nm27_at _ hl hf k
    have Cl : ∀ (f : Nat → Int) (l : Nat) (v : Int), l ≤ 6 → (∀ k, k < l → 1 ≤ f k ∧ f k ≤ 26) → v = nm5 f l → f_X11_letterOf v c h = some (if k < l then f k else 0) := by
      intro f l v hl hf ev
      unfold f_X11_letterOf
      rw [ev, ek, nm5_at hl (by omega) hf]
    by_cases a0 : a = 0
    · obtain ⟨f, l, l1, l2, l3, l4, l5⟩ := rc_hn C (i := i) (by omega)
      refine ⟨_, ?_, M 0 f l (by omega) (by omega) (by show (i : Int) < xm h 199 3; omega) (by show xm h 199 3 ≤ 6; omega) l2 l3 (by rw [← l5])⟩
      unfold f_X11_letter
      rw [if_neg (by omega), if_pos (by omega), if_pos a0]
      refine (bnd (v := (1 : Int)) (by unfold xrc; rw [if_pos (ok_0 S), s_X11_isHeld S C b, if_pos (by omega)])).trans ?_
      rw [if_neg (by decide)]
      refine (bnd (xgf_eq (a := 0) (ok_0 S) (rc_s C))).trans ?_
      refine (bnd (xgf_eq C.2.1.ok (cs_p5 C.2.1))).trans ?_
      refine (bnd (v := xm h (s + 1) i) (by unfold xal; rw [if_pos (cs_ia1 C.2.1 (by omega) (by omega)), ei]; rfl)).trans ?_
      exact (bnd (Cl f l _ l2 l3 l4)).trans rfl
    · obtain ⟨f, l, l1, l2, l3, l4, l5⟩ := rc_on C (i := i) (by omega)
      refine ⟨_, ?_, M 1 f l (by omega) (by omega) (by show (i : Int) < xm h 199 4; omega) (by show xm h 199 4 ≤ 6; omega) l2 l3 (by rw [← l5])⟩
      unfold f_X11_letter
      rw [if_neg (by omega), if_pos (by omega), if_neg a0]
      unfold f_X11_letter_J38
      rw [if_pos (by omega)]
      refine (bnd (v := (1 : Int)) (by unfold xrc; rw [if_pos (ok_0 S), s_X11_isHolder S C b, if_pos (by omega)])).trans ?_
      rw [if_neg (by decide)]
      refine (bnd (xgf_eq (a := 0) (ok_0 S) (rc_s C))).trans ?_
      refine (bnd (xgf_eq C.2.1.ok (cs_p6 C.2.1))).trans ?_
      refine (bnd (v := xm h (s + 2) i) (by unfold xal; rw [if_pos (cs_ia2 C.2.1 (by omega) (by omega)), ei]; rfl)).trans ?_
      exact (bnd (Cl f l _ l2 l3 l4)).trans rfl
