/-! ===== a case, told to both ===== -/
theorem cd_0 {h g : xa_H} {S : Nat} (C : CI h S) (R : RI g) : CD h g S := by
  obtain ⟨c0, c1, c2, c3, c4, c5, c6, c7⟩ := C
  obtain ⟨r1, r2, r3, r4, r5, r6, r7, r8, r9⟩ := R
  have q0 := r1 0 (by decide)
  have q1 := r1 1 (by decide)
  have q2 := r1 2 (by decide)
  have d1 := c1 1 (by decide)
  have d2 := c1 2 (by decide)
  have d3 := c1 3 (by decide)
  have d4 := c1 4 (by decide)
  refine ⟨c0, by omega, by omega, by omega, by omega, by omega, by omega, by omega, by omega, fun i hi => by omega, fun i hi => ?_, fun i hi => ?_, fun i hi => ?_, fun i j hi hj => ?_, fun i hi => by omega, fun i hi => by omega, fun i hi => by omega, fun i j hi => by omega, fun i _ hi => ⟨c4 8 i (by decide) (by decide) (by decide) (by decide), c4 9 i (by decide) (by decide) (by decide) (by decide), c4 10 i (by decide) (by decide) (by decide) (by decide)⟩, fun i hi => c4 11 i (by decide) (by decide) (by decide) (by decide), c6, c7⟩
  · have := c5 i hi
    have := r4 i hi
    omega
  · have := c4 5 i (by decide) (by decide) (by decide) (by decide)
    have := r2 i hi
    omega
  · have := c4 6 i (by decide) (by decide) (by decide) (by decide)
    have := r3 i hi
    omega
  · rw [r3 i hi, r3 j hj]
    have a : ∀ z : Nat, z < 6 → ¬ xand (xshr 0 (z : Int)) 1 = 1 := by decide +kernel
    exact ⟨fun q => absurd q (a j hj), fun q => absurd q (a i hi)⟩
theorem cf_0 {h g : xa_H} {S p : Nat} (C : CI h S) (R : RI g) : CF h g S (S + 13) (S + 16) p := by
  obtain ⟨c0, c1, c2, c3, c4, c5, c6, c7⟩ := C
  obtain ⟨r1, r2, r3, r4, r5, r6, r7, r8, r9⟩ := R
  have := c0.1
  exact ⟨Or.inl ⟨c2, r6⟩, Or.inl ⟨c3, r7⟩, by omega, by omega, by omega, by omega, fun _ => by omega, fun _ => by omega⟩
theorem GX.refl (S : Nat) (h : xa_H) : GX S h h := ⟨⟨Nat.le_refl _, Nat.le_refl _⟩, fun _ _ => rfl, fun _ _ _ _ _ _ _ => rfl⟩
/-- both read the same text: they come to the same case, or the same fault -/
theorem t_told {h g : xa_H} (S0 : SH h) (S1 : SH g) {T : Nat → Int} {L : Nat} (hT : ∀ k, k < 1600 → xm h 1 k = sx8 (T k) ∧ 0 ≤ T k ∧ T k < 256) (hL : L ≤ 1600) (gT : xm g 174 = T) (g1 : xm g 173 1 = (L : Int)) :
    ∃ h5 g5 v h' g', f_X1_readCase 6 (L : Int) h = some (v, h') ∧ f_X12_open 173 g = f_X12_open_J155 173 g' ∧ Lz T L (xn h) h5 g5 v h' g' ∧ (xn h5 = xn h + 13 ∧ xz h5 = xz h + 171 ∧ (∀ a, a < xn h → xk h5 a = xk h a) ∧ ∀ a k, a < xn h → DB6 a k = false → xm h5 a k = xm h a k) ∧ xm g5 173 1 = 0 ∧ Fx DO g g5 ∧ fcn g5 = 0 := by
  obtain ⟨h5, a1, a2, a3, a4, a5, a6, a7⟩ := c_begin S0 hT hL
  obtain ⟨g5, b1, b2, b3, b4, b5⟩ := r_begin S1 gT g1 hL
  have A : Lq T L (xn h) h5 g5 0 h5 g5 (tk_sk T L 0) false := ⟨⟨a2, b2⟩, cd_0 a3 b3, ⟨_, _, cf_0 a3 b3⟩, ⟨b3.2.2.2.2.2.2.2.2, by decide⟩, GX.refl _ _, Fx.refl _ _, rfl, Nat.le_refl _⟩
  obtain ⟨v, h', g', c1, c2, c3⟩ := t_loop 80 0 rfl h5 g5 _ _ A xFU xFU (by unfold xFU; omega) (by unfold xFU; omega)
  have f0 : fcn g5 = 0 := by
    unfold fcn
    rw [if_pos b3.2.2.2.2.2.1, if_pos b3.2.2.2.2.2.2.1]
  refine ⟨h5, g5, v, h', g', ?_, ?_, c3, ⟨a4, a5, a6, a7⟩, b4, b5, f0⟩
  · rw [a1]
    refine (bnd c1).trans ?_
    rfl
  · rw [b1]
    exact bnd c2
