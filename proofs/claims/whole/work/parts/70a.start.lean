/-! ===== both objects new ===== -/
def st0 : Option xa_H := (xnO h00 11 19).bind fun h1 => (f_X11_init 0 h1).bind fun r2 => (xnO r2 12 109).bind fun h3 => f_X12_init 173 h3
def hS : xa_H := st0.getD h00
set_option maxRecDepth 100000 in
theorem st0_is : st0.isSome = true := by decide +kernel
theorem st0_some : st0 = some hS := by
  unfold hS
  have := st0_is
  cases h : st0 with
  | none => rw [h] at this; cases this
  | some x => rfl
set_option maxRecDepth 100000 in
theorem hS_n : xn hS = 249 ∧ xz hS = 67377 := by decide +kernel
set_option maxRecDepth 100000 in
theorem hS_k : ∀ a, a < 249 → xk hS a = kd0 a := by decide +kernel
set_option maxRecDepth 100000 in
theorem hS_p : ∀ t ∈ pl0, xm hS t.1 t.2.1 = t.2.2 := by decide +kernel
theorem hS_S : SH hS := ⟨by rw [hS_n.1]; exact Nat.le_refl _, hS_k, hS_p⟩
set_option maxRecDepth 100000 in
theorem hS_z1 : xm hS 1 = fun _ => 0 := rfl
set_option maxRecDepth 100000 in
theorem hS_z174 : xm hS 174 = fun _ => 0 := rfl
def z0l : List (Nat × Nat × Int) := [(0, 1, 0), (173, 1, 0), (2, 9, 0), (2, 10, -1), (173, 7, 0), (173, 8, -1), (0, 5, 7), (7, 1, 0), (7, 2, 0), (7, 3, 0), (7, 4, 0), (7, 11, -1), (7, 12, -1), (20, 0, 0), (20, 6, 0), (26, 1, 0), (26, 2, 0), (173, 74, 0), (173, 75, 0), (173, 60, 0), (148, 1, 0), (0, 16, 0), (173, 108, 0), (0, 18, 1), (173, 76, 1), (173, 70, 0), (199, 3, 0), (199, 4, 0), (199, 5, 0), (208, 1, 0), (168, 0, -1), (168, 1, -1), (209, 2, -1), (209, 3, -1), (158, 0, 0), (158, 1, 1), (158, 2, 0), (158, 3, 0), (212, 0, 0), (212, 55, 0)]
set_option maxRecDepth 100000 in
theorem hS_c : ∀ t ∈ z0l, xm hS t.1 t.2.1 = t.2.2 := by decide +kernel
theorem hS_at {a k : Nat} {v : Int} (i : Nat) (h : z0l[i]? = some (a, k, v)) : xm hS a k = v := hS_c (a, k, v) (List.mem_of_getElem? h)
set_option maxRecDepth 100000 in
theorem hS_6 : ∀ i, i < 6 → xm hS 172 i = 0 ∧ xm hS 175 i = 0 ∧ xm hS 21 i = 0 ∧ xm hS 22 i = 0 ∧ xm hS 23 i = 0 ∧ xm hS 212 (1 + 9 * i) = 0 ∧ xm hS 212 (1 + 9 * i + 1) = 0 ∧ xm hS 212 (1 + 9 * i + 2) = 0 ∧ xm hS 13 i = 0 ∧ xm hS 207 (6 + i) = 0 := by decide +kernel
set_option maxRecDepth 100000 in
theorem hS_36 : ∀ i, i < 36 → xm hS 12 i = 0 ∧ xm hS 206 (36 + i) = 0 ∧ xm hS 24 i = 0 := by decide +kernel
set_option maxRecDepth 100000 in
theorem hS_met : ∀ i, i < 6 → ∀ j, j < 6 → xm hS 212 (1 + 9 * i + 3 + j) = 0 := by decide +kernel
theorem start_RR : RR hS 7 249 252 249 249 := by
  have S := hS_S
  obtain ⟨n0, z0⟩ := hS_n
  have h93 : xm hS 199 3 = 0 := hS_at 26 rfl
  have h94 : xm hS 199 4 = 0 := hS_at 27 rfl
  have h60 : xm hS 173 60 = 0 := hS_at 19 rfl
  have h12 : xm hS 212 0 = 0 := hS_at 38 rfl
  have h55 : xm hS 212 55 = 0 := hS_at 39 rfl
  have cs : CS hS 7 := by
    refine ⟨Or.inl rfl, by omega, fun j hj => hS_k _ (by omega), fun j hj => ?_, ?_, fun j hj => ?_⟩
    · have : j = 0 ∨ j = 1 ∨ j = 2 ∨ j = 3 ∨ j = 4 ∨ j = 5 := by omega
      rcases this with rfl | rfl | rfl | rfl | rfl | rfl
      · exact hS_p (7, 5, 8) (by decide)
      · exact hS_p (7, 6, 9) (by decide)
      · exact hS_p (7, 7, 10) (by decide)
      · exact hS_p (7, 8, 11) (by decide)
      · exact hS_p (7, 9, 12) (by decide)
      · exact hS_p (7, 10, 13) (by decide)
    · exact hS_p (7, 13, 14) (by decide)
    · have : j = 0 ∨ j = 1 ∨ j = 2 ∨ j = 3 ∨ j = 4 := by omega
      rcases this with rfl | rfl | rfl | rfl | rfl
      · exact hS_p (14, 1, 15) (by decide)
      · exact hS_p (14, 2, 16) (by decide)
      · exact hS_p (14, 3, 17) (by decide)
      · exact hS_p (14, 4, 18) (by decide)
      · exact hS_p (14, 5, 19) (by decide)
  have vs : VS hS 212 0 (xm hS 199 4) (xm hS 199 3) := by
    rw [h93, h94]
    refine ⟨by rw [h12]; decide, fun i hi => absurd hi (by omega), fun i hi => absurd hi (by omega), fun i hi => absurd hi (by omega), fun i j hi => absurd hi (by omega), fun i j hi => absurd hi (by omega), ?_, fun k hk => absurd hk ?_⟩
    · rw [Nat.zero_add, h55]; decide
    · rw [Nat.zero_add, h55]; omega
  have rt : Rt hS := by
    refine ⟨fun k _ => ?_, (hS_at 0 rfl : xm hS 0 1 = 0).trans (hS_at 1 rfl : xm hS 173 1 = 0).symm, ?_, ?_⟩
    · rw [hS_z1, hS_z174]
      exact ⟨Int.le_refl 0, by show (0 : Int) < 256; decide, rfl⟩
    · rw [(hS_at 1 rfl : xm hS 173 1 = 0)]; decide
    · rw [(hS_at 1 rfl : xm hS 173 1 = 0)]; decide
  have rc : Rc hS 7 := by
    refine ⟨hS_at 6 rfl, cs, by rw [h93]; decide, by rw [h94]; decide, by rw [(hS_at 29 rfl : xm hS 208 1 = 0)]; decide, (hS_at 7 rfl : xm hS 7 1 = 0).trans h93.symm, (hS_at 8 rfl : xm hS 7 2 = 0).trans h94.symm, (hS_at 9 rfl : xm hS 7 3 = 0).trans (hS_at 28 rfl : xm hS 199 5 = 0).symm, (hS_at 10 rfl : xm hS 7 4 = 0).trans (hS_at 29 rfl : xm hS 208 1 = 0).symm, fun i hi => absurd hi (by omega), fun i hi => absurd hi (by omega), fun i hi => ?_, fun i hi => ?_, fun i j hi hj => ?_, fun i hi => absurd hi (by omega), fun i hi => absurd hi (by omega)⟩
    · have := hS_36 i hi
      rw [this.1, this.2.1]
      decide
    · have := hS_6 i hi
      rw [this.2.2.2.2.2.2.2.2.1, this.2.2.2.2.2.2.2.2.2]
      decide
    · rw [(hS_6 i hi).2.2.2.2.2.2.2.2.2, (hS_6 j hj).2.2.2.2.2.2.2.2.2]
      have z : ∀ i, i < 6 → xand (xshr 0 ((i : Nat) : Int)) 1 = 0 := by decide +kernel
      rw [z i hi, z j hj]
  have rn : Rn hS := by
    refine ⟨⟨?_, fun i hi => ?_, fun i hi => ?_, fun i hi => ?_, fun i j hi hj => ?_, ?_, fun k hk => absurd hk ?_⟩, vs⟩
    · rw [h12]; exact hS_at 13 rfl
    · have := hS_6 i hi
      rw [Nat.zero_add, this.2.2.2.2.2.1]; exact this.2.2.1
    · have := hS_6 i hi
      rw [Nat.zero_add, this.2.2.2.2.2.2.1]; exact this.2.2.2.1
    · have := hS_6 i hi
      rw [Nat.zero_add, this.2.2.2.2.2.2.2.1]; exact this.2.2.2.2.1
    · rw [Nat.zero_add, hS_met i hi j hj]; exact (hS_36 (i * 6 + j) (by omega)).2.2
    · rw [Nat.zero_add, h55]; exact hS_at 14 rfl
    · rw [Nat.zero_add, h55]; omega
  have e61 : xm hS 26 1 = 0 := hS_at 15 rfl
  have e62 : xm hS 26 2 = 0 := hS_at 16 rfl
  have e74 : xm hS 173 74 = 0 := hS_at 17 rfl
  have e75 : xm hS 173 75 = 0 := hS_at 18 rfl
  have e16 : xm hS 0 16 = 0 := hS_at 21 rfl
  have e18 : xm hS 0 18 = 1 := hS_at 23 rfl
  have e76 : xm hS 173 76 = 1 := hS_at 24 rfl
  refine ⟨S, rt, fun k hk => ?_, ⟨(hS_at 2 rfl : xm hS 2 9 = 0).trans (hS_at 4 rfl : xm hS 173 7 = 0).symm, (hS_at 3 rfl : xm hS 2 10 = -1).trans (hS_at 5 rfl : xm hS 173 8 = -1).symm⟩, rc, ⟨Or.inl ⟨hS_at 11 rfl, hS_at 32 rfl⟩, Or.inl ⟨hS_at 12 rfl, hS_at 33 rfl⟩, Or.inl (by decide), by decide, by decide⟩, rn, ⟨by rw [e61]; decide, by rw [e62]; decide, e61.trans e75.symm, e62.trans e74.symm, fun q hq hl => absurd hl ?_⟩, Or.inl ⟨h60, hS_at 20 rfl⟩, ⟨e16.trans (hS_at 22 rfl : xm hS 173 108 = 0).symm, by rw [e16]; decide, fun k hk => absurd hk ?_⟩, ⟨e18.trans e76.symm, by rw [e76]; decide, by rw [e76]; decide⟩, ⟨Or.inl (hS_at 30 rfl), Or.inl (hS_at 31 rfl), fun y => absurd (hS_at 30 rfl) y, by decide, by decide⟩, ⟨0, 0, 0, by decide, hS_at 25 rfl, hS_at 34 rfl, h94, h93, hS_at 36 rfl, hS_at 37 rfl, fun k hk => absurd hk (by omega), ?_, fun i j hi => absurd hi (by omega)⟩⟩
  · have := hS_6 k hk
    rw [this.1, this.2.1]
  · rw [e61, e62]; omega
  · rw [e16]; omega
  · exact hS_at 35 rfl
