/-! ===== the night before the first ===== -/
theorem rn_of {h g H : xa_H} {S n : Nat} (C : CD h g S) (hn : xm g 199 1 = (n : Int)) (c0 : xm H 20 0 = xm h (S + 7) 0) (c6 : xm H 20 6 = xm h (S + 7) 6) (c1 : ∀ k, k < 6 → xm H 21 k = xm h (S + 8) k) (c2 : ∀ k, k < 6 → xm H 22 k = xm h (S + 9) k) (c3 : ∀ k, k < 6 → xm H 23 k = xm h (S + 10) k) (c4 : ∀ k, k < 36 → xm H 24 k = xm h (S + 11) k)
    (r1 : ∀ i, i < n → xm H 212 (1 + 9 * i) = xm g 203 i ∧ xm H 212 (1 + 9 * i + 1) = xm g 204 i ∧ xm H 212 (1 + 9 * i + 2) = xm g 205 i) (r0 : ∀ k, k < 176 → (∀ i, i < n → k ≠ 1 + 9 * i ∧ k ≠ 1 + 9 * i + 1 ∧ k ≠ 1 + 9 * i + 2) → xm H 212 k = 0)
    (n3 : xm H 199 3 = xm g 199 0) (n4 : xm H 199 4 = xm g 199 1) : Rn H := by
  obtain ⟨-, a4, a5, -, -, -, -, -, -, -, -, -, -, -, -, -, a19, a20, a21, a22, a23, a24⟩ := C
  have z0 : xm H 212 0 = 0 := r0 0 (by omega) (fun i _ => by omega)
  have z55 : xm H 212 55 = 0 := r0 55 (by omega) (fun i hi => by omega)
  have sm : ∀ i, i < 6 → xm H 21 i = xm H 212 (1 + 9 * i) ∧ xm H 22 i = xm H 212 (1 + 9 * i + 1) ∧ xm H 23 i = xm H 212 (1 + 9 * i + 2) := fun i hi => by
    rw [c1 i hi, c2 i hi, c3 i hi]
    by_cases q : i < n
    · obtain ⟨x1, x2, x3⟩ := r1 i q
      obtain ⟨⟨y1, -⟩, ⟨y2, -⟩, y3, -⟩ := a19 i (by omega)
      exact ⟨by omega, by omega, by omega⟩
    · obtain ⟨y1, y2, y3⟩ := a21 i (by omega) hi
      exact ⟨y1.trans (r0 _ (by omega) (fun j hj => by omega)).symm, y2.trans (r0 _ (by omega) (fun j hj => by omega)).symm, y3.trans (r0 _ (by omega) (fun j hj => by omega)).symm⟩
  have vl : ∀ i j, i < 6 → j < 6 → xm H 212 (1 + 9 * i + 3 + j) = 0 := fun i j hi hj => r0 _ (by omega) (fun q hq => by omega)
  unfold Rn RSt RSt2 VS
  simp only [Nat.zero_add]
  refine ⟨⟨by rw [c0, a23, z0], fun i hi => (sm i hi).1, fun i hi => (sm i hi).2.1, fun i hi => (sm i hi).2.2, fun i j hi hj => ?_, by rw [c6, a24, z55], fun k hk => by omega⟩, ⟨by omega, by omega⟩, fun i hi => ?_, fun i hi => ?_, fun i hi => ?_, fun i j hi hj => ?_, fun i j hi hj hij => ?_, ⟨by omega, by omega⟩, fun k hk => by omega⟩
  · rw [c4 _ (by omega), a22 _ (by omega), vl i j hi hj]
  · obtain ⟨x1, -⟩ := r1 i (by omega)
    obtain ⟨⟨-, y1⟩, -⟩ := a19 i (by omega)
    omega
  · obtain ⟨-, x1, -⟩ := r1 i (by omega)
    obtain ⟨-, ⟨-, y1⟩, -⟩ := a19 i (by omega)
    omega
  · obtain ⟨-, -, x1⟩ := r1 i (by omega)
    obtain ⟨-, -, -, y1⟩ := a19 i (by omega)
    omega
  · rw [vl i j (by omega) (by omega)]
    omega
  · obtain ⟨x1, -⟩ := r1 i (by omega)
    obtain ⟨x2, -⟩ := r1 j (by omega)
    exact a20 i j (by omega) (by omega) (by omega)
