/-! ===== the class's own state of a new case ===== -/
theorem cs_sto {h : xa_H} {S : Nat} (C : CS h S) : StO h (S + 7) := by
  obtain ⟨c1, c2, c3, c4, c5, c6⟩ := C
  have k7 : kd0 14 = (19, 7) ∧ kd0 15 = (0, 6) ∧ kd0 16 = (0, 6) ∧ kd0 17 = (0, 6) ∧ kd0 18 = (0, 36) ∧ kd0 19 = (0, 30) := by decide +kernel
  exact ⟨by omega, (c3 7 (by omega)).trans k7.1, (c3 8 (by omega)).trans k7.2.1, (c3 9 (by omega)).trans k7.2.2.1, (c3 10 (by omega)).trans k7.2.2.2.1, (c3 11 (by omega)).trans k7.2.2.2.2.1, (c3 12 (by omega)).trans k7.2.2.2.2.2, c6 0 (by omega), c6 1 (by omega), c6 2 (by omega), c6 3 (by omega), c6 4 (by omega)⟩
/-- the night before the first: the class's now is the case's start -/
theorem t_copyStart {h : xa_H} {S : Nat} (Sh : SH h) (C : CS h S) (hS : 249 ≤ S) : f_X9_copyFrom 20 ((S + 7 : Nat) : Int) h = some (xcst h 20 (S + 7)) := s_copyFrom (a := 20) (sh_now Sh) (cs_sto C) (Or.inl (by omega))
