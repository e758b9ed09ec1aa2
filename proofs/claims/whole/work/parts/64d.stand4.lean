/-! ===== nothing to undo yet ===== -/
theorem rh_of {H : xa_H} (a : 0 ≤ xm H 26 1 ∧ xm H 26 1 < 20) (b : xm H 26 1 = xm H 173 75) (c : xm H 26 2 = 0) (d : xm H 173 74 = 0) : Rh H := by
  refine ⟨a, by omega, b, by omega, fun q hq h => ?_⟩
  have := Int.emod_nonneg (xm H 26 1 + 19 - (q : Int)) (show (20 : Int) ≠ 0 by decide)
  omega
theorem rj_of {H : xa_H} (a : xm H 173 60 = 0) (b : xm H 148 1 = 0) : Rj H := Or.inl ⟨a, b⟩
