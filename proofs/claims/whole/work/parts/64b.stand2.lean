/-! ===== the case that was told, standing ===== -/
theorem rc_of {h g H : xa_H} {S : Nat} (C : CD h g S) (h5 : xm H 0 5 = (S : Int)) (hn : xn h ≤ xn H) (hk : ∀ a, a < xn h → xk H a = xk h a) (e : ∀ a k, S ≤ a → a < S + 13 → xm H a k = xm h a k)
    (e9 : ∀ k, k < 3 → xm H 199 (3 + k) = xm g 199 k) (e8 : xm H 208 1 = xm g 208 0) (e6 : ∀ k, k < 36 → xm H 206 (36 + k) = xm g 206 k) (eT : ∀ a k, (a = 201 ∨ a = 202 ∨ a = 207) → k < 6 → xm H a (6 + k) = xm g a k) (eN : ∀ k, k < 12 → xm H 200 (12 + k) = xm g 200 k) : Rc H S := by
  obtain ⟨⟨a1, a2, a3⟩, a4, a5, a6, a7, a8, a9, a10, a11, a12, a13, a14, a15, a16, a17, a18, -⟩ := C
  have n3 := e9 0 (by decide)
  have n4 := e9 1 (by decide)
  have n5 := e9 2 (by decide)
  simp only [Nat.add_zero, Nat.reduceAdd] at n3 n4 n5
  have ee := fun j k (hj : j < 13) => e (S + j) k (by omega) (by omega)
  have e0 := fun k => e S k (by omega) (by omega)
  refine ⟨h5, a2.mv hn hk e, by rw [n3]; exact a4, by rw [n4]; exact a5, by rw [e8]; exact a7, by rw [e0, n3]; exact a8, by rw [e0, n4]; exact a9, by rw [e0, n5]; exact a10, by rw [e0, e8]; exact a11, fun i hi => ?_, fun i hi => ?_, fun i hi => ?_, fun i hi => ?_, fun i j hi hj => ?_, fun i hi => ?_, fun i hi => ?_⟩
  · rw [n3] at hi
    rw [ee 3 i (by decide), eT 201 i (by omega) (by omega)]
    exact a12 i hi
  · rw [n3] at hi
    rw [ee 4 i (by decide), eT 202 i (by omega) (by omega), n3]
    exact a13 i (by omega)
  · rw [ee 5 i (by decide), e6 i hi]
    exact a14 i hi
  · rw [ee 6 i (by decide), eT 207 i (by omega) hi]
    exact a15 i hi
  · rw [eT 207 i (by omega) hi, eT 207 j (by omega) hj]
    exact a16 i j hi hj
  · rw [n3] at hi
    rw [ee 1 i (by decide), eN i (by omega)]
    exact a17 i hi
  · rw [n4] at hi
    rw [ee 2 i (by decide), show 18 + i = 12 + (6 + i) by omega, eN (6 + i) (by omega)]
    exact a18 i hi
