/-! ===== what was told, standing ===== -/
theorem fo_of {h g H : xa_H} {S w F : Nat} (o : FOt h g S w F) {l : Nat} (hl : xm g 173 47 = (l : Int)) (h16 : l ≤ 1600) (hn : xn h ≤ xn H) (hk : ∀ a, a < xn h → xk H a = xk h a) (eS : xm H S (11 + w) = xm h S (11 + w)) (eF : ∀ a k, a = F ∨ a = F + 1 → S + 13 ≤ a → a < xn h → xm H a k = xm h a k)
    (e9 : xm H 209 (2 + w) = xm g 209 w) (e10 : xm H 210 (2 + w) = xm g 210 w) (e11 : ∀ k, k < l → xm H 211 (1600 + k) = xm g 211 k) : RFo H S w F := by
  rcases o with ⟨o1, o2⟩ | ⟨o1, o2, m, a, o3, o4, o5, o6, o7, o8⟩
  · exact Or.inl ⟨eS.trans o1, e9.trans o2⟩
  · have f3 := o3.2.1
    refine Or.inr ⟨eS.trans o1, o2, m, a, o3.mv hn hk (fun k => eF F k (Or.inl rfl) o2 (by omega)), e9.trans o4, e10.trans o5, by omega, fun i hi => ?_, ?_⟩
    · rw [eF (F + 1) i (Or.inr rfl) (by omega) (by omega), show 1600 + a + i = 1600 + (a + i) by omega, e11 (a + i) (by omega)]
      exact o7 i hi
    · rw [← o8]
      exact trun_congr _ _ (fun i hi => by rw [show 1600 + a + i = 1600 + (a + i) by omega]; exact e11 (a + i) (by omega))
