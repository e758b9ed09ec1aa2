/-! ===== the reference's ends of open ===== -/
theorem r_bad {g : xa_H} {e : Nat × Nat} (B : Bx g e) : f_X12_open_J155 173 g = some (-1, xset (xset (xset g 173 7 (e.1 : Int)) 173 8 (e.2 : Int)) 175 1 (w32 (xm g 175 1 + 1))) := by
  obtain ⟨S, h5, h6, h0⟩ := B
  obtain ⟨A1, e1⟩ : ∃ z, z = xset g 173 7 (e.1 : Int) := ⟨_, rfl⟩
  obtain ⟨A2, e2⟩ : ∃ z, z = xset A1 173 8 (e.2 : Int) := ⟨_, rfl⟩
  have s1 : SH A1 := by rw [e1]; exact S.set (by decide +kernel)
  have s2 : SH A2 := by rw [e2]; exact s1.set (by decide +kernel)
  have v6 : xm A1 173 6 = (e.2 : Int) := by rw [e1, xm_xset, if_neg (by omega)]; exact h6
  have v5 : xm A2 173 5 = (e.1 : Int) := by rw [e2, xm_xset, if_neg (by omega), e1, xm_xset, if_neg (by omega)]; exact h5
  have v1 : xm A2 175 1 = xm g 175 1 := by rw [e2, xm_xset, if_neg (by omega), e1, xm_xset, if_neg (by omega)]
  have i1 : xia A2 0 175 ((1 : Nat) : Int) = true := ia_175 s2 (by omega) (by omega)
  unfold f_X12_open_J155
  rw [gM S, h5, pMf S, ← e1, gM s1, v6, pMf s1, ← e2, gM s2, v5, if_neg (by omega), gM s2, pt_173_9 s2]
  refine (bnd (xal_eq (a := 175) (i := 1) i1 v1)).trans ?_
  exact (bnd (xas_eq (a := 175) (i := 1) i1)).trans rfl
theorem r_good {T : Nat → Int} {L : Nat} {g g' : xa_H} {p : Nat} {b : Bool} (R : Rx T L g p b) (st : f_X12_stands 173 (xset (xset g 173 7 0) 173 8 (-1)) = some g') (S' : SH g') : f_X12_open_J155 173 g = some (xm g' 173 48, g') := by
  have S := R.1
  obtain ⟨A1, e1⟩ : ∃ z, z = xset g 173 7 0 := ⟨_, rfl⟩
  obtain ⟨A2, e2⟩ : ∃ z, z = xset A1 173 8 (-1) := ⟨_, rfl⟩
  have s1 : SH A1 := by rw [e1]; exact S.set (by decide +kernel)
  have s2 : SH A2 := by rw [e2]; exact s1.set (by decide +kernel)
  have v6 : xm A1 173 6 = -1 := by rw [e1, xm_xset, if_neg (by omega)]; exact R.2.2.2.2.1
  have v5 : xm A2 173 5 = 0 := by rw [e2, xm_xset, if_neg (by omega), e1, xm_xset, if_neg (by omega)]; exact R.2.2.2.1
  rw [← e1, ← e2] at st
  unfold f_X12_open_J155
  rw [gM S, R.2.2.2.1, pMf S, ← e1, gM s1, v6, pMf s1, ← e2, gM s2, v5, if_pos rfl, xM s2, st, bbind, gM S']
