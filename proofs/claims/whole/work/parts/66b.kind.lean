/-! ===== which question ===== -/
theorem qk_J {g : xa_H} (S : SH g) {z : Int} (h : z ≠ 5) : f_X12_qKind_J76 173 z g = some (z, g) := by
  unfold f_X12_qKind_J76
  rw [if_neg h]
theorem r_kind {T : Nat → Int} {L : Nat} {g : xa_H} {p : Nat} {b : Bool} (R : Rx T L g p b) :
    ∃ g', Fx DB g g' ∧ ((∃ k : Nat, k < 6 ∧ tk_w T L p b = ((23 + k : Nat) : Int) ∧ f_X12_qKind 173 g = some ((k : Int), g') ∧ Rx T L g' (tk_n T L p b).1 (tk_n T L p b).2) ∨ ((∀ k : Nat, k < 6 → tk_w T L p b ≠ ((23 + k : Nat) : Int)) ∧ f_X12_qKind 173 g = some (5, g') ∧ Bx g' (1, p))) := by
  have S := R.1
  have R1 := rx_at R
  have D1 : Fx DB g (xset g 173 2 (p : Int)) := rx_fx
  obtain ⟨g1, e1⟩ : ∃ z, z = xset g 173 2 (p : Int) := ⟨_, rfl⟩
  rw [← e1] at R1 D1
  have S1 := R1.1
  have same : xset g1 173 2 (p : Int) = g1 := by rw [e1, xset_xset]
  unfold f_X12_qKind
  rw [gM S, pt_173_77 S, xM S]
  rcases s_takes R (A := 225) (w := 23) (by decide +kernel) (by omega) with ⟨q, h', e, R2, F2⟩ | ⟨q0, e⟩
  · refine ⟨h', F2, Or.inl ⟨0, by omega, q, ?_, R2⟩⟩
    refine (bnd e).trans ?_
    rw [if_neg one_ne, qk_J R2.1 (by decide)]
    rfl
  rw [← e1] at e
  rcases s_takes R1 (A := 226) (w := 24) (by decide +kernel) (by omega) with ⟨q, h', f, R2, F2⟩ | ⟨q1, f⟩
  · refine ⟨h', D1.tr F2, Or.inl ⟨1, by omega, q, ?_, R2⟩⟩
    refine (bnd e).trans ?_
    rw [if_pos rfl, gM S1, pt_173_78 S1, xM S1]
    refine (bnd f).trans ?_
    rw [if_neg one_ne, qk_J R2.1 (by decide)]
    rfl
  rw [same] at f
  rcases s_takes R1 (A := 227) (w := 25) (by decide +kernel) (by omega) with ⟨q, h', f2, R2, F2⟩ | ⟨q2, f2⟩
  · refine ⟨h', D1.tr F2, Or.inl ⟨2, by omega, q, ?_, R2⟩⟩
    refine (bnd e).trans ?_
    rw [if_pos rfl, gM S1, pt_173_78 S1, xM S1]
    refine (bnd f).trans ?_
    rw [if_pos rfl, gM S1, pt_173_79 S1, xM S1]
    refine (bnd f2).trans ?_
    rw [if_neg one_ne, qk_J R2.1 (by decide)]
    rfl
  rw [same] at f2
  rcases s_takes R1 (A := 228) (w := 26) (by decide +kernel) (by omega) with ⟨q, h', f3, R2, F2⟩ | ⟨q3, f3⟩
  · refine ⟨h', D1.tr F2, Or.inl ⟨3, by omega, q, ?_, R2⟩⟩
    refine (bnd e).trans ?_
    rw [if_pos rfl, gM S1, pt_173_78 S1, xM S1]
    refine (bnd f).trans ?_
    rw [if_pos rfl, gM S1, pt_173_79 S1, xM S1]
    refine (bnd f2).trans ?_
    rw [if_pos rfl, gM S1, pt_173_80 S1, xM S1]
    refine (bnd f3).trans ?_
    rw [if_neg one_ne, qk_J R2.1 (by decide)]
    rfl
  rw [same] at f3
  have pre : f_X12_qKind 173 g = (xrc g1 12 173 (f_X12_takes 173 229 g1)).bind fun r14 => if r14.1 = 0 then f_X12_qKind_J76 173 5 r14.2 else f_X12_qKind_J76 173 4 r14.2 := by
    unfold f_X12_qKind
    rw [gM S, pt_173_77 S, xM S]
    refine (bnd e).trans ?_
    rw [if_pos rfl, gM S1, pt_173_78 S1, xM S1]
    refine (bnd f).trans ?_
    rw [if_pos rfl, gM S1, pt_173_79 S1, xM S1]
    refine (bnd f2).trans ?_
    rw [if_pos rfl, gM S1, pt_173_80 S1, xM S1]
    refine (bnd f3).trans ?_
    rw [if_pos rfl, gM S1, pt_173_81 S1]
  unfold f_X12_qKind at pre
  rw [gM S, pt_173_77 S, xM S] at pre
  rw [pre, xM S1]
  rcases s_takes R1 (A := 229) (w := 27) (by decide +kernel) (by omega) with ⟨q, h', f4, R2, F2⟩ | ⟨q4, f4⟩
  · refine ⟨h', D1.tr F2, Or.inl ⟨4, by omega, q, ?_, R2⟩⟩
    refine (bnd f4).trans ?_
    rw [if_neg one_ne, qk_J R2.1 (by decide)]
    rfl
  rw [same] at f4
  obtain ⟨g2, a1, a2, a3⟩ := s_asks R1 (A := 230) (w := 28) (by decide +kernel) (by omega)
  have fin : ((f_X12_takes 173 229 g1).bind fun r14 => if r14.1 = 0 then f_X12_qKind_J76 173 5 r14.2 else f_X12_qKind_J76 173 4 r14.2) = some (5, g2) := by
    refine (bnd f4).trans ?_
    rw [if_pos rfl]
    unfold f_X12_qKind_J76
    rw [if_pos rfl, gM S1, pt_173_82 S1, xM S1]
    exact (bnd a1).trans rfl
  refine ⟨g2, D1.tr a2, ?_⟩
  rcases a3 with ⟨q5, R2⟩ | ⟨q5, B⟩
  · exact Or.inl ⟨5, by omega, q5, fin, R2⟩
  · refine Or.inr ⟨fun k hk => ?_, fin, B⟩
    have : k = 0 ∨ k = 1 ∨ k = 2 ∨ k = 3 ∨ k = 4 ∨ k = 5 := by omega
    rcases this with rfl | rfl | rfl | rfl | rfl | rfl
    · exact q0
    · exact q1
    · exact q2
    · exact q3
    · exact q4
    · exact q5
