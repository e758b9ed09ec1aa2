/-! ===== what is told comes to stand: the loops over several arrays ===== -/
def cpT (A : xa_H) : Nat → xa_H
  | 0 => A
  | i + 1 => xset (xset (xset (cpT A i) 201 (6 + i) (xm A 201 i)) 202 (6 + i) (xm A 202 i)) 207 (6 + i) (xm A 207 i)
theorem cpT_m {A : xa_H} {q k : Nat} : ∀ n, xm (cpT A n) q k = if (q = 201 ∨ q = 202 ∨ q = 207) ∧ 6 ≤ k ∧ k < 6 + n then xm A q (k - 6) else xm A q k
  | 0 => by rw [if_neg (by omega)]; rfl
  | n + 1 => by
    show xm (xset (xset (xset (cpT A n) 201 (6 + n) (xm A 201 n)) 202 (6 + n) (xm A 202 n)) 207 (6 + n) (xm A 207 n)) q k = _
    rw [xm_xset, xm_xset, xm_xset, cpT_m n]
    by_cases z7 : q = 207 ∧ k = 6 + n
    · rw [if_pos z7, if_pos (by omega), show k - 6 = n by omega, z7.1]
    rw [if_neg z7]
    by_cases z2 : q = 202 ∧ k = 6 + n
    · rw [if_pos z2, if_pos (by omega), show k - 6 = n by omega, z2.1]
    rw [if_neg z2]
    by_cases z1 : q = 201 ∧ k = 6 + n
    · rw [if_pos z1, if_pos (by omega), show k - 6 = n by omega, z1.1]
    rw [if_neg z1]
    by_cases y : (q = 201 ∨ q = 202 ∨ q = 207) ∧ 6 ≤ k ∧ k < 6 + n
    · rw [if_pos y, if_pos (by omega)]
    · rw [if_neg y, if_neg (by omega)]
theorem cpT_S {A : xa_H} (S : SH A) : ∀ n, SH (cpT A n)
  | 0 => S
  | n + 1 => (((cpT_S S n).set (fixd_of (by decide +kernel))).set (fixd_of (by decide +kernel))).set (fixd_of (by decide +kernel))
theorem r_L58 {g : xa_H} (S : SH g) : xit (fun s => f_X12_stands_L58 173 s.1 s.2) xFU (0, g) = some (cpT g 6) :=
  xit_seq (f := fun s : Int × xa_H => f_X12_stands_L58 173 s.1 s.2) (fun i => ((i : Int), cpT g i)) 6 _ (fun i hi => by
    obtain ⟨H0, e0⟩ : ∃ z, z = cpT g i := ⟨_, rfl⟩
    obtain ⟨H1, e1⟩ : ∃ z, z = xset H0 201 (6 + i) (xm g 201 i) := ⟨_, rfl⟩
    obtain ⟨H2, e2⟩ : ∃ z, z = xset H1 202 (6 + i) (xm g 202 i) := ⟨_, rfl⟩
    have S0 : SH H0 := by rw [e0]; exact cpT_S S i
    have S1 : SH H1 := by rw [e1]; exact S0.set (fixd_of (by decide +kernel))
    have S2 : SH H2 := by rw [e2]; exact S1.set (fixd_of (by decide +kernel))
    have v1 : xm H0 201 i = xm g 201 i := by rw [e0, cpT_m, if_neg (by omega)]
    have v2 : xm H1 202 i = xm g 202 i := by rw [e1, xm_xset, if_neg (by omega), e0, cpT_m, if_neg (by omega)]
    have v3 : xm H2 207 i = xm g 207 i := by rw [e2, xm_xset, if_neg (by omega), e1, xm_xset, if_neg (by omega), e0, cpT_m, if_neg (by omega)]
    have a1 : xia H0 0 201 (i : Int) = true := ia_201 S0 (by omega) (by omega)
    have b1 : xia H0 0 201 ((6 + i : Nat) : Int) = true := ia_201 S0 (by omega) (by omega)
    have a2 : xia H1 0 202 (i : Int) = true := ia_202 S1 (by omega) (by omega)
    have b2 : xia H1 0 202 ((6 + i : Nat) : Int) = true := ia_202 S1 (by omega) (by omega)
    have a3 : xia H2 0 207 (i : Int) = true := ia_207 S2 (by omega) (by omega)
    have b3 : xia H2 0 207 ((6 + i : Nat) : Int) = true := ia_207 S2 (by omega) (by omega)
    have lt : (i : Int) < 6 := by omega
    have w1 : w32 (6 + (i : Int)) = ((6 + i : Nat) : Int) := by rw [w32_id (by omega) (by omega)]; omega
    show f_X12_stands_L58 173 (i : Int) (cpT g i) = _
    rw [← e0]
    unfold f_X12_stands_L58
    rw [if_pos lt, gM S0, gM S0, pt_173_36 S0]
    refine (bnd (xal_eq (a := 201) a1 v1)).trans ?_
    rw [w1]
    refine (bnd (xas_eq (a := 201) b1)).trans ?_
    rw [← e1, gM S1, gM S1, pt_173_37 S1]
    refine (bnd (xal_eq (a := 202) a2 v2)).trans ?_
    refine (bnd (xas_eq (a := 202) b2)).trans ?_
    rw [← e2, gM S2, gM S2, pt_173_42 S2]
    refine (bnd (xal_eq (a := 207) a3 v3)).trans ?_
    refine (bnd (xas_eq (a := 207) b3)).trans ?_
    clear w1
    rw [w32_id (by omega) (by omega), e2, e1, e0]
    rfl) (by
    show f_X12_stands_L58 173 6 (cpT g 6) = _
    unfold f_X12_stands_L58
    rw [if_neg (by omega)]) (by decide)
def cpD (A : xa_H) : Nat → xa_H
  | 0 => A
  | i + 1 => xset (xset (cpD A i) 209 (2 + i) (xm A 209 i)) 210 (2 + i) (xm A 210 i)
theorem cpD_m {A : xa_H} {q k : Nat} : ∀ n, xm (cpD A n) q k = if (q = 209 ∨ q = 210) ∧ 2 ≤ k ∧ k < 2 + n then xm A q (k - 2) else xm A q k
  | 0 => by rw [if_neg (by omega)]; rfl
  | n + 1 => by
    show xm (xset (xset (cpD A n) 209 (2 + n) (xm A 209 n)) 210 (2 + n) (xm A 210 n)) q k = _
    rw [xm_xset, xm_xset, cpD_m n]
    by_cases z7 : q = 210 ∧ k = 2 + n
    · rw [if_pos z7, if_pos (by omega), show k - 2 = n by omega, z7.1]
    rw [if_neg z7]
    by_cases z2 : q = 209 ∧ k = 2 + n
    · rw [if_pos z2, if_pos (by omega), show k - 2 = n by omega, z2.1]
    rw [if_neg z2]
    by_cases y : (q = 209 ∨ q = 210) ∧ 2 ≤ k ∧ k < 2 + n
    · rw [if_pos y, if_pos (by omega)]
    · rw [if_neg y, if_neg (by omega)]
theorem cpD_S {A : xa_H} (S : SH A) : ∀ n, SH (cpD A n)
  | 0 => S
  | n + 1 => ((cpD_S S n).set (fixd_of (by decide +kernel))).set (fixd_of (by decide +kernel))
theorem r_L158 {g : xa_H} (S : SH g) : xit (fun s => f_X12_stands_L158 173 s.1 s.2) xFU (0, g) = some (cpD g 2) :=
  xit_seq (f := fun s : Int × xa_H => f_X12_stands_L158 173 s.1 s.2) (fun i => ((i : Int), cpD g i)) 2 _ (fun i hi => by
    obtain ⟨H0, e0⟩ : ∃ z, z = cpD g i := ⟨_, rfl⟩
    obtain ⟨H1, e1⟩ : ∃ z, z = xset H0 209 (2 + i) (xm g 209 i) := ⟨_, rfl⟩
    have S0 : SH H0 := by rw [e0]; exact cpD_S S i
    have S1 : SH H1 := by rw [e1]; exact S0.set (fixd_of (by decide +kernel))
    have v1 : xm H0 209 i = xm g 209 i := by rw [e0, cpD_m, if_neg (by omega)]
    have v2 : xm H1 210 i = xm g 210 i := by rw [e1, xm_xset, if_neg (by omega), e0, cpD_m, if_neg (by omega)]
    have a1 : xia H0 0 209 (i : Int) = true := ia_209 S0 (by omega) (by omega)
    have b1 : xia H0 0 209 ((2 + i : Nat) : Int) = true := ia_209 S0 (by omega) (by omega)
    have a2 : xia H1 0 210 (i : Int) = true := ia_210 S1 (by omega) (by omega)
    have b2 : xia H1 0 210 ((2 + i : Nat) : Int) = true := ia_210 S1 (by omega) (by omega)
    have lt : (i : Int) < 2 := by omega
    have w1 : w32 (2 + (i : Int)) = ((2 + i : Nat) : Int) := by rw [w32_id (by omega) (by omega)]; omega
    show f_X12_stands_L158 173 (i : Int) (cpD g i) = _
    rw [← e0]
    unfold f_X12_stands_L158
    rw [if_pos lt, gM S0, gM S0, pt_173_44 S0]
    refine (bnd (xal_eq (a := 209) a1 v1)).trans ?_
    rw [w1]
    refine (bnd (xas_eq (a := 209) b1)).trans ?_
    rw [← e1, gM S1, gM S1, pt_173_45 S1]
    refine (bnd (xal_eq (a := 210) a2 v2)).trans ?_
    refine (bnd (xas_eq (a := 210) b2)).trans ?_
    clear w1
    rw [w32_id (by omega) (by omega), e1, e0]
    rfl) (by
    show f_X12_stands_L158 173 2 (cpD g 2) = _
    unfold f_X12_stands_L158
    rw [if_neg (by omega)]) (by decide)
