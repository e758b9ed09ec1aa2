/-! ===== what is told comes to stand: the holders, and the whole ===== -/
def hdO (A : xa_H) : Nat → xa_H
  | 0 => A
  | i + 1 => xset (xset (xset (hdO A i) 212 (1 + 9 * i) (xm A 203 i)) 212 (1 + 9 * i + 1) (xm A 204 i)) 212 (1 + 9 * i + 2) (xm A 205 i)
theorem hdO_o {A : xa_H} {q k : Nat} (hq : q ≠ 212) : ∀ n, xm (hdO A n) q k = xm A q k
  | 0 => rfl
  | n + 1 => by
    show xm (xset (xset (xset (hdO A n) 212 (1 + 9 * n) (xm A 203 n)) 212 (1 + 9 * n + 1) (xm A 204 n)) 212 (1 + 9 * n + 2) (xm A 205 n)) q k = _
    rw [xm_xset, if_neg (by omega), xm_xset, if_neg (by omega), xm_xset, if_neg (by omega), hdO_o hq n]
theorem hdO_h {A : xa_H} {i : Nat} : ∀ n, i < n → xm (hdO A n) 212 (1 + 9 * i) = xm A 203 i ∧ xm (hdO A n) 212 (1 + 9 * i + 1) = xm A 204 i ∧ xm (hdO A n) 212 (1 + 9 * i + 2) = xm A 205 i
  | 0, h => by omega
  | n + 1, h => by
    show xm (xset (xset (xset (hdO A n) 212 (1 + 9 * n) (xm A 203 n)) 212 (1 + 9 * n + 1) (xm A 204 n)) 212 (1 + 9 * n + 2) (xm A 205 n)) 212 (1 + 9 * i) = _ ∧ xm (xset (xset (xset (hdO A n) 212 (1 + 9 * n) (xm A 203 n)) 212 (1 + 9 * n + 1) (xm A 204 n)) 212 (1 + 9 * n + 2) (xm A 205 n)) 212 (1 + 9 * i + 1) = _ ∧ xm (xset (xset (xset (hdO A n) 212 (1 + 9 * n) (xm A 203 n)) 212 (1 + 9 * n + 1) (xm A 204 n)) 212 (1 + 9 * n + 2) (xm A 205 n)) 212 (1 + 9 * i + 2) = _
    by_cases z : i = n
    · subst z
      refine ⟨?_, ?_, ?_⟩
      · rw [xm_xset, if_neg (by omega), xm_xset, if_neg (by omega), xm_xset, if_pos (by omega)]
      · rw [xm_xset, if_neg (by omega), xm_xset, if_pos (by omega)]
      · rw [xm_xset, if_pos (by omega)]
    · obtain ⟨h1, h2, h3⟩ := hdO_h (A := A) (i := i) n (by omega)
      refine ⟨?_, ?_, ?_⟩
      · rw [xm_xset, if_neg (by omega), xm_xset, if_neg (by omega), xm_xset, if_neg (by omega)]; exact h1
      · rw [xm_xset, if_neg (by omega), xm_xset, if_neg (by omega), xm_xset, if_neg (by omega)]; exact h2
      · rw [xm_xset, if_neg (by omega), xm_xset, if_neg (by omega), xm_xset, if_neg (by omega)]; exact h3
theorem hdO_z {A : xa_H} {k : Nat} : ∀ n, (∀ i, i < n → k ≠ 1 + 9 * i ∧ k ≠ 1 + 9 * i + 1 ∧ k ≠ 1 + 9 * i + 2) → xm (hdO A n) 212 k = xm A 212 k
  | 0, _ => rfl
  | n + 1, h => by
    have := h n (by omega)
    show xm (xset (xset (xset (hdO A n) 212 (1 + 9 * n) (xm A 203 n)) 212 (1 + 9 * n + 1) (xm A 204 n)) 212 (1 + 9 * n + 2) (xm A 205 n)) 212 k = _
    rw [xm_xset, if_neg (by omega), xm_xset, if_neg (by omega), xm_xset, if_neg (by omega)]
    exact hdO_z n (fun i hi => h i (by omega))
theorem hdO_S {A : xa_H} (S : SH A) : ∀ n, SH (hdO A n)
  | 0 => S
  | n + 1 => (((hdO_S S n).set (fixd_of (by decide +kernel))).set (fixd_of (by decide +kernel))).set (fixd_of (by decide +kernel))
theorem r_L253 {g : xa_H} (S : SH g) {n : Nat} (hn : xm g 199 1 = (n : Int)) (h6 : n ≤ 6) : xit (fun s => f_X12_stands_L253 173 s.1 s.2) xFU (0, g) = some (hdO g n) :=
  xit_seq (f := fun s : Int × xa_H => f_X12_stands_L253 173 s.1 s.2) (fun i => ((i : Int), hdO g i)) n _ (fun i hi => by
    obtain ⟨H0, e0⟩ : ∃ z, z = hdO g i := ⟨_, rfl⟩
    obtain ⟨H1, e1⟩ : ∃ z, z = xset H0 212 (1 + 9 * i) (xm g 203 i) := ⟨_, rfl⟩
    obtain ⟨H2, e2⟩ : ∃ z, z = xset H1 212 (1 + 9 * i + 1) (xm g 204 i) := ⟨_, rfl⟩
    have S0 : SH H0 := by rw [e0]; exact hdO_S S i
    have S1 : SH H1 := by rw [e1]; exact S0.set (fixd_of (by decide +kernel))
    have S2 : SH H2 := by rw [e2]; exact S1.set (fixd_of (by decide +kernel))
    have c : xm H0 199 1 = (n : Int) := by rw [e0, hdO_o (by omega)]; exact hn
    have v1 : xm H0 203 i = xm g 203 i := by rw [e0, hdO_o (by omega)]
    have v2 : xm H1 204 i = xm g 204 i := by rw [e1, xm_xset, if_neg (by omega), e0, hdO_o (by omega)]
    have v3 : xm H2 205 i = xm g 205 i := by rw [e2, xm_xset, if_neg (by omega), e1, xm_xset, if_neg (by omega), e0, hdO_o (by omega)]
    have a0 : xia H0 0 199 ((1 : Nat) : Int) = true := ia_199 S0 (by omega) (by omega)
    have a1 : xia H0 0 203 (i : Int) = true := ia_203 S0 (by omega) (by omega)
    have b1 : xia H0 0 212 ((1 + 9 * i : Nat) : Int) = true := ia_212 S0 (by omega) (by omega)
    have a2 : xia H1 0 204 (i : Int) = true := ia_204 S1 (by omega) (by omega)
    have b2 : xia H1 0 212 ((1 + 9 * i + 1 : Nat) : Int) = true := ia_212 S1 (by omega) (by omega)
    have a3 : xia H2 0 205 (i : Int) = true := ia_205 S2 (by omega) (by omega)
    have b3 : xia H2 0 212 ((1 + 9 * i + 2 : Nat) : Int) = true := ia_212 S2 (by omega) (by omega)
    have lt : (i : Int) < (n : Int) := by omega
    have w0 : w32 (9 * (i : Int)) = ((9 * i : Nat) : Int) := by rw [w32_id (by omega) (by omega)]; omega
    have w1 : w32 (1 + ((9 * i : Nat) : Int)) = ((1 + 9 * i : Nat) : Int) := by clear w0; rw [w32_id (by omega) (by omega)]; omega
    have w2 : w32 (((1 + 9 * i : Nat) : Int) + 1) = ((1 + 9 * i + 1 : Nat) : Int) := by clear w0 w1; rw [w32_id (by omega) (by omega)]; omega
    have w3 : w32 (((1 + 9 * i : Nat) : Int) + 2) = ((1 + 9 * i + 2 : Nat) : Int) := by clear w0 w1 w2; rw [w32_id (by omega) (by omega)]; omega
    have w4 : w32 ((i : Int) + 1) = ((i + 1 : Nat) : Int) := by clear w0 w1 w2 w3; rw [w32_id (by omega) (by omega)]; omega
    show f_X12_stands_L253 173 (i : Int) (hdO g i) = _
    rw [← e0]
    unfold f_X12_stands_L253
    rw [gM S0, pt_173_34 S0]
    refine (bnd (xal_eq (a := 199) (i := 1) a0 c)).trans ?_
    rw [if_pos lt, gM S0, gM S0, pt_173_50 S0, pt_173_38 S0]
    refine (bnd (xal_eq (a := 203) a1 v1)).trans ?_
    rw [w0, w1, w2, w3, w4]
    refine (bnd (xas_eq (a := 212) b1)).trans ?_
    rw [← e1, gM S1, gM S1, pt_173_50 S1, pt_173_39 S1]
    refine (bnd (xal_eq (a := 204) a2 v2)).trans ?_
    refine (bnd (xas_eq (a := 212) b2)).trans ?_
    rw [← e2, gM S2, gM S2, pt_173_50 S2, pt_173_40 S2]
    refine (bnd (xal_eq (a := 205) a3 v3)).trans ?_
    refine (bnd (xas_eq (a := 212) b3)).trans ?_
    rw [e2, e1, e0]
    rfl) (by
    have S0 := hdO_S S n
    have a0 : xia (hdO g n) 0 199 ((1 : Nat) : Int) = true := ia_199 S0 (by omega) (by omega)
    have c : xm (hdO g n) 199 1 = (n : Int) := by rw [hdO_o (by omega)]; exact hn
    show f_X12_stands_L253 173 (n : Int) (hdO g n) = _
    unfold f_X12_stands_L253
    rw [gM S0, pt_173_34 S0]
    refine (bnd (xal_eq (a := 199) (i := 1) a0 c)).trans ?_
    rw [if_neg (by omega)]) (by omega)
