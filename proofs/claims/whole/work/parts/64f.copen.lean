/-! ===== the class's open ===== -/
theorem g0k {β : Type} {h : xa_H} (S : SH h) (k : Nat) (f : Int → Option β) : (xgf h 11 k 0).bind f = f (xm h 0 k) := by
  rw [bxgf, if_pos (ok_0 S)]
  rfl
theorem x0o {α β : Type} {h : xa_H} (S : SH h) (E : Option α) (f : α → Option β) : (xrc h 11 0 E).bind f = E.bind f := by rw [show xrc h 11 0 E = E from if_pos (ok_0 S)]
theorem c_openB {h H : xa_H} {L : Int} (S0 : SH h) (eL : xm h 0 1 = L) (rd : f_X1_readCase 6 L (xset h 0 1 0) = some (-1, H)) (Sh : SH H) : f_X11_open 0 h = some (-1, xset H 172 1 (w32 (xm H 172 1 + 1))) := by
  have S1 : SH (xset h 0 1 0) := S0.set (by decide +kernel)
  unfold f_X11_open
  rw [g0k S0, pt_0_4 S0, x0o S0, s_takeTape S0, bbind, eL, x16 S1, rd, bbind, xn5_ok (show (-1 : Int) ≠ -5 by decide), if_pos rfl, x0o Sh, s_X11_refuse Sh (by omega) (by omega)]
  rfl
/-- what the class's open changes behind reading -/
def DY (a k : Nat) : Prop := (a = 0 ∧ k = 5) ∨ (20 ≤ a ∧ a ≤ 25) ∨ (a = 26 ∧ k = 2) ∨ (a = 148 ∧ k = 1) ∨ (158 ≤ a ∧ a ≤ 162) ∨ (a = 168 ∧ k < 2)
theorem c_openG {h H : xa_H} {L : Int} {S n m : Nat} (S0 : SH h) (eL : xm h 0 1 = L) (rd : f_X1_readCase 6 L (xset h 0 1 0) = some ((S : Int), H)) (Sh : SH H) (C : CS H S) (hS : 249 ≤ S) (hn : n ≤ 6) (hm : m ≤ 6) (h0 : 0 < m ∨ n = 0) (e2 : xm H S 2 = (n : Int)) (e1 : xm H S 1 = (m : Int)) (ρ : Nat → Int) :
    ∃ H', f_X11_open 0 h = some (xm H S 0, H') ∧ SH H' ∧ xn H' = xn H ∧ xz H' = xz H ∧ xk H' = xk H ∧ (∀ a k, ¬ DY a k → xm H' a k = xm H a k) ∧ xm H' 0 5 = (S : Int) ∧ xm H' 20 0 = xm H (S + 7) 0 ∧ xm H' 20 6 = xm H (S + 7) 6 ∧ (∀ j k, 1 ≤ j → j ≤ 4 → k < slen j → xm H' (20 + j) k = xm H (S + (7 + j)) k) ∧
      xm H' 26 2 = 0 ∧ xm H' 148 1 = 0 ∧ xm H' 158 0 = 0 ∧ xm H' 158 1 = ((frd (okc ρ 0) m n n 0 : Nat) : Int) ∧ xm H' 158 2 = (n : Int) ∧ xm H' 158 3 = (m : Int) ∧ (∀ i x, i < n → x < m → xm H' 162 (i * 6 + x) = ((sumN (cti (okc ρ 0) m n i x) (2 ^ m) : Nat) : Int)) ∧ xm H' 168 0 = -1 ∧ xm H' 168 1 = -1 := by
  have S1 : SH (xset h 0 1 0) := S0.set (by decide +kernel)
  obtain ⟨A1, f1⟩ : ∃ z, z = xset H 0 5 (S : Int) := ⟨_, rfl⟩
  have T1 : SH A1 := by rw [f1]; exact Sh.set (by decide +kernel)
  have m1 : ∀ a k, a ≠ 0 → xm A1 a k = xm H a k := fun a k q => by rw [f1, xm_xset, if_neg (by omega)]
  have C1 : CS A1 S := C.mv (by rw [f1]; exact Nat.le_refl _) (fun a _ => by rw [f1]; rfl) (fun a k q1 q2 => m1 a k (by omega))
  obtain ⟨A2, f2⟩ : ∃ z, z = xcst A1 20 (S + 7) := ⟨_, rfl⟩
  have T2 : SH A2 := by rw [f2]; exact sh_xcst20 T1
  have m2 : ∀ a k, ¬ (20 ≤ a ∧ a ≤ 25) → xm A2 a k = xm A1 a k := fun a k q => by rw [f2, xm_xcst, if_neg (by omega), if_neg (by omega)]
  have C2 : CS A2 S := C1.mv (by rw [f2]; exact Nat.le_refl _) (fun a _ => by rw [f2]; rfl) (fun a k q1 q2 => m2 a k (by omega))
  obtain ⟨A3, f3⟩ : ∃ z, z = xset A2 26 2 0 := ⟨_, rfl⟩
  have T3 : SH A3 := by rw [f3]; exact T2.set (by decide +kernel)
  have m3 : ∀ a k, a ≠ 26 → xm A3 a k = xm A2 a k := fun a k q => by rw [f3, xm_xset, if_neg (by omega)]
  obtain ⟨A4, f4⟩ : ∃ z, z = xset A3 148 1 0 := ⟨_, rfl⟩
  have T4 : SH A4 := by rw [f4]; exact T3.set (by decide +kernel)
  have m4 : ∀ a k, a ≠ 148 → xm A4 a k = xm A3 a k := fun a k q => by rw [f4, xm_xset, if_neg (by omega)]
  have C4 : CS A4 S := C2.mv (by rw [f4, f3]; exact Nat.le_refl _) (fun a _ => by rw [f4, f3]; rfl) (fun a k q1 q2 => by rw [m4 a k (by omega), m3 a k (by omega)])
  have m04 : ∀ a k, a ≠ 0 → ¬ (20 ≤ a ∧ a ≤ 25) → a ≠ 26 → a ≠ 148 → xm A4 a k = xm H a k := fun a k q1 q2 q3 q4 => by rw [m4 a k q4, m3 a k q3, m2 a k q2, m1 a k q1]
  obtain ⟨A5, er, N5, NS5, v0, v1, v2⟩ := s_forget T4 hn hm h0 ρ
  have T5 := NS5.1
  obtain ⟨A6, f6⟩ : ∃ z, z = xset A5 168 0 (-1) := ⟨_, rfl⟩
  have T6 : SH A6 := by rw [f6]; exact T5.set (by decide +kernel)
  obtain ⟨A7, f7⟩ : ∃ z, z = xset A6 168 1 (-1) := ⟨_, rfl⟩
  have T7 : SH A7 := by rw [f7]; exact T6.set (by decide +kernel)
  have m7 : ∀ a k, ¬ (a = 168 ∧ k < 2) → xm A7 a k = xm A5 a k := fun a k q => by rw [f7, xm_xset, if_neg (by omega), f6, xm_xset, if_neg (by omega)]
  have m75 : ∀ a k, ¬ (158 ≤ a ∧ a ≤ 162) → ¬ (a = 168 ∧ k < 2) → xm A7 a k = xm A4 a k := fun a k q1 q2 => by rw [m7 a k q2, N5.2.2.2 a k q1]
  have C7 : CS A7 S := C4.mv (by rw [f7, f6]; show xn A4 ≤ xn A5; rw [N5.1]; exact Nat.le_refl _) (fun a _ => by rw [f7, f6]; show xk A5 a = xk A4 a; rw [N5.2.2.1]) (fun a k q1 q2 => m75 a k (by omega) (by omega))
  refine ⟨A7, ?_, T7, ?_, ?_, ?_, fun a k q => ?_, ?_, ?_, ?_, fun j k j1 j2 hk => ?_, ?_, ?_, ?_, ?_, ?_, ?_, fun i x hi hx => ?_, ?_, ?_⟩
  · unfold f_X11_open
    rw [g0k S0, pt_0_4 S0, x0o S0, s_takeTape S0, bbind, eL, x16 S1, rd, bbind, xn5_ok (by show ((S : Nat) : Int) ≠ -5; omega), if_neg (by show ¬ ((S : Nat) : Int) = -1; omega)]
    refine (bnd (xpf_eq (a := 0) (ok_0 Sh))).trans ?_
    rw [← f1, g0k T1, pt_0_6 T1, gCS C1, cs_p13 C1]
    refine (bnd (v := A2) (by rw [show xrc A1 9 20 (f_X9_copyFrom 20 ((S + 7 : Nat) : Int) A1) = f_X9_copyFrom 20 ((S + 7 : Nat) : Int) A1 from if_pos (ok_20 T1), t_copyStart T1 C1 hS, f2])).trans ?_
    rw [g0k T2, pt_0_7 T2]
    refine (bnd (v := A3) (by
      rw [show xrc A2 4 26 (f_X4_forget 26 A2) = f_X4_forget 26 A2 from if_pos (ok_26 T2)]
      unfold f_X4_forget
      refine (bnd (xpf_eq (a := 26) (ok_26 T2))).trans ?_
      rw [← f3])).trans ?_
    rw [g0k T3, pt_0_8 T3]
    refine (bnd (xpf_eq (a := 148) (ok_148 T3))).trans ?_
    rw [← f4, g0k T4, pt_0_10 T4, gCS C4, gCS C4, m04 S 2 (by omega) (by omega) (by omega) (by omega), m04 S 1 (by omega) (by omega) (by omega) (by omega), e2, e1]
    refine (bnd (v := A5) (by rw [show xrc A4 5 158 (f_X5_forget 158 (n : Int) (m : Int) A4) = f_X5_forget 158 (n : Int) (m : Int) A4 from if_pos (ok_158 T4), er])).trans ?_
    rw [g0k T5, pt_0_12 T5]
    refine (bnd (xas_eq (a := 168) (i := 0) (ia_168 T5 (by omega) (by omega)))).trans ?_
    rw [← f6, g0k T6, pt_0_12 T6]
    refine (bnd (xas_eq (a := 168) (i := 1) (ia_168 T6 (by omega) (by omega)))).trans ?_
    rw [← f7, gCS C7, m75 S 0 (by omega) (by omega), m04 S 0 (by omega) (by omega) (by omega) (by omega)]
  · rw [f7, f6]; show xn A5 = xn H; rw [N5.1, f4, f3, f2, f1]; rfl
  · rw [f7, f6]; show xz A5 = xz H; rw [N5.2.1, f4, f3, f2, f1]; rfl
  · rw [f7, f6]; show xk A5 = xk H; rw [N5.2.2.1, f4, f3, f2, f1]; rfl
  · unfold DY at q
    rw [m75 a k (by omega) (by omega), f4, xm_xset, if_neg (by omega), f3, xm_xset, if_neg (by omega), m2 a k (by omega), f1, xm_xset, if_neg (by omega)]
  · rw [m75 0 5 (by omega) (by omega), m4 0 5 (by omega), m3 0 5 (by omega), m2 0 5 (by omega), f1, xm_xset, if_pos ⟨rfl, rfl⟩]
  · rw [m75 20 0 (by omega) (by omega), m4 20 0 (by omega), m3 20 0 (by omega), f2, xm_xcst, if_pos rfl, if_pos (Or.inl rfl), m1 _ _ (by omega)]
  · rw [m75 20 6 (by omega) (by omega), m4 20 6 (by omega), m3 20 6 (by omega), f2, xm_xcst, if_pos rfl, if_pos (Or.inr rfl), m1 _ _ (by omega)]
  · rw [m75 _ _ (by omega) (by omega), m4 _ _ (by omega), m3 _ _ (by omega), f2, xm_xcst, if_neg (by omega), show 20 + j - 20 = j by omega, if_pos ⟨by omega, hk⟩, m1 _ _ (by omega), show S + 7 + j = S + (7 + j) by omega]
  · rw [m75 26 2 (by omega) (by omega), m4 26 2 (by omega), f3, xm_xset, if_pos ⟨rfl, rfl⟩]
  · rw [m75 148 1 (by omega) (by omega), f4, xm_xset, if_pos ⟨rfl, rfl⟩]
  · rw [m7 _ _ (by omega)]; exact v0
  · rw [m7 _ _ (by omega)]; exact v1
  · rw [m7 _ _ (by omega)]; exact NS5.2.2.2.2.1
  · rw [m7 _ _ (by omega)]; exact NS5.2.2.2.2.2.1
  · rw [m7 _ _ (by omega)]; exact v2 i x hi hx
  · rw [f7, xm_xset, if_neg (by omega), f6, xm_xset, if_pos ⟨rfl, rfl⟩]
  · rw [f7, xm_xset, if_pos ⟨rfl, rfl⟩]
