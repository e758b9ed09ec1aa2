/-! ===== the class begins a case ===== -/
/-- a new case, empty -/
def CI (h : xa_H) (S : Nat) : Prop := (249 ≤ S ∧ CS h S ∧ xm h 6 2 = (S : Int)) ∧ (∀ k, k < 5 → xm h S k = 0) ∧ xm h S 11 = -1 ∧ xm h S 12 = -1 ∧ (∀ j k, 0 < j → j < 13 → j ≠ 4 → j ≠ 7 → xm h (S + j) k = 0) ∧ (∀ k, k < 6 → xm h (S + 4) k = -1) ∧ xm h (S + 7) 0 = 0 ∧ xm h (S + 7) 6 = 0
def DB6 (a k : Nat) : Bool := (a == 2 && Nat.ble 2 k) || (a == 6 && k == 2)
theorem c_begin {h : xa_H} (S0 : SH h) {T : Nat → Int} {L : Nat} (hT : ∀ k, k < 1600 → xm h 1 k = sx8 (T k) ∧ 0 ≤ T k ∧ T k < 256) (hL : L ≤ 1600) :
    ∃ h5, f_X1_readCase 6 (L : Int) h = ((xit (fun s => f_X1_readCase_L21 6 s.1 s.2) xFU ((0, h5))).bind fun e20 => xel e20 (fun r => some r) (fun y21 => some (((-1), y21)))) ∧
      Cx T L h5 (tk_sk T L 0) false ∧ CI h5 (xn h) ∧ xn h5 = xn h + 13 ∧ xz h5 = xz h + 171 ∧ (∀ a, a < xn h → xk h5 a = xk h a) ∧ ∀ a k, a < xn h → DB6 a k = false → xm h5 a k = xm h a k := by
  obtain ⟨A, e1, K, V, ⟨b1, b2, b3, b4, b5, b6⟩, v1, v2, v3, v4, v5, v6, v7, v8, v9, v10, v11⟩ := t_init0 h
  have n0 := S0.1
  have SA : SH A := S0.mv (by omega) b3 (fun a k hf => b4 a k (by have := fix_lt hf; omega))
  obtain ⟨A1, e2⟩ : ∃ z, z = xset A 6 2 ((xn h : Nat) : Int) := ⟨_, rfl⟩
  have S1 : SH A1 := by rw [e2]; exact SA.set (by decide +kernel)
  obtain ⟨B1, f1⟩ : ∃ z, z = xset A1 2 2 (L : Int) := ⟨_, rfl⟩
  obtain ⟨B2, f2⟩ : ∃ z, z = xset B1 2 9 0 := ⟨_, rfl⟩
  obtain ⟨B3, f3⟩ : ∃ z, z = xset B2 2 10 (-1) := ⟨_, rfl⟩
  obtain ⟨B4, f4⟩ : ∃ z, z = xset B3 2 3 3 := ⟨_, rfl⟩
  obtain ⟨B5, f5⟩ : ∃ z, z = xset B4 2 5 0 := ⟨_, rfl⟩
  have s1 : SH B1 := by rw [f1]; exact S1.set (by decide +kernel)
  have s2 : SH B2 := by rw [f2]; exact s1.set (by decide +kernel)
  have s3 : SH B3 := by rw [f3]; exact s2.set (by decide +kernel)
  have s4 : SH B4 := by rw [f4]; exact s3.set (by decide +kernel)
  have s5 : SH B5 := by rw [f5]; exact s4.set (by decide +kernel)
  have p1 : xpf A1 6 2 2 (L : Int) = some B1 := by rw [f1]; exact xpf_eq (a := 2) (ok_2 S1)
  have p2 : xpf B1 6 9 2 0 = some B2 := by rw [f2]; exact xpf_eq (a := 2) (ok_2 s1)
  have p3 : xpf B2 6 10 2 (-1) = some B3 := by rw [f3]; exact xpf_eq (a := 2) (ok_2 s2)
  have p4 : xpf B3 6 3 2 3 = some B4 := by rw [f4]; exact xpf_eq (a := 2) (ok_2 s3)
  have p5 : xpf B4 6 5 2 0 = some B5 := by rw [f5]; exact xpf_eq (a := 2) (ok_2 s4)
  have m5 : ∀ a k, a ≠ 2 → xm B5 a k = xm A1 a k := fun a k q => by
    rw [f5, xm_xset, if_neg (by omega), f4, xm_xset, if_neg (by omega), f3, xm_xset, if_neg (by omega), f2, xm_xset, if_neg (by omega), f1, xm_xset, if_neg (by omega)]
  have mA : ∀ a k, a ≠ 6 ∨ k ≠ 2 → xm A1 a k = xm A a k := fun a k q => by rw [e2, xm_xset, if_neg (by omega)]
  have x22 : xm B5 2 2 = (L : Int) := by rw [f5, xm_xset, if_neg (by omega), f4, xm_xset, if_neg (by omega), f3, xm_xset, if_neg (by omega), f2, xm_xset, if_neg (by omega), f1, xm_xset, if_pos ⟨rfl, rfl⟩]
  have x29 : xm B5 2 9 = 0 := by rw [f5, xm_xset, if_neg (by omega), f4, xm_xset, if_neg (by omega), f3, xm_xset, if_neg (by omega), f2, xm_xset, if_pos ⟨rfl, rfl⟩]
  have x210 : xm B5 2 10 = -1 := by rw [f5, xm_xset, if_neg (by omega), f4, xm_xset, if_neg (by omega), f3, xm_xset, if_pos ⟨rfl, rfl⟩]
  have x23 : xm B5 2 3 = 3 := by rw [f5, xm_xset, if_neg (by omega), f4, xm_xset, if_pos ⟨rfl, rfl⟩]
  have x25 : xm B5 2 5 = ((0 : Nat) : Int) := by rw [f5, xm_xset, if_pos ⟨rfl, rfl⟩]; rfl
  have m2x : ∀ k, k < 2 → xm B5 2 k = xm A 2 k := fun k q => by
    rw [f5, xm_xset, if_neg (by omega), f4, xm_xset, if_neg (by omega), f3, xm_xset, if_neg (by omega), f2, xm_xset, if_neg (by omega), f1, xm_xset, if_neg (by omega), mA _ _ (by omega)]
  have n5 : xn B5 = xn A := by rw [f5, f4, f3, f2, f1, e2]; rfl
  have z5 : xz B5 = xz A := by rw [f5, f4, f3, f2, f1, e2]; rfl
  have k5 : xk B5 = xk A := by rw [f5, f4, f3, f2, f1, e2]; rfl
  have CB : Cb T L B5 := ⟨s5, fun k hk => by rw [m5 _ _ (by omega), mA _ _ (by omega), b4 1 k (by omega)]; exact hT k hk, x22, hL, x29, x210⟩
  obtain ⟨h5, e5, C5, D5⟩ := s_step0 CB x25 (Nat.zero_le _)
  have D6 := DS_DC D5
  rw [x23] at C5
  have C5' : Cx T L h5 (tk_sk T L 0) false := C5
  have mm : ∀ a k, a ≠ 2 → a ≠ 6 ∨ k ≠ 2 → xm h5 a k = xm A a k := fun a k q1 q2 => (D6.2.2.2 a k (dc_ne q1)).trans ((m5 a k q1).trans (mA a k q2))
  have m6 : xm h5 6 2 = ((xn h : Nat) : Int) := (D6.2.2.2 6 2 (dc_ne (by omega))).trans ((m5 6 2 (by omega)).trans (by rw [e2, xm_xset, if_pos ⟨rfl, rfl⟩]))
  have bk : ∀ a, xk h5 a = xk A a := fun a => by rw [D6.2.2.1, k5]
  have w : ∀ j k, j < 13 → xm h5 (xn h + j) k = V j k := fun j k hj => (mm _ _ (by omega) (by omega)).trans (b6 j k hj)
  refine ⟨h5, ?_, C5', ⟨⟨n0, ⟨Or.inr n0, ?_, fun j hj => ?_, fun j hj => ?_, ?_, fun j hj => ?_⟩, m6⟩, fun k hk => ?_, ?_, ?_, fun j k h1 h2 h3 h4 => ?_, fun k hk => ?_, ?_, ?_⟩, ?_, ?_, fun a ha => ?_, fun a k ha hd => ?_⟩
  · unfold f_X1_readCase
    have q1 : xpf A 1 2 6 ((xn h : Nat) : Int) = some A1 := by rw [e2]; exact xpf_eq (a := 6) (ok_6 SA)
    rw [show xnO h 0 14 = some (xno h 0 14) from rfl, bbind, e1, bbind, q1, bbind, r60 S1, x62 S1]
    have bg : f_X6_begin 2 (L : Int) A1 = some h5 := by
      unfold f_X6_begin
      refine (bnd p1).trans ?_
      refine (bnd p2).trans ?_
      refine (bnd p3).trans ?_
      refine (bnd p4).trans ?_
      refine (bnd p5).trans ?_
      rw [x62 s5, e5, bbind]
    rw [bg, bbind]
  · rw [D6.1, n5]; omega
  · rw [bk, b5 j hj]; exact v1 j hj
  · exact (w 0 _ (by omega)).trans (v2 j hj)
  · exact (w 0 _ (by omega)).trans v3
  · exact (w 7 _ (by omega)).trans (v4 j hj)
  · exact (w 0 _ (by omega)).trans (v5 k hk)
  · exact (w 0 _ (by omega)).trans v6
  · exact (w 0 _ (by omega)).trans v7
  · exact (w j _ h2).trans (v8 j k h1 h2 h3 h4)
  · exact (w 4 _ (by omega)).trans (v9 k hk)
  · exact (w 7 _ (by omega)).trans v10
  · exact (w 7 _ (by omega)).trans v11
  · rw [D6.1, n5]; omega
  · rw [D6.2.1, z5]; exact b2
  · rw [bk]; exact b3 a ha
  · unfold DB6 at hd
    have hk2 : a = 2 → k < 2 := fun z => Nat.lt_of_not_le fun y => by
      have : Nat.ble 2 k = true := Nat.ble_eq.mpr y
      simp [z, this] at hd
    simp at hd
    by_cases z : a = 2
    · subst z
      have := hk2 rfl
      rw [D6.2.2.2 2 k ?_, m2x k (by omega)]
      · exact b4 2 k ha
      · unfold DC
        rw [show Nat.ble 3 k = false from ble_ff (by omega)]
        rfl
    · rw [mm a k z (by omega)]
      exact b4 a k ha
