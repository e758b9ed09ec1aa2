/-! ===== a new case of the class ===== -/
def flG (A : xa_H) (a : Nat) (v : Int) : Nat → xa_H
  | 0 => A
  | i + 1 => xset (flG A a v i) a i v
theorem bl_xgf {β : Type} {h0 H : xa_H} {m Z : Nat} {K : Nat → Nat × Nat} {V : Nat → Nat → Int} (B : Bl h0 H m Z K V) {ci j N k : Nat} {v : Int} {f : Int → Option β} (hj : j < m) (hk : K j = (10 + ci, N)) (hv : V j k = v) : (xgf H ci k ((xn h0 + j : Nat) : Int)).bind f = f v := bnd (xgf_eq (bl_ok B hj hk) ((B.2.2.2.2.2 j k hj).trans hv))
theorem bl_flG {h0 A : xa_H} {m Z : Nat} {K : Nat → Nat × Nat} {V : Nat → Nat → Int} (B : Bl h0 A m Z K V) (j : Nat) (v : Int) : ∀ i, Bl h0 (flG A (xn h0 + j) v i) m Z K (fun a b => if a = j ∧ b < i then v else V a b)
  | 0 => by
    have e : (fun a b => if a = j ∧ b < 0 then v else V a b) = V := by
      funext a b
      rw [if_neg (by omega)]
    rw [e]
    exact B
  | i + 1 => by
    have b := bl_set (bl_flG B j v i) j i v
    have e : (fun a b => if a = j ∧ b < i + 1 then v else V a b) = fun a b => if a = j ∧ b = i then v else if a = j ∧ b < i then v else V a b := by
      funext a b
      by_cases z : a = j ∧ b = i
      · rw [if_pos z, if_pos (by omega)]
      · rw [if_neg z]
        by_cases y : a = j ∧ b < i
        · rw [if_pos y, if_pos (by omega)]
        · rw [if_neg y, if_neg (by omega)]
    rw [e]
    exact b
theorem bl_fill {h0 A : xa_H} {m Z : Nat} {K : Nat → Nat × Nat} {V : Nat → Nat → Int} (B : Bl h0 A m Z K V) {j n : Nat} (hj : j < m) (hk : K j = (0, n)) (hn : n < 1000000) (v : Int) : ∃ A', f_J7_fill_53178 ((xn h0 + j : Nat) : Int) v A = some A' ∧ Bl h0 A' m Z K (fun a b => if a = j ∧ b < n then v else V a b) := by
  refine ⟨flG A (xn h0 + j) v n, ?_, bl_flG B j v n⟩
  have ln : xln A ((xn h0 + j : Nat) : Int) = some (n : Int) := by
    unfold xln
    rw [Int.toNat_natCast, B.2.2.2.2.1 j hj, hk, B.1, if_pos (by simp; omega)]
  have lp : xit (fun s => f_J7_fill_53178_L5 ((xn h0 + j : Nat) : Int) v (n : Int) s.1 s.2) xFU (0, A) = some (flG A (xn h0 + j) v n) :=
    xit_seq (f := fun s : Int × xa_H => f_J7_fill_53178_L5 ((xn h0 + j : Nat) : Int) v (n : Int) s.1 s.2) (fun i => ((i : Int), flG A (xn h0 + j) v i)) n _ (fun i hi => by
      have b := bl_flG B j v i
      have ia : xia (flG A (xn h0 + j) v i) 0 ((xn h0 + j : Nat) : Int) (i : Int) = true := by
        unfold xia
        rw [Int.toNat_natCast, b.2.2.2.2.1 j hj, hk, b.1]
        simp
        omega
      show f_J7_fill_53178_L5 ((xn h0 + j : Nat) : Int) v (n : Int) (i : Int) (flG A (xn h0 + j) v i) = _
      unfold f_J7_fill_53178_L5
      rw [if_pos (by omega)]
      refine (bnd (xas_eq ia)).trans ?_
      rw [w32_id (by omega) (by omega)]
      rfl) (by
      show f_J7_fill_53178_L5 ((xn h0 + j : Nat) : Int) v (n : Int) (n : Int) (flG A (xn h0 + j) v n) = _
      unfold f_J7_fill_53178_L5
      rw [if_neg (by omega)]) hn
  unfold f_J7_fill_53178
  refine (bnd ln).trans ?_
  exact (bnd lp).trans rfl
theorem exs {α : Type} {E E' : Option α} {Q : α → Prop} (e : E = E') (x : ∃ A, E' = some A ∧ Q A) : ∃ A, E = some A ∧ Q A := e ▸ x
theorem t_init9 {h A : xa_H} {Z : Nat} {K : Nat → Nat × Nat} {V : Nat → Nat → Int} (B : Bl h A 8 Z K V) (hk : K 7 = (19, 7)) : ∃ A', f_X9_init ((xn h + 7 : Nat) : Int) A = some A' ∧ Bl h A' 13 (Z + 6 + 6 + 6 + 36 + 30) (fun a => if a = 12 then (0, 30) else if a = 11 then (0, 36) else if a = 10 then (0, 6) else if a = 9 then (0, 6) else if a = 8 then (0, 6) else K a)
    (fun a b => if a = 7 ∧ b = 6 then 0 else if a = 7 ∧ b = 5 then ((xn h + 12 : Nat) : Int) else if a = 12 then 0 else if a = 7 ∧ b = 4 then ((xn h + 11 : Nat) : Int) else if a = 11 then 0 else if a = 7 ∧ b = 3 then ((xn h + 10 : Nat) : Int) else if a = 10 then 0 else if a = 7 ∧ b = 2 then ((xn h + 9 : Nat) : Int) else if a = 9 then 0 else if a = 7 ∧ b = 1 then ((xn h + 8 : Nat) : Int) else if a = 8 then 0 else if a = 7 ∧ b = 0 then 0 else V a b) := by
  have b0 := B
  have ok : xok A 9 ((xn h + 7 : Nat) : Int) = true := bl_ok b0 (by decide) hk
  unfold f_X9_init
  rw [exrc, if_pos ok]
  obtain ⟨A0, e0⟩ : ∃ z, z = A := ⟨_, rfl⟩
  rw [← e0] at b0 ⊢
  refine exs (bl_xpf b0 (ci := 9) (j := 7) (k := 0) (N := 7) (v := 0) (by decide) hk) ?_
  obtain ⟨A1, e1⟩ : ∃ z, z = xset A0 (xn h + 7) 0 (0) := ⟨_, rfl⟩
  have b1 := bl_set b0 7 0 (0)
  rw [← e1] at b1 ⊢
  refine exs (bl_xna (H := A1) (v := 6) (by omega)) ?_
  obtain ⟨A2, e2⟩ : ∃ z, z = xnew A1 0 6 (fun _ => 0) := ⟨_, rfl⟩
  have b2 := bl_new b1 0 6 (fun _ => 0)
  rw [show ((6 : Int)).toNat = 6 from rfl, ← e2, b1.1]
  rw [← e2] at b2
  refine exs (bl_xpf b2 (ci := 9) (j := 7) (k := 1) (N := 7) (v := ((xn h + 8 : Nat) : Int)) (by decide) hk) ?_
  obtain ⟨A3, e3⟩ : ∃ z, z = xset A2 (xn h + 7) 1 (((xn h + 8 : Nat) : Int)) := ⟨_, rfl⟩
  have b3 := bl_set b2 7 1 (((xn h + 8 : Nat) : Int))
  rw [← e3] at b3 ⊢
  refine exs (bl_xna (H := A3) (v := 6) (by omega)) ?_
  obtain ⟨A4, e4⟩ : ∃ z, z = xnew A3 0 6 (fun _ => 0) := ⟨_, rfl⟩
  have b4 := bl_new b3 0 6 (fun _ => 0)
  rw [show ((6 : Int)).toNat = 6 from rfl, ← e4, b3.1]
  rw [← e4] at b4
  refine exs (bl_xpf b4 (ci := 9) (j := 7) (k := 2) (N := 7) (v := ((xn h + 9 : Nat) : Int)) (by decide) hk) ?_
  obtain ⟨A5, e5⟩ : ∃ z, z = xset A4 (xn h + 7) 2 (((xn h + 9 : Nat) : Int)) := ⟨_, rfl⟩
  have b5 := bl_set b4 7 2 (((xn h + 9 : Nat) : Int))
  rw [← e5] at b5 ⊢
  refine exs (bl_xna (H := A5) (v := 6) (by omega)) ?_
  obtain ⟨A6, e6⟩ : ∃ z, z = xnew A5 0 6 (fun _ => 0) := ⟨_, rfl⟩
  have b6 := bl_new b5 0 6 (fun _ => 0)
  rw [show ((6 : Int)).toNat = 6 from rfl, ← e6, b5.1]
  rw [← e6] at b6
  refine exs (bl_xpf b6 (ci := 9) (j := 7) (k := 3) (N := 7) (v := ((xn h + 10 : Nat) : Int)) (by decide) hk) ?_
  obtain ⟨A7, e7⟩ : ∃ z, z = xset A6 (xn h + 7) 3 (((xn h + 10 : Nat) : Int)) := ⟨_, rfl⟩
  have b7 := bl_set b6 7 3 (((xn h + 10 : Nat) : Int))
  rw [← e7] at b7 ⊢
  refine exs (bl_xna (H := A7) (v := 36) (by omega)) ?_
  obtain ⟨A8, e8⟩ : ∃ z, z = xnew A7 0 36 (fun _ => 0) := ⟨_, rfl⟩
  have b8 := bl_new b7 0 36 (fun _ => 0)
  rw [show ((36 : Int)).toNat = 36 from rfl, ← e8, b7.1]
  rw [← e8] at b8
  refine exs (bl_xpf b8 (ci := 9) (j := 7) (k := 4) (N := 7) (v := ((xn h + 11 : Nat) : Int)) (by decide) hk) ?_
  obtain ⟨A9, e9⟩ : ∃ z, z = xset A8 (xn h + 7) 4 (((xn h + 11 : Nat) : Int)) := ⟨_, rfl⟩
  have b9 := bl_set b8 7 4 (((xn h + 11 : Nat) : Int))
  rw [← e9] at b9 ⊢
  refine exs (bl_xna (H := A9) (v := 30) (by omega)) ?_
  obtain ⟨A10, e10⟩ : ∃ z, z = xnew A9 0 30 (fun _ => 0) := ⟨_, rfl⟩
  have b10 := bl_new b9 0 30 (fun _ => 0)
  rw [show ((30 : Int)).toNat = 30 from rfl, ← e10, b9.1]
  rw [← e10] at b10
  refine exs (bl_xpf b10 (ci := 9) (j := 7) (k := 5) (N := 7) (v := ((xn h + 12 : Nat) : Int)) (by decide) hk) ?_
  obtain ⟨A11, e11⟩ : ∃ z, z = xset A10 (xn h + 7) 5 (((xn h + 12 : Nat) : Int)) := ⟨_, rfl⟩
  have b11 := bl_set b10 7 5 (((xn h + 12 : Nat) : Int))
  rw [← e11] at b11 ⊢
  refine exs (bl_xpf b11 (ci := 9) (j := 7) (k := 6) (N := 7) (v := 0) (by decide) hk) ?_
  obtain ⟨A12, e12⟩ : ∃ z, z = xset A11 (xn h + 7) 6 (0) := ⟨_, rfl⟩
  have b12 := bl_set b11 7 6 (0)
  rw [← e12] at b12 ⊢
  exact ⟨A12, rfl, b12⟩
theorem t_init0 (h : xa_H) : ∃ A, f_X0_init ((xn h : Nat) : Int) (xno h 0 14) = some A ∧ ∃ K V, Bl h A 13 171 K V ∧ (∀ j, j < 13 → K j = kd0 (7 + j)) ∧ (∀ j, j < 6 → V 0 (5 + j) = ((xn h + (1 + j) : Nat) : Int)) ∧ V 0 13 = ((xn h + 7 : Nat) : Int) ∧ (∀ j, j < 5 → V 7 (1 + j) = ((xn h + (8 + j) : Nat) : Int)) ∧ (∀ k, k < 5 → V 0 k = 0) ∧ V 0 11 = -1 ∧ V 0 12 = -1 ∧ (∀ j k, 0 < j → j < 13 → j ≠ 4 → j ≠ 7 → V j k = 0) ∧ (∀ k, k < 6 → V 4 k = -1) ∧ V 7 0 = 0 ∧ V 7 6 = 0 := by
  have b0 := bl_new (bl_0 h) 10 14 (xd0 0)
  have ok : xok (xnew h 10 14 (xd0 0)) 0 ((xn h : Nat) : Int) = true := bl_ok b0 (ci := 0) (j := 0) (N := 14) (by decide) rfl
  unfold f_X0_init
  rw [show xno h 0 14 = xnew h 10 14 (xd0 0) from rfl, exrc, if_pos ok]
  obtain ⟨A0, e0⟩ : ∃ z, z = xnew h 10 14 (xd0 0) := ⟨_, rfl⟩
  rw [← e0] at b0 ⊢
  refine exs (bl_xpf b0 (ci := 0) (j := 0) (k := 0) (N := 14) (v := 0) (by decide) rfl) ?_
  obtain ⟨A1, e1⟩ : ∃ z, z = xset A0 (xn h + 0) 0 (0) := ⟨_, rfl⟩
  have b1 := bl_set b0 0 0 (0)
  rw [← e1] at b1 ⊢
  refine exs (bl_xpf b1 (ci := 0) (j := 0) (k := 1) (N := 14) (v := 0) (by decide) rfl) ?_
  obtain ⟨A2, e2⟩ : ∃ z, z = xset A1 (xn h + 0) 1 (0) := ⟨_, rfl⟩
  have b2 := bl_set b1 0 1 (0)
  rw [← e2] at b2 ⊢
  refine exs (bl_xpf b2 (ci := 0) (j := 0) (k := 2) (N := 14) (v := 0) (by decide) rfl) ?_
  obtain ⟨A3, e3⟩ : ∃ z, z = xset A2 (xn h + 0) 2 (0) := ⟨_, rfl⟩
  have b3 := bl_set b2 0 2 (0)
  rw [← e3] at b3 ⊢
  refine exs (bl_xpf b3 (ci := 0) (j := 0) (k := 3) (N := 14) (v := 0) (by decide) rfl) ?_
  obtain ⟨A4, e4⟩ : ∃ z, z = xset A3 (xn h + 0) 3 (0) := ⟨_, rfl⟩
  have b4 := bl_set b3 0 3 (0)
  rw [← e4] at b4 ⊢
  refine exs (bl_xpf b4 (ci := 0) (j := 0) (k := 4) (N := 14) (v := 0) (by decide) rfl) ?_
  obtain ⟨A5, e5⟩ : ∃ z, z = xset A4 (xn h + 0) 4 (0) := ⟨_, rfl⟩
  have b5 := bl_set b4 0 4 (0)
  rw [← e5] at b5 ⊢
  refine exs (bl_xna (H := A5) (v := 6) (by omega)) ?_
  obtain ⟨A6, e6⟩ : ∃ z, z = xnew A5 0 6 (fun _ => 0) := ⟨_, rfl⟩
  have b6 := bl_new b5 0 6 (fun _ => 0)
  rw [show ((6 : Int)).toNat = 6 from rfl, ← e6, b5.1]
  rw [← e6] at b6
  refine exs (bl_xpf b6 (ci := 0) (j := 0) (k := 5) (N := 14) (v := ((xn h + 1 : Nat) : Int)) (by decide) rfl) ?_
  obtain ⟨A7, e7⟩ : ∃ z, z = xset A6 (xn h + 0) 5 (((xn h + 1 : Nat) : Int)) := ⟨_, rfl⟩
  have b7 := bl_set b6 0 5 (((xn h + 1 : Nat) : Int))
  rw [← e7] at b7 ⊢
  refine exs (bl_xna (H := A7) (v := 6) (by omega)) ?_
  obtain ⟨A8, e8⟩ : ∃ z, z = xnew A7 0 6 (fun _ => 0) := ⟨_, rfl⟩
  have b8 := bl_new b7 0 6 (fun _ => 0)
  rw [show ((6 : Int)).toNat = 6 from rfl, ← e8, b7.1]
  rw [← e8] at b8
  refine exs (bl_xpf b8 (ci := 0) (j := 0) (k := 6) (N := 14) (v := ((xn h + 2 : Nat) : Int)) (by decide) rfl) ?_
  obtain ⟨A9, e9⟩ : ∃ z, z = xset A8 (xn h + 0) 6 (((xn h + 2 : Nat) : Int)) := ⟨_, rfl⟩
  have b9 := bl_set b8 0 6 (((xn h + 2 : Nat) : Int))
  rw [← e9] at b9 ⊢
  refine exs (bl_xna (H := A9) (v := 6) (by omega)) ?_
  obtain ⟨A10, e10⟩ : ∃ z, z = xnew A9 0 6 (fun _ => 0) := ⟨_, rfl⟩
  have b10 := bl_new b9 0 6 (fun _ => 0)
  rw [show ((6 : Int)).toNat = 6 from rfl, ← e10, b9.1]
  rw [← e10] at b10
  refine exs (bl_xpf b10 (ci := 0) (j := 0) (k := 7) (N := 14) (v := ((xn h + 3 : Nat) : Int)) (by decide) rfl) ?_
  obtain ⟨A11, e11⟩ : ∃ z, z = xset A10 (xn h + 0) 7 (((xn h + 3 : Nat) : Int)) := ⟨_, rfl⟩
  have b11 := bl_set b10 0 7 (((xn h + 3 : Nat) : Int))
  rw [← e11] at b11 ⊢
  refine exs (bl_xna (H := A11) (v := 6) (by omega)) ?_
  obtain ⟨A12, e12⟩ : ∃ z, z = xnew A11 0 6 (fun _ => 0) := ⟨_, rfl⟩
  have b12 := bl_new b11 0 6 (fun _ => 0)
  rw [show ((6 : Int)).toNat = 6 from rfl, ← e12, b11.1]
  rw [← e12] at b12
  refine exs (bl_xpf b12 (ci := 0) (j := 0) (k := 8) (N := 14) (v := ((xn h + 4 : Nat) : Int)) (by decide) rfl) ?_
  obtain ⟨A13, e13⟩ : ∃ z, z = xset A12 (xn h + 0) 8 (((xn h + 4 : Nat) : Int)) := ⟨_, rfl⟩
  have b13 := bl_set b12 0 8 (((xn h + 4 : Nat) : Int))
  rw [← e13] at b13 ⊢
  refine exs (bl_xna (H := A13) (v := 36) (by omega)) ?_
  obtain ⟨A14, e14⟩ : ∃ z, z = xnew A13 0 36 (fun _ => 0) := ⟨_, rfl⟩
  have b14 := bl_new b13 0 36 (fun _ => 0)
  rw [show ((36 : Int)).toNat = 36 from rfl, ← e14, b13.1]
  rw [← e14] at b14
  refine exs (bl_xpf b14 (ci := 0) (j := 0) (k := 9) (N := 14) (v := ((xn h + 5 : Nat) : Int)) (by decide) rfl) ?_
  obtain ⟨A15, e15⟩ : ∃ z, z = xset A14 (xn h + 0) 9 (((xn h + 5 : Nat) : Int)) := ⟨_, rfl⟩
  have b15 := bl_set b14 0 9 (((xn h + 5 : Nat) : Int))
  rw [← e15] at b15 ⊢
  refine exs (bl_xna (H := A15) (v := 6) (by omega)) ?_
  obtain ⟨A16, e16⟩ : ∃ z, z = xnew A15 0 6 (fun _ => 0) := ⟨_, rfl⟩
  have b16 := bl_new b15 0 6 (fun _ => 0)
  rw [show ((6 : Int)).toNat = 6 from rfl, ← e16, b15.1]
  rw [← e16] at b16
  refine exs (bl_xpf b16 (ci := 0) (j := 0) (k := 10) (N := 14) (v := ((xn h + 6 : Nat) : Int)) (by decide) rfl) ?_
  obtain ⟨A17, e17⟩ : ∃ z, z = xset A16 (xn h + 0) 10 (((xn h + 6 : Nat) : Int)) := ⟨_, rfl⟩
  have b17 := bl_set b16 0 10 (((xn h + 6 : Nat) : Int))
  rw [← e17] at b17 ⊢
  refine exs (bl_xpf b17 (ci := 0) (j := 0) (k := 11) (N := 14) (v := -1) (by decide) rfl) ?_
  obtain ⟨A18, e18⟩ : ∃ z, z = xset A17 (xn h + 0) 11 (-1) := ⟨_, rfl⟩
  have b18 := bl_set b17 0 11 (-1)
  rw [← e18] at b18 ⊢
  refine exs (bl_xpf b18 (ci := 0) (j := 0) (k := 12) (N := 14) (v := -1) (by decide) rfl) ?_
  obtain ⟨A19, e19⟩ : ∃ z, z = xset A18 (xn h + 0) 12 (-1) := ⟨_, rfl⟩
  have b19 := bl_set b18 0 12 (-1)
  rw [← e19] at b19 ⊢
  obtain ⟨B0, f0⟩ : ∃ z, z = xnew A19 19 7 (xd0 9) := ⟨_, rfl⟩
  have c0 := bl_new b19 19 7 (xd0 9)
  rw [show xnO A19 9 7 = some (xnew A19 19 7 (xd0 9)) from rfl, bbind, ← f0, b19.1]
  rw [← f0] at c0
  obtain ⟨B1, f1, c1⟩ := t_init9 c0 rfl
  refine exs (bnd f1) ?_
  obtain ⟨D0, g0⟩ : ∃ z, z = xset B1 (xn h + 0) 13 (((xn h + 7 : Nat) : Int)) := ⟨_, rfl⟩
  have d0 := bl_set c1 0 13 (((xn h + 7 : Nat) : Int))
  refine exs (bl_xpf c1 (ci := 0) (j := 0) (k := 13) (N := 14) (v := ((xn h + 7 : Nat) : Int)) (by decide) rfl) ?_
  rw [← g0] at d0 ⊢
  refine exs (bl_xgf d0 (ci := 0) (j := 0) (k := 8) (N := 14) (v := ((xn h + 4 : Nat) : Int)) (by decide) rfl rfl) ?_
  obtain ⟨D1, g1, d1⟩ := bl_fill d0 (j := 4) (n := 6) (by decide) rfl (by decide) (-1)
  refine exs (bnd g1) ?_
  refine ⟨D1, rfl, _, _, d1, ?_, ?_, rfl, ?_, ?_, rfl, rfl, ?_, ?_, rfl, rfl⟩
  · intro j hj; rcases j with _ | _ | _ | _ | _ | _ | _ | _ | _ | _ | _ | _ | _ | j <;> first | decide +kernel | omega
  · intro j hj; rcases j with _ | _ | _ | _ | _ | _ | j <;> first | rfl | omega
  · intro j hj; rcases j with _ | _ | _ | _ | _ | j <;> first | rfl | omega
  · intro j hj; rcases j with _ | _ | _ | _ | _ | j <;> first | rfl | omega
  · intro j k h0 h13 h4 h7; rcases j with _ | _ | _ | _ | _ | _ | _ | _ | _ | _ | _ | _ | _ | j <;> first | rfl | omega
  · intro k hk; exact if_pos ⟨rfl, hk⟩
