/-! ===== a case with its formulas put apart ===== -/
def NFm (h : xa_H) (s F1 F2 : Nat) : Prop := (xm h s 11 = -1 → xn h ≤ F1) ∧ (xm h s 12 = -1 → xn h ≤ F2) ∧ s + 13 ≤ F1 ∧ s + 13 ≤ F2
theorem rr_norm {h : xa_H} {s F1 F2 T2 T3 : Nat} (R : RR h s F1 F2 T2 T3) : ∃ F1' F2', RR h s F1' F2' T2 T3 ∧ NFm h s F1' F2' := by
  have cs := (rr_c R).2.1
  have c2 := cs.2.1
  have n249 := (rr_S R).1
  obtain ⟨o1, o2, d1, d2, d3⟩ := rr_F R
  obtain ⟨t1, t2, t3⟩ := rr_o R
  have p1 : xm h s 11 = -1 ∨ (xm h s 11 ≠ -1 ∧ s + 13 ≤ F1 ∧ F1 + 3 ≤ xn h) := by
    rcases o1 with ⟨a, -⟩ | ⟨a, b, L, x, f, -⟩
    · exact Or.inl a
    · refine Or.inr ⟨?_, b, f.2.1⟩
      rw [show xm h s 11 = (F1 : Int) from a]
      omega
  have p2 : xm h s 12 = -1 ∨ (xm h s 12 ≠ -1 ∧ s + 13 ≤ F2 ∧ F2 + 3 ≤ xn h) := by
    rcases o2 with ⟨a, -⟩ | ⟨a, b, L, x, f, -⟩
    · exact Or.inl a
    · refine Or.inr ⟨?_, b, f.2.1⟩
      rw [show xm h s 12 = (F2 : Int) from a]
      omega
  have q1 : ∃ F1', (xm h s 11 = -1 ∧ F1' = xn h + 10) ∨ (xm h s 11 ≠ -1 ∧ F1' = F1 ∧ s + 13 ≤ F1 ∧ F1 + 3 ≤ xn h) := by
    rcases p1 with a | ⟨a, b, c⟩
    · exact ⟨_, Or.inl ⟨a, rfl⟩⟩
    · exact ⟨_, Or.inr ⟨a, rfl, b, c⟩⟩
  have q2 : ∃ F2', (xm h s 12 = -1 ∧ F2' = xn h + 20) ∨ (xm h s 12 ≠ -1 ∧ F2' = F2 ∧ s + 13 ≤ F2 ∧ F2 + 3 ≤ xn h) := by
    rcases p2 with a | ⟨a, b, c⟩
    · exact ⟨_, Or.inl ⟨a, rfl⟩⟩
    · exact ⟨_, Or.inr ⟨a, rfl, b, c⟩⟩
  obtain ⟨A, hA⟩ := q1
  obtain ⟨B, hB⟩ := q2
  have fo1 : RFo h s 0 A := by
    rcases hA with ⟨a, -⟩ | ⟨a, e, -⟩
    · rcases o1 with ⟨x, y⟩ | ⟨x, -⟩
      · exact Or.inl ⟨x, y⟩
      · have x' : xm h s 11 = (F1 : Int) := x
        omega
    · rw [e]; exact o1
  have fo2 : RFo h s 1 B := by
    rcases hB with ⟨a, -⟩ | ⟨a, e, -⟩
    · rcases o2 with ⟨x, y⟩ | ⟨x, -⟩
      · exact Or.inl ⟨x, y⟩
      · have x' : xm h s 12 = (F2 : Int) := x
        omega
    · rw [e]; exact o2
  have so : ∀ w T, RSo h s F1 F2 w T → RSo h s A B w T := by
    intro w T o
    rcases o with o | ⟨g1, g2, g3, g4, g5⟩
    · exact Or.inl o
    · refine Or.inr ⟨g1, g2, fun y => ?_, fun y => ?_, g5⟩
      · have := g3 y; omega
      · have := g4 y; omega
  refine ⟨A, B, ⟨R.1, R.2.1, R.2.2.1, R.2.2.2.1, R.2.2.2.2.1, ⟨fo1, fo2, by omega, by omega, by omega⟩, R.2.2.2.2.2.2.1, R.2.2.2.2.2.2.2.1, R.2.2.2.2.2.2.2.2.1, R.2.2.2.2.2.2.2.2.2.1, R.2.2.2.2.2.2.2.2.2.2.1, ⟨so 0 T2 t1, so 1 T3 t2, t3⟩, R.2.2.2.2.2.2.2.2.2.2.2.2⟩, ?_, ?_, ?_, ?_⟩
  · intro y; omega
  · intro y; omega
  · omega
  · omega
theorem RR.mvG {h h' : xa_H} {s F1 F2 T2 T3 : Nat} (R : RR h s F1 F2 T2 T3) (N : NFm h s F1 F2) (S' : SH h') (hn : xn h' = xn h) (hk : xk h' = xk h) (e : ∀ a k, DRc s a k ∨ a = 168 ∨ (a = 209 ∧ 2 ≤ k) ∨ (a = 210 ∧ 2 ≤ k) ∨ (a = 211 ∧ 1600 ≤ k) ∨ (249 ≤ a ∧ a ≠ F1 + 2 ∧ a ≠ F2 + 2) → xm h' a k = xm h a k)
    (gt : Rt h') (gr : Rr h') (gf : Rf h') (gn : Rn h') (gh : Rh h') (gj : Rj h') (gi : Ri h') (gs : Rs h') (g2 : Ro h') : RR h' s F1 F2 T2 T3 := by
  obtain ⟨n1, n2, n3, n4⟩ := N
  have fF := (rr_F R).2.2
  have cs1 := (rr_c R).2.1.1
  have cs2 := (rr_c R).2.1.2.1
  have hk' : ∀ a, a < xn h → xk h' a = xk h a := fun a _ => by rw [hk]
  have eT : ∀ w T, (w = 0 ∨ w = 1) → RSo h s F1 F2 w T → xm h 168 w ≠ -1 → ∀ a k, T ≤ a → a < T + 5 → xm h' a k = xm h a k := by
    intro w T hw o y a k q1 q2
    rcases o with o | ⟨g1, g2, g3, g4, g5⟩
    · exact absurd o y
    · have t1 := g5.1
      have t2 := g5.2.1
      have u1 : a ≠ F1 + 2 := by
        by_cases z : xm h s 11 = -1
        · have := n1 z; omega
        · have := g3 z; omega
      have u2 : a ≠ F2 + 2 := by
        by_cases z : xm h s 12 = -1
        · have := n2 z; omega
        · have := g4 z; omega
      exact e a k (Or.inr (Or.inr (Or.inr (Or.inr (Or.inr ⟨by omega, u1, u2⟩)))))
  have so := rr_o R
  refine R.mv S' (by omega) hk' gt gr gf (fun a k hd => e a k (Or.inl hd)) (fun a k hd => e a k ?_) gn gh gj gi gs (so.mv (by omega) hk' (fun a k hd => e a k ?_) (eT 0 T2 (Or.inl rfl) so.1) (eT 1 T3 (Or.inr rfl) so.2.1)) g2
  · unfold DRF at hd
    unfold DRc
    omega
  · unfold DRc
    omega
theorem rr_KX {h : xa_H} {s F1 F2 T2 T3 : Nat} (R : RR h s F1 F2 T2 T3) (N : NFm h s F1 F2) : ∃ n m : Nat, KX h s F1 F2 n m ∧ ST h h n m ∧ xm h 199 4 = (n : Int) ∧ n ≤ 6 := by
  have C := rr_c R
  have n6 := rc_n C
  have m6 := rc_m C
  obtain ⟨n, en⟩ : ∃ n : Nat, xm h 199 4 = (n : Int) := ⟨(xm h 199 4).toNat, by omega⟩
  obtain ⟨m, em⟩ : ∃ m : Nat, xm h 199 3 = (m : Int) := ⟨(xm h 199 3).toNat, by omega⟩
  have r := rr_n R
  unfold Rn at r
  rw [en, em] at r
  exact ⟨n, m, ⟨C, rr_F R, N.2.2.1, N.2.2.2, en, em⟩, r, en, by omega⟩
theorem rr_CV {h H : xa_H} {s F1 F2 T2 T3 : Nat} (R : RR h s F1 F2 T2 T3) (N : NFm h s F1 F2) (S : SH H) (hn : xn H = xn h) (hk : xk H = xk h) (e : ∀ a k, (7 ≤ a ∧ a < 20) ∨ 249 ≤ a ∨ (a = 0 ∧ k = 5) → xm H a k = xm h a k) : CV h H s F1 F2 := by
  have cs1 := (rr_c R).2.1.1
  obtain ⟨g1, g2, g3⟩ := (rr_F R).far
  exact ⟨S, hn, hk, fun a k hd => e a k (by omega)⟩
theorem rr_MV {h G : xa_H} (S : SH G) (e : ∀ a k, 199 ≤ a → a ≤ 211 → xm G a k = xm h a k) : MV h G := ⟨S, fun a k hd => e a k (by omega) (by omega)⟩
