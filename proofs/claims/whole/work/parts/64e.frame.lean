/-! ===== what reading a case may change ===== -/
def DXr (a k : Nat) : Prop := (a = 173 ∧ (k < 10 ∨ k = 33 ∨ k = 47 ∨ k = 48 ∨ k = 49 ∨ k = 98 ∨ k = 100 ∨ k = 101 ∨ k = 102)) ∨ (a = 199 ∧ k < 3) ∨ (a = 200 ∧ k < 12) ∨ ((a = 201 ∨ a = 202 ∨ a = 207) ∧ k < 6) ∨ (203 ≤ a ∧ a ≤ 205) ∨ (a = 206 ∧ k < 36) ∨ (a = 208 ∧ k = 0) ∨ ((a = 209 ∨ a = 210) ∧ k < 2) ∨ (a = 211 ∧ k < 1600) ∨ a = 245 ∨ a = 246
def DX (a k : Nat) : Prop := (a = 0 ∧ k = 1) ∨ a = 2 ∨ a = 4 ∨ a = 5 ∨ (a = 6 ∧ k = 2) ∨ (a = 172 ∧ k = 1) ∨ (a = 175 ∧ k = 1) ∨ DXr a k ∨ a = 170 ∨ a = 247 ∨ (a = 173 ∧ 104 ≤ k ∧ k ≤ 106)
theorem do_ne {a k : Nat} (h : ¬ DXr a k) : DO a k = false := by
  unfold DXr at h
  unfold DO DH DF DG DE DN DB
  have b : ∀ m, Nat.blt k m = decide (k < m) := fun m => by
    by_cases y : k < m
    · rw [decide_eq_true y]; exact Nat.ble_eq_true_of_le y
    · rw [decide_eq_false y]; exact ble_ff (by omega)
  simp only [b]
  simp
  omega
theorem db6_ne {a k : Nat} (h : ¬ DX a k) : DB6 a k = false := by
  unfold DX DXr at h
  unfold DB6
  simp
  omega
theorem okm_congr {n : Nat} {fe fe' : Nat → Int} (e : ∀ k, k < 6 → fe (6 + k) = fe' (6 + k)) {mo a b : Nat} (hn : n ≤ 6) {k : Int} : okm n fe mo a b k ↔ okm n fe' mo a b k := by
  have f : ∀ a b, a < n → fd fe a b = fd fe' a b := fun a b ha => by unfold fd; rw [e a (by omega)]
  unfold okm
  constructor
  · rintro ⟨h1, h2, h3, h4, h5⟩
    refine ⟨h1, h2, h3, by rw [← f a b h1]; exact h4, ?_⟩
    rcases h5 with h5 | ⟨g1, g2, g3, g4, g5, g6, g7⟩
    · exact Or.inl h5
    · exact Or.inr ⟨g1, g2, g3, g4, g5, by rw [← f a _ h1]; exact g6, by rw [← f b _ h2]; exact g7⟩
  · rintro ⟨h1, h2, h3, h4, h5⟩
    refine ⟨h1, h2, h3, by rw [f a b h1]; exact h4, ?_⟩
    rcases h5 with h5 | ⟨g1, g2, g3, g4, g5, g6, g7⟩
    · exact Or.inl h5
    · exact Or.inr ⟨g1, g2, g3, g4, g5, by rw [f a _ h1]; exact g6, by rw [f b _ h2]; exact g7⟩
theorem nbr_congr {n : Nat} {fe fe' : Nat → Int} (e : ∀ k, k < 6 → fe (6 + k) = fe' (6 + k)) {mo : Nat} (hn : n ≤ 6) : nbr n fe mo = nbr n fe' mo := by
  funext c c'
  unfold nbr
  simp only [okm_congr e hn]
theorem rch_congr {n : Nat} {fe fe' : Nat → Int} (e : ∀ k, k < 6 → fe (6 + k) = fe' (6 + k)) {mo : Nat} (hn : n ≤ 6) : rch n fe mo = rch n fe' mo := by
  funext k
  induction k with
  | zero => rfl
  | succ k ih =>
    funext c
    simp only [rch]
    rw [ih, nbr_congr e hn]
theorem si_congr {h : xa_H} {T n : Nat} {fe fe' : Nat → Int} {mo : Nat} (e : ∀ k, k < 6 → fe (6 + k) = fe' (6 + k)) (hn : n ≤ 6) (R : SI h T n fe mo) : SI h T n fe' mo := by
  obtain ⟨h1, h2, h3, h4, h5, h6, h7, h8, h9, h10, h11, h12⟩ := R
  refine ⟨h1, h2, h3, h4, h5, h6, h7, h8, h9, h10, h11, ?_⟩
  unfold SIm at h12 ⊢
  rw [← nbr_congr e hn, ← rch_congr e hn]
  simp only [okm_congr e hn] at h12
  exact h12
/-- a call that reads a case and finds a fault keeps the old one -/
theorem RR.mvN {h h' : xa_H} {s F1 F2 T2 T3 : Nat} (R : RR h s F1 F2 T2 T3) (S' : SH h') (hn : xn h ≤ xn h') (hk : ∀ a, a < xn h → xk h' a = xk h a) (e : ∀ a k, a < xn h → ¬ DX a k → xm h' a k = xm h a k) (gt : Rt h') (gr : Rr h') (gf : Rf h') : RR h' s F1 F2 T2 T3 := by
  have Sh := rr_S R
  have h249 : 249 ≤ xn h := Sh.1
  have C := rr_c R
  have cs := C.2.1
  have hs := cs.1
  have hs2 := cs.2.1
  have nS : ∀ a k, s ≤ a → a < s + 13 → ¬ DX a k := fun a k q1 q2 => by unfold DX DXr; omega
  have eS : ∀ a k, s ≤ a → a < s + 13 → xm h' a k = xm h a k := fun a k q1 q2 => e a k (by omega) (nS a k q1 q2)
  have e9 : ∀ k, 3 ≤ k → xm h' 199 k = xm h 199 k := fun k q => e _ _ (by omega) (by unfold DX DXr; omega)
  have eW : ∀ a k, a = 201 ∨ a = 202 ∨ a = 207 → 6 ≤ k → xm h' a k = xm h a k := fun a k q q2 => e _ _ (by omega) (by unfold DX DXr; omega)
  have e6 : ∀ k, 36 ≤ k → xm h' 206 k = xm h 206 k := fun k q => e _ _ (by omega) (by unfold DX DXr; omega)
  have e0 : ∀ k, 12 ≤ k → xm h' 200 k = xm h 200 k := fun k q => e _ _ (by omega) (by unfold DX DXr; omega)
  have e8 : xm h' 208 1 = xm h 208 1 := e _ _ (by omega) (by unfold DX DXr; omega)
  have e05 : xm h' 0 5 = xm h 0 5 := e _ _ (by omega) (by unfold DX DXr; omega)
  have n3 := e9 3 (by omega)
  have n4 := e9 4 (by omega)
  have n5 := e9 5 (by omega)
  have C' : Rc h' s := by
    obtain ⟨h1, h2, h3, h4, h5, h6, h7, h8, h9, h10, h11, h12, h13, h14, h15, h16⟩ := C
    refine ⟨by rw [e05]; exact h1, h2.mv hn hk eS, by rw [n3]; exact h3, by rw [n4]; exact h4, by rw [e8]; exact h5, ?_, ?_, ?_, ?_, ?_, ?_, ?_, ?_, ?_, ?_, ?_⟩
    · rw [eS _ _ (by omega) (by omega), n3]; exact h6
    · rw [eS _ _ (by omega) (by omega), n4]; exact h7
    · rw [eS _ _ (by omega) (by omega), n5]; exact h8
    · rw [eS _ _ (by omega) (by omega), e8]; exact h9
    · rw [n3]; intro i hi; rw [eS _ _ (by omega) (by omega), eW 201 _ (by omega) (by omega)]; exact h10 i hi
    · rw [n3]; intro i hi; rw [eS _ _ (by omega) (by omega), eW 202 _ (by omega) (by omega)]; exact h11 i hi
    · intro i hi; rw [eS _ _ (by omega) (by omega), e6 _ (by omega)]; exact h12 i hi
    · intro i hi; rw [eS _ _ (by omega) (by omega), eW 207 _ (by omega) (by omega)]; exact h13 i hi
    · intro i j hi hj; rw [eW 207 _ (by omega) (by omega), eW 207 _ (by omega) (by omega)]; exact h14 i j hi hj
    · rw [n3]; intro i hi; rw [eS _ _ (by omega) (by omega), e0 _ (by omega)]; exact h15 i hi
    · rw [n4]; intro i hi; rw [eS _ _ (by omega) (by omega), e0 _ (by omega)]; exact h16 i hi
  have fo : ∀ w F, w < 2 → RFo h s w F → RFo h' s w F := by
    intro w F hw o
    have e1 := eS s (11 + w) (by omega) (by omega)
    have e2 : xm h' 209 (2 + w) = xm h 209 (2 + w) := e _ _ (by omega) (by unfold DX DXr; omega)
    have e3 : xm h' 210 (2 + w) = xm h 210 (2 + w) := e _ _ (by omega) (by unfold DX DXr; omega)
    rcases o with ⟨h1, h2⟩ | ⟨h1, h2, L, a, h3, h4, h5, h6, h7, h8⟩
    · exact Or.inl ⟨by rw [e1]; exact h1, by rw [e2]; exact h2⟩
    · have q1 := h3.1
      have q2 := h3.2.1
      have e11 : ∀ i, i < L → xm h' 211 (1600 + a + i) = xm h 211 (1600 + a + i) := fun i _ => e _ _ (by omega) (by unfold DX DXr; omega)
      refine Or.inr ⟨by rw [e1]; exact h1, h2, L, a, h3.mv hn hk (fun k => e F k (by omega) (by unfold DX DXr; omega)), by rw [e2]; exact h4, by rw [e3]; exact h5, h6, fun i hi => ?_, ?_⟩
      · rw [e (F + 1) i (by omega) (by unfold DX DXr; omega), e11 i hi]
        exact h7 i hi
      · rw [← h8]
        exact trun_congr _ _ e11
  have F' : RFs h' s F1 F2 := by
    have Ff := rr_F R
    exact ⟨fo 0 F1 (by omega) Ff.1, fo 1 F2 (by omega) Ff.2.1, Ff.2.2⟩
  have O' : RSs h' s F1 F2 T2 T3 := by
    have f0 : ∀ w, xm h' 168 w = xm h 168 w := fun w => e _ _ (by omega) (by unfold DX DXr; omega)
    obtain ⟨r1, r2, r3⟩ := rr_o R
    have so : ∀ w T, RSo h s F1 F2 w T → RSo h' s F1 F2 w T := by
      intro w T o
      rcases o with o | ⟨g1, g2, g3, g4, g5⟩
      · exact Or.inl (by rw [f0]; exact o)
      · have q1 := g5.1
        have q2 := g5.2.1
        refine Or.inr ⟨by rw [f0]; exact g1, g2, by rw [eS s 11 (by omega) (by omega)]; exact g3, by rw [eS s 12 (by omega) (by omega)]; exact g4, ?_⟩
        rw [n4]
        have b4 := C.2.2.2.1
        exact si_congr (fun k hk => (eW 207 _ (by omega) (by omega)).symm) (by omega) (g5.mv (fe' := xm h 207) hn hk (fun a k y1 y2 => e a k (by omega) (by unfold DX DXr; omega)) rfl)
    exact ⟨so 0 T2 r1, so 1 T3 r2, by rw [f0, f0]; exact r3.1, r3.2⟩
  have ag : ∀ D : Nat → Nat → Bool, (∀ a k, D a k = true → a < 249 ∧ ¬ DX a k) → agr D h h' := fun D hD a k q => e a k (by have := (hD a k q).1; omega) (hD a k q).2
  have A2 : agr DRo2 h h' := ag _ (fun a k q => by
    unfold DRo2 at q
    simp at q
    unfold DX DXr
    omega)
  refine ⟨S', gt, gr, gf, C', F', (rr_n R).mv (ag _ (fun a k q => ?_)), (rr_h R).mv (ag _ (fun a k q => ?_)), (rr_j R).mv (ag _ (fun a k q => ?_)), (rr_i R).mv (ag _ (fun a k q => ?_)), (rr_s R).mv (ag _ (fun a k q => ?_)), O', (rr_2 R).mv A2⟩
  · unfold DRn at q; simp at q; unfold DX DXr; omega
  · unfold DRh at q; simp at q; unfold DX DXr; omega
  · unfold DRj at q; simp at q; unfold DX DXr; omega
  · unfold DRi at q; simp at q; unfold DX DXr; omega
  · unfold DRs at q; simp at q; unfold DX DXr; omega
