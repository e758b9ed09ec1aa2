/-! ===== is it an image ===== -/
theorem xit_all' {σ : Type} {f : σ → Option (σ ⊕ (Int ⊕ Unit))} (st : Nat → σ) (P : Nat → Prop) (N : Nat) (h1 : ∀ i, i < N → (∀ t, t < i → P t) → (P i ∧ f (st i) = some (.inl (st (i + 1)))) ∨ (¬ P i ∧ f (st i) = some (.inr (.inl 0)))) (h2 : f (st N) = some (.inr (.inr ()))) :
    ∀ (d j : Nat), j + d = N → ∀ fu, d < fu → (∀ t, t < j → P t) → (xit f fu (st j) = some (.inr ()) ∧ ∀ i, i < N → P i) ∨ (xit f fu (st j) = some (.inl 0) ∧ ¬ ∀ i, i < N → P i)
  | 0, j, hj, fu, hf, hp => by
    have : j = N := by omega
    subst this
    exact Or.inl ⟨xit_end h2 (by omega), hp⟩
  | d + 1, j, hj, fu, hf, hp => by
    obtain ⟨m, rfl⟩ : ∃ m, fu = m + 1 := ⟨fu - 1, by omega⟩
    rcases h1 j (by omega) hp with ⟨p, e⟩ | ⟨p, e⟩
    · rw [xit_go e]
      refine xit_all' st P N h1 h2 d (j + 1) (by omega) m (by omega) (fun t ht => ?_)
      by_cases y : t = j
      · rw [y]; exact p
      · exact hp t (by omega)
    · exact Or.inr ⟨xit_end e (by omega), fun w => p (w j (by omega))⟩
theorem xit_all {σ : Type} {f : σ → Option (σ ⊕ (Int ⊕ Unit))} (st : Nat → σ) (P : Nat → Prop) (N : Nat) (hN : N < 1000000) (h1 : ∀ i, i < N → (∀ t, t < i → P t) → (P i ∧ f (st i) = some (.inl (st (i + 1)))) ∨ (¬ P i ∧ f (st i) = some (.inr (.inl 0)))) (h2 : f (st N) = some (.inr (.inr ()))) :
    (xit f xFU (st 0) = some (.inr ()) ∧ ∀ i, i < N → P i) ∨ (xit f xFU (st 0) = some (.inl 0) ∧ ¬ ∀ i, i < N → P i) :=
  xit_all' st P N h1 h2 N 0 (by omega) xFU (by unfold xFU; omega) (fun t ht => by omega)
def hd (n i : Nat) : Nat := 2 + i * (4 + n)
theorem hd_le {n i : Nat} (hn : n ≤ 6) (hi : i ≤ n) : hd n i ≤ 62 := by
  have := Nat.mul_le_mul (Nat.le_trans hi hn) (show 4 + n ≤ 10 by omega)
  unfold hd
  omega
theorem hd_s (n i : Nat) : hd n (i + 1) = hd n i + (4 + n) := by
  unfold hd
  rw [Nat.add_mul]
  omega
theorem hd_lt {n i : Nat} (hn : n ≤ 6) (hi : i < n) : hd n i + (4 + n) ≤ 62 := by
  rw [← hd_s]
  exact hd_le hn (by omega)
theorem hd_w {n i : Nat} (hn : n ≤ 6) (hi : i ≤ n) : w32 (2 + w32 ((i : Int) * w32 (4 + (n : Int)))) = ((hd n i : Nat) : Int) := by
  have e := hd_le hn hi
  unfold hd at e ⊢
  rw [w32_id (z := 4 + (n : Int)) (by omega) (by omega), show (i : Int) * (4 + (n : Int)) = ((i * (4 + n) : Nat) : Int) by rw [Int.natCast_mul]; rfl, w32_id (z := ((i * (4 + n) : Nat) : Int)) (by omega) (by omega), w32_id (by omega) (by omega)]
  omega
theorem s_imagePlace {h : xa_H} {s : Nat} (S : SH h) (C : Rc h s) {n i : Nat} (en : xm h 199 4 = (n : Int)) (hn : n ≤ 6) (hi : i ≤ n) : xrc h 11 0 (f_X11_imagePlace 0 (i : Int) h) = some ((hd n i : Nat) : Int) := by
  unfold xrc
  rw [if_pos (ok_0 S)]
  unfold f_X11_imagePlace
  refine (bnd (xgf_eq (a := 0) (ok_0 S) (rc_s C))).trans ?_
  refine (bnd (xgf_eq C.2.1.ok ((rc_2 C).trans en))).trans ?_
  rw [hd_w hn hi]
theorem s_holderFrom {h : xa_H} (S : SH h) {n i : Nat} (en : xm h 199 4 = (n : Int)) (hn : n ≤ 6) (hi : i ≤ n) : xrc h 12 173 (f_X12_holderFrom 173 (i : Int) h) = some ((hd n i : Nat) : Int) := by
  unfold xrc
  rw [if_pos (ok_173 S)]
  unfold f_X12_holderFrom
  refine (bnd (v := (n : Int)) (by unfold xrc; rw [if_pos (ok_173 S), s_X12_holderMany S, en])).trans ?_
  rw [hd_w hn hi]
/-- a row of an image -/
def HI (h : xa_H) (n : Nat) (m : Int) (i : Nat) : Prop := xm h 174 (hd n i) < m ∧ xm h 174 (hd n i + 1) < m ∧ 256 * xm h 174 (hd n i + 2) + xm h 174 (hd n i + 3) ≤ 9999 ∧ ∀ j, j < n → xm h 174 (hd n i + 4 + j) ≤ if j = i then 0 else 99
theorem tb_x {h : xa_H} (S : SH h) (T : RtB h) {k : Nat} {z : Int} (hk : k < 1600) (ez : z = (k : Int)) : xrc h 11 0 (f_X11_tapeByte 0 z h) = some (xm h 174 k) := by
  unfold xrc
  rw [ez, if_pos (ok_0 S), s_tapeByte S T hk]
theorem tp_x {h : xa_H} (S : SH h) (T : RtB h) {k : Nat} {z : Int} (hk : k + 1 < 1600) (ez : z = (k : Int)) : xrc h 11 0 (f_X11_tapePair 0 z h) = some (256 * xm h 174 k + xm h 174 (k + 1)) := by
  obtain ⟨a1, a2, a3⟩ := T k (by omega)
  obtain ⟨b1, b2, b3⟩ := T (k + 1) (by omega)
  unfold xrc
  rw [ez, if_pos (ok_0 S)]
  unfold f_X11_tapePair
  refine (bnd (tb_x S T (by omega) rfl)).trans ?_
  rw [w32_id (z := (k : Int) + 1) (by omega) (by omega)]
  refine (bnd (tb_x S T (k := k + 1) (by omega) (by omega))).trans ?_
  rw [w32_id (z := xm h 174 k * 256) (by omega) (by omega), w32_id (by omega) (by omega)]
  congr 1
  omega
theorem rb_x {h : xa_H} (S : SH h) {k : Nat} {z : Int} (hk : k < 1600) (ez : z = (k : Int)) : xal h 0 174 z = some (xm h 174 k) := by
  unfold xal
  rw [ez, if_pos (ia_174 S (by omega) (by omega))]
  rfl
theorem s_isHolderImage {h : xa_H} {s : Nat} (S : SH h) (C : Rc h s) (T : RtB h) {n i : Nat} (en : xm h 199 4 = (n : Int)) (hn : n ≤ 6) (hi : i < n) : (xrc h 11 0 (f_X11_isHolderImage 0 (i : Int) h) = some 1 ∧ HI h n (xm h 199 3) i) ∨ (xrc h 11 0 (f_X11_isHolderImage 0 (i : Int) h) = some 0 ∧ ¬ HI h n (xm h 199 3) i) := by
  have hl := hd_lt hn hi
  have pl := s_imagePlace S C en hn (i := i) (by omega)
  obtain ⟨p, ep⟩ : ∃ p, p = hd n i := ⟨_, rfl⟩
  unfold HI xrc
  rw [if_pos (ok_0 S)]
  rw [← ep] at pl hl ⊢
  obtain ⟨a1, a2, a3⟩ := T p (by omega)
  obtain ⟨b1, b2, b3⟩ := T (p + 1) (by omega)
  obtain ⟨c1, c2, c3⟩ := T (p + 2) (by omega)
  obtain ⟨d1, d2, d3⟩ := T (p + 3) (by omega)
  have hT : ∀ v : Int, 0 ≤ v → v < xm h 199 3 → xrc h 11 0 (f_X11_isHeld 0 v h) = some 1 := fun v v1 v2 => by
    unfold xrc; rw [if_pos (ok_0 S), s_X11_isHeld S C v, if_pos ⟨v1, v2⟩]
  have hF : ∀ v : Int, ¬ v < xm h 199 3 → xrc h 11 0 (f_X11_isHeld 0 v h) = some 0 := fun v v1 => by
    unfold xrc; rw [if_pos (ok_0 S), s_X11_isHeld S C v, if_neg (fun w => v1 w.2)]
  unfold f_X11_isHolderImage
  rw [bnd pl, bnd (tb_x S T (k := p) (by omega) rfl)]
  by_cases q1 : xm h 174 p < xm h 199 3
  · rw [bnd (hT _ a1 q1), if_neg (show ¬ (1 : Int) = 0 by decide), w32_id (z := (p : Int) + 1) (by omega) (by omega), bnd (tb_x S T (k := p + 1) (by omega) (by omega))]
    by_cases q2 : xm h 174 (p + 1) < xm h 199 3
    · rw [bnd (hT _ b1 q2), if_neg (show ¬ (1 : Int) = 0 by decide), w32_id (z := (p : Int) + 2) (by omega) (by omega), bnd (tp_x S T (k := p + 2) (by omega) (by omega))]
      by_cases q3 : 256 * xm h 174 (p + 2) + xm h 174 (p + 2 + 1) ≤ 9999
      · rw [if_neg (by omega)]
        rcases xit_all (f := fun s => f_X11_isHolderImage_L49 0 (i : Int) (p : Int) h s) (fun j => (j : Int)) (fun j => xm h 174 (p + 4 + j) ≤ if j = i then 0 else 99) n (by omega) (fun j hj _ => by
          have gc : ((xgf h 11 5 0).bind fun x => xgf h 0 2 x) = some (n : Int) := (bnd (xgf_eq (a := 0) (ok_0 S) (rc_s C))).trans (xgf_eq C.2.1.ok ((rc_2 C).trans en))
          show (_ ∧ f_X11_isHolderImage_L49 0 (i : Int) (p : Int) h (j : Int) = _) ∨ (_ ∧ f_X11_isHolderImage_L49 0 (i : Int) (p : Int) h (j : Int) = _)
          unfold f_X11_isHolderImage_L49
          rw [bas, bnd gc, if_pos (show (j : Int) < (n : Int) by omega), w32_id (z := (p : Int) + 4) (by omega) (by omega), w32_id (z := (p : Int) + 4 + (j : Int)) (by omega) (by omega), bnd (tb_x S T (k := p + 4 + j) (by omega) (by omega))]
          unfold f_X11_isHolderImage_J80L49
          rw [w32_id (z := (j : Int) + 1) (by omega) (by omega), show (j : Int) + 1 = ((j + 1 : Nat) : Int) by omega]
          by_cases y : j = i
          · rw [if_pos (show (j : Int) = (i : Int) by omega), if_pos y]
            by_cases z : xm h 174 (p + 4 + j) ≤ 0
            · exact Or.inl ⟨z, if_neg (by omega)⟩
            · exact Or.inr ⟨z, if_pos (by omega)⟩
          · rw [if_neg (show ¬ (j : Int) = (i : Int) by omega), if_neg y]
            by_cases z : xm h 174 (p + 4 + j) ≤ 99
            · exact Or.inl ⟨z, if_neg (by omega)⟩
            · exact Or.inr ⟨z, if_pos (by omega)⟩) (by
          have gc : ((xgf h 11 5 0).bind fun x => xgf h 0 2 x) = some (n : Int) := (bnd (xgf_eq (a := 0) (ok_0 S) (rc_s C))).trans (xgf_eq C.2.1.ok ((rc_2 C).trans en))
          show f_X11_isHolderImage_L49 0 (i : Int) (p : Int) h (n : Int) = _
          unfold f_X11_isHolderImage_L49
          rw [bas, bnd gc, if_neg (show ¬ (n : Int) < (n : Int) by omega)]) with ⟨e, g⟩ | ⟨e, g⟩
        · exact Or.inl ⟨(bnd e).trans rfl, q1, q2, q3, g⟩
        · exact Or.inr ⟨(bnd e).trans rfl, fun w => g w.2.2.2⟩
      · rw [if_pos (by omega)]
        exact Or.inr ⟨rfl, fun w => q3 w.2.2.1⟩
    · rw [bnd (hF _ q2), if_pos (show (0 : Int) = 0 from rfl)]
      exact Or.inr ⟨rfl, fun w => q2 w.2.1⟩
  · rw [bnd (hF _ q1), if_pos (show (0 : Int) = 0 from rfl)]
    exact Or.inr ⟨rfl, fun w => q1 w.1⟩
