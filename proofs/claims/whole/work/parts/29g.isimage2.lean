theorem s_isHolderTold {h : xa_H} {s : Nat} (S : SH h) (C : Rc h s) (T : RtB h) {n i : Nat} (en : xm h 199 4 = (n : Int)) (hn : n ≤ 6) (hi : i < n) :
    (xrc h 12 173 (f_X12_isHolderTold 173 (i : Int) h) = some 1 ∧ HI h n (xm h 199 3) i ∧ ∀ v, v < i → xm h 174 (hd n v) ≠ xm h 174 (hd n i)) ∨ (xrc h 12 173 (f_X12_isHolderTold 173 (i : Int) h) = some 0 ∧ ¬ (HI h n (xm h 199 3) i ∧ ∀ v, v < i → xm h 174 (hd n v) ≠ xm h 174 (hd n i))) := by
  have hl := hd_lt hn hi
  have pl := s_holderFrom S en hn (i := i) (by omega)
  have g0 : xgf h 12 0 173 = some 174 := xgf_eq (a := 173) (ok_173 S) (pt_173_0 S)
  obtain ⟨p, ep⟩ : ∃ p, p = hd n i := ⟨_, rfl⟩
  unfold HI xrc
  rw [if_pos (ok_173 S)]
  rw [← ep] at pl hl ⊢
  obtain ⟨a1, a2, a3⟩ := T p (by omega)
  obtain ⟨b1, b2, b3⟩ := T (p + 1) (by omega)
  obtain ⟨c1, c2, c3⟩ := T (p + 2) (by omega)
  obtain ⟨d1, d2, d3⟩ := T (p + 3) (by omega)
  have hT : ∀ v : Int, 0 ≤ v → v < xm h 199 3 → xrc h 12 173 (f_X12_isHeldThere 173 v h) = some 1 := fun v v1 v2 => by
    unfold xrc; rw [if_pos (ok_173 S), s_X12_isHeldThere S C v, if_pos ⟨v1, v2⟩]
  have hF : ∀ v : Int, ¬ v < xm h 199 3 → xrc h 12 173 (f_X12_isHeldThere 173 v h) = some 0 := fun v v1 => by
    unfold xrc; rw [if_pos (ok_173 S), s_X12_isHeldThere S C v, if_neg (fun w => v1 w.2)]
  have gc : xrc h 12 173 (f_X12_holderMany 173 h) = some (n : Int) := by
    unfold xrc; rw [if_pos (ok_173 S), s_X12_holderMany S, en]
  unfold f_X12_isHolderTold
  rw [bnd pl, bnd g0, bnd (rb_x S (k := p) (by omega) rfl)]
  by_cases q1 : xm h 174 p < xm h 199 3
  · rw [bnd (hT _ a1 q1), if_neg (show ¬ (1 : Int) = 0 by decide), bnd g0, w32_id (z := (p : Int) + 1) (by omega) (by omega), bnd (rb_x S (k := p + 1) (by omega) (by omega))]
    by_cases q2 : xm h 174 (p + 1) < xm h 199 3
    · rw [bnd (hT _ b1 q2), if_neg (show ¬ (1 : Int) = 0 by decide), bnd g0, w32_id (z := (p : Int) + 2) (by omega) (by omega), bnd (rb_x S (k := p + 2) (by omega) (by omega)), bnd g0, w32_id (z := (p : Int) + 3) (by omega) (by omega), bnd (rb_x S (k := p + 3) (by omega) (by omega)), w32_id (z := 256 * xm h 174 (p + 2)) (by omega) (by omega), w32_id (z := 256 * xm h 174 (p + 2) + xm h 174 (p + 3)) (by omega) (by omega)]
      by_cases q3 : 256 * xm h 174 (p + 2) + xm h 174 (p + 3) ≤ 9999
      · rw [if_neg (show ¬ 9999 < 256 * xm h 174 (p + 2) + xm h 174 (p + 3) by omega)]
        rcases xit_all (f := fun s => f_X12_isHolderTold_L65 173 (i : Int) (p : Int) h s) (fun j => (j : Int)) (fun j => xm h 174 (p + 4 + j) ≤ if j = i then 0 else 99) n (by omega) (fun j hj _ => by
          show (_ ∧ f_X12_isHolderTold_L65 173 (i : Int) (p : Int) h (j : Int) = _) ∨ (_ ∧ f_X12_isHolderTold_L65 173 (i : Int) (p : Int) h (j : Int) = _)
          unfold f_X12_isHolderTold_L65
          rw [bnd gc, if_pos (show (j : Int) < (n : Int) by omega), bnd g0, w32_id (z := (p : Int) + 4) (by omega) (by omega), w32_id (z := (p : Int) + 4 + (j : Int)) (by omega) (by omega), bnd (rb_x S (k := p + 4 + j) (by omega) (by omega))]
          unfold f_X12_isHolderTold_J94L65
          rw [w32_id (z := (j : Int) + 1) (by omega) (by omega), show (j : Int) + 1 = ((j + 1 : Nat) : Int) by omega]
          by_cases y : j = i
          · rw [if_pos (show (j : Int) = (i : Int) by omega), if_pos y]
            by_cases z : xm h 174 (p + 4 + j) ≤ 0
            · exact Or.inl ⟨z, if_neg (by omega)⟩
            · exact Or.inr ⟨z, if_pos (by omega)⟩
          · rw [if_neg (show ¬ (j : Int) = (i : Int) by omega), if_neg y]
            by_cases z : xm h 174 (p + 4 + j) ≤ 99
            · exact Or.inl ⟨z, if_neg (by omega)⟩
            · exact Or.inr ⟨z, if_pos (by omega)⟩) (by
          show f_X12_isHolderTold_L65 173 (i : Int) (p : Int) h (n : Int) = _
          unfold f_X12_isHolderTold_L65
          rw [bnd gc, if_neg (show ¬ (n : Int) < (n : Int) by omega)]) with ⟨e, g⟩ | ⟨e, g⟩
        · refine (fun w => ?_) (xit_all (f := fun s => f_X12_isHolderTold_L107 173 (i : Int) (p : Int) h s) (fun v => (v : Int)) (fun v => xm h 174 (hd n v) ≠ xm h 174 p) i (by omega) (fun v hv _ => by
            have hlv := hd_lt hn (show v < n by omega)
            have plv := s_holderFrom S en hn (i := v) (by omega)
            show (_ ∧ f_X12_isHolderTold_L107 173 (i : Int) (p : Int) h (v : Int) = _) ∨ (_ ∧ f_X12_isHolderTold_L107 173 (i : Int) (p : Int) h (v : Int) = _)
            unfold f_X12_isHolderTold_L107
            rw [if_pos (show (v : Int) < (i : Int) by omega), bnd g0, bnd plv, bnd (rb_x S (k := hd n v) (by omega) rfl), bnd g0, bnd (rb_x S (k := p) (by omega) rfl), w32_id (z := (v : Int) + 1) (by omega) (by omega), show (v : Int) + 1 = ((v + 1 : Nat) : Int) by omega]
            by_cases z : xm h 174 (hd n v) = xm h 174 p
            · exact Or.inr ⟨fun w => w z, if_pos z⟩
            · exact Or.inl ⟨z, if_neg z⟩) (by
            show f_X12_isHolderTold_L107 173 (i : Int) (p : Int) h (i : Int) = _
            unfold f_X12_isHolderTold_L107
            rw [if_neg (show ¬ (i : Int) < (i : Int) by omega)]))
          rcases w with ⟨e2, g2⟩ | ⟨e2, g2⟩
          · exact Or.inl ⟨(bnd e).trans ((bnd e2).trans rfl), ⟨q1, q2, q3, g⟩, g2⟩
          · exact Or.inr ⟨(bnd e).trans ((bnd e2).trans rfl), fun w => g2 w.2⟩
        · exact Or.inr ⟨(bnd e).trans rfl, fun w => g w.1.2.2.2⟩
      · rw [if_pos (show 9999 < 256 * xm h 174 (p + 2) + xm h 174 (p + 3) by omega)]
        exact Or.inr ⟨rfl, fun w => q3 w.1.2.2.1⟩
    · rw [bnd (hF _ q2), if_pos (show (0 : Int) = 0 from rfl)]
      exact Or.inr ⟨rfl, fun w => q2 w.1.2.1⟩
  · rw [bnd (hF _ q1), if_pos (show (0 : Int) = 0 from rfl)]
    exact Or.inr ⟨rfl, fun w => q1 w.1.1⟩
