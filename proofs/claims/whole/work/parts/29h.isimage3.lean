def chT (h : xa_H) : Nat → Int
  | 0 => 17
  | k + 1 => Int.tmod (w32 (w32 (3 * chT h k) + xm h 174 k)) 251
/-- a row, unlike those ahead -/
def HI2 (h : xa_H) (n : Nat) (m : Int) (i : Nat) : Prop := HI h n m i ∧ ∀ v, v < i → xm h 174 (hd n v) ≠ xm h 174 (hd n i)
def isIm (h : xa_H) (n : Nat) (m : Int) (k : Nat) : Prop := k = hd n n + 1 ∧ 256 * xm h 174 0 + xm h 174 1 ≤ 9999 ∧ xm h 174 (hd n n) = chT h (hd n n) ∧ ∀ i, i < n → HI2 h n m i
def mB (h : xa_H) (n : Nat) : Nat → Nat
  | 0 => 0
  | i + 1 => mB h n i ||| 2 ^ (xm h 174 (hd n i)).toNat
theorem mB_bit (h : xa_H) (n t : Nat) : ∀ i, (mB h n i).testBit t = true ↔ ∃ v, v < i ∧ (xm h 174 (hd n v)).toNat = t
  | 0 => by simp [mB]
  | i + 1 => by
    simp only [mB, Nat.testBit_or, Bool.or_eq_true, Nat.testBit_two_pow, decide_eq_true_eq, mB_bit h n t i]
    constructor
    · rintro (⟨v, h1, h2⟩ | e)
      · exact ⟨v, by omega, h2⟩
      · exact ⟨i, by omega, e⟩
    · rintro ⟨v, h1, h2⟩
      by_cases y : v = i
      · exact Or.inr (by rw [← y]; exact h2)
      · exact Or.inl ⟨v, by omega, h2⟩
theorem mB_lt {h : xa_H} {n : Nat} : ∀ i, (∀ v, v < i → (xm h 174 (hd n v)).toNat < 6) → mB h n i < 64
  | 0, _ => by simp [mB]
  | i + 1, hv => by
    have e := b_set (mB h n i) (mB_lt i (fun v w => hv v (by omega))) _ (hv i (by omega))
    exact e.2
theorem s_isImageC {h : xa_H} {s : Nat} (S : SH h) (C : Rc h s) (T : RtB h) {n k : Nat} (en : xm h 199 4 = (n : Int)) (hn : n ≤ 6) : (xrc h 11 0 (f_X11_isImage 0 (k : Int) h) = some 1 ∧ isIm h n (xm h 199 3) k) ∨ (xrc h 11 0 (f_X11_isImage 0 (k : Int) h) = some 0 ∧ ¬ isIm h n (xm h 199 3) k) := by
  have hl := hd_le hn (Nat.le_refl n)
  have hm := rc_m C
  have pl := s_imagePlace S C en hn (Nat.le_refl n)
  have gc : ((xgf h 11 5 0).bind fun x => xgf h 0 2 x) = some (n : Int) := (bnd (xgf_eq (a := 0) (ok_0 S) (rc_s C))).trans (xgf_eq C.2.1.ok ((rc_2 C).trans en))
  obtain ⟨a1, a2, a3⟩ := T 0 (by omega)
  obtain ⟨b1, b2, b3⟩ := T 1 (by omega)
  unfold isIm xrc
  rw [if_pos (ok_0 S)]
  unfold f_X11_isImage
  rw [bas, bnd gc, bnd pl, w32_id (z := ((hd n n : Nat) : Int) + 1) (by omega) (by omega)]
  by_cases q1 : k = hd n n + 1
  · rw [if_pos (show (k : Int) = ((hd n n : Nat) : Int) + 1 by omega), bnd (tp_x S T (k := 0) (z := 0) (by omega) rfl)]
    by_cases q2 : 256 * xm h 174 0 + xm h 174 1 ≤ 9999
    · rw [if_neg (show ¬ 9999 < 256 * xm h 174 0 + xm h 174 (0 + 1) by simp only [Nat.zero_add]; omega)]
      have lc : xit (fun s => f_X11_isImage_L35 0 (k : Int) h s.1 s.2) xFU (17, 0) = some (chT h (hd n n)) :=
        xit_seq (f := fun s => f_X11_isImage_L35 0 (k : Int) h s.1 s.2) (fun j => (chT h j, (j : Int))) (hd n n) _ (fun j hj => by
          show f_X11_isImage_L35 0 (k : Int) h (chT h j) (j : Int) = _
          unfold f_X11_isImage_L35
          rw [w32_id (z := (k : Int) - 1) (by omega) (by omega), if_pos (show (j : Int) < (k : Int) - 1 by omega), bnd (tb_x S T (k := j) (by omega) rfl), w32_id (z := (j : Int) + 1) (by omega) (by omega)]
          rfl) (by
          show f_X11_isImage_L35 0 (k : Int) h (chT h (hd n n)) ((hd n n : Nat) : Int) = _
          unfold f_X11_isImage_L35
          rw [w32_id (z := (k : Int) - 1) (by omega) (by omega), if_neg (show ¬ ((hd n n : Nat) : Int) < (k : Int) - 1 by omega)]) (by omega)
      rw [bnd lc, w32_id (z := (k : Int) - 1) (by omega) (by omega), bnd (tb_x S T (k := hd n n) (by omega) (by omega))]
      by_cases q3 : xm h 174 (hd n n) = chT h (hd n n)
      · rw [if_pos q3]
        refine (fun w => ?_) (xit_all (f := fun s => f_X11_isImage_L80 0 h s.1 s.2) (fun i => (((mB h n i : Nat) : Int), (i : Int))) (HI2 h n (xm h 199 3)) n (by omega) (fun i hi hp => by
          have hli := hd_lt hn hi
          have six : ∀ v, v ≤ i → HI h n (xm h 199 3) v → (xm h 174 (hd n v)).toNat < 6 := fun v hv w => by
            have e := w.1
            omega
          have mb := mB_lt (h := h) (n := n) i (fun v hv => six v (by omega) (hp v hv).1)
          show (_ ∧ f_X11_isImage_L80 0 h ((mB h n i : Nat) : Int) (i : Int) = _) ∨ (_ ∧ f_X11_isImage_L80 0 h ((mB h n i : Nat) : Int) (i : Int) = _)
          unfold f_X11_isImage_L80
          rw [bas, bnd gc, if_pos (show (i : Int) < (n : Int) by omega), bnd (s_imagePlace S C en hn (i := i) (by omega)), bnd (tb_x S T (k := hd n i) (by omega) rfl)]
          rcases s_isHolderImage S C T en hn hi with ⟨e, g⟩ | ⟨e, g⟩
          · rw [bnd e, if_neg (show ¬ (1 : Int) = 0 by decide)]
            have q6 := six i (Nat.le_refl _) g
            obtain ⟨t1, t2, t3⟩ := T (hd n i) (by omega)
            have eq : xm h 174 (hd n i) = (((xm h 174 (hd n i)).toNat : Nat) : Int) := by omega
            have bb := b_bit (mB h n i) mb _ q6
            have bs := (b_set (mB h n i) mb _ q6).1
            rw [← eq] at bb bs
            rw [bb, bs, w32_id (z := (i : Int) + 1) (by omega) (by omega), show (i : Int) + 1 = ((i + 1 : Nat) : Int) by omega]
            by_cases z : (mB h n i).testBit (xm h 174 (hd n i)).toNat = true
            · rw [if_pos z, if_pos (show (1 : Int) = 1 from rfl)]
              obtain ⟨v, z1, z2⟩ := (mB_bit h n _ i).mp z
              obtain ⟨u1, u2, u3⟩ := T (hd n v) (by have := hd_lt hn (show v < n by omega); omega)
              exact Or.inr ⟨fun w => w.2 v z1 (by omega), rfl⟩
            · rw [if_neg z, if_neg (show ¬ (0 : Int) = 1 by decide)]
              exact Or.inl ⟨⟨g, fun v hv ev => z ((mB_bit h n _ i).mpr ⟨v, hv, by rw [ev]⟩)⟩, rfl⟩
          · rw [bnd e, if_pos (show (0 : Int) = 0 from rfl)]
            exact Or.inr ⟨fun w => g w.1, rfl⟩) (by
          show f_X11_isImage_L80 0 h ((mB h n n : Nat) : Int) (n : Int) = _
          unfold f_X11_isImage_L80
          rw [bas, bnd gc, if_neg (show ¬ (n : Int) < (n : Int) by omega)]))
        rcases w with ⟨e2, g2⟩ | ⟨e2, g2⟩
        · exact Or.inl ⟨(bnd e2).trans rfl, q1, q2, q3, g2⟩
        · exact Or.inr ⟨(bnd e2).trans rfl, fun w => g2 w.2.2.2⟩
      · rw [if_neg q3]
        exact Or.inr ⟨rfl, fun w => q3 w.2.2.1⟩
    · rw [if_pos (show 9999 < 256 * xm h 174 0 + xm h 174 (0 + 1) by simp only [Nat.zero_add]; omega)]
      exact Or.inr ⟨rfl, fun w => q2 w.2.1⟩
  · rw [if_neg (show ¬ (k : Int) = ((hd n n : Nat) : Int) + 1 by omega)]
    exact Or.inr ⟨rfl, fun w => q1 w.1⟩
theorem s_isImageM {h : xa_H} {s : Nat} (S : SH h) (C : Rc h s) (T : RtB h) {n k : Nat} (en : xm h 199 4 = (n : Int)) (hn : n ≤ 6) : (xrc h 12 173 (f_X12_isImage 173 (k : Int) h) = some 1 ∧ isIm h n (xm h 199 3) k) ∨ (xrc h 12 173 (f_X12_isImage 173 (k : Int) h) = some 0 ∧ ¬ isIm h n (xm h 199 3) k) := by
  have hl := hd_le hn (Nat.le_refl n)
  have pl := s_holderFrom S en hn (Nat.le_refl n)
  have g0 : xgf h 12 0 173 = some 174 := xgf_eq (a := 173) (ok_173 S) (pt_173_0 S)
  have gc : xrc h 12 173 (f_X12_holderMany 173 h) = some (n : Int) := by
    unfold xrc; rw [if_pos (ok_173 S), s_X12_holderMany S, en]
  obtain ⟨a1, a2, a3⟩ := T 0 (by omega)
  obtain ⟨b1, b2, b3⟩ := T 1 (by omega)
  unfold isIm
  unfold xrc at gc pl ⊢
  rw [if_pos (ok_173 S)] at gc pl ⊢
  unfold f_X12_isImage
  unfold xrc
  rw [if_pos (ok_173 S), bnd gc, if_pos (ok_173 S), bnd pl, w32_id (z := ((hd n n : Nat) : Int) + 1) (by omega) (by omega)]
  by_cases q1 : k = hd n n + 1
  · rw [if_pos (show (k : Int) = ((hd n n : Nat) : Int) + 1 by omega), bnd g0, w32_id (z := (k : Int) - 1) (by omega) (by omega), bnd (rb_x S (k := hd n n) (by omega) (by omega)), bnd g0]
    have lc : f_X12_checked 174 ((k : Int) - 1) h = some (chT h (hd n n)) := by
      have lp := xit_seq (f := fun s => f_X12_checked_L5 174 ((k : Int) - 1) h s.1 s.2) (fun j => (chT h j, (j : Int))) (hd n n) (chT h (hd n n)) (fun j hj => by
        show f_X12_checked_L5 174 ((k : Int) - 1) h (chT h j) (j : Int) = _
        unfold f_X12_checked_L5
        rw [if_pos (show (j : Int) < (k : Int) - 1 by omega), bnd (rb_x S (k := j) (by omega) rfl), w32_id (z := (j : Int) + 1) (by omega) (by omega)]
        rfl) (by
        show f_X12_checked_L5 174 ((k : Int) - 1) h (chT h (hd n n)) ((hd n n : Nat) : Int) = _
        unfold f_X12_checked_L5
        rw [if_neg (show ¬ ((hd n n : Nat) : Int) < (k : Int) - 1 by omega)]) (by omega)
      unfold f_X12_checked
      exact (bnd lp).trans rfl
    rw [bnd lc]
    by_cases q3 : xm h 174 (hd n n) = chT h (hd n n)
    · rw [if_pos q3, bnd g0, bnd (rb_x S (k := 0) (z := 0) (by omega) rfl), bnd g0, bnd (rb_x S (k := 1) (z := 1) (by omega) rfl), w32_id (z := 256 * xm h 174 0) (by omega) (by omega), w32_id (z := 256 * xm h 174 0 + xm h 174 1) (by omega) (by omega)]
      by_cases q2 : 256 * xm h 174 0 + xm h 174 1 ≤ 9999
      · rw [if_neg (show ¬ 9999 < 256 * xm h 174 0 + xm h 174 1 by omega)]
        refine (fun w => ?_) (xit_all (f := fun s => f_X12_isImage_L62 173 h s) (fun i => (i : Int)) (HI2 h n (xm h 199 3)) n (by omega) (fun i hi hp => by
          show (_ ∧ f_X12_isImage_L62 173 h (i : Int) = _) ∨ (_ ∧ f_X12_isImage_L62 173 h (i : Int) = _)
          unfold f_X12_isImage_L62
          rw [bnd (v := (n : Int)) (by unfold xrc; rw [if_pos (ok_173 S)]; exact gc), if_pos (show (i : Int) < (n : Int) by omega), w32_id (z := (i : Int) + 1) (by omega) (by omega), show (i : Int) + 1 = ((i + 1 : Nat) : Int) by omega]
          rcases s_isHolderTold S C T en hn hi with ⟨e, g⟩ | ⟨e, g⟩
          · rw [bnd e, if_neg (show ¬ (1 : Int) = 0 by decide)]
            exact Or.inl ⟨g, rfl⟩
          · rw [bnd e, if_pos (show (0 : Int) = 0 from rfl)]
            exact Or.inr ⟨g, rfl⟩) (by
          show f_X12_isImage_L62 173 h (n : Int) = _
          unfold f_X12_isImage_L62
          rw [bnd (v := (n : Int)) (by unfold xrc; rw [if_pos (ok_173 S)]; exact gc), if_neg (show ¬ (n : Int) < (n : Int) by omega)]))
        rcases w with ⟨e2, g2⟩ | ⟨e2, g2⟩
        · exact Or.inl ⟨(bnd e2).trans rfl, q1, q2, q3, g2⟩
        · exact Or.inr ⟨(bnd e2).trans rfl, fun w => g2 w.2.2.2⟩
      · rw [if_pos (show 9999 < 256 * xm h 174 0 + xm h 174 1 by omega)]
        exact Or.inr ⟨rfl, fun w => q2 w.2.1⟩
    · rw [if_neg q3]
      exact Or.inr ⟨rfl, fun w => q3 w.2.2.1⟩
  · rw [if_neg (show ¬ (k : Int) = ((hd n n : Nat) : Int) + 1 by omega)]
    exact Or.inr ⟨rfl, fun w => q1 w.1⟩
