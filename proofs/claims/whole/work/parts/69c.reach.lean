/-! ===== the class's sorter comes to an order ===== -/
def FT (T : Nat) (H H' : xa_H) : Prop := xn H' = xn H ∧ xz H' = xz H ∧ xk H' = xk H ∧ ∀ a k, ¬ (T + 2 ≤ a ∧ a < T + 5) → ¬ (a = T ∧ (k = 5 ∨ k = 6)) → xm H' a k = xm H a k
theorem FT.tr {T : Nat} {H H' H'' : xa_H} (a : FT T H H') (b : FT T H' H'') : FT T H H'' := ⟨b.1.trans a.1, b.2.1.trans a.2.1, b.2.2.1.trans a.2.2.1, fun x k d1 d2 => (b.2.2.2 x k d1 d2).trans (a.2.2.2 x k d1 d2)⟩
theorem FT.refl (T : Nat) (H : xa_H) : FT T H H := ⟨rfl, rfl, rfl, fun _ _ _ _ => rfl⟩
theorem FT.set {T : Nat} {H H' : xa_H} (e : FT T H H') {x k : Nat} {v : Int} (h : (T + 2 ≤ x ∧ x < T + 5) ∨ (x = T ∧ (k = 5 ∨ k = 6))) : FT T H (xset H' x k v) := ⟨e.1, e.2.1, e.2.2.1, fun a j y z => by rw [xm_xset, if_neg (by omega)]; exact e.2.2.2 a j y z⟩
theorem FO.ft {T : Nat} {H H' : xa_H} (e : FO T H H') : FT T H H' := ⟨e.1, e.2.1, e.2.2.1, fun a k y _ => e.2.2.2 a k (by omega)⟩
theorem SX.ft {H H' : xa_H} {T n : Nat} (R : SX H T n) (e : FT T H H') : SX H' T n := by
  obtain ⟨h1, h2, h3, h4, h5, h6, h7, h8, h9, h10, h11, h12, h13⟩ := R
  have m : ∀ k, k ≠ 5 → k ≠ 6 → xm H' T k = xm H T k := fun k y z => e.2.2.2 T k (by omega) (by omega)
  rw [← e.2.2.1] at h3 h4 h5 h6 h7
  exact ⟨h1, by rw [e.1]; exact h2, h3, h4, h5, h6, h7, by rw [m _ (by omega) (by omega)]; exact h8, by rw [m _ (by omega) (by omega)]; exact h9, by rw [m _ (by omega) (by omega)]; exact h10, by rw [m _ (by omega) (by omega)]; exact h11, by rw [m _ (by omega) (by omega)]; exact h12, h13⟩
theorem OD.cg {H H' : xa_H} {T n c : Nat} (O : OD H T n c) (e : ∀ k, xm H' (T + 2) k = xm H (T + 2) k) : OD H' T n c := fun i hi => by rw [e]; exact O i hi
def SS (H : xa_H) (T n : Nat) (Q L : Nat → Nat) (hd tl : Nat) : Prop := xm H T 5 = (hd : Int) ∧ xm H T 6 = (tl : Int) ∧ (∀ i, i < tl → vperm n (Q i) ∧ xm H (T + 4) i = ((pk3 (fun t => dg t (Q i)) n : Nat) : Int) ∧ xm H (T + 3) (rkn n (Q i) n) = (L i : Int)) ∧
  (∀ i, tl ≤ i → i < fct n → xm H (T + 4) i = 0) ∧ ∀ c, vperm n c → xm H (T + 3) (rkn n c n) = -1 ∨ ∃ i, i < tl ∧ Q i = c
theorem SS.fo {H H' : xa_H} {T n : Nat} {Q L : Nat → Nat} {hd tl : Nat} (X : SS H T n Q L hd tl) (e : FO T H H') : SS H' T n Q L hd tl := by
  have m : ∀ a k, a ≠ T + 2 → xm H' a k = xm H a k := e.2.2.2
  obtain ⟨h1, h2, h3, h4, h5⟩ := X
  refine ⟨by rw [m _ _ (by omega)]; exact h1, by rw [m _ _ (by omega)]; exact h2, fun i hi => ?_, fun i h6 h7 => ?_, fun c V => ?_⟩
  · rw [m _ _ (by omega), m _ _ (by omega)]; exact h3 i hi
  · rw [m _ _ (by omega)]; exact h4 i h6 h7
  · rw [m _ _ (by omega)]; exact h5 c V
theorem p3_lt {c n : Nat} : pk3 (fun t => dg t c) n < 8 ^ n := by
  rw [pk3_b]
  exact encb_lt n (fun i _ => by have := dg_lt i c; omega)
theorem p8_2 (i : Nat) : 8 ^ i = 2 ^ (3 * i) := by rw [Nat.pow_mul]
theorem p8_le {i : Nat} (h : i ≤ 6) : 8 ^ i ≤ 262144 := Nat.pow_le_pow_right (by decide) h
theorem p3_or {c i : Nat} (hi : i < 6) : xior ((pk3 (fun t => dg t c) i : Nat) : Int) (xshl ((dg i c : Nat) : Int) (w32 (3 * (i : Int)))) = ((pk3 (fun t => dg t c) (i + 1) : Nat) : Int) := by
  have d6 := dg_lt i c
  have pl := p3_lt (c := c) (n := i)
  have p5 := Nat.pow_le_pow_right (n := 8) (by decide) (show i ≤ 5 by omega)
  have b1 : dg i c * 2 ^ (3 * i) ≤ 5 * 8 ^ 5 := by
    rw [← p8_2]
    exact Nat.mul_le_mul (by omega) p5
  have e5 : (5 * 8 ^ 5 : Nat) = 163840 := by decide
  have e6 : (8 ^ 5 : Nat) = 32768 := by decide
  rw [e5] at b1
  rw [e6] at p5
  rw [show (3 : Int) * (i : Int) = ((3 * i : Nat) : Int) by omega, w32_id (by omega) (by omega), x_shl (by omega) (by omega), x_or (by omega) (by omega)]
  have := Nat.two_pow_add_eq_or_of_lt (i := 3 * i) (b := pk3 (fun t => dg t c) i) (by rw [← p8_2]; exact pl) (dg i c)
  rw [Nat.or_comm, Nat.mul_comm, ← this]
  simp only [pk3]
  rw [p8_2, Nat.mul_comm, Nat.add_comm]
theorem sx_ln {H : xa_H} {T n : Nat} (R : SX H T n) : xln H ((T + 4 : Nat) : Int) = some (fct n : Int) := by
  have h2 := R.2.1
  have h7 := R.2.2.2.2.2.2.1
  have f := fct_720 (sx_n R)
  unfold xln
  simp only [Int.toNat_natCast, h7]
  rw [if_pos]
  simp
  omega
theorem t_reachOld {H : xa_H} {T n c : Nat} {v : Int} (R : SX H T n) (O : OD H T n c) (V : vperm n c) (h : xm H (T + 3) (rkn n c n) ≠ -1) : f_X8_reach (T : Int) v H = some H := by
  have rb := rkn_bd V
  unfold f_X8_reach
  rw [xSo R, t_rank R O V, bbind, gSo R, sx_3 R]
  refine (bnd (xal_eq (v := xm H (T + 3) (rkn n c n)) (sx_i3 R rb) rfl)).trans ?_
  rw [if_neg h]
theorem t_reachNew {H : xa_H} {T n c tl : Nat} {v : Int} (R : SX H T n) (O : OD H T n c) (V : vperm n c) (h : xm H (T + 3) (rkn n c n) = -1) (h6 : xm H T 6 = (tl : Int)) (ht : tl < fct n) (h0 : xm H (T + 4) tl = 0) :
    f_X8_reach (T : Int) v H = some (xset (xset (xset H (T + 3) (rkn n c n) v) (T + 4) tl ((pk3 (fun t => dg t c) n : Nat) : Int)) T 6 ((tl + 1 : Nat) : Int)) := by
  have rb := rkn_bd V
  have n6 := sx_n R
  have f7 := fct_720 n6
  obtain ⟨f, ef⟩ : ∃ f : Nat → Nat, f = fun t => dg t c := ⟨_, rfl⟩
  obtain ⟨H1, e1⟩ : ∃ z, z = xset H (T + 3) (rkn n c n) v := ⟨_, rfl⟩
  have R1 : SX H1 T n := by rw [e1]; exact R.set (by omega)
  have m1 : ∀ a k, a ≠ T + 3 → xm H1 a k = xm H a k := fun a k y => by rw [e1, xm_xset, if_neg (by omega)]
  obtain ⟨hp, ehp⟩ : ∃ hp : Nat → xa_H, ∀ i, hp i = xset H1 (T + 4) tl ((pk3 f i : Nat) : Int) := ⟨_, fun _ => rfl⟩
  have s0 : hp 0 = H1 := by
    rw [ehp, show ((pk3 f 0 : Nat) : Int) = xm H1 (T + 4) tl by rw [m1 _ _ (by omega), h0]; rfl, xset_self]
  have Ri : ∀ i, SX (hp i) T n := fun i => by rw [ehp]; exact R1.set (by omega)
  have mi : ∀ i a k, a ≠ T + 4 → xm (hp i) a k = xm H1 a k := fun i a k y => by rw [ehp, xm_xset, if_neg (by omega)]
  have i6 : ∀ i, xm (hp i) T 6 = (tl : Int) := fun i => by rw [mi _ _ _ (by omega), m1 _ _ (by omega)]; exact h6
  obtain ⟨st, est⟩ : ∃ st : Nat → Int × xa_H, ∀ i, st i = ((i : Int), hp i) := ⟨_, fun _ => rfl⟩
  have it := xit_seq (f := fun s : Int × xa_H => f_X8_reach_L37 (T : Int) s.1 s.2) st n (hp n) (fun i hi => ?_) ?_ (by omega)
  · rw [est, s0] at it
    unfold f_X8_reach
    rw [xSo R, t_rank R O V, bbind, gSo R, sx_3 R]
    refine (bnd (xal_eq (v := -1) (sx_i3 R rb) h)).trans ?_
    rw [if_pos rfl, gSo R, h6, gSo R, sx_4 R, sx_ln R, bbind, if_pos (by omega), gSo R, sx_3 R]
    refine (bnd (xas_eq (sx_i3 R rb))).trans ?_
    rw [← e1]
    refine (bnd it).trans ?_
    rw [gSo (Ri n), i6, pSo (Ri n), wS (by omega), ehp, ← ef]
  · rw [est, est]
    show f_X8_reach_L37 (T : Int) (i : Int) (hp i) = _
    have Rq := Ri i
    unfold f_X8_reach_L37
    rw [gSo Rq, sx_0 Rq, if_pos (by omega), gSo Rq, sx_4 Rq, gSo Rq, i6]
    refine (bnd (xal_eq (v := ((pk3 f i : Nat) : Int)) (sx_i4 Rq ht) (by rw [ehp, xm_xset, if_pos ⟨rfl, rfl⟩]))).trans ?_
    rw [gSo Rq, sx_7 Rq]
    refine (bnd (xal_eq (v := ((dg i c : Nat) : Int)) (sx_i2 Rq (by omega)) (by rw [mi _ _ _ (by omega), m1 _ _ (by omega)]; exact O i hi))).trans ?_
    rw [ef, p3_or (by omega), ← ef]
    refine (bnd (xas_eq (sx_i4 Rq ht))).trans ?_
    rw [ehp, ehp, xset_xset, wS (by omega)]
  · rw [est]
    show f_X8_reach_L37 (T : Int) (n : Int) (hp n) = _
    have Rq := Ri n
    unfold f_X8_reach_L37
    rw [gSo Rq, sx_0 Rq, if_neg (by omega)]
theorem t_reach {S nb : Nat → Nat → Prop} {H : xa_H} {T n c hd tl : Nat} {Q L : Nat → Nat} (R : SX H T n) (O : OD H T n c) (V : vperm n c) (X : SS H T n Q L hd tl) (B : BF S nb Q L hd tl) (hS : ∀ k c, S (k + 1) c → S k c ∨ ∃ c0, S k c0 ∧ nb c0 c) (hS' : ∀ k c c0, S k c0 → nb c0 c → S (k + 1) c) (hl : hd < tl) (ht : tl ≤ fct n) (hn : nb (Q hd) c) :
    ∃ H' Q' L' tl', f_X8_reach (T : Int) ((L hd + 1 : Nat) : Int) H = some H' ∧ FT T H H' ∧ OD H' T n c ∧ SS H' T n Q' L' hd tl' ∧ BF S nb Q' L' hd tl' ∧ tl ≤ tl' ∧ tl' ≤ fct n ∧ (∀ i, i < tl → Q' i = Q i ∧ L' i = L i) ∧ ∃ j, j < tl' ∧ Q' j = c := by
  obtain ⟨h1, h2, h3, h4, h5⟩ := X
  by_cases y : xm H (T + 3) (rkn n c n) = -1
  · have new : ∀ j, j < tl → Q j ≠ c := fun j hj e => by
      have := (h3 j hj).2.2
      rw [e, y] at this
      omega
    have B' := bf_add B hS hS' hl hn new
    obtain ⟨Q', eQ⟩ : ∃ Q' : Nat → Nat, Q' = fun i => if i = tl then c else Q i := ⟨_, rfl⟩
    obtain ⟨L', eL⟩ : ∃ L' : Nat → Nat, L' = fun i => if i = tl then L hd + 1 else L i := ⟨_, rfl⟩
    rw [← eQ, ← eL] at B'
    have Qt : Q' tl = c := by rw [eQ]; exact if_pos rfl
    have Lt : L' tl = L hd + 1 := by rw [eL]; exact if_pos rfl
    have Qo : ∀ i, i ≠ tl → Q' i = Q i := fun i y => by rw [eQ]; exact if_neg y
    have Lo : ∀ i, i ≠ tl → L' i = L i := fun i y => by rw [eL]; exact if_neg y
    have Vq : ∀ i, i < tl + 1 → vperm n (Q' i) := fun i hi => by
      by_cases z : i = tl
      · rw [z, Qt]; exact V
      · rw [Qo i z]; exact (h3 i (by omega)).1
    have lt : tl + 1 ≤ fct n := fits (f := fun i => rkn n (Q' i) n) (fun i j hi hj e => B'.1 i j hi hj (rkn_inj (Vq i hi) (Vq j hj) e)) (fun j hj => rkn_bd (Vq j hj))
    have go := t_reachNew (v := ((L hd + 1 : Nat) : Int)) R O V y h2 (by omega) (h4 tl (Nat.le_refl _) (by omega))
    obtain ⟨H', eH⟩ : ∃ z, z = xset (xset (xset H (T + 3) (rkn n c n) ((L hd + 1 : Nat) : Int)) (T + 4) tl ((pk3 (fun t => dg t c) n : Nat) : Int)) T 6 ((tl + 1 : Nat) : Int) := ⟨_, rfl⟩
    rw [← eH] at go
    have m3 : ∀ k, xm H' (T + 3) k = if k = rkn n c n then ((L hd + 1 : Nat) : Int) else xm H (T + 3) k := fun k => by
      rw [eH, xm_xset, if_neg (by omega), xm_xset, if_neg (by omega), xm_xset]
      by_cases z : k = rkn n c n
      · rw [if_pos ⟨rfl, z⟩, if_pos z]
      · rw [if_neg (fun w => z w.2), if_neg z]
    have m4 : ∀ k, xm H' (T + 4) k = if k = tl then ((pk3 (fun t => dg t c) n : Nat) : Int) else xm H (T + 4) k := fun k => by
      rw [eH, xm_xset, if_neg (by omega), xm_xset]
      by_cases z : k = tl
      · rw [if_pos ⟨rfl, z⟩, if_pos z]
      · rw [if_neg (fun w => z w.2), if_neg z, xm_xset, if_neg (by omega)]
    refine ⟨H', Q', L', tl + 1, go, ?_, O.cg (fun k => by rw [eH, xm_xset, if_neg (by omega), xm_xset, if_neg (by omega), xm_xset, if_neg (by omega)]), ⟨?_, ?_, fun i hi => ⟨Vq i hi, ?_, ?_⟩, fun i hi hj => ?_, fun d W => ?_⟩, B', by omega, lt, fun i hi => ⟨Qo i (by omega), Lo i (by omega)⟩, tl, by omega, Qt⟩
    · rw [eH]
      exact (((FT.refl T H).set (by omega)).set (by omega)).set (by omega)
    · rw [eH, xm_xset, if_neg (by omega), xm_xset, if_neg (by omega), xm_xset, if_neg (by omega)]; exact h1
    · rw [eH, xm_xset, if_pos ⟨rfl, rfl⟩]
    · rw [m4]
      by_cases z : i = tl
      · rw [if_pos z, z, Qt]
      · rw [if_neg z, Qo i z]; exact (h3 i (by omega)).2.1
    · rw [m3]
      by_cases z : i = tl
      · rw [z, Qt, if_pos rfl, Lt]
      · rw [Qo i z, Lo i z, if_neg]
        · exact (h3 i (by omega)).2.2
        · exact fun w => new i (by omega) (rkn_inj (h3 i (by omega)).1 V w)
    · rw [m4, if_neg (by omega)]
      exact h4 i (by omega) hj
    · by_cases z : d = c
      · exact Or.inr ⟨tl, by omega, by rw [Qt, z]⟩
      · rw [m3, if_neg (fun w => z (rkn_inj W V w))]
        rcases h5 d W with w | ⟨i, hi, e⟩
        · exact Or.inl w
        · exact Or.inr ⟨i, by omega, by rw [Qo i (by omega)]; exact e⟩
  · refine ⟨H, Q, L, tl, t_reachOld R O V y, FT.refl _ _, O, ⟨h1, h2, h3, h4, h5⟩, B, Nat.le_refl _, ht, fun i _ => ⟨rfl, rfl⟩, ?_⟩
    rcases h5 c V with w | w
    · exact absurd w y
    · exact w
