theorem chT_o {h g : xa_H} (e : xm g 174 = xm h 174) : ∀ k, chT g k = chT h k
  | 0 => rfl
  | k + 1 => by simp only [chT]; rw [e, chT_o e k]
theorem isIm_o {h g : xa_H} (e : xm g 174 = xm h 174) (n : Nat) (m : Int) (k : Nat) : isIm g n m k ↔ isIm h n m k := by
  unfold isIm HI2 HI
  rw [e, chT_o e]
theorem rsv_o {h g : xa_H} (e : xm g 174 = xm h 174) (n k t : Nat) : rsv g n k t = rsv h n k t := by
  unfold rsv
  rw [e]
/-- both have resumed -/
theorem rr_resume {h M : xa_H} {s F1 F2 T2 T3 n k : Nat} (R : RR h s F1 F2 T2 T3) (en : xm h 199 4 = (n : Int)) (hn : n ≤ 6) (im : isIm h n (xm h 199 3) k) (SM : SH M) (en1 : xn M = xn h) (ek1 : xk M = xk h)
    (o : ∀ a j, (a = 0 ∧ j = 1) ∨ (a = 20 ∧ (j = 0 ∨ j = 6)) ∨ (a = 26 ∧ j = 2) ∨ (21 ≤ a ∧ a ≤ 24) ∨ (a = 173 ∧ (j = 1 ∨ j = 74)) ∨ a = 212 ∨ xm M a j = xm h a j)
    (t1 : xm M 0 1 = 0) (t2 : xm M 173 1 = 0) (t3 : xm M 26 2 = 0) (t4 : xm M 173 74 = 0) (t5 : xm M 20 6 = 0) (t6 : xm M 212 55 = 0) (t7 : xm M 20 0 = 256 * xm h 174 0 + xm h 174 1) (t8 : xm M 212 0 = 256 * xm h 174 0 + xm h 174 1)
    (c1 : ∀ i, xm M 21 i = rsA h n 21 0 n i) (c2 : ∀ i, xm M 22 i = rsA h n 22 1 n i) (c3 : ∀ i, xm M 23 i = rsP h n n i) (c4 : ∀ i, xm M 24 i = rsM h n n 0 i)
    (c5 : ∀ i t, i < 6 → t < 9 → xm M 212 (1 + 9 * i + t) = if i < n ∧ t < 3 + n then rsv h n i t else xm h 212 (1 + 9 * i + t)) : RR M s F1 F2 T2 T3 := by
  have N := rr_n R
  obtain ⟨T, _⟩ := rr_t R
  obtain ⟨i1, i2, i3, i4⟩ := im
  have hm := rc_m (rr_c R)
  obtain ⟨a1, a2, a3⟩ := T 0 (by omega)
  obtain ⟨b1, b2, b3⟩ := T 1 (by omega)
  have A : ∀ D : Nat → Nat → Bool, D 0 1 = false → D 20 0 = false → D 20 6 = false → D 26 2 = false → (∀ j, D 21 j = false) → (∀ j, D 22 j = false) → (∀ j, D 23 j = false) → (∀ j, D 24 j = false) → D 173 1 = false → D 173 74 = false → (∀ j, D 212 j = false) → agr D h M := by
    intro D x1 x2 x3 x4 x5 x6 x7 x8 x9 x10 x11 a j hd
    have no : ∀ a' j', a = a' → j = j' → D a' j' = false → False := fun a' j' y1 y2 y3 => by
      rw [← y1, ← y2, hd] at y3; exact absurd y3 (by decide)
    have no2 : ∀ a', a = a' → (∀ j, D a' j = false) → False := fun a' y1 y3 => no a' j y1 rfl (y3 j)
    rcases o a j with ⟨y1, y2⟩ | ⟨y1, y2 | y2⟩ | ⟨y1, y2⟩ | ⟨y1, y2⟩ | ⟨y1, y2 | y2⟩ | y1 | y
    · exact (no _ _ y1 y2 x1).elim
    · exact (no _ _ y1 y2 x2).elim
    · exact (no _ _ y1 y2 x3).elim
    · exact (no _ _ y1 y2 x4).elim
    · have : a = 21 ∨ a = 22 ∨ a = 23 ∨ a = 24 := by omega
      rcases this with y | y | y | y
      · exact (no2 _ y x5).elim
      · exact (no2 _ y x6).elim
      · exact (no2 _ y x7).elim
      · exact (no2 _ y x8).elim
    · exact (no _ _ y1 y2 x9).elim
    · exact (no _ _ y1 y2 x10).elim
    · exact (no2 _ y1 x11).elim
    · exact y
  have q : ∀ a j, a ≠ 0 → a ≠ 20 → a ≠ 26 → ¬(21 ≤ a ∧ a ≤ 24) → a ≠ 173 → a ≠ 212 → xm M a j = xm h a j := fun a j y1 y2 y3 y4 y5 y6 => by
    rcases o a j with y | y | y | y | y | y | y
    · omega
    · omega
    · omega
    · omega
    · omega
    · omega
    · exact y
  refine R.mvL SM (by omega) (fun a _ => by rw [ek1]) (A _ rfl rfl rfl rfl (fun _ => rfl) (fun _ => rfl) (fun _ => rfl) (fun _ => rfl) rfl rfl (fun _ => rfl)) ?_ ((rr_r R).mv (A _ rfl rfl rfl rfl (fun _ => rfl) (fun _ => rfl) (fun _ => rfl) (fun _ => rfl) rfl rfl (fun _ => rfl))) ((rr_f R).mv (A _ rfl rfl rfl rfl (fun _ => rfl) (fun _ => rfl) (fun _ => rfl) (fun _ => rfl) rfl rfl (fun _ => rfl))) ⟨?_, ?_⟩ ?_ ((rr_j R).mv (A _ rfl rfl rfl rfl (fun _ => rfl) (fun _ => rfl) (fun _ => rfl) (fun _ => rfl) rfl rfl (fun _ => rfl))) ((rr_i R).mv (A _ rfl rfl rfl rfl (fun _ => rfl) (fun _ => rfl) (fun _ => rfl) (fun _ => rfl) rfl rfl (fun _ => rfl))) ((rr_s R).mv (A _ rfl rfl rfl rfl (fun _ => rfl) (fun _ => rfl) (fun _ => rfl) (fun _ => rfl) rfl rfl (fun _ => rfl))) ((rr_2 R).mv (A _ rfl rfl rfl rfl (fun _ => rfl) (fun _ => rfl) (fun _ => rfl) (fun _ => rfl) rfl rfl (fun _ => rfl)))
  · refine ⟨fun j hj => ?_, by rw [t1, t2], by rw [t2]; decide, by rw [t2]; decide⟩
    rw [q 174 j (by omega) (by omega) (by omega) (by omega) (by omega) (by omega), q 1 j (by omega) (by omega) (by omega) (by omega) (by omega) (by omega)]
    exact T j hj
  · refine ⟨?_, fun i hi => ?_, fun i hi => ?_, fun i hi => ?_, fun i j hi hj => ?_, ?_, fun k hk => ?_⟩
    · rw [t7, t8]
    · show xm M 21 i = xm M 212 (0 + (1 + 9 * i))
      rw [Nat.zero_add, c1, show 1 + 9 * i = 1 + 9 * i + 0 from rfl, c5 i 0 hi (by omega)]
      unfold rsA rsv
      by_cases y : i < n
      · rw [if_pos y, if_pos ⟨y, by omega⟩, if_neg (by omega), if_pos (by omega)]
      · rw [if_neg y, if_neg (fun w => y w.1)]; exact rn_has N hi
    · show xm M 22 i = xm M 212 (0 + (1 + 9 * i + 1))
      rw [Nat.zero_add, c2, c5 i 1 hi (by omega)]
      unfold rsA rsv
      by_cases y : i < n
      · rw [if_pos y, if_pos ⟨y, by omega⟩, if_neg (by omega), if_pos (by omega)]
      · rw [if_neg y, if_neg (fun w => y w.1)]; exact rn_wants N hi
    · show xm M 23 i = xm M 212 (0 + (1 + 9 * i + 2))
      rw [Nat.zero_add, c3, c5 i 2 hi (by omega)]
      unfold rsP rsv
      by_cases y : i < n
      · rw [if_pos y, if_pos ⟨y, by omega⟩, if_pos rfl]
      · rw [if_neg y, if_neg (fun w => y w.1)]; exact rn_purse N hi
    · show xm M 24 (i * 6 + j) = xm M 212 (0 + (1 + 9 * i + 3 + j))
      rw [Nat.zero_add, c4, show 1 + 9 * i + 3 + j = 1 + 9 * i + (3 + j) by omega, c5 i (3 + j) hi (by omega)]
      unfold rsM rsv
      rw [show (i * 6 + j) / 6 = i by omega, show (i * 6 + j) % 6 = j by omega]
      by_cases y : i < n ∧ j < n
      · rw [if_pos (by omega), if_pos (by omega), if_neg (by omega), if_neg (by omega), show hd n i + 1 + (3 + j) = hd n i + 4 + j by omega]
      · rw [if_neg (by omega), if_neg (by omega), show 1 + 9 * i + (3 + j) = 1 + 9 * i + 3 + j by omega]; exact rn_met N hi hj
    · show xm M 20 6 = xm M 212 (0 + 55)
      rw [t5, Nat.zero_add, t6]
    · rw [show 0 + 55 = 55 from rfl, t6] at hk
      omega
  · rw [q 199 4 (by omega) (by omega) (by omega) (by omega) (by omega) (by omega), q 199 3 (by omega) (by omega) (by omega) (by omega) (by omega) (by omega), en]
    have v : ∀ i t, i < n → t < 3 + n → xm M 212 (0 + (1 + 9 * i + t)) = rsv h n i t := fun i t hi ht => by
      rw [Nat.zero_add, c5 i t (by omega) (by omega), if_pos ⟨hi, ht⟩]
    have bt : ∀ k, k < 1600 → 0 ≤ xm h 174 k := fun k hk => (T k hk).1
    have v0 : ∀ i, i < n → xm M 212 (0 + (1 + 9 * i)) = xm h 174 (hd n i) := fun i hi => by
      have := v i 0 hi (by omega)
      unfold rsv at this
      rw [if_neg (by omega), if_pos (by omega)] at this
      exact this
    refine ⟨by rw [t8]; omega, fun i hi => ?_, fun i hi => ?_, fun i hi => ?_, fun i j hi hj => ?_, fun i j hi hj e => ?_, by rw [show 0 + 55 = 55 from rfl, t6]; decide, fun k hk => ?_⟩
    · have l := hd_lt hn (show i < n by omega)
      rw [v0 i (by omega)]
      exact ⟨bt _ (by omega), (i4 i (by omega)).1.1⟩
    · have l := hd_lt hn (show i < n by omega)
      rw [v i 1 (by omega) (by omega)]
      unfold rsv
      rw [if_neg (by omega), if_pos (by omega)]
      exact ⟨bt _ (by omega), (i4 i (by omega)).1.2.1⟩
    · have l := hd_lt hn (show i < n by omega)
      rw [v i 2 (by omega) (by omega)]
      unfold rsv
      rw [if_pos rfl]
      have := bt (hd n i + 2) (by omega)
      have := bt (hd n i + 3) (by omega)
      have := (i4 i (by omega)).1.2.2.1
      omega
    · have l := hd_lt hn (show i < n by omega)
      rw [show 0 + (1 + 9 * i + 3 + j) = 0 + (1 + 9 * i + (3 + j)) by omega, v i (3 + j) (by omega) (by omega)]
      unfold rsv
      rw [if_neg (by omega), if_neg (by omega), show hd n i + 1 + (3 + j) = hd n i + 4 + j by omega]
      have e := (i4 i (by omega)).1.2.2.2 j (by omega)
      have := bt (hd n i + 4 + j) (by omega)
      refine ⟨this, ?_⟩
      by_cases y : j = i
      · rw [if_pos y] at e; omega
      · rw [if_neg y] at e; exact e
    · rw [v0 i (by omega), v0 j (by omega)] at e
      by_cases y : i < j
      · exact ((i4 j (by omega)).2 i y e).elim
      · by_cases z : j < i
        · exact ((i4 i (by omega)).2 j z e.symm).elim
        · omega
    · rw [show 0 + 55 = 55 from rfl, t6] at hk
      omega
  · obtain ⟨h1, h2, h3, h4, h5⟩ := rr_h R
    have z1 : xm M 26 1 = xm h 26 1 := by
      rcases o 26 1 with y | y | y | y | y | y | y
      · omega
      · omega
      · omega
      · omega
      · omega
      · omega
      · exact y
    have z2 : xm M 173 75 = xm h 173 75 := by
      rcases o 173 75 with y | y | y | y | y | y | y
      · omega
      · omega
      · omega
      · omega
      · omega
      · omega
      · exact y
    refine ⟨by rw [z1]; exact h1, by rw [t3]; decide, by rw [z1, z2]; exact h3, by rw [t3, t4], fun q hq w => ?_⟩
    rw [t3] at w
    omega
