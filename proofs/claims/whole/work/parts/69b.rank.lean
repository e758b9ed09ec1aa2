/-! ===== the class's sorter: what lies where, ranks, exchanges ===== -/
def SX (H : xa_H) (T n : Nat) : Prop := 249 ≤ T ∧ T + 5 ≤ xn H ∧ xk H T = (18, 8) ∧ xk H (T + 1) = (0, 165) ∧ xk H (T + 2) = (0, 6) ∧ xk H (T + 3) = (0, fct n) ∧ xk H (T + 4) = (0, fct n) ∧
  xm H T 1 = ((T + 1 : Nat) : Int) ∧ xm H T 7 = ((T + 2 : Nat) : Int) ∧ xm H T 3 = ((T + 3 : Nat) : Int) ∧ xm H T 4 = ((T + 4 : Nat) : Int) ∧ xm H T 0 = (n : Int) ∧ n ≤ 6
theorem SX.ok {H : xa_H} {T n : Nat} (R : SX H T n) : xok H 8 (T : Int) = true := by
  have h2 := R.2.1
  have h3 := R.2.2.1
  simp only [xok, Int.toNat_natCast, h3]
  simp
  omega
theorem gSo {β : Type} {H : xa_H} {T n : Nat} (R : SX H T n) (k : Nat) (f : Int → Option β) : (xgf H 8 k (T : Int)).bind f = f (xm H T k) := bnd (xgf_eq R.ok rfl)
theorem xSo {α β : Type} {H : xa_H} {T n : Nat} (R : SX H T n) (E : Option α) (f : α → Option β) : (xrc H 8 (T : Int) E).bind f = E.bind f := by rw [show xrc H 8 (T : Int) E = E from if_pos R.ok]
theorem pSo {β : Type} {H : xa_H} {T n : Nat} (R : SX H T n) (k : Nat) (v : Int) (f : xa_H → Option β) : (xpf H 8 k (T : Int) v).bind f = f (xset H T k v) := bnd (xpf_eq R.ok)
theorem sx_0 {H : xa_H} {T n : Nat} (R : SX H T n) : xm H T 0 = (n : Int) := R.2.2.2.2.2.2.2.2.2.2.2.1
theorem sx_1 {H : xa_H} {T n : Nat} (R : SX H T n) : xm H T 1 = ((T + 1 : Nat) : Int) := R.2.2.2.2.2.2.2.1
theorem sx_7 {H : xa_H} {T n : Nat} (R : SX H T n) : xm H T 7 = ((T + 2 : Nat) : Int) := R.2.2.2.2.2.2.2.2.1
theorem sx_3 {H : xa_H} {T n : Nat} (R : SX H T n) : xm H T 3 = ((T + 3 : Nat) : Int) := R.2.2.2.2.2.2.2.2.2.1
theorem sx_4 {H : xa_H} {T n : Nat} (R : SX H T n) : xm H T 4 = ((T + 4 : Nat) : Int) := R.2.2.2.2.2.2.2.2.2.2.1
theorem sx_n {H : xa_H} {T n : Nat} (R : SX H T n) : n ≤ 6 := R.2.2.2.2.2.2.2.2.2.2.2.2
theorem sx_i1 {H : xa_H} {T n : Nat} (R : SX H T n) {i : Nat} (hi : i < 165) : xia H 0 ((T + 1 : Nat) : Int) (i : Int) = true := ia_of (by have := R.2.1; omega) R.2.2.2.1 hi
theorem sx_i2 {H : xa_H} {T n : Nat} (R : SX H T n) {i : Nat} (hi : i < 6) : xia H 0 ((T + 2 : Nat) : Int) (i : Int) = true := ia_of (by have := R.2.1; omega) R.2.2.2.2.1 hi
theorem sx_i3 {H : xa_H} {T n : Nat} (R : SX H T n) {i : Nat} (hi : i < fct n) : xia H 0 ((T + 3 : Nat) : Int) (i : Int) = true := ia_of (by have := R.2.1; omega) R.2.2.2.2.2.1 hi
theorem sx_i4 {H : xa_H} {T n : Nat} (R : SX H T n) {i : Nat} (hi : i < fct n) : xia H 0 ((T + 4 : Nat) : Int) (i : Int) = true := ia_of (by have := R.2.1; omega) R.2.2.2.2.2.2.1 hi
theorem SX.set {H : xa_H} {T n a k : Nat} {v : Int} (R : SX H T n) (h : ¬ (a = T ∧ (k = 0 ∨ k = 1 ∨ k = 3 ∨ k = 4 ∨ k = 7))) : SX (xset H a k v) T n := by
  obtain ⟨h1, h2, h3, h4, h5, h6, h7, h8, h9, h10, h11, h12, h13⟩ := R
  refine ⟨h1, h2, h3, h4, h5, h6, h7, ?_, ?_, ?_, ?_, ?_, h13⟩
  · rw [xm_xset, if_neg (by omega)]; exact h8
  · rw [xm_xset, if_neg (by omega)]; exact h9
  · rw [xm_xset, if_neg (by omega)]; exact h10
  · rw [xm_xset, if_neg (by omega)]; exact h11
  · rw [xm_xset, if_neg (by omega)]; exact h12
/-- the order that the sorter holds -/
def OD (H : xa_H) (T n c : Nat) : Prop := ∀ i, i < n → xm H (T + 2) i = ((dg i c : Nat) : Int)
def ub (c : Nat) : Nat → Nat
  | 0 => 0
  | k + 1 => ub c k ||| 2 ^ dg k c
theorem ub_64 (c : Nat) : ∀ k, ub c k < 64
  | 0 => (by decide : (0 : Nat) < 64)
  | k + 1 => (b_set (ub c k) (ub_64 c k) (dg k c) (dg_lt _ _)).2
theorem ub_bit (c v : Nat) : ∀ k, (ub c k).testBit v = true → ∃ j, j < k ∧ dg j c = v
  | 0, h => by simp [ub] at h
  | k + 1, h => by
    simp only [ub, Nat.testBit_or, Nat.testBit_two_pow, Bool.or_eq_true, decide_eq_true_eq] at h
    rcases h with h | h
    · obtain ⟨j, hj, e⟩ := ub_bit c v k h
      exact ⟨j, by omega, e⟩
    · exact ⟨k, by omega, h⟩
theorem rk_mask : ∀ u, u < 64 → ∀ d, d < 6 → xand ((u : Nat) : Int) (w32 (xshl 1 ((d : Nat) : Int) - 1)) = ((u % 2 ^ d : Nat) : Int) := by decide +kernel
theorem rk_pcn : ∀ b, b < 64 → ∀ v, v < 6 → ∀ d, d < 6 → b.testBit v = false → pcn ((b ||| 2 ^ v) % 2 ^ d) = pcn (b % 2 ^ d) + if v < d then 1 else 0 := by decide +kernel
theorem rk_lsn {n c k : Nat} (V : vperm n c) (hk : k < n) : ∀ j, j ≤ k → pcn (ub c j % 2 ^ dg k c) = lsn c k j
  | 0, _ => by simp only [ub, lsn, Nat.zero_mod]; rfl
  | j + 1, h => by
    have nb : (ub c j).testBit (dg j c) = false := by
      cases e : (ub c j).testBit (dg j c) with
      | false => rfl
      | true =>
        obtain ⟨i, hi, e'⟩ := ub_bit c _ j e
        have := V.2.2 i j (by omega) (by omega) e'
        omega
    simp only [ub, lsn]
    rw [rk_pcn _ (ub_64 c j) _ (dg_lt _ _) _ (dg_lt _ _) nb, rk_lsn V hk j (by omega)]
theorem fct_ge : ∀ n, n ≤ fct n
  | 0 => Nat.zero_le _
  | n + 1 => by
    have := fct_p n
    have := Nat.mul_le_mul_right (n + 1) this
    simp only [fct]
    omega
theorem rk_small {n c k : Nat} (hn : n ≤ 6) (V : vperm n c) (hk : k < n) : rkn n c k * (n - k) + (n - k) ≤ 720 := by
  have b := rkn_bd' V k (by omega)
  have g := fct_ge (n - k)
  have f := fct_720 hn
  have := Nat.mul_le_mul_left (rkn n c k + 1) g
  rw [Nat.add_mul, Nat.one_mul] at this
  omega
theorem t_rank {H : xa_H} {T n c : Nat} (R : SX H T n) (O : OD H T n c) (V : vperm n c) : f_X8_rankOfOrder (T : Int) H = some ((rkn n c n : Nat) : Int) := by
  have n6 := sx_n R
  obtain ⟨st, est⟩ : ∃ st : Nat → Int × Int × Int, ∀ i, st i = (((rkn n c i : Nat) : Int), ((ub c i : Nat) : Int), (i : Int)) := ⟨_, fun _ => rfl⟩
  have it := xit_seq (f := fun s : Int × Int × Int => f_X8_rankOfOrder_L6 (T : Int) H s.1 s.2.1 s.2.2) st n ((rkn n c n : Nat) : Int) (fun i hi => ?_) ?_ (by omega)
  · rw [est] at it
    unfold f_X8_rankOfOrder
    exact (bnd it).trans rfl
  · rw [est, est]
    show f_X8_rankOfOrder_L6 (T : Int) H ((rkn n c i : Nat) : Int) ((ub c i : Nat) : Int) (i : Int) = _
    have d6 := dg_lt i c
    have u6 := ub_64 c i
    have lb := lsn_bd V hi
    have sm := rk_small n6 V hi
    unfold f_X8_rankOfOrder_L6
    rw [gSo R, sx_0 R, if_pos (by omega), gSo R, sx_7 R]
    refine (bnd (xal_eq (sx_i2 R (by omega)) (O i hi))).trans ?_
    rw [gSo R, sx_0 R, gSo R, sx_7 R]
    refine (bnd (xal_eq (sx_i2 R (by omega)) (O i hi))).trans ?_
    rw [rk_mask _ u6 _ d6]
    have p64 : ub c i % 2 ^ dg i c < 64 := Nat.lt_of_le_of_lt (Nat.mod_le _ _) u6
    refine (bnd (s_bitCount p64 H)).trans ?_
    rw [rk_lsn V hi i (Nat.le_refl _), (b_set _ u6 _ d6).1]
    have e1 : w32 (w32 (w32 (((rkn n c i : Nat) : Int) * w32 ((n : Int) - (i : Int))) + ((dg i c : Nat) : Int)) - ((lsn c i i : Nat) : Int)) = ((rkn n c (i + 1) : Nat) : Int) := by
      obtain ⟨P, eP⟩ : ∃ P, P = rkn n c i * (n - i) := ⟨_, rfl⟩
      rw [w32_id (z := (n : Int) - (i : Int)) (by omega) (by omega), show (n : Int) - (i : Int) = ((n - i : Nat) : Int) by omega, ← Int.natCast_mul, ← eP]
      rw [← eP] at sm
      have : rkn n c (i + 1) = P + (dg i c - lsn c i i) := by rw [eP]; rfl
      rw [this, w32_id (z := (P : Int)) (by omega) (by omega), w32_id (z := (P : Int) + ((dg i c : Nat) : Int)) (by omega) (by omega), w32_id (by omega) (by omega)]
      omega
    rw [e1, wS (by omega)]
    rfl
  · rw [est]
    show f_X8_rankOfOrder_L6 (T : Int) H ((rkn n c n : Nat) : Int) ((ub c n : Nat) : Int) (n : Int) = _
    unfold f_X8_rankOfOrder_L6
    rw [gSo R, sx_0 R, if_neg (by omega)]
/-! ===== exchanges ===== -/
def swH (H : xa_H) (T a b : Nat) : xa_H := xset (xset H (T + 2) a (xm H (T + 2) b)) (T + 2) b (xm H (T + 2) a)
theorem t_swap {H : xa_H} {T n a b : Nat} (R : SX H T n) (ha : a < n) (hb : b < n) : f_X8_swap (T : Int) (a : Int) (b : Int) H = some (swH H T a b) := by
  have n6 := sx_n R
  obtain ⟨H1, e1⟩ : ∃ z, z = xset H (T + 2) a (xm H (T + 2) b) := ⟨_, rfl⟩
  have R1 : SX H1 T n := by rw [e1]; exact R.set (by omega)
  unfold f_X8_swap swH
  rw [gSo R, sx_7 R]
  refine (bnd (xal_eq (v := xm H (T + 2) a) (sx_i2 R (by omega)) rfl)).trans ?_
  rw [gSo R, sx_7 R, gSo R, sx_7 R]
  refine (bnd (xal_eq (v := xm H (T + 2) b) (sx_i2 R (by omega)) rfl)).trans ?_
  refine (bnd (xas_eq (sx_i2 R (by omega)))).trans ?_
  rw [← e1, gSo R1, sx_7 R1]
  exact (bnd (xas_eq (sx_i2 R1 (by omega)))).trans rfl
/-- only the sorter's order changes -/
def FO (T : Nat) (H H' : xa_H) : Prop := xn H' = xn H ∧ xz H' = xz H ∧ xk H' = xk H ∧ ∀ a k, a ≠ T + 2 → xm H' a k = xm H a k
theorem FO.tr {T : Nat} {H H' H'' : xa_H} (a : FO T H H') (b : FO T H' H'') : FO T H H'' := ⟨b.1.trans a.1, b.2.1.trans a.2.1, b.2.2.1.trans a.2.2.1, fun x k hd => (b.2.2.2 x k hd).trans (a.2.2.2 x k hd)⟩
theorem FO.refl (T : Nat) (H : xa_H) : FO T H H := ⟨rfl, rfl, rfl, fun _ _ _ => rfl⟩
theorem FO.set {T : Nat} {H H' : xa_H} (e : FO T H H') (k : Nat) (v : Int) : FO T H (xset H' (T + 2) k v) := ⟨e.1, e.2.1, e.2.2.1, fun a j y => by rw [xm_xset, if_neg (by omega)]; exact e.2.2.2 a j y⟩
theorem SX.fo {H H' : xa_H} {T n : Nat} (R : SX H T n) (e : FO T H H') : SX H' T n := by
  obtain ⟨h1, h2, h3, h4, h5, h6, h7, h8, h9, h10, h11, h12, h13⟩ := R
  have m : ∀ k, xm H' T k = xm H T k := fun k => e.2.2.2 T k (by omega)
  rw [← m] at h8 h9 h10 h11 h12
  rw [← e.2.2.1] at h3 h4 h5 h6 h7
  exact ⟨h1, by rw [e.1]; exact h2, h3, h4, h5, h6, h7, h8, h9, h10, h11, h12, h13⟩
theorem swH_fo (H : xa_H) (T a b : Nat) : FO T H (swH H T a b) := ((FO.refl T H).set _ _).set _ _
theorem swH_od {H : xa_H} {T n a b c : Nat} (O : OD H T n c) (ha : a < n) (hb : b < n) (hab : a ≠ b) : OD (swH H T a b) T n (swp n a b c) := by
  intro t ht
  rw [dg_swp ht]
  unfold swH trp
  rw [xm_xset, xm_xset]
  by_cases y : t = a
  · rw [if_neg (by omega), if_pos ⟨rfl, y⟩, if_pos y]
    exact O b hb
  · rw [if_neg y]
    by_cases z : t = b
    · rw [if_pos ⟨rfl, z⟩, if_pos z]
      exact O a ha
    · rw [if_neg (by omega), if_neg (by omega), if_neg z]
      exact O t ht
