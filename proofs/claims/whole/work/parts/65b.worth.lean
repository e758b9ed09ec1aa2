/-! ===== what codes come to, in the class ===== -/
theorem fs_ok {h : xa_H} {F L : Nat} (R : FS h F L) : xok h 2 (F : Int) = true := by
  obtain ⟨h1, h2, h3, -⟩ := R
  simp only [xok, Int.toNat_natCast, h3]
  simp
  omega
theorem fs_1 {β : Type} {h : xa_H} {F L : Nat} (R : FS h F L) (f : Int → Option β) : (xgf h 2 1 (F : Int)).bind f = f ((F + 2 : Nat) : Int) := bnd (xgf_eq (fs_ok R) R.2.2.2.2.2.2)
theorem fs_0 {β : Type} {h : xa_H} {F L : Nat} (R : FS h F L) (f : Int → Option β) : (xgf h 2 0 (F : Int)).bind f = f ((F + 1 : Nat) : Int) := bnd (xgf_eq (fs_ok R) R.2.2.2.2.2.1)
theorem ia_of {h : xa_H} {kd a n : Nat} {i : Nat} (ha : a < xn h) (hk : xk h a = (kd, n)) (hi : i < n) : xia h kd (a : Int) (i : Int) = true := by
  simp only [xia, Int.toNat_natCast, hk]
  simp
  omega
theorem fs_i1 {h : xa_H} {F L : Nat} (R : FS h F L) {i : Nat} (hi : i < L) : xia h 0 ((F + 1 : Nat) : Int) (i : Int) = true := ia_of (by have := R.2.1; omega) R.2.2.2.1 hi
theorem fs_i2 {h : xa_H} {F L : Nat} (R : FS h F L) {i : Nat} (hi : i < 64) : xia h 0 ((F + 2 : Nat) : Int) (i : Int) = true := ia_of (by have := R.2.1; omega) R.2.2.2.2.1 hi
theorem cof_put {r : Int} (h : 1000 ≤ r) : cof r = r - 1000 := by unfold cof; rw [if_pos h]
theorem cof_part {r : Int} (h : 40 ≤ r ∧ r ≤ 47) : cof r = 39 - r := by
  unfold cof
  rw [if_neg (by omega), if_neg (by omega), if_pos (by omega)]
theorem cof_two {r : Int} (h : 1 ≤ r ∧ r ≤ 11) : cof r = -10 - r := by
  unfold cof
  rw [if_neg (by omega), if_neg (by omega), if_neg (by omega), if_neg (by omega), if_neg (by omega)]
theorem xand01 {a b : Int} (ha : a = 0 ∨ a = 1) (hb : b = 0 ∨ b = 1) : xand a b = a * b := by
  rcases ha with rfl | rfl <;> rcases hb with rfl | rfl <;> decide +kernel
theorem xior01 {a b : Int} (ha : a = 0 ∨ a = 1) (hb : b = 0 ∨ b = 1) : xior a b = if 0 < a + b then 1 else 0 := by
  rcases ha with rfl | rfl <;> rcases hb with rfl | rfl <;> decide +kernel
theorem s_limited {v : Int} (h : xa_H) (h1 : -9223372036854775808 ≤ v) (h2 : v < 9223372036854775808) : f_X2_limited (w64 v) h = some (clp v) := by
  unfold f_X2_limited clp
  rw [w64_id h1 h2, w32_id (by omega) (by omega)]
  congr 1
  split
  · omega
  · split <;> omega
theorem mul_ok {a b : Int} (ha : -1000000 ≤ a ∧ a ≤ 1000000) (hb : -1000000 ≤ b ∧ b ≤ 1000000) : -1000000000000 ≤ a * b ∧ a * b ≤ 1000000000000 := by
  have h1 : (1000000 - a) * (1000000 - b) ≥ 0 := Int.mul_nonneg (by omega) (by omega)
  have h2 : (1000000 + a) * (1000000 + b) ≥ 0 := Int.mul_nonneg (by omega) (by omega)
  have h3 : (1000000 - a) * (1000000 + b) ≥ 0 := Int.mul_nonneg (by omega) (by omega)
  have h4 : (1000000 + a) * (1000000 - b) ≥ 0 := Int.mul_nonneg (by omega) (by omega)
  simp only [Int.sub_mul, Int.mul_sub, Int.add_mul, Int.mul_add] at h1 h2 h3 h4
  omega
theorem s_ofTwo {r a b : Int} (h : xa_H) (hr : ((r = 10 ∨ r = 11) ∧ (a = 0 ∨ a = 1) ∧ (b = 0 ∨ b = 1)) ∨ ((1 ≤ r ∧ r ≤ 9) ∧ (-1000000 ≤ a ∧ a ≤ 1000000) ∧ (-1000000 ≤ b ∧ b ≤ 1000000))) : f_X2_ofTwo (-10 - r) a b h = some (vbin r a b) := by
  unfold f_X2_ofTwo
  rcases hr with ⟨rfl | rfl, ha, hb⟩ | ⟨hr, ha, hb⟩
  · rw [if_pos (by omega), xand01 ha hb, vb10]
  · rw [if_neg (by omega), if_neg (by omega), if_neg (by omega), if_neg (by omega), if_neg (by omega), if_neg (by omega), if_neg (by omega), if_neg (by omega), if_neg (by omega), if_neg (by omega), xior01 ha hb, vb11]
  · have : r = 1 ∨ r = 2 ∨ r = 3 ∨ r = 4 ∨ r = 5 ∨ r = 6 ∨ r = 7 ∨ r = 8 ∨ r = 9 := by omega
    have m := mul_ok ha hb
    rcases this with rfl | rfl | rfl | rfl | rfl | rfl | rfl | rfl | rfl
    · rw [if_neg (by omega), if_neg (by omega), if_neg (by omega), if_neg (by omega), if_neg (by omega), if_neg (by omega), if_neg (by omega), if_neg (by omega), if_neg (by omega), if_pos (by omega), s_limited h (by omega) (by omega), bbind, vb1]
    · rw [if_neg (by omega), if_neg (by omega), if_neg (by omega), if_neg (by omega), if_neg (by omega), if_neg (by omega), if_neg (by omega), if_neg (by omega), if_pos (by omega), s_limited h (by omega) (by omega), bbind, vb2]
    · rw [if_neg (by omega), if_neg (by omega), if_neg (by omega), if_neg (by omega), if_neg (by omega), if_neg (by omega), if_neg (by omega), if_pos (by omega), s_limited h (by omega) (by omega), bbind, vb3]
    · rw [if_neg (by omega), if_neg (by omega), if_neg (by omega), if_neg (by omega), if_neg (by omega), if_neg (by omega), if_pos (by omega)]
      rw [vb4]
      by_cases z : b = 0
      · rw [if_pos z, if_pos z]
      · have f := fdiv_ok ha.1 ha.2 z
        rw [if_neg z, if_neg z]
        unfold xfd
        rw [if_neg z, bbind, w32_id (by omega) (by omega)]
    · rw [if_neg (by omega), if_neg (by omega), if_neg (by omega), if_neg (by omega), if_neg (by omega), if_pos (by omega), vb5]
    · rw [if_neg (by omega), if_neg (by omega), if_neg (by omega), if_neg (by omega), if_pos (by omega), vb6]
    · rw [if_neg (by omega), if_neg (by omega), if_neg (by omega), if_pos (by omega), vb7]
      split <;> rfl
    · rw [if_neg (by omega), if_neg (by omega), if_pos (by omega), vb8]
      split <;> rfl
    · rw [if_neg (by omega), if_pos (by omega), vb9]
      split <;> rfl
theorem c_wstep {q : Bool} {fa : Nat → Int} {h : xa_H} {F L A N : Nat} (hF : FS h F L) (kA : A < xn h ∧ xk h A = (0, N)) (hN : 7 ≤ N ∧ (q = true → 14 ≤ N)) (eA : ∀ k, k < N → (q = true → k ≠ 0 ∧ k ≠ 4) → (q = false → k < 7) → xm h A k = fa k) {st st' : List Bool} {vs : List Int} {r : Int} {i : Nat} (hi : i < L) (hL : L < 1602) (hc : xm h (F + 1) i = cof r) (hv : vcode q r) (ht : tstep st r = some st') (ho : okv st vs) (h60 : st.length ≤ 60) (hp : pil h (F + 2) vs) :
    f_X2_worth_L14 (F : Int) (A : Int) ((F + 1 : Nat) : Int) (L : Int) (vs.length : Int) (i : Int) h = some (.inl (((vstep fa r vs).length : Int), ((i + 1 : Nat) : Int), xset h (F + 2) (vtop fa r vs).2.length (vtop fa r vs).1)) := by
  have ln := okv_len st vs ho
  have i1 := fs_i1 hF hi
  have wi : w32 ((i : Int) + 1) = ((i + 1 : Nat) : Int) := by rw [w32_id (by omega) (by omega)]; omega
  have hr : r = 60 ∨ r ≤ 47 ∨ (1000 ≤ r ∧ r ≤ 10999) := by
    unfold vcode at hv
    rcases hv with y | ⟨y1, y2, -⟩ | y | ⟨-, y⟩ <;> omega
  have h46 : q = true ∨ r ≠ 47 := by
    unfold vcode at hv
    cases q with
    | true => exact Or.inl rfl
    | false =>
      refine Or.inr ?_
      rcases hv with y | ⟨y1, y2, y3⟩ | y | ⟨y, -⟩
      · omega
      · simpa using y3
      · omega
      · cases y
  have h04 : q = true → r ≠ 40 ∧ r ≠ 44 := by
    intro hq
    unfold vcode at hv
    rw [hq] at hv
    rcases hv with y | ⟨y1, y2, y3⟩ | y | ⟨-, y⟩
    · omega
    · exact y3
    · omega
    · omega
  unfold f_X2_worth_L14
  rw [if_pos (by clear wi; omega)]
  refine (bnd (xal_eq i1 hc)).trans ?_
  unfold vstep
  rcases tstep_cases hv ht with ⟨a, b, rfl⟩ | ⟨rfl, b, rfl⟩ | ⟨rfl, hq, t, rfl, rfl⟩ | ⟨rfl, t, rfl, rfl⟩ | ⟨a, t, rfl, rfl⟩ | ⟨a, t, rfl, rfl⟩ | ⟨a, t, rfl, rfl⟩
  · -- a number, or a part
    have ev : vtop fa r vs = (vput fa r, vs) := by unfold vtop; rw [if_neg (by clear wi; omega), if_pos (by clear wi; omega)]
    rw [ev]
    have i2 := fs_i2 hF (i := vs.length) (by omega)
    have wv : w32 ((vs.length : Int) + 1) = ((vs.length + 1 : Nat) : Int) := by rw [w32_id (by clear wi; omega) (by clear wi; omega)]; omega
    rcases a with a | a
    · rw [cof_put a, if_pos (by clear wi wv; omega), if_pos (by clear wi wv; omega), fs_1 hF, if_neg (by clear wi wv; omega)]
      refine (bnd (xas_eq i2)).trans ?_
      rw [wi, wv]
      unfold vput
      rw [if_pos a]
      rfl
    · obtain ⟨j, ej⟩ : ∃ j : Nat, r = ((40 + j : Nat) : Int) := ⟨(r - 40).toNat, by omega⟩
      have jN : j < N := by
        rcases h46 with y | y
        · have := hN.2 y; omega
        · omega
      have iA : xia h 0 (A : Int) (j : Int) = true := ia_of kA.1 kA.2 jN
      have wj : w32 (-1 - (39 - r)) = (j : Int) := by rw [w32_id (by omega) (by omega)]; omega
      rw [cof_part a, if_pos (by clear wi wv wj; omega), if_pos (by clear wi wv wj; omega), fs_1 hF, if_pos (by clear wi wv wj; omega), wj]
      refine (bnd (xal_eq iA (eA j jN (fun y => by have := h04 y; clear wi wv wj; omega) (fun y => by rcases h46 with z | z; (· rw [y] at z; cases z); clear wi wv wj; omega)))).trans ?_
      refine (bnd (xas_eq i2)).trans ?_
      rw [wi, wv]
      unfold vput
      rw [if_neg (by clear wi wv wj; omega), if_pos (by clear wi wv wj; omega), show (r - 40).toNat = j by clear wi wv wj; omega]
      rfl
  · have ev : vtop fa 13 vs = (vput fa 13, vs) := by unfold vtop; rw [if_neg (by decide), if_pos (by decide)]
    rw [ev]
    have i2 := fs_i2 hF (i := vs.length) (by omega)
    have wv : w32 ((vs.length : Int) + 1) = ((vs.length + 1 : Nat) : Int) := by rw [w32_id (by clear wi; omega) (by clear wi; omega)]; omega
    rw [show cof 13 = 1 from rfl, if_pos (by omega), if_pos (by clear wi wv; omega), fs_1 hF, if_neg (by omega)]
    refine (bnd (xas_eq i2)).trans ?_
    rw [wi, wv]
    rfl
  · match vs, ho, hp, ln with
    | a :: vs, ho, hp, ln =>
      simp only [List.length_cons] at ln h60
      have i2 := fs_i2 hF (i := vs.length) (by omega)
      have oa := ho.1
      unfold okv1 at oa
      rw [if_neg (by decide)] at oa
      have ev : vtop fa 60 (a :: vs) = (vone fa 60 a, vs) := by unfold vtop; rw [if_pos (Or.inl rfl)]
      rw [ev, show cof 60 = -10 from rfl, if_neg (by omega), if_pos (by omega), if_neg (by simp only [List.length_cons]; omega), fs_1 hF, fs_1 hF]
      have wv : w32 (((a :: vs).length : Int) - 1) = (vs.length : Int) := by simp only [List.length_cons]; rw [w32_id (by omega) (by omega)]; omega
      rw [wv]
      refine (bnd (xal_eq i2 (pil_hd hp))).trans ?_
      refine (bnd (v := vone fa 60 a) ?_).trans ?_
      · unfold f_X2_ofOne vone
        rw [if_neg (by omega), if_pos rfl]
        by_cases y : a < 0
        · rw [if_pos y, if_neg (by omega)]
        · rw [if_neg y]
          by_cases y6 : a < 6
          · obtain ⟨j, ej⟩ : ∃ j : Nat, a = (j : Int) := ⟨a.toNat, by omega⟩
            have jN : 8 + j < N := by have := hN.2 hq; omega
            have w8 : w32 (8 + a) = ((8 + j : Nat) : Int) := by rw [w32_id (by omega) (by omega)]; omega
            rw [if_pos y6, if_pos (by omega), w8, show xal h 0 (A : Int) ((8 + j : Nat) : Int) = some (fa (8 + j)) from xal_eq (ia_of kA.1 kA.2 jN) (eA _ jN (fun _ => by clear wi wv; omega) (fun y => by rw [hq] at y; cases y)), bbind, show a.toNat = j by omega]
          · rw [if_neg y6, if_neg (by omega)]
      · refine (bnd (xas_eq i2)).trans ?_
        rw [wi]
        rfl
  · match vs, ho, hp, ln with
    | a :: vs, ho, hp, ln =>
      simp only [List.length_cons] at ln h60
      have i2 := fs_i2 hF (i := vs.length) (by omega)
      have oa := ho.1
      unfold okv1 at oa
      rw [if_pos rfl] at oa
      have ev : vtop fa 12 (a :: vs) = (vone fa 12 a, vs) := by unfold vtop; rw [if_pos (Or.inr rfl)]
      rw [ev, show cof 12 = -9 from rfl, if_neg (by omega), if_pos (by omega), if_neg (by simp only [List.length_cons]; omega), fs_1 hF, fs_1 hF]
      have wv : w32 (((a :: vs).length : Int) - 1) = (vs.length : Int) := by simp only [List.length_cons]; rw [w32_id (by omega) (by omega)]; omega
      rw [wv]
      refine (bnd (xal_eq i2 (pil_hd hp))).trans ?_
      refine (bnd (v := vone fa 12 a) ?_).trans ?_
      · unfold f_X2_ofOne vone
        rw [if_pos rfl, if_neg (by decide), w32_id (by omega) (by omega)]
      · refine (bnd (xas_eq i2)).trans ?_
        rw [wi]
        rfl
  all_goals
    match vs, ho, hp, ln with
    | [_], ho, _, _ => exact ho.2.elim
    | b :: a' :: vs, ho, hp, ln =>
      simp only [List.length_cons] at ln h60
      have i2 := fs_i2 hF (i := vs.length) (by omega)
      have i3 := fs_i2 hF (i := vs.length + 1) (by omega)
      have ob := ho.1
      have oa := ho.2.1
      unfold okv1 at oa ob
      simp only [if_true, if_false, Bool.false_eq_true] at oa ob
      have ev : vtop fa r (b :: a' :: vs) = (vbin r a' b, vs) := by unfold vtop; rw [if_neg (by clear wi; omega), if_neg (by clear wi; omega)]
      rw [ev, cof_two (by clear wi; omega), if_neg (by omega), if_neg (by omega), if_neg (by simp only [List.length_cons]; omega), fs_1 hF, fs_1 hF]
      have wv : w32 (((b :: a' :: vs).length : Int) + -1) = ((vs.length + 1 : Nat) : Int) := by simp only [List.length_cons]; rw [w32_id (by omega) (by omega)]; omega
      have wu : w32 (((vs.length + 1 : Nat) : Int) - 1) = (vs.length : Int) := by rw [w32_id (by clear wv wi; omega) (by clear wv wi; omega)]; omega
      rw [wv, wu]
      refine (bnd (xal_eq i2 (pil_hd (pil_tl hp)))).trans ?_
      rw [fs_1 hF]
      refine (bnd (xal_eq i3 (pil_hd hp))).trans ?_
      refine (bnd (s_ofTwo h (r := r) (by omega))).trans ?_
      refine (bnd (xas_eq i2)).trans ?_
      rw [wi]
      rfl
