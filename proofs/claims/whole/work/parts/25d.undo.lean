/-! ===== acts remembered, brought back ===== -/
theorem sh_st {h : xa_H} (S : SH h) {q : Nat} (hq : q < 20) : StO h (28 + 6 * q) := by
  have g := S.1
  have kk : ∀ j, j < 6 → xk h (28 + 6 * q + j) = kd0 (28 + 6 * q + j) := fun j hj => S.2.1 _ (by omega)
  have hk : ∀ q, q < 20 → kd0 (28 + 6 * q) = (19, 7) ∧ kd0 (28 + 6 * q + 1) = (0, 6) ∧ kd0 (28 + 6 * q + 2) = (0, 6) ∧ kd0 (28 + 6 * q + 3) = (0, 6) ∧ kd0 (28 + 6 * q + 4) = (0, 36) ∧ kd0 (28 + 6 * q + 5) = (0, 30) := by decide +kernel
  have hp : ∀ q, q < 20 → ∀ j, j < 5 → (28 + 6 * q, 1 + j, ((28 + 6 * q + (1 + j) : Nat) : Int)) ∈ pl0 := by decide +kernel
  obtain ⟨q0, q1, q2, q3, q4, q5⟩ := hk q hq
  have k0 := kk 0 (by omega)
  simp only [Nat.add_zero] at k0
  exact ⟨by omega, k0.trans q0, (kk 1 (by omega)).trans q1, (kk 2 (by omega)).trans q2, (kk 3 (by omega)).trans q3, (kk 4 (by omega)).trans q4, (kk 5 (by omega)).trans q5, S.2.2 _ (hp q hq 0 (by omega)), S.2.2 _ (hp q hq 1 (by omega)), S.2.2 _ (hp q hq 2 (by omega)), S.2.2 _ (hp q hq 3 (by omega)), S.2.2 _ (hp q hq 4 (by omega))⟩
theorem sh_now {h : xa_H} (S : SH h) : StO h 20 := by
  have g := S.1
  have kk : ∀ j, j < 6 → xk h (20 + j) = kd0 (20 + j) := fun j hj => S.2.1 _ (by omega)
  exact ⟨by omega, (kk 0 (by omega)).trans (by decide +kernel), (kk 1 (by omega)).trans (by decide +kernel), (kk 2 (by omega)).trans (by decide +kernel), (kk 3 (by omega)).trans (by decide +kernel), (kk 4 (by omega)).trans (by decide +kernel), (kk 5 (by omega)).trans (by decide +kernel), pt_20_1 S, pt_20_2 S, pt_20_3 S, pt_20_4 S, pt_20_5 S⟩
theorem sh_states {h : xa_H} (S : SH h) {q : Nat} (hq : q < 20) : xal h 4 27 (q : Int) = some ((28 + 6 * q : Nat) : Int) := by
  have hp : ∀ q, q < 20 → (27, q, ((28 + 6 * q : Nat) : Int)) ∈ pl0 := by decide +kernel
  unfold xal
  rw [if_pos (ia_27 S (by omega) (by omega))]
  exact congrArg some (S.2.2 _ (hp q hq))
theorem fix_st' {q : Nat} (hq : q < 20) {j k : Nat} (hj : j < 6) (h : fixd (28 + 6 * q + j) k = true) : j = 0 ∧ 1 ≤ k ∧ k ≤ 5 := by
  have hs : ∀ t ∈ pl0, ∀ q, q < 20 → ∀ j, j < 6 → t.1 = 28 + 6 * q + j → j = 0 ∧ 1 ≤ t.2.1 ∧ t.2.1 ≤ 5 := by decide +kernel
  obtain ⟨t, ht, h2⟩ := List.any_eq_true.mp h
  simp at h2
  have := hs t ht q hq j hj h2.1
  rw [h2.2] at this
  exact this
theorem sh_xcst {h : xa_H} (S : SH h) {q b : Nat} (hq : q < 20) : SH (xcst h (28 + 6 * q) b) := by
  refine S.fixed S.1 (fun _ _ => rfl) (fun a k hf => ?_)
  rw [xm_xcst]
  by_cases p : a = 28 + 6 * q
  · subst p
    have := fix_st' hq (j := 0) (by omega) hf
    rw [if_pos rfl, if_neg (by omega)]
  · rw [if_neg p, if_neg]
    rintro ⟨r, -⟩
    obtain ⟨j, rfl⟩ : ∃ j, a = 28 + 6 * q + j := ⟨a - (28 + 6 * q), by omega⟩
    have := fix_st' hq (j := j) (by omega) hf
    omega
theorem sh_xcst20 {h : xa_H} (S : SH h) {b : Nat} : SH (xcst h 20 b) := by
  have hs : ∀ t ∈ pl0, ∀ j, j < 6 → t.1 = 20 + j → j = 0 ∧ 1 ≤ t.2.1 ∧ t.2.1 ≤ 5 := by decide +kernel
  refine S.fixed S.1 (fun _ _ => rfl) (fun a k hf => ?_)
  obtain ⟨t, ht, h2⟩ := List.any_eq_true.mp hf
  simp at h2
  rw [xm_xcst]
  by_cases p : a = 20
  · subst p
    have := hs t ht 0 (by omega) (by omega)
    rw [if_pos rfl, if_neg (by omega)]
  · rw [if_neg p, if_neg]
    rintro ⟨r, -⟩
    have := hs t ht (a - 20) (by omega) (by omega)
    omega
theorem s_remember {h : xa_H} (S : SH h) {p c : Nat} (hp : xm h 26 1 = (p : Int)) (hp2 : p < 20) (hc : xm h 26 2 = (c : Int)) (hc2 : c ≤ 20) : f_X4_remember 26 20 h = some (xset (xset (xcst h (28 + 6 * p) 20) 26 1 (((p + 1) % 20 : Nat) : Int)) 26 2 ((min (c + 1) 20 : Nat) : Int)) := by
  have o1 : xok (xcst h (28 + 6 * p) 20) 4 26 = true := ok_26 (sh_xcst S hp2)
  unfold f_X4_remember
  refine (bnd (xgf_eq (a := 26) (ok_26 S) (pt_26_0 S))).trans ?_
  refine (bnd (xgf_eq (a := 26) (ok_26 S) hp)).trans ?_
  refine (bnd (sh_states S hp2)).trans ?_
  rw [show xrc h 9 ((28 + 6 * p : Nat) : Int) (f_X9_copyFrom ((28 + 6 * p : Nat) : Int) 20 h) = f_X9_copyFrom ((28 + 6 * p : Nat) : Int) 20 h from if_pos (sh_st S hp2).ok]
  refine (bnd (s_copyFrom (sh_st S hp2) (sh_now S) (Or.inr (by omega)))).trans ?_
  have e1 : xm (xcst h (28 + 6 * p) 20) 26 1 = (p : Int) := by rw [xm_xcst, if_neg (by omega), if_neg (by omega), hp]
  have e2 : xm (xcst h (28 + 6 * p) 20) 26 2 = (c : Int) := by rw [xm_xcst, if_neg (by omega), if_neg (by omega), hc]
  refine (bnd (xgf_eq (a := 26) o1 e1)).trans ?_
  refine (bnd (xpf_eq (a := 26) (by exact o1))).trans ?_
  refine (bnd (xgf_eq (a := 26) (v := (c : Int)) (by exact o1) (by rw [xm_xset, if_neg (by omega)]; exact e2))).trans ?_
  refine (bnd (xpf_eq (a := 26) (by exact o1))).trans ?_
  rw [w32_id (by omega) (by omega), w32_id (by omega) (by omega), Int.tmod_eq_emod_of_nonneg (by omega)]
  rw [show ((p : Int) + 1) % 20 = (((p + 1) % 20 : Nat) : Int) by omega, show min ((c : Int) + 1) 20 = ((min (c + 1) 20 : Nat) : Int) by omega]
def kpF (h : xa_H) (p : Nat) (k : Nat) : Int := if 176 * p ≤ k ∧ k < 176 * p + 176 then xm h 212 (k - 176 * p) else xm h 224 k
theorem s_keeps {h : xa_H} (S : SH h) {p c : Nat} (hp : xm h 173 75 = (p : Int)) (hp2 : p < 20) (hc : xm h 173 74 = (c : Int)) (hc2 : c ≤ 20) : f_X12_keeps 173 h = some (xset (xarr (xset h 173 75 (((p + 1) % 20 : Nat) : Int)) 224 (kpF h ((p + 1) % 20))) 173 74 ((min (c + 1) 20 : Nat) : Int)) := by
  obtain ⟨r, hr⟩ : ∃ r, r = (p + 1) % 20 := ⟨_, rfl⟩
  have hl := xit_seq (f := fun s => f_X12_keeps_L15 173 s.1 s.2) (fun i => ((i : Int), xarr (xset h 173 75 (r : Int)) 224 (fun k => if 176 * r ≤ k ∧ k < 176 * r + i then xm h 212 (k - 176 * r) else xm h 224 k))) 176 (xarr (xset h 173 75 (r : Int)) 224 (kpF h r)) (fun i hi => by
    unfold f_X12_keeps_L15
    have e0 : (i : Int) < 176 := by omega
    simp (disch := omega) only [↓reduceIte, ↓bbind, ↓bxgf, ↓bxpf, ↓bxal, ↓bxas, ↓bxrc, ↓exrc, xbo, xok_xset, xia_xset, xln_xset, xm_xset, xok_xarr, xia_xarr, xln_xarr, xm_xarr, Option.bind_some, Int.reduceToNat, Nat.reduceEqDiff, Nat.reduceSub, Int.reduceLT, Int.reduceLE, Int.reduceEq, Int.reduceNeg, if_true, if_false, ite_true, ite_false, true_and, and_true, false_and, and_false, eq_self, reduceIte, Bool.false_eq_true, Nat.reduceBEq, reduceCtorEq, or_true, true_or, or_false, false_or, xel, Int.toNat_natCast, Int.toNat_add, Int.toNat_mul, ok_173 S, pt_173_73 S, pt_173_50 S, ia_212 S, ia_224 S, if_pos e0, w32_id]
    congr 2
    apply Prod.ext
    · rfl
    · dsimp only
      refine xheq rfl rfl rfl (fun x k => ?_)
      simp only [xm_xset, xm_xarr]
      by_cases p1 : x = 224
      · subst p1
        rw [if_pos rfl, if_pos rfl]
        by_cases p2 : k = 176 * r + i
        · subst p2
          rw [if_pos ⟨rfl, rfl⟩, if_pos (by omega), Nat.add_sub_cancel_left]
        · rw [if_neg (by omega)]
          by_cases p3 : 176 * r ≤ k ∧ k < 176 * r + i
          · rw [if_pos p3, if_pos (by omega)]
          · rw [if_neg p3, if_neg (by omega)]
      · rw [if_neg (by omega), if_neg p1, if_neg p1]) (by
    unfold f_X12_keeps_L15
    rw [if_neg (by omega)]
    rfl) (by omega)
  unfold f_X12_keeps
  have hz : xset h 173 75 (r : Int) = xarr (xset h 173 75 (r : Int)) 224 (fun k => if 176 * r ≤ k ∧ k < 176 * r + 0 then xm h 212 (k - 176 * r) else xm h 224 k) := by
    refine xheq rfl rfl rfl (fun x k => ?_)
    simp only [xm_xset, xm_xarr]
    by_cases p1 : x = 224
    · subst p1
      rw [if_pos rfl, if_neg (by omega), if_neg (by omega)]
    · rw [if_neg p1]
  have o1 : xok (xarr (xset h 173 75 (r : Int)) 224 (kpF h r)) 12 173 = true := ok_173 ((S.set (by decide +kernel)).arr (by decide +kernel))
  have e2 : xm (xarr (xset h 173 75 (r : Int)) 224 (kpF h r)) 173 74 = (c : Int) := by rw [xm_xarr, if_neg (by omega), xm_xset, if_neg (by omega), hc]
  refine (bnd (xgf_eq (a := 173) (ok_173 S) hp)).trans ?_
  refine (bnd (xpf_eq (a := 173) (ok_173 S))).trans ?_
  rw [w32_id (by omega) (by omega), Int.tmod_eq_emod_of_nonneg (by omega), show ((p : Int) + 1) % 20 = (r : Int) by omega, ← hr]
  rw [show ((0 : Int), xset h 173 75 (r : Int)) = (((0 : Nat) : Int), xarr (xset h 173 75 (r : Int)) 224 (fun k => if 176 * r ≤ k ∧ k < 176 * r + 0 then xm h 212 (k - 176 * r) else xm h 224 k)) from Prod.ext rfl hz]
  refine (bnd hl).trans ?_
  refine (bnd (xgf_eq (a := 173) o1 e2)).trans ?_
  by_cases q : c < 20
  · rw [if_pos (by omega)]
    refine (bnd (xgf_eq (a := 173) o1 e2)).trans ?_
    refine (bnd (xpf_eq (a := 173) o1)).trans ?_
    rw [w32_id (by omega) (by omega), show (c : Int) + 1 = ((min (c + 1) 20 : Nat) : Int) by omega]
  · rw [if_neg (by omega)]
    have : ((min (c + 1) 20 : Nat) : Int) = xm (xarr (xset h 173 75 (r : Int)) 224 (kpF h r)) 173 74 := by rw [e2]; omega
    rw [this, xset_self]
