/-! ===== resume ===== -/
def rsA (h : xa_H) (n a f i : Nat) : Nat → Int := fun k => if k < i then xm h 174 (hd n k + f) else xm h a k
def rsP (h : xa_H) (n i : Nat) : Nat → Int := fun k => if k < i then 256 * xm h 174 (hd n k + 2) + xm h 174 (hd n k + 3) else xm h 23 k
def rsM (h : xa_H) (n i j : Nat) : Nat → Int := fun k => if (k / 6 < i ∧ k % 6 < n) ∨ (k / 6 = i ∧ k % 6 < j) then xm h 174 (hd n (k / 6) + 4 + k % 6) else xm h 24 k
def rsC (h : xa_H) (n i1 i2 i3 i j : Nat) : xa_H := xarr (xarr (xarr (xarr h 21 (rsA h n 21 0 i1)) 22 (rsA h n 22 1 i2)) 23 (rsP h n i3)) 24 (rsM h n i j)
theorem rsC_o (h : xa_H) (n i1 i2 i3 i j : Nat) {a : Nat} (k : Nat) (h1 : a ≠ 21) (h2 : a ≠ 22) (h3 : a ≠ 23) (h4 : a ≠ 24) : xm (rsC h n i1 i2 i3 i j) a k = xm h a k := by
  unfold rsC
  rw [xm_xarr, if_neg h4, xm_xarr, if_neg h3, xm_xarr, if_neg h2, xm_xarr, if_neg h1]
theorem rsC_S {h : xa_H} (S : SH h) (n i1 i2 i3 i j : Nat) : SH (rsC h n i1 i2 i3 i j) := (((S.arr (by decide +kernel)).arr (by decide +kernel)).arr (by decide +kernel)).arr (by decide +kernel)
theorem rsC_0 (h : xa_H) (n : Nat) : rsC h n 0 0 0 0 0 = h := by
  refine xheq rfl rfl rfl (fun a k => ?_)
  unfold rsC rsA rsP rsM
  simp only [xm_xarr]
  rw [if_neg (show ¬((k / 6 < 0 ∧ k % 6 < n) ∨ (k / 6 = 0 ∧ k % 6 < 0)) by omega), if_neg (show ¬ k < 0 by omega), if_neg (show ¬ k < 0 by omega), if_neg (show ¬ k < 0 by omega)]
  by_cases a4 : a = 24
  · rw [if_pos a4, a4]
  · rw [if_neg a4]
    by_cases a3 : a = 23
    · rw [if_pos a3, a3]
    · rw [if_neg a3]
      by_cases a2 : a = 22
      · rw [if_pos a2, a2]
      · rw [if_neg a2]
        by_cases a1 : a = 21
        · rw [if_pos a1, a1]
        · rw [if_neg a1]
theorem rsA_s (h : xa_H) (n a f i : Nat) (k : Nat) : rsA h n a f (i + 1) k = if k = i then xm h 174 (hd n i + f) else rsA h n a f i k := by
  unfold rsA
  by_cases y : k = i
  · rw [if_pos (by omega), if_pos y, y]
  · rw [if_neg y]
    by_cases z : k < i
    · rw [if_pos (by omega), if_pos z]
    · rw [if_neg (by omega), if_neg z]
theorem rsP_s (h : xa_H) (n i : Nat) (k : Nat) : rsP h n (i + 1) k = if k = i then 256 * xm h 174 (hd n i + 2) + xm h 174 (hd n i + 3) else rsP h n i k := by
  unfold rsP
  by_cases y : k = i
  · rw [if_pos (by omega), if_pos y, y]
  · rw [if_neg y]
    by_cases z : k < i
    · rw [if_pos (by omega), if_pos z]
    · rw [if_neg (by omega), if_neg z]
theorem rsM_s {h : xa_H} {n i j : Nat} (hj : j < 6) (k : Nat) : rsM h n i (j + 1) k = if k = i * 6 + j then xm h 174 (hd n i + 4 + j) else rsM h n i j k := by
  unfold rsM
  by_cases y : k = i * 6 + j
  · rw [if_pos (by omega), if_pos y, show k / 6 = i by omega, show k % 6 = j by omega]
  · rw [if_neg y]
    by_cases z : (k / 6 < i ∧ k % 6 < n) ∨ (k / 6 = i ∧ k % 6 < j)
    · rw [if_pos (by omega), if_pos z]
    · rw [if_neg (by omega), if_neg z]
theorem rsM_n {h : xa_H} {n i : Nat} (k : Nat) : rsM h n i n k = rsM h n (i + 1) 0 k := by
  unfold rsM
  by_cases z : (k / 6 < i ∧ k % 6 < n) ∨ (k / 6 = i ∧ k % 6 < n)
  · rw [if_pos z, if_pos (by omega)]
  · rw [if_neg z, if_neg (by omega)]
theorem rsC_1 (h : xa_H) (n i j1 j2 j3 j : Nat) : xset (rsC h n i j1 j2 j3 j) 21 i (xm h 174 (hd n i + 0)) = rsC h n (i + 1) j1 j2 j3 j := by
  refine xheq rfl rfl rfl (fun a k => ?_)
  unfold rsC
  simp only [xm_xset, xm_xarr, rsA_s]
  by_cases y : a = 21
  · subst y
    by_cases z : k = i
    · simp [z]
    · simp [z]
  · simp [y]
theorem rsC_2 (h : xa_H) (n i j1 j2 j3 j : Nat) : xset (rsC h n j1 i j2 j3 j) 22 i (xm h 174 (hd n i + 1)) = rsC h n j1 (i + 1) j2 j3 j := by
  refine xheq rfl rfl rfl (fun a k => ?_)
  unfold rsC
  simp only [xm_xset, xm_xarr, rsA_s]
  by_cases y : a = 22
  · subst y
    by_cases z : k = i
    · simp [z]
    · simp [z]
  · simp [y]
theorem rsC_3 (h : xa_H) (n i j1 j2 j3 j : Nat) : xset (rsC h n j1 j2 i j3 j) 23 i (256 * xm h 174 (hd n i + 2) + xm h 174 (hd n i + 3)) = rsC h n j1 j2 (i + 1) j3 j := by
  refine xheq rfl rfl rfl (fun a k => ?_)
  unfold rsC
  simp only [xm_xset, xm_xarr, rsP_s]
  by_cases y : a = 23
  · subst y
    by_cases z : k = i
    · simp [z]
    · simp [z]
  · simp [y]
theorem rsC_4 {h : xa_H} {n i j1 j2 j3 j : Nat} (hj : j < 6) : xset (rsC h n j1 j2 j3 i j) 24 (i * 6 + j) (xm h 174 (hd n i + 4 + j)) = rsC h n j1 j2 j3 i (j + 1) := by
  refine xheq rfl rfl rfl (fun a k => ?_)
  unfold rsC
  simp only [xm_xset, xm_xarr, rsM_s hj]
  by_cases y : a = 24
  · subst y
    by_cases z : k = i * 6 + j
    · simp [z]
    · simp [z]
  · simp [y]
theorem rsC_5 (h : xa_H) (n i j1 j2 j3 : Nat) : rsC h n j1 j2 j3 i n = rsC h n j1 j2 j3 (i + 1) 0 := by
  unfold rsC
  exact xarr_congr _ _ (fun k => rsM_n k)
