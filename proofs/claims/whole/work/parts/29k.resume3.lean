def rsv (h : xa_H) (n k t : Nat) : Int := if t = 2 then 256 * xm h 174 (hd n k + 2) + xm h 174 (hd n k + 3) else if t < 2 then xm h 174 (hd n k + t) else xm h 174 (hd n k + 1 + t)
def rsF (h : xa_H) (n i p : Nat) : Nat → Int := fun q => if 1 ≤ q ∧ (((q - 1) / 9 < i ∧ (q - 1) % 9 < 3 + n) ∨ ((q - 1) / 9 = i ∧ (q - 1) % 9 < p)) then rsv h n ((q - 1) / 9) ((q - 1) % 9) else xm h 212 q
def rsR (h : xa_H) (n i p : Nat) : xa_H := xarr h 212 (rsF h n i p)
theorem rsR_o (h : xa_H) (n i p : Nat) {a : Nat} (k : Nat) (h1 : a ≠ 212) : xm (rsR h n i p) a k = xm h a k := by
  unfold rsR
  rw [xm_xarr, if_neg h1]
theorem rsR_S {h : xa_H} (S : SH h) (n i p : Nat) : SH (rsR h n i p) := S.arr (by decide +kernel)
theorem rsR_0 (h : xa_H) (n : Nat) : rsR h n 0 0 = h := by
  unfold rsR
  rw [show rsF h n 0 0 = xm h 212 from funext fun q => by unfold rsF; exact if_neg (by omega)]
  exact xarr_self h 212
theorem rsR_1 {h : xa_H} {n i p : Nat} (hp : p < 9) : xset (rsR h n i p) 212 (1 + 9 * i + p) (rsv h n i p) = rsR h n i (p + 1) := by
  unfold rsR
  rw [xset_xarr]
  refine xarr_congr _ _ (fun q => ?_)
  unfold rsF
  by_cases y : q = 1 + 9 * i + p
  · rw [if_pos y, if_pos (by omega), show (q - 1) / 9 = i by omega, show (q - 1) % 9 = p by omega]
  · rw [if_neg y]
    by_cases z : 1 ≤ q ∧ (((q - 1) / 9 < i ∧ (q - 1) % 9 < 3 + n) ∨ ((q - 1) / 9 = i ∧ (q - 1) % 9 < p))
    · rw [if_pos z, if_pos (by omega)]
    · rw [if_neg z, if_neg (by omega)]
theorem rsR_5 (h : xa_H) (n i : Nat) : rsR h n i (3 + n) = rsR h n (i + 1) 0 := by
  unfold rsR
  refine xarr_congr _ _ (fun q => ?_)
  unfold rsF
  by_cases z : 1 ≤ q ∧ (((q - 1) / 9 < i ∧ (q - 1) % 9 < 3 + n) ∨ ((q - 1) / 9 = i ∧ (q - 1) % 9 < 3 + n))
  · rw [if_pos z, if_pos (by omega)]
  · rw [if_neg z, if_neg (by omega)]
theorem s_rsR {h : xa_H} (S : SH h) (T : RtB h) {n : Nat} (en : xm h 199 4 = (n : Int)) (hn : n ≤ 6) : xit (fun s => f_X12_resume_L55 173 s.1 s.2) xFU (0, h) = some (rsR h n n 0) := by
  have Sg : ∀ i p, SH (rsR h n i p) := fun i p => rsR_S S n i p
  have eg : ∀ i p, xm (rsR h n i p) 199 4 = (n : Int) := fun i p => (rsR_o h n i p 4 (by omega)).trans en
  have gc : ∀ i p, xrc (rsR h n i p) 12 173 (f_X12_holderMany 173 (rsR h n i p)) = some (n : Int) := fun i p => by
    unfold xrc; rw [if_pos (ok_173 (Sg i p)), s_X12_holderMany (Sg i p), eg i p]
  have g50 : ∀ i p, xgf (rsR h n i p) 12 50 173 = some 212 := fun i p => xgf_eq (a := 173) (ok_173 (Sg i p)) (pt_173_50 (Sg i p))
  have g0 : ∀ i p, xgf (rsR h n i p) 12 0 173 = some 174 := fun i p => xgf_eq (a := 173) (ok_173 (Sg i p)) (pt_173_0 (Sg i p))
  have rb : ∀ i p (k : Nat) (z : Int), k < 1600 → z = (k : Int) → xal (rsR h n i p) 0 174 z = some (xm h 174 k) := fun i p k z hk ez => by
    rw [rb_x (Sg i p) hk ez, rsR_o h n i p k (by omega)]
  have st : ∀ i p (z v : Int), i < 6 → p < 9 → z = ((1 + 9 * i + p : Nat) : Int) → v = rsv h n i p → xas (rsR h n i p) 0 212 z v = some (rsR h n i (p + 1)) := fun i p z v hi hp ez ev => by
    unfold xas
    rw [ez, ev, if_pos (ia_212 (Sg i p) (by omega) (by omega)), ← rsR_1 hp]
    rfl
  have inner : ∀ (i : Nat), i < n → xit (fun s => f_X12_resume_L144 173 (i : Int) ((hd n i : Nat) : Int) s.1 s.2) xFU (0, rsR h n i (3 + 0)) = some (rsR h n (i + 1) 0) := by
    intro i hi
    have hl := hd_lt hn hi
    rw [← rsR_5]
    exact xit_seq (f := fun s => f_X12_resume_L144 173 (i : Int) ((hd n i : Nat) : Int) s.1 s.2) (fun j => ((j : Int), rsR h n i (3 + j))) n _ (fun j hj => by
      show f_X12_resume_L144 173 (i : Int) ((hd n i : Nat) : Int) (j : Int) (rsR h n i (3 + j)) = _
      unfold f_X12_resume_L144
      rw [bnd (gc _ _), if_pos (show (j : Int) < (n : Int) by omega), bnd (g50 _ _), bnd (g0 _ _), w32_id (z := ((hd n i : Nat) : Int) + 4) (by omega) (by omega), w32_id (z := ((hd n i : Nat) : Int) + 4 + (j : Int)) (by omega) (by omega), bnd (rb _ _ (hd n i + 4 + j) _ (by omega) (by omega)), w32_id (z := 9 * (i : Int)) (by omega) (by omega), w32_id (z := 1 + 9 * (i : Int)) (by omega) (by omega), w32_id (z := 1 + 9 * (i : Int) + 3) (by omega) (by omega), w32_id (z := 1 + 9 * (i : Int) + 3 + (j : Int)) (by omega) (by omega)]
      rw [bnd (st i (3 + j) _ _ (by omega) (by omega) (by omega) (by unfold rsv; rw [if_neg (by omega), if_neg (by omega), show hd n i + 1 + (3 + j) = hd n i + 4 + j by omega])), w32_id (by omega) (by omega)]
      rfl) (by
      show f_X12_resume_L144 173 (i : Int) ((hd n i : Nat) : Int) (n : Int) (rsR h n i (3 + n)) = _
      unfold f_X12_resume_L144
      rw [bnd (gc _ _), if_neg (show ¬ (n : Int) < (n : Int) by omega)]) (by omega)
  have outer := xit_seq (f := fun s => f_X12_resume_L55 173 s.1 s.2) (fun i => ((i : Int), rsR h n i 0)) n (rsR h n n 0) (fun i hi => by
    have hl := hd_lt hn hi
    obtain ⟨c1, c2, c3⟩ := T (hd n i + 2) (by omega)
    obtain ⟨d1, d2, d3⟩ := T (hd n i + 3) (by omega)
    show f_X12_resume_L55 173 (i : Int) (rsR h n i 0) = _
    unfold f_X12_resume_L55
    rw [bnd (gc _ _), if_pos (show (i : Int) < (n : Int) by omega), bnd (s_holderFrom (Sg i 0) (eg i 0) hn (i := i) (by omega)), bnd (g50 _ _), bnd (g0 _ _), bnd (rb _ _ (hd n i) _ (by omega) rfl), w32_id (z := 9 * (i : Int)) (by omega) (by omega), w32_id (z := 1 + 9 * (i : Int)) (by omega) (by omega)]
    rw [bnd (st i 0 _ _ (by omega) (by omega) (by omega) (by unfold rsv; rw [if_neg (by omega), if_pos (by omega)]; rfl)), bnd (g50 _ _), bnd (g0 _ _), w32_id (z := ((hd n i : Nat) : Int) + 1) (by omega) (by omega), bnd (rb _ _ (hd n i + 1) _ (by omega) (by omega)), w32_id (z := 1 + 9 * (i : Int) + 1) (by omega) (by omega)]
    rw [bnd (st i 1 _ _ (by omega) (by omega) (by omega) (by unfold rsv; rw [if_neg (by omega), if_pos (by omega)])), bnd (g50 _ _), bnd (g0 _ _), w32_id (z := ((hd n i : Nat) : Int) + 2) (by omega) (by omega), bnd (rb _ _ (hd n i + 2) _ (by omega) (by omega)), bnd (g0 _ _), w32_id (z := ((hd n i : Nat) : Int) + 3) (by omega) (by omega), bnd (rb _ _ (hd n i + 3) _ (by omega) (by omega)), w32_id (z := 1 + 9 * (i : Int) + 2) (by omega) (by omega), w32_id (z := 256 * xm h 174 (hd n i + 2)) (by omega) (by omega), w32_id (z := 256 * xm h 174 (hd n i + 2) + xm h 174 (hd n i + 3)) (by omega) (by omega)]
    rw [bnd (st i 2 _ _ (by omega) (by omega) (by omega) (by unfold rsv; rw [if_pos rfl])), bnd (inner i hi), w32_id (z := (i : Int) + 1) (by omega) (by omega)]
    rfl) (by
    show f_X12_resume_L55 173 (n : Int) (rsR h n n 0) = _
    unfold f_X12_resume_L55
    rw [bnd (gc _ _), if_neg (show ¬ (n : Int) < (n : Int) by omega)]) (by omega)
  simp only [rsR_0] at outer
  exact outer
