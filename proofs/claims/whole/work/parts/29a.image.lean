/-! ===== image ===== -/
theorem gD1 (L : List Int) (v : Int) (k : Nat) (h : k < L.length) : (L ++ [v]).getD k 0 = L.getD k 0 := by
  rw [List.getD_eq_getElem?_getD, List.getD_eq_getElem?_getD, List.getElem?_append_left h]
theorem gD2 (L : List Int) (v : Int) : (L ++ [v]).getD L.length 0 = v := by
  rw [List.getD_eq_getElem?_getD, List.getElem?_append_right (Nat.le_refl _), Nat.sub_self]
  rfl
def imA (h : xa_H) (a : Nat) (L : List Int) : Nat → Int := fun k => if k < L.length then L.getD k 0 else xm h a k
def imC (h : xa_H) (L : List Int) : xa_H := xset (xarr h 171 (imA h 171 L)) 0 16 (L.length : Int)
def imM (h : xa_H) (L : List Int) : xa_H := xset (xarr h 248 (imA h 248 L)) 173 108 (L.length : Int)
theorem imA_put (h : xa_H) (a : Nat) (L : List Int) (v : Int) (k : Nat) : imA h a (L ++ [v]) k = if k = L.length then v else imA h a L k := by
  unfold imA
  rw [List.length_append, show [v].length = 1 from rfl]
  by_cases p : k < L.length
  · rw [if_pos (by omega), gD1 L v k p, if_neg (by omega), if_pos p]
  · by_cases q : k = L.length
    · rw [if_pos (by omega), if_pos q, q, gD2]
    · rw [if_neg (by omega), if_neg q, if_neg p]
theorem imC_0 (h : xa_H) : xset h 0 16 0 = imC h [] := by
  refine xheq rfl rfl rfl (fun a k => ?_)
  simp only [imC, imA, xm_xset, xm_xarr, List.length_nil]
  by_cases p : a = 0 ∧ k = 16
  · rw [if_pos p, if_pos p]; rfl
  · rw [if_neg p, if_neg p]
    by_cases q : a = 171
    · rw [if_pos q, if_neg (by omega), q]
    · rw [if_neg q]
theorem imM_0 (h : xa_H) : xset h 173 108 0 = imM h [] := by
  refine xheq rfl rfl rfl (fun a k => ?_)
  simp only [imM, imA, xm_xset, xm_xarr, List.length_nil]
  by_cases p : a = 173 ∧ k = 108
  · rw [if_pos p, if_pos p]; rfl
  · rw [if_neg p, if_neg p]
    by_cases q : a = 248
    · rw [if_pos q, if_neg (by omega), q]
    · rw [if_neg q]
theorem imC_put (h : xa_H) (L : List Int) (v : Int) : xset (xset (imC h L) 171 L.length v) 0 16 ((L.length : Int) + 1) = imC h (L ++ [v]) := by
  refine xheq rfl rfl rfl (fun a k => ?_)
  simp only [imC, xm_xset, xm_xarr, imA_put, List.length_append]
  by_cases p : a = 0 ∧ k = 16
  · rw [if_pos p, if_pos p]; rfl
  · rw [if_neg p, if_neg p]
    by_cases q : a = 171
    · subst q
      rw [if_pos rfl]
      by_cases z : k = L.length
      · rw [if_pos ⟨rfl, z⟩, if_neg p, if_pos rfl, if_pos z]
      · rw [if_neg (fun w => z w.2), if_neg p, if_pos rfl, if_neg z]
    · rw [if_neg q, if_neg (fun w => q w.1), if_neg p, if_neg q]
theorem imM_put (h : xa_H) (L : List Int) (v : Int) : xset (xset (imM h L) 248 L.length v) 173 108 ((L.length : Int) + 1) = imM h (L ++ [v]) := by
  refine xheq rfl rfl rfl (fun a k => ?_)
  simp only [imM, xm_xset, xm_xarr, imA_put, List.length_append]
  by_cases p : a = 173 ∧ k = 108
  · rw [if_pos p, if_pos p]; rfl
  · rw [if_neg p, if_neg p]
    by_cases q : a = 248
    · subst q
      rw [if_pos rfl]
      by_cases z : k = L.length
      · rw [if_pos ⟨rfl, z⟩, if_neg p, if_pos rfl, if_pos z]
      · rw [if_neg (fun w => z w.2), if_neg p, if_pos rfl, if_neg z]
    · rw [if_neg q, if_neg (fun w => q w.1), if_neg p, if_neg q]
theorem imC_S {h : xa_H} (S : SH h) (L : List Int) : SH (imC h L) := (S.arr (by decide +kernel)).set (by decide +kernel)
theorem imM_S {h : xa_H} (S : SH h) (L : List Int) : SH (imM h L) := (S.arr (by decide +kernel)).set (by decide +kernel)
theorem imC_n (h : xa_H) (L : List Int) : xm (imC h L) 0 16 = (L.length : Int) := by
  unfold imC; rw [xm_xset, if_pos ⟨rfl, rfl⟩]
theorem imM_n (h : xa_H) (L : List Int) : xm (imM h L) 173 108 = (L.length : Int) := by
  unfold imM; rw [xm_xset, if_pos ⟨rfl, rfl⟩]
theorem imC_c (h : xa_H) (L : List Int) {k : Nat} (hk : k < L.length) : xm (imC h L) 171 k = L.getD k 0 := by
  unfold imC imA; rw [xm_xset, if_neg (by omega), xm_xarr, if_pos rfl, if_pos hk]
theorem imM_c (h : xa_H) (L : List Int) {k : Nat} (hk : k < L.length) : xm (imM h L) 248 k = L.getD k 0 := by
  unfold imM imA; rw [xm_xset, if_neg (by omega), xm_xarr, if_pos rfl, if_pos hk]
theorem imC_o (h : xa_H) (L : List Int) {a : Nat} (k : Nat) (ha : a ≠ 0) (ha2 : a ≠ 171) : xm (imC h L) a k = xm h a k := by
  unfold imC; rw [xm_xset, if_neg (by omega), xm_xarr, if_neg ha2]
theorem imM_o (h : xa_H) (L : List Int) {a : Nat} (k : Nat) (ha : a ≠ 173) (ha2 : a ≠ 248) : xm (imM h L) a k = xm h a k := by
  unfold imM; rw [xm_xset, if_neg (by omega), xm_xarr, if_neg ha2]
theorem imC_0k (h : xa_H) (L : List Int) {k : Nat} (hk : k ≠ 16) : xm (imC h L) 0 k = xm h 0 k := by
  unfold imC; rw [xm_xset, if_neg (by omega), xm_xarr, if_neg (by omega)]
theorem s_put {h : xa_H} (S : SH h) {L : List Int} (hL : L.length < 63) (v : Int) : (xrc (imC h L) 11 0 (f_X11_putImage 0 v (imC h L))) = some (imC h (L ++ [v])) := by
  have Sc := imC_S S L
  rw [← imC_put]
  unfold xrc
  rw [if_pos (ok_0 Sc)]
  unfold f_X11_putImage
  have n16 := imC_n h L
  refine (bnd (xgf_eq (a := 0) (ok_0 Sc) n16)).trans ?_
  rw [if_pos (by omega)]
  refine (bnd (xgf_eq (a := 0) (ok_0 Sc) (pt_0_15 Sc))).trans ?_
  refine (bnd (xgf_eq (a := 0) (ok_0 Sc) n16)).trans ?_
  refine (bnd (v := xset (imC h L) 171 L.length v) (by unfold xas; rw [if_pos (ia_171 Sc (by omega) (by omega))]; rfl)).trans ?_
  have n2 : xm (xset (imC h L) 171 L.length v) 0 16 = (L.length : Int) := by rw [xm_xset, if_neg (by omega)]; exact n16
  have Sd : SH (xset (imC h L) 171 L.length v) := Sc.set (fixd_of (by decide +kernel))
  refine (bnd (xgf_eq (a := 0) (ok_0 Sd) n2)).trans ?_
  rw [w32_id (by omega) (by omega)]
  exact (bnd (xpf_eq (a := 0) (ok_0 Sd))).trans rfl
theorem s_writes {h : xa_H} (S : SH h) {L : List Int} (hL : L.length < 63) (v : Int) : (xrc (imM h L) 12 173 (f_X12_writes 173 v (imM h L))) = some (imM h (L ++ [v])) := by
  have Sc := imM_S S L
  rw [← imM_put]
  unfold xrc
  rw [if_pos (ok_173 Sc)]
  unfold f_X12_writes
  have n16 := imM_n h L
  refine (bnd (xgf_eq (a := 173) (ok_173 Sc) (pt_173_107 Sc))).trans ?_
  refine (bnd (xgf_eq (a := 173) (ok_173 Sc) n16)).trans ?_
  refine (bnd (v := xset (imM h L) 248 L.length v) (by unfold xas; rw [if_pos (ia_248 Sc (by omega) (by omega))]; rfl)).trans ?_
  have n2 : xm (xset (imM h L) 248 L.length v) 173 108 = (L.length : Int) := by rw [xm_xset, if_neg (by omega)]; exact n16
  have Sd : SH (xset (imM h L) 248 L.length v) := Sc.set (fixd_of (by decide +kernel))
  refine (bnd (xgf_eq (a := 173) (ok_173 Sd) n2)).trans ?_
  rw [w32_id (by omega) (by omega)]
  exact (bnd (xpf_eq (a := 173) (ok_173 Sd))).trans rfl
