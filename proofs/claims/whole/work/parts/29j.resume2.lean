theorem s_rsC {h : xa_H} {s : Nat} (S : SH h) (e5 : xm h 0 5 = (s : Int)) (C : CS h s) (T : RtB h) {n : Nat} (e2 : xm h s 2 = (n : Int)) (hn : n ≤ 6) : xit (fun s => f_X11_resume_L48 0 s.1 s.2) xFU (0, h) = some (rsC h n n n n n 0) := by
  have h7 := C.1
  have Sg : ∀ i1 i2 i3 i j, SH (rsC h n i1 i2 i3 i j) := fun i1 i2 i3 i j => rsC_S S n i1 i2 i3 i j
  have gc : ∀ i1 i2 i3 i j, ((xgf (rsC h n i1 i2 i3 i j) 11 5 0).bind fun x => xgf (rsC h n i1 i2 i3 i j) 0 2 x) = some (n : Int) := fun i1 i2 i3 i j => (bnd (xgf_eq (a := 0) (ok_0 (Sg _ _ _ _ _)) ((rsC_o h n i1 i2 i3 i j 5 (by omega) (by omega) (by omega) (by omega)).trans e5))).trans (xgf_eq (a := s) C.ok ((rsC_o h n i1 i2 i3 i j 2 (by omega) (by omega) (by omega) (by omega)).trans e2))
  have Tg : ∀ i1 i2 i3 i j, RtB (rsC h n i1 i2 i3 i j) := fun i1 i2 i3 i j k hk => by
    rw [rsC_o h n i1 i2 i3 i j k (by omega) (by omega) (by omega) (by omega), rsC_o h n i1 i2 i3 i j k (by omega) (by omega) (by omega) (by omega)]
    exact T k hk
  have tb : ∀ i1 i2 i3 i j (k : Nat) (z : Int), k < 1600 → z = (k : Int) → xrc (rsC h n i1 i2 i3 i j) 11 0 (f_X11_tapeByte 0 z (rsC h n i1 i2 i3 i j)) = some (xm h 174 k) := fun i1 i2 i3 i j k z hk ez => by
    rw [tb_x (Sg i1 i2 i3 i j) (Tg i1 i2 i3 i j) hk ez, rsC_o h n i1 i2 i3 i j k (by omega) (by omega) (by omega) (by omega)]
  have tp : ∀ i1 i2 i3 i j (k : Nat) (z : Int), k + 1 < 1600 → z = (k : Int) → xrc (rsC h n i1 i2 i3 i j) 11 0 (f_X11_tapePair 0 z (rsC h n i1 i2 i3 i j)) = some (256 * xm h 174 k + xm h 174 (k + 1)) := fun i1 i2 i3 i j k z hk ez => by
    rw [tp_x (Sg i1 i2 i3 i j) (Tg i1 i2 i3 i j) hk ez, rsC_o h n i1 i2 i3 i j k (by omega) (by omega) (by omega) (by omega), rsC_o h n i1 i2 i3 i j (k + 1) (by omega) (by omega) (by omega) (by omega)]
  have g6 : ∀ i1 i2 i3 i j, xgf (rsC h n i1 i2 i3 i j) 11 6 0 = some 20 := fun i1 i2 i3 i j => xgf_eq (a := 0) (ok_0 (Sg _ _ _ _ _)) (pt_0_6 (Sg _ _ _ _ _))
  have f1 : ∀ i1 i2 i3 i j, xgf (rsC h n i1 i2 i3 i j) 9 1 20 = some 21 := fun i1 i2 i3 i j => xgf_eq (a := 20) (ok_20 (Sg _ _ _ _ _)) (pt_20_1 (Sg _ _ _ _ _))
  have f2 : ∀ i1 i2 i3 i j, xgf (rsC h n i1 i2 i3 i j) 9 2 20 = some 22 := fun i1 i2 i3 i j => xgf_eq (a := 20) (ok_20 (Sg _ _ _ _ _)) (pt_20_2 (Sg _ _ _ _ _))
  have f3 : ∀ i1 i2 i3 i j, xgf (rsC h n i1 i2 i3 i j) 9 3 20 = some 23 := fun i1 i2 i3 i j => xgf_eq (a := 20) (ok_20 (Sg _ _ _ _ _)) (pt_20_3 (Sg _ _ _ _ _))
  have f4 : ∀ i1 i2 i3 i j, xgf (rsC h n i1 i2 i3 i j) 9 4 20 = some 24 := fun i1 i2 i3 i j => xgf_eq (a := 20) (ok_20 (Sg _ _ _ _ _)) (pt_20_4 (Sg _ _ _ _ _))
  have inner : ∀ (i : Nat), i < n → xit (fun s => f_X11_resume_L113 0 (i : Int) ((hd n i : Nat) : Int) s.1 s.2) xFU (0, rsC h n (i + 1) (i + 1) (i + 1) i 0) = some (rsC h n (i + 1) (i + 1) (i + 1) (i + 1) 0) := by
    intro i hi
    have hl := hd_lt hn hi
    rw [← rsC_5]
    exact xit_seq (f := fun s => f_X11_resume_L113 0 (i : Int) ((hd n i : Nat) : Int) s.1 s.2) (fun j => ((j : Int), rsC h n (i + 1) (i + 1) (i + 1) i j)) n _ (fun j hj => by
      show f_X11_resume_L113 0 (i : Int) ((hd n i : Nat) : Int) (j : Int) (rsC h n (i + 1) (i + 1) (i + 1) i j) = _
      unfold f_X11_resume_L113
      rw [bas, bnd (gc _ _ _ _ _), if_pos (show (j : Int) < (n : Int) by omega), bnd (g6 _ _ _ _ _), bnd (f4 _ _ _ _ _), w32_id (z := ((hd n i : Nat) : Int) + 4) (by omega) (by omega), w32_id (z := ((hd n i : Nat) : Int) + 4 + (j : Int)) (by omega) (by omega), bnd (tb _ _ _ _ _ (hd n i + 4 + j) _ (by omega) (by omega)), w32_id (z := (i : Int) * 6) (by omega) (by omega), w32_id (z := (i : Int) * 6 + (j : Int)) (by omega) (by omega)]
      refine (bnd (v := rsC h n (i + 1) (i + 1) (i + 1) i (j + 1)) ?_).trans ?_
      · unfold xas
        rw [if_pos (ia_24 (Sg _ _ _ _ _) (by omega) (by omega)), ← rsC_4 (show j < 6 by omega), show ((i : Int) * 6 + (j : Int)).toNat = i * 6 + j by omega]
        rfl
      · rw [w32_id (by omega) (by omega)]
        rfl) (by
      show f_X11_resume_L113 0 (i : Int) ((hd n i : Nat) : Int) (n : Int) (rsC h n (i + 1) (i + 1) (i + 1) i n) = _
      unfold f_X11_resume_L113
      rw [bas, bnd (gc _ _ _ _ _), if_neg (show ¬ (n : Int) < (n : Int) by omega)]) (by omega)
  have outer := xit_seq (f := fun s => f_X11_resume_L48 0 s.1 s.2) (fun i => ((i : Int), rsC h n i i i i 0)) n (rsC h n n n n n 0) (fun i hi => by
    have hl := hd_lt hn hi
    show f_X11_resume_L48 0 (i : Int) (rsC h n i i i i 0) = _
    unfold f_X11_resume_L48
    rw [bas, bnd (gc _ _ _ _ _), if_pos (show (i : Int) < (n : Int) by omega)]
    refine (bnd (v := ((hd n i : Nat) : Int)) ?_).trans ?_
    · unfold xrc
      rw [if_pos (ok_0 (Sg _ _ _ _ _))]
      unfold f_X11_imagePlace
      rw [bas, bnd (gc _ _ _ _ _), hd_w hn (by omega)]
    rw [bnd (g6 _ _ _ _ _), bnd (f1 _ _ _ _ _), bnd (tb _ _ _ _ _ (hd n i) _ (by omega) rfl)]
    refine (bnd (v := rsC h n (i + 1) i i i 0) ?_).trans ?_
    · unfold xas
      rw [if_pos (ia_21 (Sg _ _ _ _ _) (by omega) (by omega)), ← rsC_1]
      rfl
    rw [bnd (g6 _ _ _ _ _), bnd (f2 _ _ _ _ _), w32_id (z := ((hd n i : Nat) : Int) + 1) (by omega) (by omega), bnd (tb _ _ _ _ _ (hd n i + 1) _ (by omega) (by omega))]
    refine (bnd (v := rsC h n (i + 1) (i + 1) i i 0) ?_).trans ?_
    · unfold xas
      rw [if_pos (ia_22 (Sg _ _ _ _ _) (by omega) (by omega)), ← rsC_2]
      rfl
    rw [bnd (g6 _ _ _ _ _), bnd (f3 _ _ _ _ _), w32_id (z := ((hd n i : Nat) : Int) + 2) (by omega) (by omega), bnd (tp _ _ _ _ _ (hd n i + 2) _ (by omega) (by omega))]
    refine (bnd (v := rsC h n (i + 1) (i + 1) (i + 1) i 0) ?_).trans ?_
    · unfold xas
      rw [if_pos (ia_23 (Sg _ _ _ _ _) (by omega) (by omega)), ← rsC_3]
      rfl
    rw [bnd (inner i hi), w32_id (by omega) (by omega)]
    rfl) (by
    show f_X11_resume_L48 0 (n : Int) (rsC h n n n n n 0) = _
    unfold f_X11_resume_L48
    rw [bas, bnd (gc _ _ _ _ _), if_neg (show ¬ (n : Int) < (n : Int) by omega)]) (by omega)
  simp only [rsC_0] at outer
  exact outer
