theorem s_imgM {h : xa_H} {s : Nat} (S : SH h) {n : Nat} (en : xm h 199 4 = (n : Int)) (hn : n ≤ 6) : f_X12_image 173 h = some ((((rwL h n n).length + 1 : Nat) : Int), imM h (rwL h n n ++ [chk (rwL h n n) (rwL h n n).length])) := by
  have o : ∀ L, xok (imM h L) 12 173 = true := fun L => ok_173 (imM_S S L)
  have gc : ∀ L, xrc (imM h L) 12 173 (f_X12_holderMany 173 (imM h L)) = some (n : Int) := fun L => by
    unfold xrc
    rw [if_pos (o L), s_X12_holderMany (imM_S S L), imM_o h L 4 (by omega) (by omega), en]
  have g50 : ∀ L, xgf (imM h L) 12 50 173 = some 212 := fun L => xgf_eq (a := 173) (o L) (pt_173_50 (imM_S S L))
  have g0 : ∀ L, xal (imM h L) 0 212 0 = some (xm h 212 0) := fun L => by
    unfold xal
    rw [if_pos (ia_212 (imM_S S L) (by omega) (by omega))]
    exact congrArg some (imM_o h L _ (by omega) (by omega))
  have a1 : ∀ L (i : Nat), i < 6 → xrc (imM h L) 12 173 (f_X12_hadBy 173 (i : Int) (imM h L)) = some (xm h 212 (1 + 9 * i)) := fun L i hi => by
    unfold xrc
    rw [if_pos (o L), s_X12_hadBy (imM_S S L) hi, imM_o h L _ (by omega) (by omega)]
  have a2 : ∀ L (i : Nat), i < 6 → xrc (imM h L) 12 173 (f_X12_wantedBy 173 (i : Int) (imM h L)) = some (xm h 212 (1 + 9 * i + 1)) := fun L i hi => by
    unfold xrc
    rw [if_pos (o L), s_X12_wantedBy (imM_S S L) hi, imM_o h L _ (by omega) (by omega)]
  have a3 : ∀ L (i : Nat), i < 6 → xrc (imM h L) 12 173 (f_X12_purseOf 173 (i : Int) (imM h L)) = some (xm h 212 (1 + 9 * i + 2)) := fun L i hi => by
    unfold xrc
    rw [if_pos (o L), s_X12_purseOf (imM_S S L) hi, imM_o h L _ (by omega) (by omega)]
  have a4 : ∀ L (i j : Nat), i < 6 → j < 6 → xrc (imM h L) 12 173 (f_X12_metBy 173 (i : Int) (j : Int) (imM h L)) = some (xm h 212 (1 + 9 * i + 3 + j)) := fun L i j hi hj => by
    unfold xrc
    rw [if_pos (o L), s_X12_metBy (imM_S S L) hi hj, imM_o h L _ (by omega) (by omega)]
  have inner : ∀ (L : List Int) (i : Nat), i < n → L.length + n ≤ 62 → xit (fun s => f_X12_image_L89 173 (i : Int) s.1 s.2) xFU (0, imM h L) = some (imM h (L ++ mtL h i n)) := by
    intro L i hi hL
    have e : imM h L = imM h (L ++ mtL h i 0) := by simp only [mtL]; rw [List.append_nil]
    rw [e]
    exact xit_seq (f := fun s => f_X12_image_L89 173 (i : Int) s.1 s.2) (fun j => ((j : Int), imM h (L ++ mtL h i j))) n (imM h (L ++ mtL h i n)) (fun j hj => by
      have hl : (L ++ mtL h i j).length < 63 := by rw [List.length_append, mtL_len]; omega
      show f_X12_image_L89 173 (i : Int) (j : Int) (imM h (L ++ mtL h i j)) = _
      unfold f_X12_image_L89
      refine (bnd (gc _)).trans ?_
      rw [if_pos (by omega)]
      refine (bnd (a4 _ i j (by omega) (by omega))).trans ?_
      refine (bnd (s_writes S hl _)).trans ?_
      rw [w32_id (by omega) (by omega)]
      simp only [mtL]
      rw [List.append_assoc]
      rfl) (by
      show f_X12_image_L89 173 (i : Int) (n : Int) (imM h (L ++ mtL h i n)) = _
      unfold f_X12_image_L89
      refine (bnd (gc _)).trans ?_
      rw [if_neg (by omega)]) (by omega)
  have outer : xit (fun s => f_X12_image_L35 173 s.1 s.2) xFU (0, imM h (rwL h n 0)) = some (imM h (rwL h n n)) :=
    xit_seq (f := fun s => f_X12_image_L35 173 s.1 s.2) (fun i => ((i : Int), imM h (rwL h n i))) n (imM h (rwL h n n)) (fun i hi => by
      have hl : (rwL h n i).length + (4 + n) ≤ 62 := by
        have e := rwL_le (h := h) (n := n) (i := i + 1) hn (by omega)
        rw [rwL_len, Nat.add_mul] at e
        rw [rwL_len]
        omega
      show f_X12_image_L35 173 (i : Int) (imM h (rwL h n i)) = _
      unfold f_X12_image_L35
      refine (bnd (gc _)).trans ?_
      rw [if_pos (by omega)]
      refine (bnd (a1 _ i (by omega))).trans ?_
      refine (bnd (s_writes S (by omega) _)).trans ?_
      refine (bnd (a2 _ i (by omega))).trans ?_
      refine (bnd (s_writes S (by simp only [List.length_append, List.length_cons, List.length_nil]; omega) _)).trans ?_
      refine (bnd (a3 _ i (by omega))).trans ?_
      refine (bnd (s_writes S (by simp only [List.length_append, List.length_cons, List.length_nil]; omega) _)).trans ?_
      refine (bnd (a3 _ i (by omega))).trans ?_
      refine (bnd (s_writes S (by simp only [List.length_append, List.length_cons, List.length_nil]; omega) _)).trans ?_
      refine (bnd (inner _ i hi (by simp only [List.length_append, List.length_cons, List.length_nil]; omega))).trans ?_
      rw [w32_id (by omega) (by omega)]
      rfl) (by
      show f_X12_image_L35 173 (n : Int) (imM h (rwL h n n)) = _
      unfold f_X12_image_L35
      refine (bnd (gc _)).trans ?_
      rw [if_neg (by omega)]) (by omega)
  have hl := rwL_le (h := h) (n := n) (i := n) hn (Nat.le_refl _)
  have Sc := imM_S S (rwL h n n)
  have check : f_X12_checked 248 ((rwL h n n).length : Int) (imM h (rwL h n n)) = some (chk (rwL h n n) (rwL h n n).length) := by
    have lp := xit_seq (f := fun s => f_X12_checked_L5 248 ((rwL h n n).length : Int) (imM h (rwL h n n)) s.1 s.2) (fun k => (chk (rwL h n n) k, (k : Int))) (rwL h n n).length (chk (rwL h n n) (rwL h n n).length) (fun k hk => by
      show f_X12_checked_L5 248 ((rwL h n n).length : Int) (imM h (rwL h n n)) (chk (rwL h n n) k) (k : Int) = _
      unfold f_X12_checked_L5
      rw [if_pos (by omega)]
      refine (bnd (v := (rwL h n n).getD k 0) (by unfold xal; rw [if_pos (ia_248 Sc (by omega) (by omega))]; exact congrArg some (imM_c h _ hk))).trans ?_
      rw [w32_id (z := (k : Int) + 1) (by omega) (by omega)]
      rfl) (by
      show f_X12_checked_L5 248 ((rwL h n n).length : Int) (imM h (rwL h n n)) (chk (rwL h n n) (rwL h n n).length) ((rwL h n n).length : Int) = _
      unfold f_X12_checked_L5
      rw [if_neg (by omega)]) (by omega)
    unfold f_X12_checked
    exact (bnd lp).trans rfl
  unfold f_X12_image
  refine (bnd (xpf_eq (a := 173) (ok_173 S))).trans ?_
  rw [imM_0]
  refine (bnd (g50 _)).trans ?_
  refine (bnd (g0 _)).trans ?_
  refine (bnd (s_writes S (by decide) _)).trans ?_
  refine (bnd (g50 _)).trans ?_
  refine (bnd (g0 _)).trans ?_
  refine (bnd (s_writes S (by simp only [List.length_append, List.length_cons, List.length_nil]; omega) _)).trans ?_
  refine (bnd outer).trans ?_
  refine (bnd (xgf_eq (a := 173) (o _) (pt_173_107 Sc))).trans ?_
  refine (bnd (xgf_eq (a := 173) (o _) (imM_n _ _))).trans ?_
  refine (bnd check).trans ?_
  refine (bnd (s_writes S (by omega) _)).trans ?_
  refine (bnd (xgf_eq (a := 173) (o _) (imM_n _ _))).trans ?_
  rw [List.length_append]
  rfl
theorem mtL_o {h g : xa_H} (e : ∀ k, xm g 212 k = xm h 212 k) (i : Nat) : ∀ j, mtL g i j = mtL h i j
  | 0 => rfl
  | j + 1 => by simp only [mtL]; rw [e, mtL_o e i j]
theorem rwL_o {h g : xa_H} (e : ∀ k, xm g 212 k = xm h 212 k) (n : Nat) : ∀ i, rwL g n i = rwL h n i
  | 0 => by simp only [rwL, e]
  | i + 1 => by simp only [rwL, e, mtL_o e i n, rwL_o e n i]
theorem agr_imC {D : Nat → Nat → Bool} {h g : xa_H} (L : List Int) (a : agr D h g) (h1 : D 0 16 = false) (h2 : ∀ k, D 171 k = false) : agr D h (imC g L) := by
  unfold imC
  exact agr_set h1 (agr_arr h2 a)
theorem agr_imM {D : Nat → Nat → Bool} {h g : xa_H} (L : List Int) (a : agr D h g) (h1 : D 173 108 = false) (h2 : ∀ k, D 248 k = false) : agr D h (imM g L) := by
  unfold imM
  exact agr_set h1 (agr_arr h2 a)
theorem c_image {h : xa_H} {s F1 F2 T2 T3 : Nat} (R : RR h s F1 F2 T2 T3) : CallOK h (f_X11_image 0 h) (f_X12_image 173) := by
  have S := rr_S R
  have C := rr_c R
  have N := rr_n R
  have hn := rc_n C
  obtain ⟨n, en⟩ : ∃ n : Nat, xm h 199 4 = (n : Int) := ⟨(xm h 199 4).toNat, by omega⟩
  have hn6 : n ≤ 6 := by omega
  have e1 := s_imgC S C N en hn6
  obtain ⟨L, eL⟩ : ∃ L, L = rwL h n n ++ [chk (rwL h n n) (rwL h n n).length] := ⟨_, rfl⟩
  have hl := rwL_le (h := h) (n := n) (i := n) hn6 (Nat.le_refl _)
  have Ll : L.length = (rwL h n n).length + 1 := by rw [eL, List.length_append]; rfl
  have Sc := imC_S S L
  have e2 := s_imgM (s := s) Sc (n := n) ((imC_o h L 4 (by omega) (by omega)).trans en) hn6
  rw [rwL_o (fun k => imC_o h L k (by omega) (by omega)) n n, ← eL] at e2
  rw [← eL] at e1
  refine CallOK.same e1 e2 ⟨s, F1, F2, T2, T3, ?_⟩ rfl rfl
  have fr : ∀ D : Nat → Nat → Bool, D 0 16 = false → (∀ k, D 171 k = false) → D 173 108 = false → (∀ k, D 248 k = false) → agr D h (imM (imC h L) L) := fun D d1 d2 d3 d4 => agr_imM L (agr_imC L (agr_refl D h) d1 d2) d3 d4
  refine R.mvL (imM_S Sc L) (Nat.le_refl _) (fun _ _ => rfl) (fr _ rfl (fun _ => rfl) rfl (fun _ => rfl)) ((rr_t R).mv (fr _ rfl (fun _ => rfl) rfl (fun _ => rfl))) ((rr_r R).mv (fr _ rfl (fun _ => rfl) rfl (fun _ => rfl))) ((rr_f R).mv (fr _ rfl (fun _ => rfl) rfl (fun _ => rfl))) ((rr_n R).mv (fr _ rfl (fun _ => rfl) rfl (fun _ => rfl))) ((rr_h R).mv (fr _ rfl (fun _ => rfl) rfl (fun _ => rfl))) ((rr_j R).mv (fr _ rfl (fun _ => rfl) rfl (fun _ => rfl))) ?_ ((rr_s R).mv (fr _ rfl (fun _ => rfl) rfl (fun _ => rfl))) ((rr_2 R).mv (fr _ rfl (fun _ => rfl) rfl (fun _ => rfl)))
  have n1 : xm (imM (imC h L) L) 0 16 = (L.length : Int) := (imM_o (imC h L) L 16 (by omega) (by omega)).trans (imC_n h L)
  refine ⟨by rw [n1, imM_n], by rw [n1]; omega, fun k hk => ?_⟩
  rw [n1] at hk
  rw [imM_c _ L (by omega), imM_o _ L k (by omega) (by omega), imC_c h L (by omega)]
