theorem bas {α β γ : Type} {E : Option α} {F : α → Option β} {K : β → Option γ} : E.bind (fun x => (F x).bind K) = (E.bind F).bind K := (Option.bind_assoc E F K).symm
/-- the image's bytes, of the reference's cells -/
def mtL (h : xa_H) (i : Nat) : Nat → List Int
  | 0 => []
  | j + 1 => mtL h i j ++ [xm h 212 (1 + 9 * i + 3 + j)]
def rwL (h : xa_H) (n : Nat) : Nat → List Int
  | 0 => ([] ++ [w32 (Int.tdiv (xm h 212 0) 256)]) ++ [Int.tmod (xm h 212 0) 256]
  | i + 1 => ((((rwL h n i ++ [xm h 212 (1 + 9 * i)]) ++ [xm h 212 (1 + 9 * i + 1)]) ++ [w32 (Int.tdiv (xm h 212 (1 + 9 * i + 2)) 256)]) ++ [Int.tmod (xm h 212 (1 + 9 * i + 2)) 256]) ++ mtL h i n
theorem mtL_len (h : xa_H) (i : Nat) : ∀ j, (mtL h i j).length = j
  | 0 => rfl
  | j + 1 => by simp only [mtL]; rw [List.length_append, mtL_len h i j]; rfl
theorem rwL_len (h : xa_H) (n : Nat) : ∀ i, (rwL h n i).length = 2 + i * (4 + n)
  | 0 => by rw [Nat.zero_mul]; rfl
  | i + 1 => by
    simp only [rwL, List.length_append, mtL_len, rwL_len h n i, List.length_cons, List.length_nil]
    rw [Nat.add_mul]
    omega
theorem rwL_le {h : xa_H} {n i : Nat} (hn : n ≤ 6) (hi : i ≤ n) : (rwL h n i).length ≤ 62 := by
  rw [rwL_len]
  have := Nat.mul_le_mul (Nat.le_trans hi hn) (show 4 + n ≤ 10 by omega)
  omega
/-- the check over the first bytes -/
def chk (L : List Int) : Nat → Int
  | 0 => 17
  | k + 1 => Int.tmod (w32 (w32 (3 * chk L k) + L.getD k 0)) 251
theorem s_imgC {h : xa_H} {s : Nat} (S : SH h) (C : Rc h s) (N : Rn h) {n : Nat} (en : xm h 199 4 = (n : Int)) (hn : n ≤ 6) : f_X11_image 0 h = some ((((rwL h n n).length + 1 : Nat) : Int), imC h (rwL h n n ++ [chk (rwL h n n) (rwL h n n).length])) := by
  have g6 : ∀ L, xgf (imC h L) 11 6 0 = some 20 := fun L => xgf_eq (a := 0) (ok_0 (imC_S S L)) (pt_0_6 (imC_S S L))
  have gc : ∀ L, ((xgf (imC h L) 11 5 0).bind fun x => xgf (imC h L) 0 2 x) = some (n : Int) := fun L => by
    refine (bnd (xgf_eq (a := 0) (ok_0 (imC_S S L)) ((imC_0k h L (by omega)).trans (rc_s C)))).trans ?_
    have h7 := C.2.1.1
    exact xgf_eq (a := s) C.2.1.ok ((imC_o h L 2 (by omega) (by omega)).trans ((rc_2 C).trans en))
  have gx : ∀ L (k a : Nat), (a = 21 ∧ k = 1 ∨ a = 22 ∧ k = 2 ∨ a = 23 ∧ k = 3 ∨ a = 24 ∧ k = 4) → xgf (imC h L) 9 k 20 = some (a : Int) := fun L k a q => by
    rcases q with ⟨rfl, rfl⟩ | ⟨rfl, rfl⟩ | ⟨rfl, rfl⟩ | ⟨rfl, rfl⟩
    · exact xgf_eq (a := 20) (ok_20 (imC_S S L)) (pt_20_1 (imC_S S L))
    · exact xgf_eq (a := 20) (ok_20 (imC_S S L)) (pt_20_2 (imC_S S L))
    · exact xgf_eq (a := 20) (ok_20 (imC_S S L)) (pt_20_3 (imC_S S L))
    · exact xgf_eq (a := 20) (ok_20 (imC_S S L)) (pt_20_4 (imC_S S L))
  have g0 : ∀ L, xgf (imC h L) 9 0 20 = some (xm h 212 0) := fun L => xgf_eq (a := 20) (ok_20 (imC_S S L)) ((imC_o h L 0 (by omega) (by omega)).trans (rn_night N))
  have a1 : ∀ L (i : Nat), i < 6 → xal (imC h L) 0 21 (i : Int) = some (xm h 212 (1 + 9 * i)) := fun L i hi => by
    unfold xal
    rw [if_pos (ia_21 (imC_S S L) (by omega) (by omega))]
    exact congrArg some ((imC_o h L _ (by omega) (by omega)).trans (rn_has N hi))
  have a2 : ∀ L (i : Nat), i < 6 → xal (imC h L) 0 22 (i : Int) = some (xm h 212 (1 + 9 * i + 1)) := fun L i hi => by
    unfold xal
    rw [if_pos (ia_22 (imC_S S L) (by omega) (by omega))]
    exact congrArg some ((imC_o h L _ (by omega) (by omega)).trans (rn_wants N hi))
  have a3 : ∀ L (i : Nat), i < 6 → xal (imC h L) 0 23 (i : Int) = some (xm h 212 (1 + 9 * i + 2)) := fun L i hi => by
    unfold xal
    rw [if_pos (ia_23 (imC_S S L) (by omega) (by omega))]
    exact congrArg some ((imC_o h L _ (by omega) (by omega)).trans (rn_purse N hi))
  have a4 : ∀ L (i j : Nat), i < 6 → j < 6 → xal (imC h L) 0 24 (w32 (w32 ((i : Int) * 6) + (j : Int))) = some (xm h 212 (1 + 9 * i + 3 + j)) := fun L i j hi hj => by
    unfold xal
    rw [w32_id (z := (i : Int) * 6) (by omega) (by omega), w32_id (by omega) (by omega), if_pos (ia_24 (imC_S S L) (by omega) (by omega)), show ((i : Int) * 6 + (j : Int)).toNat = i * 6 + j by omega]
    exact congrArg some ((imC_o h L _ (by omega) (by omega)).trans (rn_met N hi hj))
  -- a row's meetings
  have inner : ∀ (L : List Int) (i : Nat), i < n → L.length + n ≤ 62 → xit (fun s => f_X11_image_L110 0 (i : Int) s.1 s.2) xFU (0, imC h L) = some (imC h (L ++ mtL h i n)) := by
    intro L i hi hL
    have e : imC h L = imC h (L ++ mtL h i 0) := by simp only [mtL]; rw [List.append_nil]
    rw [e]
    exact xit_seq (f := fun s => f_X11_image_L110 0 (i : Int) s.1 s.2) (fun j => ((j : Int), imC h (L ++ mtL h i j))) n (imC h (L ++ mtL h i n)) (fun j hj => by
      have hl : (L ++ mtL h i j).length < 63 := by rw [List.length_append, mtL_len]; omega
      show f_X11_image_L110 0 (i : Int) (j : Int) (imC h (L ++ mtL h i j)) = _
      unfold f_X11_image_L110
      refine (bas.trans (bnd (gc _))).trans ?_
      rw [if_pos (by omega)]
      refine (bnd (g6 _)).trans ?_
      refine (bnd (gx _ 4 24 (by omega))).trans ?_
      refine (bnd (a4 _ i j (by omega) (by omega))).trans ?_
      refine (bnd (s_put S hl _)).trans ?_
      rw [w32_id (by omega) (by omega)]
      simp only [mtL]
      rw [List.append_assoc]
      rfl) (by
      show f_X11_image_L110 0 (i : Int) (n : Int) (imC h (L ++ mtL h i n)) = _
      unfold f_X11_image_L110
      refine (bas.trans (bnd (gc _))).trans ?_
      rw [if_neg (by omega)]) (by omega)
  have outer : xit (fun s => f_X11_image_L37 0 s.1 s.2) xFU (0, imC h (rwL h n 0)) = some (imC h (rwL h n n)) :=
    xit_seq (f := fun s => f_X11_image_L37 0 s.1 s.2) (fun i => ((i : Int), imC h (rwL h n i))) n (imC h (rwL h n n)) (fun i hi => by
      have hl : (rwL h n i).length + (4 + n) ≤ 62 := by
        have e := rwL_le (h := h) (n := n) (i := i + 1) hn (by omega)
        rw [rwL_len, Nat.add_mul] at e
        rw [rwL_len]
        omega
      show f_X11_image_L37 0 (i : Int) (imC h (rwL h n i)) = _
      unfold f_X11_image_L37
      refine (bas.trans (bnd (gc _))).trans ?_
      rw [if_pos (by omega)]
      refine (bnd (g6 _)).trans ?_
      refine (bnd (gx _ 1 21 (by omega))).trans ?_
      refine (bnd (a1 _ i (by omega))).trans ?_
      refine (bnd (s_put S (by omega) _)).trans ?_
      refine (bnd (g6 _)).trans ?_
      refine (bnd (gx _ 2 22 (by omega))).trans ?_
      refine (bnd (a2 _ i (by omega))).trans ?_
      refine (bnd (s_put S (by simp only [List.length_append, List.length_cons, List.length_nil]; omega) _)).trans ?_
      refine (bnd (g6 _)).trans ?_
      refine (bnd (gx _ 3 23 (by omega))).trans ?_
      refine (bnd (a3 _ i (by omega))).trans ?_
      refine (bnd (s_put S (by simp only [List.length_append, List.length_cons, List.length_nil]; omega) _)).trans ?_
      refine (bnd (g6 _)).trans ?_
      refine (bnd (gx _ 3 23 (by omega))).trans ?_
      refine (bnd (a3 _ i (by omega))).trans ?_
      refine (bnd (s_put S (by simp only [List.length_append, List.length_cons, List.length_nil]; omega) _)).trans ?_
      refine (bnd (inner _ i hi (by simp only [List.length_append, List.length_cons, List.length_nil]; omega))).trans ?_
      rw [w32_id (by omega) (by omega)]
      rfl) (by
      show f_X11_image_L37 0 (n : Int) (imC h (rwL h n n)) = _
      unfold f_X11_image_L37
      refine (bas.trans (bnd (gc _))).trans ?_
      rw [if_neg (by omega)]) (by omega)
  have hl := rwL_le (h := h) (n := n) (i := n) hn (Nat.le_refl _)
  have Sc := imC_S S (rwL h n n)
  have check : xit (fun s => f_X11_image_L156 0 (imC h (rwL h n n)) s.1 s.2) xFU (17, 0) = some (chk (rwL h n n) (rwL h n n).length) :=
    xit_seq (f := fun s => f_X11_image_L156 0 (imC h (rwL h n n)) s.1 s.2) (fun k => (chk (rwL h n n) k, (k : Int))) (rwL h n n).length _ (fun k hk => by
      show f_X11_image_L156 0 (imC h (rwL h n n)) (chk (rwL h n n) k) (k : Int) = _
      unfold f_X11_image_L156
      refine (bnd (xgf_eq (a := 0) (ok_0 Sc) (imC_n _ _))).trans ?_
      rw [if_pos (by omega)]
      refine (bnd (xgf_eq (a := 0) (ok_0 Sc) (pt_0_15 Sc))).trans ?_
      refine (bnd (v := (rwL h n n).getD k 0) (by unfold xal; rw [if_pos (ia_171 Sc (by omega) (by omega))]; exact congrArg some (imC_c h _ hk))).trans ?_
      rw [w32_id (z := (k : Int) + 1) (by omega) (by omega)]
      rfl) (by
      show f_X11_image_L156 0 (imC h (rwL h n n)) (chk (rwL h n n) (rwL h n n).length) ((rwL h n n).length : Int) = _
      unfold f_X11_image_L156
      refine (bnd (xgf_eq (a := 0) (ok_0 Sc) (imC_n _ _))).trans ?_
      rw [if_neg (by omega)]) (by omega)
  unfold f_X11_image
  refine (bnd (xpf_eq (a := 0) (ok_0 S))).trans ?_
  rw [imC_0]
  refine (bnd (g6 _)).trans ?_
  refine (bnd (g0 _)).trans ?_
  refine (bnd (s_put S (by decide) _)).trans ?_
  refine (bnd (g6 _)).trans ?_
  refine (bnd (g0 _)).trans ?_
  refine (bnd (s_put S (by simp only [List.length_append, List.length_cons, List.length_nil]; omega) _)).trans ?_
  refine (bnd outer).trans ?_
  refine (bnd check).trans ?_
  refine (bnd (s_put S (by omega) _)).trans ?_
  refine (bnd (xgf_eq (a := 0) (ok_0 (imC_S S _)) (imC_n _ _))).trans ?_
  rw [List.length_append]
  rfl
