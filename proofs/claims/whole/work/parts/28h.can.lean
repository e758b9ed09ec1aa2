/-! ===== can, next ===== -/
theorem xior0 : ∀ b, b < 64 → xior ((b : Nat) : Int) 0 = ((b : Nat) : Int) := by decide +kernel
theorem nC_ways {n m r i j : Nat} {ρ : Nat → Int} {F : Nat → Int} (hm : m ≤ 6) (hn : n ≤ 6) (hi : i < n) (hj : j < m) : wyA n m ρ r (m ^ n) F (6 * i + j) = ((nC n m ρ r i j : Nat) : Int) := by
  unfold wyA nC
  have dm : (6 * i + j) / 6 = i ∧ (6 * i + j) % 6 = j := by omega
  rw [if_pos (by omega), dm.1, dm.2]
  simp only [hi, and_true]
theorem nW_le {n m r : Nat} {ρ : Nat → Int} (hm : m ≤ 6) (hn : n ≤ 6) : nW n m ρ r ≤ 46656 := by
  have := pow6 m (by omega) n (by omega)
  exact Nat.le_trans (sum_le_n (fun i => by split <;> omega) _) this
theorem nC_le {n m r i j : Nat} {ρ : Nat → Int} : nC n m ρ r i j ≤ nW n m ρ r := by
  refine sumN_le _ (fun N _ => ?_)
  by_cases a : wayb n m ρ r N = true
  · rw [if_pos a]; split <;> omega
  · rw [if_neg a, if_neg (fun w => a w.1)]; omega
/-- what a call of can or next leaves in the reference -/
theorem rr_ways {h : xa_H} {s F1 F2 T2 T3 : Nat} (R : RR h s F1 F2 T2 T3) (F G : Nat → Int) : RR (xarr (xarr h 223 F) 218 G) s F1 F2 T2 T3 :=
  rr_arr (rr_arr R F (by decide +kernel) (fun _ => rfl) (fun _ => rfl) (fun _ => rfl) (fun _ => rfl) (fun _ => rfl) (fun _ => rfl) (fun _ => rfl) (fun _ => rfl) (fun _ => rfl) (fun _ => rfl)) G (by decide +kernel) (fun _ => rfl) (fun _ => rfl) (fun _ => rfl) (fun _ => rfl) (fun _ => rfl) (fun _ => rfl) (fun _ => rfl) (fun _ => rfl) (fun _ => rfl) (fun _ => rfl)
theorem c_can {h : xa_H} {s F1 F2 T2 T3 : Nat} (R : RR h s F1 F2 T2 T3) (v : Int) : CallOK h ((f_X11_can 0 v h).bind fun r => some (r, h)) (f_X12_can 173 v) := by
  have S := rr_S R
  have C := rr_c R
  have hn := rc_n C
  have hm := rc_m C
  obtain ⟨r, n, m, o1, o2, o3, o4, o5, o6, o7, o8, o9, o10⟩ := rr_2 R
  have hn6 : n ≤ 6 := by omega
  have hm6 : m ≤ 6 := by omega
  have hm0 : 0 < m ∨ n = 0 := by
    by_cases z : n = 0
    · exact Or.inr z
    · have := rv_has (rr_n R) (i := 0) (by omega)
      exact Or.inl (by omega)
  obtain ⟨F, lw⟩ := s_laysWays S C o4 o5 o2 o1 hm0 (fun k hk => (o8 k hk).1)
  obtain ⟨g, eg⟩ : ∃ g, g = xarr (xarr h 223 (wyA n m (xm h 222) r (m ^ n) (xm h 223))) 218 F := ⟨_, rfl⟩
  rw [← eg] at lw
  have Rg : RR g s F1 F2 T2 T3 := by rw [eg]; exact rr_ways R _ _
  have Sg := rr_S Rg
  by_cases q1 : v = -1
  · subst q1
    refine CallOK.same (v := ((nW n m (xm h 222) r : Nat) : Int)) (h1 := h) (h2 := g) ?_ ?_ ⟨s, F1, F2, T2, T3, Rg⟩ (by rw [eg]; rfl) (by rw [eg]; rfl)
    · unfold f_X11_can
      rw [if_pos rfl]
      simp (disch := omega) only [↓reduceIte, ↓bbind, ↓bxgf, ↓bxpf, ↓bxal, ↓bxas, ↓bxrc, ↓exrc, Int.reduceEq, Int.reduceLT, Int.reduceNeg, Int.reduceToNat, Int.toNat_natCast, Option.bind_some, if_true, if_false, reduceIte, ok_0 S, ok_2 S, ok_4 S, ok_6 S, ok_20 S, ok_26 S, ok_148 S, ok_153 S, ok_158 S, ok_163 S, ia_1 S, ia_3 S, ia_5 S, ia_21 S, ia_22 S, ia_23 S, ia_24 S, ia_25 S, ia_27 S, ia_149 S, ia_150 S, ia_151 S, ia_152 S, ia_154 S, ia_155 S, ia_156 S, ia_157 S, ia_159 S, ia_160 S, ia_161 S, ia_162 S, ia_164 S, ia_165 S, ia_166 S, ia_167 S, ia_168 S, ia_169 S, ia_170 S, ia_171 S, ia_172 S, pt_0_0 S, pt_2_0 S, pt_2_1 S, pt_0_2 S, pt_4_0 S, pt_4_1 S, pt_0_3 S, pt_6_0 S, pt_6_1 S, pt_0_4 S, pt_20_1 S, pt_20_2 S, pt_20_3 S, pt_20_4 S, pt_20_5 S, pt_0_6 S, pt_26_0 S, pt_0_7 S, pt_148_0 S, pt_148_4 S, pt_148_5 S, pt_148_6 S, pt_0_8 S, pt_153_0 S, pt_153_4 S, pt_153_5 S, pt_153_6 S, pt_0_9 S, pt_158_4 S, pt_158_5 S, pt_158_6 S, pt_158_7 S, pt_0_10 S, pt_163_0 S, pt_163_1 S, pt_163_2 S, pt_163_3 S, pt_0_11 S, pt_0_12 S, pt_0_13 S, pt_0_14 S, pt_0_15 S, pt_0_17 S, o9]
    · unfold f_X12_can f_X12_can_J15
      rw [if_pos rfl]
      refine (bnd (v := (((nW n m (xm h 222) r : Nat) : Int), g)) (by rw [lw]; exact if_pos (ok_173 S))).trans ?_
      rw [if_pos rfl]
  · by_cases q : 0 ≤ v ∧ v < xm h 199 4
    · obtain ⟨i, rfl⟩ : ∃ i : Nat, v = (i : Int) := ⟨v.toNat, by omega⟩
      have hi : i < n := by omega
      have stc : ∀ (b x : Nat), b < 64 → x ≤ m → f_X11_can 0 (i : Int) h = f_X11_can 0 (i : Int) h ∧ f_X5_possible_L4 158 (i : Int) h (b : Int) (x : Int) = (if x < m then some (.inl (((if 0 < nC n m (xm h 222) r i x then b ||| 2 ^ x else b : Nat) : Int), ((x + 1 : Nat) : Int))) else some (.inr (b : Int))) ∧ f_X12_can_L32 173 (i : Int) g (b : Int) (x : Int) = (if x < m then some (.inl (((if 0 < nC n m (xm h 222) r i x then b ||| 2 ^ x else b : Nat) : Int), ((x + 1 : Nat) : Int))) else some (.inr (b : Int))) := by
        intro b x hb hx
        refine ⟨rfl, ?_, ?_⟩
        · unfold f_X5_possible_L4
          refine (bnd (xgf_eq (a := 158) (ok_158 S) o7)).trans ?_
          by_cases z : x < m
          · rw [if_pos (by omega), if_pos z]
            simp (disch := omega) only [↓reduceIte, ↓bbind, ↓bxgf, ↓bxpf, ↓bxal, ↓bxas, ↓bxrc, ↓exrc, Int.reduceEq, Int.reduceLT, Int.reduceNeg, Int.reduceToNat, Int.toNat_natCast, Option.bind_some, if_true, if_false, reduceIte, ok_0 S, ok_2 S, ok_4 S, ok_6 S, ok_20 S, ok_26 S, ok_148 S, ok_153 S, ok_158 S, ok_163 S, ia_1 S, ia_3 S, ia_5 S, ia_21 S, ia_22 S, ia_23 S, ia_24 S, ia_25 S, ia_27 S, ia_149 S, ia_150 S, ia_151 S, ia_152 S, ia_154 S, ia_155 S, ia_156 S, ia_157 S, ia_159 S, ia_160 S, ia_161 S, ia_162 S, ia_164 S, ia_165 S, ia_166 S, ia_167 S, ia_168 S, ia_169 S, ia_170 S, ia_171 S, ia_172 S, pt_0_0 S, pt_2_0 S, pt_2_1 S, pt_0_2 S, pt_4_0 S, pt_4_1 S, pt_0_3 S, pt_6_0 S, pt_6_1 S, pt_0_4 S, pt_20_1 S, pt_20_2 S, pt_20_3 S, pt_20_4 S, pt_20_5 S, pt_0_6 S, pt_26_0 S, pt_0_7 S, pt_148_0 S, pt_148_4 S, pt_148_5 S, pt_148_6 S, pt_0_8 S, pt_153_0 S, pt_153_4 S, pt_153_5 S, pt_153_6 S, pt_0_9 S, pt_158_4 S, pt_158_5 S, pt_158_6 S, pt_158_7 S, pt_0_10 S, pt_163_0 S, pt_163_1 S, pt_163_2 S, pt_163_3 S, pt_0_11 S, pt_0_12 S, pt_0_13 S, pt_0_14 S, pt_0_15 S, pt_0_17 S, w32_id, Int.toNat_add, Int.toNat_mul, o10 i x hi z, (b_set b hb x (by omega)).1, xior0 b hb]
            by_cases y : 0 < nC n m (xm h 222) r i x
            · rw [if_pos (by omega), if_pos y]; rfl
            · rw [if_neg (by omega), if_neg y]; rfl
          · rw [if_neg (by omega), if_neg z]
        · unfold f_X12_can_L32
          refine (bnd (v := (m : Int)) (by rw [s_X12_heldMany Sg, eg, xm_xarr, if_neg (by omega), xm_xarr, if_neg (by omega), o5]; exact if_pos (ok_173 (by rw [← eg]; exact Sg)))).trans ?_
          by_cases z : x < m
          · have vw : xm g 223 (6 * i + x) = ((nC n m (xm h 222) r i x : Nat) : Int) := by
              rw [eg, xm_xarr, if_neg (by omega), xm_xarr, if_pos rfl]
              exact nC_ways hm6 hn6 hi z
            rw [if_pos (by omega), if_pos z]
            simp (disch := omega) only [↓reduceIte, ↓bbind, ↓bxgf, ↓bxpf, ↓bxal, ↓bxas, ↓bxrc, ↓exrc, Int.reduceEq, Int.reduceLT, Int.reduceNeg, Int.reduceToNat, Int.toNat_natCast, Option.bind_some, if_true, if_false, reduceIte, ok_173 Sg, pt_173_72 Sg, ia_223 Sg, w32_id, Int.toNat_add, Int.toNat_mul, vw, (b_set b hb x (by omega)).1]
            by_cases y : 0 < nC n m (xm h 222) r i x
            · rw [if_pos (by omega), if_pos y]; rfl
            · rw [if_neg (by omega), if_neg y]; rfl
          · rw [if_neg (by omega), if_neg z]
      obtain ⟨e, he, b, hb, rfl⟩ := xit_inv (f := fun s => f_X5_possible_L4 158 (i : Int) h s.1 s.2) (fun t => ∃ b x : Nat, b < 64 ∧ x ≤ m ∧ t = ((b : Int), (x : Int))) (fun t => 6 - t.2.toNat) (fun e => ∃ b : Nat, b < 64 ∧ e = (b : Int)) (0, 0) ⟨0, 0, by omega, by omega, rfl⟩ (by show 6 - (0 : Int).toNat < 1000000; omega) (by
        rintro t ⟨b, x, h1, h2, rfl⟩
        dsimp only
        rw [(stc b x h1 h2).2.1]
        by_cases z : x < m
        · rw [if_pos z]
          refine Or.inl ⟨_, rfl, ⟨_, x + 1, ?_, by omega, rfl⟩, by show 6 - ((x + 1 : Nat) : Int).toNat < 6 - (x : Int).toNat; omega⟩
          split
          · exact (b_set b h1 x (by omega)).2
          · exact h1
        · rw [if_neg z]
          exact Or.inr ⟨_, rfl, b, h1, rfl⟩)
      have he2 : xit (fun s => f_X12_can_L32 173 (i : Int) g s.1 s.2) xFU (0, 0) = some (b : Int) := by
        rw [← he]
        refine (xit_congr (fun t => ∃ b x : Nat, b < 64 ∧ x ≤ m ∧ t = ((b : Int), (x : Int))) (fun t ht => ?_) xFU (0, 0) ⟨0, 0, by omega, by omega, rfl⟩).symm
        obtain ⟨b, x, h1, h2, rfl⟩ := ht
        dsimp only
        refine ⟨(stc b x h1 h2).2.1.trans (stc b x h1 h2).2.2.symm, fun s' hs => ?_⟩
        have hs' := (stc b x h1 h2).2.1.symm.trans hs
        by_cases z : x < m
        · rw [if_pos z] at hs'
          simp only [Option.some.injEq, Sum.inl.injEq] at hs'
          refine ⟨_, x + 1, ?_, by omega, hs'.symm⟩
          split
          · exact (b_set b h1 x (by omega)).2
          · exact h1
        · rw [if_neg z] at hs'
          simp at hs'
      refine CallOK.same (v := (b : Int)) (h1 := h) (h2 := g) ?_ ?_ ⟨s, F1, F2, T2, T3, Rg⟩ (by rw [eg]; rfl) (by rw [eg]; rfl)
      · unfold f_X11_can
        rw [if_neg q1]
        refine (bnd (v := (b : Int)) ?_).trans rfl
        refine (bnd (v := (1 : Int)) (by rw [s_X11_isHolder S C, if_pos q]; exact if_pos (ok_0 S))).trans ?_
        rw [if_neg (by decide)]
        refine (bnd (xgf_eq (a := 0) (ok_0 S) (pt_0_10 S))).trans ?_
        refine (bnd (v := (b : Int)) ?_).trans rfl
        refine (if_pos (ok_158 S)).trans ?_
        unfold f_X5_possible
        exact (bnd he).trans rfl
      · unfold f_X12_can f_X12_can_J15
        rw [if_neg q1]
        refine (bnd (v := (1 : Int)) (by rw [s_X12_isHolder S C, if_pos q]; exact if_pos (ok_173 S))).trans ?_
        rw [if_neg (by decide)]
        refine (bnd (v := (((nW n m (xm h 222) r : Nat) : Int), g)) (by rw [lw]; exact if_pos (ok_173 S))).trans ?_
        rw [if_neg q1]
        exact (bnd he2).trans rfl
    · refine CallOK.same (v := -1) (h1 := h) (h2 := h) ?_ ?_ ⟨s, F1, F2, T2, T3, R⟩ rfl rfl
      · unfold f_X11_can
        rw [if_neg q1]
        refine (bnd (v := (-1 : Int)) ?_).trans rfl
        refine (bnd (v := (0 : Int)) (by rw [s_X11_isHolder S C, if_neg q]; exact if_pos (ok_0 S))).trans ?_
        rfl
      · unfold f_X12_can
        rw [if_neg q1]
        refine (bnd (v := (0 : Int)) (by rw [s_X12_isHolder S C, if_neg q]; exact if_pos (ok_173 S))).trans ?_
        rfl
