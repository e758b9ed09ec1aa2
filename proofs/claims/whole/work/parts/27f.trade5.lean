/-! ===== trade, both ===== -/
theorem Lsq_end {h : xa_H} (hn6 : xm h 199 4 ≤ 6) : ∃ T, T ≤ 6 ∧ Lsq h T = 0 ∧ ∀ t, t < T → Lsq h t ≠ 0 := by
  have dec : ∀ t, (∀ t', t' < t → Lsq h t' ≠ 0) → pcn (Lsq h t) + t ≤ 6 := by
    intro t
    induction t with
    | zero => intro _; have := pcn_6 _ (Lsq_lt hn6 0); omega
    | succ t ih =>
      intro ht
      have h1 := ih (fun t' h' => ht t' (by omega))
      have h2 := nxl_less hn6 (Lsq_lt hn6 t) (ht t (by omega)) (Lsq_n hn6 t)
      have : pcn (Lsq h (t + 1)) < pcn (Lsq h t) := h2
      omega
  have ex : ∃ t, t ≤ 6 ∧ Lsq h t = 0 := by
    refine Classical.byContradiction (fun no => ?_)
    have h1 := dec 6 (fun t' h' e => no ⟨t', by omega, e⟩)
    have h2 := (pcn_0 _ (Lsq_lt hn6 6)).mp (by omega)
    exact no ⟨6, by omega, h2⟩
  have least : ∀ m t, t ≤ m → Lsq h t = 0 → ∃ T, T ≤ t ∧ Lsq h T = 0 ∧ ∀ t', t' < T → Lsq h t' ≠ 0 := by
    intro m
    induction m with
    | zero => intro t h1 h2; exact ⟨t, Nat.le_refl _, h2, fun t' h' => by omega⟩
    | succ m ih =>
      intro t h1 h2
      by_cases q : ∃ t', t' < t ∧ Lsq h t' = 0
      · obtain ⟨t', a, b⟩ := q
        obtain ⟨T, c, d, e⟩ := ih t' (by omega) b
        exact ⟨T, by omega, d, e⟩
      · exact ⟨t, Nat.le_refl _, h2, fun t' a e => q ⟨t', a, e⟩⟩
  obtain ⟨t, a, b⟩ := ex
  obtain ⟨T, c, d, e⟩ := least t t (Nat.le_refl _) b
  exact ⟨T, by omega, d, e⟩
theorem tr_same {h : xa_H} (hn6 : xm h 199 4 ≤ 6) (F1 F2 F3 G1 G2 G3 : Nat → Int) : ∀ t k, k < (xm h 199 4).toNat → ¬ (Lsq h t).testBit k = true → (∃ p : Nat, p < (xm h 199 4).toNat ∧ pM h G1 t k = (p : Int) ∧ gA h F1 t k = xm h 212 (1 + 9 * p)) ∧ rA h F2 t k = rA h G2 t k ∧ zA h F3 t k = zM h G3 t k
  | 0, k, hk, hb => absurd ((tb_all _ (by omega) k (by omega)).mpr hk) hb
  | t + 1, k, hk, hb => by
    have nb := nxl_bit (L := Lsq h t) hn6 (by omega) hk
    have hb' : ¬ (nxl h (Lsq h t)).testBit k = true := hb
    rw [nb] at hb'
    by_cases z : (Lsq h t).testBit k = true
    · have r : 0 < rgs h (Lsq h t) k := by
        by_cases y : rgs h (Lsq h t) k = 0
        · exact absurd ⟨z, y⟩ hb'
        · omega
      have c1 : k < (xm h 199 4).toNat ∧ (Lsq h t).testBit k = true ∧ 0 < rgs h (Lsq h t) k := ⟨hk, z, r⟩
      have c2 : k < (xm h 199 4).toNat ∧ (Lsq h t).testBit k = true := ⟨hk, z⟩
      simp only [gA, rA, zA, pM, zM, if_pos c1, if_pos c2]
      exact ⟨⟨_, bst_lt hk _, rfl, rfl⟩, trivial, trivial⟩
    · have ih := tr_same hn6 F1 F2 F3 G1 G2 G3 t k hk z
      have c1 : ¬ (k < (xm h 199 4).toNat ∧ (Lsq h t).testBit k = true ∧ 0 < rgs h (Lsq h t) k) := fun w => z w.2.1
      have c2 : ¬ (k < (xm h 199 4).toNat ∧ (Lsq h t).testBit k = true) := fun w => z w.2
      simp only [gA, rA, zA, pM, zM, if_neg c1, if_neg c2]
      exact ih
theorem c_trade {h : xa_H} {s F1 F2 T2 T3 : Nat} (R : RR h s F1 F2 T2 T3) (v w : Int) : CallOK h (f_X11_trade 0 v w h) (f_X12_trade 173 v w) := by
  have S := rr_S R
  have C := rr_c R
  have N := rr_n R
  have hn := rc_n C
  have ra : ∀ g, RR g s F1 F2 T2 T3 → ∀ a, (a = 164 ∨ a = 165 ∨ a = 166 ∨ a = 167 ∨ a = 219 ∨ a = 220 ∨ a = 221) → ∀ F, RR (xarr g a F) s F1 F2 T2 T3 := by
    intro g Rg a ha F
    rcases ha with rfl | rfl | rfl | rfl | rfl | rfl | rfl <;> exact rr_arr Rg F (by decide +kernel) (fun _ => rfl) (fun _ => rfl) (fun _ => rfl) (fun _ => rfl) (fun _ => rfl) (fun _ => rfl) (fun _ => rfl) (fun _ => rfl) (fun _ => rfl) (fun _ => rfl)
  by_cases q : 0 ≤ v ∧ v < xm h 199 4
  · obtain ⟨i, rfl⟩ : ∃ i : Nat, v = (i : Int) := ⟨v.toNat, by omega⟩
    have hi : i < (xm h 199 4).toNat := by omega
    obtain ⟨T, T6, T0, Tl⟩ := Lsq_end (h := h) hn.2
    have e1 := s_play S C N T0 T6 Tl
    have Tg := tC_T h T
    have S1 := Tg.S S
    have C1 := Tg.C C
    have R1 : RR (tC h T) s F1 F2 T2 T3 := ra _ (ra _ (ra _ (ra _ R 164 (by omega) _) 165 (by omega) _) 166 (by omega) _) 167 (by omega) _
    have e2 := s_trades Tg S C N T0 T6 Tl
    obtain ⟨g, eg⟩ : ∃ g, g = tC h T := ⟨_, rfl⟩
    rw [← eg] at e1 e2 S1 C1 R1 Tg
    have R2 : RR (tM h g T) s F1 F2 T2 T3 := ra _ (ra _ (ra _ R1 219 (by omega) _) 220 (by omega) _) 221 (by omega) _
    have S2 := rr_S R2
    have q' : 0 ≤ (i : Int) ∧ (i : Int) < xm g 199 4 := by rw [Tg.2.2.2 199 4 (by omega) (by omega)]; exact q
    obtain ⟨⟨p, p1, p2, p3⟩, r1, z1⟩ := tr_same (h := h) hn.2 (xm h 164) (xm h 165) (xm h 166) (xm g 219) (z6 (xm g 220)) (xm g 221) T i hi (by rw [T0]; simp)
    have v1 : xm g 164 i = xm h 212 (1 + 9 * p) := by rw [eg]; unfold tC; rw [xm_xarr, if_neg (by omega), xm_xarr, if_neg (by omega), xm_xarr, if_neg (by omega), xm_xarr, if_pos rfl, p3]
    have v2 : xm g 165 i = rA h (z6 (xm g 220)) T i := by rw [← r1]; conv => lhs; rw [eg]; unfold tC; rw [xm_xarr, if_neg (by omega), xm_xarr, if_neg (by omega), xm_xarr, if_pos rfl]
    have v3 : xm g 166 i = zM h (xm g 221) T i := by rw [← z1]; conv => lhs; rw [eg]; unfold tC; rw [xm_xarr, if_neg (by omega), xm_xarr, if_pos rfl]
    have w1 : xm (tM h g T) 219 i = (p : Int) := by unfold tM; rw [xm_xarr, if_neg (by omega), xm_xarr, if_neg (by omega), xm_xarr, if_pos rfl, p2]
    have w2 : xm (tM h g T) 220 i = rA h (z6 (xm g 220)) T i := by unfold tM; rw [xm_xarr, if_neg (by omega), xm_xarr, if_pos rfl]
    have w3 : xm (tM h g T) 221 i = zM h (xm g 221) T i := by unfold tM; rw [xm_xarr, if_pos rfl]
    have w4 : xm (tM h g T) 212 (1 + 9 * p) = xm h 212 (1 + 9 * p) := by unfold tM; rw [xm_xarr, if_neg (by omega), xm_xarr, if_neg (by omega), xm_xarr, if_neg (by omega), Tg.2.2.2 _ _ (by omega) (by omega)]
    have A : f_X11_trade 0 (i : Int) w h = some (if w = 0 then xm g 164 i else if w = 1 then xm g 165 i else if w = 2 then xm g 166 i else -1, g) := by
      unfold f_X11_trade
      refine (bnd (v := (1 : Int)) ?_).trans ?_
      · rw [s_X11_isHolder S C, if_pos q]; exact if_pos (ok_0 S)
      rw [if_neg (by decide)]
      refine (bnd (xgf_eq (a := 0) (ok_0 S) (pt_0_11 S))).trans ?_
      refine (bnd (xgf_eq (a := 0) (ok_0 S) (rc_s C))).trans ?_
      refine (bnd (xgf_eq (a := 0) (ok_0 S) (pt_0_6 S))).trans ?_
      refine (bnd (v := g) ?_).trans ?_
      · rw [e1]; exact if_pos (ok_163 S)
      by_cases w0 : w = 0
      · subst w0; simp (disch := omega) only [↓reduceIte, ↓bbind, ↓bxgf, ↓bxpf, ↓bxal, ↓bxas, ↓bxrc, ↓exrc, Int.reduceEq, Int.reduceLT, Int.reduceNeg, Int.reduceToNat, Int.toNat_natCast, Option.bind_some, if_true, if_false, reduceIte, ok_0 S1, ok_2 S1, ok_4 S1, ok_6 S1, ok_20 S1, ok_26 S1, ok_148 S1, ok_153 S1, ok_158 S1, ok_163 S1, ia_1 S1, ia_3 S1, ia_5 S1, ia_21 S1, ia_22 S1, ia_23 S1, ia_24 S1, ia_25 S1, ia_27 S1, ia_149 S1, ia_150 S1, ia_151 S1, ia_152 S1, ia_154 S1, ia_155 S1, ia_156 S1, ia_157 S1, ia_159 S1, ia_160 S1, ia_161 S1, ia_162 S1, ia_164 S1, ia_165 S1, ia_166 S1, ia_167 S1, ia_168 S1, ia_169 S1, ia_170 S1, ia_171 S1, ia_172 S1, pt_0_0 S1, pt_2_0 S1, pt_2_1 S1, pt_0_2 S1, pt_4_0 S1, pt_4_1 S1, pt_0_3 S1, pt_6_0 S1, pt_6_1 S1, pt_0_4 S1, pt_20_1 S1, pt_20_2 S1, pt_20_3 S1, pt_20_4 S1, pt_20_5 S1, pt_0_6 S1, pt_26_0 S1, pt_0_7 S1, pt_148_0 S1, pt_148_4 S1, pt_148_5 S1, pt_148_6 S1, pt_0_8 S1, pt_153_0 S1, pt_153_4 S1, pt_153_5 S1, pt_153_6 S1, pt_0_9 S1, pt_158_4 S1, pt_158_5 S1, pt_158_6 S1, pt_158_7 S1, pt_0_10 S1, pt_163_0 S1, pt_163_1 S1, pt_163_2 S1, pt_163_3 S1, pt_0_11 S1, pt_0_12 S1, pt_0_13 S1, pt_0_14 S1, pt_0_15 S1, pt_0_17 S1]
      · rw [if_neg w0, if_neg w0]
        by_cases w1 : w = 1
        · subst w1; simp (disch := omega) only [↓reduceIte, ↓bbind, ↓bxgf, ↓bxpf, ↓bxal, ↓bxas, ↓bxrc, ↓exrc, Int.reduceEq, Int.reduceLT, Int.reduceNeg, Int.reduceToNat, Int.toNat_natCast, Option.bind_some, if_true, if_false, reduceIte, ok_0 S1, ok_2 S1, ok_4 S1, ok_6 S1, ok_20 S1, ok_26 S1, ok_148 S1, ok_153 S1, ok_158 S1, ok_163 S1, ia_1 S1, ia_3 S1, ia_5 S1, ia_21 S1, ia_22 S1, ia_23 S1, ia_24 S1, ia_25 S1, ia_27 S1, ia_149 S1, ia_150 S1, ia_151 S1, ia_152 S1, ia_154 S1, ia_155 S1, ia_156 S1, ia_157 S1, ia_159 S1, ia_160 S1, ia_161 S1, ia_162 S1, ia_164 S1, ia_165 S1, ia_166 S1, ia_167 S1, ia_168 S1, ia_169 S1, ia_170 S1, ia_171 S1, ia_172 S1, pt_0_0 S1, pt_2_0 S1, pt_2_1 S1, pt_0_2 S1, pt_4_0 S1, pt_4_1 S1, pt_0_3 S1, pt_6_0 S1, pt_6_1 S1, pt_0_4 S1, pt_20_1 S1, pt_20_2 S1, pt_20_3 S1, pt_20_4 S1, pt_20_5 S1, pt_0_6 S1, pt_26_0 S1, pt_0_7 S1, pt_148_0 S1, pt_148_4 S1, pt_148_5 S1, pt_148_6 S1, pt_0_8 S1, pt_153_0 S1, pt_153_4 S1, pt_153_5 S1, pt_153_6 S1, pt_0_9 S1, pt_158_4 S1, pt_158_5 S1, pt_158_6 S1, pt_158_7 S1, pt_0_10 S1, pt_163_0 S1, pt_163_1 S1, pt_163_2 S1, pt_163_3 S1, pt_0_11 S1, pt_0_12 S1, pt_0_13 S1, pt_0_14 S1, pt_0_15 S1, pt_0_17 S1]
        · rw [if_neg w1, if_neg w1]
          by_cases w2 : w = 2
          · subst w2; simp (disch := omega) only [↓reduceIte, ↓bbind, ↓bxgf, ↓bxpf, ↓bxal, ↓bxas, ↓bxrc, ↓exrc, Int.reduceEq, Int.reduceLT, Int.reduceNeg, Int.reduceToNat, Int.toNat_natCast, Option.bind_some, if_true, if_false, reduceIte, ok_0 S1, ok_2 S1, ok_4 S1, ok_6 S1, ok_20 S1, ok_26 S1, ok_148 S1, ok_153 S1, ok_158 S1, ok_163 S1, ia_1 S1, ia_3 S1, ia_5 S1, ia_21 S1, ia_22 S1, ia_23 S1, ia_24 S1, ia_25 S1, ia_27 S1, ia_149 S1, ia_150 S1, ia_151 S1, ia_152 S1, ia_154 S1, ia_155 S1, ia_156 S1, ia_157 S1, ia_159 S1, ia_160 S1, ia_161 S1, ia_162 S1, ia_164 S1, ia_165 S1, ia_166 S1, ia_167 S1, ia_168 S1, ia_169 S1, ia_170 S1, ia_171 S1, ia_172 S1, pt_0_0 S1, pt_2_0 S1, pt_2_1 S1, pt_0_2 S1, pt_4_0 S1, pt_4_1 S1, pt_0_3 S1, pt_6_0 S1, pt_6_1 S1, pt_0_4 S1, pt_20_1 S1, pt_20_2 S1, pt_20_3 S1, pt_20_4 S1, pt_20_5 S1, pt_0_6 S1, pt_26_0 S1, pt_0_7 S1, pt_148_0 S1, pt_148_4 S1, pt_148_5 S1, pt_148_6 S1, pt_0_8 S1, pt_153_0 S1, pt_153_4 S1, pt_153_5 S1, pt_153_6 S1, pt_0_9 S1, pt_158_4 S1, pt_158_5 S1, pt_158_6 S1, pt_158_7 S1, pt_0_10 S1, pt_163_0 S1, pt_163_1 S1, pt_163_2 S1, pt_163_3 S1, pt_0_11 S1, pt_0_12 S1, pt_0_13 S1, pt_0_14 S1, pt_0_15 S1, pt_0_17 S1]
          · rw [if_neg w2, if_neg w2]
    have hs : f_X12_isIn w 0 2 g = some (if w < 0 ∨ 2 < w then 0 else 1) := s_X12_isIn _ _ _ _
    by_cases wr : w < 0 ∨ 2 < w
    · refine CallOK.same A (h2 := g) ?_ ⟨s, F1, F2, T2, T3, R1⟩ (by rw [eg]; rfl) (by rw [eg]; rfl)
      unfold f_X12_trade
      refine (bnd (v := (1 : Int)) ?_).trans ?_
      · rw [s_X12_isHolder S1 C1, if_pos q']; exact if_pos (ok_173 S1)
      rw [if_neg (by decide), hs, if_pos wr, if_neg (by omega), if_neg (by omega), if_neg (by omega)]
      rfl
    · refine CallOK.same A (h2 := tM h g T) ?_ ⟨s, F1, F2, T2, T3, R2⟩ (by show xn g = xn h; rw [eg]; rfl) (by show xz g = xz h; rw [eg]; rfl)
      unfold f_X12_trade
      refine (bnd (v := (1 : Int)) ?_).trans ?_
      · rw [s_X12_isHolder S1 C1, if_pos q']; exact if_pos (ok_173 S1)
      rw [if_neg (by decide), hs, if_neg wr]
      refine (bnd (v := (1 : Int)) rfl).trans ?_
      rw [if_neg (by decide)]
      refine (bnd (v := tM h g T) ?_).trans ?_
      · rw [e2]; exact if_pos (ok_173 S1)
      by_cases w0 : w = 0
      · subst w0
        simp (disch := omega) only [↓reduceIte, ↓bbind, ↓bxgf, ↓bxpf, ↓bxal, ↓bxas, ↓bxrc, ↓exrc, Int.reduceEq, Int.reduceLT, Int.reduceNeg, Int.reduceToNat, Int.toNat_natCast, Option.bind_some, if_true, if_false, reduceIte, ok_173 S2, pt_173_67 S2, ia_219 S2, w1, s_X12_hadBy S2, w4, v1]
      · rw [if_neg w0, if_neg w0]
        by_cases w1' : w = 1
        · subst w1'
          simp (disch := omega) only [↓reduceIte, ↓bbind, ↓bxgf, ↓bxpf, ↓bxal, ↓bxas, ↓bxrc, ↓exrc, Int.reduceEq, Int.reduceLT, Int.reduceNeg, Int.reduceToNat, Int.toNat_natCast, Option.bind_some, if_true, if_false, reduceIte, ok_173 S2, pt_173_68 S2, ia_220 S2, w2, v2]
        · rw [if_neg w1', if_neg w1', if_pos (by omega)]
          simp (disch := omega) only [↓reduceIte, ↓bbind, ↓bxgf, ↓bxpf, ↓bxal, ↓bxas, ↓bxrc, ↓exrc, Int.reduceEq, Int.reduceLT, Int.reduceNeg, Int.reduceToNat, Int.toNat_natCast, Option.bind_some, if_true, if_false, reduceIte, ok_173 S2, pt_173_69 S2, ia_221 S2, w3, v3]
  · refine CallOK.same (v := -1) (h1 := h) (h2 := h) ?_ ?_ ⟨s, F1, F2, T2, T3, R⟩ rfl rfl
    · unfold f_X11_trade
      refine (bnd (v := (0 : Int)) ?_).trans ?_
      · rw [s_X11_isHolder S C, if_neg q]; exact if_pos (ok_0 S)
      rfl
    · unfold f_X12_trade
      refine (bnd (v := (0 : Int)) ?_).trans ?_
      · rw [s_X12_isHolder S C, if_neg q]; exact if_pos (ok_173 S)
      rfl
