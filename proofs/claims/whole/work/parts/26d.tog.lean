/-! ===== together, clear, judged ===== -/
def mrb (h : xa_H) (i j : Nat) : Int := w32 (w32 (w32 (xm h 206 (36 + 6 * i + (xm h 212 (1 + 9 * j)).toNat) - xm h 206 (36 + 6 * i + (xm h 212 (1 + 9 * i)).toNat)) + xm h 206 (36 + 6 * j + (xm h 212 (1 + 9 * i)).toNat)) - xm h 206 (36 + 6 * j + (xm h 212 (1 + 9 * j)).toNat))
theorem s_moreBySwap {h : xa_H} {s : Nat} (S : SH h) (C : Rc h s) (N : Rn h) {i j : Nat} (hi : (i : Int) < xm h 199 4) (hj : (j : Int) < xm h 199 4) : f_X11_moreBySwap 0 (i : Int) (j : Int) h = some (mrb h i j) := by
  have hn := rc_n C
  have hm := rc_m C
  obtain ⟨a, ea, ha, -⟩ := rv_has' N hi hm.2
  obtain ⟨b, eb, hb, -⟩ := rv_has' N hj hm.2
  unfold f_X11_moreBySwap mrb
  simp (disch := omega) only [↓reduceIte, ↓bbind, ↓bxgf, ↓bxpf, ↓bxal, ↓bxas, ↓bxrc, ↓exrc, Int.reduceEq, Int.reduceLT, Int.reduceNeg, Int.reduceToNat, Int.toNat_natCast, Option.bind_some, if_true, if_false, reduceIte, ok_0 S, ok_2 S, ok_4 S, ok_6 S, ok_20 S, ok_26 S, ok_148 S, ok_153 S, ok_158 S, ok_163 S, ia_1 S, ia_3 S, ia_5 S, ia_21 S, ia_22 S, ia_23 S, ia_24 S, ia_25 S, ia_27 S, ia_149 S, ia_150 S, ia_151 S, ia_152 S, ia_154 S, ia_155 S, ia_156 S, ia_157 S, ia_159 S, ia_160 S, ia_161 S, ia_162 S, ia_164 S, ia_165 S, ia_166 S, ia_167 S, ia_168 S, ia_169 S, ia_170 S, ia_171 S, ia_172 S, pt_0_0 S, pt_2_0 S, pt_2_1 S, pt_0_2 S, pt_4_0 S, pt_4_1 S, pt_0_3 S, pt_6_0 S, pt_6_1 S, pt_0_4 S, pt_20_1 S, pt_20_2 S, pt_20_3 S, pt_20_4 S, pt_20_5 S, pt_0_6 S, pt_26_0 S, pt_0_7 S, pt_148_0 S, pt_148_4 S, pt_148_5 S, pt_148_6 S, pt_0_8 S, pt_153_0 S, pt_153_4 S, pt_153_5 S, pt_153_6 S, pt_0_9 S, pt_158_4 S, pt_158_5 S, pt_158_6 S, pt_158_7 S, pt_0_10 S, pt_163_0 S, pt_163_1 S, pt_163_2 S, pt_163_3 S, pt_0_11 S, pt_0_12 S, pt_0_13 S, pt_0_14 S, pt_0_15 S, pt_0_17 S, rc_s C, rc_1 C, rc_2 C, rc_3 C, rc_4 C, rc_salt C, rc_sister C, rc_value C, rc_feud C, CS.ok (C.2.1), CS.okS (C.2.1), cs_ia1 (C.2.1), cs_ia2 (C.2.1), cs_ia3 (C.2.1), cs_ia4 (C.2.1), cs_ia5 (C.2.1), cs_ia6 (C.2.1), cs_p5 (C.2.1), cs_p6 (C.2.1), cs_p7 (C.2.1), cs_p8 (C.2.1), cs_p9 (C.2.1), cs_p10 (C.2.1), cs_p13 (C.2.1), rn_night N, rn_has N, rn_wants N, rn_purse N, rn_met N, rn_kc N, rn_kept N, ea, eb, s_X0_valueOf C]
theorem s_moreBy {h : xa_H} {s : Nat} (S : SH h) (C : Rc h s) (N : Rn h) {i j : Nat} (hi : (i : Int) < xm h 199 4) (hj : (j : Int) < xm h 199 4) : f_X12_moreBy 173 (i : Int) (j : Int) h = some (mrb h i j) := by
  have hn := rc_n C
  have hm := rc_m C
  obtain ⟨a, ea, ha, -⟩ := rv_has' N hi hm.2
  obtain ⟨b, eb, hb, -⟩ := rv_has' N hj hm.2
  unfold f_X12_moreBy mrb
  simp (disch := omega) only [↓reduceIte, ↓bbind, ↓bxgf, ↓bxpf, ↓bxal, ↓bxas, ↓bxrc, ↓exrc, Int.reduceEq, Int.reduceLT, Int.reduceNeg, Int.reduceToNat, Int.toNat_natCast, Option.bind_some, if_true, if_false, reduceIte, ok_173 S, ea, eb, s_X12_hadBy S, s_X12_valueOf S]
/-- best so far: nobody and 0, or somebody and more -/
def tgq (t : Int × Int × Int) : Prop := (t.1 = 0 ∧ t.2.1 = -1 ∧ t.2.2 = -1) ∨ (0 < t.1 ∧ 0 ≤ t.2.1)
theorem l_tog1 {h : xa_H} {s : Nat} (S : SH h) (C : Rc h s) (N : Rn h) (w : Int) {i : Nat} (hi : (i : Int) < xm h 199 4) (t : Int × Int × Int) (ht : tgq t) (j0 : Nat) (hj0 : j0 ≤ (xm h 199 4).toNat) : ∃ e, xit (fun s => f_X11_together_L28 0 w (i : Int) h s.1 s.2.1 s.2.2.1 s.2.2.2) xFU (t.1, t.2.1, t.2.2, (j0 : Int)) = some e ∧ xit (fun s => f_X12_together_L39 173 w (i : Int) h s.1 s.2.1 s.2.2.1 s.2.2.2) xFU (t.1, t.2.1, t.2.2, (j0 : Int)) = some e ∧ tgq e := by
  have hn := rc_n C
  have st : ∀ (a b c : Int) (j : Nat), j ≤ (xm h 199 4).toNat → f_X11_together_L28 0 w (i : Int) h a b c (j : Int) = (if j < (xm h 199 4).toNat then (if a < mrb h i j then some (.inl (mrb h i j, (i : Int), (j : Int), ((j + 1 : Nat) : Int))) else some (.inl (a, b, c, ((j + 1 : Nat) : Int)))) else some (.inr (a, b, c))) ∧ f_X12_together_L39 173 w (i : Int) h a b c (j : Int) = (if j < (xm h 199 4).toNat then (if a < mrb h i j then some (.inl (mrb h i j, (i : Int), (j : Int), ((j + 1 : Nat) : Int))) else some (.inl (a, b, c, ((j + 1 : Nat) : Int)))) else some (.inr (a, b, c))) := by
    intro a b c j hj
    by_cases q : j < (xm h 199 4).toNat
    · have q' : (j : Int) < xm h 199 4 := by omega
      rw [if_pos q]
      constructor
      · unfold f_X11_together_L28
        simp (disch := omega) only [↓reduceIte, ↓bbind, ↓bxgf, ↓bxpf, ↓bxal, ↓bxas, ↓bxrc, ↓exrc, Int.reduceEq, Int.reduceLT, Int.reduceNeg, Int.reduceToNat, Int.toNat_natCast, Option.bind_some, if_true, if_false, reduceIte, ok_0 S, ok_2 S, ok_4 S, ok_6 S, ok_20 S, ok_26 S, ok_148 S, ok_153 S, ok_158 S, ok_163 S, ia_1 S, ia_3 S, ia_5 S, ia_21 S, ia_22 S, ia_23 S, ia_24 S, ia_25 S, ia_27 S, ia_149 S, ia_150 S, ia_151 S, ia_152 S, ia_154 S, ia_155 S, ia_156 S, ia_157 S, ia_159 S, ia_160 S, ia_161 S, ia_162 S, ia_164 S, ia_165 S, ia_166 S, ia_167 S, ia_168 S, ia_169 S, ia_170 S, ia_171 S, ia_172 S, pt_0_0 S, pt_2_0 S, pt_2_1 S, pt_0_2 S, pt_4_0 S, pt_4_1 S, pt_0_3 S, pt_6_0 S, pt_6_1 S, pt_0_4 S, pt_20_1 S, pt_20_2 S, pt_20_3 S, pt_20_4 S, pt_20_5 S, pt_0_6 S, pt_26_0 S, pt_0_7 S, pt_148_0 S, pt_148_4 S, pt_148_5 S, pt_148_6 S, pt_0_8 S, pt_153_0 S, pt_153_4 S, pt_153_5 S, pt_153_6 S, pt_0_9 S, pt_158_4 S, pt_158_5 S, pt_158_6 S, pt_158_7 S, pt_0_10 S, pt_163_0 S, pt_163_1 S, pt_163_2 S, pt_163_3 S, pt_0_11 S, pt_0_12 S, pt_0_13 S, pt_0_14 S, pt_0_15 S, pt_0_17 S, rc_s C, rc_1 C, rc_2 C, rc_3 C, rc_4 C, rc_salt C, rc_sister C, rc_value C, rc_feud C, CS.ok (C.2.1), CS.okS (C.2.1), cs_ia1 (C.2.1), cs_ia2 (C.2.1), cs_ia3 (C.2.1), cs_ia4 (C.2.1), cs_ia5 (C.2.1), cs_ia6 (C.2.1), cs_p5 (C.2.1), cs_p6 (C.2.1), cs_p7 (C.2.1), cs_p8 (C.2.1), cs_p9 (C.2.1), cs_p10 (C.2.1), cs_p13 (C.2.1), if_pos q', s_moreBySwap S C N hi q', w32_id]
        rfl
      · unfold f_X12_together_L39
        simp (disch := omega) only [↓reduceIte, ↓bbind, ↓bxgf, ↓bxpf, ↓bxal, ↓bxas, ↓bxrc, ↓exrc, Int.reduceEq, Int.reduceLT, Int.reduceNeg, Int.reduceToNat, Int.toNat_natCast, Option.bind_some, if_true, if_false, reduceIte, ok_173 S, s_X12_holderMany S, if_pos q', s_moreBy S C N hi q', w32_id]
        rfl
    · have q' : ¬ (j : Int) < xm h 199 4 := by omega
      rw [if_neg q]
      constructor
      · unfold f_X11_together_L28
        simp (disch := omega) only [↓reduceIte, ↓bbind, ↓bxgf, ↓bxpf, ↓bxal, ↓bxas, ↓bxrc, ↓exrc, Int.reduceEq, Int.reduceLT, Int.reduceNeg, Int.reduceToNat, Int.toNat_natCast, Option.bind_some, if_true, if_false, reduceIte, ok_0 S, ok_2 S, ok_4 S, ok_6 S, ok_20 S, ok_26 S, ok_148 S, ok_153 S, ok_158 S, ok_163 S, ia_1 S, ia_3 S, ia_5 S, ia_21 S, ia_22 S, ia_23 S, ia_24 S, ia_25 S, ia_27 S, ia_149 S, ia_150 S, ia_151 S, ia_152 S, ia_154 S, ia_155 S, ia_156 S, ia_157 S, ia_159 S, ia_160 S, ia_161 S, ia_162 S, ia_164 S, ia_165 S, ia_166 S, ia_167 S, ia_168 S, ia_169 S, ia_170 S, ia_171 S, ia_172 S, pt_0_0 S, pt_2_0 S, pt_2_1 S, pt_0_2 S, pt_4_0 S, pt_4_1 S, pt_0_3 S, pt_6_0 S, pt_6_1 S, pt_0_4 S, pt_20_1 S, pt_20_2 S, pt_20_3 S, pt_20_4 S, pt_20_5 S, pt_0_6 S, pt_26_0 S, pt_0_7 S, pt_148_0 S, pt_148_4 S, pt_148_5 S, pt_148_6 S, pt_0_8 S, pt_153_0 S, pt_153_4 S, pt_153_5 S, pt_153_6 S, pt_0_9 S, pt_158_4 S, pt_158_5 S, pt_158_6 S, pt_158_7 S, pt_0_10 S, pt_163_0 S, pt_163_1 S, pt_163_2 S, pt_163_3 S, pt_0_11 S, pt_0_12 S, pt_0_13 S, pt_0_14 S, pt_0_15 S, pt_0_17 S, rc_s C, rc_1 C, rc_2 C, rc_3 C, rc_4 C, rc_salt C, rc_sister C, rc_value C, rc_feud C, CS.ok (C.2.1), CS.okS (C.2.1), cs_ia1 (C.2.1), cs_ia2 (C.2.1), cs_ia3 (C.2.1), cs_ia4 (C.2.1), cs_ia5 (C.2.1), cs_ia6 (C.2.1), cs_p5 (C.2.1), cs_p6 (C.2.1), cs_p7 (C.2.1), cs_p8 (C.2.1), cs_p9 (C.2.1), cs_p10 (C.2.1), cs_p13 (C.2.1), if_neg q']
      · unfold f_X12_together_L39
        simp (disch := omega) only [↓reduceIte, ↓bbind, ↓bxgf, ↓bxpf, ↓bxal, ↓bxas, ↓bxrc, ↓exrc, Int.reduceEq, Int.reduceLT, Int.reduceNeg, Int.reduceToNat, Int.toNat_natCast, Option.bind_some, if_true, if_false, reduceIte, ok_173 S, s_X12_holderMany S, if_neg q']
  obtain ⟨e, he, hq⟩ := xit_inv (f := fun s => f_X11_together_L28 0 w (i : Int) h s.1 s.2.1 s.2.2.1 s.2.2.2) (fun u => ∃ (a b c : Int) (j : Nat), j ≤ (xm h 199 4).toNat ∧ u = (a, b, c, (j : Int)) ∧ tgq (a, b, c)) (fun u => 6 - u.2.2.2.toNat) tgq (t.1, t.2.1, t.2.2, (j0 : Int)) ⟨_, _, _, j0, hj0, rfl, ht⟩ (by show 6 - (j0 : Int).toNat < 1000000; omega) (by
    rintro u ⟨a, b, c, j, h1, rfl, h2⟩
    dsimp only
    rw [(st a b c j h1).1]
    by_cases q : j < (xm h 199 4).toNat
    · rw [if_pos q]
      by_cases z : a < mrb h i j
      · refine Or.inl ⟨_, if_pos z, ⟨_, _, _, j + 1, by omega, rfl, Or.inr ⟨?_, by show (0 : Int) ≤ (i : Int); omega⟩⟩, by show 6 - ((j + 1 : Nat) : Int).toNat < 6 - (j : Int).toNat; omega⟩
        rcases h2 with ⟨o, -, -⟩ | ⟨o, -⟩
        · have o' : a = 0 := o
          show 0 < mrb h i j
          omega
        · have o' : 0 < a := o
          show 0 < mrb h i j
          omega
      · exact Or.inl ⟨_, if_neg z, ⟨a, b, c, j + 1, by omega, rfl, h2⟩, by show 6 - ((j + 1 : Nat) : Int).toNat < 6 - (j : Int).toNat; omega⟩
    · rw [if_neg q]
      exact Or.inr ⟨_, rfl, h2⟩)
  refine ⟨e, he, ?_, hq⟩
  rw [← he]
  refine (xit_congr (fun u => ∃ (a b c : Int) (j : Nat), j ≤ (xm h 199 4).toNat ∧ u = (a, b, c, (j : Int))) (fun u hu => ?_) xFU _ ⟨_, _, _, j0, hj0, rfl⟩).symm
  obtain ⟨a, b, c, j, h1, rfl⟩ := hu
  refine ⟨(st a b c j h1).1.trans (st a b c j h1).2.symm, fun s' hs => ?_⟩
  have hs' := ((st a b c j h1).1).symm.trans hs
  by_cases q : j < (xm h 199 4).toNat
  · rw [if_pos q] at hs'
    by_cases z : a < mrb h i j
    · rw [if_pos z] at hs'
      simp only [Option.some.injEq, Sum.inl.injEq] at hs'
      exact ⟨_, _, _, j + 1, by omega, hs'.symm⟩
    · rw [if_neg z] at hs'
      simp only [Option.some.injEq, Sum.inl.injEq] at hs'
      exact ⟨_, _, _, j + 1, by omega, hs'.symm⟩
  · rw [if_neg q] at hs'
    simp at hs'
theorem l_tog {h : xa_H} {s : Nat} (S : SH h) (C : Rc h s) (N : Rn h) (w : Int) : ∃ e, xit (fun s => f_X11_together_L10 0 w h s.1 s.2.1 s.2.2.1 s.2.2.2) xFU (0, -1, -1, 0) = some e ∧ xit (fun s => f_X12_together_L24 173 w h s.1 s.2.1 s.2.2.1 s.2.2.2) xFU (0, -1, -1, 0) = some e ∧ tgq e := by
  have hn := rc_n C
  have st : ∀ (a b c : Int) (i : Nat), i ≤ (xm h 199 4).toNat → tgq (a, b, c) → ∃ r, f_X11_together_L10 0 w h a b c (i : Int) = some r ∧ f_X12_together_L24 173 w h a b c (i : Int) = some r ∧ ((i < (xm h 199 4).toNat ∧ ∃ e, tgq e ∧ r = .inl (e.1, e.2.1, e.2.2, ((i + 1 : Nat) : Int))) ∨ (i = (xm h 199 4).toNat ∧ r = .inr (a, b, c))) := by
    intro a b c i hi ht
    by_cases q : i < (xm h 199 4).toNat
    · have q' : (i : Int) < xm h 199 4 := by omega
      obtain ⟨e, e1, e2, e3⟩ := l_tog1 S C N w q' (a, b, c) ht (i + 1) (by omega)
      refine ⟨_, ?_, ?_, Or.inl ⟨q, e, e3, rfl⟩⟩
      · unfold f_X11_together_L10
        simp (disch := omega) only [↓reduceIte, ↓bbind, ↓bxgf, ↓bxpf, ↓bxal, ↓bxas, ↓bxrc, ↓exrc, Int.reduceEq, Int.reduceLT, Int.reduceNeg, Int.reduceToNat, Int.toNat_natCast, Option.bind_some, if_true, if_false, reduceIte, ok_0 S, ok_2 S, ok_4 S, ok_6 S, ok_20 S, ok_26 S, ok_148 S, ok_153 S, ok_158 S, ok_163 S, ia_1 S, ia_3 S, ia_5 S, ia_21 S, ia_22 S, ia_23 S, ia_24 S, ia_25 S, ia_27 S, ia_149 S, ia_150 S, ia_151 S, ia_152 S, ia_154 S, ia_155 S, ia_156 S, ia_157 S, ia_159 S, ia_160 S, ia_161 S, ia_162 S, ia_164 S, ia_165 S, ia_166 S, ia_167 S, ia_168 S, ia_169 S, ia_170 S, ia_171 S, ia_172 S, pt_0_0 S, pt_2_0 S, pt_2_1 S, pt_0_2 S, pt_4_0 S, pt_4_1 S, pt_0_3 S, pt_6_0 S, pt_6_1 S, pt_0_4 S, pt_20_1 S, pt_20_2 S, pt_20_3 S, pt_20_4 S, pt_20_5 S, pt_0_6 S, pt_26_0 S, pt_0_7 S, pt_148_0 S, pt_148_4 S, pt_148_5 S, pt_148_6 S, pt_0_8 S, pt_153_0 S, pt_153_4 S, pt_153_5 S, pt_153_6 S, pt_0_9 S, pt_158_4 S, pt_158_5 S, pt_158_6 S, pt_158_7 S, pt_0_10 S, pt_163_0 S, pt_163_1 S, pt_163_2 S, pt_163_3 S, pt_0_11 S, pt_0_12 S, pt_0_13 S, pt_0_14 S, pt_0_15 S, pt_0_17 S, rc_s C, rc_1 C, rc_2 C, rc_3 C, rc_4 C, rc_salt C, rc_sister C, rc_value C, rc_feud C, CS.ok (C.2.1), CS.okS (C.2.1), cs_ia1 (C.2.1), cs_ia2 (C.2.1), cs_ia3 (C.2.1), cs_ia4 (C.2.1), cs_ia5 (C.2.1), cs_ia6 (C.2.1), cs_p5 (C.2.1), cs_p6 (C.2.1), cs_p7 (C.2.1), cs_p8 (C.2.1), cs_p9 (C.2.1), cs_p10 (C.2.1), cs_p13 (C.2.1), if_pos q', w32_id]
        exact (bnd e1).trans rfl
      · unfold f_X12_together_L24
        simp (disch := omega) only [↓reduceIte, ↓bbind, ↓bxgf, ↓bxpf, ↓bxal, ↓bxas, ↓bxrc, ↓exrc, Int.reduceEq, Int.reduceLT, Int.reduceNeg, Int.reduceToNat, Int.toNat_natCast, Option.bind_some, if_true, if_false, reduceIte, ok_173 S, s_X12_holderMany S, if_pos q', w32_id]
        exact (bnd e2).trans rfl
    · have q' : ¬ (i : Int) < xm h 199 4 := by omega
      refine ⟨.inr (a, b, c), ?_, ?_, Or.inr ⟨by omega, rfl⟩⟩
      · unfold f_X11_together_L10
        simp (disch := omega) only [↓reduceIte, ↓bbind, ↓bxgf, ↓bxpf, ↓bxal, ↓bxas, ↓bxrc, ↓exrc, Int.reduceEq, Int.reduceLT, Int.reduceNeg, Int.reduceToNat, Int.toNat_natCast, Option.bind_some, if_true, if_false, reduceIte, ok_0 S, ok_2 S, ok_4 S, ok_6 S, ok_20 S, ok_26 S, ok_148 S, ok_153 S, ok_158 S, ok_163 S, ia_1 S, ia_3 S, ia_5 S, ia_21 S, ia_22 S, ia_23 S, ia_24 S, ia_25 S, ia_27 S, ia_149 S, ia_150 S, ia_151 S, ia_152 S, ia_154 S, ia_155 S, ia_156 S, ia_157 S, ia_159 S, ia_160 S, ia_161 S, ia_162 S, ia_164 S, ia_165 S, ia_166 S, ia_167 S, ia_168 S, ia_169 S, ia_170 S, ia_171 S, ia_172 S, pt_0_0 S, pt_2_0 S, pt_2_1 S, pt_0_2 S, pt_4_0 S, pt_4_1 S, pt_0_3 S, pt_6_0 S, pt_6_1 S, pt_0_4 S, pt_20_1 S, pt_20_2 S, pt_20_3 S, pt_20_4 S, pt_20_5 S, pt_0_6 S, pt_26_0 S, pt_0_7 S, pt_148_0 S, pt_148_4 S, pt_148_5 S, pt_148_6 S, pt_0_8 S, pt_153_0 S, pt_153_4 S, pt_153_5 S, pt_153_6 S, pt_0_9 S, pt_158_4 S, pt_158_5 S, pt_158_6 S, pt_158_7 S, pt_0_10 S, pt_163_0 S, pt_163_1 S, pt_163_2 S, pt_163_3 S, pt_0_11 S, pt_0_12 S, pt_0_13 S, pt_0_14 S, pt_0_15 S, pt_0_17 S, rc_s C, rc_1 C, rc_2 C, rc_3 C, rc_4 C, rc_salt C, rc_sister C, rc_value C, rc_feud C, CS.ok (C.2.1), CS.okS (C.2.1), cs_ia1 (C.2.1), cs_ia2 (C.2.1), cs_ia3 (C.2.1), cs_ia4 (C.2.1), cs_ia5 (C.2.1), cs_ia6 (C.2.1), cs_p5 (C.2.1), cs_p6 (C.2.1), cs_p7 (C.2.1), cs_p8 (C.2.1), cs_p9 (C.2.1), cs_p10 (C.2.1), cs_p13 (C.2.1), if_neg q']
      · unfold f_X12_together_L24
        simp (disch := omega) only [↓reduceIte, ↓bbind, ↓bxgf, ↓bxpf, ↓bxal, ↓bxas, ↓bxrc, ↓exrc, Int.reduceEq, Int.reduceLT, Int.reduceNeg, Int.reduceToNat, Int.toNat_natCast, Option.bind_some, if_true, if_false, reduceIte, ok_173 S, s_X12_holderMany S, if_neg q']
  obtain ⟨e, he, hq⟩ := xit_inv (f := fun s => f_X11_together_L10 0 w h s.1 s.2.1 s.2.2.1 s.2.2.2) (fun u => ∃ (a b c : Int) (j : Nat), j ≤ (xm h 199 4).toNat ∧ u = (a, b, c, (j : Int)) ∧ tgq (a, b, c)) (fun u => 6 - u.2.2.2.toNat) tgq (0, -1, -1, 0) ⟨_, _, _, 0, by omega, rfl, Or.inl ⟨rfl, rfl, rfl⟩⟩ (by show 6 - (0 : Int).toNat < 1000000; omega) (by
    rintro u ⟨a, b, c, j, h1, rfl, h2⟩
    obtain ⟨r, r1, r2, ⟨r3, e, r4, r5⟩ | ⟨r3, r4⟩⟩ := st a b c j h1 h2
    · subst r5
      refine Or.inl ⟨_, r1, ⟨_, _, _, j + 1, by omega, rfl, r4⟩, ?_⟩
      show 6 - ((j + 1 : Nat) : Int).toNat < 6 - (j : Int).toNat
      omega
    · subst r4
      exact Or.inr ⟨_, r1, h2⟩)
  refine ⟨e, he, ?_, hq⟩
  rw [← he]
  refine (xit_congr (fun u => ∃ (a b c : Int) (j : Nat), j ≤ (xm h 199 4).toNat ∧ u = (a, b, c, (j : Int)) ∧ tgq (a, b, c)) (fun u hu => ?_) xFU _ ⟨_, _, _, 0, by omega, rfl, Or.inl ⟨rfl, rfl, rfl⟩⟩).symm
  obtain ⟨a, b, c, j, h1, rfl, h2⟩ := hu
  obtain ⟨r, r1, r2, r3⟩ := st a b c j h1 h2
  refine ⟨r1.trans r2.symm, fun s' hs => ?_⟩
  have hs' := r1.symm.trans hs
  rcases r3 with ⟨r3, e, r4, r5⟩ | ⟨r3, r4⟩
  · subst r5
    simp only [Option.some.injEq, Sum.inl.injEq] at hs'
    exact ⟨_, _, _, j + 1, by omega, hs'.symm, r4⟩
  · subst r4
    simp at hs'
theorem p_together {h : xa_H} {s : Nat} (S : SH h) (C : Rc h s) (N : Rn h) (w : Int) : ∃ r, f_X11_together 0 w h = some r ∧ f_X12_together 173 w h = some r := by
  obtain ⟨e, e1, e2, e3⟩ := l_tog S C N w
  unfold f_X11_together f_X12_together
  simp only [↓reduceIte, ↓bbind, ↓bxgf, ↓bxpf, ↓bxal, ↓bxas, ↓bxrc, ↓exrc, Int.reduceEq, Int.reduceLT, Int.reduceNeg, Int.reduceToNat, Int.toNat_natCast, Option.bind_some, if_true, if_false, reduceIte, e1, e2, s_X12_isIn]
  by_cases w0 : w = 0
  · subst w0
    rcases e3 with ⟨o1, o2, o3⟩ | ⟨o1, o2⟩
    · simp [o2]
    · have : ¬ e.2.1 = -1 := by omega
      simp [this]
  · by_cases w1 : w = 1
    · subst w1
      rcases e3 with ⟨o1, o2, o3⟩ | ⟨o1, o2⟩
      · simp [o2, o3]
      · have : ¬ e.2.1 = -1 := by omega
        simp [this]
    · by_cases w2 : w = 2
      · subst w2
        rcases e3 with ⟨o1, o2, o3⟩ | ⟨o1, o2⟩
        · simp [o1, o2]
        · have : ¬ e.2.1 = -1 := by omega
          simp [this, o1]
      · have : w < 0 ∨ 2 < w := by omega
        simp [w0, w1, w2, this]
def pw (q : Int) : Nat → Int
  | 0 => 1
  | n + 1 => pw q n * q
theorem pw_b {q : Int} (h0 : 0 ≤ q) (h1 : q ≤ 100) : ∀ n, n ≤ 5 → 0 ≤ pw q n ∧ pw q n ≤ pw 100 n ∧ pw 100 n ≤ 10000000000
  | 0, _ => ⟨by show (0 : Int) ≤ 1; decide, Int.le_refl _, by decide⟩
  | n + 1, h => by
    obtain ⟨a, b, -⟩ := pw_b h0 h1 n (by omega)
    refine ⟨Int.mul_nonneg a h0, ?_, ?_⟩
    · exact Int.mul_le_mul b h1 h0 (Int.le_trans a b)
    · have : n = 0 ∨ n = 1 ∨ n = 2 ∨ n = 3 ∨ n = 4 := by omega
      rcases this with rfl | rfl | rfl | rfl | rfl <;> decide
theorem p_clear {h : xa_H} {s : Nat} (S : SH h) (C : Rc h s) (v : Int) : ∃ r, f_X11_clear 0 v h = some r ∧ f_X12_clear 173 v h = some r := by
  have hf := rc_fog C
  by_cases q : 0 ≤ v ∧ v ≤ 5
  · obtain ⟨n, rfl⟩ : ∃ n : Nat, v = (n : Int) := ⟨v.toNat, by omega⟩
    have hn : n ≤ 5 := by omega
    obtain ⟨g, eg⟩ : ∃ g, g = 100 - xm h 208 1 := ⟨_, rfl⟩
    have g0 : 0 ≤ g := by omega
    have g1 : g ≤ 100 := by omega
    have l1 := xit_seq (f := fun s => f_X11_clear_L21 0 (n : Int) h s.1 s.2.1 s.2.2) (fun k => (1000000 * pw g k, pw 100 k, (k : Int))) n (1000000 * pw g n, pw 100 n) (fun k hk => by
      obtain ⟨b1, b2, b3⟩ := pw_b g0 g1 (k + 1) (by omega)
      unfold f_X11_clear_L21
      have z : (k : Int) < (n : Int) := by omega
      simp (disch := omega) only [↓reduceIte, ↓bbind, ↓bxgf, ↓bxpf, ↓bxal, ↓bxas, ↓bxrc, ↓exrc, Int.reduceEq, Int.reduceLT, Int.reduceNeg, Int.reduceToNat, Int.toNat_natCast, Option.bind_some, if_true, if_false, reduceIte, ok_0 S, ok_2 S, ok_4 S, ok_6 S, ok_20 S, ok_26 S, ok_148 S, ok_153 S, ok_158 S, ok_163 S, ia_1 S, ia_3 S, ia_5 S, ia_21 S, ia_22 S, ia_23 S, ia_24 S, ia_25 S, ia_27 S, ia_149 S, ia_150 S, ia_151 S, ia_152 S, ia_154 S, ia_155 S, ia_156 S, ia_157 S, ia_159 S, ia_160 S, ia_161 S, ia_162 S, ia_164 S, ia_165 S, ia_166 S, ia_167 S, ia_168 S, ia_169 S, ia_170 S, ia_171 S, ia_172 S, pt_0_0 S, pt_2_0 S, pt_2_1 S, pt_0_2 S, pt_4_0 S, pt_4_1 S, pt_0_3 S, pt_6_0 S, pt_6_1 S, pt_0_4 S, pt_20_1 S, pt_20_2 S, pt_20_3 S, pt_20_4 S, pt_20_5 S, pt_0_6 S, pt_26_0 S, pt_0_7 S, pt_148_0 S, pt_148_4 S, pt_148_5 S, pt_148_6 S, pt_0_8 S, pt_153_0 S, pt_153_4 S, pt_153_5 S, pt_153_6 S, pt_0_9 S, pt_158_4 S, pt_158_5 S, pt_158_6 S, pt_158_7 S, pt_0_10 S, pt_163_0 S, pt_163_1 S, pt_163_2 S, pt_163_3 S, pt_0_11 S, pt_0_12 S, pt_0_13 S, pt_0_14 S, pt_0_15 S, pt_0_17 S, rc_s C, rc_1 C, rc_2 C, rc_3 C, rc_4 C, rc_salt C, rc_sister C, rc_value C, rc_feud C, CS.ok (C.2.1), CS.okS (C.2.1), cs_ia1 (C.2.1), cs_ia2 (C.2.1), cs_ia3 (C.2.1), cs_ia4 (C.2.1), cs_ia5 (C.2.1), cs_ia6 (C.2.1), cs_p5 (C.2.1), cs_p6 (C.2.1), cs_p7 (C.2.1), cs_p8 (C.2.1), cs_p9 (C.2.1), cs_p10 (C.2.1), cs_p13 (C.2.1), if_pos z, w32_id, ← eg]
      rw [Int.mul_assoc]
      show some (Sum.inl (w64 (1000000 * pw g (k + 1)), w64 (pw 100 (k + 1)), (k : Int) + 1)) = _
      rw [w64_id (by omega) (by omega), w64_id (by omega) (by omega)]
      rfl) (by
      unfold f_X11_clear_L21
      dsimp only
      rw [if_neg (by omega)]) (by omega)
    have l2 := xit_seq (f := fun s => f_X12_clear_L19 173 (n : Int) h s.1 s.2) (fun k => (pw g k, (k : Int))) n (pw g n) (fun k hk => by
      obtain ⟨b1, b2, b3⟩ := pw_b g0 g1 (k + 1) (by omega)
      unfold f_X12_clear_L19
      have z : (k : Int) < (n : Int) := by omega
      simp (disch := omega) only [↓reduceIte, ↓bbind, ↓bxgf, ↓bxpf, ↓bxal, ↓bxas, ↓bxrc, ↓exrc, Int.reduceEq, Int.reduceLT, Int.reduceNeg, Int.reduceToNat, Int.toNat_natCast, Option.bind_some, if_true, if_false, reduceIte, ok_173 S, pt_173_43 S, ia_208 S, if_pos z, w32_id, ← eg]
      show some (Sum.inl (w64 (pw g (k + 1)), (k : Int) + 1)) = _
      rw [w64_id (by omega) (by omega)]
      rfl) (by
      unfold f_X12_clear_L19
      dsimp only
      rw [if_neg (by omega)]) (by omega)
    obtain ⟨c1, c2, c3⟩ := pw_b g0 g1 n hn
    unfold f_X11_clear f_X12_clear
    have q1 : ¬ (n : Int) < 0 := by omega
    have q2 : ¬ (5 : Int) < (n : Int) := by omega
    have q3 : ¬ ((n : Int) < 0 ∨ (5 : Int) < (n : Int)) := by omega
    have l1' : xit (fun s => f_X11_clear_L21 0 (n : Int) h s.1 s.2.1 s.2.2) xFU (1000000, 1, 0) = some (1000000 * pw g n, pw 100 n) := l1
    have l2' : xit (fun s => f_X12_clear_L19 173 (n : Int) h s.1 s.2) xFU (1, 0) = some (pw g n) := l2
    simp only [↓reduceIte, ↓bbind, ↓bxgf, ↓bxpf, ↓bxal, ↓bxas, ↓bxrc, ↓exrc, Int.reduceEq, Int.reduceLT, Int.reduceNeg, Int.reduceToNat, Int.toNat_natCast, Option.bind_some, if_true, if_false, reduceIte, s_X12_isIn, if_neg q1, if_neg q2, if_neg q3, l1', l2', exnz]
    have hp : ∀ k, k ≤ 5 → pw 100 k = 1 ∨ pw 100 k = 100 ∨ pw 100 k = 10000 ∨ pw 100 k = 1000000 ∨ pw 100 k = 100000000 ∨ pw 100 k = 10000000000 := by decide
    have hp0 : ¬ pw 100 n = 0 := by
      have := hp n hn
      omega
    rw [if_neg hp0]
    by_cases n3 : n ≤ 3
    · have m1 := xit_seq (f := fun s => f_X12_clear_L47 (n : Int) h s.1 s.2) (fun k => (pw g n * pw 100 k, ((n + k : Nat) : Int))) (3 - n) (pw g n * pw 100 (3 - n)) (fun k hk => by
        unfold f_X12_clear_L47
        dsimp only
        rw [if_pos (by omega), w32_id (by omega) (by omega)]
        have h3 : n + (k + 1) ≤ 3 := by omega
        have hb : pw g n * pw 100 (k + 1) ≤ 1000000 * 1000000 := by
          have y1 : pw g n ≤ 1000000 := by
            have : n = 0 ∨ n = 1 ∨ n = 2 ∨ n = 3 := by omega
            rcases this with rfl | rfl | rfl | rfl <;> exact Int.le_trans c2 (by decide)
          have y2 : pw 100 (k + 1) ≤ 1000000 := by
            have : k = 0 ∨ k = 1 ∨ k = 2 := by omega
            rcases this with rfl | rfl | rfl <;> decide
          exact Int.mul_le_mul y1 y2 (pw_b (by decide) (by decide) _ (by omega)).1 (by decide)
        have hb0 : 0 ≤ pw g n * pw 100 (k + 1) := Int.mul_nonneg c1 (pw_b (by decide) (by decide) _ (by omega)).1
        rw [Int.mul_assoc]
        show some (Sum.inl (w64 (pw g n * pw 100 (k + 1)), ((n + k : Nat) : Int) + 1)) = _
        rw [w64_id (by omega) (by omega)]
        rfl) (by
        unfold f_X12_clear_L47
        dsimp only
        rw [if_neg (by omega)]) (by omega)
      have m1' : xit (fun s => f_X12_clear_L47 (n : Int) h s.1 s.2) xFU (pw g n, (n : Int)) = some (pw g n * pw 100 (3 - n)) := by
        rw [show (pw g n, (n : Int)) = (pw g n * pw 100 0, ((n + 0 : Nat) : Int)) by rw [show pw 100 0 = 1 from rfl, Int.mul_one]; rfl]
        exact m1
      have m2 : xit (fun s => f_X12_clear_L68 (n : Int) h s.1 s.2) xFU (pw g n * pw 100 (3 - n), 3) = some (pw g n * pw 100 (3 - n)) := by
        refine xit_end ?_ (by decide)
        unfold f_X12_clear_L68
        dsimp only
        rw [if_neg (by omega)]
      rw [m1']
      simp only [Option.bind_some]
      rw [m2]
      refine ex2 (congrArg some ?_) ⟨_, rfl⟩
      have : n = 0 ∨ n = 1 ∨ n = 2 ∨ n = 3 := by omega
      have d : Int.tdiv (1000000 * pw g n) (pw 100 n) = pw g n * pw 100 (3 - n) := by
        rw [Int.tdiv_eq_ediv_of_nonneg (by omega)]
        rcases this with rfl | rfl | rfl | rfl
        · rw [show pw 100 0 = 1 from rfl, show pw 100 (3 - 0) = 1000000 from rfl]; omega
        · rw [show pw 100 1 = 100 from rfl, show pw 100 (3 - 1) = 10000 from rfl]; omega
        · rw [show pw 100 2 = 10000 from rfl, show pw 100 (3 - 2) = 100 from rfl]; omega
        · rw [show pw 100 3 = 1000000 from rfl, show pw 100 (3 - 3) = 1 from rfl]; omega
      rw [d, w64_id]
      · have := Int.mul_nonneg c1 (pw_b (q := 100) (by decide) (by decide) (3 - n) (by omega)).1
        omega
      · have y1 : pw g n ≤ 1000000 := by
          rcases this with rfl | rfl | rfl | rfl <;> exact Int.le_trans c2 (by decide)
        have y2 : pw 100 (3 - n) ≤ 1000000 := by
          rcases this with rfl | rfl | rfl | rfl <;> decide
        have := Int.mul_le_mul y1 y2 (pw_b (by decide) (by decide) _ (by omega)).1 (by decide)
        omega
    · have m1 : xit (fun s => f_X12_clear_L47 (n : Int) h s.1 s.2) xFU (pw g n, (n : Int)) = some (pw g n) := by
        refine xit_end ?_ (by decide)
        unfold f_X12_clear_L47
        dsimp only
        rw [if_neg (by omega)]
      rw [m1]
      simp only [Option.bind_some]
      have hn2 : n = 4 ∨ n = 5 := by omega
      rcases hn2 with rfl | rfl
      · have m2 : xit (fun s => f_X12_clear_L68 ((4 : Nat) : Int) h s.1 s.2) xFU (pw g 4, 3) = some (pw g 4 / 100) := by
          rw [show xFU = 999999 + 1 from rfl]
          rw [xit_go (s' := (pw g 4 / 100, 4)) (by
            unfold f_X12_clear_L68
            dsimp only
            rw [if_pos (by omega), Int.tdiv_eq_ediv_of_nonneg c1, w64_id (by omega) (by omega)]
            rfl)]
          refine xit_end ?_ (by decide)
          unfold f_X12_clear_L68
          dsimp only
          rw [if_neg (by omega)]
        rw [m2]
        refine ex2 (congrArg some ?_) ⟨_, rfl⟩
        rw [Int.tdiv_eq_ediv_of_nonneg (by omega), show pw 100 4 = 100000000 from rfl, w64_id (by omega) (by omega)]
        congr 1
        omega
      · have m2 : xit (fun s => f_X12_clear_L68 ((5 : Nat) : Int) h s.1 s.2) xFU (pw g 5, 3) = some (pw g 5 / 100 / 100) := by
          rw [show xFU = 999998 + 1 + 1 from rfl]
          rw [xit_go (s' := (pw g 5 / 100, 4)) (by
            unfold f_X12_clear_L68
            dsimp only
            rw [if_pos (by omega), Int.tdiv_eq_ediv_of_nonneg c1, w64_id (by omega) (by omega)]
            rfl)]
          rw [xit_go (s' := (pw g 5 / 100 / 100, 5)) (by
            unfold f_X12_clear_L68
            dsimp only
            rw [if_pos (by omega), Int.tdiv_eq_ediv_of_nonneg (by omega), w64_id (by omega) (by omega)]
            rfl)]
          refine xit_end ?_ (by decide)
          unfold f_X12_clear_L68
          dsimp only
          rw [if_neg (by omega)]
        rw [m2]
        refine ex2 (congrArg some ?_) ⟨_, rfl⟩
        rw [Int.tdiv_eq_ediv_of_nonneg (by omega), show pw 100 5 = 10000000000 from rfl, w64_id (by omega) (by omega)]
        congr 1
        omega
  · have q3 : v < 0 ∨ 5 < v := by omega
    unfold f_X11_clear f_X12_clear
    simp only [↓reduceIte, ↓bbind, ↓bxgf, ↓bxpf, ↓bxal, ↓bxas, ↓bxrc, ↓exrc, Int.reduceEq, Int.reduceLT, Int.reduceNeg, Int.reduceToNat, Int.toNat_natCast, Option.bind_some, if_true, if_false, reduceIte, s_X12_isIn, if_pos q3]
    by_cases z : v < 0
    · simp [z]
    · rw [if_neg z, if_pos (by omega)]
      exact ⟨_, rfl, rfl⟩
theorem p_judged {h : xa_H} (S : SH h) (J : Rj h) (w : Int) : ∃ r, f_X11_judged 0 w h = some r ∧ f_X12_judged 173 w h = some r := by
  unfold f_X11_judged f_X12_judged
  rcases J with ⟨j1, j2⟩ | ⟨j1, j2, j3, j4, j5⟩
  · simp (disch := omega) only [↓reduceIte, ↓bbind, ↓bxgf, ↓bxpf, ↓bxal, ↓bxas, ↓bxrc, ↓exrc, Int.reduceEq, Int.reduceLT, Int.reduceNeg, Int.reduceToNat, Int.toNat_natCast, Option.bind_some, if_true, if_false, reduceIte, ok_0 S, ok_2 S, ok_4 S, ok_6 S, ok_20 S, ok_26 S, ok_148 S, ok_153 S, ok_158 S, ok_163 S, ia_1 S, ia_3 S, ia_5 S, ia_21 S, ia_22 S, ia_23 S, ia_24 S, ia_25 S, ia_27 S, ia_149 S, ia_150 S, ia_151 S, ia_152 S, ia_154 S, ia_155 S, ia_156 S, ia_157 S, ia_159 S, ia_160 S, ia_161 S, ia_162 S, ia_164 S, ia_165 S, ia_166 S, ia_167 S, ia_168 S, ia_169 S, ia_170 S, ia_171 S, ia_172 S, pt_0_0 S, pt_2_0 S, pt_2_1 S, pt_0_2 S, pt_4_0 S, pt_4_1 S, pt_0_3 S, pt_6_0 S, pt_6_1 S, pt_0_4 S, pt_20_1 S, pt_20_2 S, pt_20_3 S, pt_20_4 S, pt_20_5 S, pt_0_6 S, pt_26_0 S, pt_0_7 S, pt_148_0 S, pt_148_4 S, pt_148_5 S, pt_148_6 S, pt_0_8 S, pt_153_0 S, pt_153_4 S, pt_153_5 S, pt_153_6 S, pt_0_9 S, pt_158_4 S, pt_158_5 S, pt_158_6 S, pt_158_7 S, pt_0_10 S, pt_163_0 S, pt_163_1 S, pt_163_2 S, pt_163_3 S, pt_0_11 S, pt_0_12 S, pt_0_13 S, pt_0_14 S, pt_0_15 S, pt_0_17 S, ok_173 S, j1, j2]
    exact ⟨_, rfl, rfl⟩
  · have e0 : ¬ xm h 148 1 = 0 := by omega
    obtain ⟨n, en⟩ : ∃ n : Nat, xm h 148 1 = (n : Int) := ⟨(xm h 148 1).toNat, by omega⟩
    have hl := xit_seq (f := fun s => f_X7_paysOfAll_L4 148 h s.1 s.2) (fun k => (xsum (fun k => xm h 150 k) k, (k : Int))) n (xsum (fun k => xm h 150 k) n) (fun k hk => by
      unfold f_X7_paysOfAll_L4
      have z : (k : Int) < (n : Int) := by omega
      simp (disch := omega) only [↓reduceIte, ↓bbind, ↓bxgf, ↓bxpf, ↓bxal, ↓bxas, ↓bxrc, ↓exrc, Int.reduceEq, Int.reduceLT, Int.reduceNeg, Int.reduceToNat, Int.toNat_natCast, Option.bind_some, if_true, if_false, reduceIte, ok_0 S, ok_2 S, ok_4 S, ok_6 S, ok_20 S, ok_26 S, ok_148 S, ok_153 S, ok_158 S, ok_163 S, ia_1 S, ia_3 S, ia_5 S, ia_21 S, ia_22 S, ia_23 S, ia_24 S, ia_25 S, ia_27 S, ia_149 S, ia_150 S, ia_151 S, ia_152 S, ia_154 S, ia_155 S, ia_156 S, ia_157 S, ia_159 S, ia_160 S, ia_161 S, ia_162 S, ia_164 S, ia_165 S, ia_166 S, ia_167 S, ia_168 S, ia_169 S, ia_170 S, ia_171 S, ia_172 S, pt_0_0 S, pt_2_0 S, pt_2_1 S, pt_0_2 S, pt_4_0 S, pt_4_1 S, pt_0_3 S, pt_6_0 S, pt_6_1 S, pt_0_4 S, pt_20_1 S, pt_20_2 S, pt_20_3 S, pt_20_4 S, pt_20_5 S, pt_0_6 S, pt_26_0 S, pt_0_7 S, pt_148_0 S, pt_148_4 S, pt_148_5 S, pt_148_6 S, pt_0_8 S, pt_153_0 S, pt_153_4 S, pt_153_5 S, pt_153_6 S, pt_0_9 S, pt_158_4 S, pt_158_5 S, pt_158_6 S, pt_158_7 S, pt_0_10 S, pt_163_0 S, pt_163_1 S, pt_163_2 S, pt_163_3 S, pt_0_11 S, pt_0_12 S, pt_0_13 S, pt_0_14 S, pt_0_15 S, pt_0_17 S, en, if_pos z, w32_id]
      rfl) (by
      unfold f_X7_paysOfAll_L4
      have z : ¬ (n : Int) < (n : Int) := by omega
      simp (disch := omega) only [↓reduceIte, ↓bbind, ↓bxgf, ↓bxpf, ↓bxal, ↓bxas, ↓bxrc, ↓exrc, Int.reduceEq, Int.reduceLT, Int.reduceNeg, Int.reduceToNat, Int.toNat_natCast, Option.bind_some, if_true, if_false, reduceIte, ok_0 S, ok_2 S, ok_4 S, ok_6 S, ok_20 S, ok_26 S, ok_148 S, ok_153 S, ok_158 S, ok_163 S, ia_1 S, ia_3 S, ia_5 S, ia_21 S, ia_22 S, ia_23 S, ia_24 S, ia_25 S, ia_27 S, ia_149 S, ia_150 S, ia_151 S, ia_152 S, ia_154 S, ia_155 S, ia_156 S, ia_157 S, ia_159 S, ia_160 S, ia_161 S, ia_162 S, ia_164 S, ia_165 S, ia_166 S, ia_167 S, ia_168 S, ia_169 S, ia_170 S, ia_171 S, ia_172 S, pt_0_0 S, pt_2_0 S, pt_2_1 S, pt_0_2 S, pt_4_0 S, pt_4_1 S, pt_0_3 S, pt_6_0 S, pt_6_1 S, pt_0_4 S, pt_20_1 S, pt_20_2 S, pt_20_3 S, pt_20_4 S, pt_20_5 S, pt_0_6 S, pt_26_0 S, pt_0_7 S, pt_148_0 S, pt_148_4 S, pt_148_5 S, pt_148_6 S, pt_0_8 S, pt_153_0 S, pt_153_4 S, pt_153_5 S, pt_153_6 S, pt_0_9 S, pt_158_4 S, pt_158_5 S, pt_158_6 S, pt_158_7 S, pt_0_10 S, pt_163_0 S, pt_163_1 S, pt_163_2 S, pt_163_3 S, pt_0_11 S, pt_0_12 S, pt_0_13 S, pt_0_14 S, pt_0_15 S, pt_0_17 S, en, if_neg z]) (by omega)
    have hl' : f_X7_paysOfAll 148 h = some (xm h 173 62) := by
      unfold f_X7_paysOfAll
      have : xit (fun s => f_X7_paysOfAll_L4 148 h s.1 s.2) xFU (0, 0) = some (xsum (fun k => xm h 150 k) n) := hl
      rw [this, ← j5, en]
      rfl
    simp (disch := omega) only [↓reduceIte, ↓bbind, ↓bxgf, ↓bxpf, ↓bxal, ↓bxas, ↓bxrc, ↓exrc, Int.reduceEq, Int.reduceLT, Int.reduceNeg, Int.reduceToNat, Int.toNat_natCast, Option.bind_some, if_true, if_false, reduceIte, ok_0 S, ok_2 S, ok_4 S, ok_6 S, ok_20 S, ok_26 S, ok_148 S, ok_153 S, ok_158 S, ok_163 S, ia_1 S, ia_3 S, ia_5 S, ia_21 S, ia_22 S, ia_23 S, ia_24 S, ia_25 S, ia_27 S, ia_149 S, ia_150 S, ia_151 S, ia_152 S, ia_154 S, ia_155 S, ia_156 S, ia_157 S, ia_159 S, ia_160 S, ia_161 S, ia_162 S, ia_164 S, ia_165 S, ia_166 S, ia_167 S, ia_168 S, ia_169 S, ia_170 S, ia_171 S, ia_172 S, pt_0_0 S, pt_2_0 S, pt_2_1 S, pt_0_2 S, pt_4_0 S, pt_4_1 S, pt_0_3 S, pt_6_0 S, pt_6_1 S, pt_0_4 S, pt_20_1 S, pt_20_2 S, pt_20_3 S, pt_20_4 S, pt_20_5 S, pt_0_6 S, pt_26_0 S, pt_0_7 S, pt_148_0 S, pt_148_4 S, pt_148_5 S, pt_148_6 S, pt_0_8 S, pt_153_0 S, pt_153_4 S, pt_153_5 S, pt_153_6 S, pt_0_9 S, pt_158_4 S, pt_158_5 S, pt_158_6 S, pt_158_7 S, pt_0_10 S, pt_163_0 S, pt_163_1 S, pt_163_2 S, pt_163_3 S, pt_0_11 S, pt_0_12 S, pt_0_13 S, pt_0_14 S, pt_0_15 S, pt_0_17 S, ok_173 S, j1, if_neg e0, j4, hl']
    refine ex2 rfl ?_
    repeat' split
    all_goals exact ⟨_, rfl⟩
