/-! ===== on ===== -/
def mtb (h : xa_H) (i j : Nat) : Bool := decide (0 < xm h 212 (1 + 9 * i + 3 + j) ∨ 0 < xm h 212 (1 + 9 * j + 3 + i))
abbrev mt (h : xa_H) (i j : Nat) : Prop := mtb h i j = true
theorem mt_iff (h : xa_H) (i j : Nat) : mt h i j ↔ (0 < xm h 212 (1 + 9 * i + 3 + j) ∨ 0 < xm h 212 (1 + 9 * j + 3 + i)) := by
  unfold mt mtb
  rw [decide_eq_true_eq]
/-- what is reached by one step more -/
def stp1 (h : xa_H) (b b' : Nat) : Prop := b' < 64 ∧ ∀ j, j < 6 → (b'.testBit j = true ↔ b.testBit j = true ∨ (j < (xm h 199 4).toNat ∧ ∃ i, i < (xm h 199 4).toNat ∧ b.testBit i = true ∧ mt h i j))
theorem s_haveMet {h : xa_H} {s : Nat} (S : SH h) (C : Rc h s) (N : Rn h) {i j : Nat} (hi : (i : Int) < xm h 199 4) (hj : (j : Int) < xm h 199 4) : ∃ r, f_X11_haveMet 0 (i : Int) (j : Int) h = some r ∧ ((r = 1 ∧ mt h i j) ∨ (r = 0 ∧ ¬ mt h i j)) := by
  have hn := rc_n C
  rw [mt_iff]
  unfold f_X11_haveMet
  simp (disch := omega) only [↓reduceIte, ↓bbind, ↓bxgf, ↓bxpf, ↓bxal, ↓bxas, ↓bxrc, ↓exrc, Int.reduceEq, Int.reduceLT, Int.reduceNeg, Int.reduceToNat, Int.toNat_natCast, Option.bind_some, if_true, if_false, reduceIte, ok_0 S, ok_2 S, ok_4 S, ok_6 S, ok_20 S, ok_26 S, ok_148 S, ok_153 S, ok_158 S, ok_163 S, ia_1 S, ia_3 S, ia_5 S, ia_21 S, ia_22 S, ia_23 S, ia_24 S, ia_25 S, ia_27 S, ia_149 S, ia_150 S, ia_151 S, ia_152 S, ia_154 S, ia_155 S, ia_156 S, ia_157 S, ia_159 S, ia_160 S, ia_161 S, ia_162 S, ia_164 S, ia_165 S, ia_166 S, ia_167 S, ia_168 S, ia_169 S, ia_170 S, ia_171 S, ia_172 S, pt_0_0 S, pt_2_0 S, pt_2_1 S, pt_0_2 S, pt_4_0 S, pt_4_1 S, pt_0_3 S, pt_6_0 S, pt_6_1 S, pt_0_4 S, pt_20_1 S, pt_20_2 S, pt_20_3 S, pt_20_4 S, pt_20_5 S, pt_0_6 S, pt_26_0 S, pt_0_7 S, pt_148_0 S, pt_148_4 S, pt_148_5 S, pt_148_6 S, pt_0_8 S, pt_153_0 S, pt_153_4 S, pt_153_5 S, pt_153_6 S, pt_0_9 S, pt_158_4 S, pt_158_5 S, pt_158_6 S, pt_158_7 S, pt_0_10 S, pt_163_0 S, pt_163_1 S, pt_163_2 S, pt_163_3 S, pt_0_11 S, pt_0_12 S, pt_0_13 S, pt_0_14 S, pt_0_15 S, pt_0_17 S, rn_night N, rn_has N, rn_wants N, rn_purse N, rn_met N, rn_kc N, rn_kept N, w32_id, Int.toNat_add, Int.toNat_mul]
  by_cases q1 : 0 < xm h 212 (1 + 9 * i + 3 + j)
  · simp [q1]
  · by_cases q2 : 0 < xm h 212 (1 + 9 * j + 3 + i)
    · simp [q1, q2]
    · simp [q1, q2]
theorem bt_or {b j : Nat} (y : Nat) : (b ||| 2 ^ j).testBit y = true ↔ b.testBit y = true ∨ y = j := by
  rw [Nat.testBit_or, Bool.or_eq_true, Nat.testBit_two_pow]
  simp
  constructor
  · rintro (a | a)
    · exact Or.inl a
    · exact Or.inr a.symm
  · rintro (a | a)
    · exact Or.inl a
    · exact Or.inr a.symm
theorem s_within {h : xa_H} {s : Nat} (S : SH h) (C : Rc h s) (N : Rn h) (b : Nat) (hb : b < 64) (c3 c5 : Int) : ∃ b', stp1 h b b' ∧ f_X11_withNeighbours 0 (b : Int) h = some (b' : Int) ∧ xit (fun s => f_X12_on_L79 173 c3 (b : Int) c5 h s.1 s.2) xFU ((b : Int), 0) = some (b' : Int) := by
  have hn := rc_n C
  obtain ⟨n, en⟩ : ∃ n, n = (xm h 199 4).toNat := ⟨_, rfl⟩
  -- the inner loops
  have inner : ∀ i : Nat, i < n → ∀ d : Nat, d < 64 → ∃ d' : Nat, d' < 64 ∧ (∀ j, j < 6 → (d'.testBit j = true ↔ d.testBit j = true ∨ (j < n ∧ b.testBit i = true ∧ mt h i j))) ∧ xit (fun s => f_X11_withNeighbours_L18 0 (b : Int) (i : Int) h s.1 s.2) xFU ((d : Int), 0) = some (d' : Int) ∧ xit (fun s => f_X12_on_L91 173 c3 (b : Int) c5 (i : Int) h s.1 s.2) xFU ((d : Int), 0) = some (d' : Int) := by
    intro i hi d hd
    have qi : (i : Int) < xm h 199 4 := by omega
    have st : ∀ (e j : Nat), e < 64 → j ≤ n → ∃ r, f_X11_withNeighbours_L18 0 (b : Int) (i : Int) h (e : Int) (j : Int) = some r ∧ f_X12_on_L91 173 c3 (b : Int) c5 (i : Int) h (e : Int) (j : Int) = some r ∧ ((j = n ∧ r = .inr (e : Int)) ∨ (j < n ∧ ∃ e' : Nat, e' < 64 ∧ r = .inl ((e' : Int), ((j + 1 : Nat) : Int)) ∧ ∀ y, y < 6 → (e'.testBit y = true ↔ e.testBit y = true ∨ (y = j ∧ b.testBit i = true ∧ mt h i j)))) := by
      intro e j he hj
      by_cases q : j < n
      · have q' : (j : Int) < xm h 199 4 := by omega
        obtain ⟨r, r1, r2⟩ := s_haveMet S C N qi q'
        have m1 := rv_met N qi q'
        have m2 := rv_met N q' qi
        have A : f_X11_withNeighbours_L18 0 (b : Int) (i : Int) h (e : Int) (j : Int) = if b.testBit i = true ∧ mt h i j then some (.inl (((e ||| 2 ^ j : Nat) : Int), ((j + 1 : Nat) : Int))) else some (.inl ((e : Int), ((j + 1 : Nat) : Int))) := by
          unfold f_X11_withNeighbours_L18
          simp (disch := omega) only [↓reduceIte, ↓bbind, ↓bxgf, ↓bxpf, ↓bxal, ↓bxas, ↓bxrc, ↓exrc, Int.reduceEq, Int.reduceLT, Int.reduceNeg, Int.reduceToNat, Int.toNat_natCast, Option.bind_some, if_true, if_false, reduceIte, ok_0 S, ok_2 S, ok_4 S, ok_6 S, ok_20 S, ok_26 S, ok_148 S, ok_153 S, ok_158 S, ok_163 S, ia_1 S, ia_3 S, ia_5 S, ia_21 S, ia_22 S, ia_23 S, ia_24 S, ia_25 S, ia_27 S, ia_149 S, ia_150 S, ia_151 S, ia_152 S, ia_154 S, ia_155 S, ia_156 S, ia_157 S, ia_159 S, ia_160 S, ia_161 S, ia_162 S, ia_164 S, ia_165 S, ia_166 S, ia_167 S, ia_168 S, ia_169 S, ia_170 S, ia_171 S, ia_172 S, pt_0_0 S, pt_2_0 S, pt_2_1 S, pt_0_2 S, pt_4_0 S, pt_4_1 S, pt_0_3 S, pt_6_0 S, pt_6_1 S, pt_0_4 S, pt_20_1 S, pt_20_2 S, pt_20_3 S, pt_20_4 S, pt_20_5 S, pt_0_6 S, pt_26_0 S, pt_0_7 S, pt_148_0 S, pt_148_4 S, pt_148_5 S, pt_148_6 S, pt_0_8 S, pt_153_0 S, pt_153_4 S, pt_153_5 S, pt_153_6 S, pt_0_9 S, pt_158_4 S, pt_158_5 S, pt_158_6 S, pt_158_7 S, pt_0_10 S, pt_163_0 S, pt_163_1 S, pt_163_2 S, pt_163_3 S, pt_0_11 S, pt_0_12 S, pt_0_13 S, pt_0_14 S, pt_0_15 S, pt_0_17 S, rc_s C, rc_1 C, rc_2 C, rc_3 C, rc_4 C, rc_salt C, rc_sister C, rc_value C, rc_feud C, CS.ok (C.2.1), CS.okS (C.2.1), cs_ia1 (C.2.1), cs_ia2 (C.2.1), cs_ia3 (C.2.1), cs_ia4 (C.2.1), cs_ia5 (C.2.1), cs_ia6 (C.2.1), cs_p5 (C.2.1), cs_p6 (C.2.1), cs_p7 (C.2.1), cs_p8 (C.2.1), cs_p9 (C.2.1), cs_p10 (C.2.1), cs_p13 (C.2.1), if_pos q', r1, w32_id, (b_set e he j (by omega)).1, b_bit b hb i (by omega)]
          cases z : b.testBit i
          · simp
          · rcases r2 with ⟨rfl, r3⟩ | ⟨rfl, r3⟩ <;> simp [r3]
        have B : f_X12_on_L91 173 c3 (b : Int) c5 (i : Int) h (e : Int) (j : Int) = if b.testBit i = true ∧ mt h i j then some (.inl (((e ||| 2 ^ j : Nat) : Int), ((j + 1 : Nat) : Int))) else some (.inl ((e : Int), ((j + 1 : Nat) : Int))) := by
          unfold f_X12_on_L91
          simp (disch := omega) only [↓reduceIte, ↓bbind, ↓bxgf, ↓bxpf, ↓bxal, ↓bxas, ↓bxrc, ↓exrc, Int.reduceEq, Int.reduceLT, Int.reduceNeg, Int.reduceToNat, Int.toNat_natCast, Option.bind_some, if_true, if_false, reduceIte, ok_173 S, s_X12_holderMany S, if_pos q', s_X12_metBy S, w32_id, (b_set e he j (by omega)).1, b_bit b hb i (by omega)]
          cases z : b.testBit i
          · simp
          · by_cases z2 : mt h i j
            · have : 0 < xm h 212 (1 + 9 * i + 3 + j) + xm h 212 (1 + 9 * j + 3 + i) := by rw [mt_iff] at z2; omega
              simp [z2, this]
            · have : ¬ 0 < xm h 212 (1 + 9 * i + 3 + j) + xm h 212 (1 + 9 * j + 3 + i) := by rw [mt_iff] at z2; omega
              simp [z2, this]
        rw [A, B]
        by_cases z : b.testBit i = true ∧ mt h i j
        · refine ⟨_, if_pos z, if_pos z, Or.inr ⟨q, _, (b_set e he j (by omega)).2, rfl, fun y hy => ?_⟩⟩
          rw [bt_or]
          constructor
          · rintro (a | a)
            · exact Or.inl a
            · exact Or.inr ⟨a, z⟩
          · rintro (a | a)
            · exact Or.inl a
            · exact Or.inr a.1
        · refine ⟨_, if_neg z, if_neg z, Or.inr ⟨q, _, he, rfl, fun y hy => ?_⟩⟩
          constructor
          · exact Or.inl
          · rintro (a | a)
            · exact a
            · exact absurd a.2 z
      · have q' : ¬ (j : Int) < xm h 199 4 := by omega
        refine ⟨.inr (e : Int), ?_, ?_, Or.inl ⟨by omega, rfl⟩⟩
        · unfold f_X11_withNeighbours_L18
          simp (disch := omega) only [↓reduceIte, ↓bbind, ↓bxgf, ↓bxpf, ↓bxal, ↓bxas, ↓bxrc, ↓exrc, Int.reduceEq, Int.reduceLT, Int.reduceNeg, Int.reduceToNat, Int.toNat_natCast, Option.bind_some, if_true, if_false, reduceIte, ok_0 S, ok_2 S, ok_4 S, ok_6 S, ok_20 S, ok_26 S, ok_148 S, ok_153 S, ok_158 S, ok_163 S, ia_1 S, ia_3 S, ia_5 S, ia_21 S, ia_22 S, ia_23 S, ia_24 S, ia_25 S, ia_27 S, ia_149 S, ia_150 S, ia_151 S, ia_152 S, ia_154 S, ia_155 S, ia_156 S, ia_157 S, ia_159 S, ia_160 S, ia_161 S, ia_162 S, ia_164 S, ia_165 S, ia_166 S, ia_167 S, ia_168 S, ia_169 S, ia_170 S, ia_171 S, ia_172 S, pt_0_0 S, pt_2_0 S, pt_2_1 S, pt_0_2 S, pt_4_0 S, pt_4_1 S, pt_0_3 S, pt_6_0 S, pt_6_1 S, pt_0_4 S, pt_20_1 S, pt_20_2 S, pt_20_3 S, pt_20_4 S, pt_20_5 S, pt_0_6 S, pt_26_0 S, pt_0_7 S, pt_148_0 S, pt_148_4 S, pt_148_5 S, pt_148_6 S, pt_0_8 S, pt_153_0 S, pt_153_4 S, pt_153_5 S, pt_153_6 S, pt_0_9 S, pt_158_4 S, pt_158_5 S, pt_158_6 S, pt_158_7 S, pt_0_10 S, pt_163_0 S, pt_163_1 S, pt_163_2 S, pt_163_3 S, pt_0_11 S, pt_0_12 S, pt_0_13 S, pt_0_14 S, pt_0_15 S, pt_0_17 S, rc_s C, rc_1 C, rc_2 C, rc_3 C, rc_4 C, rc_salt C, rc_sister C, rc_value C, rc_feud C, CS.ok (C.2.1), CS.okS (C.2.1), cs_ia1 (C.2.1), cs_ia2 (C.2.1), cs_ia3 (C.2.1), cs_ia4 (C.2.1), cs_ia5 (C.2.1), cs_ia6 (C.2.1), cs_p5 (C.2.1), cs_p6 (C.2.1), cs_p7 (C.2.1), cs_p8 (C.2.1), cs_p9 (C.2.1), cs_p10 (C.2.1), cs_p13 (C.2.1), if_neg q']
        · unfold f_X12_on_L91
          simp (disch := omega) only [↓reduceIte, ↓bbind, ↓bxgf, ↓bxpf, ↓bxal, ↓bxas, ↓bxrc, ↓exrc, Int.reduceEq, Int.reduceLT, Int.reduceNeg, Int.reduceToNat, Int.toNat_natCast, Option.bind_some, if_true, if_false, reduceIte, ok_173 S, s_X12_holderMany S, if_neg q']
    obtain ⟨r, hr, d', g1, rfl, g2⟩ := xit_inv (f := fun s => f_X11_withNeighbours_L18 0 (b : Int) (i : Int) h s.1 s.2) (fun u => ∃ e j : Nat, e < 64 ∧ j ≤ n ∧ u = ((e : Int), (j : Int)) ∧ ∀ y, y < 6 → (e.testBit y = true ↔ d.testBit y = true ∨ (y < j ∧ b.testBit i = true ∧ mt h i y))) (fun u => 6 - u.2.toNat)
      (fun r => ∃ d' : Nat, d' < 64 ∧ r = (d' : Int) ∧ ∀ j, j < 6 → (d'.testBit j = true ↔ d.testBit j = true ∨ (j < n ∧ b.testBit i = true ∧ mt h i j))) ((d : Int), 0) ⟨d, 0, hd, by omega, rfl, fun y _ => by simp⟩ (by show 6 - (0 : Int).toNat < 1000000; omega) (by
      rintro u ⟨e, j, h1, h2, rfl, h3⟩
      obtain ⟨r, r1, r2, ⟨r3, r4⟩ | ⟨r3, e', r4, r5, r6⟩⟩ := st e j h1 h2
      · subst r4
        exact Or.inr ⟨_, r1, e, h1, rfl, by subst r3; exact h3⟩
      · subst r5
        refine Or.inl ⟨_, r1, ⟨e', j + 1, r4, by omega, rfl, fun y hy => ?_⟩, ?_⟩
        · rw [r6 y hy, h3 y hy]
          constructor
          · rintro ((a | a) | a)
            · exact Or.inl a
            · exact Or.inr ⟨by omega, a.2⟩
            · obtain ⟨rfl, a⟩ := a
              exact Or.inr ⟨by omega, a⟩
          · rintro (a | a)
            · exact Or.inl (Or.inl a)
            · by_cases z : y = j
              · subst z
                exact Or.inr ⟨rfl, a.2⟩
              · exact Or.inl (Or.inr ⟨by omega, a.2⟩)
        · show 6 - ((j + 1 : Nat) : Int).toNat < 6 - (j : Int).toNat
          omega)
    refine ⟨d', g1, g2, hr, ?_⟩
    rw [← hr]
    refine (xit_congr (fun u => ∃ e j : Nat, e < 64 ∧ j ≤ n ∧ u = ((e : Int), (j : Int))) (fun u hu => ?_) xFU _ ⟨d, 0, hd, by omega, rfl⟩).symm
    obtain ⟨e, j, h1, h2, rfl⟩ := hu
    obtain ⟨r, r1, r2, r3⟩ := st e j h1 h2
    refine ⟨r1.trans r2.symm, fun s' hs => ?_⟩
    have hs' := r1.symm.trans hs
    rcases r3 with ⟨r3, r4⟩ | ⟨r3, e', r4, r5, r6⟩
    · subst r4
      simp at hs'
    · subst r5
      simp only [Option.some.injEq, Sum.inl.injEq] at hs'
      exact ⟨e', j + 1, r4, by omega, hs'.symm⟩
  have st : ∀ (e i : Nat), e < 64 → i ≤ n → ∃ r, f_X11_withNeighbours_L4 0 (b : Int) h (e : Int) (i : Int) = some r ∧ f_X12_on_L79 173 c3 (b : Int) c5 h (e : Int) (i : Int) = some r ∧ ((i = n ∧ r = .inr (e : Int)) ∨ (i < n ∧ ∃ e' : Nat, e' < 64 ∧ r = .inl ((e' : Int), ((i + 1 : Nat) : Int)) ∧ ∀ y, y < 6 → (e'.testBit y = true ↔ e.testBit y = true ∨ (y < n ∧ b.testBit i = true ∧ mt h i y)))) := by
    intro e i he hi
    by_cases q : i < n
    · have q' : (i : Int) < xm h 199 4 := by omega
      obtain ⟨d', g1, g2, g3, g4⟩ := inner i q e he
      refine ⟨_, ?_, ?_, Or.inr ⟨q, d', g1, rfl, g2⟩⟩
      · unfold f_X11_withNeighbours_L4
        simp (disch := omega) only [↓reduceIte, ↓bbind, ↓bxgf, ↓bxpf, ↓bxal, ↓bxas, ↓bxrc, ↓exrc, Int.reduceEq, Int.reduceLT, Int.reduceNeg, Int.reduceToNat, Int.toNat_natCast, Option.bind_some, if_true, if_false, reduceIte, ok_0 S, ok_2 S, ok_4 S, ok_6 S, ok_20 S, ok_26 S, ok_148 S, ok_153 S, ok_158 S, ok_163 S, ia_1 S, ia_3 S, ia_5 S, ia_21 S, ia_22 S, ia_23 S, ia_24 S, ia_25 S, ia_27 S, ia_149 S, ia_150 S, ia_151 S, ia_152 S, ia_154 S, ia_155 S, ia_156 S, ia_157 S, ia_159 S, ia_160 S, ia_161 S, ia_162 S, ia_164 S, ia_165 S, ia_166 S, ia_167 S, ia_168 S, ia_169 S, ia_170 S, ia_171 S, ia_172 S, pt_0_0 S, pt_2_0 S, pt_2_1 S, pt_0_2 S, pt_4_0 S, pt_4_1 S, pt_0_3 S, pt_6_0 S, pt_6_1 S, pt_0_4 S, pt_20_1 S, pt_20_2 S, pt_20_3 S, pt_20_4 S, pt_20_5 S, pt_0_6 S, pt_26_0 S, pt_0_7 S, pt_148_0 S, pt_148_4 S, pt_148_5 S, pt_148_6 S, pt_0_8 S, pt_153_0 S, pt_153_4 S, pt_153_5 S, pt_153_6 S, pt_0_9 S, pt_158_4 S, pt_158_5 S, pt_158_6 S, pt_158_7 S, pt_0_10 S, pt_163_0 S, pt_163_1 S, pt_163_2 S, pt_163_3 S, pt_0_11 S, pt_0_12 S, pt_0_13 S, pt_0_14 S, pt_0_15 S, pt_0_17 S, rc_s C, rc_1 C, rc_2 C, rc_3 C, rc_4 C, rc_salt C, rc_sister C, rc_value C, rc_feud C, CS.ok (C.2.1), CS.okS (C.2.1), cs_ia1 (C.2.1), cs_ia2 (C.2.1), cs_ia3 (C.2.1), cs_ia4 (C.2.1), cs_ia5 (C.2.1), cs_ia6 (C.2.1), cs_p5 (C.2.1), cs_p6 (C.2.1), cs_p7 (C.2.1), cs_p8 (C.2.1), cs_p9 (C.2.1), cs_p10 (C.2.1), cs_p13 (C.2.1), if_pos q', w32_id]
        exact (bnd g3).trans rfl
      · unfold f_X12_on_L79
        simp (disch := omega) only [↓reduceIte, ↓bbind, ↓bxgf, ↓bxpf, ↓bxal, ↓bxas, ↓bxrc, ↓exrc, Int.reduceEq, Int.reduceLT, Int.reduceNeg, Int.reduceToNat, Int.toNat_natCast, Option.bind_some, if_true, if_false, reduceIte, ok_173 S, s_X12_holderMany S, if_pos q', w32_id]
        exact (bnd g4).trans rfl
    · have q' : ¬ (i : Int) < xm h 199 4 := by omega
      refine ⟨.inr (e : Int), ?_, ?_, Or.inl ⟨by omega, rfl⟩⟩
      · unfold f_X11_withNeighbours_L4
        simp (disch := omega) only [↓reduceIte, ↓bbind, ↓bxgf, ↓bxpf, ↓bxal, ↓bxas, ↓bxrc, ↓exrc, Int.reduceEq, Int.reduceLT, Int.reduceNeg, Int.reduceToNat, Int.toNat_natCast, Option.bind_some, if_true, if_false, reduceIte, ok_0 S, ok_2 S, ok_4 S, ok_6 S, ok_20 S, ok_26 S, ok_148 S, ok_153 S, ok_158 S, ok_163 S, ia_1 S, ia_3 S, ia_5 S, ia_21 S, ia_22 S, ia_23 S, ia_24 S, ia_25 S, ia_27 S, ia_149 S, ia_150 S, ia_151 S, ia_152 S, ia_154 S, ia_155 S, ia_156 S, ia_157 S, ia_159 S, ia_160 S, ia_161 S, ia_162 S, ia_164 S, ia_165 S, ia_166 S, ia_167 S, ia_168 S, ia_169 S, ia_170 S, ia_171 S, ia_172 S, pt_0_0 S, pt_2_0 S, pt_2_1 S, pt_0_2 S, pt_4_0 S, pt_4_1 S, pt_0_3 S, pt_6_0 S, pt_6_1 S, pt_0_4 S, pt_20_1 S, pt_20_2 S, pt_20_3 S, pt_20_4 S, pt_20_5 S, pt_0_6 S, pt_26_0 S, pt_0_7 S, pt_148_0 S, pt_148_4 S, pt_148_5 S, pt_148_6 S, pt_0_8 S, pt_153_0 S, pt_153_4 S, pt_153_5 S, pt_153_6 S, pt_0_9 S, pt_158_4 S, pt_158_5 S, pt_158_6 S, pt_158_7 S, pt_0_10 S, pt_163_0 S, pt_163_1 S, pt_163_2 S, pt_163_3 S, pt_0_11 S, pt_0_12 S, pt_0_13 S, pt_0_14 S, pt_0_15 S, pt_0_17 S, rc_s C, rc_1 C, rc_2 C, rc_3 C, rc_4 C, rc_salt C, rc_sister C, rc_value C, rc_feud C, CS.ok (C.2.1), CS.okS (C.2.1), cs_ia1 (C.2.1), cs_ia2 (C.2.1), cs_ia3 (C.2.1), cs_ia4 (C.2.1), cs_ia5 (C.2.1), cs_ia6 (C.2.1), cs_p5 (C.2.1), cs_p6 (C.2.1), cs_p7 (C.2.1), cs_p8 (C.2.1), cs_p9 (C.2.1), cs_p10 (C.2.1), cs_p13 (C.2.1), if_neg q']
      · unfold f_X12_on_L79
        simp (disch := omega) only [↓reduceIte, ↓bbind, ↓bxgf, ↓bxpf, ↓bxal, ↓bxas, ↓bxrc, ↓exrc, Int.reduceEq, Int.reduceLT, Int.reduceNeg, Int.reduceToNat, Int.toNat_natCast, Option.bind_some, if_true, if_false, reduceIte, ok_173 S, s_X12_holderMany S, if_neg q']
  obtain ⟨r, hr, b', g1, rfl, g2⟩ := xit_inv (f := fun s => f_X11_withNeighbours_L4 0 (b : Int) h s.1 s.2) (fun u => ∃ e i : Nat, e < 64 ∧ i ≤ n ∧ u = ((e : Int), (i : Int)) ∧ ∀ y, y < 6 → (e.testBit y = true ↔ b.testBit y = true ∨ (y < n ∧ ∃ i', i' < i ∧ b.testBit i' = true ∧ mt h i' y))) (fun u => 6 - u.2.toNat)
    (fun r => ∃ d' : Nat, d' < 64 ∧ r = (d' : Int) ∧ ∀ j, j < 6 → (d'.testBit j = true ↔ b.testBit j = true ∨ (j < n ∧ ∃ i', i' < n ∧ b.testBit i' = true ∧ mt h i' j))) ((b : Int), 0) ⟨b, 0, hb, by omega, rfl, fun y _ => by simp⟩ (by show 6 - (0 : Int).toNat < 1000000; omega) (by
    rintro u ⟨e, j, h1, h2, rfl, h3⟩
    obtain ⟨r, r1, r2, ⟨r3, r4⟩ | ⟨r3, e', r4, r5, r6⟩⟩ := st e j h1 h2
    · subst r4
      exact Or.inr ⟨_, r1, e, h1, rfl, by subst r3; exact h3⟩
    · subst r5
      refine Or.inl ⟨_, r1, ⟨e', j + 1, r4, by omega, rfl, fun y hy => ?_⟩, ?_⟩
      · rw [r6 y hy, h3 y hy]
        constructor
        · rintro ((a | ⟨a1, i', a2, a3⟩) | a)
          · exact Or.inl a
          · exact Or.inr ⟨a1, i', by omega, a3⟩
          · exact Or.inr ⟨a.1, j, by omega, a.2⟩
        · rintro (a | ⟨a1, i', a2, a3⟩)
          · exact Or.inl (Or.inl a)
          · by_cases z : i' = j
            · subst z
              exact Or.inr ⟨a1, a3⟩
            · exact Or.inl (Or.inr ⟨a1, i', by omega, a3⟩)
      · show 6 - ((j + 1 : Nat) : Int).toNat < 6 - (j : Int).toNat
        omega)
  refine ⟨b', ⟨g1, fun j hj => by rw [← en]; exact g2 j hj⟩, ?_, ?_⟩
  · unfold f_X11_withNeighbours
    exact (bnd hr).trans rfl
  · rw [← hr]
    refine (xit_congr (fun u => ∃ e j : Nat, e < 64 ∧ j ≤ n ∧ u = ((e : Int), (j : Int))) (fun u hu => ?_) xFU _ ⟨b, 0, hb, by omega, rfl⟩).symm
    obtain ⟨e, j, h1, h2, rfl⟩ := hu
    obtain ⟨r, r1, r2, r3⟩ := st e j h1 h2
    refine ⟨r1.trans r2.symm, fun s' hs => ?_⟩
    have hs' := r1.symm.trans hs
    rcases r3 with ⟨r3, r4⟩ | ⟨r3, e', r4, r5, r6⟩
    · subst r4
      simp at hs'
    · subst r5
      simp only [Option.some.injEq, Sum.inl.injEq] at hs'
      exact ⟨e', j + 1, r4, by omega, hs'.symm⟩
theorem pcn_lt : ∀ b, b < 64 → ∀ c, c < 64 → b &&& c = b → b ≠ c → pcn b < pcn c := by decide +kernel
theorem pcn_all : ∀ n, n < 7 → ∀ b, b < 64 → b &&& (2 ^ n - 1) = b → pcn b ≤ n ∧ (n ≤ pcn b → b = 2 ^ n - 1) := by decide +kernel
theorem tb_all : ∀ n, n < 7 → ∀ j, j < 6 → ((2 ^ n - 1).testBit j = true ↔ j < n) := by decide +kernel
theorem pcn_one : ∀ a, a < 6 → pcn (2 ^ a) = 1 := by decide +kernel
theorem tb_ext {b c : Nat} (hb : b < 64) (hc : c < 64) (h : ∀ j, j < 6 → (b.testBit j = true ↔ c.testBit j = true)) : b = c := by
  apply Nat.eq_of_testBit_eq
  intro j
  by_cases q : j < 6
  · have := h j q
    cases x : b.testBit j <;> cases y : c.testBit j <;> simp_all
  · rw [Nat.testBit_lt_two_pow (Nat.lt_of_lt_of_le hb (Nat.pow_le_pow_right (n := 2) (by decide) (show 6 ≤ j by omega))), Nat.testBit_lt_two_pow (Nat.lt_of_lt_of_le hc (Nat.pow_le_pow_right (n := 2) (by decide) (show 6 ≤ j by omega)))]
theorem tb_sub {b c : Nat} (hb : b < 64) (h : ∀ j, j < 6 → b.testBit j = true → c.testBit j = true) : b &&& c = b := by
  apply tb_ext (Nat.lt_of_le_of_lt Nat.and_le_left hb) hb
  intro j hj
  rw [Nat.testBit_and, Bool.and_eq_true]
  exact ⟨fun a => a.1, fun a => ⟨a, h j hj a⟩⟩
theorem stp1_fun {h : xa_H} {b c c' : Nat} (h1 : stp1 h b c) (h2 : stp1 h b c') : c = c' := tb_ext h1.1 h2.1 (fun j hj => (h1.2 j hj).trans (h2.2 j hj).symm)
theorem p_on {h : xa_H} {s : Nat} (S : SH h) (C : Rc h s) (N : Rn h) (v : Int) : ∃ r, f_X11_on 0 v h = some r ∧ f_X12_on 173 v h = some r := by
  have hn := rc_n C
  have hm := rc_m C
  by_cases q : 0 ≤ v ∧ v < xm h 199 3
  · obtain ⟨x, rfl⟩ : ∃ x : Nat, v = (x : Int) := ⟨v.toNat, by omega⟩
    obtain ⟨a, ea⟩ : ∃ a, a = xfind (fun i => decide (xm h 212 (1 + 9 * i) = (x : Int))) (xm h 199 4).toNat := ⟨_, rfl⟩
    obtain ⟨b, eb⟩ : ∃ b, b = xfind (fun i => decide (xm h 212 (1 + 9 * i) = xm h 202 (6 + x))) (xm h 199 4).toNat := ⟨_, rfl⟩
    have hs := C.2.2.2.2.2.2.2.2.2.2.1 x q.2
    unfold f_X11_on f_X12_on
    simp (disch := omega) only [↓reduceIte, ↓bbind, ↓bxgf, ↓bxpf, ↓bxal, ↓bxas, ↓bxrc, ↓exrc, Int.reduceEq, Int.reduceLT, Int.reduceNeg, Int.reduceToNat, Int.toNat_natCast, Option.bind_some, if_true, if_false, reduceIte, ok_0 S, ok_2 S, ok_4 S, ok_6 S, ok_20 S, ok_26 S, ok_148 S, ok_153 S, ok_158 S, ok_163 S, ia_1 S, ia_3 S, ia_5 S, ia_21 S, ia_22 S, ia_23 S, ia_24 S, ia_25 S, ia_27 S, ia_149 S, ia_150 S, ia_151 S, ia_152 S, ia_154 S, ia_155 S, ia_156 S, ia_157 S, ia_159 S, ia_160 S, ia_161 S, ia_162 S, ia_164 S, ia_165 S, ia_166 S, ia_167 S, ia_168 S, ia_169 S, ia_170 S, ia_171 S, ia_172 S, pt_0_0 S, pt_2_0 S, pt_2_1 S, pt_0_2 S, pt_4_0 S, pt_4_1 S, pt_0_3 S, pt_6_0 S, pt_6_1 S, pt_0_4 S, pt_20_1 S, pt_20_2 S, pt_20_3 S, pt_20_4 S, pt_20_5 S, pt_0_6 S, pt_26_0 S, pt_0_7 S, pt_148_0 S, pt_148_4 S, pt_148_5 S, pt_148_6 S, pt_0_8 S, pt_153_0 S, pt_153_4 S, pt_153_5 S, pt_153_6 S, pt_0_9 S, pt_158_4 S, pt_158_5 S, pt_158_6 S, pt_158_7 S, pt_0_10 S, pt_163_0 S, pt_163_1 S, pt_163_2 S, pt_163_3 S, pt_0_11 S, pt_0_12 S, pt_0_13 S, pt_0_14 S, pt_0_15 S, pt_0_17 S, rc_s C, rc_1 C, rc_2 C, rc_3 C, rc_4 C, rc_salt C, rc_sister C, rc_value C, rc_feud C, CS.ok (C.2.1), CS.okS (C.2.1), cs_ia1 (C.2.1), cs_ia2 (C.2.1), cs_ia3 (C.2.1), cs_ia4 (C.2.1), cs_ia5 (C.2.1), cs_ia6 (C.2.1), cs_p5 (C.2.1), cs_p6 (C.2.1), cs_p7 (C.2.1), cs_p8 (C.2.1), cs_p9 (C.2.1), cs_p10 (C.2.1), cs_p13 (C.2.1), ok_173 S, ia_174 S, ia_175 S, ia_199 S, ia_200 S, ia_201 S, ia_202 S, ia_203 S, ia_204 S, ia_205 S, ia_206 S, ia_207 S, ia_208 S, ia_209 S, ia_210 S, ia_211 S, ia_212 S, ia_213 S, ia_214 S, ia_215 S, ia_216 S, ia_217 S, ia_218 S, ia_219 S, ia_220 S, ia_221 S, ia_222 S, ia_223 S, ia_224 S, ia_245 S, ia_246 S, ia_247 S, ia_248 S, pt_173_0 S, pt_173_9 S, pt_173_34 S, pt_173_35 S, pt_173_36 S, pt_173_37 S, pt_173_38 S, pt_173_39 S, pt_173_40 S, pt_173_41 S, pt_173_42 S, pt_173_43 S, pt_173_44 S, pt_173_45 S, pt_173_46 S, pt_173_50 S, pt_173_55 S, pt_173_58 S, pt_173_59 S, pt_173_63 S, pt_173_64 S, pt_173_66 S, pt_173_67 S, pt_173_68 S, pt_173_69 S, pt_173_71 S, pt_173_72 S, pt_173_73 S, pt_173_97 S, pt_173_99 S, pt_173_103 S, pt_173_107 S, s_X11_isHeld S C, s_X12_isHeldThere S C, if_pos q, s_X9_holderOf S C N, s_X12_holderOf S C, w32_id, Int.toNat_add, ← ea, ← eb]
    by_cases q1 : xm h 202 (6 + x) = -1
    · simp [q1]
    · by_cases q2 : a = -1
      · simp [q1, q2]
      · by_cases q3 : b = -1
        · simp [q1, q2, q3]
        · simp only [q1, q2, q3, if_false]
          obtain ⟨i, rfl, hi, gi⟩ : ∃ i : Nat, a = (i : Int) ∧ i < (xm h 199 4).toNat ∧ xm h 212 (1 + 9 * i) = (x : Int) := by
            rcases xfind_spec (fun i => decide (xm h 212 (1 + 9 * i) = (x : Int))) (xm h 199 4).toNat with ⟨e, -⟩ | ⟨j, e1, e2, e3, -⟩
            · exact absurd (ea.trans e) q2
            · exact ⟨j, ea.trans e1, e2, by simpa using e3⟩
          obtain ⟨j, rfl, hj, gj⟩ : ∃ i : Nat, b = (i : Int) ∧ i < (xm h 199 4).toNat ∧ xm h 212 (1 + 9 * i) = xm h 202 (6 + x) := by
            rcases xfind_spec (fun i => decide (xm h 212 (1 + 9 * i) = xm h 202 (6 + x))) (xm h 199 4).toNat with ⟨e, -⟩ | ⟨j, e1, e2, e3, -⟩
            · exact absurd (eb.trans e) q3
            · exact ⟨j, eb.trans e1, e2, by simpa using e3⟩
          have hij : i ≠ j := by
            rintro rfl
            have := gi.symm.trans gj
            omega
          obtain ⟨n, en⟩ : ∃ n, n = (xm h 199 4).toNat := ⟨_, rfl⟩
          -- the rows of what is reached
          have ex : ∀ b, b < 64 → ∃ b', stp1 h b b' := fun b hb => by
            obtain ⟨b', g, -⟩ := s_within S C N b hb 0 0
            exact ⟨b', g⟩
          obtain ⟨G, hG⟩ : ∃ G : Nat → Nat, ∀ b, b < 64 → stp1 h b (G b) := by
            refine ⟨fun b => if hb : b < 64 then (ex b hb).choose else 0, fun b hb => ?_⟩
            dsimp only
            rw [dif_pos hb]
            exact (ex b hb).choose_spec
          have R64 : ∀ k, itr G (2 ^ i) k < 64 := by
            intro k
            induction k with
            | zero =>
              show 2 ^ i < 2 ^ 6
              exact Nat.pow_lt_pow_right (by decide) (by omega)
            | succ k ih => exact (hG _ ih).1
          have Rn' : ∀ k y, y < 6 → (itr G (2 ^ i) k).testBit y = true → y < n := by
            intro k
            induction k with
            | zero =>
              intro y hy hb
              have : i = y := by simpa [itr, Nat.testBit_two_pow] using hb
              omega
            | succ k ih =>
              intro y hy hb
              rcases ((hG _ (R64 k)).2 y hy).mp hb with o | o
              · exact ih y hy o
              · omega
          have Rmono : ∀ k y, y < 6 → (itr G (2 ^ i) k).testBit y = true → (itr G (2 ^ i) (k + 1)).testBit y = true := fun k y hy hb => ((hG _ (R64 k)).2 y hy).mpr (Or.inl hb)
          have cls : ∀ k, f_X11_withNeighbours 0 ((itr G (2 ^ i) k : Nat) : Int) h = some ((itr G (2 ^ i) (k + 1) : Nat) : Int) := fun k => by
            obtain ⟨b', g1, g2, -⟩ := s_within S C N _ (R64 k) 0 0
            rw [g2, stp1_fun g1 (hG _ (R64 k))]
            rfl
          have rfs : ∀ k (c5 : Int), xit (fun s => f_X12_on_L79 173 (j : Int) ((itr G (2 ^ i) k : Nat) : Int) c5 h s.1 s.2) xFU (((itr G (2 ^ i) k : Nat) : Int), 0) = some ((itr G (2 ^ i) (k + 1) : Nat) : Int) := fun k c5 => by
            obtain ⟨b', g1, -, g3⟩ := s_within S C N _ (R64 k) (j : Int) c5
            rw [g3, stp1_fun g1 (hG _ (R64 k))]
            rfl
          -- it grows, or stands
          have grow : ∀ k, (∀ k', k' < k → itr G (2 ^ i) (k' + 1) ≠ itr G (2 ^ i) k') → k + 1 ≤ pcn (itr G (2 ^ i) k) := by
            intro k
            induction k with
            | zero => intro _; rw [show itr G (2 ^ i) 0 = 2 ^ i from rfl, pcn_one i (by omega)]; exact Nat.le_refl _
            | succ k ih =>
              intro hk
              have h1 := ih (fun k' hk' => hk k' (by omega))
              have h2 := pcn_lt _ (R64 k) _ (R64 (k + 1)) (tb_sub (R64 k) (fun y hy hb => Rmono k y hy hb)) (fun e => hk k (by omega) e.symm)
              omega
          have sub : ∀ k, itr G (2 ^ i) k &&& (2 ^ n - 1) = itr G (2 ^ i) k := fun k => tb_sub (R64 k) (fun y hy hb => (tb_all n (by omega) y hy).mpr (Rn' k y hy hb))
          have bitj : ∀ k, xand (xshr ((itr G (2 ^ i) k : Nat) : Int) (j : Int)) 1 = if (itr G (2 ^ i) k).testBit j then 1 else 0 := fun k => b_bit _ (R64 k) j (by omega)
          have z0 : (itr G (2 ^ i) 0).testBit j = false := by
            rw [show itr G (2 ^ i) 0 = 2 ^ i from rfl, Nat.testBit_two_pow]
            simpa using hij
          have st0 : xshl 1 ((i : Nat) : Int) = ((itr G (2 ^ i) 0 : Nat) : Int) := x_shl1 i (by omega)
          rw [st0]
          by_cases T : ∃ k, k < n ∧ (itr G (2 ^ i) k).testBit j = true
          · -- the least such time
            have least : ∀ m k, k ≤ m → (itr G (2 ^ i) k).testBit j = true → ∃ t, t ≤ k ∧ (itr G (2 ^ i) t).testBit j = true ∧ ∀ t', t' < t → (itr G (2 ^ i) t').testBit j = false := by
              intro m
              induction m with
              | zero => intro k hk hb; exact ⟨k, Nat.le_refl _, hb, fun t' ht' => by omega⟩
              | succ m ih =>
                intro k hk hb
                by_cases y : ∃ t', t' < k ∧ (itr G (2 ^ i) t').testBit j = true
                · obtain ⟨t', y1, y2⟩ := y
                  obtain ⟨t, w1, w2, w3⟩ := ih t' (by omega) y2
                  exact ⟨t, by omega, w2, w3⟩
                · refine ⟨k, Nat.le_refl _, hb, fun t' ht' => ?_⟩
                  cases w : (itr G (2 ^ i) t').testBit j
                  · rfl
                  · exact absurd ⟨t', ht', w⟩ y
            obtain ⟨k, k1, k2⟩ := T
            obtain ⟨t, t1, t2, t3⟩ := least k k (Nat.le_refl _) k2
            have tpos : t ≠ 0 := by
              rintro rfl
              rw [z0] at t2
              simp at t2
            have l1 := xit_seq (f := fun s => f_X11_on_L83 0 (j : Int) h s.1 s.2) (fun k => (((itr G (2 ^ i) k : Nat) : Int), ((k + 1 : Nat) : Int))) (t - 1) (.inl (t : Int)) (fun k hk => by
              unfold f_X11_on_L83
              have g1 : ((k + 1 : Nat) : Int) < xm h 199 4 := by omega
              simp (disch := omega) only [↓reduceIte, ↓bbind, ↓bxgf, ↓bxpf, ↓bxal, ↓bxas, ↓bxrc, ↓exrc, Int.reduceEq, Int.reduceLT, Int.reduceNeg, Int.reduceToNat, Int.toNat_natCast, Option.bind_some, if_true, if_false, reduceIte, ok_0 S, ok_2 S, ok_4 S, ok_6 S, ok_20 S, ok_26 S, ok_148 S, ok_153 S, ok_158 S, ok_163 S, ia_1 S, ia_3 S, ia_5 S, ia_21 S, ia_22 S, ia_23 S, ia_24 S, ia_25 S, ia_27 S, ia_149 S, ia_150 S, ia_151 S, ia_152 S, ia_154 S, ia_155 S, ia_156 S, ia_157 S, ia_159 S, ia_160 S, ia_161 S, ia_162 S, ia_164 S, ia_165 S, ia_166 S, ia_167 S, ia_168 S, ia_169 S, ia_170 S, ia_171 S, ia_172 S, pt_0_0 S, pt_2_0 S, pt_2_1 S, pt_0_2 S, pt_4_0 S, pt_4_1 S, pt_0_3 S, pt_6_0 S, pt_6_1 S, pt_0_4 S, pt_20_1 S, pt_20_2 S, pt_20_3 S, pt_20_4 S, pt_20_5 S, pt_0_6 S, pt_26_0 S, pt_0_7 S, pt_148_0 S, pt_148_4 S, pt_148_5 S, pt_148_6 S, pt_0_8 S, pt_153_0 S, pt_153_4 S, pt_153_5 S, pt_153_6 S, pt_0_9 S, pt_158_4 S, pt_158_5 S, pt_158_6 S, pt_158_7 S, pt_0_10 S, pt_163_0 S, pt_163_1 S, pt_163_2 S, pt_163_3 S, pt_0_11 S, pt_0_12 S, pt_0_13 S, pt_0_14 S, pt_0_15 S, pt_0_17 S, rc_s C, rc_1 C, rc_2 C, rc_3 C, rc_4 C, rc_salt C, rc_sister C, rc_value C, rc_feud C, CS.ok (C.2.1), CS.okS (C.2.1), cs_ia1 (C.2.1), cs_ia2 (C.2.1), cs_ia3 (C.2.1), cs_ia4 (C.2.1), cs_ia5 (C.2.1), cs_ia6 (C.2.1), cs_p5 (C.2.1), cs_p6 (C.2.1), cs_p7 (C.2.1), cs_p8 (C.2.1), cs_p9 (C.2.1), cs_p10 (C.2.1), cs_p13 (C.2.1), if_pos g1, cls, bitj, t3 (k + 1) (by omega), w32_id]
              rfl) (by
              unfold f_X11_on_L83
              have g1 : ((t - 1 + 1 : Nat) : Int) < xm h 199 4 := by omega
              simp (disch := omega) only [↓reduceIte, ↓bbind, ↓bxgf, ↓bxpf, ↓bxal, ↓bxas, ↓bxrc, ↓exrc, Int.reduceEq, Int.reduceLT, Int.reduceNeg, Int.reduceToNat, Int.toNat_natCast, Option.bind_some, if_true, if_false, reduceIte, ok_0 S, ok_2 S, ok_4 S, ok_6 S, ok_20 S, ok_26 S, ok_148 S, ok_153 S, ok_158 S, ok_163 S, ia_1 S, ia_3 S, ia_5 S, ia_21 S, ia_22 S, ia_23 S, ia_24 S, ia_25 S, ia_27 S, ia_149 S, ia_150 S, ia_151 S, ia_152 S, ia_154 S, ia_155 S, ia_156 S, ia_157 S, ia_159 S, ia_160 S, ia_161 S, ia_162 S, ia_164 S, ia_165 S, ia_166 S, ia_167 S, ia_168 S, ia_169 S, ia_170 S, ia_171 S, ia_172 S, pt_0_0 S, pt_2_0 S, pt_2_1 S, pt_0_2 S, pt_4_0 S, pt_4_1 S, pt_0_3 S, pt_6_0 S, pt_6_1 S, pt_0_4 S, pt_20_1 S, pt_20_2 S, pt_20_3 S, pt_20_4 S, pt_20_5 S, pt_0_6 S, pt_26_0 S, pt_0_7 S, pt_148_0 S, pt_148_4 S, pt_148_5 S, pt_148_6 S, pt_0_8 S, pt_153_0 S, pt_153_4 S, pt_153_5 S, pt_153_6 S, pt_0_9 S, pt_158_4 S, pt_158_5 S, pt_158_6 S, pt_158_7 S, pt_0_10 S, pt_163_0 S, pt_163_1 S, pt_163_2 S, pt_163_3 S, pt_0_11 S, pt_0_12 S, pt_0_13 S, pt_0_14 S, pt_0_15 S, pt_0_17 S, rc_s C, rc_1 C, rc_2 C, rc_3 C, rc_4 C, rc_salt C, rc_sister C, rc_value C, rc_feud C, CS.ok (C.2.1), CS.okS (C.2.1), cs_ia1 (C.2.1), cs_ia2 (C.2.1), cs_ia3 (C.2.1), cs_ia4 (C.2.1), cs_ia5 (C.2.1), cs_ia6 (C.2.1), cs_p5 (C.2.1), cs_p6 (C.2.1), cs_p7 (C.2.1), cs_p8 (C.2.1), cs_p9 (C.2.1), cs_p10 (C.2.1), cs_p13 (C.2.1), if_pos g1, cls, bitj]
              rw [show t - 1 + 1 = t by omega, t2]
              simp) (by omega)
            have l2 := xit_seq (f := fun s => f_X12_on_L63 173 (j : Int) h s.1 s.2) (fun k => (((itr G (2 ^ i) k : Nat) : Int), (k : Int))) t (.inr (t : Int)) (fun k hk => by
              unfold f_X12_on_L63
              dsimp only
              rw [bitj, t3 k hk]
              simp only [↓reduceIte, ↓bbind, ↓bxgf, ↓bxpf, ↓bxal, ↓bxas, ↓bxrc, ↓exrc, Int.reduceEq, Int.reduceLT, Int.reduceNeg, Int.reduceToNat, Int.toNat_natCast, Option.bind_some, if_true, if_false, reduceIte, Bool.false_eq_true]
              refine (bnd (rfs k (k : Int))).trans ?_
              have ne : ¬ ((itr G (2 ^ i) (k + 1) : Nat) : Int) = ((itr G (2 ^ i) k : Nat) : Int) := by
                intro e
                have e' : itr G (2 ^ i) (k + 1) = itr G (2 ^ i) k := by omega
                -- it stands from here on
                have stand : ∀ d, itr G (2 ^ i) (k + d) = itr G (2 ^ i) k := by
                  intro d
                  induction d with
                  | zero => rfl
                  | succ d ih =>
                    show G (itr G (2 ^ i) (k + d)) = _
                    rw [ih]
                    exact e'
                have := stand (t - k)
                rw [show k + (t - k) = t by omega] at this
                rw [this, t3 k hk] at t2
                simp at t2
              rw [if_neg ne, w32_id (by omega) (by omega)]
              rfl) (by
              unfold f_X12_on_L63
              dsimp only
              rw [bitj, t2]
              rfl) (by omega)
            have l1' : xit (fun s => f_X11_on_L83 0 (j : Int) h s.1 s.2) xFU (((itr G (2 ^ i) 0 : Nat) : Int), 1) = some (.inl (t : Int)) := l1
            have l2' : xit (fun s => f_X12_on_L63 173 (j : Int) h s.1 s.2) xFU (((itr G (2 ^ i) 0 : Nat) : Int), 0) = some (.inr (t : Int)) := l2
            rw [l1', l2']
            exact ⟨_, rfl, rfl⟩
          · have T' : ∀ k, k < n → (itr G (2 ^ i) k).testBit j = false := fun k hk => by
              cases w : (itr G (2 ^ i) k).testBit j
              · rfl
              · exact absurd ⟨k, hk, w⟩ T
            have l1 := xit_seq (f := fun s => f_X11_on_L83 0 (j : Int) h s.1 s.2) (fun k => (((itr G (2 ^ i) k : Nat) : Int), ((k + 1 : Nat) : Int))) (n - 1) (.inr ()) (fun k hk => by
              unfold f_X11_on_L83
              have g1 : ((k + 1 : Nat) : Int) < xm h 199 4 := by omega
              simp (disch := omega) only [↓reduceIte, ↓bbind, ↓bxgf, ↓bxpf, ↓bxal, ↓bxas, ↓bxrc, ↓exrc, Int.reduceEq, Int.reduceLT, Int.reduceNeg, Int.reduceToNat, Int.toNat_natCast, Option.bind_some, if_true, if_false, reduceIte, ok_0 S, ok_2 S, ok_4 S, ok_6 S, ok_20 S, ok_26 S, ok_148 S, ok_153 S, ok_158 S, ok_163 S, ia_1 S, ia_3 S, ia_5 S, ia_21 S, ia_22 S, ia_23 S, ia_24 S, ia_25 S, ia_27 S, ia_149 S, ia_150 S, ia_151 S, ia_152 S, ia_154 S, ia_155 S, ia_156 S, ia_157 S, ia_159 S, ia_160 S, ia_161 S, ia_162 S, ia_164 S, ia_165 S, ia_166 S, ia_167 S, ia_168 S, ia_169 S, ia_170 S, ia_171 S, ia_172 S, pt_0_0 S, pt_2_0 S, pt_2_1 S, pt_0_2 S, pt_4_0 S, pt_4_1 S, pt_0_3 S, pt_6_0 S, pt_6_1 S, pt_0_4 S, pt_20_1 S, pt_20_2 S, pt_20_3 S, pt_20_4 S, pt_20_5 S, pt_0_6 S, pt_26_0 S, pt_0_7 S, pt_148_0 S, pt_148_4 S, pt_148_5 S, pt_148_6 S, pt_0_8 S, pt_153_0 S, pt_153_4 S, pt_153_5 S, pt_153_6 S, pt_0_9 S, pt_158_4 S, pt_158_5 S, pt_158_6 S, pt_158_7 S, pt_0_10 S, pt_163_0 S, pt_163_1 S, pt_163_2 S, pt_163_3 S, pt_0_11 S, pt_0_12 S, pt_0_13 S, pt_0_14 S, pt_0_15 S, pt_0_17 S, rc_s C, rc_1 C, rc_2 C, rc_3 C, rc_4 C, rc_salt C, rc_sister C, rc_value C, rc_feud C, CS.ok (C.2.1), CS.okS (C.2.1), cs_ia1 (C.2.1), cs_ia2 (C.2.1), cs_ia3 (C.2.1), cs_ia4 (C.2.1), cs_ia5 (C.2.1), cs_ia6 (C.2.1), cs_p5 (C.2.1), cs_p6 (C.2.1), cs_p7 (C.2.1), cs_p8 (C.2.1), cs_p9 (C.2.1), cs_p10 (C.2.1), cs_p13 (C.2.1), if_pos g1, cls, bitj, T' (k + 1) (by omega), w32_id]
              rfl) (by
              unfold f_X11_on_L83
              have g1 : ¬ ((n - 1 + 1 : Nat) : Int) < xm h 199 4 := by omega
              simp (disch := omega) only [↓reduceIte, ↓bbind, ↓bxgf, ↓bxpf, ↓bxal, ↓bxas, ↓bxrc, ↓exrc, Int.reduceEq, Int.reduceLT, Int.reduceNeg, Int.reduceToNat, Int.toNat_natCast, Option.bind_some, if_true, if_false, reduceIte, ok_0 S, ok_2 S, ok_4 S, ok_6 S, ok_20 S, ok_26 S, ok_148 S, ok_153 S, ok_158 S, ok_163 S, ia_1 S, ia_3 S, ia_5 S, ia_21 S, ia_22 S, ia_23 S, ia_24 S, ia_25 S, ia_27 S, ia_149 S, ia_150 S, ia_151 S, ia_152 S, ia_154 S, ia_155 S, ia_156 S, ia_157 S, ia_159 S, ia_160 S, ia_161 S, ia_162 S, ia_164 S, ia_165 S, ia_166 S, ia_167 S, ia_168 S, ia_169 S, ia_170 S, ia_171 S, ia_172 S, pt_0_0 S, pt_2_0 S, pt_2_1 S, pt_0_2 S, pt_4_0 S, pt_4_1 S, pt_0_3 S, pt_6_0 S, pt_6_1 S, pt_0_4 S, pt_20_1 S, pt_20_2 S, pt_20_3 S, pt_20_4 S, pt_20_5 S, pt_0_6 S, pt_26_0 S, pt_0_7 S, pt_148_0 S, pt_148_4 S, pt_148_5 S, pt_148_6 S, pt_0_8 S, pt_153_0 S, pt_153_4 S, pt_153_5 S, pt_153_6 S, pt_0_9 S, pt_158_4 S, pt_158_5 S, pt_158_6 S, pt_158_7 S, pt_0_10 S, pt_163_0 S, pt_163_1 S, pt_163_2 S, pt_163_3 S, pt_0_11 S, pt_0_12 S, pt_0_13 S, pt_0_14 S, pt_0_15 S, pt_0_17 S, rc_s C, rc_1 C, rc_2 C, rc_3 C, rc_4 C, rc_salt C, rc_sister C, rc_value C, rc_feud C, CS.ok (C.2.1), CS.okS (C.2.1), cs_ia1 (C.2.1), cs_ia2 (C.2.1), cs_ia3 (C.2.1), cs_ia4 (C.2.1), cs_ia5 (C.2.1), cs_ia6 (C.2.1), cs_p5 (C.2.1), cs_p6 (C.2.1), cs_p7 (C.2.1), cs_p8 (C.2.1), cs_p9 (C.2.1), cs_p10 (C.2.1), cs_p13 (C.2.1), if_neg g1]) (by omega)
            -- somewhere it stands
            have sd : ∃ k, k < n - 1 ∧ itr G (2 ^ i) (k + 1) = itr G (2 ^ i) k := by
              refine Classical.byContradiction (fun no => ?_)
              have g := grow (n - 1) (fun k' hk' e => no ⟨k', hk', e⟩)
              have g2 := (pcn_all n (by omega) _ (R64 (n - 1)) (sub (n - 1))).2 (by omega)
              have := T' (n - 1) (by omega)
              rw [g2, ← Bool.not_eq_true] at this
              exact this ((tb_all n (by omega) j (by omega)).mpr (by omega))
            have least : ∀ m k, k ≤ m → itr G (2 ^ i) (k + 1) = itr G (2 ^ i) k → ∃ t, t ≤ k ∧ itr G (2 ^ i) (t + 1) = itr G (2 ^ i) t ∧ ∀ t', t' < t → itr G (2 ^ i) (t' + 1) ≠ itr G (2 ^ i) t' := by
              intro m
              induction m with
              | zero => intro k hk hb; exact ⟨k, Nat.le_refl _, hb, fun t' ht' => by omega⟩
              | succ m ih =>
                intro k hk hb
                by_cases y : ∃ t', t' < k ∧ itr G (2 ^ i) (t' + 1) = itr G (2 ^ i) t'
                · obtain ⟨t', y1, y2⟩ := y
                  obtain ⟨t, w1, w2, w3⟩ := ih t' (by omega) y2
                  exact ⟨t, by omega, w2, w3⟩
                · exact ⟨k, Nat.le_refl _, hb, fun t' ht' e => y ⟨t', ht', e⟩⟩
            obtain ⟨k, k1, k2⟩ := sd
            obtain ⟨t, t1, t2, t3⟩ := least k k (Nat.le_refl _) k2
            have l2 := xit_seq (f := fun s => f_X12_on_L63 173 (j : Int) h s.1 s.2) (fun k => (((itr G (2 ^ i) k : Nat) : Int), (k : Int))) t (.inl (-1)) (fun k hk => by
              unfold f_X12_on_L63
              dsimp only
              rw [bitj, T' k (by omega)]
              simp only [↓reduceIte, ↓bbind, ↓bxgf, ↓bxpf, ↓bxal, ↓bxas, ↓bxrc, ↓exrc, Int.reduceEq, Int.reduceLT, Int.reduceNeg, Int.reduceToNat, Int.toNat_natCast, Option.bind_some, if_true, if_false, reduceIte, Bool.false_eq_true]
              refine (bnd (rfs k (k : Int))).trans ?_
              have ne : ¬ ((itr G (2 ^ i) (k + 1) : Nat) : Int) = ((itr G (2 ^ i) k : Nat) : Int) := by
                intro e
                exact t3 k hk (by omega)
              rw [if_neg ne, w32_id (by omega) (by omega)]
              rfl) (by
              unfold f_X12_on_L63
              dsimp only
              rw [bitj, T' t (by omega)]
              simp only [↓reduceIte, ↓bbind, ↓bxgf, ↓bxpf, ↓bxal, ↓bxas, ↓bxrc, ↓exrc, Int.reduceEq, Int.reduceLT, Int.reduceNeg, Int.reduceToNat, Int.toNat_natCast, Option.bind_some, if_true, if_false, reduceIte, Bool.false_eq_true]
              refine (bnd (rfs t (t : Int))).trans ?_
              rw [if_pos (by rw [t2])]) (by omega)
            have l1' : xit (fun s => f_X11_on_L83 0 (j : Int) h s.1 s.2) xFU (((itr G (2 ^ i) 0 : Nat) : Int), 1) = some (.inr ()) := l1
            have l2' : xit (fun s => f_X12_on_L63 173 (j : Int) h s.1 s.2) xFU (((itr G (2 ^ i) 0 : Nat) : Int), 0) = some (.inl (-1)) := l2
            rw [l1', l2']
            exact ⟨_, rfl, rfl⟩
  · unfold f_X11_on f_X12_on
    rw [show xrc h 11 0 (f_X11_isHeld 0 v h) = some 0 by rw [s_X11_isHeld S C, if_neg q]; exact if_pos (ok_0 S), show xrc h 12 173 (f_X12_isHeldThere 173 v h) = some 0 by rw [s_X12_isHeldThere S C, if_neg q]; exact if_pos (ok_173 S)]
    exact ⟨-1, rfl, rfl⟩
