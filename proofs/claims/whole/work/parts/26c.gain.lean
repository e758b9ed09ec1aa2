/-! ===== gain, together, clear ===== -/
theorem bc_h (v : Int) (h h' : xa_H) : f_J6_bitCount_0f7a4 v h = f_J6_bitCount_0f7a4 v h' := rfl
theorem bt_h (v : Int) (h h' : xa_H) : f_X12_bits v h = f_X12_bits v h' := rfl
def h00 : xa_H := (0, 0, fun _ => (0, 0), fun _ _ => 0)
def pcn (b : Nat) : Nat := b % 2 + b / 2 % 2 + b / 4 % 2 + b / 8 % 2 + b / 16 % 2 + b / 32 % 2
theorem bc_64 : ∀ b, b < 64 → f_J6_bitCount_0f7a4 ((b : Nat) : Int) h00 = some ((pcn b : Nat) : Int) := by decide +kernel
theorem bt_64 : ∀ b, b < 64 → f_X12_bits ((b : Nat) : Int) h00 = some ((pcn b : Nat) : Int) := by decide +kernel
theorem s_bitCount {b : Nat} (hb : b < 64) (h : xa_H) : f_J6_bitCount_0f7a4 (b : Int) h = some ((pcn b : Nat) : Int) := (bc_h _ _ _).trans (bc_64 b hb)
theorem s_bits {b : Nat} (hb : b < 64) (h : xa_H) : f_X12_bits (b : Int) h = some ((pcn b : Nat) : Int) := (bt_h _ _ _).trans (bt_64 b hb)
/-- how two would gain -/
def gn (h : xa_H) (i j : Nat) : Prop := ¬ xand (xshr (xm h 207 (6 + i)) (j : Int)) 1 = 1 ∧ xm h 206 (36 + 6 * i + (xm h 212 (1 + 9 * i)).toNat) < xm h 206 (36 + 6 * i + (xm h 212 (1 + 9 * j)).toNat) ∧ xm h 206 (36 + 6 * j + (xm h 212 (1 + 9 * j)).toNat) < xm h 206 (36 + 6 * j + (xm h 212 (1 + 9 * i)).toNat)
theorem s_bothGain {h : xa_H} {s : Nat} (S : SH h) (C : Rc h s) (N : Rn h) {i j : Nat} (hi : (i : Int) < xm h 199 4) (hj : (j : Int) < xm h 199 4) : ∃ r, f_X11_bothGain 0 (i : Int) (j : Int) h = some r ∧ ((r = 1 ∧ gn h i j) ∨ (r = 0 ∧ ¬ gn h i j)) := by
  have hn := rc_n C
  have hm := rc_m C
  obtain ⟨a, ea, ha, -⟩ := rv_has' N hi hm.2
  obtain ⟨b, eb, hb, -⟩ := rv_has' N hj hm.2
  unfold f_X11_bothGain gn
  simp (disch := omega) only [↓reduceIte, ↓bbind, ↓bxgf, ↓bxpf, ↓bxal, ↓bxas, ↓bxrc, ↓exrc, Int.reduceEq, Int.reduceLT, Int.reduceNeg, Int.reduceToNat, Int.toNat_natCast, Option.bind_some, if_true, if_false, reduceIte, ok_0 S, ok_2 S, ok_4 S, ok_6 S, ok_20 S, ok_26 S, ok_148 S, ok_153 S, ok_158 S, ok_163 S, ia_1 S, ia_3 S, ia_5 S, ia_21 S, ia_22 S, ia_23 S, ia_24 S, ia_25 S, ia_27 S, ia_149 S, ia_150 S, ia_151 S, ia_152 S, ia_154 S, ia_155 S, ia_156 S, ia_157 S, ia_159 S, ia_160 S, ia_161 S, ia_162 S, ia_164 S, ia_165 S, ia_166 S, ia_167 S, ia_168 S, ia_169 S, ia_170 S, ia_171 S, ia_172 S, pt_0_0 S, pt_2_0 S, pt_2_1 S, pt_0_2 S, pt_4_0 S, pt_4_1 S, pt_0_3 S, pt_6_0 S, pt_6_1 S, pt_0_4 S, pt_20_1 S, pt_20_2 S, pt_20_3 S, pt_20_4 S, pt_20_5 S, pt_0_6 S, pt_26_0 S, pt_0_7 S, pt_148_0 S, pt_148_4 S, pt_148_5 S, pt_148_6 S, pt_0_8 S, pt_153_0 S, pt_153_4 S, pt_153_5 S, pt_153_6 S, pt_0_9 S, pt_158_4 S, pt_158_5 S, pt_158_6 S, pt_158_7 S, pt_0_10 S, pt_163_0 S, pt_163_1 S, pt_163_2 S, pt_163_3 S, pt_0_11 S, pt_0_12 S, pt_0_13 S, pt_0_14 S, pt_0_15 S, pt_0_17 S, rc_s C, rc_1 C, rc_2 C, rc_3 C, rc_4 C, rc_salt C, rc_sister C, rc_value C, rc_feud C, CS.ok (C.2.1), CS.okS (C.2.1), cs_ia1 (C.2.1), cs_ia2 (C.2.1), cs_ia3 (C.2.1), cs_ia4 (C.2.1), cs_ia5 (C.2.1), cs_ia6 (C.2.1), cs_p5 (C.2.1), cs_p6 (C.2.1), cs_p7 (C.2.1), cs_p8 (C.2.1), cs_p9 (C.2.1), cs_p10 (C.2.1), cs_p13 (C.2.1), rn_night N, rn_has N, rn_wants N, rn_purse N, rn_met N, rn_kc N, rn_kept N, ea, eb, s_X0_areFeuding C, s_X0_valueOf C]
  by_cases q1 : xand (xshr (xm h 207 (6 + i)) (j : Int)) 1 = 1
  · simp [q1]
  · simp only [q1, if_false, if_true, not_false_eq_true, true_and]
    by_cases q2 : xm h 206 (36 + 6 * i + a) < xm h 206 (36 + 6 * i + b)
    · by_cases q3 : xm h 206 (36 + 6 * j + b) < xm h 206 (36 + 6 * j + a)
      · simp [q2, q3]
      · simp [q2, q3]
    · simp [q2]
theorem s_isGain {h : xa_H} {s : Nat} (S : SH h) (C : Rc h s) (N : Rn h) {i j : Nat} (hi : (i : Int) < xm h 199 4) (hj : (j : Int) < xm h 199 4) : ∃ r, f_X12_isGain 173 (i : Int) (j : Int) h = some r ∧ ((r = 1 ∧ i ≠ j ∧ gn h i j) ∨ (r = 0 ∧ ¬ (i ≠ j ∧ gn h i j))) := by
  have hn := rc_n C
  have hm := rc_m C
  obtain ⟨a, ea, ha, -⟩ := rv_has' N hi hm.2
  obtain ⟨b, eb, hb, -⟩ := rv_has' N hj hm.2
  unfold f_X12_isGain gn
  by_cases q0 : (i : Int) = (j : Int)
  · rw [if_pos q0]
    exact ⟨0, rfl, Or.inr ⟨rfl, fun o => o.1 (by omega)⟩⟩
  · rw [if_neg q0]
    have q0' : i ≠ j := by omega
    simp (disch := omega) only [↓reduceIte, ↓bbind, ↓bxgf, ↓bxpf, ↓bxal, ↓bxas, ↓bxrc, ↓exrc, Int.reduceEq, Int.reduceLT, Int.reduceNeg, Int.reduceToNat, Int.toNat_natCast, Option.bind_some, if_true, if_false, reduceIte, ok_173 S, ea, eb, s_X12_areFeud S, s_X12_hadBy S, s_X12_valueOf S]
    by_cases q1 : xand (xshr (xm h 207 (6 + i)) (j : Int)) 1 = 1
    · simp [q1]
    · simp only [q1, if_false, if_true, not_false_eq_true, true_and, q0', ne_eq]
      by_cases q2 : xm h 206 (36 + 6 * i + a) < xm h 206 (36 + 6 * i + b)
      · by_cases q3 : xm h 206 (36 + 6 * j + b) < xm h 206 (36 + 6 * j + a)
        · simp [q2, q3]
        · simp [q2, q3]
      · simp [q2]
theorem l_gain {h : xa_H} {s : Nat} (S : SH h) (C : Rc h s) (N : Rn h) {i : Nat} (hi : (i : Int) < xm h 199 4) (w : Int) : ∃ b : Nat, b < 64 ∧ xit (fun s => f_X11_gain_L15 0 (i : Int) w h s.1 s.2) xFU (0, 0) = some (b : Int) ∧ xit (fun s => f_X12_gain_L25 173 (i : Int) w h s.1 s.2) xFU (0, 0) = some (b : Int) := by
  have hn := rc_n C
  have st : ∀ (b j : Nat), b < 64 → j ≤ (xm h 199 4).toNat → f_X11_gain_L15 0 (i : Int) w h (b : Int) (j : Int) = f_X12_gain_L25 173 (i : Int) w h (b : Int) (j : Int) ∧ ((j = (xm h 199 4).toNat ∧ f_X11_gain_L15 0 (i : Int) w h (b : Int) (j : Int) = some (.inr (b : Int))) ∨ (j < (xm h 199 4).toNat ∧ ∃ b' : Nat, b' < 64 ∧ f_X11_gain_L15 0 (i : Int) w h (b : Int) (j : Int) = some (.inl ((b' : Int), ((j + 1 : Nat) : Int))))) := by
    intro b j hb hj
    by_cases q : j < (xm h 199 4).toNat
    · have q' : (j : Int) < xm h 199 4 := by omega
      obtain ⟨r1, e1, g1⟩ := s_bothGain S C N hi q'
      obtain ⟨r2, e2, g2⟩ := s_isGain S C N hi q'
      have A : f_X11_gain_L15 0 (i : Int) w h (b : Int) (j : Int) = if (j : Int) = (i : Int) then some (.inl ((b : Int), ((j + 1 : Nat) : Int))) else if r1 = 0 then some (.inl ((b : Int), ((j + 1 : Nat) : Int))) else some (.inl (((b ||| 2 ^ j : Nat) : Int), ((j + 1 : Nat) : Int))) := by
        unfold f_X11_gain_L15
        simp (disch := omega) only [↓reduceIte, ↓bbind, ↓bxgf, ↓bxpf, ↓bxal, ↓bxas, ↓bxrc, ↓exrc, Int.reduceEq, Int.reduceLT, Int.reduceNeg, Int.reduceToNat, Int.toNat_natCast, Option.bind_some, if_true, if_false, reduceIte, ok_0 S, ok_2 S, ok_4 S, ok_6 S, ok_20 S, ok_26 S, ok_148 S, ok_153 S, ok_158 S, ok_163 S, ia_1 S, ia_3 S, ia_5 S, ia_21 S, ia_22 S, ia_23 S, ia_24 S, ia_25 S, ia_27 S, ia_149 S, ia_150 S, ia_151 S, ia_152 S, ia_154 S, ia_155 S, ia_156 S, ia_157 S, ia_159 S, ia_160 S, ia_161 S, ia_162 S, ia_164 S, ia_165 S, ia_166 S, ia_167 S, ia_168 S, ia_169 S, ia_170 S, ia_171 S, ia_172 S, pt_0_0 S, pt_2_0 S, pt_2_1 S, pt_0_2 S, pt_4_0 S, pt_4_1 S, pt_0_3 S, pt_6_0 S, pt_6_1 S, pt_0_4 S, pt_20_1 S, pt_20_2 S, pt_20_3 S, pt_20_4 S, pt_20_5 S, pt_0_6 S, pt_26_0 S, pt_0_7 S, pt_148_0 S, pt_148_4 S, pt_148_5 S, pt_148_6 S, pt_0_8 S, pt_153_0 S, pt_153_4 S, pt_153_5 S, pt_153_6 S, pt_0_9 S, pt_158_4 S, pt_158_5 S, pt_158_6 S, pt_158_7 S, pt_0_10 S, pt_163_0 S, pt_163_1 S, pt_163_2 S, pt_163_3 S, pt_0_11 S, pt_0_12 S, pt_0_13 S, pt_0_14 S, pt_0_15 S, pt_0_17 S, rc_s C, rc_1 C, rc_2 C, rc_3 C, rc_4 C, rc_salt C, rc_sister C, rc_value C, rc_feud C, CS.ok (C.2.1), CS.okS (C.2.1), cs_ia1 (C.2.1), cs_ia2 (C.2.1), cs_ia3 (C.2.1), cs_ia4 (C.2.1), cs_ia5 (C.2.1), cs_ia6 (C.2.1), cs_p5 (C.2.1), cs_p6 (C.2.1), cs_p7 (C.2.1), cs_p8 (C.2.1), cs_p9 (C.2.1), cs_p10 (C.2.1), cs_p13 (C.2.1), if_pos q', e1, w32_id, (b_set b hb j (by omega)).1]
        rfl
      have B : f_X12_gain_L25 173 (i : Int) w h (b : Int) (j : Int) = if r2 = 0 then some (.inl ((b : Int), ((j + 1 : Nat) : Int))) else some (.inl (((b ||| 2 ^ j : Nat) : Int), ((j + 1 : Nat) : Int))) := by
        unfold f_X12_gain_L25
        simp (disch := omega) only [↓reduceIte, ↓bbind, ↓bxgf, ↓bxpf, ↓bxal, ↓bxas, ↓bxrc, ↓exrc, Int.reduceEq, Int.reduceLT, Int.reduceNeg, Int.reduceToNat, Int.toNat_natCast, Option.bind_some, if_true, if_false, reduceIte, ok_173 S, s_X12_holderMany S, if_pos q', e2, w32_id, (b_set b hb j (by omega)).1]
        rfl
      rw [A, B]
      have hb' := (b_set b hb j (by omega)).2
      by_cases z : (j : Int) = (i : Int)
      · have : r2 = 0 := by
          rcases g2 with ⟨-, o, -⟩ | ⟨o, -⟩
          · omega
          · exact o
        rw [if_pos z, if_pos this]
        exact ⟨rfl, Or.inr ⟨q, b, hb, rfl⟩⟩
      · rw [if_neg z]
        rcases g1 with ⟨rfl, o1⟩ | ⟨rfl, o1⟩
        · have : r2 = 1 := by
            rcases g2 with ⟨o, -⟩ | ⟨-, o⟩
            · exact o
            · exact absurd ⟨by omega, o1⟩ o
          subst this
          exact ⟨rfl, Or.inr ⟨q, _, hb', rfl⟩⟩
        · have : r2 = 0 := by
            rcases g2 with ⟨-, -, o⟩ | ⟨o, -⟩
            · exact absurd o o1
            · exact o
          subst this
          exact ⟨rfl, Or.inr ⟨q, b, hb, rfl⟩⟩
    · have q' : ¬ (j : Int) < xm h 199 4 := by omega
      have A : f_X11_gain_L15 0 (i : Int) w h (b : Int) (j : Int) = some (.inr (b : Int)) := by
        unfold f_X11_gain_L15
        simp (disch := omega) only [↓reduceIte, ↓bbind, ↓bxgf, ↓bxpf, ↓bxal, ↓bxas, ↓bxrc, ↓exrc, Int.reduceEq, Int.reduceLT, Int.reduceNeg, Int.reduceToNat, Int.toNat_natCast, Option.bind_some, if_true, if_false, reduceIte, ok_0 S, ok_2 S, ok_4 S, ok_6 S, ok_20 S, ok_26 S, ok_148 S, ok_153 S, ok_158 S, ok_163 S, ia_1 S, ia_3 S, ia_5 S, ia_21 S, ia_22 S, ia_23 S, ia_24 S, ia_25 S, ia_27 S, ia_149 S, ia_150 S, ia_151 S, ia_152 S, ia_154 S, ia_155 S, ia_156 S, ia_157 S, ia_159 S, ia_160 S, ia_161 S, ia_162 S, ia_164 S, ia_165 S, ia_166 S, ia_167 S, ia_168 S, ia_169 S, ia_170 S, ia_171 S, ia_172 S, pt_0_0 S, pt_2_0 S, pt_2_1 S, pt_0_2 S, pt_4_0 S, pt_4_1 S, pt_0_3 S, pt_6_0 S, pt_6_1 S, pt_0_4 S, pt_20_1 S, pt_20_2 S, pt_20_3 S, pt_20_4 S, pt_20_5 S, pt_0_6 S, pt_26_0 S, pt_0_7 S, pt_148_0 S, pt_148_4 S, pt_148_5 S, pt_148_6 S, pt_0_8 S, pt_153_0 S, pt_153_4 S, pt_153_5 S, pt_153_6 S, pt_0_9 S, pt_158_4 S, pt_158_5 S, pt_158_6 S, pt_158_7 S, pt_0_10 S, pt_163_0 S, pt_163_1 S, pt_163_2 S, pt_163_3 S, pt_0_11 S, pt_0_12 S, pt_0_13 S, pt_0_14 S, pt_0_15 S, pt_0_17 S, rc_s C, rc_1 C, rc_2 C, rc_3 C, rc_4 C, rc_salt C, rc_sister C, rc_value C, rc_feud C, CS.ok (C.2.1), CS.okS (C.2.1), cs_ia1 (C.2.1), cs_ia2 (C.2.1), cs_ia3 (C.2.1), cs_ia4 (C.2.1), cs_ia5 (C.2.1), cs_ia6 (C.2.1), cs_p5 (C.2.1), cs_p6 (C.2.1), cs_p7 (C.2.1), cs_p8 (C.2.1), cs_p9 (C.2.1), cs_p10 (C.2.1), cs_p13 (C.2.1), if_neg q']
      have B : f_X12_gain_L25 173 (i : Int) w h (b : Int) (j : Int) = some (.inr (b : Int)) := by
        unfold f_X12_gain_L25
        simp (disch := omega) only [↓reduceIte, ↓bbind, ↓bxgf, ↓bxpf, ↓bxal, ↓bxas, ↓bxrc, ↓exrc, Int.reduceEq, Int.reduceLT, Int.reduceNeg, Int.reduceToNat, Int.toNat_natCast, Option.bind_some, if_true, if_false, reduceIte, ok_173 S, s_X12_holderMany S, if_neg q']
      exact ⟨A.trans B.symm, Or.inl ⟨by omega, A⟩⟩
  have I := fun (t : Int × Int) => ∃ b j : Nat, b < 64 ∧ j ≤ (xm h 199 4).toNat ∧ t = ((b : Int), (j : Int))
  obtain ⟨e, he, b, hb, rfl⟩ := xit_inv (f := fun s => f_X11_gain_L15 0 (i : Int) w h s.1 s.2) (fun t => ∃ b j : Nat, b < 64 ∧ j ≤ (xm h 199 4).toNat ∧ t = ((b : Int), (j : Int))) (fun t => 6 - t.2.toNat) (fun e => ∃ b : Nat, b < 64 ∧ e = (b : Int)) (0, 0) ⟨0, 0, by omega, by omega, rfl⟩ (by show 6 - (0 : Int).toNat < 1000000; omega) (by
    rintro t ⟨b, j, h1, h2, rfl⟩
    rcases (st b j h1 h2).2 with ⟨-, o⟩ | ⟨o1, b', o2, o3⟩
    · exact Or.inr ⟨_, o, b, h1, rfl⟩
    · refine Or.inl ⟨_, o3, ⟨b', j + 1, o2, by omega, rfl⟩, ?_⟩
      show 6 - ((j + 1 : Nat) : Int).toNat < 6 - (j : Int).toNat
      omega)
  refine ⟨b, hb, he, ?_⟩
  rw [← he]
  refine (xit_congr (fun t => ∃ b j : Nat, b < 64 ∧ j ≤ (xm h 199 4).toNat ∧ t = ((b : Int), (j : Int))) (fun t ht => ?_) xFU (0, 0) ⟨0, 0, by omega, by omega, rfl⟩).symm
  obtain ⟨b, j, h1, h2, rfl⟩ := ht
  refine ⟨(st b j h1 h2).1, fun s' hs => ?_⟩
  rcases (st b j h1 h2).2 with ⟨-, o⟩ | ⟨o1, b', o2, o3⟩
  · have := hs.symm.trans o
    simp at this
  · have := hs.symm.trans o3
    simp at this
    exact ⟨b', j + 1, o2, by omega, this⟩
theorem p_gain {h : xa_H} {s : Nat} (S : SH h) (C : Rc h s) (N : Rn h) (v w : Int) : ∃ r, f_X11_gain 0 v w h = some r ∧ f_X12_gain 173 v w h = some r := by
  have hn := rc_n C
  by_cases q : 0 ≤ v ∧ v < xm h 199 4
  · obtain ⟨i, rfl⟩ : ∃ i : Nat, v = (i : Int) := ⟨v.toNat, by omega⟩
    obtain ⟨b, hb, e1, e2⟩ := l_gain S C N q.2 w
    unfold f_X11_gain f_X12_gain
    simp (disch := omega) only [↓reduceIte, ↓bbind, ↓bxgf, ↓bxpf, ↓bxal, ↓bxas, ↓bxrc, ↓exrc, Int.reduceEq, Int.reduceLT, Int.reduceNeg, Int.reduceToNat, Int.toNat_natCast, Option.bind_some, if_true, if_false, reduceIte, ok_0 S, ok_173 S, s_X11_isHolder S C, s_X12_isHolder S C, if_pos q, s_X12_isIn, e1, e2, s_bitCount hb, s_bits hb]
    by_cases w0 : w = 0
    · simp [w0]
    · by_cases w1 : w = 1
      · simp [w1]
      · have : w < 0 ∨ 1 < w := by omega
        simp [w0, w1, this]
  · unfold f_X11_gain f_X12_gain
    simp (disch := omega) only [↓reduceIte, ↓bbind, ↓bxgf, ↓bxpf, ↓bxal, ↓bxas, ↓bxrc, ↓exrc, Int.reduceEq, Int.reduceLT, Int.reduceNeg, Int.reduceToNat, Int.toNat_natCast, Option.bind_some, if_true, if_false, reduceIte, ok_0 S, ok_173 S, s_X11_isHolder S C, s_X12_isHolder S C, if_neg q]
    exact ⟨_, rfl, rfl⟩
