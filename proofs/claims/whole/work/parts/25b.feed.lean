/-! ===== seed, feed ===== -/
theorem c_seed {h : xa_H} {s F1 F2 T2 T3 : Nat} (R : RR h s F1 F2 T2 T3) (n : Int) (hn : n < 2147483648) : CallOK h (f_X11_seed 0 n h) (f_X12_seed 173 n) := by
  have S := rr_S R
  by_cases q : n < 0
  · refine CallOK.same (h1 := xset h 172 5 (w32 (xm h 172 5 + 1))) (v := 0) ?_ ?_ ⟨s, F1, F2, T2, T3, rr_refuse R (w := 5) (by omega)⟩ rfl rfl
    · unfold f_X11_seed
      rw [if_pos q]
      simp (disch := omega) only [↓reduceIte, ↓bbind, ↓bxgf, ↓bxpf, ↓bxal, ↓bxas, ↓bxrc, ↓exrc, xbo, xok_xset, xia_xset, xln_xset, xm_xset, xok_xarr, xia_xarr, xln_xarr, xm_xarr, Option.bind_some, Int.reduceToNat, Nat.reduceEqDiff, Nat.reduceSub, Int.reduceLT, Int.reduceLE, Int.reduceEq, Int.reduceNeg, if_true, if_false, ite_true, ite_false, true_and, and_true, false_and, and_false, eq_self, reduceIte, Bool.false_eq_true, Nat.reduceBEq, reduceCtorEq, or_true, true_or, or_false, false_or, xel, Int.toNat_natCast, Int.toNat_add, Int.toNat_mul, ok_0 S, ok_2 S, ok_4 S, ok_6 S, ok_20 S, ok_26 S, ok_148 S, ok_153 S, ok_158 S, ok_163 S, ia_1 S, ia_3 S, ia_5 S, ia_21 S, ia_22 S, ia_23 S, ia_24 S, ia_25 S, ia_27 S, ia_149 S, ia_150 S, ia_151 S, ia_152 S, ia_154 S, ia_155 S, ia_156 S, ia_157 S, ia_159 S, ia_160 S, ia_161 S, ia_162 S, ia_164 S, ia_165 S, ia_166 S, ia_167 S, ia_168 S, ia_169 S, ia_170 S, ia_171 S, ia_172 S, pt_0_0 S, pt_2_0 S, pt_2_1 S, pt_0_2 S, pt_4_0 S, pt_4_1 S, pt_0_3 S, pt_6_0 S, pt_6_1 S, pt_0_4 S, pt_20_1 S, pt_20_2 S, pt_20_3 S, pt_20_4 S, pt_20_5 S, pt_0_6 S, pt_26_0 S, pt_0_7 S, pt_148_0 S, pt_148_4 S, pt_148_5 S, pt_148_6 S, pt_0_8 S, pt_153_0 S, pt_153_4 S, pt_153_5 S, pt_153_6 S, pt_0_9 S, pt_158_4 S, pt_158_5 S, pt_158_6 S, pt_158_7 S, pt_0_10 S, pt_163_0 S, pt_163_1 S, pt_163_2 S, pt_163_3 S, pt_0_11 S, pt_0_12 S, pt_0_13 S, pt_0_14 S, pt_0_15 S, pt_0_17 S, s_X11_refuse S]
    · unfold f_X12_seed
      rw [if_pos q]
      simp (disch := omega) only [↓reduceIte, ↓bbind, ↓bxgf, ↓bxpf, ↓bxal, ↓bxas, ↓bxrc, ↓exrc, xbo, xok_xset, xia_xset, xln_xset, xm_xset, xok_xarr, xia_xarr, xln_xarr, xm_xarr, Option.bind_some, Int.reduceToNat, Nat.reduceEqDiff, Nat.reduceSub, Int.reduceLT, Int.reduceLE, Int.reduceEq, Int.reduceNeg, if_true, if_false, ite_true, ite_false, true_and, and_true, false_and, and_false, eq_self, reduceIte, Bool.false_eq_true, Nat.reduceBEq, reduceCtorEq, or_true, true_or, or_false, false_or, xel, Int.toNat_natCast, Int.toNat_add, Int.toNat_mul, ok_173 S, ia_174 S, ia_175 S, ia_199 S, ia_200 S, ia_201 S, ia_202 S, ia_203 S, ia_204 S, ia_205 S, ia_206 S, ia_207 S, ia_208 S, ia_209 S, ia_210 S, ia_211 S, ia_212 S, ia_213 S, ia_214 S, ia_215 S, ia_216 S, ia_217 S, ia_218 S, ia_219 S, ia_220 S, ia_221 S, ia_222 S, ia_223 S, ia_224 S, ia_245 S, ia_246 S, ia_247 S, ia_248 S, pt_173_0 S, pt_173_9 S, pt_173_34 S, pt_173_35 S, pt_173_36 S, pt_173_37 S, pt_173_38 S, pt_173_39 S, pt_173_40 S, pt_173_41 S, pt_173_42 S, pt_173_43 S, pt_173_44 S, pt_173_45 S, pt_173_46 S, pt_173_50 S, pt_173_55 S, pt_173_58 S, pt_173_59 S, pt_173_63 S, pt_173_64 S, pt_173_66 S, pt_173_67 S, pt_173_68 S, pt_173_69 S, pt_173_71 S, pt_173_72 S, pt_173_73 S, pt_173_97 S, pt_173_99 S, pt_173_103 S, pt_173_107 S]
  · refine CallOK.same (h1 := xset h 0 18 n) (h2 := xset (xset h 0 18 n) 173 76 n) (v := 1) ?_ ?_ ⟨s, F1, F2, T2, T3, ?_⟩ rfl rfl
    · unfold f_X11_seed
      rw [if_neg q]
      simp (disch := omega) only [↓reduceIte, ↓bbind, ↓bxgf, ↓bxpf, ↓bxal, ↓bxas, ↓bxrc, ↓exrc, xbo, xok_xset, xia_xset, xln_xset, xm_xset, xok_xarr, xia_xarr, xln_xarr, xm_xarr, Option.bind_some, Int.reduceToNat, Nat.reduceEqDiff, Nat.reduceSub, Int.reduceLT, Int.reduceLE, Int.reduceEq, Int.reduceNeg, if_true, if_false, ite_true, ite_false, true_and, and_true, false_and, and_false, eq_self, reduceIte, Bool.false_eq_true, Nat.reduceBEq, reduceCtorEq, or_true, true_or, or_false, false_or, xel, Int.toNat_natCast, Int.toNat_add, Int.toNat_mul, ok_0 S, ok_2 S, ok_4 S, ok_6 S, ok_20 S, ok_26 S, ok_148 S, ok_153 S, ok_158 S, ok_163 S, ia_1 S, ia_3 S, ia_5 S, ia_21 S, ia_22 S, ia_23 S, ia_24 S, ia_25 S, ia_27 S, ia_149 S, ia_150 S, ia_151 S, ia_152 S, ia_154 S, ia_155 S, ia_156 S, ia_157 S, ia_159 S, ia_160 S, ia_161 S, ia_162 S, ia_164 S, ia_165 S, ia_166 S, ia_167 S, ia_168 S, ia_169 S, ia_170 S, ia_171 S, ia_172 S, pt_0_0 S, pt_2_0 S, pt_2_1 S, pt_0_2 S, pt_4_0 S, pt_4_1 S, pt_0_3 S, pt_6_0 S, pt_6_1 S, pt_0_4 S, pt_20_1 S, pt_20_2 S, pt_20_3 S, pt_20_4 S, pt_20_5 S, pt_0_6 S, pt_26_0 S, pt_0_7 S, pt_148_0 S, pt_148_4 S, pt_148_5 S, pt_148_6 S, pt_0_8 S, pt_153_0 S, pt_153_4 S, pt_153_5 S, pt_153_6 S, pt_0_9 S, pt_158_4 S, pt_158_5 S, pt_158_6 S, pt_158_7 S, pt_0_10 S, pt_163_0 S, pt_163_1 S, pt_163_2 S, pt_163_3 S, pt_0_11 S, pt_0_12 S, pt_0_13 S, pt_0_14 S, pt_0_15 S, pt_0_17 S]
    · unfold f_X12_seed
      rw [if_neg q]
      simp (disch := omega) only [↓reduceIte, ↓bbind, ↓bxgf, ↓bxpf, ↓bxal, ↓bxas, ↓bxrc, ↓exrc, xbo, xok_xset, xia_xset, xln_xset, xm_xset, xok_xarr, xia_xarr, xln_xarr, xm_xarr, Option.bind_some, Int.reduceToNat, Nat.reduceEqDiff, Nat.reduceSub, Int.reduceLT, Int.reduceLE, Int.reduceEq, Int.reduceNeg, if_true, if_false, ite_true, ite_false, true_and, and_true, false_and, and_false, eq_self, reduceIte, Bool.false_eq_true, Nat.reduceBEq, reduceCtorEq, or_true, true_or, or_false, false_or, xel, Int.toNat_natCast, Int.toNat_add, Int.toNat_mul, ok_173 S, ia_174 S, ia_175 S, ia_199 S, ia_200 S, ia_201 S, ia_202 S, ia_203 S, ia_204 S, ia_205 S, ia_206 S, ia_207 S, ia_208 S, ia_209 S, ia_210 S, ia_211 S, ia_212 S, ia_213 S, ia_214 S, ia_215 S, ia_216 S, ia_217 S, ia_218 S, ia_219 S, ia_220 S, ia_221 S, ia_222 S, ia_223 S, ia_224 S, ia_245 S, ia_246 S, ia_247 S, ia_248 S, pt_173_0 S, pt_173_9 S, pt_173_34 S, pt_173_35 S, pt_173_36 S, pt_173_37 S, pt_173_38 S, pt_173_39 S, pt_173_40 S, pt_173_41 S, pt_173_42 S, pt_173_43 S, pt_173_44 S, pt_173_45 S, pt_173_46 S, pt_173_50 S, pt_173_55 S, pt_173_58 S, pt_173_59 S, pt_173_63 S, pt_173_64 S, pt_173_66 S, pt_173_67 S, pt_173_68 S, pt_173_69 S, pt_173_71 S, pt_173_72 S, pt_173_73 S, pt_173_97 S, pt_173_99 S, pt_173_103 S, pt_173_107 S]
    · refine R.mvL ((S.set (by decide +kernel)).set (by decide +kernel)) (Nat.le_refl _) (fun _ _ => rfl) (by repeat (first | exact agr_refl _ _ | refine agr_set rfl ?_ | refine agr_arr (fun _ => rfl) ?_)) ((rr_t R).mv (by repeat (first | exact agr_refl _ _ | refine agr_set rfl ?_ | refine agr_arr (fun _ => rfl) ?_))) ((rr_r R).mv (by repeat (first | exact agr_refl _ _ | refine agr_set rfl ?_ | refine agr_arr (fun _ => rfl) ?_))) ((rr_f R).mv (by repeat (first | exact agr_refl _ _ | refine agr_set rfl ?_ | refine agr_arr (fun _ => rfl) ?_))) ((rr_n R).mv (by repeat (first | exact agr_refl _ _ | refine agr_set rfl ?_ | refine agr_arr (fun _ => rfl) ?_))) ((rr_h R).mv (by repeat (first | exact agr_refl _ _ | refine agr_set rfl ?_ | refine agr_arr (fun _ => rfl) ?_))) ((rr_j R).mv (by repeat (first | exact agr_refl _ _ | refine agr_set rfl ?_ | refine agr_arr (fun _ => rfl) ?_))) ((rr_i R).mv (by repeat (first | exact agr_refl _ _ | refine agr_set rfl ?_ | refine agr_arr (fun _ => rfl) ?_))) ?_ ((rr_2 R).mv (by repeat (first | exact agr_refl _ _ | refine agr_set rfl ?_ | refine agr_arr (fun _ => rfl) ?_)))
      refine ⟨?_, ?_, ?_⟩ <;> simp [xm_xset] <;> omega
theorem s_putNumber {h : xa_H} (S : SH h) (v : Int) {t : Nat} (ht : xm h 0 1 = (t : Int)) (h4 : t + 4 ≤ 1600) : f_X11_putNumber 0 v h = some (xset (xarr h 1 (fun k => if t ≤ k ∧ k < t + 4 then xi2b (xi2b (xshr v (24 - 8 * ((k : Int) - t)))) else xm h 1 k)) 0 1 ((t + 4 : Nat) : Int)) := by
  have hl := xit_seq (f := fun s => f_X11_putNumber_L3 0 v s.1 s.2) (fun i => ((24 : Int) - 8 * (i : Int), xset (xarr h 1 (fun k => if t ≤ k ∧ k < t + i then xi2b (xi2b (xshr v (24 - 8 * ((k : Int) - t)))) else xm h 1 k)) 0 1 ((t + i : Nat) : Int))) 4 (xset (xarr h 1 (fun k => if t ≤ k ∧ k < t + 4 then xi2b (xi2b (xshr v (24 - 8 * ((k : Int) - t)))) else xm h 1 k)) 0 1 ((t + 4 : Nat) : Int)) (fun i hi => by
    unfold f_X11_putNumber_L3
    have e0 : ¬((24 : Int) - 8 * (i : Int) < 0) := by omega
    have e1 : ((t + i : Nat) : Int) < 1600 := by omega
    simp (disch := omega) only [↓reduceIte, ↓bbind, ↓bxgf, ↓bxpf, ↓bxal, ↓bxas, ↓bxrc, ↓exrc, xbo, xok_xset, xia_xset, xln_xset, xm_xset, xok_xarr, xia_xarr, xln_xarr, xm_xarr, Option.bind_some, Int.reduceToNat, Nat.reduceEqDiff, Nat.reduceSub, Int.reduceLT, Int.reduceLE, Int.reduceEq, Int.reduceNeg, if_true, if_false, ite_true, ite_false, true_and, and_true, false_and, and_false, eq_self, reduceIte, Bool.false_eq_true, Nat.reduceBEq, reduceCtorEq, or_true, true_or, or_false, false_or, xel, Int.toNat_natCast, Int.toNat_add, Int.toNat_mul, ok_0 S, ok_2 S, ok_4 S, ok_6 S, ok_20 S, ok_26 S, ok_148 S, ok_153 S, ok_158 S, ok_163 S, ia_1 S, ia_3 S, ia_5 S, ia_21 S, ia_22 S, ia_23 S, ia_24 S, ia_25 S, ia_27 S, ia_149 S, ia_150 S, ia_151 S, ia_152 S, ia_154 S, ia_155 S, ia_156 S, ia_157 S, ia_159 S, ia_160 S, ia_161 S, ia_162 S, ia_164 S, ia_165 S, ia_166 S, ia_167 S, ia_168 S, ia_169 S, ia_170 S, ia_171 S, ia_172 S, pt_0_0 S, pt_2_0 S, pt_2_1 S, pt_0_2 S, pt_4_0 S, pt_4_1 S, pt_0_3 S, pt_6_0 S, pt_6_1 S, pt_0_4 S, pt_20_1 S, pt_20_2 S, pt_20_3 S, pt_20_4 S, pt_20_5 S, pt_0_6 S, pt_26_0 S, pt_0_7 S, pt_148_0 S, pt_148_4 S, pt_148_5 S, pt_148_6 S, pt_0_8 S, pt_153_0 S, pt_153_4 S, pt_153_5 S, pt_153_6 S, pt_0_9 S, pt_158_4 S, pt_158_5 S, pt_158_6 S, pt_158_7 S, pt_0_10 S, pt_163_0 S, pt_163_1 S, pt_163_2 S, pt_163_3 S, pt_0_11 S, pt_0_12 S, pt_0_13 S, pt_0_14 S, pt_0_15 S, pt_0_17 S, w32_id, if_neg e0, if_pos e1]
    congr 2
    · apply Prod.ext
      · show (24 : Int) - 8 * (i : Int) + -8 = 24 - 8 * ((i + 1 : Nat) : Int)
        omega
      · dsimp only
        refine xheq rfl rfl rfl (fun a k => ?_)
        simp only [xm_xset, xm_xarr]
        by_cases p : a = 0 ∧ k = 1
        · simp only [p, and_self, if_true]
          omega
        · simp only [if_neg p]
          by_cases p1 : a = 1
          · subst p1
            by_cases p2 : k = t + i
            · subst p2
              rw [if_pos ⟨rfl, rfl⟩, if_pos rfl, if_pos (by omega)]
              rw [show (24 : Int) - 8 * (i : Int) = 24 - 8 * (((t + i : Nat) : Int) - t) by omega]
            · rw [if_neg (by omega), if_pos rfl, if_pos rfl]
              by_cases p3 : t ≤ k ∧ k < t + i
              · rw [if_pos p3, if_pos (by omega)]
              · rw [if_neg p3, if_neg (by omega)]
          · rw [if_neg (by omega), if_neg p1, if_neg p1]) (by
    unfold f_X11_putNumber_L3
    rw [if_pos (by omega)]) (by omega)
  unfold f_X11_putNumber
  have hz : (24, h) = ((24 : Int) - 8 * ((0 : Nat) : Int), xset (xarr h 1 (fun k => if t ≤ k ∧ k < t + 0 then xi2b (xi2b (xshr v (24 - 8 * ((k : Int) - t)))) else xm h 1 k)) 0 1 ((t + 0 : Nat) : Int)) := by
    apply Prod.ext
    · rfl
    · dsimp only
      refine xheq rfl rfl rfl (fun a k => ?_)
      simp only [xm_xset, xm_xarr]
      by_cases p : a = 0 ∧ k = 1
      · rw [if_pos p, p.1, p.2, ht]; rfl
      · rw [if_neg p]
        by_cases p1 : a = 1
        · subst p1
          rw [if_pos rfl, if_neg (by omega)]
        · rw [if_neg p1]
  rw [hz, hl]
  rfl
def fw (a b c d e : Int) (j : Nat) : Int := if j < 4 then a else if j < 8 then b else if j < 12 then c else if j < 16 then d else e
theorem s_feedC {h : xa_H} (S : SH h) (a b c d e : Int) {t : Nat} (ht : xm h 0 1 = (t : Int)) (h4 : t + 20 ≤ 1600) : f_X11_feed 0 a b c d e h = some (((t + 20 : Nat) : Int), xset (xarr h 1 (fun k => if t ≤ k ∧ k < t + 20 then xi2b (xi2b (xshr (fw a b c d e (k - t)) (24 - 8 * (((k - t) % 4 : Nat) : Int)))) else xm h 1 k)) 0 1 ((t + 20 : Nat) : Int)) := by
  have step : ∀ (h' : xa_H), SH h' → ∀ (v : Int) (u : Nat), xm h' 0 1 = (u : Int) → u + 4 ≤ 1600 → ∃ h2, f_X11_putNumber 0 v h' = some h2 ∧ SH h2 ∧ xm h2 0 1 = ((u + 4 : Nat) : Int) ∧ xn h2 = xn h' ∧ xz h2 = xz h' ∧ xk h2 = xk h' ∧ ∀ a k, xm h2 a k = if a = 0 ∧ k = 1 then ((u + 4 : Nat) : Int) else if a = 1 ∧ u ≤ k ∧ k < u + 4 then xi2b (xi2b (xshr v (24 - 8 * ((k : Int) - u)))) else xm h' a k := by
    intro h' S' v u hu hb
    refine ⟨_, s_putNumber S' v hu hb, (S'.arr (by decide +kernel)).set (by decide +kernel), by simp [xm_xset], rfl, rfl, rfl, fun a k => ?_⟩
    simp only [xm_xset, xm_xarr]
    by_cases p : a = 0 ∧ k = 1
    · rw [if_pos p, if_pos p]
    · rw [if_neg p, if_neg p]
      by_cases q : a = 1
      · subst q
        rw [if_pos rfl]
        by_cases r : u ≤ k ∧ k < u + 4
        · rw [if_pos r, if_pos ⟨rfl, r⟩]
        · rw [if_neg r, if_neg (fun x => r x.2)]
      · rw [if_neg q, if_neg (fun x => q x.1)]
  obtain ⟨h1, e1, S1, u1, n1, z1, k1, m1⟩ := step h S a t ht (by omega)
  obtain ⟨h2, e2, S2, u2, n2, z2, k2, m2⟩ := step h1 S1 b (t + 4) u1 (by omega)
  obtain ⟨h3, e3, S3, u3, n3, z3, k3, m3⟩ := step h2 S2 c (t + 4 + 4) u2 (by omega)
  obtain ⟨h4', e4, S4, u4, n4, z4, k4, m4⟩ := step h3 S3 d (t + 4 + 4 + 4) u3 (by omega)
  obtain ⟨h5, e5, S5, u5, n5, z5, k5, m5⟩ := step h4' S4 e (t + 4 + 4 + 4 + 4) u4 (by omega)
  have ef : h5 = xset (xarr h 1 (fun k => if t ≤ k ∧ k < t + 20 then xi2b (xi2b (xshr (fw a b c d e (k - t)) (24 - 8 * (((k - t) % 4 : Nat) : Int)))) else xm h 1 k)) 0 1 ((t + 20 : Nat) : Int) := by
    refine xheq (by rw [n5, n4, n3, n2, n1]; rfl) (by rw [z5, z4, z3, z2, z1]; rfl) (by rw [k5, k4, k3, k2, k1]; rfl) (fun x k => ?_)
    rw [m5, m4, m3, m2, m1]
    simp only [xm_xset, xm_xarr]
    by_cases p : x = 0 ∧ k = 1
    · simp only [if_pos p]
    · simp only [if_neg p]
      by_cases q : x = 1
      · subst q
        simp only [true_and, if_true]
        by_cases r : t ≤ k ∧ k < t + 20
        · rw [if_pos r]
          unfold fw
          obtain ⟨j, rfl⟩ : ∃ j, k = t + j := ⟨k - t, by omega⟩
          rw [Nat.add_sub_cancel_left]
          by_cases g5 : 16 ≤ j
          · rw [if_pos (by omega), if_neg (by omega), if_neg (by omega), if_neg (by omega), if_neg (by omega)]
            rw [show (24 : Int) - 8 * (((t + j : Nat) : Int) - ((t + 4 + 4 + 4 + 4 : Nat) : Int)) = 24 - 8 * ((j % 4 : Nat) : Int) by omega]
          · rw [if_neg (by omega)]
            by_cases g4 : 12 ≤ j
            · rw [if_pos (by omega), if_neg (by omega), if_neg (by omega), if_neg (by omega), if_pos (by omega)]
              rw [show (24 : Int) - 8 * (((t + j : Nat) : Int) - ((t + 4 + 4 + 4 : Nat) : Int)) = 24 - 8 * ((j % 4 : Nat) : Int) by omega]
            · rw [if_neg (by omega)]
              by_cases g3 : 8 ≤ j
              · rw [if_pos (by omega), if_neg (by omega), if_neg (by omega), if_pos (by omega)]
                rw [show (24 : Int) - 8 * (((t + j : Nat) : Int) - ((t + 4 + 4 : Nat) : Int)) = 24 - 8 * ((j % 4 : Nat) : Int) by omega]
              · rw [if_neg (by omega)]
                by_cases g2 : 4 ≤ j
                · rw [if_pos (by omega), if_neg (by omega), if_pos (by omega)]
                  rw [show (24 : Int) - 8 * (((t + j : Nat) : Int) - ((t + 4 : Nat) : Int)) = 24 - 8 * ((j % 4 : Nat) : Int) by omega]
                · rw [if_neg (by omega), if_pos (by omega), if_pos (by omega)]
                  rw [show (24 : Int) - 8 * (((t + j : Nat) : Int) - (t : Int)) = 24 - 8 * ((j % 4 : Nat) : Int) by omega]
        · rw [if_neg r, if_neg (by omega), if_neg (by omega), if_neg (by omega), if_neg (by omega), if_neg (by omega)]
      · simp only [q, false_and, if_false]
  unfold f_X11_feed
  rw [ef] at e5
  have e0 : ¬ (1600 : Int) < (t : Int) + 20 := by omega
  simp (disch := omega) only [↓reduceIte, ↓bbind, ↓bxgf, ↓bxpf, ↓bxal, ↓bxas, ↓bxrc, ↓exrc, xbo, xok_xset, xia_xset, xln_xset, xm_xset, xok_xarr, xia_xarr, xln_xarr, xm_xarr, Option.bind_some, Int.reduceToNat, Nat.reduceEqDiff, Nat.reduceSub, Int.reduceLT, Int.reduceLE, Int.reduceEq, Int.reduceNeg, if_true, if_false, ite_true, ite_false, true_and, and_true, false_and, and_false, eq_self, reduceIte, Bool.false_eq_true, Nat.reduceBEq, reduceCtorEq, or_true, true_or, or_false, false_or, xel, Int.toNat_natCast, Int.toNat_add, Int.toNat_mul, ok_0 S, ok_0 S1, ok_0 S2, ok_0 S3, ok_0 S4, ht, w32_id, if_neg e0, e1, e2, e3, e4, e5]
theorem s_feedM {h : xa_H} (S : SH h) (a b c d e : Int) {t : Nat} (ht : xm h 173 1 = (t : Int)) (h4 : t + 20 ≤ 1600) : f_X12_feed 173 a b c d e h = some (((t + 20 : Nat) : Int), xset (xarr h 174 (fun k => if t ≤ k ∧ k < t + 20 then xand (xshr (fw a b c d e (k - t)) (24 - 8 * (((k - t) % 4 : Nat) : Int))) 255 else xm h 174 k)) 173 1 ((t + 20 : Nat) : Int)) := by
  have hl := xit_seq (f := fun s => f_X12_feed_L28 173 a b c d e s.1 s.2) (fun i => ((i : Int), xset (xarr h 174 (fun k => if t ≤ k ∧ k < t + i then xand (xshr (fw a b c d e (k - t)) (24 - 8 * (((k - t) % 4 : Nat) : Int))) 255 else xm h 174 k)) 173 1 ((t + i : Nat) : Int))) 20 (xset (xarr h 174 (fun k => if t ≤ k ∧ k < t + 20 then xand (xshr (fw a b c d e (k - t)) (24 - 8 * (((k - t) % 4 : Nat) : Int))) 255 else xm h 174 k)) 173 1 ((t + 20 : Nat) : Int)) (fun i hi => by
    have hj : ∀ v, v = fw a b c d e i → f_X12_feed_J81L28 173 a b c d e (i : Int) v (xset (xarr h 174 (fun k => if t ≤ k ∧ k < t + i then xand (xshr (fw a b c d e (k - t)) (24 - 8 * (((k - t) % 4 : Nat) : Int))) 255 else xm h 174 k)) 173 1 ((t + i : Nat) : Int)) = some (Sum.inl (((i + 1 : Nat) : Int), xset (xarr h 174 (fun k => if t ≤ k ∧ k < t + (i + 1) then xand (xshr (fw a b c d e (k - t)) (24 - 8 * (((k - t) % 4 : Nat) : Int))) 255 else xm h 174 k)) 173 1 ((t + (i + 1) : Nat) : Int))) := by
      intro v hv
      unfold f_X12_feed_J81L28
      have es : w32 (8 * w32 (3 - Int.tmod (i : Int) 4)) = 24 - 8 * ((i % 4 : Nat) : Int) := by
        rw [Int.tmod_eq_emod_of_nonneg (by omega), w32_id (z := 3 - (i : Int) % 4) (by omega) (by omega), w32_id (by omega) (by omega)]
        omega
      rw [es]
      simp (disch := omega) only [↓reduceIte, ↓bbind, ↓bxgf, ↓bxpf, ↓bxal, ↓bxas, ↓bxrc, ↓exrc, xbo, xok_xset, xia_xset, xln_xset, xm_xset, xok_xarr, xia_xarr, xln_xarr, xm_xarr, Option.bind_some, Int.reduceToNat, Nat.reduceEqDiff, Nat.reduceSub, Int.reduceLT, Int.reduceLE, Int.reduceEq, Int.reduceNeg, if_true, if_false, ite_true, ite_false, true_and, and_true, false_and, and_false, eq_self, reduceIte, Bool.false_eq_true, Nat.reduceBEq, reduceCtorEq, or_true, true_or, or_false, false_or, xel, Int.toNat_natCast, Int.toNat_add, Int.toNat_mul, ok_173 S, pt_173_0 S, ia_174 S, w32_id]
      congr 2
      apply Prod.ext
      · show (i : Int) + 1 = ((i + 1 : Nat) : Int)
        omega
      · dsimp only
        refine xheq rfl rfl rfl (fun x k => ?_)
        simp only [xm_xset, xm_xarr]
        by_cases p : x = 173 ∧ k = 1
        · simp only [p, and_self, if_true]
          omega
        · simp only [if_neg p]
          by_cases p1 : x = 174
          · subst p1
            by_cases p2 : k = t + i
            · subst p2
              rw [if_pos ⟨rfl, rfl⟩, if_pos rfl, if_pos (by omega), hv, Nat.add_sub_cancel_left]
            · rw [if_neg (by omega), if_pos rfl, if_pos rfl]
              by_cases p3 : t ≤ k ∧ k < t + i
              · rw [if_pos p3, if_pos (by omega)]
              · rw [if_neg p3, if_neg (by omega)]
          · rw [if_neg (by omega), if_neg p1, if_neg p1]
    unfold f_X12_feed_L28
    dsimp only
    rw [if_pos (by omega)]
    by_cases g1 : i < 4
    · rw [if_pos (by omega)]; exact hj a (by unfold fw; rw [if_pos g1])
    · rw [if_neg (by omega)]
      by_cases g2 : i < 8
      · rw [if_pos (by omega)]; exact hj b (by unfold fw; rw [if_neg g1, if_pos g2])
      · rw [if_neg (by omega)]
        by_cases g3 : i < 12
        · rw [if_pos (by omega)]; exact hj c (by unfold fw; rw [if_neg g1, if_neg g2, if_pos g3])
        · rw [if_neg (by omega)]
          by_cases g4 : i < 16
          · rw [if_pos (by omega)]; exact hj d (by unfold fw; rw [if_neg g1, if_neg g2, if_neg g3, if_pos g4])
          · rw [if_neg (by omega)]; exact hj e (by unfold fw; rw [if_neg g1, if_neg g2, if_neg g3, if_neg g4])) (by
    unfold f_X12_feed_L28
    rw [if_neg (by omega)]) (by omega)
  have hz : ((0 : Int), h) = (((0 : Nat) : Int), xset (xarr h 174 (fun k => if t ≤ k ∧ k < t + 0 then xand (xshr (fw a b c d e (k - t)) (24 - 8 * (((k - t) % 4 : Nat) : Int))) 255 else xm h 174 k)) 173 1 ((t + 0 : Nat) : Int)) := by
    apply Prod.ext
    · rfl
    · dsimp only
      refine xheq rfl rfl rfl (fun x k => ?_)
      simp only [xm_xset, xm_xarr]
      by_cases p : x = 173 ∧ k = 1
      · rw [if_pos p, p.1, p.2, ht]; rfl
      · rw [if_neg p]
        by_cases p1 : x = 174
        · subst p1
          rw [if_pos rfl, if_neg (by omega)]
        · rw [if_neg p1]
  unfold f_X12_feed
  have e0 : ¬ (1600 : Int) < (t : Int) + 20 := by omega
  rw [hz, hl]
  simp (disch := omega) only [↓reduceIte, ↓bbind, ↓bxgf, ↓bxpf, ↓bxal, ↓bxas, ↓bxrc, ↓exrc, xbo, xok_xset, xia_xset, xln_xset, xm_xset, xok_xarr, xia_xarr, xln_xarr, xm_xarr, Option.bind_some, Int.reduceToNat, Nat.reduceEqDiff, Nat.reduceSub, Int.reduceLT, Int.reduceLE, Int.reduceEq, Int.reduceNeg, if_true, if_false, ite_true, ite_false, true_and, and_true, false_and, and_false, eq_self, reduceIte, Bool.false_eq_true, Nat.reduceBEq, reduceCtorEq, or_true, true_or, or_false, false_or, xel, Int.toNat_natCast, Int.toNat_add, Int.toNat_mul, ok_173 S, ht, w32_id, if_neg e0]
theorem c_feed {h : xa_H} {s F1 F2 T2 T3 : Nat} (R : RR h s F1 F2 T2 T3) (a b c d e : Int) : CallOK h (f_X11_feed 0 a b c d e h) (f_X12_feed 173 a b c d e) := by
  have S := rr_S R
  obtain ⟨t1, t2, t3, t4⟩ := rr_t R
  obtain ⟨t, ht⟩ : ∃ t : Nat, xm h 173 1 = (t : Int) := ⟨(xm h 173 1).toNat, by omega⟩
  have htc : xm h 0 1 = (t : Int) := by rw [t2, ht]
  by_cases q : 1600 < t + 20
  · have q' : (1600 : Int) < (t : Int) + 20 := by omega
    refine CallOK.same (h1 := xset h 172 0 (w32 (xm h 172 0 + 1))) (v := -1) ?_ ?_ ⟨s, F1, F2, T2, T3, rr_refuse R (w := 0) (by omega)⟩ rfl rfl
    · unfold f_X11_feed
      simp (disch := omega) only [↓reduceIte, ↓bbind, ↓bxgf, ↓bxpf, ↓bxal, ↓bxas, ↓bxrc, ↓exrc, xbo, xok_xset, xia_xset, xln_xset, xm_xset, xok_xarr, xia_xarr, xln_xarr, xm_xarr, Option.bind_some, Int.reduceToNat, Nat.reduceEqDiff, Nat.reduceSub, Int.reduceLT, Int.reduceLE, Int.reduceEq, Int.reduceNeg, if_true, if_false, ite_true, ite_false, true_and, and_true, false_and, and_false, eq_self, reduceIte, Bool.false_eq_true, Nat.reduceBEq, reduceCtorEq, or_true, true_or, or_false, false_or, xel, Int.toNat_natCast, Int.toNat_add, Int.toNat_mul, ok_0 S, htc, w32_id, if_pos q', s_X11_refuse S]
    · unfold f_X12_feed
      simp (disch := omega) only [↓reduceIte, ↓bbind, ↓bxgf, ↓bxpf, ↓bxal, ↓bxas, ↓bxrc, ↓exrc, xbo, xok_xset, xia_xset, xln_xset, xm_xset, xok_xarr, xia_xarr, xln_xarr, xm_xarr, Option.bind_some, Int.reduceToNat, Nat.reduceEqDiff, Nat.reduceSub, Int.reduceLT, Int.reduceLE, Int.reduceEq, Int.reduceNeg, if_true, if_false, ite_true, ite_false, true_and, and_true, false_and, and_false, eq_self, reduceIte, Bool.false_eq_true, Nat.reduceBEq, reduceCtorEq, or_true, true_or, or_false, false_or, xel, Int.toNat_natCast, Int.toNat_add, Int.toNat_mul, ok_173 S, ia_174 S, ia_175 S, ia_199 S, ia_200 S, ia_201 S, ia_202 S, ia_203 S, ia_204 S, ia_205 S, ia_206 S, ia_207 S, ia_208 S, ia_209 S, ia_210 S, ia_211 S, ia_212 S, ia_213 S, ia_214 S, ia_215 S, ia_216 S, ia_217 S, ia_218 S, ia_219 S, ia_220 S, ia_221 S, ia_222 S, ia_223 S, ia_224 S, ia_245 S, ia_246 S, ia_247 S, ia_248 S, pt_173_0 S, pt_173_9 S, pt_173_34 S, pt_173_35 S, pt_173_36 S, pt_173_37 S, pt_173_38 S, pt_173_39 S, pt_173_40 S, pt_173_41 S, pt_173_42 S, pt_173_43 S, pt_173_44 S, pt_173_45 S, pt_173_46 S, pt_173_50 S, pt_173_55 S, pt_173_58 S, pt_173_59 S, pt_173_63 S, pt_173_64 S, pt_173_66 S, pt_173_67 S, pt_173_68 S, pt_173_69 S, pt_173_71 S, pt_173_72 S, pt_173_73 S, pt_173_97 S, pt_173_99 S, pt_173_103 S, pt_173_107 S, ht, w32_id, if_pos q']
  · refine CallOK.same (s_feedC S a b c d e htc (by omega)) (s_feedM ((S.arr (by decide +kernel)).set (by decide +kernel)) a b c d e (t := t) (by simpa [xm_xset, xm_xarr] using ht) (by omega)) ⟨s, F1, F2, T2, T3, ?_⟩ rfl rfl
    refine R.mvL ((((S.arr (by decide +kernel)).set (by decide +kernel)).arr (by decide +kernel)).set (by decide +kernel)) (Nat.le_refl _) (fun _ _ => rfl) (by repeat (first | exact agr_refl _ _ | refine agr_set rfl ?_ | refine agr_arr (fun _ => rfl) ?_)) ?_ ((rr_r R).mv (by repeat (first | exact agr_refl _ _ | refine agr_set rfl ?_ | refine agr_arr (fun _ => rfl) ?_))) ((rr_f R).mv (by repeat (first | exact agr_refl _ _ | refine agr_set rfl ?_ | refine agr_arr (fun _ => rfl) ?_))) ((rr_n R).mv (by repeat (first | exact agr_refl _ _ | refine agr_set rfl ?_ | refine agr_arr (fun _ => rfl) ?_))) ((rr_h R).mv (by repeat (first | exact agr_refl _ _ | refine agr_set rfl ?_ | refine agr_arr (fun _ => rfl) ?_))) ((rr_j R).mv (by repeat (first | exact agr_refl _ _ | refine agr_set rfl ?_ | refine agr_arr (fun _ => rfl) ?_))) ((rr_i R).mv (by repeat (first | exact agr_refl _ _ | refine agr_set rfl ?_ | refine agr_arr (fun _ => rfl) ?_))) ((rr_s R).mv (by repeat (first | exact agr_refl _ _ | refine agr_set rfl ?_ | refine agr_arr (fun _ => rfl) ?_))) ((rr_2 R).mv (by repeat (first | exact agr_refl _ _ | refine agr_set rfl ?_ | refine agr_arr (fun _ => rfl) ?_)))
    refine ⟨fun k hk => ?_, ?_, ?_, ?_⟩
    · simp [xm_xset, xm_xarr]
      by_cases g : t ≤ k ∧ k < t + 20
      · simp only [g, and_self, if_true]
        have := x_i2b (xshr (fw a b c d e (k - t)) (24 - 8 * (((k - t) % 4 : Nat) : Int)))
        refine ⟨this.2.1, this.2.2, ?_⟩
        exact this.1
      · simp only [if_neg g]
        exact t1 k hk
    · simp [xm_xset, xm_xarr]
    · simp [xm_xset, xm_xarr]; omega
    · simp [xm_xset, xm_xarr]; omega
