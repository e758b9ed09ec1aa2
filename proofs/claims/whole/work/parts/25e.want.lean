/-! ===== want, undo ===== -/
theorem RSt2.cp {h g h2 g2 : xa_H} {sa ra ro sb rb rp : Nat} (R : RSt2 h g sa ra ro) (kc : xm g ra (ro + 55) ≤ 30) (e0 : xm h2 sb 0 = xm h sa 0 ∧ xm h2 sb 6 = xm h sa 6) (e1 : ∀ j k, 1 ≤ j → j ≤ 5 → k < slen j → xm h2 (sb + j) k = xm h (sa + j) k) (e2 : ∀ k, k < 176 → xm g2 rb (rp + k) = xm g ra (ro + k)) : RSt2 h2 g2 sb rb rp := by
  obtain ⟨h1, h2', h3, h4, h5, h6, h7⟩ := R
  have z := e2 0 (by omega)
  simp only [Nat.add_zero] at z
  refine ⟨by rw [e0.1, z]; exact h1, fun i hi => ?_, fun i hi => ?_, fun i hi => ?_, fun i j hi hj => ?_, by rw [e0.2, e2 55 (by omega)]; exact h6, ?_⟩
  · rw [e1 1 i (by omega) (by omega) (by unfold slen; simp; omega), e2 _ (by omega)]; exact h2' i hi
  · rw [e1 2 i (by omega) (by omega) (by unfold slen; simp; omega), e2 _ (by omega)]; exact h3 i hi
  · rw [e1 3 i (by omega) (by omega) (by unfold slen; simp; omega), e2 _ (by omega)]; exact h4 i hi
  · rw [e1 4 _ (by omega) (by omega) (by unfold slen; simp; omega), e2 _ (by omega)]; exact h5 i j hi hj
  · rw [e2 55 (by omega)]
    intro k hk
    rw [e1 5 k (by omega) (by omega) (by unfold slen; simp; omega), e2 _ (by omega), e2 _ (by omega), e2 _ (by omega), e2 _ (by omega)]
    exact h7 k hk
theorem VS.cp {g g2 : xa_H} {ra ro rb rp : Nat} {n m : Int} (R : VS g ra ro n m) (hn : n ≤ 6) (e2 : ∀ k, k < 176 → xm g2 rb (rp + k) = xm g ra (ro + k)) : VS g2 rb rp n m := by
  have z := e2 0 (by omega)
  simp only [Nat.add_zero] at z
  obtain ⟨h1, h2, h3, h4, h5, h6, h7, h8⟩ := R
  refine ⟨by rw [z]; exact h1, fun i hi => ?_, fun i hi => ?_, fun i hi => ?_, fun i j hi hj => ?_, fun i j hi hj => ?_, by rw [e2 55 (by omega)]; exact h7, ?_⟩
  · rw [e2 _ (by omega)]; exact h2 i hi
  · rw [e2 _ (by omega)]; exact h3 i hi
  · rw [e2 _ (by omega)]; exact h4 i hi
  · rw [e2 _ (by omega)]; exact h5 i j hi hj
  · rw [e2 _ (by omega), e2 _ (by omega)]; exact h6 i j hi hj
  · rw [e2 55 (by omega)]
    intro k hk
    rw [e2 _ (by omega), e2 _ (by omega), e2 _ (by omega), e2 _ (by omega)]
    exact h8 k hk
/-- behind a remembered act -/
theorem Rh.keep {h h2 : xa_H} {p c : Nat} (R : Rh h) (N : Rn h) (hn6 : xm h 199 4 ≤ 6) (hp : xm h 26 1 = (p : Int)) (hc : xm h 26 2 = (c : Int)) (n4 : xm h2 199 4 = xm h 199 4) (n3 : xm h2 199 3 = xm h 199 3) (p1 : xm h2 26 1 = (((p + 1) % 20 : Nat) : Int)) (p2 : xm h2 173 75 = (((p + 1) % 20 : Nat) : Int)) (c1 : xm h2 26 2 = ((min (c + 1) 20 : Nat) : Int)) (c2 : xm h2 173 74 = ((min (c + 1) 20 : Nat) : Int))
    (e1 : ∀ a k, 28 ≤ a → a < 148 → xm h2 a k = xm (xcst h (28 + 6 * p) 20) a k) (e2 : ∀ k, xm h2 224 k = kpF h ((p + 1) % 20) k) : Rh h2 := by
  obtain ⟨h1, h2', h3, h4, h5⟩ := R
  have hp2 : p < 20 := by omega
  have hc2 : c ≤ 20 := by omega
  refine ⟨by rw [p1]; omega, by rw [c1]; omega, by rw [p1, p2], by rw [c1, c2], fun q hq hl => ?_⟩
  rw [p1, c1] at hl
  rw [n4, n3]
  by_cases e : q = p
  · subst e
    have ek : ∀ k, k < 176 → xm h2 224 (176 * ((q + 1) % 20) + k) = xm h 212 (0 + k) := fun k hk => by
      rw [e2]; unfold kpF; rw [if_pos (by omega)]; congr 1; omega
    have kc := rv_kc N
    refine ⟨RSt2.cp N.1 (by simp only [Nat.zero_add]; omega) ⟨?_, ?_⟩ (fun j k q1 q2 q3 => ?_) ek, N.2.cp hn6 ek⟩
    · rw [e1 _ _ (by omega) (by omega), xm_xcst, if_pos rfl, if_pos (Or.inl rfl)]
    · rw [e1 _ _ (by omega) (by omega), xm_xcst, if_pos rfl, if_pos (Or.inr rfl)]
    · rw [e1 _ _ (by omega) (by omega), xm_xcst, if_neg (by omega), if_pos ⟨by omega, by rw [show 28 + 6 * q + j - (28 + 6 * q) = j by omega]; exact q3⟩]
      congr 1
      omega
  · obtain ⟨g1, g2⟩ := h5 q hq (by omega)
    have ek : ∀ k, k < 176 → xm h2 224 (176 * ((q + 1) % 20) + k) = xm h 224 (176 * ((q + 1) % 20) + k) := fun k hk => by
      rw [e2]; unfold kpF; rw [if_neg (by omega)]
    have kc := g2.2.2.2.2.2.2.1
    refine ⟨RSt2.cp g1 (by omega) ⟨?_, ?_⟩ (fun j k q1 q2 q3 => ?_) ek, g2.cp hn6 ek⟩
    · rw [e1 _ _ (by omega) (by omega), xm_xcst, if_neg (by omega), if_neg (by omega)]
    · rw [e1 _ _ (by omega) (by omega), xm_xcst, if_neg (by omega), if_neg (by omega)]
    · rw [e1 _ _ (by omega) (by omega), xm_xcst, if_neg (by omega), if_neg (by omega)]
theorem agr_cst {D : Nat → Nat → Bool} {h h' : xa_H} {a b : Nat} (hD : ∀ j k, j < 6 → D (a + j) k = false) (hh : agr D h h') : agr D h (xcst h' a b) := fun x k hx => by
  have hne : ¬(a ≤ x ∧ x < a + 6) := by
    intro q
    have := hD (x - a) k (by omega)
    rw [show a + (x - a) = x by omega] at this
    simp [this] at hx
  rw [xm_xcst, if_neg (by omega), if_neg (by omega), hh x k hx]
theorem ble_ff {a b : Nat} (h : b < a) : Nat.ble a b = false := by
  rw [Bool.eq_false_iff]
  intro q
  have := Nat.le_of_ble_eq_true q
  omega
theorem dk_mid {a k : Nat} (h1 : 28 ≤ a) (h2 : a < 148) : DK a k = false := by
  unfold DK
  rw [ble_ff (a := a) (b := 19) (by omega), ble_ff (a := 249) (b := a) (by omega)]
  simp
  omega
theorem c_want {h : xa_H} {s F1 F2 T2 T3 : Nat} (R : RR h s F1 F2 T2 T3) (v w : Int) : CallOK h (f_X11_want 0 v w h) (f_X12_want 173 v w) := by
  have S := rr_S R
  have C := rr_c R
  have N := rr_n R
  have hn := rc_n C
  have hm := rc_m C
  by_cases q : (0 ≤ v ∧ v < xm h 199 4) ∧ (0 ≤ w ∧ w < xm h 199 3) ∧ ¬ xm h 212 (1 + 9 * v.toNat + 1) = w
  · obtain ⟨q1, q2, q3⟩ := q
    obtain ⟨i, rfl⟩ : ∃ i : Nat, v = (i : Int) := ⟨v.toNat, by omega⟩
    simp only [Int.toNat_natCast] at q3
    obtain ⟨r1, r2, r3, r4, r5⟩ := rr_h R
    obtain ⟨p, hp⟩ : ∃ p : Nat, xm h 26 1 = (p : Int) := ⟨(xm h 26 1).toNat, by omega⟩
    obtain ⟨c, hc⟩ : ∃ c : Nat, xm h 26 2 = (c : Int) := ⟨(xm h 26 2).toNat, by omega⟩
    have hp2 : p < 20 := by omega
    have e1 := s_remember S hp hp2 hc (by omega)
    obtain ⟨H1, hH1⟩ : ∃ H, H = xset (xset (xcst h (28 + 6 * p) 20) 26 1 (((p + 1) % 20 : Nat) : Int)) 26 2 ((min (c + 1) 20 : Nat) : Int) := ⟨_, rfl⟩
    rw [← hH1] at e1
    have S1 : SH H1 := by rw [hH1]; exact ((sh_xcst S hp2).set (by decide +kernel)).set (by decide +kernel)
    obtain ⟨H2, hH2⟩ : ∃ H, H = xset H1 22 i w := ⟨_, rfl⟩
    have S2 : SH H2 := by rw [hH2]; exact S1.set (fixd_of (by decide +kernel))
    have m1 : ∀ a k, xm H1 a k = if a = 26 ∧ k = 2 then ((min (c + 1) 20 : Nat) : Int) else if a = 26 ∧ k = 1 then (((p + 1) % 20 : Nat) : Int) else xm (xcst h (28 + 6 * p) 20) a k := fun a k => by rw [hH1, xm_xset, xm_xset]
    have m0 : ∀ a k, (a < 28 ∨ 148 ≤ a) → xm (xcst h (28 + 6 * p) 20) a k = xm h a k := fun a k z => by rw [xm_xcst, if_neg (by omega), if_neg (by omega)]
    have ml : ∀ a k, 173 ≤ a → xm H2 a k = xm h a k := fun a k z => by rw [hH2, xm_xset, if_neg (by omega), m1, if_neg (by omega), if_neg (by omega), m0 a k (by omega)]
    have n2 : xn H2 = xn h := by rw [hH2, hH1]; rfl
    have z2 : xz H2 = xz h := by rw [hH2, hH1]; rfl
    have k2 : xk H2 = xk h := by rw [hH2, hH1]; rfl
    have C2 : Rc H2 s := by
      have hs := C.2.1.1
      refine C.mv (by omega) (fun a _ => by rw [k2]) (fun a k hd => ?_)
      by_cases z : 173 ≤ a
      · exact ml a k z
      · unfold DRc at hd
        rw [hH2, xm_xset, if_neg (by omega), m1, if_neg (by omega), if_neg (by omega), m0 a k (by omega)]
    have e3 := s_keeps S2 (p := p) (c := c) ((ml 173 75 (by omega)).trans (r3.symm.trans hp)) hp2 ((ml 173 74 (by omega)).trans (r4.symm.trans hc)) (by omega)
    obtain ⟨H3, hH3⟩ : ∃ H, H = xset (xarr (xset H2 173 75 (((p + 1) % 20 : Nat) : Int)) 224 (kpF H2 ((p + 1) % 20))) 173 74 ((min (c + 1) 20 : Nat) : Int) := ⟨_, rfl⟩
    rw [← hH3] at e3
    have S3 : SH H3 := by rw [hH3]; exact ((S2.set (by decide +kernel)).arr (by decide +kernel)).set (by decide +kernel)
    obtain ⟨H4, hH4⟩ : ∃ H, H = xset H3 212 (1 + 9 * i + 1) w := ⟨_, rfl⟩
    have n4 : xn H4 = xn h := by rw [hH4, hH3]; exact n2
    have z4 : xz H4 = xz h := by rw [hH4, hH3]; exact z2
    have k4 : xk H4 = xk h := by rw [hH4, hH3]; exact k2
    refine CallOK.same (v := 1) (h1 := H2) (h2 := H4) ?_ ?_ ⟨s, F1, F2, T2, T3, ?_⟩ n4 z4
    · unfold f_X11_want
      simp (disch := omega) only [↓reduceIte, ↓bbind, ↓bxgf, ↓bxpf, ↓bxal, ↓bxas, ↓bxrc, ↓exrc, xbo, xok_xset, xia_xset, xln_xset, xm_xset, xok_xarr, xia_xarr, xln_xarr, xm_xarr, Option.bind_some, Int.reduceToNat, Nat.reduceEqDiff, Nat.reduceSub, Int.reduceLT, Int.reduceLE, Int.reduceEq, Int.reduceNeg, if_true, if_false, ite_true, ite_false, true_and, and_true, false_and, and_false, eq_self, reduceIte, Bool.false_eq_true, Nat.reduceBEq, reduceCtorEq, or_true, true_or, or_false, false_or, xel, Int.toNat_natCast, Int.toNat_add, Int.toNat_mul, ok_0 S, ok_2 S, ok_4 S, ok_6 S, ok_20 S, ok_26 S, ok_148 S, ok_153 S, ok_158 S, ok_163 S, ia_1 S, ia_3 S, ia_5 S, ia_21 S, ia_22 S, ia_23 S, ia_24 S, ia_25 S, ia_27 S, ia_149 S, ia_150 S, ia_151 S, ia_152 S, ia_154 S, ia_155 S, ia_156 S, ia_157 S, ia_159 S, ia_160 S, ia_161 S, ia_162 S, ia_164 S, ia_165 S, ia_166 S, ia_167 S, ia_168 S, ia_169 S, ia_170 S, ia_171 S, ia_172 S, pt_0_0 S, pt_2_0 S, pt_2_1 S, pt_0_2 S, pt_4_0 S, pt_4_1 S, pt_0_3 S, pt_6_0 S, pt_6_1 S, pt_0_4 S, pt_20_1 S, pt_20_2 S, pt_20_3 S, pt_20_4 S, pt_20_5 S, pt_0_6 S, pt_26_0 S, pt_0_7 S, pt_148_0 S, pt_148_4 S, pt_148_5 S, pt_148_6 S, pt_0_8 S, pt_153_0 S, pt_153_4 S, pt_153_5 S, pt_153_6 S, pt_0_9 S, pt_158_4 S, pt_158_5 S, pt_158_6 S, pt_158_7 S, pt_0_10 S, pt_163_0 S, pt_163_1 S, pt_163_2 S, pt_163_3 S, pt_0_11 S, pt_0_12 S, pt_0_13 S, pt_0_14 S, pt_0_15 S, pt_0_17 S, rn_night N, rn_has N, rn_wants N, rn_purse N, rn_met N, rn_kc N, rn_kept N, s_X11_isHolder S C, if_pos q1, s_X11_isHeld S C, if_pos q2, if_neg q3, e1]
      simp (disch := omega) only [↓reduceIte, ↓bbind, ↓bxgf, ↓bxpf, ↓bxal, ↓bxas, ↓bxrc, ↓exrc, xbo, xok_xset, xia_xset, xln_xset, xm_xset, xok_xarr, xia_xarr, xln_xarr, xm_xarr, Option.bind_some, Int.reduceToNat, Nat.reduceEqDiff, Nat.reduceSub, Int.reduceLT, Int.reduceLE, Int.reduceEq, Int.reduceNeg, if_true, if_false, ite_true, ite_false, true_and, and_true, false_and, and_false, eq_self, reduceIte, Bool.false_eq_true, Nat.reduceBEq, reduceCtorEq, or_true, true_or, or_false, false_or, xel, Int.toNat_natCast, Int.toNat_add, Int.toNat_mul, ok_0 S1, ok_2 S1, ok_4 S1, ok_6 S1, ok_20 S1, ok_26 S1, ok_148 S1, ok_153 S1, ok_158 S1, ok_163 S1, ia_1 S1, ia_3 S1, ia_5 S1, ia_21 S1, ia_22 S1, ia_23 S1, ia_24 S1, ia_25 S1, ia_27 S1, ia_149 S1, ia_150 S1, ia_151 S1, ia_152 S1, ia_154 S1, ia_155 S1, ia_156 S1, ia_157 S1, ia_159 S1, ia_160 S1, ia_161 S1, ia_162 S1, ia_164 S1, ia_165 S1, ia_166 S1, ia_167 S1, ia_168 S1, ia_169 S1, ia_170 S1, ia_171 S1, ia_172 S1, pt_0_0 S1, pt_2_0 S1, pt_2_1 S1, pt_0_2 S1, pt_4_0 S1, pt_4_1 S1, pt_0_3 S1, pt_6_0 S1, pt_6_1 S1, pt_0_4 S1, pt_20_1 S1, pt_20_2 S1, pt_20_3 S1, pt_20_4 S1, pt_20_5 S1, pt_0_6 S1, pt_26_0 S1, pt_0_7 S1, pt_148_0 S1, pt_148_4 S1, pt_148_5 S1, pt_148_6 S1, pt_0_8 S1, pt_153_0 S1, pt_153_4 S1, pt_153_5 S1, pt_153_6 S1, pt_0_9 S1, pt_158_4 S1, pt_158_5 S1, pt_158_6 S1, pt_158_7 S1, pt_0_10 S1, pt_163_0 S1, pt_163_1 S1, pt_163_2 S1, pt_163_3 S1, pt_0_11 S1, pt_0_12 S1, pt_0_13 S1, pt_0_14 S1, pt_0_15 S1, pt_0_17 S1]
      rw [hH2]
    · unfold f_X12_want
      have q1' : 0 ≤ (i : Int) ∧ (i : Int) < xm H2 199 4 := by rw [ml 199 4 (by omega)]; exact q1
      have q2' : 0 ≤ w ∧ w < xm H2 199 3 := by rw [ml 199 3 (by omega)]; exact q2
      have q3' : ¬ xm H2 212 (1 + 9 * i + 1) = w := by rw [ml 212 _ (by omega)]; exact q3
      simp (disch := omega) only [↓reduceIte, ↓bbind, ↓bxgf, ↓bxpf, ↓bxal, ↓bxas, ↓bxrc, ↓exrc, xbo, xok_xset, xia_xset, xln_xset, xm_xset, xok_xarr, xia_xarr, xln_xarr, xm_xarr, Option.bind_some, Int.reduceToNat, Nat.reduceEqDiff, Nat.reduceSub, Int.reduceLT, Int.reduceLE, Int.reduceEq, Int.reduceNeg, if_true, if_false, ite_true, ite_false, true_and, and_true, false_and, and_false, eq_self, reduceIte, Bool.false_eq_true, Nat.reduceBEq, reduceCtorEq, or_true, true_or, or_false, false_or, xel, Int.toNat_natCast, Int.toNat_add, Int.toNat_mul, ok_173 S2, s_X12_isHolder S2 C2, if_pos q1', s_X12_isHeldThere S2 C2, if_pos q2', s_X12_wantedBy S2, if_neg q3', e3]
      simp (disch := omega) only [↓reduceIte, ↓bbind, ↓bxgf, ↓bxpf, ↓bxal, ↓bxas, ↓bxrc, ↓exrc, xbo, xok_xset, xia_xset, xln_xset, xm_xset, xok_xarr, xia_xarr, xln_xarr, xm_xarr, Option.bind_some, Int.reduceToNat, Nat.reduceEqDiff, Nat.reduceSub, Int.reduceLT, Int.reduceLE, Int.reduceEq, Int.reduceNeg, if_true, if_false, ite_true, ite_false, true_and, and_true, false_and, and_false, eq_self, reduceIte, Bool.false_eq_true, Nat.reduceBEq, reduceCtorEq, or_true, true_or, or_false, false_or, xel, Int.toNat_natCast, Int.toNat_add, Int.toNat_mul, ok_173 S3, pt_173_50 S3, ia_212 S3, w32_id]
      rw [hH4]
    · have m3 : ∀ a k, xm H3 a k = if a = 173 ∧ k = 74 then ((min (c + 1) 20 : Nat) : Int) else if a = 224 then kpF H2 ((p + 1) % 20) k else if a = 173 ∧ k = 75 then (((p + 1) % 20 : Nat) : Int) else xm H2 a k := fun a k => by rw [hH3, xm_xset, xm_xarr, xm_xset]
      have ek : kpF H2 ((p + 1) % 20) = kpF h ((p + 1) % 20) := by
        funext k
        unfold kpF
        rw [ml 212 _ (by omega), ml 224 _ (by omega)]
      have hst : ∀ q, q < 20 → ∀ j, j < 6 → 28 ≤ 28 + 6 * q + j ∧ 28 + 6 * q + j < 148 := fun q _ j _ => by omega
      have A : ∀ D : Nat → Nat → Bool, (∀ a k, 28 ≤ a → a < 148 → D a k = false) → (∀ k, D 26 k = false) → (∀ k, D 22 k = false) → (∀ k, D 224 k = false) → (∀ k, D 212 k = false) → D 173 74 = false → D 173 75 = false → agr D h H4 := by
        intro D d1 d2 d3 d4 d5 d6 d7
        rw [hH4, hH3, hH2, hH1]
        exact agr_set (d5 _) (agr_set d6 (agr_arr d4 (agr_set d7 (agr_set (d3 _) (agr_set (d2 _) (agr_set (d2 _) (agr_cst (fun j k hj => d1 _ _ (by omega) (by omega)) (agr_refl _ _))))))))
      refine R.mvL (by rw [hH4]; exact S3.set (fixd_of (by decide +kernel))) (by omega) (fun a _ => by rw [k4]) (A _ (fun a k _ _ => ?_) (fun _ => rfl) (fun _ => rfl) (fun _ => rfl) (fun _ => rfl) rfl rfl) ((rr_t R).mv (A _ (fun a k _ _ => ?_) (fun _ => rfl) (fun _ => rfl) (fun _ => rfl) (fun _ => rfl) rfl rfl)) ((rr_r R).mv (A _ (fun a k _ _ => ?_) (fun _ => rfl) (fun _ => rfl) (fun _ => rfl) (fun _ => rfl) rfl rfl)) ((rr_f R).mv (A _ (fun a k _ _ => ?_) (fun _ => rfl) (fun _ => rfl) (fun _ => rfl) (fun _ => rfl) rfl rfl)) ?_ ?_ ((rr_j R).mv (A _ (fun a k _ _ => ?_) (fun _ => rfl) (fun _ => rfl) (fun _ => rfl) (fun _ => rfl) rfl rfl)) ((rr_i R).mv (A _ (fun a k _ _ => ?_) (fun _ => rfl) (fun _ => rfl) (fun _ => rfl) (fun _ => rfl) rfl rfl)) ((rr_s R).mv (A _ (fun a k _ _ => ?_) (fun _ => rfl) (fun _ => rfl) (fun _ => rfl) (fun _ => rfl) rfl rfl)) ((rr_2 R).mv (A _ (fun a k _ _ => ?_) (fun _ => rfl) (fun _ => rfl) (fun _ => rfl) (fun _ => rfl) rfl rfl))
      · exact dk_mid (by omega) (by omega)
      · simp [DRt]; omega
      · simp [DRr]; omega
      · simp [DRf]; omega
      · have mh : ∀ a k, a = 20 ∨ a = 21 ∨ a = 23 ∨ a = 24 ∨ a = 25 ∨ (a = 22 ∧ k ≠ i) ∨ a = 199 → xm H4 a k = xm h a k := fun a k z => by
          rw [hH4, xm_xset, if_neg (by omega), m3, if_neg (by omega), if_neg (by omega), if_neg (by omega)]
          by_cases y : a = 199
          · exact ml a k (by omega)
          · rw [hH2, xm_xset, if_neg (by omega), m1, if_neg (by omega), if_neg (by omega), m0 a k (by omega)]
        have mr : ∀ k, k ≠ 1 + 9 * i + 1 → xm H4 212 k = xm h 212 k := fun k z => by
          rw [hH4, xm_xset, if_neg (by omega), m3, if_neg (by omega), if_neg (by omega), if_neg (by omega), ml 212 k (by omega)]
        have mi : xm H4 212 (1 + 9 * i + 1) = w := by rw [hH4, xm_xset, if_pos ⟨rfl, rfl⟩]
        have mc : xm H4 22 i = w := by
          rw [hH4, xm_xset, if_neg (by omega), m3, if_neg (by omega), if_neg (by omega), if_neg (by omega), hH2, xm_xset, if_pos ⟨rfl, rfl⟩]
        refine ⟨⟨?_, fun j hj => ?_, fun j hj => ?_, fun j hj => ?_, fun j l hj hl => ?_, ?_, ?_⟩, ?_, fun j hj => ?_, fun j hj => ?_, fun j hj => ?_, fun j l hj hl => ?_, fun j l hj hl => ?_, ?_, ?_⟩
        all_goals try simp only [Nat.zero_add]
        · rw [mh 20 0 (by omega), mr 0 (by omega)]; exact rn_night N
        · rw [mh 21 j (by omega), mr _ (by omega)]; exact rn_has N hj
        · by_cases y : j = i
          · subst y; rw [mc, mi]
          · rw [mh 22 j (by omega), mr _ (by omega)]; exact rn_wants N hj
        · rw [mh 23 j (by omega), mr _ (by omega)]; exact rn_purse N hj
        · rw [mh 24 _ (by omega), mr _ (by omega)]; exact rn_met N hj hl
        · rw [mh 20 6 (by omega), mr _ (by omega)]; exact rn_kc N
        · rw [mr 55 (by omega)]; intro k hk
          rw [mh 25 k (by omega), mr _ (by omega), mr _ (by omega), mr _ (by omega), mr _ (by omega)]; exact rn_kept N hk
        · rw [mr 0 (by omega)]; exact rv_night N
        · rw [mh 199 4 (by omega)] at hj; rw [mr _ (by omega), mh 199 3 (by omega)]; exact rv_has N hj
        · rw [mh 199 4 (by omega)] at hj
          rw [mh 199 3 (by omega)]
          by_cases y : j = i
          · subst y; rw [mi]; exact q2
          · rw [mr _ (by omega)]; exact rv_wants N hj
        · rw [mh 199 4 (by omega)] at hj; rw [mr _ (by omega)]; exact rv_purse N hj
        · rw [mh 199 4 (by omega)] at hj hl; rw [mr _ (by omega)]; exact rv_met N hj hl
        · rw [mh 199 4 (by omega)] at hj hl; rw [mr _ (by omega), mr _ (by omega)]; exact rv_inj N hj hl
        · rw [mr _ (by omega)]; exact rv_kc N
        · rw [mr 55 (by omega)]; intro k hk
          rw [mr _ (by omega), mr _ (by omega), mr _ (by omega), mr _ (by omega)]; exact rv_kept N hk
      · have mg : ∀ a k, a ≠ 212 → a ≠ 173 → a ≠ 224 → xm H4 a k = xm H2 a k := fun a k z1 z2 z3 => by
          rw [hH4, xm_xset, if_neg (by omega), m3, if_neg (by omega), if_neg (by omega), if_neg (by omega)]
        refine Rh.keep (rr_h R) N hn.2 hp hc ?_ ?_ ?_ ?_ ?_ ?_ (fun a k g1 g2 => ?_) (fun k => ?_)
        · rw [mg _ _ (by omega) (by omega) (by omega), ml 199 4 (by omega)]
        · rw [mg _ _ (by omega) (by omega) (by omega), ml 199 3 (by omega)]
        · rw [mg _ _ (by omega) (by omega) (by omega), hH2, xm_xset, if_neg (by omega), m1, if_neg (by omega), if_pos ⟨rfl, rfl⟩]
        · rw [hH4, xm_xset, if_neg (by omega), m3, if_neg (by omega), if_neg (by omega), if_pos ⟨rfl, rfl⟩]
        · rw [mg _ _ (by omega) (by omega) (by omega), hH2, xm_xset, if_neg (by omega), m1, if_pos ⟨rfl, rfl⟩]
        · rw [hH4, xm_xset, if_neg (by omega), m3, if_pos ⟨rfl, rfl⟩]
        · rw [mg _ _ (by omega) (by omega) (by omega), hH2, xm_xset, if_neg (by omega), m1, if_neg (by omega), if_neg (by omega)]
        · rw [hH4, xm_xset, if_neg (by omega), m3, if_neg (by omega), if_pos rfl, ek]
      · simp [DRj]; omega
      · simp [DRi]; omega
      · simp [DRs]; omega
      · simp [DRo2]; omega
  · have C1 : f_X11_want 0 v w h = some (0, xset h 172 2 (w32 (xm h 172 2 + 1))) := by
      unfold f_X11_want f_X11_want_J29
      by_cases q1 : 0 ≤ v ∧ v < xm h 199 4
      · by_cases q2 : 0 ≤ w ∧ w < xm h 199 3
        · obtain ⟨i, rfl⟩ : ∃ i : Nat, v = (i : Int) := ⟨v.toNat, by omega⟩
          have q3 : xm h 212 (1 + 9 * i + 1) = w := by
            simp only [Int.toNat_natCast] at q
            by_cases z : xm h 212 (1 + 9 * i + 1) = w
            · exact z
            · exact absurd ⟨q1, q2, z⟩ q
          simp (disch := omega) only [↓reduceIte, ↓bbind, ↓bxgf, ↓bxpf, ↓bxal, ↓bxas, ↓bxrc, ↓exrc, xbo, xok_xset, xia_xset, xln_xset, xm_xset, xok_xarr, xia_xarr, xln_xarr, xm_xarr, Option.bind_some, Int.reduceToNat, Nat.reduceEqDiff, Nat.reduceSub, Int.reduceLT, Int.reduceLE, Int.reduceEq, Int.reduceNeg, if_true, if_false, ite_true, ite_false, true_and, and_true, false_and, and_false, eq_self, reduceIte, Bool.false_eq_true, Nat.reduceBEq, reduceCtorEq, or_true, true_or, or_false, false_or, xel, Int.toNat_natCast, Int.toNat_add, Int.toNat_mul, ok_0 S, ok_2 S, ok_4 S, ok_6 S, ok_20 S, ok_26 S, ok_148 S, ok_153 S, ok_158 S, ok_163 S, ia_1 S, ia_3 S, ia_5 S, ia_21 S, ia_22 S, ia_23 S, ia_24 S, ia_25 S, ia_27 S, ia_149 S, ia_150 S, ia_151 S, ia_152 S, ia_154 S, ia_155 S, ia_156 S, ia_157 S, ia_159 S, ia_160 S, ia_161 S, ia_162 S, ia_164 S, ia_165 S, ia_166 S, ia_167 S, ia_168 S, ia_169 S, ia_170 S, ia_171 S, ia_172 S, pt_0_0 S, pt_2_0 S, pt_2_1 S, pt_0_2 S, pt_4_0 S, pt_4_1 S, pt_0_3 S, pt_6_0 S, pt_6_1 S, pt_0_4 S, pt_20_1 S, pt_20_2 S, pt_20_3 S, pt_20_4 S, pt_20_5 S, pt_0_6 S, pt_26_0 S, pt_0_7 S, pt_148_0 S, pt_148_4 S, pt_148_5 S, pt_148_6 S, pt_0_8 S, pt_153_0 S, pt_153_4 S, pt_153_5 S, pt_153_6 S, pt_0_9 S, pt_158_4 S, pt_158_5 S, pt_158_6 S, pt_158_7 S, pt_0_10 S, pt_163_0 S, pt_163_1 S, pt_163_2 S, pt_163_3 S, pt_0_11 S, pt_0_12 S, pt_0_13 S, pt_0_14 S, pt_0_15 S, pt_0_17 S, rn_night N, rn_has N, rn_wants N, rn_purse N, rn_met N, rn_kc N, rn_kept N, s_X11_isHolder S C, if_pos q1, s_X11_isHeld S C, if_pos q2, q3, s_X11_refuse S]
        · simp (disch := omega) only [↓reduceIte, ↓bbind, ↓bxgf, ↓bxpf, ↓bxal, ↓bxas, ↓bxrc, ↓exrc, xbo, xok_xset, xia_xset, xln_xset, xm_xset, xok_xarr, xia_xarr, xln_xarr, xm_xarr, Option.bind_some, Int.reduceToNat, Nat.reduceEqDiff, Nat.reduceSub, Int.reduceLT, Int.reduceLE, Int.reduceEq, Int.reduceNeg, if_true, if_false, ite_true, ite_false, true_and, and_true, false_and, and_false, eq_self, reduceIte, Bool.false_eq_true, Nat.reduceBEq, reduceCtorEq, or_true, true_or, or_false, false_or, xel, Int.toNat_natCast, Int.toNat_add, Int.toNat_mul, ok_0 S, s_X11_isHolder S C, if_pos q1, s_X11_isHeld S C, if_neg q2, s_X11_refuse S]
      · simp (disch := omega) only [↓reduceIte, ↓bbind, ↓bxgf, ↓bxpf, ↓bxal, ↓bxas, ↓bxrc, ↓exrc, xbo, xok_xset, xia_xset, xln_xset, xm_xset, xok_xarr, xia_xarr, xln_xarr, xm_xarr, Option.bind_some, Int.reduceToNat, Nat.reduceEqDiff, Nat.reduceSub, Int.reduceLT, Int.reduceLE, Int.reduceEq, Int.reduceNeg, if_true, if_false, ite_true, ite_false, true_and, and_true, false_and, and_false, eq_self, reduceIte, Bool.false_eq_true, Nat.reduceBEq, reduceCtorEq, or_true, true_or, or_false, false_or, xel, Int.toNat_natCast, Int.toNat_add, Int.toNat_mul, ok_0 S, s_X11_isHolder S C, if_neg q1, s_X11_refuse S]
    have S1 : SH (xset h 172 2 (w32 (xm h 172 2 + 1))) := S.set (by decide +kernel)
    have C1' : Rc (xset h 172 2 (w32 (xm h 172 2 + 1))) s := C.mv (Nat.le_refl _) (fun _ _ => rfl) (fun a k hd => by
      have hs := C.2.1.1
      unfold DRc at hd
      rw [xm_xset, if_neg (by omega)])
    refine CallOK.same C1 ?_ ⟨s, F1, F2, T2, T3, rr_refuse R (w := 2) (by omega)⟩ rfl rfl
    unfold f_X12_want
    by_cases q1 : 0 ≤ v ∧ v < xm h 199 4
    · have q1' : 0 ≤ v ∧ v < xm (xset h 172 2 (w32 (xm h 172 2 + 1))) 199 4 := q1
      by_cases q2 : 0 ≤ w ∧ w < xm h 199 3
      · have q2' : 0 ≤ w ∧ w < xm (xset h 172 2 (w32 (xm h 172 2 + 1))) 199 3 := q2
        obtain ⟨i, rfl⟩ : ∃ i : Nat, v = (i : Int) := ⟨v.toNat, by omega⟩
        have q3 : xm (xset h 172 2 (w32 (xm h 172 2 + 1))) 212 (1 + 9 * i + 1) = w := by
          simp only [Int.toNat_natCast] at q
          by_cases z : xm h 212 (1 + 9 * i + 1) = w
          · exact z
          · exact absurd ⟨q1, q2, z⟩ q
        rw [show xrc (xset h 172 2 (w32 (xm h 172 2 + 1))) 12 173 (f_X12_isHolder 173 (i : Int) (xset h 172 2 (w32 (xm h 172 2 + 1)))) = some 1 by rw [s_X12_isHolder S1 C1', if_pos q1']; exact if_pos (ok_173 S1)]
        simp only [Option.bind_some, if_neg (show ¬ (1 : Int) = 0 by decide)]
        rw [show xrc (xset h 172 2 (w32 (xm h 172 2 + 1))) 12 173 (f_X12_isHeldThere 173 w (xset h 172 2 (w32 (xm h 172 2 + 1)))) = some 1 by rw [s_X12_isHeldThere S1 C1', if_pos q2']; exact if_pos (ok_173 S1)]
        simp only [Option.bind_some, if_neg (show ¬ (1 : Int) = 0 by decide)]
        rw [show xrc (xset h 172 2 (w32 (xm h 172 2 + 1))) 12 173 (f_X12_wantedBy 173 (i : Int) (xset h 172 2 (w32 (xm h 172 2 + 1)))) = some w by rw [s_X12_wantedBy S1 (by omega), q3]; exact if_pos (ok_173 S1)]
        simp (disch := omega) only [↓reduceIte, ↓bbind, ↓bxgf, ↓bxpf, ↓bxal, ↓bxas, ↓bxrc, ↓exrc, xbo, xok_xset, xia_xset, xln_xset, xm_xset, xok_xarr, xia_xarr, xln_xarr, xm_xarr, Option.bind_some, Int.reduceToNat, Nat.reduceEqDiff, Nat.reduceSub, Int.reduceLT, Int.reduceLE, Int.reduceEq, Int.reduceNeg, if_true, if_false, ite_true, ite_false, true_and, and_true, false_and, and_false, eq_self, reduceIte, Bool.false_eq_true, Nat.reduceBEq, reduceCtorEq, or_true, true_or, or_false, false_or, xel, Int.toNat_natCast, Int.toNat_add, Int.toNat_mul, ok_173 S, ia_174 S, ia_175 S, ia_199 S, ia_200 S, ia_201 S, ia_202 S, ia_203 S, ia_204 S, ia_205 S, ia_206 S, ia_207 S, ia_208 S, ia_209 S, ia_210 S, ia_211 S, ia_212 S, ia_213 S, ia_214 S, ia_215 S, ia_216 S, ia_217 S, ia_218 S, ia_219 S, ia_220 S, ia_221 S, ia_222 S, ia_223 S, ia_224 S, ia_245 S, ia_246 S, ia_247 S, ia_248 S, pt_173_0 S, pt_173_9 S, pt_173_34 S, pt_173_35 S, pt_173_36 S, pt_173_37 S, pt_173_38 S, pt_173_39 S, pt_173_40 S, pt_173_41 S, pt_173_42 S, pt_173_43 S, pt_173_44 S, pt_173_45 S, pt_173_46 S, pt_173_50 S, pt_173_55 S, pt_173_58 S, pt_173_59 S, pt_173_63 S, pt_173_64 S, pt_173_66 S, pt_173_67 S, pt_173_68 S, pt_173_69 S, pt_173_71 S, pt_173_72 S, pt_173_73 S, pt_173_97 S, pt_173_99 S, pt_173_103 S, pt_173_107 S]
      · have q2' : ¬(0 ≤ w ∧ w < xm (xset h 172 2 (w32 (xm h 172 2 + 1))) 199 3) := q2
        rw [show xrc (xset h 172 2 (w32 (xm h 172 2 + 1))) 12 173 (f_X12_isHolder 173 v (xset h 172 2 (w32 (xm h 172 2 + 1)))) = some 1 by rw [s_X12_isHolder S1 C1', if_pos q1']; exact if_pos (ok_173 S1)]
        simp only [Option.bind_some, if_neg (show ¬ (1 : Int) = 0 by decide)]
        rw [show xrc (xset h 172 2 (w32 (xm h 172 2 + 1))) 12 173 (f_X12_isHeldThere 173 w (xset h 172 2 (w32 (xm h 172 2 + 1)))) = some 0 by rw [s_X12_isHeldThere S1 C1', if_neg q2']; exact if_pos (ok_173 S1)]
        simp (disch := omega) only [↓reduceIte, ↓bbind, ↓bxgf, ↓bxpf, ↓bxal, ↓bxas, ↓bxrc, ↓exrc, xbo, xok_xset, xia_xset, xln_xset, xm_xset, xok_xarr, xia_xarr, xln_xarr, xm_xarr, Option.bind_some, Int.reduceToNat, Nat.reduceEqDiff, Nat.reduceSub, Int.reduceLT, Int.reduceLE, Int.reduceEq, Int.reduceNeg, if_true, if_false, ite_true, ite_false, true_and, and_true, false_and, and_false, eq_self, reduceIte, Bool.false_eq_true, Nat.reduceBEq, reduceCtorEq, or_true, true_or, or_false, false_or, xel, Int.toNat_natCast, Int.toNat_add, Int.toNat_mul, ok_173 S, ia_174 S, ia_175 S, ia_199 S, ia_200 S, ia_201 S, ia_202 S, ia_203 S, ia_204 S, ia_205 S, ia_206 S, ia_207 S, ia_208 S, ia_209 S, ia_210 S, ia_211 S, ia_212 S, ia_213 S, ia_214 S, ia_215 S, ia_216 S, ia_217 S, ia_218 S, ia_219 S, ia_220 S, ia_221 S, ia_222 S, ia_223 S, ia_224 S, ia_245 S, ia_246 S, ia_247 S, ia_248 S, pt_173_0 S, pt_173_9 S, pt_173_34 S, pt_173_35 S, pt_173_36 S, pt_173_37 S, pt_173_38 S, pt_173_39 S, pt_173_40 S, pt_173_41 S, pt_173_42 S, pt_173_43 S, pt_173_44 S, pt_173_45 S, pt_173_46 S, pt_173_50 S, pt_173_55 S, pt_173_58 S, pt_173_59 S, pt_173_63 S, pt_173_64 S, pt_173_66 S, pt_173_67 S, pt_173_68 S, pt_173_69 S, pt_173_71 S, pt_173_72 S, pt_173_73 S, pt_173_97 S, pt_173_99 S, pt_173_103 S, pt_173_107 S]
    · have q1' : ¬(0 ≤ v ∧ v < xm (xset h 172 2 (w32 (xm h 172 2 + 1))) 199 4) := q1
      rw [show xrc (xset h 172 2 (w32 (xm h 172 2 + 1))) 12 173 (f_X12_isHolder 173 v (xset h 172 2 (w32 (xm h 172 2 + 1)))) = some 0 by rw [s_X12_isHolder S1 C1', if_neg q1']; exact if_pos (ok_173 S1)]
      simp (disch := omega) only [↓reduceIte, ↓bbind, ↓bxgf, ↓bxpf, ↓bxal, ↓bxas, ↓bxrc, ↓exrc, xbo, xok_xset, xia_xset, xln_xset, xm_xset, xok_xarr, xia_xarr, xln_xarr, xm_xarr, Option.bind_some, Int.reduceToNat, Nat.reduceEqDiff, Nat.reduceSub, Int.reduceLT, Int.reduceLE, Int.reduceEq, Int.reduceNeg, if_true, if_false, ite_true, ite_false, true_and, and_true, false_and, and_false, eq_self, reduceIte, Bool.false_eq_true, Nat.reduceBEq, reduceCtorEq, or_true, true_or, or_false, false_or, xel, Int.toNat_natCast, Int.toNat_add, Int.toNat_mul, ok_173 S, ia_174 S, ia_175 S, ia_199 S, ia_200 S, ia_201 S, ia_202 S, ia_203 S, ia_204 S, ia_205 S, ia_206 S, ia_207 S, ia_208 S, ia_209 S, ia_210 S, ia_211 S, ia_212 S, ia_213 S, ia_214 S, ia_215 S, ia_216 S, ia_217 S, ia_218 S, ia_219 S, ia_220 S, ia_221 S, ia_222 S, ia_223 S, ia_224 S, ia_245 S, ia_246 S, ia_247 S, ia_248 S, pt_173_0 S, pt_173_9 S, pt_173_34 S, pt_173_35 S, pt_173_36 S, pt_173_37 S, pt_173_38 S, pt_173_39 S, pt_173_40 S, pt_173_41 S, pt_173_42 S, pt_173_43 S, pt_173_44 S, pt_173_45 S, pt_173_46 S, pt_173_50 S, pt_173_55 S, pt_173_58 S, pt_173_59 S, pt_173_63 S, pt_173_64 S, pt_173_66 S, pt_173_67 S, pt_173_68 S, pt_173_69 S, pt_173_71 S, pt_173_72 S, pt_173_73 S, pt_173_97 S, pt_173_99 S, pt_173_103 S, pt_173_107 S]
