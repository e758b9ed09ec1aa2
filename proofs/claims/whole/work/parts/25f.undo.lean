/-! ===== undo ===== -/
theorem s_recall0 {h : xa_H} (S : SH h) (hc : xm h 26 2 = 0) : f_X4_recall 26 20 h = some (0, h) := by
  unfold f_X4_recall
  refine (bnd (xgf_eq (a := 26) (ok_26 S) hc)).trans ?_
  rw [if_pos rfl]
theorem s_recall {h : xa_H} (S : SH h) {p c : Nat} (hp : xm h 26 1 = (p : Int)) (hp2 : p < 20) (hc : xm h 26 2 = (c : Int)) (hc2 : c ≤ 20) (hc0 : c ≠ 0) : f_X4_recall 26 20 h = some (1, xcst (xset (xset h 26 1 (((p + 19) % 20 : Nat) : Int)) 26 2 ((c - 1 : Nat) : Int)) 20 (28 + 6 * ((p + 19) % 20))) := by
  obtain ⟨r, hr⟩ : ∃ r, r = (p + 19) % 20 := ⟨_, rfl⟩
  have S1 : SH (xset h 26 1 (r : Int)) := S.set (by decide +kernel)
  have S2 : SH (xset (xset h 26 1 (r : Int)) 26 2 ((c - 1 : Nat) : Int)) := S1.set (by decide +kernel)
  unfold f_X4_recall
  refine (bnd (xgf_eq (a := 26) (ok_26 S) hc)).trans ?_
  rw [if_neg (by omega)]
  refine (bnd (xgf_eq (a := 26) (ok_26 S) hp)).trans ?_
  refine (bnd (xpf_eq (a := 26) (ok_26 S))).trans ?_
  rw [w32_id (z := (p : Int) + 20) (by omega) (by omega), w32_id (by omega) (by omega), Int.tmod_eq_emod_of_nonneg (by omega), show ((p : Int) + 20 - 1) % 20 = (r : Int) by omega, ← hr]
  refine (bnd (xgf_eq (a := 26) (v := (c : Int)) (ok_26 S1) (by rw [xm_xset, if_neg (by omega), hc]))).trans ?_
  refine (bnd (xpf_eq (a := 26) (ok_26 S1))).trans ?_
  rw [w32_id (by omega) (by omega), show (c : Int) - 1 = ((c - 1 : Nat) : Int) by omega]
  refine (bnd (xgf_eq (a := 26) (ok_26 S2) (pt_26_0 S2))).trans ?_
  refine (bnd (xgf_eq (a := 26) (v := (r : Int)) (ok_26 S2) (by rw [xm_xset, if_neg (by omega), xm_xset, if_pos ⟨rfl, rfl⟩]))).trans ?_
  refine (bnd (sh_states S2 (q := r) (by omega))).trans ?_
  rw [show xrc (xset (xset h 26 1 (r : Int)) 26 2 ((c - 1 : Nat) : Int)) 9 20 (f_X9_copyFrom 20 ((28 + 6 * r : Nat) : Int) (xset (xset h 26 1 (r : Int)) 26 2 ((c - 1 : Nat) : Int))) = f_X9_copyFrom 20 ((28 + 6 * r : Nat) : Int) (xset (xset h 26 1 (r : Int)) 26 2 ((c - 1 : Nat) : Int)) from if_pos (ok_20 S2)]
  refine (bnd (s_copyFrom (a := 20) (sh_now S2) (sh_st S2 (q := r) (by omega)) (Or.inl (by omega)))).trans ?_
  rfl
theorem s_undoM {h : xa_H} (S : SH h) {p c : Nat} (hp : xm h 173 75 = (p : Int)) (hp2 : p < 20) (hc : xm h 173 74 = (c : Int)) (hc2 : c ≤ 20) (hc0 : c ≠ 0) : f_X12_undo 173 h = some (1, xset (xset (xarr h 212 (fun k => if k < 176 then xm h 224 (176 * p + k) else xm h 212 k)) 173 75 (((p + 19) % 20 : Nat) : Int)) 173 74 ((c - 1 : Nat) : Int)) := by
  have hl := xit_seq (f := fun s => f_X12_undo_L21 173 s.1 s.2) (fun i => ((i : Int), xarr h 212 (fun k => if k < i then xm h 224 (176 * p + k) else xm h 212 k))) 176 (xarr h 212 (fun k => if k < 176 then xm h 224 (176 * p + k) else xm h 212 k)) (fun i hi => by
    unfold f_X12_undo_L21
    have e0 : (i : Int) < 176 := by omega
    simp (disch := omega) only [↓reduceIte, ↓bbind, ↓bxgf, ↓bxpf, ↓bxal, ↓bxas, ↓bxrc, ↓exrc, xbo, xok_xset, xia_xset, xln_xset, xm_xset, xok_xarr, xia_xarr, xln_xarr, xm_xarr, Option.bind_some, Int.reduceToNat, Nat.reduceEqDiff, Nat.reduceSub, Int.reduceLT, Int.reduceLE, Int.reduceEq, Int.reduceNeg, if_true, if_false, ite_true, ite_false, true_and, and_true, false_and, and_false, eq_self, reduceIte, Bool.false_eq_true, Nat.reduceBEq, reduceCtorEq, or_true, true_or, or_false, false_or, xel, Int.toNat_natCast, Int.toNat_add, Int.toNat_mul, ok_173 S, pt_173_73 S, pt_173_50 S, ia_212 S, ia_224 S, if_pos e0, w32_id, hp]
    congr 2
    apply Prod.ext
    · rfl
    · dsimp only
      refine xheq rfl rfl rfl (fun x k => ?_)
      simp only [xm_xset, xm_xarr]
      by_cases p1 : x = 212
      · subst p1
        rw [if_pos rfl, if_pos rfl]
        by_cases p2 : k = i
        · subst p2
          rw [if_pos ⟨rfl, rfl⟩, if_pos (by omega)]
        · rw [if_neg (by omega)]
          by_cases p3 : k < i
          · rw [if_pos p3, if_pos (by omega)]
          · rw [if_neg p3, if_neg (by omega)]
      · rw [if_neg (by omega), if_neg p1, if_neg p1]) (by
    unfold f_X12_undo_L21
    rw [if_neg (by omega)]) (by omega)
  have hz : ((0 : Int), h) = (((0 : Nat) : Int), xarr h 212 (fun k => if k < 0 then xm h 224 (176 * p + k) else xm h 212 k)) := by
    refine Prod.ext rfl (xheq rfl rfl rfl (fun x k => ?_))
    simp only [xm_xarr]
    by_cases p1 : x = 212
    · subst p1
      rw [if_pos rfl, if_neg (by omega)]
    · rw [if_neg p1]
  have S1 : SH (xarr h 212 (fun k => if k < 176 then xm h 224 (176 * p + k) else xm h 212 k)) := S.arr (by decide +kernel)
  unfold f_X12_undo
  refine (bnd (xgf_eq (a := 173) (ok_173 S) hc)).trans ?_
  rw [if_neg (by omega), hz]
  refine (bnd hl).trans ?_
  refine (bnd (xgf_eq (a := 173) (v := (p : Int)) (ok_173 S1) (by rw [xm_xarr, if_neg (by omega), hp]))).trans ?_
  refine (bnd (xpf_eq (a := 173) (ok_173 S1))).trans ?_
  rw [w32_id (z := (p : Int) + 20) (by omega) (by omega), w32_id (by omega) (by omega), Int.tmod_eq_emod_of_nonneg (by omega), show ((p : Int) + 20 - 1) % 20 = (((p + 19) % 20 : Nat) : Int) by omega]
  refine (bnd (xgf_eq (a := 173) (v := (c : Int)) (ok_173 (S1.set (by decide +kernel))) (by rw [xm_xset, if_neg (by omega), xm_xarr, if_neg (by omega), hc]))).trans ?_
  refine (bnd (xpf_eq (a := 173) (ok_173 (S1.set (by decide +kernel))))).trans ?_
  rw [w32_id (by omega) (by omega), show (c : Int) - 1 = ((c - 1 : Nat) : Int) by omega]
theorem c_undo {h : xa_H} {s F1 F2 T2 T3 : Nat} (R : RR h s F1 F2 T2 T3) : CallOK h (f_X11_undo 0 h) (f_X12_undo 173) := by
  have S := rr_S R
  have N := rr_n R
  have hn := rc_n (rr_c R)
  obtain ⟨r1, r2, r3, r4, r5⟩ := rr_h R
  obtain ⟨p, hp⟩ : ∃ p : Nat, xm h 26 1 = (p : Int) := ⟨(xm h 26 1).toNat, by omega⟩
  obtain ⟨c, hc⟩ : ∃ c : Nat, xm h 26 2 = (c : Int) := ⟨(xm h 26 2).toNat, by omega⟩
  have hp2 : p < 20 := by omega
  by_cases q : c = 0
  · subst q
    refine CallOK.same (h1 := xset h 172 4 (w32 (xm h 172 4 + 1))) (v := 0) ?_ ?_ ⟨s, F1, F2, T2, T3, rr_refuse R (w := 4) (by omega)⟩ rfl rfl
    · unfold f_X11_undo
      simp (disch := omega) only [↓reduceIte, ↓bbind, ↓bxgf, ↓bxpf, ↓bxal, ↓bxas, ↓bxrc, ↓exrc, xbo, xok_xset, xia_xset, xln_xset, xm_xset, xok_xarr, xia_xarr, xln_xarr, xm_xarr, Option.bind_some, Int.reduceToNat, Nat.reduceEqDiff, Nat.reduceSub, Int.reduceLT, Int.reduceLE, Int.reduceEq, Int.reduceNeg, if_true, if_false, ite_true, ite_false, true_and, and_true, false_and, and_false, eq_self, reduceIte, Bool.false_eq_true, Nat.reduceBEq, reduceCtorEq, or_true, true_or, or_false, false_or, xel, Int.toNat_natCast, Int.toNat_add, Int.toNat_mul, ok_0 S, ok_26 S, pt_0_7 S, pt_0_6 S, s_recall0 S hc, s_X11_refuse S]
    · have S1 : SH (xset h 172 4 (w32 (xm h 172 4 + 1))) := S.set (by decide +kernel)
      unfold f_X12_undo
      refine (bnd (xgf_eq (a := 173) (v := (0 : Int)) (ok_173 S1) (by rw [xm_xset, if_neg (by omega), ← r4, hc]; rfl))).trans ?_
      rw [if_pos rfl]
      simp (disch := omega) only [↓reduceIte, ↓bbind, ↓bxgf, ↓bxpf, ↓bxal, ↓bxas, ↓bxrc, ↓exrc, xbo, xok_xset, xia_xset, xln_xset, xm_xset, xok_xarr, xia_xarr, xln_xarr, xm_xarr, Option.bind_some, Int.reduceToNat, Nat.reduceEqDiff, Nat.reduceSub, Int.reduceLT, Int.reduceLE, Int.reduceEq, Int.reduceNeg, if_true, if_false, ite_true, ite_false, true_and, and_true, false_and, and_false, eq_self, reduceIte, Bool.false_eq_true, Nat.reduceBEq, reduceCtorEq, or_true, true_or, or_false, false_or, xel, Int.toNat_natCast, Int.toNat_add, Int.toNat_mul, ok_173 S, ia_174 S, ia_175 S, ia_199 S, ia_200 S, ia_201 S, ia_202 S, ia_203 S, ia_204 S, ia_205 S, ia_206 S, ia_207 S, ia_208 S, ia_209 S, ia_210 S, ia_211 S, ia_212 S, ia_213 S, ia_214 S, ia_215 S, ia_216 S, ia_217 S, ia_218 S, ia_219 S, ia_220 S, ia_221 S, ia_222 S, ia_223 S, ia_224 S, ia_245 S, ia_246 S, ia_247 S, ia_248 S, pt_173_0 S, pt_173_9 S, pt_173_34 S, pt_173_35 S, pt_173_36 S, pt_173_37 S, pt_173_38 S, pt_173_39 S, pt_173_40 S, pt_173_41 S, pt_173_42 S, pt_173_43 S, pt_173_44 S, pt_173_45 S, pt_173_46 S, pt_173_50 S, pt_173_55 S, pt_173_58 S, pt_173_59 S, pt_173_63 S, pt_173_64 S, pt_173_66 S, pt_173_67 S, pt_173_68 S, pt_173_69 S, pt_173_71 S, pt_173_72 S, pt_173_73 S, pt_173_97 S, pt_173_99 S, pt_173_103 S, pt_173_107 S]
  · have e1 := s_recall S hp hp2 hc (by omega) q
    obtain ⟨z, hz⟩ : ∃ z, z = (p + 19) % 20 := ⟨_, rfl⟩
    rw [← hz] at e1
    obtain ⟨H1, hH1⟩ : ∃ H, H = xcst (xset (xset h 26 1 (z : Int)) 26 2 ((c - 1 : Nat) : Int)) 20 (28 + 6 * z) := ⟨_, rfl⟩
    rw [← hH1] at e1
    have S1 : SH H1 := by rw [hH1]; exact sh_xcst20 ((S.set (by decide +kernel)).set (by decide +kernel))
    have m1 : ∀ a k, a ≠ 26 → (a < 20 ∨ 26 ≤ a) → xm H1 a k = xm h a k := fun a k z1 z2 => by
      rw [hH1, xm_xcst, if_neg (by omega), if_neg (by omega), xm_xset, if_neg (by omega), xm_xset, if_neg (by omega)]
    have e2 := s_undoM S1 (p := p) (c := c) ((m1 173 75 (by omega) (by omega)).trans (r3.symm.trans hp)) hp2 ((m1 173 74 (by omega) (by omega)).trans (r4.symm.trans hc)) (by omega) q
    rw [← hz] at e2
    obtain ⟨H2, hH2⟩ : ∃ H, H = xset (xset (xarr H1 212 (fun k => if k < 176 then xm H1 224 (176 * p + k) else xm H1 212 k)) 173 75 (z : Int)) 173 74 ((c - 1 : Nat) : Int) := ⟨_, rfl⟩
    rw [← hH2] at e2
    have S2 : SH H2 := by rw [hH2]; exact ((S1.arr (by decide +kernel)).set (by decide +kernel)).set (by decide +kernel)
    refine CallOK.same (v := 1) (h1 := H1) (h2 := H2) ?_ e2 ⟨s, F1, F2, T2, T3, ?_⟩ (by rw [hH2, hH1]; rfl) (by rw [hH2, hH1]; rfl)
    · unfold f_X11_undo
      simp (disch := omega) only [↓reduceIte, ↓bbind, ↓bxgf, ↓bxpf, ↓bxal, ↓bxas, ↓bxrc, ↓exrc, xbo, xok_xset, xia_xset, xln_xset, xm_xset, xok_xarr, xia_xarr, xln_xarr, xm_xarr, Option.bind_some, Int.reduceToNat, Nat.reduceEqDiff, Nat.reduceSub, Int.reduceLT, Int.reduceLE, Int.reduceEq, Int.reduceNeg, if_true, if_false, ite_true, ite_false, true_and, and_true, false_and, and_false, eq_self, reduceIte, Bool.false_eq_true, Nat.reduceBEq, reduceCtorEq, or_true, true_or, or_false, false_or, xel, Int.toNat_natCast, Int.toNat_add, Int.toNat_mul, ok_0 S, ok_26 S, pt_0_7 S, pt_0_6 S, e1]
    · have A : ∀ D : Nat → Nat → Bool, (∀ a k, 20 ≤ a → a < 26 → D a k = false) → D 26 1 = false → D 26 2 = false → (∀ k, D 212 k = false) → D 173 74 = false → D 173 75 = false → agr D h H2 := by
        intro D d1 d2 d3 d4 d5 d6
        rw [hH2, hH1]
        exact agr_set d5 (agr_set d6 (agr_arr d4 (agr_cst (fun j k hj => d1 _ _ (by omega) (by omega)) (agr_set d3 (agr_set d2 (agr_refl _ _))))))
      have m2 : ∀ a k, a ≠ 212 → a ≠ 173 → xm H2 a k = xm H1 a k := fun a k z1 z2 => by
        rw [hH2, xm_xset, if_neg (by omega), xm_xset, if_neg (by omega), xm_xarr, if_neg z1]
      have ml : ∀ a k, a ≠ 26 → (a < 20 ∨ 26 ≤ a) → a ≠ 212 → a ≠ 173 → xm H2 a k = xm h a k := fun a k z1 z2 z3 z4 => (m2 a k z3 z4).trans (m1 a k z1 z2)
      have dkm : ∀ a k, 20 ≤ a → a < 26 → DK a k = false := fun a k g1 g2 => by
        unfold DK
        rw [ble_ff (a := a) (b := 19) (by omega), ble_ff (a := 249) (b := a) (by omega)]
        simp
        omega
      have live : (xm h 26 1 + 19 - ((z : Nat) : Int)) % 20 < xm h 26 2 := by omega
      obtain ⟨g1, g2⟩ := r5 z (by omega) live
      rw [show (z + 1) % 20 = p by omega] at g1 g2
      have kc := g2.2.2.2.2.2.2.1
      have ek : ∀ k, k < 176 → xm H2 212 (0 + k) = xm h 224 (176 * p + k) := fun k hk => by
        rw [hH2, xm_xset, if_neg (by omega), xm_xset, if_neg (by omega), xm_xarr, if_pos rfl, if_pos (by omega), m1 _ _ (by omega) (by omega), Nat.zero_add]
      refine R.mvL S2 (by rw [hH2, hH1]; exact Nat.le_refl _) (fun a _ => by rw [hH2, hH1]; rfl) (A _ (fun a k y1 y2 => dkm a k y1 y2) rfl rfl (fun _ => rfl) rfl rfl) ((rr_t R).mv (A _ (fun a k _ _ => ?_) rfl rfl (fun _ => rfl) rfl rfl)) ((rr_r R).mv (A _ (fun a k _ _ => ?_) rfl rfl (fun _ => rfl) rfl rfl)) ((rr_f R).mv (A _ (fun a k _ _ => ?_) rfl rfl (fun _ => rfl) rfl rfl)) ?_ ?_ ((rr_j R).mv (A _ (fun a k _ _ => ?_) rfl rfl (fun _ => rfl) rfl rfl)) ((rr_i R).mv (A _ (fun a k _ _ => ?_) rfl rfl (fun _ => rfl) rfl rfl)) ((rr_s R).mv (A _ (fun a k _ _ => ?_) rfl rfl (fun _ => rfl) rfl rfl)) ((rr_2 R).mv (A _ (fun a k _ _ => ?_) rfl rfl (fun _ => rfl) rfl rfl))
      · simp [DRt]; omega
      · simp [DRr]; omega
      · simp [DRf]; omega
      · refine ⟨RSt2.cp g1 (by omega) ⟨?_, ?_⟩ (fun j k y1 y2 y3 => ?_) ek, ?_⟩
        · rw [m2 _ _ (by omega) (by omega), hH1, xm_xcst, if_pos rfl, if_pos (Or.inl rfl), xm_xset, if_neg (by omega), xm_xset, if_neg (by omega)]
        · rw [m2 _ _ (by omega) (by omega), hH1, xm_xcst, if_pos rfl, if_pos (Or.inr rfl), xm_xset, if_neg (by omega), xm_xset, if_neg (by omega)]
        · rw [m2 _ _ (by omega) (by omega), hH1, xm_xcst, if_neg (by omega), if_pos ⟨by omega, by rw [show 20 + j - 20 = j by omega]; exact y3⟩, xm_xset, if_neg (by omega), xm_xset, if_neg (by omega), show 20 + j - 20 = j by omega]
        · rw [ml 199 4 (by omega) (by omega) (by omega) (by omega), ml 199 3 (by omega) (by omega) (by omega) (by omega)]
          exact g2.cp hn.2 ek
      · have t1 : xm H2 26 1 = (z : Int) := by
          rw [m2 _ _ (by omega) (by omega), hH1, xm_xcst, if_neg (by omega), if_neg (by omega), xm_xset, if_neg (by omega), xm_xset, if_pos ⟨rfl, rfl⟩]
        have t2 : xm H2 26 2 = ((c - 1 : Nat) : Int) := by
          rw [m2 _ _ (by omega) (by omega), hH1, xm_xcst, if_neg (by omega), if_neg (by omega), xm_xset, if_pos ⟨rfl, rfl⟩]
        have t3 : xm H2 173 75 = (z : Int) := by rw [hH2, xm_xset, if_neg (by omega), xm_xset, if_pos ⟨rfl, rfl⟩]
        have t4 : xm H2 173 74 = ((c - 1 : Nat) : Int) := by rw [hH2, xm_xset, if_pos ⟨rfl, rfl⟩]
        refine ⟨by rw [t1]; omega, by rw [t2]; omega, by rw [t1, t3], by rw [t2, t4], fun y hy hl => ?_⟩
        rw [t1, t2] at hl
        rw [ml 199 4 (by omega) (by omega) (by omega) (by omega), ml 199 3 (by omega) (by omega) (by omega) (by omega)]
        obtain ⟨x1, x2⟩ := r5 y hy (by omega)
        exact ⟨x1.mv (fun a k z1 z2 => ml a k (by omega) (by omega) (by omega) (by omega)) (fun k => ml 224 k (by omega) (by omega) (by omega) (by omega)), x2.mv (fun k => ml 224 k (by omega) (by omega) (by omega) (by omega))⟩
      · simp [DRj]; omega
      · simp [DRi]; omega
      · simp [DRs]; omega
      · simp [DRo2]; omega
