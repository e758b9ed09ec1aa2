/-! ===== reckon, forget ===== -/
theorem all_bits : ∀ m, m < 7 → w32 (xshl 1 ((m : Nat) : Int) - 1) = ((2 ^ m - 1 : Nat) : Int) := by decide +kernel
theorem kd_xk {h : xa_H} (S : SH h) {a : Nat} (ha : a < 249) : xk h a = kd0 a := S.2.1 a ha
theorem s_reckon {H : xa_H} {ok : Nat → Nat → Bool} {n m : Nat} (N : NS H ok n m) : ∃ X Y Z : Nat → Int, f_X5_reckon 158 H = some (xset (xarr (xarr (xarr H 160 X) 161 Y) 162 Z) 158 1 ((frd ok m n n 0 : Nat) : Int)) ∧ ∀ i x, i < n → x < m → Z (i * 6 + x) = ((sumN (cti ok m n i x) (2 ^ m) : Nat) : Int) := by
  have S := N.1
  have hn6 := N.2.1
  have hm6 := N.2.2.1
  have hm0 := N.2.2.2.1
  have h64 := p2_64 m (by omega)
  have hp0 : 0 < 2 ^ m := Nat.pow_pos (by decide)
  obtain ⟨H1, e1⟩ : ∃ H1, H1 = xarr H 160 (fun k => if k < 64 then 0 else xm H 160 k) := ⟨_, rfl⟩
  have N1 : NS H1 ok n m := by rw [e1]; exact N.arr _ (by omega)
  obtain ⟨H2, e2⟩ : ∃ H2, H2 = xarr H1 161 (fun k => if k < 64 then 0 else xm H1 161 k) := ⟨_, rfl⟩
  have N2 : NS H2 ok n m := by rw [e2]; exact N1.arr _ (by omega)
  obtain ⟨H3, e3⟩ : ∃ H3, H3 = xarr H2 162 (fun k => if k < 36 then 0 else xm H2 162 k) := ⟨_, rfl⟩
  have N3 : NS H3 ok n m := by rw [e3]; exact N2.arr _ (by omega)
  have S3 := N3.1
  unfold f_X5_reckon
  refine ⟨fun k => if k < 64 then arX ok n m (2 ^ m) 0 k else xm H 160 k, fun k => if k < 64 then frA ok m n 0 k else xm H 161 k, fun k => if k < 36 then cvA ok m n 0 k else xm H 162 k, ?_, ?_⟩
  · refine (bnd (xgf_eq (a := 158) (ok_158 S) (pt_158_5 S))).trans ?_
    refine (bnd (s_fill (a := 160) (n := 64) 0 ((kd_xk S (by omega)).trans (by decide +kernel)) (by have := S.1; omega) (by omega))).trans ?_
    rw [← e1]
    refine (bnd (xgf_eq (a := 158) (ok_158 N1.1) (pt_158_6 N1.1))).trans ?_
    refine (bnd (s_fill (a := 161) (n := 64) 0 ((kd_xk N1.1 (by omega)).trans (by decide +kernel)) (by have := N1.1.1; omega) (by omega))).trans ?_
    rw [← e2]
    refine (bnd (xgf_eq (a := 158) (ok_158 N2.1) (pt_158_7 N2.1))).trans ?_
    refine (bnd (s_fill (a := 162) (n := 36) 0 ((kd_xk N2.1 (by omega)).trans (by decide +kernel)) (by have := N2.1.1; omega) (by omega))).trans ?_
    rw [← e3]
    refine (bnd (xgf_eq (a := 158) (ok_158 S3) N3.2.2.2.2.2.1)).trans ?_
    refine (bnd (xgf_eq (a := 158) (ok_158 S3) (pt_158_5 S3))).trans ?_
    refine (bnd (v := xset H3 160 0 1) (by unfold xas; rw [if_pos (ia_160 S3 (by omega) (by omega))]; rfl)).trans ?_
    rw [all_bits m (by omega)]
    have z4 : xset H3 160 0 1 = xarr H3 160 (fun k => if k < 64 then arX ok n m 0 0 k else xm H3 160 k) := by
      rw [xset_as_xarr]
      refine xarr_congr _ _ (fun k => ?_)
      by_cases p : k < 64
      · rw [if_pos p]
        unfold arX arB
        simp only [sumN]
        by_cases p2 : k = 0
        · rw [if_pos p2, if_pos p2]; rfl
        · rw [if_neg p2, if_neg p2, e3, xm_xarr, if_neg (by omega), e2, xm_xarr, if_neg (by omega), e1, xm_xarr, if_pos rfl, if_pos p]
          rfl
      · rw [if_neg p, if_neg (by omega)]
    rw [z4]
    have l1 := xit_seq (f := fun s => f_X5_reckon_L42 158 ((2 ^ m - 1 : Nat) : Int) s.1 s.2) (fun b => ((b : Int), xarr H3 160 (fun k => if k < 64 then arX ok n m b 0 k else xm H3 160 k))) (2 ^ m) (xarr H3 160 (fun k => if k < 64 then arX ok n m (2 ^ m) 0 k else xm H3 160 k)) (fun b hb => by
      unfold f_X5_reckon_L42
      dsimp only
      rw [if_neg (by omega)]
      refine (bnd (v := xarr H3 160 (fun k => if k < 64 then arX ok n m (b + 1) 0 k else xm H3 160 k)) ?_).trans ?_
      · rw [s_reckonTo N3 hb]
        exact if_pos (ok_158 (N3.arr (a := 160) _ (by omega)).1)
      · rw [w32_id (by omega) (by omega)]
        rfl) (by
      unfold f_X5_reckon_L42
      dsimp only
      rw [if_pos (by omega)]) (by omega)
    refine (bnd l1).trans ?_
    obtain ⟨H4, e4⟩ : ∃ H4, H4 = xarr H3 160 (fun k => if k < 64 then arX ok n m (2 ^ m) 0 k else xm H3 160 k) := ⟨_, rfl⟩
    have N4 : NS H4 ok n m := by rw [e4]; exact N3.arr _ (by omega)
    rw [← e4]
    have hT : ∀ k, k < 2 ^ m → pcn k < n → xm H4 160 k = ((toB ok m k : Nat) : Int) := fun k h1 h2 => by
      rw [e4, xm_xarr, if_pos rfl, if_pos (by omega), arX_0, toB_arB hm6 hm0 h1 (by omega)]
    have l2 := xit_seq (f := fun s => f_X5_reckon_L60 158 s.1 s.2) (fun t => (((2 ^ m : Nat) : Int) - 1 - (t : Int), xarr (xarr H4 161 (fun k => if k < 64 then frA ok m n (2 ^ m - t) k else xm H4 161 k)) 162 (fun k => if k < 36 then cvA ok m n (2 ^ m - t) k else xm H4 162 k))) (2 ^ m) (xarr (xarr H4 161 (fun k => if k < 64 then frA ok m n 0 k else xm H4 161 k)) 162 (fun k => if k < 36 then cvA ok m n 0 k else xm H4 162 k)) (fun t ht => by
      unfold f_X5_reckon_L60
      dsimp only
      rw [if_neg (by omega)]
      have eb : ((2 ^ m : Nat) : Int) - 1 - (t : Int) = ((2 ^ m - t - 1 : Nat) : Int) := by omega
      have eb2 : 2 ^ m - t = (2 ^ m - t - 1) + 1 := by omega
      refine (bnd (v := xarr (xarr H4 161 (fun k => if k < 64 then frA ok m n (2 ^ m - t - 1) k else xm H4 161 k)) 162 (fun k => if k < 36 then cvA ok m n (2 ^ m - t - 1) k else xm H4 162 k)) ?_).trans ?_
      · have er := s_reckonFrom N4 (b := 2 ^ m - t - 1) (by omega) hT (xm H4 161) (xm H4 162)
        rw [← eb2] at er
        rw [eb, er]
        exact if_pos (ok_158 ((N4.arr (a := 161) _ (by omega)).arr (a := 162) _ (by omega)).1)
      · rw [w32_id (by omega) (by omega), show 2 ^ m - (t + 1) = 2 ^ m - t - 1 by omega]
        refine congrArg some (congrArg Sum.inl (Prod.ext ?_ rfl))
        dsimp only
        omega) (by
      unfold f_X5_reckon_L60
      dsimp only
      rw [if_pos (by omega), Nat.sub_self]) (by omega)
    have hz : (((2 ^ m - 1 : Nat) : Int), H4) = (((2 ^ m : Nat) : Int) - 1 - ((0 : Nat) : Int), xarr (xarr H4 161 (fun k => if k < 64 then frA ok m n (2 ^ m - 0) k else xm H4 161 k)) 162 (fun k => if k < 36 then cvA ok m n (2 ^ m - 0) k else xm H4 162 k)) := by
      refine Prod.ext (by dsimp only; omega) ?_
      dsimp only
      refine xheq rfl rfl rfl (fun y k => ?_)
      simp only [xm_xarr, Nat.sub_zero]
      by_cases p1 : y = 162
      · subst p1
        simp only [if_true]
        by_cases p : k < 36
        · rw [if_pos p, e4, xm_xarr, if_neg (by omega), e3, xm_xarr, if_pos rfl, if_pos p]
          unfold cvA
          rw [Nat.sub_self]
          split <;> rfl
        · rw [if_neg p]
      · simp only [p1, if_false]
        by_cases p5 : y = 161
        · subst p5
          simp only [if_true]
          by_cases p : k < 64
          · rw [if_pos p, e4, xm_xarr, if_neg (by omega), e3, xm_xarr, if_neg (by omega), e2, xm_xarr, if_pos rfl, if_pos p]
            unfold frA
            rw [if_neg (by omega)]
          · rw [if_neg p]
        · simp only [p5, if_false]
    rw [hz]
    refine (bnd l2).trans ?_
    have N5 := (N4.arr (a := 161) (fun k => if k < 64 then frA ok m n 0 k else xm H4 161 k) (by omega)).arr (a := 162) (fun k => if k < 36 then cvA ok m n 0 k else xm H4 162 k) (by omega)
    refine (bnd (xgf_eq (a := 158) (ok_158 N5.1) (pt_158_6 N5.1))).trans ?_
    refine (bnd (v := ((frd ok m n n 0 : Nat) : Int)) ?_).trans ?_
    · unfold xal
      rw [if_pos (ia_161 N5.1 (by omega) (by omega))]
      refine congrArg some ?_
      show xm (xarr (xarr H4 161 _) 162 _) 161 0 = _
      rw [xm_xarr, if_neg (by omega), xm_xarr, if_pos rfl, if_pos (by omega)]
      unfold frA frv
      rw [if_pos ⟨by omega, hp0⟩, show pcn 0 = 0 from rfl, if_pos (by omega), Nat.sub_zero]
    refine (bnd (xpf_eq (a := 158) (ok_158 N5.1))).trans ?_
    refine congrArg some (congrArg (fun q => xset q 158 1 ((frd ok m n n 0 : Nat) : Int)) ?_)
    rw [e4, e3, e2, e1]
    refine xheq rfl rfl rfl (fun y k => ?_)
    simp only [xm_xarr]
    by_cases p1 : y = 162
    · subst p1
      simp only [if_true, Nat.reduceEqDiff, if_false]
      by_cases p : k < 36
      · rw [if_pos p, if_pos p]
      · rw [if_neg p, if_neg p, if_neg p]
    · simp only [p1, if_false]
      by_cases p5 : y = 161
      · subst p5
        simp only [if_true, Nat.reduceEqDiff, if_false]
        by_cases p : k < 64
        · rw [if_pos p, if_pos p]
        · rw [if_neg p, if_neg p, if_neg p]
      · simp only [p5, if_false]
        by_cases p6 : y = 160
        · subst p6
          simp only [if_true, Nat.reduceEqDiff, if_false]
          by_cases p : k < 64
          · rw [if_pos p, if_pos p]
          · rw [if_neg p, if_neg p, if_neg p]
        · simp only [p6, if_false]
  · intro i x hi hx
    have dm : (i * 6 + x) / 6 = i ∧ (i * 6 + x) % 6 = x := by omega
    dsimp only
    rw [if_pos (by omega)]
    unfold cvA
    rw [dm.1, dm.2, if_pos ⟨hi, hx⟩]
    simp only [sumN, Nat.sub_zero]
