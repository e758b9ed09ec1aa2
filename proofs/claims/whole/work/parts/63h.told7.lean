/-! ===== feuds told ===== -/
theorem t_areFeud {h : xa_H} {S : Nat} (K : CS h S) {i : Nat} (hi : i < 6) (j : Int) : f_X0_areFeuding (S : Int) (i : Int) j h = some (if xand (xshr (xm h (S + 6) i) j) 1 = 1 then 1 else 0) := by
  have ix : xia h 0 ((S + 6 : Nat) : Int) (i : Int) = true := cs_ia6 K (by omega) (by omega)
  unfold f_X0_areFeuding
  rw [gCS K, cs_p10 K, xal_eq ix rfl, bbind]
  split <;> rfl
theorem t_addFeud {h : xa_H} {S : Nat} (K : CS h S) {a b x y n : Nat} (ha : a < 6) (hb : b < 6) (hab : a ≠ b) (hx : xm h (S + 6) a = (x : Int)) (hy : xm h (S + 6) b = (y : Int)) (x6 : x < 64) (y6 : y < 64) (hn : xm h S 3 = (n : Int)) (n10 : n < 10) : f_X0_addFeud (S : Int) (a : Int) (b : Int) h = some (xset (xset (xset h (S + 6) a ((x ||| 2 ^ b : Nat) : Int)) (S + 6) b ((y ||| 2 ^ a : Nat) : Int)) S 3 ((n + 1 : Nat) : Int)) := by
  have o := CS.ok K
  have i1 : xia h 0 ((S + 6 : Nat) : Int) (a : Int) = true := cs_ia6 K (by omega) (by omega)
  have i2 : xia h 0 ((S + 6 : Nat) : Int) (b : Int) = true := cs_ia6 K (by omega) (by omega)
  have e1 := (b_set x x6 b hb).1
  have e2 := (b_set y y6 a ha).1
  have m1 : xm (xset h (S + 6) a ((x ||| 2 ^ b : Nat) : Int)) S 10 = ((S + 6 : Nat) : Int) := by rw [xm_xset, if_neg (by omega)]; exact cs_p10 K
  have m2 : xm (xset h (S + 6) a ((x ||| 2 ^ b : Nat) : Int)) (S + 6) b = (y : Int) := by rw [xm_xset, if_neg (by omega)]; exact hy
  have m3 : xm (xset (xset h (S + 6) a ((x ||| 2 ^ b : Nat) : Int)) (S + 6) b ((y ||| 2 ^ a : Nat) : Int)) S 3 = (n : Int) := by rw [xm_xset, if_neg (by omega), xm_xset, if_neg (by omega)]; exact hn
  have w1 : w32 ((n : Int) + 1) = ((n + 1 : Nat) : Int) := by rw [w32_id (by omega) (by omega)]; omega
  unfold f_X0_addFeud
  refine (bnd (xgf_eq o (cs_p10 K))).trans ?_
  refine (bnd (xal_eq i1 hx)).trans ?_
  rw [e1]
  refine (bnd (xas_eq i1)).trans ?_
  refine (bnd (xgf_eq (h := xset h (S + 6) a ((x ||| 2 ^ b : Nat) : Int)) o m1)).trans ?_
  refine (bnd (xal_eq (h := xset h (S + 6) a ((x ||| 2 ^ b : Nat) : Int)) i2 m2)).trans ?_
  rw [e2]
  refine (bnd (xas_eq (h := xset h (S + 6) a ((x ||| 2 ^ b : Nat) : Int)) i2)).trans ?_
  refine (bnd (xgf_eq (h := xset (xset h (S + 6) a ((x ||| 2 ^ b : Nat) : Int)) (S + 6) b ((y ||| 2 ^ a : Nat) : Int)) o m3)).trans ?_
  rw [w1]
  exact (bnd (xpf_eq (h := xset (xset h (S + 6) a ((x ||| 2 ^ b : Nat) : Int)) (S + 6) b ((y ||| 2 ^ a : Nat) : Int)) o)).trans rfl
theorem t_feud59 {g : xa_H} (S : SH g) (hb5 : xm g 173 5 = 0) {a b x y n : Nat} (ha : a < 6) (hb : b < 6) (hab : a ≠ b) (hx : xm g 207 a = (x : Int)) (hy : xm g 207 b = (y : Int)) (x6 : x < 64) (y6 : y < 64) (hn : xm g 199 2 = (n : Int)) (n10 : n < 10) : f_X12_feudTold_J59 173 (a : Int) (b : Int) g = some (xset (xset (xset g 207 a ((x ||| 2 ^ b : Nat) : Int)) 207 b ((y ||| 2 ^ a : Nat) : Int)) 199 2 ((n + 1 : Nat) : Int)) := by
  have i1 : xia g 0 207 (a : Int) = true := ia_207 S (by omega) (by omega)
  have i2 : xia g 0 207 (b : Int) = true := ia_207 S (by omega) (by omega)
  have i3 : xia g 0 199 ((2 : Nat) : Int) = true := ia_199 S (by omega) (by omega)
  have e1 := (b_set x x6 b hb).1
  have e2 := (b_set y y6 a ha).1
  have S1 : SH (xset g 207 a ((x ||| 2 ^ b : Nat) : Int)) := S.set (fixd_of (by decide +kernel))
  have S2 : SH (xset (xset g 207 a ((x ||| 2 ^ b : Nat) : Int)) 207 b ((y ||| 2 ^ a : Nat) : Int)) := S1.set (fixd_of (by decide +kernel))
  have m2 : xm (xset g 207 a ((x ||| 2 ^ b : Nat) : Int)) 207 b = (y : Int) := by rw [xm_xset, if_neg (by omega)]; exact hy
  have m3 : xm (xset (xset g 207 a ((x ||| 2 ^ b : Nat) : Int)) 207 b ((y ||| 2 ^ a : Nat) : Int)) 199 2 = (n : Int) := by rw [xm_xset, if_neg (by omega), xm_xset, if_neg (by omega)]; exact hn
  have w1 : w32 ((n : Int) + 1) = ((n + 1 : Nat) : Int) := by rw [w32_id (by omega) (by omega)]; omega
  unfold f_X12_feudTold_J59
  rw [gM S, hb5, if_pos rfl, gM S, pt_173_42 S]
  refine (bnd (xal_eq (a := 207) i1 hx)).trans ?_
  rw [e1]
  refine (bnd (xas_eq (a := 207) i1)).trans ?_
  rw [gM S1, pt_173_42 S1]
  refine (bnd (xal_eq (a := 207) (h := xset g 207 a ((x ||| 2 ^ b : Nat) : Int)) i2 m2)).trans ?_
  rw [e2]
  refine (bnd (xas_eq (a := 207) (h := xset g 207 a ((x ||| 2 ^ b : Nat) : Int)) i2)).trans ?_
  rw [gM S2, pt_173_34 S2]
  refine (bnd (xal_eq (a := 199) (i := 2) (h := xset (xset g 207 a ((x ||| 2 ^ b : Nat) : Int)) 207 b ((y ||| 2 ^ a : Nat) : Int)) i3 m3)).trans ?_
  rw [w1]
  exact (bnd (xas_eq (a := 199) (i := 2) (h := xset (xset g 207 a ((x ||| 2 ^ b : Nat) : Int)) 207 b ((y ||| 2 ^ a : Nat) : Int)) i3)).trans rfl
section
variable {T : Nat → Int} {L S F1 F2 : Nat} {h0 g0 : xa_H} {p0 : Nat} {h g : xa_H} {p : Nat} {b : Bool}
theorem t_feud (C0 : Cx T L h0 p0 b) (R0 : Rx T L g0 (tk_n T L p0 b).1 (tk_n T L p0 b).2) (C : CD h0 g0 S) (CFh : CF h0 g0 S F1 F2 p0) (h10 : xm g0 199 2 < 10) (x : Int) : TR T L S h0 g0 p0 (f_X1_readFeud 6 h0) (f_X12_feudTold 173 x g0) F1 F2 := by
  have Sh := C0.1.1
  obtain ⟨n, hn⟩ : ∃ n : Nat, xm g0 199 2 = (n : Int) := ⟨(xm g0 199 2).toNat, by have := C.2.2.2.1; omega⟩
  have full := t_heldFull R0.1 R0.2.2.2.1 2 (by decide) hn 10 x
  have full' : f_X12_isFull 173 2 10 x g0 = some (0, g0) := by rw [if_neg (by omega)] at full; exact full
  obtain ⟨h1, e1, G1⟩ := go_0 C0 R0 C CFh
  have Sh1 := G1.1.1.1.1
  obtain ⟨v2, w2, h2, g2, e2, e2', o2⟩ := go_holder G1
  have b59 : ∀ (v w : Int) (e : Nat × Nat) (gb : xa_H), Bx gb e → f_X12_feudTold_J59 173 v w gb = some gb := by
    intro v w e gb B1
    unfold f_X12_feudTold_J59
    rw [gM B1.1, b_5 B1]
  unfold f_X1_readFeud f_X12_feudTold
  rw [r60 Sh, x62 Sh, e1, bbind, x16 Sh1, e2, bbind, xM R0.1, full', bbind, if_pos rfl, xM R0.1, e2', bbind]
  rcases o2 with ⟨i, rfl, rfl, i1, G2, -, N2, -⟩ | ⟨rfl, rfl, B⟩
  · have Sh2 := G2.1.1.1.1
    have Sg2 := G2.1.2.1
    obtain ⟨v3, w3, h3, g3, e3, e3', o3⟩ := go_holder G2
    rw [if_neg (by omega), x16 Sh2, e3, bbind, xM Sg2, e3', bbind]
    rcases o3 with ⟨j, rfl, rfl, j1, G3, -, N3, j8, j33⟩ | ⟨rfl, rfl, B⟩
    · have Sh3 := G3.1.1.1.1
      have Sg3 := G3.1.2.1
      have K := G3.2.1
      have i6 : i < 6 := by have := cd_m C; omega
      have j6 : j < 6 := by have := cd_m G2.2.1; omega
      have fi := K.2.2.2.2.2.2.2.2.2.2.2.2.1 i i6
      have fj := K.2.2.2.2.2.2.2.2.2.2.2.2.1 j j6
      have ig : xia g3 0 207 (i : Int) = true := ia_207 Sg3 (by omega) (by omega)
      rw [if_neg (by omega), gM Sg3, G3.1.2.2.2.2.1, if_pos rfl]
      have bad : TR T L S h0 g0 p0 (f_X1_readFeud_J48 6 h3) (f_X12_feudTold_J50 173 (i : Int) (j : Int) g3) F1 F2 := by
        obtain ⟨h4, g4, a1, a2, a3, a4⟩ := go_3 G3 j8 j33
        unfold f_X1_readFeud_J48 f_X12_feudTold_J50
        rw [x16 Sh3, a1, bbind, xbo_ok (Or.inl rfl), gM Sg3, xM Sg3, a2, bbind, b59 _ _ _ _ a4]
        exact tr_bad a3
      by_cases y : i = j
      · rw [if_pos (show (i : Int) = (j : Int) by omega), if_pos (show (i : Int) = (j : Int) by omega)]
        exact bad
      · rw [if_neg (show ¬ (i : Int) = (j : Int) by omega), if_neg (show ¬ (i : Int) = (j : Int) by omega), g6k Sh3, cd_6 K, x0S (cd_S K), t_areFeud (cd_S K) i6, bbind, iff01, fi.1, gM Sg3, pt_173_42 Sg3]
        rw [show xal g3 0 207 (i : Int) = some (xm g3 207 i) from xal_eq (a := 207) ig rfl, bbind]
        by_cases z : xand (xshr (xm g3 207 i) (j : Int)) 1 = 1
        · rw [if_pos z, if_pos z]
          exact bad
        · obtain ⟨xi, hxi⟩ : ∃ n : Nat, xm g3 207 i = (n : Int) := ⟨(xm g3 207 i).toNat, by omega⟩
          obtain ⟨xj, hxj⟩ : ∃ n : Nat, xm g3 207 j = (n : Int) := ⟨(xm g3 207 j).toNat, by omega⟩
          have n3 : xm g3 199 2 = (n : Int) := ((N3.2.2.2 _ _ (dn_ne (by omega))).trans (N2.2.2.2 _ _ (dn_ne (by omega)))).trans hn
          have ad := t_addFeud (cd_S K) i6 j6 y (fi.1.trans hxi) (fj.1.trans hxj) (by omega) (by omega) (K.2.2.2.2.2.2.2.1.trans n3) (by omega)
          have af := t_feud59 Sg3 G3.1.2.2.2.2.1 i6 j6 y hxi hxj (by omega) (by omega) n3 (by omega)
          rw [if_neg z, if_neg z, g6k Sh3, cd_6 K, x0S (cd_S K), ad, bbind, af]
          have s2 := K.1.1
          refine tr_fin G3 (cd_feud K i6 j6 y (by omega) hxi hxj (by omega)) rfl rfl rfl (fun a k q => by rw [xm_xset, if_neg (by omega), xm_xset, if_neg (by omega), xm_xset, if_neg (by omega)]) ((((Fx.refl DG g3).set ?_).set ?_).set rfl) (fun a k q => by rw [xm_xset, if_neg (by omega), xm_xset, if_neg (by omega), xm_xset, if_neg (by omega)])
          · simp [DG, Nat.blt]; omega
          · simp [DG, Nat.blt]; omega
    · have b5 := B.1
      obtain ⟨e, -, B1⟩ := b5
      rw [if_pos rfl, gM B1.1, b_5 B1, b59 _ _ _ _ B1]
      exact tr_bad B
  · have b5 := B.1
    obtain ⟨e, -, B1⟩ := b5
    have o1 : f_X12_oneOf 173 1 g2 = some (0, g2) := b_oneOf B1 B.2.1 (k := 1) (by decide)
    rw [if_pos rfl, xM B1.1, o1, bbind, gM B1.1, b_5 B1, b59 _ _ _ _ B1]
    exact tr_bad B
end
/-! ===== holders told ===== -/
theorem t_addHolder {h : xa_H} {S n : Nat} (K : CS h S) (hn : xm h S 2 = (n : Int)) (h6 : n < 6) (v a b c : Int) : f_X0_addHolder (S : Int) v a b c h = some (xset (xset (xset (xset (xset h (S + 2) n v) (S + 8) n a) (S + 9) n b) (S + 10) n c) S 2 ((n + 1 : Nat) : Int)) := by
  have o := CS.ok K
  have o7 := CS.okS K
  have n0 : (n : Int) < 6 := by omega
  have i2 : xia h 0 ((S + 2 : Nat) : Int) (n : Int) = true := cs_ia2 K (by omega) (by omega)
  have i8 : xia h 0 ((S + 8 : Nat) : Int) (n : Int) = true := K.ia 8 6 (by decide) (by decide +kernel) (by omega) (by omega)
  have i9 : xia h 0 ((S + 9 : Nat) : Int) (n : Int) = true := K.ia 9 6 (by decide) (by decide +kernel) (by omega) (by omega)
  have i10 : xia h 0 ((S + 10 : Nat) : Int) (n : Int) = true := K.ia 10 6 (by decide) (by decide +kernel) (by omega) (by omega)
  have p8 : xm h (S + 7) 1 = ((S + 8 : Nat) : Int) := K.2.2.2.2.2 0 (by decide)
  have p9 : xm h (S + 7) 2 = ((S + 9 : Nat) : Int) := K.2.2.2.2.2 1 (by decide)
  have p10 : xm h (S + 7) 3 = ((S + 10 : Nat) : Int) := K.2.2.2.2.2 2 (by decide)
  obtain ⟨H1, e1⟩ : ∃ z, z = xset h (S + 2) n v := ⟨_, rfl⟩
  obtain ⟨H2, e2⟩ : ∃ z, z = xset H1 (S + 8) n a := ⟨_, rfl⟩
  obtain ⟨H3, e3⟩ : ∃ z, z = xset H2 (S + 9) n b := ⟨_, rfl⟩
  obtain ⟨H4, e4⟩ : ∃ z, z = xset H3 (S + 10) n c := ⟨_, rfl⟩
  have r1 : ∀ q k, q = S ∨ q = S + 7 → xm H1 q k = xm h q k := fun q k g => by rw [e1, xm_xset, if_neg (by omega)]
  have r2 : ∀ q k, q = S ∨ q = S + 7 → xm H2 q k = xm h q k := fun q k g => by rw [e2, xm_xset, if_neg (by omega), r1 q k g]
  have r3 : ∀ q k, q = S ∨ q = S + 7 → xm H3 q k = xm h q k := fun q k g => by rw [e3, xm_xset, if_neg (by omega), r2 q k g]
  have r4 : ∀ q k, q = S ∨ q = S + 7 → xm H4 q k = xm h q k := fun q k g => by rw [e4, xm_xset, if_neg (by omega), r3 q k g]
  have q1 : xok H1 0 (S : Int) = true ∧ xok H1 9 ((S + 7 : Nat) : Int) = true ∧ xia H1 0 ((S + 8 : Nat) : Int) (n : Int) = true := by rw [e1]; exact ⟨o, o7, i8⟩
  have q2 : xok H2 0 (S : Int) = true ∧ xok H2 9 ((S + 7 : Nat) : Int) = true ∧ xia H2 0 ((S + 9 : Nat) : Int) (n : Int) = true := by rw [e2, e1]; exact ⟨o, o7, i9⟩
  have q3 : xok H3 0 (S : Int) = true ∧ xok H3 9 ((S + 7 : Nat) : Int) = true ∧ xia H3 0 ((S + 10 : Nat) : Int) (n : Int) = true := by rw [e3, e2, e1]; exact ⟨o, o7, i10⟩
  have q4 : xok H4 0 (S : Int) = true := by rw [e4, e3, e2, e1]; exact o
  have w1 : w32 ((n : Int) + 1) = ((n + 1 : Nat) : Int) := by rw [w32_id (by omega) (by omega)]; omega
  unfold f_X0_addHolder
  refine (bnd (xgf_eq o hn)).trans ?_
  rw [if_pos n0]
  refine (bnd (xgf_eq o (cs_p6 K))).trans ?_
  refine (bnd (xgf_eq o hn)).trans ?_
  refine (bnd (xas_eq i2)).trans ?_
  rw [← e1]
  refine (bnd (xgf_eq q1.1 ((r1 S 13 (Or.inl rfl)).trans (cs_p13 K)))).trans ?_
  refine (bnd (xgf_eq q1.2.1 ((r1 (S + 7) 1 (Or.inr rfl)).trans p8))).trans ?_
  refine (bnd (xgf_eq q1.1 ((r1 S 2 (Or.inl rfl)).trans hn))).trans ?_
  refine (bnd (xas_eq q1.2.2)).trans ?_
  rw [← e2]
  refine (bnd (xgf_eq q2.1 ((r2 S 13 (Or.inl rfl)).trans (cs_p13 K)))).trans ?_
  refine (bnd (xgf_eq q2.2.1 ((r2 (S + 7) 2 (Or.inr rfl)).trans p9))).trans ?_
  refine (bnd (xgf_eq q2.1 ((r2 S 2 (Or.inl rfl)).trans hn))).trans ?_
  refine (bnd (xas_eq q2.2.2)).trans ?_
  rw [← e3]
  refine (bnd (xgf_eq q3.1 ((r3 S 13 (Or.inl rfl)).trans (cs_p13 K)))).trans ?_
  refine (bnd (xgf_eq q3.2.1 ((r3 (S + 7) 3 (Or.inr rfl)).trans p10))).trans ?_
  refine (bnd (xgf_eq q3.1 ((r3 S 2 (Or.inl rfl)).trans hn))).trans ?_
  refine (bnd (xas_eq q3.2.2)).trans ?_
  rw [← e4]
  refine (bnd (xgf_eq q4 ((r4 S 2 (Or.inl rfl)).trans hn))).trans ?_
  rw [w1]
  exact (bnd (xpf_eq q4)).trans rfl
theorem cd_holder {h g : xa_H} {S n : Nat} (C : CD h g S) (hn : xm g 199 1 = (n : Int)) (h6 : n < 6) {v w a b c : Int} (nr : nmr v w) (ha : 0 ≤ a ∧ a < xm g 199 0) (hb : 0 ≤ b ∧ b < xm g 199 0) (hc : 0 ≤ c ∧ c ≤ 999) (hi : ∀ i : Nat, i < n → xm g 203 i ≠ a) :
    CD (xset (xset (xset (xset (xset h (S + 2) n v) (S + 8) n a) (S + 9) n b) (S + 10) n c) S 2 ((n + 1 : Nat) : Int)) (xset (xset (xset (xset (xset g 200 (6 + n) w) 203 n a) 204 n b) 205 n c) 199 1 ((n + 1 : Nat) : Int)) S := by
  obtain ⟨h', eh⟩ : ∃ z, z = xset (xset (xset (xset (xset h (S + 2) n v) (S + 8) n a) (S + 9) n b) (S + 10) n c) S 2 ((n + 1 : Nat) : Int) := ⟨_, rfl⟩
  obtain ⟨g', eg⟩ : ∃ z, z = xset (xset (xset (xset (xset g 200 (6 + n) w) 203 n a) 204 n b) 205 n c) 199 1 ((n + 1 : Nat) : Int) := ⟨_, rfl⟩
  rw [← eh, ← eg]
  have xnn : xn h' = xn h := by rw [eh]; rfl
  have xkk : xk h' = xk h := by rw [eh]; rfl
  have m : ∀ q k, (q ≠ S + 2 ∧ q ≠ S + 8 ∧ q ≠ S + 9 ∧ q ≠ S + 10) ∨ k ≠ n → (q ≠ S ∨ k ≠ 2) → xm h' q k = xm h q k := fun q k y1 y2 => by
    rw [eh, xm_xset, if_neg (by omega), xm_xset, if_neg (by omega), xm_xset, if_neg (by omega), xm_xset, if_neg (by omega), xm_xset, if_neg (by omega)]
  have k : ∀ q k, (q ≠ 203 ∧ q ≠ 204 ∧ q ≠ 205) ∨ k ≠ n → (q ≠ 200 ∨ k ≠ 6 + n) → (q ≠ 199 ∨ k ≠ 1) → xm g' q k = xm g q k := fun q k y1 y2 y3 => by
    rw [eg, xm_xset, if_neg (by omega), xm_xset, if_neg (by omega), xm_xset, if_neg (by omega), xm_xset, if_neg (by omega), xm_xset, if_neg (by omega)]
  have m2 : xm h' (S + 2) n = v := by rw [eh, xm_xset, if_neg (by omega), xm_xset, if_neg (by omega), xm_xset, if_neg (by omega), xm_xset, if_neg (by omega), xm_xset, if_pos ⟨rfl, rfl⟩]
  have m8 : xm h' (S + 8) n = a := by rw [eh, xm_xset, if_neg (by omega), xm_xset, if_neg (by omega), xm_xset, if_neg (by omega), xm_xset, if_pos ⟨rfl, rfl⟩]
  have m9 : xm h' (S + 9) n = b := by rw [eh, xm_xset, if_neg (by omega), xm_xset, if_neg (by omega), xm_xset, if_pos ⟨rfl, rfl⟩]
  have m10 : xm h' (S + 10) n = c := by rw [eh, xm_xset, if_neg (by omega), xm_xset, if_pos ⟨rfl, rfl⟩]
  have mS : xm h' S 2 = ((n + 1 : Nat) : Int) := by rw [eh, xm_xset, if_pos ⟨rfl, rfl⟩]
  have k0 : xm g' 200 (6 + n) = w := by rw [eg, xm_xset, if_neg (by omega), xm_xset, if_neg (by omega), xm_xset, if_neg (by omega), xm_xset, if_neg (by omega), xm_xset, if_pos ⟨rfl, rfl⟩]
  have k3 : xm g' 203 n = a := by rw [eg, xm_xset, if_neg (by omega), xm_xset, if_neg (by omega), xm_xset, if_neg (by omega), xm_xset, if_pos ⟨rfl, rfl⟩]
  have k4 : xm g' 204 n = b := by rw [eg, xm_xset, if_neg (by omega), xm_xset, if_neg (by omega), xm_xset, if_pos ⟨rfl, rfl⟩]
  have k5 : xm g' 205 n = c := by rw [eg, xm_xset, if_neg (by omega), xm_xset, if_pos ⟨rfl, rfl⟩]
  have k9 : xm g' 199 1 = ((n + 1 : Nat) : Int) := by rw [eg, xm_xset, if_pos ⟨rfl, rfl⟩]
  clear eh eg
  obtain ⟨⟨a1, a2, a3⟩, a4, a5, a6, a7, a8, a9, a10, a11, a12, a13, a14, a15, a16, a17, a18, a19, a20, a21, a22⟩ := C
  refine ⟨⟨a1, cs_same a2 xnn xkk (fun j _ _ _ _ _ _ => m _ _ (by omega) (by omega)) (fun j => m _ _ (by omega) (by omega)), by rw [m _ _ (by omega) (by omega)]; exact a3⟩, ?_⟩
  have c0 : xm g' 199 0 = xm g 199 0 := k _ _ (by omega) (by omega) (by omega)
  refine ⟨by rw [c0]; exact a4, by rw [k9]; omega, by rw [k _ _ (by omega) (by omega) (by omega)]; exact a6, by rw [k _ _ (by omega) (by omega) (by omega)]; exact a7, ?_, by rw [mS, k9], ?_, ?_, ?_, ?_, ?_, ?_, ?_, ?_, ?_, ?_, ?_, ?_, ?_⟩
  · rw [m _ _ (by omega) (by omega), c0]; exact a8
  · rw [m _ _ (by omega) (by omega), k _ _ (by omega) (by omega) (by omega)]; exact a10
  · rw [m _ _ (by omega) (by omega), k _ _ (by omega) (by omega) (by omega)]; exact a11
  · intro i hi'
    rw [c0] at hi'
    rw [m _ _ (by omega) (by omega), k _ _ (by omega) (by omega) (by omega)]
    exact a12 i hi'
  · intro i hi'
    rw [m _ _ (by omega) (by omega), k _ _ (by omega) (by omega) (by omega), c0]
    exact a13 i hi'
  · intro i hi'
    rw [m _ _ (by omega) (by omega), k _ _ (by omega) (by omega) (by omega)]
    exact a14 i hi'
  · intro i hi'
    rw [m _ _ (by omega) (by omega), k _ _ (by omega) (by omega) (by omega)]
    exact a15 i hi'
  · intro i j hi' hj
    rw [k _ _ (by omega) (by omega) (by omega), k _ _ (by omega) (by omega) (by omega)]
    exact a16 i j hi' hj
  · intro i hi'
    rw [c0] at hi'
    rw [m _ _ (by omega) (by omega), k _ _ (by omega) (by omega) (by omega)]
    exact a17 i hi'
  · intro i hi'
    rw [k9] at hi'
    by_cases z : i = n
    · subst z
      rw [m2, k0]
      exact nr
    · rw [m _ _ (by omega) (by omega), k _ _ (by omega) (by omega) (by omega)]
      exact a18 i (by omega)
  · intro i hi'
    rw [k9] at hi'
    rw [c0]
    by_cases z : i = n
    · subst z
      rw [m8, m9, m10, k3, k4, k5]
      exact ⟨⟨rfl, ha⟩, ⟨rfl, hb⟩, rfl, hc⟩
    · rw [m _ _ (by omega) (by omega), m _ _ (by omega) (by omega), m _ _ (by omega) (by omega), k 203 _ (by omega) (by omega) (by omega), k 204 _ (by omega) (by omega) (by omega), k 205 _ (by omega) (by omega) (by omega)]
      exact a19 i (by omega)
  · intro i j hi' hj hij
    rw [k9] at hi' hj
    by_cases z : i = n
    · by_cases y : j = n
      · omega
      · rw [z, k3, k 203 j (by omega) (by omega) (by omega)] at hij
        exact absurd hij.symm (hi j (by omega))
    · by_cases y : j = n
      · rw [y, k3, k 203 i (by omega) (by omega) (by omega)] at hij
        exact absurd hij (hi i (by omega))
      · rw [k 203 i (by omega) (by omega) (by omega), k 203 j (by omega) (by omega) (by omega)] at hij
        exact a20 i j (by omega) (by omega) hij
  · intro i hi' h6'
    rw [k9] at hi'
    rw [m _ _ (by omega) (by omega), m _ _ (by omega) (by omega), m _ _ (by omega) (by omega)]
    exact a21 i (by omega) h6'
  · refine ⟨fun i hi' => ?_, ?_, ?_⟩
    · rw [m _ _ (by omega) (by omega)]; exact a22.1 i hi'
    · rw [m _ _ (by omega) (by omega)]; exact a22.2.1
    · rw [m _ _ (by omega) (by omega)]; exact a22.2.2
