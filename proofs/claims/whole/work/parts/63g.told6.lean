/-! ===== values, sisters, feuds told ===== -/
theorem cs_same {h h' : xa_H} {S : Nat} (K : CS h S) (hn : xn h' = xn h) (hk : xk h' = xk h) (e : ∀ k, k ≠ 1 → k ≠ 2 → k ≠ 3 → k ≠ 4 → k ≠ 11 → k ≠ 12 → xm h' S k = xm h S k) (e7 : ∀ k, xm h' (S + 7) k = xm h (S + 7) k) : CS h' S := by
  obtain ⟨s1, s2, s3, s4, s5, s6⟩ := K
  exact ⟨s1, by omega, fun j hj => by rw [hk]; exact s3 j hj, fun j hj => by rw [e _ (by omega) (by omega) (by omega) (by omega) (by omega) (by omega)]; exact s4 j hj, by rw [e _ (by omega) (by omega) (by omega) (by omega) (by omega) (by omega)]; exact s5, fun j hj => by rw [e7]; exact s6 j hj⟩
theorem cd_val {h g : xa_H} {S : Nat} (C : CD h g S) {z : Nat} (hz : z < 36) {v : Int} (hv : 0 ≤ v ∧ v ≤ 99) : CD (xset h (S + 5) z v) (xset g 206 z v) S := by
  have m : ∀ a j, a ≠ S + 5 → xm (xset h (S + 5) z v) a j = xm h a j := fun a j q => by rw [xm_xset, if_neg (by omega)]
  have k : ∀ a j, a ≠ 206 → xm (xset g 206 z v) a j = xm g a j := fun a j q => by rw [xm_xset, if_neg (by omega)]
  obtain ⟨⟨a1, a2, a3⟩, a4, a5, a6, a7, a8, a9, a10, a11, a12, a13, a14, a15⟩ := C
  refine ⟨⟨a1, cs_same a2 rfl rfl (fun j _ _ _ _ _ _ => m _ _ (by omega)) (fun j => m _ _ (by omega)), by rw [m _ _ (by omega)]; exact a3⟩, ?_⟩
  simp (disch := omega) only [m, k]
  refine ⟨a4, a5, a6, a7, a8, a9, a10, a11, a12, a13, fun i hi => ?_, a15⟩
  rw [xm_xset, xm_xset]
  by_cases y : i = z
  · rw [if_pos ⟨rfl, y⟩, if_pos ⟨rfl, y⟩]
    exact ⟨rfl, hv⟩
  · rw [if_neg (by omega), if_neg (by omega)]
    exact a14 i hi
theorem cd_sis {h g : xa_H} {S : Nat} (C : CD h g S) {z : Nat} (hz : z < 6) {v : Int} (hv : 0 ≤ v ∧ v < xm g 199 0 ∧ v ≠ (z : Int)) : CD (xset h (S + 4) z v) (xset g 202 z v) S := by
  have m : ∀ a j, a ≠ S + 4 → xm (xset h (S + 4) z v) a j = xm h a j := fun a j q => by rw [xm_xset, if_neg (by omega)]
  have k : ∀ a j, a ≠ 202 → xm (xset g 202 z v) a j = xm g a j := fun a j q => by rw [xm_xset, if_neg (by omega)]
  obtain ⟨⟨a1, a2, a3⟩, a4, a5, a6, a7, a8, a9, a10, a11, a12, a13, a14⟩ := C
  refine ⟨⟨a1, cs_same a2 rfl rfl (fun j _ _ _ _ _ _ => m _ _ (by omega)) (fun j => m _ _ (by omega)), by rw [m _ _ (by omega)]; exact a3⟩, ?_⟩
  simp (disch := omega) only [m, k]
  refine ⟨a4, a5, a6, a7, a8, a9, a10, a11, a12, fun i hi => ?_, a14⟩
  rw [xm_xset, xm_xset]
  by_cases y : i = z
  · rw [if_pos ⟨rfl, y⟩, if_pos ⟨rfl, y⟩]
    exact ⟨rfl, by omega, by omega, by omega⟩
  · rw [if_neg (by omega), if_neg (by omega)]
    exact a13 i hi
theorem cd_feud {h g : xa_H} {S : Nat} (C : CD h g S) {a b : Nat} (ha : a < 6) (hb : b < 6) (hab : a ≠ b) (h10 : xm g 199 2 < 10) {x y : Nat} (hx : xm g 207 a = (x : Int)) (hy : xm g 207 b = (y : Int)) {c : Int} (hc : c = xm g 199 2 + 1) :
    CD (xset (xset (xset h (S + 6) a ((x ||| 2 ^ b : Nat) : Int)) (S + 6) b ((y ||| 2 ^ a : Nat) : Int)) S 3 c) (xset (xset (xset g 207 a ((x ||| 2 ^ b : Nat) : Int)) 207 b ((y ||| 2 ^ a : Nat) : Int)) 199 2 c) S := by
  obtain ⟨h', eh⟩ : ∃ z, z = xset (xset (xset h (S + 6) a ((x ||| 2 ^ b : Nat) : Int)) (S + 6) b ((y ||| 2 ^ a : Nat) : Int)) S 3 c := ⟨_, rfl⟩
  obtain ⟨g', eg⟩ : ∃ z, z = xset (xset (xset g 207 a ((x ||| 2 ^ b : Nat) : Int)) 207 b ((y ||| 2 ^ a : Nat) : Int)) 199 2 c := ⟨_, rfl⟩
  rw [← eh, ← eg]
  have xnn : xn h' = xn h := by rw [eh]; rfl
  have xkk : xk h' = xk h := by rw [eh]; rfl
  have m : ∀ q j, q ≠ S + 6 → (q ≠ S ∨ j ≠ 3) → xm h' q j = xm h q j := fun q j q1 q2 => by rw [eh, xm_xset, if_neg (by omega), xm_xset, if_neg (by omega), xm_xset, if_neg (by omega)]
  have k : ∀ q j, q ≠ 207 → (q ≠ 199 ∨ j ≠ 2) → xm g' q j = xm g q j := fun q j q1 q2 => by rw [eg, xm_xset, if_neg (by omega), xm_xset, if_neg (by omega), xm_xset, if_neg (by omega)]
  have m3 : xm h' S 3 = c := by rw [eh, xm_xset, if_pos ⟨rfl, rfl⟩]
  have k3 : xm g' 199 2 = c := by rw [eg, xm_xset, if_pos ⟨rfl, rfl⟩]
  have mf : ∀ i, xm h' (S + 6) i = if i = b then ((y ||| 2 ^ a : Nat) : Int) else if i = a then ((x ||| 2 ^ b : Nat) : Int) else xm h (S + 6) i := fun i => by
    rw [eh, xm_xset, if_neg (by omega), xm_xset, xm_xset]
    by_cases q : i = b
    · rw [if_pos ⟨rfl, q⟩, if_pos q]
    · rw [if_neg (by omega), if_neg q]
      by_cases q2 : i = a
      · rw [if_pos ⟨rfl, q2⟩, if_pos q2]
      · rw [if_neg (by omega), if_neg q2]
  have kf : ∀ i, xm g' 207 i = if i = b then ((y ||| 2 ^ a : Nat) : Int) else if i = a then ((x ||| 2 ^ b : Nat) : Int) else xm g 207 i := fun i => by
    rw [eg, xm_xset, if_neg (by omega), xm_xset, xm_xset]
    by_cases q : i = b
    · rw [if_pos ⟨rfl, q⟩, if_pos q]
    · rw [if_neg (by omega), if_neg q]
      by_cases q2 : i = a
      · rw [if_pos ⟨rfl, q2⟩, if_pos q2]
      · rw [if_neg (by omega), if_neg q2]
  clear eh eg
  obtain ⟨⟨a1, a2, a3⟩, a4, a5, a6, a7, a8, a9, a10, a11, a12, a13, a14, a15, a16, a17⟩ := C
  have xb := (a15 a ha).2
  have yb := (a15 b hb).2
  have ox := (b_set x (by omega) b hb).2
  have oy := (b_set y (by omega) a ha).2
  refine ⟨⟨a1, cs_same a2 xnn xkk (fun j _ _ _ _ _ _ => m _ _ (by omega) (by omega)) (fun j => m _ _ (by omega) (by omega)), by rw [m _ _ (by omega) (by omega)]; exact a3⟩, ?_⟩
  simp (disch := omega) only [m, k, m3, k3]
  refine ⟨a4, a5, by omega, a7, a8, a9, trivial, a11, a12, a13, a14, fun i hi => ?_, fun i j hi hj => ?_, a17⟩
  · have := a15 i hi
    rw [mf, kf]
    by_cases q : i = b
    · rw [if_pos q, if_pos q]
      exact ⟨rfl, by omega, by omega⟩
    · rw [if_neg q, if_neg q]
      by_cases q2 : i = a
      · rw [if_pos q2, if_pos q2]
        exact ⟨rfl, by omega, by omega⟩
      · rw [if_neg q2, if_neg q2]
        exact this
  · -- as bits of numbers
    have nf : ∀ i, i < 6 → ∃ z : Nat, z < 64 ∧ xm g 207 i = (z : Int) := fun i hi => ⟨(xm g 207 i).toNat, by have := a15 i hi; omega, by have := a15 i hi; omega⟩
    have bt : ∀ (z : Nat), z < 64 → ∀ j : Nat, j < 6 → (xand (xshr (z : Int) (j : Int)) 1 = 1 ↔ z.testBit j = true) := fun z hz j hj => by
      rw [b_bit z hz j hj]
      split <;> simp_all
    have sy : ∀ i j zi zj, i < 6 → j < 6 → zi < 64 → zj < 64 → xm g 207 i = ((zi : Nat) : Int) → xm g 207 j = ((zj : Nat) : Int) → (zi.testBit j = true ↔ zj.testBit i = true) := fun i j zi zj hi hj z1 z2 e1 e2 => by
      have := a16 i j hi hj
      rw [e1, e2, bt zi z1 j hj, bt zj z2 i hi] at this
      exact this
    obtain ⟨zi, zi1, zi2⟩ := nf i hi
    obtain ⟨zj, zj1, zj2⟩ := nf j hj
    have tp : ∀ n m : Nat, (2 ^ n).testBit m = decide (n = m) := fun n m => Nat.testBit_two_pow
    have val : ∀ i z, i < 6 → z < 64 → xm g 207 i = ((z : Nat) : Int) → ∃ w : Nat, w < 64 ∧ xm g' 207 i = (w : Int) ∧ ∀ j, w.testBit j = (z.testBit j || decide ((i = a ∧ j = b) ∨ (i = b ∧ j = a))) := by
      intro i z hi hz e
      rw [kf]
      by_cases q : i = b
      · subst q
        have : z = y := by omega
        subst this
        refine ⟨z ||| 2 ^ a, oy, by rw [if_pos rfl], fun j => ?_⟩
        rw [Nat.testBit_or, tp]
        congr 1
        rw [decide_eq_decide]
        omega
      · by_cases q2 : i = a
        · subst q2
          have : z = x := by omega
          subst this
          refine ⟨z ||| 2 ^ b, ox, by rw [if_neg q, if_pos rfl], fun j => ?_⟩
          rw [Nat.testBit_or, tp]
          congr 1
          rw [decide_eq_decide]
          omega
        · refine ⟨z, hz, by rw [if_neg q, if_neg q2]; exact e, fun j => ?_⟩
          rw [decide_eq_false (by omega), Bool.or_false]
    obtain ⟨wi, wi1, wi2, wi3⟩ := val i zi hi zi1 zi2
    obtain ⟨wj, wj1, wj2, wj3⟩ := val j zj hj zj1 zj2
    have s0 := sy i j zi zj hi hj zi1 zj1 zi2 zj2
    rw [wi2, wj2, bt wi wi1 j hj, bt wj wj1 i hi, wi3 j, wj3 i]
    simp only [Bool.or_eq_true, decide_eq_true_eq]
    rw [s0]
    constructor <;> rintro (q | q)
    · exact Or.inl q
    · exact Or.inr (by omega)
    · exact Or.inl q
    · exact Or.inr (by omega)
section
variable {T : Nat → Int} {L S F1 F2 : Nat} {h0 g0 : xa_H} {p0 : Nat} {h g : xa_H} {p : Nat} {b : Bool}
/-- behind the statement's word -/
theorem go_0 (C0 : Cx T L h0 p0 b) (R0 : Rx T L g0 (tk_n T L p0 b).1 (tk_n T L p0 b).2) (C : CD h0 g0 S) (CFh : CF h0 g0 S F1 F2 p0) : ∃ h1, f_X6_step 2 h0 = some h1 ∧ GO T L S F1 F2 h0 g0 p0 h1 g0 (tk_n T L p0 b).1 (tk_n T L p0 b).2 := by
  obtain ⟨h1, e1, C1, D1⟩ := s_step C0
  exact ⟨h1, e1, ⟨C1, R0⟩, cd_lex C D1 (Fx.refl _ _), cf_lex CFh (cd_S C) C.1.1 n_ge D1 (Fx.refl _ _), DC_GX D1, Fx.refl _ _, n_ge, D1.1, D1.2.1⟩
theorem t_val (C0 : Cx T L h0 p0 b) (R0 : Rx T L g0 (tk_n T L p0 b).1 (tk_n T L p0 b).2) (C : CD h0 g0 S) (CFh : CF h0 g0 S F1 F2 p0) : TR T L S h0 g0 p0 (f_X1_readValue 6 h0) (f_X12_valuesTold 173 g0) F1 F2 := by
  have Sh := C0.1.1
  obtain ⟨h1, e1, G1⟩ := go_0 C0 R0 C CFh
  have Sh1 := G1.1.1.1.1
  obtain ⟨v2, w2, h2, g2, e2, e2', o2⟩ := go_holder G1
  unfold f_X1_readValue f_X12_valuesTold
  rw [r60 Sh, x62 Sh, e1, bbind, x16 Sh1, e2, bbind, xM R0.1, e2', bbind]
  rcases o2 with ⟨i, rfl, rfl, i1, G2, -, N2, -⟩ | ⟨rfl, rfl, B⟩
  · have Sh2 := G2.1.1.1.1
    have Sg2 := G2.1.2.1
    obtain ⟨v3, w3, h3, g3, e3, e3', o3⟩ := go_held G2
    rw [if_neg (by omega), x16 Sh2, e3, bbind, xM Sg2, e3', bbind]
    rcases o3 with ⟨j, rfl, rfl, j1, G3, -, N3, -⟩ | ⟨rfl, rfl, B⟩
    · have Sh3 := G3.1.1.1.1
      have Sg3 := G3.1.2.1
      obtain ⟨v4, w4, h4, g4, e4, e4', o4⟩ := go_num G3 (most := 99) (by decide)
      rw [if_neg (by omega), r60 Sh3, x62 Sh3, e4, bbind, xM Sg3, e4', bbind]
      rcases o4 with ⟨rfl, q1, q2, q3, G4, -, N4⟩ | ⟨rfl, B⟩
      · have Sh4 := G4.1.1.1.1
        have Sg4 := G4.1.2.1
        have K := G4.2.1
        have cm := cd_m K
        have i6 : i < 6 := by have := cd_m C; omega
        have j6 : j < 6 := by have := cd_m G2.2.1; omega
        have ix : xia h4 0 ((S + 5 : Nat) : Int) ((i * 6 + j : Nat) : Int) = true := cs_ia5 (cd_S K) (by omega) (by omega)
        have ig : xia g4 0 206 ((i * 6 + j : Nat) : Int) = true := ia_206 Sg4 (by omega) (by omega)
        rw [if_neg q1, g6k Sh4, cd_6 K, gCS (cd_S K), cs_p9 (cd_S K), gM Sg4, G4.1.2.2.2.2.1, if_pos rfl, gM Sg4, pt_173_41 Sg4]
        rw [w32_id (z := (i : Int) * 6) (by omega) (by omega), w32_id (z := (i : Int) * 6 + (j : Int)) (by omega) (by omega), w32_id (z := 6 * (i : Int)) (by omega) (by omega), w32_id (z := 6 * (i : Int) + (j : Int)) (by omega) (by omega), show (i : Int) * 6 + (j : Int) = ((i * 6 + j : Nat) : Int) by omega, show 6 * (i : Int) + (j : Int) = ((i * 6 + j : Nat) : Int) by omega, xas_eq ix, show xas g4 0 206 ((i * 6 + j : Nat) : Int) v4 = some (xset g4 206 (i * 6 + j) v4) from xas_eq (a := 206) ig, bbind, bbind]
        have s2 := K.1.1
        refine tr_fin G4 (cd_val K (by omega) ⟨q2, q3⟩) rfl rfl rfl (fun a k q => by rw [xm_xset, if_neg (by omega)]) ((Fx.refl DG g4).set ?_) (fun a k q => by rw [xm_xset, if_neg (by omega)])
        simp [DG, Nat.blt]
        omega
      · have b5 := B.1
        obtain ⟨e, -, B1⟩ := b5
        rw [if_pos rfl, gM B1.1, b_5 B1]
        exact tr_bad B
    · have b5 := B.1
      obtain ⟨e, -, B1⟩ := b5
      rw [if_pos rfl, xM B1.1, b_number B1, bbind, gM B1.1, b_5 B1]
      exact tr_bad B
  · have b5 := B.1
    obtain ⟨e, -, B1⟩ := b5
    have o1 : f_X12_oneOf 173 0 g2 = some (0, g2) := b_oneOf B1 B.2.1 (k := 0) (by decide)
    rw [if_pos rfl, xM B1.1, o1, bbind, xM B1.1, b_number B1, bbind, gM B1.1, b_5 B1]
    exact tr_bad B
theorem t_sis (C0 : Cx T L h0 p0 b) (R0 : Rx T L g0 (tk_n T L p0 b).1 (tk_n T L p0 b).2) (C : CD h0 g0 S) (CFh : CF h0 g0 S F1 F2 p0) : TR T L S h0 g0 p0 (f_X1_readSister 6 h0) (f_X12_sisterTold 173 g0) F1 F2 := by
  have Sh := C0.1.1
  obtain ⟨h1, e1, G1⟩ := go_0 C0 R0 C CFh
  have Sh1 := G1.1.1.1.1
  obtain ⟨v2, w2, h2, g2, e2, e2', o2⟩ := go_held G1
  -- behind a fault
  have bj : ∀ (v : Int) (hb gb : xa_H), BD S h0 g0 hb gb → f_X12_sisterTold_J32 173 v gb = some gb := by
    intro v hb gb B
    obtain ⟨⟨e, -, B1⟩, ct, -⟩ := B
    have o1 : f_X12_oneOf 173 0 gb = some (0, gb) := b_oneOf B1 ct (k := 0) (by decide)
    unfold f_X12_sisterTold_J32 f_X12_sisterTold_J59
    rw [xM B1.1, o1, bbind, gM B1.1, b_5 B1, gM B1.1, b_5 B1]
  unfold f_X1_readSister f_X12_sisterTold
  rw [r60 Sh, x62 Sh, e1, bbind, x16 Sh1, e2, bbind, xM R0.1, e2', bbind]
  rcases o2 with ⟨i, rfl, rfl, i1, G2, -, N2, i8, i33⟩ | ⟨rfl, rfl, B⟩
  · have Sh2 := G2.1.1.1.1
    have Sg2 := G2.1.2.1
    have K2 := G2.2.1
    have i6 : i < 6 := by have := cd_m C; omega
    have ix : xia h2 0 ((S + 4 : Nat) : Int) (i : Int) = true := cs_ia4 (cd_S K2) (by omega) (by omega)
    have ig : xia g2 0 202 (i : Int) = true := ia_202 Sg2 (by omega) (by omega)
    have sv := (K2.2.2.2.2.2.2.2.2.2.2.1 i i6).1
    rw [if_neg (by omega), g6k Sh2, cd_6 K2, gCS (cd_S K2), cs_p8 (cd_S K2), xal_eq ix sv, bbind, gM Sg2, G2.1.2.2.2.2.1, if_pos rfl, gM Sg2, pt_173_37 Sg2, show xal g2 0 202 (i : Int) = some (xm g2 202 i) from xal_eq (a := 202) ig rfl, bbind]
    by_cases z : xm g2 202 i = -1
    · obtain ⟨v3, w3, h3, g3, e3, e3', o3⟩ := go_held G2
      rw [if_pos z, if_pos z, x16 Sh2, e3, bbind]
      unfold f_X12_sisterTold_J32
      rw [xM Sg2, e3', bbind]
      rcases o3 with ⟨j, rfl, rfl, j1, G3, -, N3, j8, j33⟩ | ⟨rfl, rfl, B⟩
      · have Sh3 := G3.1.1.1.1
        have Sg3 := G3.1.2.1
        have K3 := G3.2.1
        rw [if_neg (by omega), gM Sg3, G3.1.2.2.2.2.1, if_pos rfl]
        by_cases y : j = i
        · obtain ⟨h4, g4, a1, a2, a3, a4⟩ := go_3 G3 j8 j33
          rw [if_pos (show (j : Int) = (i : Int) by omega), if_pos (show (i : Int) = (j : Int) by omega), x16 Sh3, a1, bbind, xbo_ok (Or.inl rfl), gM Sg3, xM Sg3, a2, bbind]
          unfold f_X12_sisterTold_J59
          rw [gM a4.1, b_5 a4]
          exact tr_bad a3
        · have jx : xia h3 0 ((S + 4 : Nat) : Int) (i : Int) = true := cs_ia4 (cd_S K3) (by omega) (by omega)
          have jg : xia g3 0 202 (i : Int) = true := ia_202 Sg3 (by omega) (by omega)
          rw [if_neg (show ¬ (j : Int) = (i : Int) by omega), if_neg (show ¬ (i : Int) = (j : Int) by omega), g6k Sh3, cd_6 K3, gCS (cd_S K3), cs_p8 (cd_S K3), xas_eq jx, bbind]
          unfold f_X12_sisterTold_J59
          rw [gM Sg3, G3.1.2.2.2.2.1, if_pos rfl, gM Sg3, pt_173_37 Sg3, show xas g3 0 202 (i : Int) (j : Int) = some (xset g3 202 i (j : Int)) from xas_eq (a := 202) jg, bbind]
          have s2 := K3.1.1
          have n0 : xm g3 199 0 = xm g2 199 0 := N3.2.2.2 _ _ (dn_ne (by omega))
          refine tr_fin G3 (cd_sis K3 i6 ⟨by omega, by omega, by omega⟩) rfl rfl rfl (fun a k q => by rw [xm_xset, if_neg (by omega)]) ((Fx.refl DG g3).set ?_) (fun a k q => by rw [xm_xset, if_neg (by omega)])
          simp [DG, Nat.blt]
          omega
      · have b5 := B.1
        obtain ⟨e, -, B1⟩ := b5
        unfold f_X12_sisterTold_J59
        rw [if_pos rfl, gM B1.1, b_5 B1, gM B1.1, b_5 B1]
        exact tr_bad B
    · obtain ⟨h4, g4, a1, a2, a3, a4⟩ := go_3 G2 i8 i33
      rw [if_neg z, if_neg z, x16 Sh2, a1, bbind, xbo_ok (Or.inl rfl), gM Sg2, xM Sg2, a2, bbind, bj _ h4 g4 a3]
      exact tr_bad a3
  · have b5 := B.1
    obtain ⟨e, -, B1⟩ := b5
    rw [if_pos rfl, gM B1.1, b_5 B1, bj _ h2 g2 B]
    exact tr_bad B
end
