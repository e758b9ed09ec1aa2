/-! ===== open ===== -/
theorem dv_ne {a k : Nat} (h : ¬ (199 ≤ a ∧ a ≤ 212)) (h2 : ¬ (a = 173 ∧ (k = 60 ∨ k = 70 ∨ k = 74))) : DV a k = false := by
  unfold DV
  simp
  omega
theorem told_fr {h h5 h' : xa_H} {S : Nat} (hS : S = xn h) (a7 : ∀ a k, a < xn h → DB6 a k = false → xm h5 a k = xm h a k) (n5 : xn h ≤ xn h5) (G : GX S h5 h') {a k : Nat} (ha : a < xn h) (q : ¬ (a = 2 ∨ a = 4 ∨ a = 5 ∨ (a = 6 ∧ k = 2))) : xm h' a k = xm h a k := by
  rw [G.2.2 a k (by omega) (by omega) (by omega) (by omega) (by omega)]
  refine a7 a k ha ?_
  unfold DB6
  simp
  omega
theorem c_open {h : xa_H} {s F1 F2 T2 T3 : Nat} (R : RR h s F1 F2 T2 T3) : CallOK h (f_X11_open 0 h) (f_X12_open 173) := by
  have Sh := rr_S R
  obtain ⟨t1, t2, t3, t4⟩ := rr_t R
  have h249 : 249 ≤ xn h := Sh.1
  obtain ⟨L, eL⟩ : ∃ L : Nat, xm h 173 1 = (L : Int) := ⟨(xm h 173 1).toNat, by omega⟩
  have hL : L ≤ 1600 := by omega
  have eL0 : xm h 0 1 = (L : Int) := t2.trans eL
  obtain ⟨T, eT⟩ : ∃ T, T = xm h 174 := ⟨_, rfl⟩
  obtain ⟨h0, e0⟩ : ∃ z, z = xset h 0 1 0 := ⟨_, rfl⟩
  have S0 : SH h0 := by rw [e0]; exact Sh.set (by decide +kernel)
  have n0 : xn h0 = xn h := by rw [e0]; rfl
  have z0 : xz h0 = xz h := by rw [e0]; rfl
  have k0 : xk h0 = xk h := by rw [e0]; rfl
  have m0 : ∀ a k, ¬ (a = 0 ∧ k = 1) → xm h0 a k = xm h a k := fun a k q => by rw [e0, xm_xset, if_neg q]
  have v0 : xm h0 0 1 = 0 := by rw [e0, xm_xset, if_pos ⟨rfl, rfl⟩]
  have hT : ∀ k, k < 1600 → xm h0 1 k = sx8 (T k) ∧ 0 ≤ T k ∧ T k < 256 := fun k hk => by
    have := t1 k hk
    rw [m0 1 k (by omega), eT]
    exact ⟨this.2.2, this.1, this.2.1⟩
  have gT0 : xm h0 174 = T := by rw [eT]; exact funext fun k => m0 174 k (by omega)
  obtain ⟨h5, ga, v, h', gb, rd, -, lz, ⟨a4, a5, a6, a7⟩, -, -, f0⟩ := t_told S0 S0 hT hL gT0 ((m0 173 1 (by omega)).trans eL)
  rw [e0] at rd
  rcases lz with ⟨rfl, n, p, b, A, eN⟩ | ⟨rfl, P, G, -, x1, x2⟩
  · -- no fault
    obtain ⟨⟨Cc, -⟩, K, -, -, G, -, -, -⟩ := A
    obtain ⟨S, eS⟩ : ∃ S, S = xn h0 := ⟨_, rfl⟩
    rw [← eS] at K G eN rd
    have fr : ∀ a k, a < xn h → ¬ (a = 2 ∨ a = 4 ∨ a = 5 ∨ (a = 6 ∧ k = 2)) → xm h' a k = xm h0 a k := fun a k y1 y2 => told_fr eS a7 (by omega) G (by omega) y2
    have K0 := K
    have S' : SH h' := Cc.1.1
    have nh' : xn h ≤ xn h' := by have := G.1.1; omega
    have kh' : ∀ a, a < xn h → xk h' a = xk h a := fun a ha => by rw [G.2.1 a (by omega), a6 a (by omega), k0]
    obtain ⟨⟨b1, b2, b3⟩, b4, b5, b6, b7, b8, b9, b10, b11, -, -, -, -, -, -, -, b19, -⟩ := K
    obtain ⟨m, em⟩ : ∃ m : Nat, xm gb 199 0 = (m : Int) := ⟨(xm gb 199 0).toNat, by omega⟩
    obtain ⟨k, ek⟩ : ∃ k : Nat, xm gb 199 1 = (k : Int) := ⟨(xm gb 199 1).toNat, by omega⟩
    have hmk : 0 < m ∨ k = 0 := by
      by_cases y : k = 0
      · exact Or.inr y
      · have := (b19 0 (by omega)).1
        omega
    obtain ⟨H, o1, o2, o3, o4, o5, o6, o7, o8, o9, o10, o11, o12, o13, o14, o15, o16, o17, o18, o19⟩ := c_openG Sh eL0 rd S' b2 b1 (n := k) (m := m) (by omega) (by omega) hmk (by rw [b9, ek]) (by rw [b8, em]) (xm h 222)
    have frH : ∀ a k, a < xn h → ¬ (a = 2 ∨ a = 4 ∨ a = 5 ∨ (a = 6 ∧ k = 2)) → ¬ DY a k → xm H a k = xm h0 a k := fun a k y1 y2 y3 => (o6 a k y3).trans (fr a k y1 y2)
    -- the reference
    have gT : xm H 174 = T := by
      rw [← gT0]
      exact funext fun k => frH 174 k (by omega) (by omega) (by unfold DY; omega)
    have g1 : xm H 173 1 = (L : Int) := (frH 173 1 (by omega) (by omega) (by unfold DY; omega)).trans ((m0 173 1 (by omega)).trans eL)
    obtain ⟨h5', g5, v', h'', g', rd', op, lz, ⟨a4', a5', -, -⟩, c1, c2, f0'⟩ := t_told S0 o2 hT hL gT g1
    rw [e0, rd] at rd'
    have rd2 := Option.some.inj rd'
    have rd3 := congrArg Prod.fst rd2
    have rd4 := congrArg Prod.snd rd2
    dsimp only at rd3 rd4
    subst rd3 rd4
    rcases lz with ⟨-, n', p', b', A, eN'⟩ | ⟨y, -⟩
    · obtain ⟨⟨Cx', Rx'⟩, K, ⟨E1, E2, KF⟩, ⟨q48, -⟩, G', D', xn1, xz1⟩ := A
      rw [← eS] at K KF G' eN'
      have en : n = n' := by have := eN.symm.trans eN'; omega
      subst en
      have fl := fcn_le g'
      have nb : xn h' ≤ xn h + 19 := by omega
      have zb : xz h' ≤ xz h + 3503 := by omega
      have zb2 : xz h ≤ xz h' := by have := G.1.2; omega
      obtain ⟨GG, eG⟩ : ∃ z, z = xset (xset g' 173 7 0) 173 8 (-1) := ⟨_, rfl⟩
      have mG : ∀ a k, ¬ (a = 173 ∧ (k = 7 ∨ k = 8)) → xm GG a k = xm g' a k := fun a k y => by rw [eG, xm_xset, if_neg (by omega), xm_xset, if_neg (by omega)]
      have SG' : SH g' := Rx'.1
      have SG : SH GG := by rw [eG]; exact (SG'.set (by decide +kernel)).set (by decide +kernel)
      obtain ⟨l, el⟩ : ∃ l : Nat, xm g' 173 47 = (l : Int) := ⟨(xm g' 173 47).toNat, by have := KF.2.2.2.2.2.1; omega⟩
      have hl : l ≤ 1600 := by
        have y1 := KF.2.2.2.2.2.1.2
        have y2 := Cx'.2.1
        omega
      have c5 := K.2.2.1
      obtain ⟨kk, ekk⟩ : ∃ kk : Nat, xm g' 199 1 = (kk : Int) := ⟨(xm g' 199 1).toNat, by omega⟩
      obtain ⟨g2, st, s1, s2, s3, s4, s5, s6, s7, s8, s9, s10, s11, s12, s13, s14⟩ := r_stands SG (n := kk) (l := l) (by rw [mG _ _ (by omega)]; exact ekk) (by omega) (by rw [mG _ _ (by omega)]; exact el) hl
      have fin := r_good Rx' (by rw [← eG]; exact st) s1
      have eR : ∀ a k, ¬ DXr a k → DV a k = false → xm g2 a k = xm H a k := fun a k y1 y2 => by
        have d := do_ne y1
        have d2 : DH a k = false := by
          unfold DO at d
          simp only [Bool.or_eq_false_iff] at d
          exact d.1
        rw [s2.2.2.2 a k y2, mG a k (by unfold DXr at y1; omega), D'.2.2.2 a k d2, c2.2.2.2 a k d]
      have eD : ∀ a k, ¬ DXr a k → ¬ (199 ≤ a ∧ a ≤ 212) → ¬ (a = 173 ∧ (k = 60 ∨ k = 70 ∨ k = 74)) → ¬ DY a k → xm g2 a k = xm h' a k := fun a k y1 y2 y3 y4 => (eR a k y1 (dv_ne y2 y3)).trans (o6 a k y4)
      have eA : ∀ a k, a < xn h → ¬ DXr a k → ¬ (199 ≤ a ∧ a ≤ 212) → ¬ (a = 173 ∧ (k = 60 ∨ k = 70 ∨ k = 74)) → ¬ DY a k → ¬ (a = 2 ∨ a = 4 ∨ a = 5 ∨ (a = 6 ∧ k = 2)) → xm g2 a k = xm h0 a k := fun a k y0 y1 y2 y3 y4 y5 => (eD a k y1 y2 y3 y4).trans (fr a k y0 y5)
      have eB : ∀ a k, 249 ≤ a → xm g2 a k = xm h' a k := fun a k y => eD a k (by unfold DXr; omega) (by omega) (by omega) (by unfold DY; omega)
      have ng2 : xn g2 = xn h' := by rw [s2.1, eG]; show xn g' = xn h'; rw [D'.1, c2.1, o3]
      have zg2 : xz g2 = xz h' := by rw [s2.2.1, eG]; show xz g' = xz h'; rw [D'.2.1, c2.2.1, o4]
      have kg2 : xk g2 = xk h' := by rw [s2.2.2.1, eG]; show xk g' = xk h'; rw [D'.2.2.1, c2.2.2.1, o5]
      have j3 : ∀ a k, 20 ≤ a → a ≤ 171 → xm g2 a k = xm H a k := fun a k y1 y2 => eR a k (by unfold DXr; omega) (dv_ne (by omega) (by omega))
      have ek2 : kk = k := by have := b9.symm.trans K.2.2.2.2.2.2.1; omega
      subst ek2
      have em2 : xm g' 199 0 = (m : Int) := by rw [← K.2.2.2.2.2.1, b8, em]
      have e93 : xm g2 199 3 = xm g' 199 0 := by have := (s3 0 (by omega)).2; rw [mG _ _ (by omega)] at this; exact this
      have e94 : xm g2 199 4 = xm g' 199 1 := by have := (s3 1 (by omega)).2; rw [mG _ _ (by omega)] at this; exact this
      have sl : slen 1 = 6 ∧ slen 2 = 6 ∧ slen 3 = 6 ∧ slen 4 = 36 := ⟨rfl, rfl, rfl, rfl⟩
      have Rcc : Rc g2 S := rc_of K (by rw [eR 0 5 (by unfold DXr; omega) (dv_ne (by omega) (by omega))]; exact o7) (by omega) (fun a _ => by rw [kg2]) (fun a k y1 y2 => eB a k (by omega)) (fun k hk => by rw [(s3 k hk).2, mG _ _ (by omega)]) (by rw [s7, mG _ _ (by omega)]) (fun k hk => by rw [s6 k hk, mG _ _ (by omega)]) (fun a k ha hk => by rw [s5 a k ha hk, mG _ _ (by omega)]) (fun k hk => by rw [s4 k hk, mG _ _ (by omega)])
      have fo : ∀ w F, w < 2 → FOt h' g' S w F → RFo g2 S w F := fun w F hw o => fo_of o el hl (by omega) (fun a _ => by rw [kg2]) (eB _ _ (by omega)) (fun a k _ y2 _ => eB a k (by omega)) (by rw [s8 209 w (Or.inl rfl) hw, mG _ _ (by omega)]) (by rw [s8 210 w (Or.inr rfl) hw, mG _ _ (by omega)]) (fun k hk => by rw [s9 k hk, mG _ _ (by omega)])
      have Rff : RFs g2 S E1 E2 := ⟨fo 0 E1 (by omega) KF.1, fo 1 E2 (by omega) KF.2.1, KF.2.2.1, KF.2.2.2.1, KF.2.2.2.2.1⟩
      have Rnn : Rn g2 := rn_of K ekk ((j3 20 0 (by omega) (by omega)).trans o8) ((j3 20 6 (by omega) (by omega)).trans o9) (fun k hk => (j3 21 k (by omega) (by omega)).trans (o10 1 k (by omega) (by omega) (by omega))) (fun k hk => (j3 22 k (by omega) (by omega)).trans (o10 2 k (by omega) (by omega) (by omega))) (fun k hk => (j3 23 k (by omega) (by omega)).trans (o10 3 k (by omega) (by omega) (by omega))) (fun k hk => (j3 24 k (by omega) (by omega)).trans (o10 4 k (by omega) (by omega) (by omega)))
        (fun i hi => by have := s10 i hi; rw [mG 203 _ (by omega), mG 204 _ (by omega), mG 205 _ (by omega)] at this; exact this) s11 e93 e94
      have Rtt : Rt g2 := by
        have x01 : xm g2 0 1 = 0 := by rw [eA 0 1 (by omega) (by unfold DXr; omega) (by omega) (by omega) (by unfold DY; omega) (by omega), v0]
        have x31 : xm g2 173 1 = 0 := by rw [s2.2.2.2 173 1 rfl, mG 173 1 (by omega), D'.2.2.2 173 1 rfl, c1]
        refine ⟨fun k hk => ?_, by rw [x01, x31], by rw [x31]; decide, by rw [x31]; decide⟩
        rw [eA 174 k (by omega) (by unfold DXr; omega) (by omega) (by omega) (by unfold DY; omega) (by omega), eA 1 k (by omega) (by unfold DXr; omega) (by omega) (by omega) (by unfold DY; omega) (by omega), m0 174 k (by omega), m0 1 k (by omega)]
        exact t1 k hk
      have Rrr : Rr g2 := fun k hk => by
        rw [eA 172 k (by omega) (by unfold DXr; omega) (by omega) (by omega) (by unfold DY; omega) (by omega), eA 175 k (by omega) (by unfold DXr; omega) (by omega) (by omega) (by unfold DY; omega) (by omega), m0 172 k (by omega), m0 175 k (by omega)]
        exact rr_r R k hk
      have Rfa : Rf g2 := by
        refine ⟨?_, ?_⟩
        · rw [eD 2 9 (by unfold DXr; omega) (by omega) (by omega) (by unfold DY; omega), s2.2.2.2 173 7 rfl, eG, xm_xset, if_neg (by omega), xm_xset, if_pos ⟨rfl, rfl⟩]
          exact Cx'.1.2.2.2.2.1
        · rw [eD 2 10 (by unfold DXr; omega) (by omega) (by omega) (by unfold DY; omega), s2.2.2.2 173 8 rfl, eG, xm_xset, if_pos ⟨rfl, rfl⟩]
          exact Cx'.1.2.2.2.2.2
      have x26 : xm g2 26 1 = xm h 26 1 := by rw [eA 26 1 (by omega) (by unfold DXr; omega) (by omega) (by omega) (by unfold DY; omega) (by omega), m0 26 1 (by omega)]
      have Rhh : Rh g2 := rh_of (by rw [x26]; exact (rr_h R).1) (by rw [x26, eA 173 75 (by omega) (by unfold DXr; omega) (by omega) (by omega) (by unfold DY; omega) (by omega), m0 173 75 (by omega)]; exact (rr_h R).2.2.1) ((j3 26 2 (by omega) (by omega)).trans o11) s12
      have Rjj : Rj g2 := rj_of s14 ((j3 148 1 (by omega) (by omega)).trans o12)
      have Rii : Ri g2 := (rr_i R).mv (fun a k q => by
        unfold DRi at q
        simp at q
        rw [eA a k (by omega) (by unfold DXr; omega) (by omega) (by omega) (by unfold DY; omega) (by omega), m0 a k (by omega)])
      have Rss : Rs g2 := (rr_s R).mv (fun a k q => by
        unfold DRs at q
        simp at q
        rw [eA a k (by omega) (by unfold DXr; omega) (by omega) (by omega) (by unfold DY; omega) (by omega), m0 a k (by omega)])
      have x80 : xm g2 168 0 = -1 := (j3 168 0 (by omega) (by omega)).trans o18
      have x81 : xm g2 168 1 = -1 := (j3 168 1 (by omega) (by omega)).trans o19
      have Roo : RSs g2 S E1 E2 249 249 := ⟨Or.inl x80, Or.inl x81, fun y => absurd x80 y, by omega, by omega⟩
      have eok : okc (xm h 222) 0 = okc (xm g2 222) 0 := okc_congr 0 (fun k hk => by omega)
      have Ro2 : Ro g2 := by
        refine ⟨0, kk, m, by omega, s13, (j3 158 0 (by omega) (by omega)).trans o13, e94.trans ekk, e93.trans em2, (j3 158 2 (by omega) (by omega)).trans o15, (j3 158 3 (by omega) (by omega)).trans o16, fun k hk => by omega, ?_, fun i j hi hj => ?_⟩
        · rw [j3 158 1 (by omega) (by omega), o14, nW_frd (fun k hk => by omega), eok]
        · rw [j3 162 _ (by omega) (by omega), o17 i j hi hj, nC_cti (by omega) hi hj (fun k hk => by omega), eok]
      refine ⟨(n : Int), H, g2, by rw [o1, eN], ?_, ⟨S, E1, E2, 249, 249, s1, Rtt, Rrr, Rfa, Rcc, Rff, Rnn, Rhh, Rjj, Rii, Rss, Roo, Ro2⟩, by omega, by omega⟩
      rw [op, fin, s2.2.2.2 173 48 rfl, mG 173 48 (by omega), q48]
    · exfalso
      omega
  · -- a fault
    obtain ⟨e, E', -⟩ := P
    have S' := E'.1
    have fr : ∀ a k, a < xn h → ¬ (a = 2 ∨ a = 4 ∨ a = 5 ∨ (a = 6 ∧ k = 2)) → xm h' a k = xm h0 a k := fun a k y1 y2 => told_fr (S := xn h0) rfl a7 (by omega) G (by omega) y2
    have op := c_openB Sh eL0 rd S'
    obtain ⟨H, eH⟩ : ∃ z, z = xset h' 172 1 (w32 (xm h' 172 1 + 1)) := ⟨_, rfl⟩
    rw [← eH] at op
    have SH' : SH H := by rw [eH]; exact S'.set (by decide +kernel)
    have mH : ∀ a k, ¬ (a = 172 ∧ k = 1) → xm H a k = xm h' a k := fun a k y => by rw [eH, xm_xset, if_neg (by omega)]
    have frH : ∀ a k, a < xn h → ¬ (a = 2 ∨ a = 4 ∨ a = 5 ∨ (a = 6 ∧ k = 2)) → ¬ (a = 172 ∧ k = 1) → xm H a k = xm h0 a k := fun a k y1 y2 y3 => (mH a k y3).trans (fr a k y1 y2)
    have nh' : xn h ≤ xn h' := by have := G.1.1; omega
    have zh' : xz h ≤ xz h' := by have := G.1.2; omega
    have kh' : ∀ a, a < xn h → xk h' a = xk h a := fun a ha => by rw [G.2.1 a (by omega), a6 a (by omega), k0]
    have gT : xm H 174 = T := by
      rw [← gT0]
      exact funext fun k => frH 174 k (by omega) (by omega) (by omega)
    have g1 : xm H 173 1 = (L : Int) := (frH 173 1 (by omega) (by omega) (by omega)).trans ((m0 173 1 (by omega)).trans eL)
    obtain ⟨h5', g5, v', h'', g', rd', op2, lz, -, c1, c2, f0'⟩ := t_told S0 SH' hT hL gT g1
    rw [e0, rd] at rd'
    have rd2 := Option.some.inj rd'
    have rd3 := congrArg Prod.fst rd2
    have rd4 := congrArg Prod.snd rd2
    dsimp only at rd3 rd4
    subst rd3 rd4
    rcases lz with ⟨y, -⟩ | ⟨-, P, -, D', -, -⟩
    · exfalso
      omega
    · obtain ⟨e', Ee, B⟩ := P
      have bad := r_bad B
      obtain ⟨B1, q1⟩ : ∃ z, z = xset g' 173 7 (e'.1 : Int) := ⟨_, rfl⟩
      obtain ⟨B2, q2⟩ : ∃ z, z = xset B1 173 8 (e'.2 : Int) := ⟨_, rfl⟩
      obtain ⟨g2, q3⟩ : ∃ z, z = xset B2 175 1 (w32 (xm g' 175 1 + 1)) := ⟨_, rfl⟩
      rw [← q1, ← q2, ← q3] at bad
      have sg : SH g2 := by rw [q3, q2, q1]; exact ((B.1.set (by decide +kernel)).set (by decide +kernel)).set (by decide +kernel)
      have nn : xn g2 = xn h' := by rw [q3, q2, q1]; show xn g' = xn h'; rw [D'.1, c2.1, eH]; rfl
      have zz : xz g2 = xz h' := by rw [q3, q2, q1]; show xz g' = xz h'; rw [D'.2.1, c2.2.1, eH]; rfl
      have kk : xk g2 = xk h' := by rw [q3, q2, q1]; show xk g' = xk h'; rw [D'.2.2.1, c2.2.2.1, eH]; rfl
      have mg : ∀ a k, ¬ (a = 173 ∧ (k = 7 ∨ k = 8)) → ¬ (a = 175 ∧ k = 1) → xm g2 a k = xm g' a k := fun a k y1 y2 => by rw [q3, xm_xset, if_neg (by omega), q2, xm_xset, if_neg (by omega), q1, xm_xset, if_neg (by omega)]
      have eg : ∀ a k, ¬ DXr a k → xm g' a k = xm H a k := fun a k y1 => by
        have d := do_ne y1
        have d2 : DH a k = false := by
          unfold DO at d
          simp only [Bool.or_eq_false_iff] at d
          exact d.1
        rw [D'.2.2.2 a k d2, c2.2.2.2 a k d]
      have eX : ∀ a k, a < xn h → ¬ DX a k → xm g2 a k = xm h a k := fun a k y0 y1 => by
        unfold DX at y1
        have y2 : ¬ DXr a k := by
          intro z
          exact y1 (by simp only [z, or_true, true_or])
        rw [mg a k (by unfold DXr at y2; omega) (by omega), eg a k y2, frH a k y0 (by omega) (by omega), m0 a k (by omega)]
      have Rtt : Rt g2 := by
        have x01 : xm g2 0 1 = 0 := by rw [mg 0 1 (by omega) (by omega), eg 0 1 (by unfold DXr; omega), frH 0 1 (by omega) (by omega) (by omega), v0]
        have x31 : xm g2 173 1 = 0 := by rw [mg 173 1 (by omega) (by omega), D'.2.2.2 173 1 rfl, c1]
        refine ⟨fun k hk => ?_, by rw [x01, x31], by rw [x31]; decide, by rw [x31]; decide⟩
        rw [eX 174 k (by omega) (by unfold DX DXr; omega), eX 1 k (by omega) (by unfold DX DXr; omega)]
        exact t1 k hk
      have Rrr : Rr g2 := fun k hk => by
        by_cases y : k = 1
        · subst y
          rw [mg 172 1 (by omega) (by omega), eg 172 1 (by unfold DXr; omega), eH, xm_xset, if_pos ⟨rfl, rfl⟩, q3, xm_xset, if_pos ⟨rfl, rfl⟩, eg 175 1 (by unfold DXr; omega), mH 175 1 (by omega), fr 172 1 (by omega) (by omega), fr 175 1 (by omega) (by omega), m0 172 1 (by omega), m0 175 1 (by omega), rr_r R 1 hk]
        · rw [eX 172 k (by omega) (by unfold DX DXr; omega), eX 175 k (by omega) (by unfold DX DXr; omega)]
          exact rr_r R k hk
      have Rfa : Rf g2 := by
        refine ⟨?_, ?_⟩
        · rw [mg 2 9 (by omega) (by omega), eg 2 9 (by unfold DXr; omega), mH 2 9 (by omega), Ee.2.1, q3, xm_xset, if_neg (by omega), q2, xm_xset, if_neg (by omega), q1, xm_xset, if_pos ⟨rfl, rfl⟩]
        · rw [mg 2 10 (by omega) (by omega), eg 2 10 (by unfold DXr; omega), mH 2 10 (by omega), Ee.2.2, q3, xm_xset, if_neg (by omega), q2, xm_xset, if_pos ⟨rfl, rfl⟩]
      exact ⟨-1, H, g2, op, op2.trans bad, ⟨s, F1, F2, T2, T3, R.mvN sg (by omega) (fun a ha => by rw [kk]; exact kh' a ha) eX Rtt Rrr Rfa⟩, by omega, by omega⟩
