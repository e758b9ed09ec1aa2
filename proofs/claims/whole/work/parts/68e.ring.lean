/-! ===== ring ===== -/
def DRg (a k : Nat) : Prop := (a = 0 ∧ k = 1) ∨ (20 ≤ a ∧ a ≤ 26) ∨ (28 ≤ a ∧ a < 148) ∨ (153 ≤ a ∧ a ≤ 157) ∨ (a = 173 ∧ (k = 1 ∨ (49 ≤ k ∧ k ≤ 57) ∨ k = 74 ∨ k = 75 ∨ k = 104)) ∨ (212 ≤ a ∧ a ≤ 215) ∨ a = 224 ∨ a = 247
theorem rn_of_ST {H G : xa_H} {n m : Nat} (R : ST H G n m) (e : ∀ a k, 20 ≤ a → a < 26 → xm G a k = xm H a k) (e4 : xm G 199 4 = (n : Int)) (e3 : xm G 199 3 = (m : Int)) : Rn G := by
  have := R.cl (H' := G) e
  unfold Rn
  rw [e4, e3]
  exact this
theorem c_ring {h : xa_H} {s F1 F2 T2 T3 : Nat} (R' : RR h s F1 F2 T2 T3) : CallOK h (f_X11_ring 0 h) (f_X12_ring 173) := by
  obtain ⟨F1, F2, R, N⟩ := rr_norm R'
  clear R'
  obtain ⟨n, m, K, ST0, en, hn6⟩ := rr_KX R N
  have em := K.2.2.2.2.2
  have Sh := rr_S R
  have C := rr_c R
  have cs1 := C.2.1.1
  have nf1 := N.2.2.1
  have nf2 := N.2.2.2
  obtain ⟨fg1, fg2, fg3⟩ := (rr_F R).far
  obtain ⟨t1, t2, t3, t4⟩ := rr_t R
  have h249 : 249 ≤ xn h := Sh.1
  obtain ⟨L, eL⟩ : ∃ L : Nat, xm h 173 1 = (L : Int) := ⟨(xm h 173 1).toNat, by omega⟩
  have hL : L ≤ 1600 := by omega
  have eL0 : xm h 0 1 = (L : Int) := t2.trans eL
  obtain ⟨h0, e0⟩ : ∃ z, z = xset h 0 1 0 := ⟨_, rfl⟩
  obtain ⟨ρ, hρ⟩ : ∃ ρ : Nat → Nat, ∀ i, ρ i = (xm h 174 i).toNat := ⟨fun i => (xm h 174 i).toNat, fun _ => rfl⟩
  have S0 : SH h0 := by rw [e0]; exact Sh.set (by decide +kernel)
  have m0 : ∀ a k, ¬ (a = 0 ∧ k = 1) → xm h0 a k = xm h a k := fun a k q => by rw [e0, xm_xset, if_neg q]
  have v0 : xm h0 0 1 = 0 := by rw [e0, xm_xset, if_pos ⟨rfl, rfl⟩]
  have C0 : Rc h0 s := C.mv (by rw [e0]; exact Nat.le_refl _) (fun a _ => by rw [e0]; rfl) (fun a k hd => by unfold DRc at hd; exact m0 a k (by omega))
  have T0 : RtB h0 := fun k hk => by rw [m0 174 k (by omega), m0 1 k (by omega)]; exact t1 k hk
  have x74 : xm h0 174 = xm h 174 := funext fun k => m0 174 k (by omega)
  have hd : f_X11_ring 0 h = (f_X11_readRing 0 ((153 : Nat) : Int) (L : Int) h0).bind fun r3 => if r3.1 = 0 then (xrc r3.2 11 0 (f_X11_refuse 0 2 r3.2)).bind fun r5 => some (r5.1, r5.2) else (xgf r3.2 11 7 0).bind fun x6 => (xgf r3.2 11 6 0).bind fun x7 => (xrc r3.2 4 x6 (f_X4_remember x6 x7 r3.2)).bind fun r8 => (xgf r8 11 9 0).bind fun x9 => (xgf r8 11 5 0).bind fun x10 => (xgf r8 11 6 0).bind fun x11 => (xrc r8 7 x9 (f_X7_weigh x9 x10 x11 r8)).bind fun r12 => (xrc r12 11 0 (f_X11_closeRing 0 r12)).bind fun r13 => (xgf r13 11 9 0).bind fun x14 => (xgf r13 7 2 x14).bind fun x15 => some (x15, r13) := by
    unfold f_X11_ring
    rw [g0k Sh, pt_0_9 Sh, x0o Sh, s_takeTape Sh, bbind, eL0, ← e0, x0o S0]
    rfl
  rcases c_readRing S0 C0 T0 (q := 153) (n := n) (Or.inr rfl) (by rw [m0 199 4 (by omega)]; exact en) hL with ⟨⟨k2, k6, ok⟩, rd⟩ | ⟨nok, rd⟩
  · have inj : ∀ a b, a < L → b < L → ρ a = ρ b → a = b := fun a b ha hb e => by
      have oa := ok.1 a ha
      have ob := ok.1 b hb
      have ha' := hρ a
      have hb' := hρ b
      rw [x74] at oa ob
      exact ok.2 a b ha hb (by rw [x74]; omega)
    obtain ⟨H1, e1⟩ : ∃ z, z = xset (mkA h0 (153 + 1) (xm h0 174) L) 153 1 (L : Int) := ⟨_, rfl⟩
    rw [← e1] at rd
    obtain ⟨a1, a2, a3⟩ := mkA_n h0 154 (xm h0 174) L
    have n1 : xn H1 = xn h := by rw [e1]; show xn (mkA h0 154 (xm h0 174) L) = _; rw [a1, e0]; rfl
    have z1 : xz H1 = xz h := by rw [e1]; show xz (mkA h0 154 (xm h0 174) L) = _; rw [a2, e0]; rfl
    have k1 : xk H1 = xk h := by rw [e1]; show xk (mkA h0 154 (xm h0 174) L) = _; rw [a3, e0]; rfl
    have m1 : ∀ a k, ¬ (a = 0 ∧ k = 1) → a ≠ 153 → a ≠ 154 → xm H1 a k = xm h a k := fun a k y1 y2 y3 => by rw [e1, xm_xset, if_neg (by omega), mkA_m, if_neg (by omega), m0 a k y1]
    have v1 : xm H1 0 1 = 0 := by rw [e1, xm_xset, if_neg (by omega), mkA_m, if_neg (by omega), v0]
    have S1 : SH H1 := by rw [e1]; exact (mkA_S S0 (fun j => q_nf (q := 153) (Or.inr rfl) (Or.inr ⟨by omega, by omega⟩)) L).set (q_nf (q := 153) (Or.inr rfl) (Or.inl ⟨rfl, by omega⟩))
    -- what is remembered
    obtain ⟨r1, r2, r3, r4, r5⟩ := rr_h R
    obtain ⟨p, hp⟩ : ∃ p : Nat, xm h 26 1 = (p : Int) := ⟨(xm h 26 1).toNat, by omega⟩
    obtain ⟨c, hc⟩ : ∃ c : Nat, xm h 26 2 = (c : Int) := ⟨(xm h 26 2).toNat, by omega⟩
    have hp2 : p < 20 := by omega
    have rem := s_remember S1 ((m1 26 1 (by omega) (by omega) (by omega)).trans hp) hp2 ((m1 26 2 (by omega) (by omega) (by omega)).trans hc) (by omega)
    obtain ⟨Hr, eHr⟩ : ∃ z, z = xset (xset (xcst H1 (28 + 6 * p) 20) 26 1 (((p + 1) % 20 : Nat) : Int)) 26 2 ((min (c + 1) 20 : Nat) : Int) := ⟨_, rfl⟩
    rw [← eHr] at rem
    have Sr : SH Hr := by rw [eHr]; exact ((sh_xcst S1 hp2).set (by decide +kernel)).set (by decide +kernel)
    have mr : ∀ a k, ¬ (28 ≤ a ∧ a < 148) → a ≠ 26 → xm Hr a k = xm H1 a k := fun a k y1 y2 => by rw [eHr, xm_xset, if_neg (by omega), xm_xset, if_neg (by omega), xm_xcst, if_neg (by omega), if_neg (by omega)]
    have mrh : ∀ a k, ¬ (28 ≤ a ∧ a < 148) → a ≠ 26 → ¬ (a = 0 ∧ k = 1) → a ≠ 153 → a ≠ 154 → xm Hr a k = xm h a k := fun a k y1 y2 y3 y4 y5 => (mr a k y1 y2).trans (m1 a k y3 y4 y5)
    have nr : xn Hr = xn h ∧ xz Hr = xz h ∧ xk Hr = xk h := by rw [eHr]; exact ⟨n1, z1, k1⟩
    have RGc : RG h h Hr s F1 F2 n m 153 L ρ := by
      refine ⟨rr_CV R N Sr nr.1 nr.2.2 (fun a k hd => mrh a k (by omega) (by omega) (by omega) (by omega) (by omega)), ST0.cl (fun a k _ _ => mrh a k (by omega) (by omega) (by omega) (by omega) (by omega)), Or.inr rfl, ⟨k2, k6⟩, by rw [mr _ _ (by omega) (by omega), e1, xm_xset, if_pos ⟨rfl, rfl⟩], fun i hi => ?_⟩
      have oi := ok.1 i hi
      rw [x74] at oi
      have hi' := hρ i
      refine ⟨?_, by omega⟩
      rw [mr _ _ (by omega) (by omega), e1, xm_xset, if_neg (by omega), mkA_m, if_pos ⟨rfl, hi⟩, x74]
      omega
    obtain ⟨H2, w1, w2, w3, w4, w5⟩ := c_weigh K RGc
    have R2 := RGc.cg K w2
    have S2 := R2.1.1
    obtain ⟨V, eV⟩ : ∃ V, V = rV h h L ρ := ⟨_, rfl⟩
    rw [← eV] at w4
    have hV : 0 ≤ V ∧ V ≤ 4 := by
      rw [eV]
      unfold rV
      split
      · split
        · split <;> omega
        · omega
      · omega
    obtain ⟨th, eth⟩ : ∃ th, th = (fun i => xm h 212 (1 + 9 * ρ (prv L i))) := ⟨_, rfl⟩
    obtain ⟨py, epy⟩ : ∃ py, py = rPy h h L ρ := ⟨_, rfl⟩
    have RQ2 : RQ H2 n 153 L ρ th py := ⟨S2, Or.inr rfl, ⟨k2, k6⟩, R2.2.2.2.2.1, R2.2.2.2.2.2, fun i hi => by rw [epy]; exact w3.1 i hi, fun i hi => by rw [eth]; exact w3.2 i hi⟩
    have cl3 := c_close hn6 RQ2 w4 hV (by rw [st_kc R2.2.1]; exact sv_kc R2.2.1) (by rw [st_night R2.2.1]; exact sv_night R2.2.1)
    obtain ⟨H3, e3⟩ : ∃ z, z = clC H2 V L ρ th py := ⟨_, rfl⟩
    have S3 : SH H3 := by rw [e3]; exact clC_S S2
    have o3 : ∀ a k, a < 20 ∨ 25 < a → xm H3 a k = xm H2 a k := fun a k y => by rw [e3]; exact clC_o y
    obtain ⟨nc1, nc2, nc3⟩ := clC_n H2 V L ρ th py
    rw [← e3] at nc1 nc2 nc3 cl3
    have cl : f_X11_ring 0 h = some (V, H3) := by
      rw [hd, rd, bbind, if_neg (show ¬ (1 : Int) = 0 by decide), g0k S1, pt_0_7 S1, g0k S1, pt_0_6 S1]
      refine (bnd (v := Hr) (by rw [show xrc H1 4 26 (f_X4_remember 26 20 H1) = f_X4_remember 26 20 H1 from if_pos (ok_26 S1), rem])).trans ?_
      rw [g0k Sr, pt_0_9 Sr, g0k Sr, mrh 0 5 (by omega) (by omega) (by omega) (by omega) (by omega), C.1, g0k Sr, pt_0_6 Sr]
      refine (bnd (v := H2) (by rw [show xrc Hr 7 153 (f_X7_weigh 153 (s : Int) 20 Hr) = f_X7_weigh ((153 : Nat) : Int) (s : Int) 20 Hr from if_pos (ok_153 Sr), w1])).trans ?_
      rw [x0o S2, cl3, bbind, g0k S3, pt_0_9 S3]
      exact (bnd (xgf_eq (a := 153) (v := V) (ok_153 S3) (by rw [o3 _ _ (by omega)]; exact w4))).trans rfl
    have m3 : ∀ a k, ¬ (a = 0 ∧ k = 1) → ¬ (20 ≤ a ∧ a ≤ 26) → ¬ (28 ≤ a ∧ a < 148) → ¬ (153 ≤ a ∧ a ≤ 157) → a ≠ F1 + 2 → a ≠ F2 + 2 → xm H3 a k = xm h a k := fun a k y1 y2 y3 y4 y5 y6 => by
      rw [o3 a k (by omega), w2.2.2.2 a k (by unfold DG7; omega), mrh a k y3 (by omega) y1 (by omega) (by omega)]
    have v3 : xm H3 0 1 = 0 := by rw [o3 _ _ (by omega), w2.2.2.2 0 1 (by unfold DG7; omega), mr _ _ (by omega) (by omega), v1]
    -- the reference
    have QH : MV h H3 := rr_MV S3 (fun a k _ _ => m3 a k (by omega) (by omega) (by omega) (by omega) (by omega) (by omega))
    have y74 : xm H3 174 = xm h 174 := funext fun k => m3 174 k (by omega) (by omega) (by omega) (by omega) (by omega) (by omega)
    rcases m_isRing QH hn6 en (k := L) ((m3 173 1 (by omega) (by omega) (by omega) (by omega) (by omega) (by omega)).trans eL) hL with ⟨-, rr⟩ | ⟨bad, -⟩
    · obtain ⟨G1, f1⟩ : ∃ z, z = xset (mkA (xset H3 173 1 0) 213 (xm H3 174) L) 173 56 (L : Int) := ⟨_, rfl⟩
      rw [← f1] at rr
      obtain ⟨b1, b2, b3⟩ := mkA_n (xset H3 173 1 0) 213 (xm H3 174) L
      have p1 : ∀ a k, ¬ (a = 173 ∧ (k = 1 ∨ k = 56)) → a ≠ 213 → xm G1 a k = xm H3 a k := fun a k y1 y2 => by rw [f1, xm_xset, if_neg (by omega), mkA_m, if_neg (by omega), xm_xset, if_neg (by omega)]
      have SG1 : SH G1 := by rw [f1]; exact (mkA_S (S3.set (by decide +kernel)) (fun j => fixd_of (by decide +kernel)) L).set (by decide +kernel)
      have nG1 : xn G1 = xn H3 ∧ xz G1 = xz H3 ∧ xk G1 = xk H3 := by
        rw [f1]
        exact ⟨b1, b2, b3⟩
      have q1 : ∀ a k, 173 ≤ a → a < 249 → ¬ (a = 173 ∧ (k = 1 ∨ k = 56)) → a ≠ 213 → xm G1 a k = xm h a k := fun a k y1 y2 y3 y4 => (p1 a k y3 y4).trans (m3 a k (by omega) (by omega) (by omega) (by omega) (by omega) (by omega))
      have kp := s_keeps SG1 (p := p) (c := c) ((q1 173 75 (by omega) (by omega) (by omega) (by omega)).trans (r3.symm.trans hp)) hp2 ((q1 173 74 (by omega) (by omega) (by omega) (by omega)).trans (r4.symm.trans hc)) (by omega)
      obtain ⟨G2, f2⟩ : ∃ z, z = xset (xarr (xset G1 173 75 (((p + 1) % 20 : Nat) : Int)) 224 (kpF G1 ((p + 1) % 20))) 173 74 ((min (c + 1) 20 : Nat) : Int) := ⟨_, rfl⟩
      rw [← f2] at kp
      have SG2 : SH G2 := by rw [f2]; exact ((SG1.set (by decide +kernel)).arr (by decide +kernel)).set (by decide +kernel)
      have p2 : ∀ a k, ¬ (a = 173 ∧ (k = 74 ∨ k = 75)) → a ≠ 224 → xm G2 a k = xm G1 a k := fun a k y1 y2 => by rw [f2, xm_xset, if_neg (by omega), xm_xarr, if_neg (by omega), xm_xset, if_neg (by omega)]
      have q2 : ∀ a k, 173 ≤ a → a < 249 → ¬ (a = 173 ∧ (k = 1 ∨ k = 56 ∨ k = 74 ∨ k = 75)) → a ≠ 213 → a ≠ 224 → xm G2 a k = xm h a k := fun a k y1 y2 y3 y4 y5 => (p2 a k (by omega) y5).trans (q1 a k y1 y2 (by omega) y4)
      have Q2 : MV h G2 := rr_MV SG2 (fun a k _ _ => q2 a k (by omega) (by omega) (by omega) (by omega) (by omega))
      have e22 : ∀ k, xm G2 212 k = xm h 212 k := fun k => q2 _ _ (by omega) (by omega) (by omega) (by omega) (by omega)
      have ST2 : ST h G2 n m := ST0.dm e22
      have M2 : RMd G2 n L ρ := by
        refine ⟨⟨k2, k6⟩, by rw [p2 _ _ (by omega) (by omega), f1, xm_xset, if_pos ⟨rfl, rfl⟩], fun i hi => ?_⟩
        have oi := ok.1 i hi
        rw [x74] at oi
        have hi' := hρ i
        refine ⟨?_, by omega⟩
        rw [p2 _ _ (by omega) (by omega), f1, xm_xset, if_neg (by omega), mkA_m, if_pos ⟨rfl, hi⟩, y74]
        omega
      obtain ⟨G3, g1, Z3, g3⟩ := m_whyNot K Q2 ST2 M2
      obtain ⟨rv1, -, -⟩ := rv_eq (h := h) (G := h) (G' := G2) (r := L) (ρ := ρ) e22
      rw [rv1, ← eV] at g1
      have SG3 : SH G3 := Z3.sh DM7_nf SG2
      have e32 : ∀ k, xm G3 212 k = xm h 212 k := fun k => by rw [Z3.2.2.2 212 k (DM7_ne (by omega) (by omega)), e22]
      have Q3 : MV h G3 := Q2.fx Z3 DM7_nf (fun a k _ _ => DM7_ne (by omega) (by omega))
      have ST3 : ST H2 G3 n m := by
        have := R2.2.1
        exact this.dm e32
      have M3 : RMd G3 n L ρ := M2.fx Z3 rfl (fun _ => rfl)
      obtain ⟨rw1, -, rw3⟩ := rv_eq (h := h) (G := h) (G' := G3) (r := L) (ρ := ρ) e32
      obtain ⟨G4, c1, Z4, ST4⟩ := m_close K Q3 ST3 M3 inj hV (fun y => by rw [rw1, ← eV]; exact y)
      rw [show (fun i => xm G3 212 (1 + 9 * ρ (prv L i))) = th by rw [eth]; exact funext fun i => e32 _, rw3, ← epy, ← e3] at ST4
      have ref : f_X12_ring 173 H3 = some (V, G4) := by
        unfold f_X12_ring f_X12_ring_J30
        rw [xM S3, rr, bbind, if_neg (show ¬ (1 : Int) = 0 by decide), xM SG1, kp, bbind, xM SG2, g1, bbind]
        unfold clM at c1
        by_cases y : V = 0
        · rw [if_pos y] at c1
          rw [if_pos y]
          have : ∀ (E : Option xa_H) (f : xa_H → Option xa_H), (E.bind f) = some G4 → (E.bind fun r7 => (f r7).bind fun r8 => some (V, r8)) = some (V, G4) := by
            intro E f h
            cases E with
            | none => cases h
            | some x =>
              have h' : f x = some G4 := h
              show ((f x).bind fun r8 => some (V, r8)) = _
              rw [h']
              rfl
          exact this _ _ c1
        · rw [if_neg y] at c1
          rw [if_neg y]
          exact (bnd c1).trans rfl
      have p4 : ∀ a k, DC8 a k = false → DM7 a k = false → ¬ (a = 173 ∧ (k = 1 ∨ k = 56 ∨ k = 74 ∨ k = 75)) → a ≠ 213 → a ≠ 224 → xm G4 a k = xm H3 a k := fun a k y1 y2 y3 y4 y5 => by
        rw [Z4.2.2.2 a k y1, Z3.2.2.2 a k y2, p2 a k (by omega) y5, p1 a k (by omega) y4]
      have d48 : ∀ a k, ¬ (a = 173 ∧ ((49 ≤ k ∧ k ≤ 57) ∨ k = 104)) → ¬ (212 ≤ a ∧ a ≤ 215) → a ≠ 247 → DC8 a k = false ∧ DM7 a k = false := fun a k y1 y2 y3 => by
        unfold DC8 DM2 DM7 DM
        simp
        omega
      have p5 : ∀ a k, ¬ DRg a k ∨ a < 173 → xm G4 a k = xm H3 a k := fun a k y => by
        unfold DRg at y
        have d := d48 a k (by omega) (by omega) (by omega)
        exact p4 a k d.1 d.2 (by omega) (by omega) (by omega)
      have eX : ∀ a k, ¬ DRg a k → a ≠ F1 + 2 → a ≠ F2 + 2 → xm G4 a k = xm h a k := fun a k y1 y2 y3 => by
        rw [p5 a k (Or.inl y1)]
        unfold DRg at y1
        exact m3 a k (by omega) (by omega) (by omega) (by omega) y2 y3
      have ag : ∀ D : Nat → Nat → Bool, (∀ a k, D a k = true → a < 249 ∧ ¬ DRg a k) → agr D h G4 := fun D hD a k q => eX a k (hD a k q).2 (by have := (hD a k q).1; omega) (by have := (hD a k q).1; omega)
      have x01 : xm G4 0 1 = 0 := by rw [p5 0 1 (Or.inr (by omega)), v3]
      have x31 : xm G4 173 1 = 0 := by
        rw [Z4.2.2.2 173 1 rfl, Z3.2.2.2 173 1 rfl, p2 173 1 (by omega) (by omega), f1, xm_xset, if_neg (by omega), mkA_m, if_neg (by omega), xm_xset, if_pos ⟨rfl, rfl⟩]
      have Rtt : Rt G4 := by
        refine ⟨fun k hk => ?_, by rw [x01, x31], by rw [x31]; decide, by rw [x31]; decide⟩
        rw [eX 174 k (by unfold DRg; omega) (by omega) (by omega), eX 1 k (by unfold DRg; omega) (by omega) (by omega)]
        exact t1 k hk
      have SG4 : SH G4 := Z4.sh (by unfold nofix; decide +kernel) SG3
      have nn : xn G4 = xn h := by rw [Z4.1, Z3.1, f2]; show xn G1 = _; rw [nG1.1, nc1, w2.1, nr.1]
      have zz : xz G4 = xz h := by rw [Z4.2.1, Z3.2.1, f2]; show xz G1 = _; rw [nG1.2.1, nc2, w2.2.1, nr.2.1]
      have kk : xk G4 = xk h := by rw [Z4.2.2.1, Z3.2.2.1, f2]; show xk G1 = _; rw [nG1.2.2, nc3, w2.2.2.1, nr.2.2]
      have x94 : xm G4 199 4 = xm h 199 4 := eX 199 4 (by unfold DRg; omega) (by omega) (by omega)
      have x93 : xm G4 199 3 = xm h 199 3 := eX 199 3 (by unfold DRg; omega) (by omega) (by omega)
      have Rnn : Rn G4 := rn_of_ST ST4 (fun a k _ _ => p5 a k (Or.inr (by omega))) (x94.trans en) (x93.trans em)
      have mid : ∀ a k, 26 ≤ a → a < 148 → xm G4 a k = xm Hr a k := fun a k y1 y2 => by rw [p5 a k (Or.inr (by omega)), o3 a k (by omega), w2.2.2.2 a k (by unfold DG7; omega)]
      have Rhh : Rh G4 := by
        refine Rh.keep (rr_h R) (rr_n R) (by omega) hp hc x94 x93 ?_ ?_ ?_ ?_ (fun a k y1 y2 => ?_) (fun k => ?_)
        · rw [mid 26 1 (by omega) (by omega), eHr, xm_xset, if_neg (by omega), xm_xset, if_pos ⟨rfl, rfl⟩]
        · rw [Z4.2.2.2 173 75 rfl, Z3.2.2.2 173 75 rfl, f2, xm_xset, if_neg (by omega), xm_xarr, if_neg (by omega), xm_xset, if_pos ⟨rfl, rfl⟩]
        · rw [mid 26 2 (by omega) (by omega), eHr, xm_xset, if_pos ⟨rfl, rfl⟩]
        · rw [Z4.2.2.2 173 74 rfl, Z3.2.2.2 173 74 rfl, f2, xm_xset, if_pos ⟨rfl, rfl⟩]
        · rw [mid a k (by omega) y2, eHr, xm_xset, if_neg (by omega), xm_xset, if_neg (by omega), xm_xcst, xm_xcst, m1 20 k (by omega) (by omega) (by omega), m1 a k (by omega) (by omega) (by omega), m1 (20 + (a - (28 + 6 * p))) k (by omega) (by omega) (by omega), m1 (28 + 6 * p) k (by omega) (by omega) (by omega)]
        · rw [Z4.2.2.2 224 k rfl, Z3.2.2.2 224 k rfl, f2, xm_xset, if_neg (by omega), xm_xarr, if_pos rfl]
          unfold kpF
          rw [q1 212 _ (by omega) (by omega) (by omega) (by omega), q1 224 _ (by omega) (by omega) (by omega) (by omega)]
      refine ⟨_, H3, G4, cl, ref, ⟨s, F1, F2, T2, T3, R.mvG N SG4 nn kk (fun a k hd => eX a k (by unfold DRc at hd; unfold DRg; omega) (by unfold DRc at hd; omega) (by unfold DRc at hd; omega)) Rtt ((rr_r R).mv (ag _ (fun a k q => ?_))) ((rr_f R).mv (ag _ (fun a k q => ?_))) Rnn Rhh ((rr_j R).mv (ag _ (fun a k q => ?_))) ((rr_i R).mv (ag _ (fun a k q => ?_))) ((rr_s R).mv (ag _ (fun a k q => ?_))) ((rr_2 R).mv (ag _ (fun a k q => ?_)))⟩, by omega, by omega⟩
      · unfold DRr at q; simp at q; unfold DRg; omega
      · unfold DRf at q; simp at q; unfold DRg; omega
      · unfold DRj at q; simp at q; unfold DRg; omega
      · unfold DRi at q; simp at q; unfold DRg; omega
      · unfold DRs at q; simp at q; unfold DRg; omega
      · unfold DRo2 at q; simp at q; unfold DRg; omega
    · exfalso
      refine bad ⟨k2, k6, ?_⟩
      rw [y74, ← x74]
      exact ok
  · -- no ring
    obtain ⟨H, eH⟩ : ∃ z, z = xset h0 172 2 (w32 (xm h0 172 2 + 1)) := ⟨_, rfl⟩
    have SH' : SH H := by rw [eH]; exact S0.set (fixd_of (by decide +kernel))
    have mH : ∀ a k, ¬ (a = 0 ∧ k = 1) → a ≠ 172 → xm H a k = xm h a k := fun a k y1 y2 => by rw [eH, xm_xset, if_neg (by omega), m0 a k y1]
    have cl : f_X11_ring 0 h = some (-1, H) := by
      rw [hd, rd, bbind, if_pos rfl, x0o S0, s_X11_refuse S0 (by omega) (by omega), eH]
      rfl
    have QH : MV h H := rr_MV SH' (fun a k _ _ => mH a k (by omega) (by omega))
    have y74 : xm H 174 = xm h 174 := funext fun k => mH 174 k (by omega) (by omega)
    rcases m_isRing QH hn6 en (k := L) ((mH 173 1 (by omega) (by omega)).trans eL) hL with ⟨ok, -⟩ | ⟨-, rr⟩
    · exfalso
      rw [y74, ← x74] at ok
      exact nok ok
    · obtain ⟨G1, f1⟩ : ∃ z, z = xset H 173 1 0 := ⟨_, rfl⟩
      rw [← f1] at rr
      have SG1 : SH G1 := by rw [f1]; exact SH'.set (by decide +kernel)
      refine CallOK.same (v := -1) (h1 := H) (h2 := xset G1 175 2 (w32 (xm G1 175 2 + 1))) cl ?_ ⟨s, F1, F2, T2, T3, ?_⟩ (by rw [f1, eH, e0]; rfl) (by rw [f1, eH, e0]; rfl)
      · unfold f_X12_ring
        rw [xM SH', rr, bbind, if_pos rfl, xM SG1, s_X12_refuses SG1 (by omega) (by omega)]
        rfl
      · have := rr_takeRef R (w := 2) (by omega)
        have x72 : xm h0 172 2 = xm h 172 2 := m0 172 2 (by omega)
        have x75 : xm G1 175 2 = xm h 175 2 := by rw [f1, xm_xset, if_neg (by omega), mH 175 2 (by omega) (by omega)]
        rw [x75, f1, eH, x72, e0]
        exact this
