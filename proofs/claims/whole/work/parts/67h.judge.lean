/-! ===== judge ===== -/
theorem rv_eq {h G G' : xa_H} {r : Nat} {ρ : Nat → Nat} (e : ∀ k, xm G' 212 k = xm G 212 k) : rV h G' r ρ = rV h G r ρ ∧ rW h G' r ρ = rW h G r ρ ∧ rPy h G' r ρ = rPy h G r ρ := by
  have f : fr h G' = fr h G := by
    funext A B k
    unfold fr
    simp only [e]
  have g1 : rSw h G' r ρ = rSw h G r ρ := by funext i; unfold rSw rFr; rw [f]
  have g2 : rPy h G' r ρ = rPy h G r ρ := by funext i; unfold rPy rFr; rw [f]
  have g3 : rPo h G' r ρ = rPo h G r ρ := by funext i; unfold rPo; rw [g2, e]
  exact ⟨by unfold rV; rw [g1, g3], by unfold rW; rw [g1, g3], g2⟩
theorem ST.cl {H H' G : xa_H} {n m : Nat} (R : ST H G n m) (ec : ∀ a k, 20 ≤ a → a < 26 → xm H' a k = xm H a k) : ST H' G n m := by
  obtain ⟨⟨r1, r2, r3, r4, r5, r6, r7⟩, v⟩ := R
  refine ⟨⟨?_, fun i hi => ?_, fun i hi => ?_, fun i hi => ?_, fun i j hi hj => ?_, ?_, fun k hk => ?_⟩, v⟩
  · rw [ec _ _ (by omega) (by omega)]; exact r1
  · rw [ec _ _ (by omega) (by omega)]; exact r2 i hi
  · rw [ec _ _ (by omega) (by omega)]; exact r3 i hi
  · rw [ec _ _ (by omega) (by omega)]; exact r4 i hi
  · rw [ec _ _ (by omega) (by omega)]; exact r5 i j hi hj
  · rw [ec _ _ (by omega) (by omega)]; exact r6
  · rw [ec _ _ (by omega) (by omega)]; exact r7 k hk
theorem y_pays {h H G0 : xa_H} {s F1 F2 n m r : Nat} {ρ : Nat → Nat} (K : KX h s F1 F2 n m) (Q : MV h G0) (R : ST H G0 n m) (M : RMd G0 n r ρ) : ∀ t i, i + t = r → ∀ G, Fx DM G0 G → ∀ fu, t < fu →
    ∃ G', xit (fun s => f_X12_paysAll_L4 173 s.1 s.2.1 s.2.2) fu (xsum (rPy h G0 r ρ) i, (i : Int), G) = some (xsum (rPy h G0 r ρ) r, G') ∧ Fx DM G0 G' := by
  have r6 := M.1
  intro t
  induction t with
  | zero =>
    intro i hit G Z fu hf
    have S := (Q.dm Z).1
    have MG := M.dm Z
    have : i = r := by omega
    subst this
    refine ⟨G, xit_end ?_ hf, Z⟩
    show f_X12_paysAll_L4 173 _ (i : Int) G = _
    unfold f_X12_paysAll_L4
    rw [gM S, MG.2.1, if_neg (by omega)]
  | succ t ih =>
    intro i hit G Z fu hf
    have S := (Q.dm Z).1
    have MG := M.dm Z
    obtain ⟨fu, rfl⟩ : ∃ z, fu = z + 1 := ⟨fu - 1, by omega⟩
    have ir : i < r := by omega
    have pl := prv_lt ir
    obtain ⟨G1, e1, e2⟩ := m_pays K Q R Z (M.2.2 i ir).2 (M.2.2 _ pl).2
    obtain ⟨G', x1, x2⟩ := ih (i + 1) (by omega) G1 e2 fu (by omega)
    refine ⟨G', ?_, x2⟩
    rw [← x1]
    refine xit_go ?_
    have b3 : xsum (rPy h G0 r ρ) (i + 1) = w32 (xsum (rPy h G0 r ρ) i + rPy h G0 r ρ i) := rfl
    show f_X12_paysAll_L4 173 _ (i : Int) G = _
    unfold f_X12_paysAll_L4
    rw [gM S, MG.2.1, if_pos (by omega), gM S, pt_173_55 S, m_mem S MG ir, bbind, xM S, m_giver S MG ir, bbind, xM S, e1, bbind, wS (by omega), b3]
    rfl
def DJ (a k : Nat) : Prop := (a = 0 ∧ k = 1) ∨ (148 ≤ a ∧ a ≤ 152) ∨ (a = 173 ∧ (k = 1 ∨ (49 ≤ k ∧ k ≤ 62) ∨ k = 104)) ∨ a = 213 ∨ a = 247
theorem c_judge {h : xa_H} {s F1 F2 T2 T3 : Nat} (R' : RR h s F1 F2 T2 T3) : CallOK h (f_X11_judge 0 h) (f_X12_judge 173) := by
  obtain ⟨F1, F2, R, N⟩ := rr_norm R'
  clear R'
  obtain ⟨n, m, K, ST0, en, hn6⟩ := rr_KX R N
  have Sh := rr_S R
  have C := rr_c R
  have cs1 := C.2.1.1
  have nf1 := N.2.2.1
  have nf2 := N.2.2.2
  obtain ⟨fg1, fg2, fg3⟩ := (rr_F R).far
  obtain ⟨t1, t2, t3, t4⟩ := rr_t R
  have h249 : 249 ≤ xn h := Sh.1
  obtain ⟨L, eL⟩ : ∃ L : Nat, xm h 173 1 = (L : Int) := ⟨(xm h 173 1).toNat, by omega⟩
  have hL : L ≤ 1600 := by omega
  have eL0 : xm h 0 1 = (L : Int) := t2.trans eL
  obtain ⟨h0, e0⟩ : ∃ z, z = xset h 0 1 0 := ⟨_, rfl⟩
  obtain ⟨ρ, hρ⟩ : ∃ ρ : Nat → Nat, ∀ i, ρ i = (xm h 174 i).toNat := ⟨fun i => (xm h 174 i).toNat, fun _ => rfl⟩
  have S0 : SH h0 := by rw [e0]; exact Sh.set (by decide +kernel)
  have m0 : ∀ a k, ¬ (a = 0 ∧ k = 1) → xm h0 a k = xm h a k := fun a k q => by rw [e0, xm_xset, if_neg q]
  have v0 : xm h0 0 1 = 0 := by rw [e0, xm_xset, if_pos ⟨rfl, rfl⟩]
  have C0 : Rc h0 s := C.mv (by rw [e0]; exact Nat.le_refl _) (fun a _ => by rw [e0]; rfl) (fun a k hd => by unfold DRc at hd; exact m0 a k (by omega))
  have T0 : RtB h0 := fun k hk => by rw [m0 174 k (by omega), m0 1 k (by omega)]; exact t1 k hk
  have x74 : xm h0 174 = xm h 174 := funext fun k => m0 174 k (by omega)
  have hd : f_X11_judge 0 h = (f_X11_readRing 0 ((148 : Nat) : Int) (L : Int) h0).bind fun r3 => if r3.1 = 0 then (xrc r3.2 11 0 (f_X11_refuse 0 1 r3.2)).bind fun r5 => some (r5.1, r5.2) else (xgf r3.2 11 8 0).bind fun x6 => (xgf r3.2 11 5 0).bind fun x7 => (xgf r3.2 11 6 0).bind fun x8 => (xrc r3.2 7 x6 (f_X7_weigh x6 x7 x8 r3.2)).bind fun r9 => (xgf r9 11 8 0).bind fun x10 => (xgf r9 7 2 x10).bind fun x11 => some (x11, r9) := by
    unfold f_X11_judge
    rw [g0k Sh, pt_0_8 Sh, x0o Sh, s_takeTape Sh, bbind, eL0, ← e0, x0o S0]
    rfl
  rcases c_readRing S0 C0 T0 (q := 148) (n := n) (Or.inl rfl) (by rw [m0 199 4 (by omega)]; exact en) hL with ⟨⟨k2, k6, ok⟩, rd⟩ | ⟨nok, rd⟩
  · obtain ⟨H1, e1⟩ : ∃ z, z = xset (mkA h0 (148 + 1) (xm h0 174) L) 148 1 (L : Int) := ⟨_, rfl⟩
    rw [← e1] at rd
    obtain ⟨a1, a2, a3⟩ := mkA_n h0 149 (xm h0 174) L
    have n1 : xn H1 = xn h := by rw [e1]; show xn (mkA h0 149 (xm h0 174) L) = _; rw [a1, e0]; rfl
    have z1 : xz H1 = xz h := by rw [e1]; show xz (mkA h0 149 (xm h0 174) L) = _; rw [a2, e0]; rfl
    have k1 : xk H1 = xk h := by rw [e1]; show xk (mkA h0 149 (xm h0 174) L) = _; rw [a3, e0]; rfl
    have m1 : ∀ a k, ¬ (a = 0 ∧ k = 1) → a ≠ 148 → a ≠ 149 → xm H1 a k = xm h a k := fun a k y1 y2 y3 => by rw [e1, xm_xset, if_neg (by omega), mkA_m, if_neg (by omega), m0 a k y1]
    have v1 : xm H1 0 1 = 0 := by rw [e1, xm_xset, if_neg (by omega), mkA_m, if_neg (by omega), v0]
    have S1 : SH H1 := by rw [e1]; exact (mkA_S S0 (fun j => q_nf (q := 148) (Or.inl rfl) (Or.inr ⟨by omega, by omega⟩)) L).set (q_nf (q := 148) (Or.inl rfl) (Or.inl ⟨rfl, by omega⟩))
    have RGc : RG h h H1 s F1 F2 n m 148 L ρ := by
      refine ⟨rr_CV R N S1 n1 k1 (fun a k hd => m1 a k (by omega) (by omega) (by omega)), ST0.cl (fun a k _ _ => m1 a k (by omega) (by omega) (by omega)), Or.inl rfl, ⟨k2, k6⟩, by rw [e1, xm_xset, if_pos ⟨rfl, rfl⟩], fun i hi => ?_⟩
      have oi := ok.1 i hi
      rw [x74] at oi
      have hi' := hρ i
      refine ⟨?_, by omega⟩
      rw [e1, xm_xset, if_neg (by omega), mkA_m, if_pos ⟨rfl, hi⟩, x74]
      omega
    obtain ⟨H2, w1, w2, w3, w4, w5⟩ := c_weigh K RGc
    have R2 := RGc.cg K w2
    have S2 := R2.1.1
    have cl : f_X11_judge 0 h = some (rV h h L ρ, H2) := by
      rw [hd, rd, bbind, if_neg (show ¬ (1 : Int) = 0 by decide), g0k S1, pt_0_8 S1, g0k S1, m1 0 5 (by omega) (by omega) (by omega), C.1, g0k S1, pt_0_6 S1]
      refine (bnd (v := H2) (by rw [show xrc H1 7 148 (f_X7_weigh 148 (s : Int) 20 H1) = f_X7_weigh ((148 : Nat) : Int) (s : Int) 20 H1 from if_pos (ok_148 S1), w1])).trans ?_
      rw [g0k S2, pt_0_8 S2]
      exact (bnd (xgf_eq (a := 148) (ok_148 S2) w4)).trans rfl
    have m2 : ∀ a k, ¬ (a = 0 ∧ k = 1) → ¬ (148 ≤ a ∧ a ≤ 152) → a ≠ F1 + 2 → a ≠ F2 + 2 → xm H2 a k = xm h a k := fun a k y1 y2 y3 y4 => by
      rw [w2.2.2.2 a k (by unfold DG7; omega)]
      exact m1 a k y1 (by omega) (by omega)
    have v2 : xm H2 0 1 = 0 := by rw [w2.2.2.2 0 1 (by unfold DG7; omega), v1]
    -- the reference
    have QH : MV h H2 := rr_MV S2 (fun a k _ _ => m2 a k (by omega) (by omega) (by omega) (by omega))
    have y74 : xm H2 174 = xm h 174 := funext fun k => m2 174 k (by omega) (by omega) (by omega) (by omega)
    rcases m_isRing QH hn6 en (k := L) ((m2 173 1 (by omega) (by omega) (by omega) (by omega)).trans eL) hL with ⟨-, rr⟩ | ⟨bad, -⟩
    · obtain ⟨G1, f1⟩ : ∃ z, z = xset (mkA (xset H2 173 1 0) 213 (xm H2 174) L) 173 56 (L : Int) := ⟨_, rfl⟩
      rw [← f1] at rr
      obtain ⟨b1, b2, b3⟩ := mkA_n (xset H2 173 1 0) 213 (xm H2 174) L
      have p1 : ∀ a k, ¬ (a = 173 ∧ (k = 1 ∨ k = 56)) → a ≠ 213 → xm G1 a k = xm H2 a k := fun a k y1 y2 => by rw [f1, xm_xset, if_neg (by omega), mkA_m, if_neg (by omega), xm_xset, if_neg (by omega)]
      have SG1 : SH G1 := by rw [f1]; exact (mkA_S (S2.set (by decide +kernel)) (fun j => fixd_of (by decide +kernel)) L).set (by decide +kernel)
      have nG1 : xn G1 = xn H2 ∧ xz G1 = xz H2 ∧ xk G1 = xk H2 := by
        rw [f1]
        exact ⟨b1, b2, b3⟩
      have Q1 : MV h G1 := rr_MV SG1 (fun a k _ _ => by rw [p1 a k (by omega) (by omega)]; exact m2 a k (by omega) (by omega) (by omega) (by omega))
      have e12 : ∀ k, xm G1 212 k = xm h 212 k := fun k => by rw [p1 _ _ (by omega) (by omega)]; exact m2 _ _ (by omega) (by omega) (by omega) (by omega)
      have ST1 : ST h G1 n m := ST0.dm e12
      have M1 : RMd G1 n L ρ := by
        refine ⟨⟨k2, k6⟩, by rw [f1, xm_xset, if_pos ⟨rfl, rfl⟩], fun i hi => ?_⟩
        have oi := ok.1 i hi
        rw [x74] at oi
        have hi' := hρ i
        refine ⟨?_, by omega⟩
        rw [f1, xm_xset, if_neg (by omega), mkA_m, if_pos ⟨rfl, hi⟩, y74]
        omega
      obtain ⟨G2, g1, Z2, g3⟩ := m_whyNot K Q1 ST1 M1
      obtain ⟨rv1, rv2, rv3⟩ := rv_eq (h := h) (G := h) (G' := G1) (r := L) (ρ := ρ) e12
      rw [rv1] at g1
      rw [rv2] at g3
      have SG2 : SH G2 := Z2.sh DM7_nf SG1
      obtain ⟨G3, f3⟩ : ∃ z, z = xset G2 173 61 (rW h h L ρ) := ⟨_, rfl⟩
      have SG3 : SH G3 := by rw [f3]; exact SG2.set (by decide +kernel)
      have p3 : ∀ a k, a ≠ 173 → a ≠ 247 → xm G3 a k = xm G1 a k := fun a k y1 y2 => by rw [f3, xm_xset, if_neg (by omega), Z2.2.2.2 a k (DM7_ne y1 y2)]
      have Q3 : MV h G3 := ⟨SG3, fun a k hd => by rw [p3 a k (by omega) (by omega)]; exact Q1.2 a k hd⟩
      have e32 : ∀ k, xm G3 212 k = xm h 212 k := fun k => (p3 212 k (by omega) (by omega)).trans (e12 k)
      have ST3 : ST h G3 n m := ST0.dm e32
      have M3 : RMd G3 n L ρ := by
        refine ⟨M1.1, ?_, fun i hi => ⟨?_, (M1.2.2 i hi).2⟩⟩
        · rw [f3, xm_xset, if_neg (by omega), Z2.2.2.2 173 56 rfl]; exact M1.2.1
        · rw [p3 _ _ (by omega) (by omega)]; exact (M1.2.2 i hi).1
      obtain ⟨G4, q1, Z4⟩ := y_pays K Q3 ST3 M3 L 0 (by omega) G3 (Fx.refl _ _) xFU (by unfold xFU; omega)
      obtain ⟨-, -, rv4⟩ := rv_eq (h := h) (G := h) (G' := G3) (r := L) (ρ := ρ) e32
      rw [rv4] at q1
      have SG4 : SH G4 := Z4.sh DM_nf SG3
      obtain ⟨G5, f5⟩ : ∃ z, z = xset G4 173 62 (xsum (rPy h h L ρ) L) := ⟨_, rfl⟩
      obtain ⟨G6, f6⟩ : ∃ z, z = xset G5 173 60 1 := ⟨_, rfl⟩
      have SG5 : SH G5 := by rw [f5]; exact SG4.set (by decide +kernel)
      have SG6 : SH G6 := by rw [f6]; exact SG5.set (by decide +kernel)
      have ref : f_X12_judge 173 H2 = some (rV h h L ρ, G6) := by
        unfold f_X12_judge
        rw [xM S2, rr, bbind, if_neg (show ¬ (1 : Int) = 0 by decide), xM SG1, g1, bbind, gM SG2, g3, pMf SG2, ← f3, xM SG3]
        have pa : f_X12_paysAll 173 G3 = some (xsum (rPy h h L ρ) L, G4) := by
          unfold f_X12_paysAll
          exact (bnd q1).trans rfl
        rw [pa, bbind, pMf SG4, ← f5, pMf SG5, ← f6]
      have p6 : ∀ a k, ¬ (a = 173 ∧ (k = 1 ∨ (49 ≤ k ∧ k ≤ 62) ∨ k = 104)) → a ≠ 213 → a ≠ 247 → xm G6 a k = xm H2 a k := fun a k y1 y2 y3 => by
        rw [f6, xm_xset, if_neg (by omega), f5, xm_xset, if_neg (by omega), Z4.2.2.2 a k (by unfold DM; simp; omega), f3, xm_xset, if_neg (by omega), Z2.2.2.2 a k (by unfold DM7 DM; simp; omega), p1 a k (by omega) (by omega)]
      have nn : xn G6 = xn h := by rw [f6, f5]; show xn G4 = _; rw [Z4.1, f3]; show xn G2 = _; rw [Z2.1, nG1.1, w2.1, n1]
      have zz : xz G6 = xz h := by rw [f6, f5]; show xz G4 = _; rw [Z4.2.1, f3]; show xz G2 = _; rw [Z2.2.1, nG1.2.1, w2.2.1, z1]
      have kk : xk G6 = xk h := by rw [f6, f5]; show xk G4 = _; rw [Z4.2.2.1, f3]; show xk G2 = _; rw [Z2.2.2.1, nG1.2.2, w2.2.2.1, k1]
      have eX : ∀ a k, ¬ DJ a k → a ≠ F1 + 2 → a ≠ F2 + 2 → xm G6 a k = xm h a k := fun a k y1 y2 y3 => by
        unfold DJ at y1
        rw [p6 a k (by omega) (by omega) (by omega)]
        exact m2 a k (by omega) (by omega) y2 y3
      have ag : ∀ D : Nat → Nat → Bool, (∀ a k, D a k = true → a < 249 ∧ ¬ DJ a k) → agr D h G6 := fun D hD a k q => eX a k (hD a k q).2 (by have := (hD a k q).1; omega) (by have := (hD a k q).1; omega)
      have x01 : xm G6 0 1 = 0 := by rw [p6 0 1 (by omega) (by omega) (by omega), v2]
      have x31 : xm G6 173 1 = 0 := by
        rw [f6, xm_xset, if_neg (by omega), f5, xm_xset, if_neg (by omega), Z4.2.2.2 173 1 rfl, f3, xm_xset, if_neg (by omega), Z2.2.2.2 173 1 rfl, f1, xm_xset, if_neg (by omega), mkA_m, if_neg (by omega), xm_xset, if_pos ⟨rfl, rfl⟩]
      have Rtt : Rt G6 := by
        refine ⟨fun k hk => ?_, by rw [x01, x31], by rw [x31]; decide, by rw [x31]; decide⟩
        rw [eX 174 k (by unfold DJ; omega) (by omega) (by omega), eX 1 k (by unfold DJ; omega) (by omega) (by omega)]
        exact t1 k hk
      have Rjj : Rj G6 := by
        have y1 : xm G6 148 1 = (L : Int) := by rw [p6 _ _ (by omega) (by omega) (by omega)]; exact R2.2.2.2.2.1
        have y3 : xm G6 148 3 = rW h h L ρ := by rw [p6 _ _ (by omega) (by omega) (by omega)]; exact w5
        refine Or.inr ⟨by rw [f6, xm_xset, if_pos ⟨rfl, rfl⟩], by omega, by omega, ?_, ?_⟩
        · rw [y3, f6, xm_xset, if_neg (by omega), f5, xm_xset, if_neg (by omega), Z4.2.2.2 173 61 rfl, f3, xm_xset, if_pos ⟨rfl, rfl⟩]
        · rw [y1, Int.toNat_natCast, f6, xm_xset, if_neg (by omega), f5, xm_xset, if_pos ⟨rfl, rfl⟩]
          refine xsum_congr _ (fun j hj => ?_)
          show xm (xset (xset G4 173 62 _) 173 60 1) 150 j = _
          rw [← f5, ← f6, p6 _ _ (by omega) (by omega) (by omega)]
          exact w3.1 j (by omega)
      refine ⟨_, H2, G6, cl, ref, ⟨s, F1, F2, T2, T3, R.mvG N SG6 nn kk (fun a k hd => eX a k (by unfold DRc at hd; unfold DJ; omega) (by unfold DRc at hd; omega) (by unfold DRc at hd; omega)) Rtt ((rr_r R).mv (ag _ (fun a k q => ?_))) ((rr_f R).mv (ag _ (fun a k q => ?_))) ((rr_n R).mv (ag _ (fun a k q => ?_))) ((rr_h R).mv (ag _ (fun a k q => ?_))) Rjj ((rr_i R).mv (ag _ (fun a k q => ?_))) ((rr_s R).mv (ag _ (fun a k q => ?_))) ((rr_2 R).mv (ag _ (fun a k q => ?_)))⟩, by omega, by omega⟩
      · unfold DRr at q; simp at q; unfold DJ; omega
      · unfold DRf at q; simp at q; unfold DJ; omega
      · unfold DRn at q; simp at q; unfold DJ; omega
      · unfold DRh at q; simp at q; unfold DJ; omega
      · unfold DRi at q; simp at q; unfold DJ; omega
      · unfold DRs at q; simp at q; unfold DJ; omega
      · unfold DRo2 at q; simp at q; unfold DJ; omega
    · exfalso
      refine bad ⟨k2, k6, ?_⟩
      rw [y74, ← x74]
      exact ok
  · -- no ring
    obtain ⟨H, eH⟩ : ∃ z, z = xset h0 172 1 (w32 (xm h0 172 1 + 1)) := ⟨_, rfl⟩
    have SH' : SH H := by rw [eH]; exact S0.set (fixd_of (by decide +kernel))
    have mH : ∀ a k, ¬ (a = 0 ∧ k = 1) → a ≠ 172 → xm H a k = xm h a k := fun a k y1 y2 => by rw [eH, xm_xset, if_neg (by omega), m0 a k y1]
    have cl : f_X11_judge 0 h = some (-1, H) := by
      rw [hd, rd, bbind, if_pos rfl, x0o S0, s_X11_refuse S0 (by omega) (by omega), eH]
      rfl
    have QH : MV h H := rr_MV SH' (fun a k _ _ => mH a k (by omega) (by omega))
    have y74 : xm H 174 = xm h 174 := funext fun k => mH 174 k (by omega) (by omega)
    rcases m_isRing QH hn6 en (k := L) ((mH 173 1 (by omega) (by omega)).trans eL) hL with ⟨ok, -⟩ | ⟨-, rr⟩
    · exfalso
      rw [y74, ← x74] at ok
      exact nok ok
    · obtain ⟨G1, f1⟩ : ∃ z, z = xset H 173 1 0 := ⟨_, rfl⟩
      rw [← f1] at rr
      have SG1 : SH G1 := by rw [f1]; exact SH'.set (by decide +kernel)
      have i5 : xia G1 0 175 ((1 : Nat) : Int) = true := ia_175 SG1 (by omega) (by omega)
      refine CallOK.same (v := -1) (h1 := H) (h2 := xset G1 175 1 (w32 (xm G1 175 1 + 1))) cl ?_ ⟨s, F1, F2, T2, T3, ?_⟩ (by rw [f1, eH, e0]; rfl) (by rw [f1, eH, e0]; rfl)
      · unfold f_X12_judge f_X12_refuses
        rw [xM SH', rr, bbind, if_pos rfl, xM SG1, gM SG1, pt_173_9 SG1]
        have : ((xal G1 0 175 1).bind fun x2 => (xas G1 0 175 1 (w32 (x2 + 1))).bind fun h3 => some ((-1 : Int), h3)) = some (-1, xset G1 175 1 (w32 (xm G1 175 1 + 1))) := by
          refine (bnd (xal_eq (a := 175) (i := 1) i5 rfl)).trans ?_
          exact (bnd (xas_eq (a := 175) (i := 1) i5)).trans rfl
        rw [this]
        rfl
      · have := rr_takeRef R (w := 1) (by omega)
        have x72 : xm h0 172 1 = xm h 172 1 := m0 172 1 (by omega)
        have x75 : xm G1 175 1 = xm h 175 1 := by rw [f1, xm_xset, if_neg (by omega), mH 175 1 (by omega) (by omega)]
        rw [x75, f1, eH, x72, e0]
        exact this
