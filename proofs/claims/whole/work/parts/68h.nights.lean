/-! ===== nights ===== -/
def CNn (F1 F2 : Nat) (H H' : xa_H) : Prop := xn H' = xn H ∧ xz H' = xz H ∧ xk H' = xk H ∧ ∀ a k, ¬ (DCn F1 F2 a k ∨ (a = 20 ∧ k = 0)) → xm H' a k = xm H a k
theorem CNn.tr {F1 F2 : Nat} {H H' H'' : xa_H} (a : CNn F1 F2 H H') (b : CNn F1 F2 H' H'') : CNn F1 F2 H H'' := ⟨b.1.trans a.1, b.2.1.trans a.2.1, b.2.2.1.trans a.2.2.1, fun x k hd => (b.2.2.2 x k hd).trans (a.2.2.2 x k hd)⟩
theorem CNn.refl (F1 F2 : Nat) (H : xa_H) : CNn F1 F2 H H := ⟨rfl, rfl, rfl, fun _ _ _ => rfl⟩
theorem CNf.nn {F1 F2 : Nat} {H H' : xa_H} (e : CNf F1 F2 H H') : CNn F1 F2 H H' := ⟨e.1, e.2.1, e.2.2.1, fun a k hd => e.2.2.2 a k (fun c => hd (Or.inl c))⟩
theorem CNn.tick (F1 F2 : Nat) (H : xa_H) (v : Int) : CNn F1 F2 H (xset H 20 0 v) := ⟨rfl, rfl, rfl, fun a k hd => by rw [xm_xset, if_neg (by omega)]⟩
theorem ST.tick {H G : xa_H} {n m : Nat} (R : ST H G n m) (hb : xm G 212 0 < 9999) : ST (xset H 20 0 (xm G 212 0 + 1)) (xset G 212 0 (xm G 212 0 + 1)) n m := by
  obtain ⟨⟨r1, r2, r3, r4, r5, r6, r7⟩, v1, v2, v3, v4, v5, v6, v7, v8⟩ := R
  have c1 : ∀ a k, ¬ (a = 20 ∧ k = 0) → xm (xset H 20 0 (xm G 212 0 + 1)) a k = xm H a k := fun a k y => by rw [xm_xset, if_neg y]
  have c2 : ∀ k, k ≠ 0 → xm (xset G 212 0 (xm G 212 0 + 1)) 212 k = xm G 212 k := fun k y => by rw [xm_xset, if_neg (by omega)]
  have e1 : xm (xset H 20 0 (xm G 212 0 + 1)) 20 0 = xm G 212 0 + 1 := by rw [xm_xset, if_pos ⟨rfl, rfl⟩]
  have e2 : xm (xset G 212 0 (xm G 212 0 + 1)) 212 0 = xm G 212 0 + 1 := by rw [xm_xset, if_pos ⟨rfl, rfl⟩]
  refine ⟨⟨e1.trans e2.symm, fun i hi => ?_, fun i hi => ?_, fun i hi => ?_, fun i j hi hj => ?_, ?_, fun k hk => ?_⟩, by rw [e2]; omega, fun i hi => ?_, fun i hi => ?_, fun i hi => ?_, fun i j hi hj => ?_, fun i j hi hj e => ?_, ?_, fun k hk => ?_⟩
  · rw [c1 _ _ (by omega), c2 _ (by omega)]; exact r2 i hi
  · rw [c1 _ _ (by omega), c2 _ (by omega)]; exact r3 i hi
  · rw [c1 _ _ (by omega), c2 _ (by omega)]; exact r4 i hi
  · rw [c1 _ _ (by omega), c2 _ (by omega)]; exact r5 i j hi hj
  · rw [c1 _ _ (by omega), c2 _ (by omega)]; exact r6
  · rw [c2 _ (by omega)] at hk
    rw [c1 _ _ (by omega), c2 _ (by omega), c2 _ (by omega), c2 _ (by omega), c2 _ (by omega)]; exact r7 k hk
  · rw [c2 _ (by omega)]; exact v2 i hi
  · rw [c2 _ (by omega)]; exact v3 i hi
  · rw [c2 _ (by omega)]; exact v4 i hi
  · rw [c2 _ (by omega)]; exact v5 i j hi hj
  · rw [c2 _ (by omega), c2 _ (by omega)] at e; exact v6 i j hi hj e
  · rw [c2 _ (by omega)]; exact v7
  · rw [c2 _ (by omega)] at hk
    rw [c2 _ (by omega), c2 _ (by omega), c2 _ (by omega), c2 _ (by omega)]; exact v8 k hk
theorem NI.tick {h H G : xa_H} {s F1 F2 n m x : Nat} (K : KX h s F1 F2 n m) (I : NI h s F1 F2 n m H G x) (hb : xm G 212 0 < 9999) : NI h s F1 F2 n m (xset H 20 0 (xm G 212 0 + 1)) (xset G 212 0 (xm G 212 0 + 1)) x := by
  obtain ⟨Qc, Qm, R, xH, xG, x31⟩ := I
  have cs := K.1.2.1.1
  obtain ⟨g1, g2, g3⟩ := K.2.1.far
  refine ⟨⟨Qc.1.set (by decide +kernel), Qc.2.1, Qc.2.2.1, fun a k hd => ?_⟩, ⟨Qm.1.set (fixd_of (by decide +kernel)), fun a k hd => ?_⟩, R.tick hb, ?_, ?_, x31⟩
  · rw [xm_xset, if_neg (by omega)]; exact Qc.2.2.2 a k hd
  · rw [xm_xset, if_neg (by omega)]; exact Qm.2 a k hd
  · rw [xm_xset, if_neg (by omega)]; exact xH
  · rw [xm_xset, if_neg (by omega)]; exact xG
theorem nt_loop {h : xa_H} {s F1 F2 n m : Nat} (K : KX h s F1 F2 n m) {N : Nat} (hN : N ≤ 100) : ∀ t i, i + t = N → ∀ (c : Nat) (H G : xa_H) (x : Nat), c ≤ i → NI h s F1 F2 n m H G x → xm G 212 0 + (t : Int) ≤ 9999 → ∀ fu fv, t < fu → t < fv →
    ∃ V H' G' x', xit (fun s => f_X11_nights_L47 0 (N : Int) s.1 s.2.1 s.2.2) fu ((c : Int), (i : Int), H) = some (V, H') ∧ xit (fun s => f_X12_nights_L40 173 (N : Int) s.1 s.2.1 s.2.2) fv ((c : Int), (i : Int), G) = some (V, G') ∧ CNn F1 F2 H H' ∧ Fx DNg G G' ∧ NI h s F1 F2 n m H' G' x' := by
  intro t
  induction t with
  | zero =>
    intro i hit c H G x hc I hb fu fv h1 h2
    have : i = N := by omega
    subst this
    refine ⟨(c : Int), H, G, x, xit_end ?_ h1, xit_end ?_ h2, CNn.refl _ _ _, Fx.refl _ _, I⟩
    · show f_X11_nights_L47 0 (i : Int) (c : Int) (i : Int) H = _
      unfold f_X11_nights_L47
      rw [if_neg (by omega)]
    · show f_X12_nights_L40 173 (i : Int) (c : Int) (i : Int) G = _
      unfold f_X12_nights_L40
      rw [if_neg (by omega)]
  | succ t ih =>
    intro i hit c H G x hc I hb fu fv h1 h2
    obtain ⟨fu, rfl⟩ : ∃ z, fu = z + 1 := ⟨fu - 1, by omega⟩
    obtain ⟨fv, rfl⟩ : ∃ z, fv = z + 1 := ⟨fv - 1, by omega⟩
    have n6 := rc_n K.1
    have en := K.2.2.2.2.1
    -- the end of a night
    have tick : ∀ {A B : xa_H} {y : Nat}, NI h s F1 F2 n m A B y → xm B 212 0 = xm G 212 0 → CNn F1 F2 H A → Fx DNg G B → ∀ (c' : Nat), c' ≤ i + 1 → f_X11_nights_L47 0 (N : Int) (c : Int) (i : Int) H = some (Sum.inl ((c' : Int), ((i + 1 : Nat) : Int), xset A 20 0 (xm B 212 0 + 1))) → f_X12_nights_L40 173 (N : Int) (c : Int) (i : Int) G = some (Sum.inl ((c' : Int), ((i + 1 : Nat) : Int), xset B 212 0 (xm B 212 0 + 1))) →
        ∃ V H' G' x', xit (fun s => f_X11_nights_L47 0 (N : Int) s.1 s.2.1 s.2.2) (fu + 1) ((c : Int), (i : Int), H) = some (V, H') ∧ xit (fun s => f_X12_nights_L40 173 (N : Int) s.1 s.2.1 s.2.2) (fv + 1) ((c : Int), (i : Int), G) = some (V, G') ∧ CNn F1 F2 H H' ∧ Fx DNg G G' ∧ NI h s F1 F2 n m H' G' x' := by
      intro A B y J eB cA zB c' hc' l1 l2
      have J' := J.tick K (by rw [eB]; omega)
      obtain ⟨V, H', G', x', a1, a2, a3, a4, a5⟩ := ih (i + 1) (by omega) c' _ _ y hc' J' (by rw [xm_xset, if_pos ⟨rfl, rfl⟩, eB]; omega) fu fv (by omega) (by omega)
      refine ⟨V, H', G', x', (xit_go l1).trans a1, (xit_go l2).trans a2, (cA.tr (CNn.tick _ _ _ _)).tr a3, (zB.tr ((Fx.refl _ _).set rfl)).tr a4, a5⟩
    have S := I.1.1
    have SG := I.2.1.1
    have es2 : xm H s 2 = (n : Int) := by rw [I.1.2.2.2 _ _ (Or.inl ⟨by omega, by omega⟩), K.1.2.2.2.2.2.2.1, en]
    have ct := I.1.cs K.1.2.1
    have wN : ∀ {z : Int}, 0 ≤ z → z ≤ 9999 → w32 (z + 1) = z + 1 := fun a b => w32_id (by omega) (by omega)
    have nc := sv_night I.2.2.1
    by_cases y : n < 2
    · have en0 : xm H 20 0 = xm G 212 0 := st_night I.2.2.1
      refine tick I rfl (CNn.refl _ _ _) (Fx.refl _ _) c (by omega) ?_ ?_
      · unfold f_X11_nights_L47
        rw [if_pos (by omega), g0k S, I.1.s05 K.1, gCS ct, es2, if_pos (by omega), g0k S, pt_0_6 S]
        refine (bnd (xgf_eq (a := 20) (ok_20 S) en0)).trans ?_
        rw [wN nc.1 nc.2]
        refine (bnd (xpf_eq (a := 20) (ok_20 S))).trans ?_
        rw [wS (by omega)]
      · have many : f_X12_holderMany 173 G = some (n : Int) := by
          have i1 : xia G 0 199 ((4 : Nat) : Int) = true := ia_199 SG (by omega) (by omega)
          unfold f_X12_holderMany
          rw [gM SG, pt_173_34 SG]
          exact (bnd (xal_eq (a := 199) i1 ((I.2.1.2 199 4 (by omega)).trans en))).trans rfl
        have ng : f_X12_nightGoes 173 G = some (0, G) := by
          unfold f_X12_nightGoes
          rw [xM SG, many, bbind, if_pos (by omega)]
        unfold f_X12_nights_L40 f_X12_nights_J55L40
        rw [if_pos (by omega), xM SG, ng, bbind, if_pos rfl, gM SG, pt_173_50 SG]
        refine (bnd (xal_eq (a := 212) (i := 0) (ia_212 SG (by omega) (by omega)) rfl)).trans ?_
        rw [wN nc.1 nc.2]
        refine (bnd (xas_eq (a := 212) (i := 0) (ia_212 SG (by omega) (by omega)))).trans ?_
        rw [wS (by omega)]
    · obtain ⟨V, A, B, x', v1, v2, v3, v4, v5, v6, v7⟩ := nt_ring K I (by omega)
      have SA := v7.1.1
      have SB := v7.2.1.1
      have en0 : xm A 20 0 = xm G 212 0 := by rw [v5.2.2.2 20 0 (by unfold DCn; have := K.1.2.1.1; have := K.2.2.1; have := K.2.2.2.1; omega)]; exact st_night I.2.2.1
      have en1 : xm B 212 0 = xm G 212 0 := (st_night v7.2.2.1).symm.trans en0
      obtain ⟨c', ec'⟩ : ∃ c', c' = if V = 0 then c + 1 else c := ⟨_, rfl⟩
      have hc' : c' ≤ i + 1 := by rw [ec']; split <;> omega
      refine tick v7 en1 v5.nn v6 c' hc' ?_ ?_
      · have J : ∀ b : Nat, c + b = c' → f_X11_nights_J83L47 0 (N : Int) (i : Int) (c : Int) (b : Int) A = some (Sum.inl ((c' : Int), ((i + 1 : Nat) : Int), xset A 20 0 (xm B 212 0 + 1))) := by
          intro b hb
          unfold f_X11_nights_J83L47
          rw [g0k SA, pt_0_6 SA]
          refine (bnd (xgf_eq (a := 20) (ok_20 SA) (en0.trans en1.symm))).trans ?_
          rw [wN (by rw [en1]; exact nc.1) (by rw [en1]; exact nc.2)]
          refine (bnd (xpf_eq (a := 20) (ok_20 SA))).trans ?_
          rw [wS (by omega), show (c : Int) + (b : Int) = (c' : Int) by omega, w32_id (by omega) (by omega)]
        unfold f_X11_nights_L47
        rw [if_pos (by omega), g0k S, I.1.s05 K.1, gCS ct, es2, if_neg (by omega), x0o S, v2, bbind, g0k SA, pt_0_9 SA]
        refine (bnd (xgf_eq (a := 153) (ok_153 SA) v3)).trans ?_
        by_cases z : V = 0
        · rw [if_pos z]
          rw [if_pos z] at ec'
          exact J 1 (by omega)
        · rw [if_neg z]
          rw [if_neg z] at ec'
          exact J 0 (by omega)
      · have J : f_X12_nights_J55L40 173 (N : Int) (c' : Int) (i : Int) B = some (Sum.inl ((c' : Int), ((i + 1 : Nat) : Int), xset B 212 0 (xm B 212 0 + 1))) := by
          unfold f_X12_nights_J55L40
          rw [gM SB, pt_173_50 SB]
          refine (bnd (xal_eq (a := 212) (i := 0) (ia_212 SB (by omega) (by omega)) rfl)).trans ?_
          rw [wN (by rw [en1]; exact nc.1) (by rw [en1]; exact nc.2)]
          refine (bnd (xas_eq (a := 212) (i := 0) (ia_212 SB (by omega) (by omega)))).trans ?_
          rw [wS (by omega)]
        unfold f_X12_nights_L40
        rw [if_pos (by omega), xM SG, v4, bbind]
        by_cases z : V = 0
        · rw [if_pos z] at ec'
          rw [if_pos z, if_neg (show ¬ (1 : Int) = 0 by decide), wS (by omega), ← ec']
          exact J
        · rw [if_neg z] at ec'
          rw [if_neg z, if_pos rfl, ← ec']
          exact J
theorem dNg_no {a k : Nat} (y1 : ¬ (a = 173 ∧ ((49 ≤ k ∧ k ≤ 57) ∨ k = 76 ∨ k = 104))) (y2 : ¬ (212 ≤ a ∧ a ≤ 215)) (y3 : a ≠ 247) : DNg a k = false := by
  unfold DNg DC8 DM2 DM
  simp
  omega
def DNh (a k : Nat) : Prop := (a = 0 ∧ k = 18) ∨ (20 ≤ a ∧ a ≤ 26) ∨ (28 ≤ a ∧ a < 148) ∨ (153 ≤ a ∧ a ≤ 157) ∨ (a = 173 ∧ ((49 ≤ k ∧ k ≤ 57) ∨ k = 74 ∨ k = 75 ∨ k = 76 ∨ k = 104)) ∨ (212 ≤ a ∧ a ≤ 215) ∨ a = 224 ∨ a = 247
theorem c_nights {h : xa_H} {s F1 F2 T2 T3 : Nat} (R' : RR h s F1 F2 T2 T3) (v : Int) : CallOK h (f_X11_nights 0 v h) (f_X12_nights 173 v) := by
  obtain ⟨F1, F2, R, N⟩ := rr_norm R'
  clear R'
  obtain ⟨n, m, K, ST0, en, hn6⟩ := rr_KX R N
  have em := K.2.2.2.2.2
  have Sh := rr_S R
  have C := rr_c R
  have cs1 := C.2.1.1
  have nf1 := N.2.2.1
  have nf2 := N.2.2.2
  obtain ⟨fg1, fg2, fg3⟩ := (rr_F R).far
  obtain ⟨n0, n1⟩ := sv_night ST0
  have n2 := st_night ST0
  by_cases bad : v < 1 ∨ 100 < v ∨ 9999 < xm h 212 0 + v
  · obtain ⟨H, eH⟩ : ∃ z, z = xset h 172 3 (w32 (xm h 172 3 + 1)) := ⟨_, rfl⟩
    have SH' : SH H := by rw [eH]; exact Sh.set (fixd_of (by decide +kernel))
    have j11 : f_X11_nights_J26 0 h = some (-1, H) := by
      unfold f_X11_nights_J26
      rw [x0o Sh, s_X11_refuse Sh (by omega) (by omega), eH]
      rfl
    have j12 : f_X12_nights_J26 173 H = some (-1, xset H 175 3 (w32 (xm H 175 3 + 1))) := by
      unfold f_X12_nights_J26
      rw [xM SH', s_X12_refuses SH' (by omega) (by omega)]
      rfl
    have mH : ∀ a k, a ≠ 172 → xm H a k = xm h a k := fun a k y => by rw [eH, xm_xset, if_neg (by omega)]
    refine CallOK.same (v := -1) (h1 := H) (h2 := xset H 175 3 (w32 (xm H 175 3 + 1))) ?_ ?_ ⟨s, F1, F2, T2, T3, ?_⟩ (by rw [eH]; rfl) (by rw [eH]; rfl)
    · unfold f_X11_nights
      by_cases y1 : v < 1
      · rw [if_pos y1, j11]
      rw [if_neg y1]
      by_cases y2 : 100 < v
      · rw [if_pos y2, j11]
      rw [if_neg y2, g0k Sh, pt_0_6 Sh]
      refine (bnd (xgf_eq (a := 20) (ok_20 Sh) n2)).trans ?_
      rw [w32_id (by omega) (by omega), if_pos (by omega), j11]
    · unfold f_X12_nights
      rw [s_X12_isIn, bbind]
      by_cases y1 : v < 1 ∨ 100 < v
      · rw [if_pos y1, if_pos rfl, j12]
      rw [if_neg y1, if_neg (by decide), gM SH', pt_173_50 SH']
      refine (bnd (xal_eq (a := 212) (i := 0) (ia_212 SH' (by omega) (by omega)) (mH 212 0 (by omega)))).trans ?_
      rw [w32_id (by omega) (by omega), if_pos (by omega), j12]
    · have := rr_refuse R (w := 3) (by omega)
      rw [eH]
      exact this
  · obtain ⟨M, rfl⟩ : ∃ M : Nat, v = (M : Int) := ⟨v.toNat, by omega⟩
    have hM : 1 ≤ M ∧ M ≤ 100 := by omega
    obtain ⟨r1, r2, r3, r4, r5⟩ := rr_h R
    obtain ⟨p, hp⟩ : ∃ p : Nat, xm h 26 1 = (p : Int) := ⟨(xm h 26 1).toNat, by omega⟩
    obtain ⟨c, hc⟩ : ∃ c : Nat, xm h 26 2 = (c : Int) := ⟨(xm h 26 2).toNat, by omega⟩
    obtain ⟨rs1, rs2, rs3⟩ := rr_s R
    obtain ⟨x, hx⟩ : ∃ x : Nat, xm h 173 76 = (x : Int) := ⟨(xm h 173 76).toNat, by omega⟩
    have hp2 : p < 20 := by omega
    have rem := s_remember Sh hp hp2 hc (by omega)
    obtain ⟨Hr, eHr⟩ : ∃ z, z = xset (xset (xcst h (28 + 6 * p) 20) 26 1 (((p + 1) % 20 : Nat) : Int)) 26 2 ((min (c + 1) 20 : Nat) : Int) := ⟨_, rfl⟩
    rw [← eHr] at rem
    have Sr : SH Hr := by rw [eHr]; exact ((sh_xcst Sh hp2).set (by decide +kernel)).set (by decide +kernel)
    have mr : ∀ a k, ¬ (28 ≤ a ∧ a < 148) → a ≠ 26 → xm Hr a k = xm h a k := fun a k y1 y2 => by rw [eHr, xm_xset, if_neg (by omega), xm_xset, if_neg (by omega), xm_xcst, if_neg (by omega), if_neg (by omega)]
    have nr : xn Hr = xn h ∧ xz Hr = xz h ∧ xk Hr = xk h := by rw [eHr]; exact ⟨rfl, rfl, rfl⟩
    have CVr : CV h Hr s F1 F2 := rr_CV R N Sr nr.1 nr.2.2 (fun a k hd => mr a k (by omega) (by omega))
    have STr : ST Hr h n m := ST0.cl (fun a k _ _ => mr a k (by omega) (by omega))
    have NIr : NI h s F1 F2 n m Hr h x := ⟨CVr, rr_MV Sh (fun _ _ _ _ => rfl), STr, (mr 0 18 (by omega) (by omega)).trans (rs1.trans hx), hx, by omega⟩
    obtain ⟨V, H3, G0, x0, a1, -, a3, -, a5⟩ := nt_loop K hM.2 M 0 (by omega) 0 Hr h x (Nat.le_refl _) NIr (by omega) xFU xFU (by unfold xFU; omega) (by unfold xFU; omega)
    have S3 := a5.1.1
    have m3 : ∀ a k, ¬ (a = 0 ∧ k = 18) → ¬ (20 ≤ a ∧ a ≤ 26) → ¬ (28 ≤ a ∧ a < 148) → ¬ (153 ≤ a ∧ a ≤ 157) → a ≠ F1 + 2 → a ≠ F2 + 2 → xm H3 a k = xm h a k := fun a k y1 y2 y3 y4 y5 y6 => by
      rw [a3.2.2.2 a k (by unfold DCn; omega), mr a k y3 (by omega)]
    have cl : f_X11_nights 0 (M : Int) h = some (V, H3) := by
      unfold f_X11_nights
      rw [if_neg (by omega), if_neg (by omega), g0k Sh, pt_0_6 Sh]
      refine (bnd (xgf_eq (a := 20) (ok_20 Sh) n2)).trans ?_
      rw [w32_id (by omega) (by omega), if_neg (by omega), g0k Sh, pt_0_7 Sh, g0k Sh, pt_0_6 Sh]
      refine (bnd (v := Hr) (by rw [show xrc h 4 26 (f_X4_remember 26 20 h) = f_X4_remember 26 20 h from if_pos (ok_26 Sh), rem])).trans ?_
      exact (bnd a1).trans rfl
    -- the reference
    have q0 : ∀ a k, 173 ≤ a → a < 249 → xm H3 a k = xm h a k := fun a k y1 y2 => m3 a k (by omega) (by omega) (by omega) (by omega) (by omega) (by omega)
    have kp := s_keeps S3 (p := p) (c := c) ((q0 173 75 (by omega) (by omega)).trans (r3.symm.trans hp)) hp2 ((q0 173 74 (by omega) (by omega)).trans (r4.symm.trans hc)) (by omega)
    obtain ⟨G2, f2⟩ : ∃ z, z = xset (xarr (xset H3 173 75 (((p + 1) % 20 : Nat) : Int)) 224 (kpF H3 ((p + 1) % 20))) 173 74 ((min (c + 1) 20 : Nat) : Int) := ⟨_, rfl⟩
    rw [← f2] at kp
    have SG2 : SH G2 := by rw [f2]; exact ((S3.set (by decide +kernel)).arr (by decide +kernel)).set (by decide +kernel)
    have p2 : ∀ a k, ¬ (a = 173 ∧ (k = 74 ∨ k = 75)) → a ≠ 224 → xm G2 a k = xm H3 a k := fun a k y1 y2 => by rw [f2, xm_xset, if_neg (by omega), xm_xarr, if_neg (by omega), xm_xset, if_neg (by omega)]
    have q2 : ∀ a k, 173 ≤ a → a < 249 → ¬ (a = 173 ∧ (k = 74 ∨ k = 75)) → a ≠ 224 → xm G2 a k = xm h a k := fun a k y1 y2 y3 y4 => (p2 a k y3 y4).trans (q0 a k y1 y2)
    have e22 : ∀ k, xm G2 212 k = xm h 212 k := fun k => q2 _ _ (by omega) (by omega) (by omega) (by omega)
    have NI2 : NI h s F1 F2 n m Hr G2 x := ⟨CVr, rr_MV SG2 (fun a k _ _ => q2 a k (by omega) (by omega) (by omega) (by omega)), STr.dm e22, NIr.2.2.2.1, (q2 173 76 (by omega) (by omega) (by omega) (by omega)).trans hx, NIr.2.2.2.2.2⟩
    obtain ⟨V', H3', G4, x4, b1, b2, -, b4, b5⟩ := nt_loop K hM.2 M 0 (by omega) 0 Hr G2 x (Nat.le_refl _) NI2 (by rw [e22]; omega) xFU xFU (by unfold xFU; omega) (by unfold xFU; omega)
    have eq : (V', H3') = (V, H3) := Option.some.inj (b1.symm.trans a1)
    obtain ⟨rfl, rfl⟩ := Prod.mk.inj eq
    clear eq b1
    have ref : f_X12_nights 173 (M : Int) H3' = some (V', G4) := by
      unfold f_X12_nights
      rw [s_X12_isIn, bbind, if_neg (show ¬ ((M : Int) < 1 ∨ 100 < (M : Int)) by omega), if_neg (by decide), gM S3, pt_173_50 S3]
      refine (bnd (xal_eq (a := 212) (i := 0) (ia_212 S3 (by omega) (by omega)) (q0 212 0 (by omega) (by omega)))).trans ?_
      rw [w32_id (by omega) (by omega), if_neg (by omega), xM S3, kp, bbind]
      exact (bnd b2).trans rfl
    obtain ⟨-, bm, bst, b18, b76, b31⟩ := b5
    have SG4 := bm.1
    have p4 : ∀ a k, DNg a k = false → ¬ (a = 173 ∧ (k = 74 ∨ k = 75)) → a ≠ 224 → xm G4 a k = xm H3' a k := fun a k y1 y2 y3 => by
      rw [b4.2.2.2 a k y1, p2 a k y2 y3]
    have p5 : ∀ a k, ¬ DNh a k ∨ a < 173 → xm G4 a k = xm H3' a k := fun a k y => by
      unfold DNh at y
      exact p4 a k (dNg_no (by omega) (by omega) (by omega)) (by omega) (by omega)
    have eX : ∀ a k, ¬ DNh a k → a ≠ F1 + 2 → a ≠ F2 + 2 → xm G4 a k = xm h a k := fun a k y1 y2 y3 => by
      rw [p5 a k (Or.inl y1)]
      unfold DNh at y1
      exact m3 a k (by omega) (by omega) (by omega) (by omega) y2 y3
    have ag : ∀ D : Nat → Nat → Bool, (∀ a k, D a k = true → a < 249 ∧ ¬ DNh a k) → agr D h G4 := fun D hD a k q => eX a k (hD a k q).2 (by have := (hD a k q).1; omega) (by have := (hD a k q).1; omega)
    have nn : xn G4 = xn h := by rw [b4.1, f2]; exact a3.1.trans nr.1
    have zz : xz G4 = xz h := by rw [b4.2.1, f2]; exact a3.2.1.trans nr.2.1
    have kk : xk G4 = xk h := by rw [b4.2.2.1, f2]; exact a3.2.2.1.trans nr.2.2
    have x94 : xm G4 199 4 = xm h 199 4 := eX 199 4 (by unfold DNh; omega) (by omega) (by omega)
    have x93 : xm G4 199 3 = xm h 199 3 := eX 199 3 (by unfold DNh; omega) (by omega) (by omega)
    have Rnn : Rn G4 := rn_of_ST bst (fun a k _ _ => p5 a k (Or.inr (by omega))) (x94.trans en) (x93.trans em)
    have mid : ∀ a k, 26 ≤ a → a < 148 → xm G4 a k = xm Hr a k := fun a k y1 y2 => by rw [p5 a k (Or.inr (by omega)), a3.2.2.2 a k (by unfold DCn; omega)]
    have Rhh : Rh G4 := by
      refine Rh.keep (rr_h R) (rr_n R) (by omega) hp hc x94 x93 ?_ ?_ ?_ ?_ (fun a k y1 y2 => ?_) (fun k => ?_)
      · rw [mid 26 1 (by omega) (by omega), eHr, xm_xset, if_neg (by omega), xm_xset, if_pos ⟨rfl, rfl⟩]
      · rw [b4.2.2.2 173 75 rfl, f2, xm_xset, if_neg (by omega), xm_xarr, if_neg (by omega), xm_xset, if_pos ⟨rfl, rfl⟩]
      · rw [mid 26 2 (by omega) (by omega), eHr, xm_xset, if_pos ⟨rfl, rfl⟩]
      · rw [b4.2.2.2 173 74 rfl, f2, xm_xset, if_pos ⟨rfl, rfl⟩]
      · rw [mid a k (by omega) y2, eHr, xm_xset, if_neg (by omega), xm_xset, if_neg (by omega)]
      · rw [b4.2.2.2 224 k rfl, f2, xm_xset, if_neg (by omega), xm_xarr, if_pos rfl]
        unfold kpF
        rw [q0 212 _ (by omega) (by omega), q0 224 _ (by omega) (by omega)]
    have Rss : Rs G4 := ⟨by rw [p5 0 18 (Or.inr (by omega)), b18, b76], by rw [b76]; omega, by rw [b76]; omega⟩
    refine ⟨_, H3', G4, cl, ref, ⟨s, F1, F2, T2, T3, R.mvG N SG4 nn kk (fun a k hd => eX a k (by unfold DRc at hd; unfold DNh; omega) (by unfold DRc at hd; omega) (by unfold DRc at hd; omega)) ((rr_t R).mv (ag _ (fun a k q => ?_))) ((rr_r R).mv (ag _ (fun a k q => ?_))) ((rr_f R).mv (ag _ (fun a k q => ?_))) Rnn Rhh ((rr_j R).mv (ag _ (fun a k q => ?_))) ((rr_i R).mv (ag _ (fun a k q => ?_))) Rss ((rr_2 R).mv (ag _ (fun a k q => ?_)))⟩, by omega, by omega⟩
    · unfold DRt at q; simp at q; unfold DNh; omega
    · unfold DRr at q; simp at q; unfold DNh; omega
    · unfold DRf at q; simp at q; unfold DNh; omega
    · unfold DRj at q; simp at q; unfold DNh; omega
    · unfold DRi at q; simp at q; unfold DNh; omega
    · unfold DRo2 at q; simp at q; unfold DNh; omega
