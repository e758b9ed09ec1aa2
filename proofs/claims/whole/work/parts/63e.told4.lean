/-! ===== held told ===== -/
theorem xas_eq {h : xa_H} {kd a i : Nat} {v : Int} (hk : xia h kd (a : Int) (i : Int) = true) : xas h kd (a : Int) (i : Int) v = some (xset h a i v) := by
  unfold xas
  rw [if_pos hk]
  rfl
theorem xal_eq {h : xa_H} {kd a i : Nat} {v : Int} (hk : xia h kd (a : Int) (i : Int) = true) (hv : xm h a i = v) : xal h kd (a : Int) (i : Int) = some v := by
  unfold xal
  rw [if_pos hk, ← hv]
  rfl
theorem t_addHeld {h : xa_H} {S n : Nat} (K : CS h S) (hn : xm h S 1 = (n : Int)) (h6 : n < 6) (v sa : Int) : f_X0_addHeld (S : Int) v sa h = some (xset (xset (xset h (S + 1) n v) (S + 3) n sa) S 1 ((n + 1 : Nat) : Int)) := by
  have i1 : xia h 0 ((S + 1 : Nat) : Int) (n : Int) = true := cs_ia1 K (by omega) (by omega)
  have i2 : xia h 0 ((S + 3 : Nat) : Int) (n : Int) = true := cs_ia3 K (by omega) (by omega)
  have o := CS.ok K
  have n0 : (n : Int) < 6 := by omega
  have m5 : xm (xset h (S + 1) n v) S 7 = ((S + 3 : Nat) : Int) := by rw [xm_xset, if_neg (by omega)]; exact cs_p7 K
  have m6 : xm (xset h (S + 1) n v) S 1 = (n : Int) := by rw [xm_xset, if_neg (by omega)]; exact hn
  have m7 : xm (xset (xset h (S + 1) n v) (S + 3) n sa) S 1 = (n : Int) := by rw [xm_xset, if_neg (by omega)]; exact m6
  have w1 : w32 ((n : Int) + 1) = ((n + 1 : Nat) : Int) := by rw [w32_id (by omega) (by omega)]; omega
  unfold f_X0_addHeld
  refine (bnd (xgf_eq o hn)).trans ?_
  rw [if_pos n0]
  refine (bnd (xgf_eq o (cs_p5 K))).trans ?_
  refine (bnd (xgf_eq o hn)).trans ?_
  refine (bnd (xas_eq i1)).trans ?_
  refine (bnd (xgf_eq (h := xset h (S + 1) n v) o m5)).trans ?_
  refine (bnd (xgf_eq (h := xset h (S + 1) n v) o m6)).trans ?_
  refine (bnd (xas_eq (h := xset h (S + 1) n v) i2)).trans ?_
  refine (bnd (xgf_eq (h := xset (xset h (S + 1) n v) (S + 3) n sa) o m7)).trans ?_
  rw [w1]
  exact (bnd (xpf_eq (h := xset (xset h (S + 1) n v) (S + 3) n sa) o)).trans rfl
theorem t_heldFull {g : xa_H} {n : Nat} (S : SH g) (hb : xm g 173 5 = 0) (k : Nat) (hk : k < 6) (hn : xm g 199 k = (n : Int)) (room : Nat) (x : Int) : f_X12_isFull 173 (k : Int) (room : Int) x g = if n = room then some (1, xset (xset g 173 5 5) 173 6 x) else some (0, g) := by
  have i1 : xia g 0 199 (k : Int) = true := ia_199 S (by omega) (by omega)
  have S2 : SH (xset (xset g 173 5 5) 173 6 x) := (S.set (by decide +kernel)).set (by decide +kernel)
  have b5 : xm (xset (xset g 173 5 5) 173 6 x) 173 5 = 5 := by rw [xm_xset, if_neg (by omega), xm_xset, if_pos ⟨rfl, rfl⟩]
  unfold f_X12_isFull f_X12_isFull_J23
  rw [gM S, hb, if_pos rfl, gM S, pt_173_34 S, bxal, if_pos i1]
  show (if xm g 199 k = (room : Int) then _ else _) = _
  rw [hn]
  by_cases z : n = room
  · rw [if_pos z, if_pos (by omega), xM S, s_fail S hb, bbind, gM S2, b5, if_neg (by decide)]
  · rw [if_neg z, if_neg (by omega), gM S, hb, if_pos rfl]
theorem cf_set {h g h' g' : xa_H} {S F1 F2 p : Nat} (C : CF h g S F1 F2 p) (hs : 249 ≤ S) (K : CS h S) (xnn : xn h' = xn h) (xkk : xk h' = xk h) (e : ∀ a k, (a < S ∨ S + 13 ≤ a) ∨ (a = S ∧ 11 ≤ k) → xm h' a k = xm h a k) (e' : ∀ a k, (a < 199 ∨ 208 < a) → xm g' a k = xm g a k) : CF h' g' S F1 F2 p := by
  obtain ⟨c1, c2, c3, c4, c5, c6, c7, c8⟩ := C
  have C : CF h g S F1 F2 p := ⟨c1, c2, c3, c4, c5, c6, c7, c8⟩
  have hS := K.2.1
  have f : ∀ w F, (w = 0 ∨ w = 1) → FOt h g S w F → FOt h' g' S w F := by
    intro w F hw o
    have es := e S (11 + w) (Or.inr ⟨rfl, by omega⟩)
    have e9 := e' 209 w (by omega)
    have e10 := e' 210 w (by omega)
    have e47 := e' 173 47 (by omega)
    rcases o with ⟨o1, o2⟩ | ⟨o1, o2, l, a, o3, o4, o5, o6, o7, o8⟩
    · exact Or.inl ⟨by rw [es]; exact o1, by rw [e9]; exact o2⟩
    · refine Or.inr ⟨by rw [es]; exact o1, o2, l, a, o3.mv (by omega) (fun _ _ => by rw [xkk]) (fun k => e F k (by omega)), by rw [e9]; exact o4, by rw [e10]; exact o5, by rw [e47]; exact o6, fun i hi => ?_, ?_⟩
      · rw [e (F + 1) i (by omega), e' 211 (a + i) (by omega)]
        exact o7 i hi
      · rw [← o8]
        exact trun_congr _ _ (fun i hi => e' 211 (a + i) (by omega))
  refine ⟨f 0 F1 (Or.inl rfl) c1, f 1 F2 (Or.inr rfl) c2, c3, c4, c5, ?_, ?_, ?_⟩
  · rw [e' 173 47 (by omega)]; exact c6
  · rw [e' 209 0 (by omega)]; exact c7
  · rw [e' 209 1 (by omega)]; exact c8
theorem pq_set {T : Nat → Int} {L : Nat} {h g h' g' : xa_H} {p : Nat} {b : Bool} (P : PQ T L h g p b) (S1 : SH h') (S2 : SH g') (e : ∀ a k, a < 199 → xm h' a k = xm h a k) (e' : ∀ a k, a < 199 → xm g' a k = xm g a k) : PQ T L h' g' p b := by
  obtain ⟨⟨⟨c1, c2, c3, c4, c5, c6⟩, c7, c8, c9, c10, c11, c12, c13⟩, r1, r2, r3, r4, r5, r6, r7, r8, r9, y, r10, r11⟩ := P
  refine ⟨⟨⟨S1, fun k hk => by rw [e _ _ (by omega)]; exact c2 k hk, by rw [e _ _ (by omega)]; exact c3, c4, by rw [e _ _ (by omega)]; exact c5, by rw [e _ _ (by omega)]; exact c6⟩, c7, c8, by rw [e _ _ (by omega)]; exact c9, by rw [e _ _ (by omega)]; exact c10, by rw [e _ _ (by omega)]; exact c11, by rw [e _ _ (by omega)]; exact c12, by rw [e _ _ (by omega)]; exact c13⟩, S2, ?_, by rw [e' _ _ (by omega)]; exact r3, by rw [e' _ _ (by omega)]; exact r4, by rw [e' _ _ (by omega)]; exact r5, r6, r7, by rw [e' _ _ (by omega)]; exact r8, by rw [e' _ _ (by omega)]; exact r9, y, by rw [e' _ _ (by omega)]; exact r10, r11⟩
  rw [← r2]
  exact funext fun k => e' _ _ (by omega)
theorem sh_big {h : xa_H} (S : SH h) {a k : Nat} {v : Int} (ha : 249 ≤ a) : SH (xset h a k v) := S.set (by
  have : ∀ t ∈ pl0, t.1 < 249 := by decide +kernel
  refine List.any_eq_false.mpr fun t ht => ?_
  have := this t ht
  simp
  omega)
theorem PF.tell {h g : xa_H} (P : PF h g) : ∃ e, Ex h e ∧ Bx g e := P
theorem b_5 {g : xa_H} {e : Nat × Nat} (B : Bx g e) {α : Type} {X Y : α} : (if xm g 173 5 = 0 then X else Y) = Y := if_neg (by have := B.2.1; have := B.2.2.2; omega)
theorem t_held {T : Nat → Int} {L : Nat} {h g : xa_H} {p : Nat} {b : Bool} {S F1 F2 : Nat} (C0 : Cx T L h p b) (R0 : Rx T L g (tk_n T L p b).1 (tk_n T L p b).2) (C : CD h g S) (CFh : CF h g S F1 F2 p) (h6 : xm g 199 0 < 6) (x : Int) : TR T L S h g p (f_X1_readHeld 6 h) (f_X12_heldTold 173 x g) F1 F2 := by
  have Sh := C0.1.1
  have s2 := C.1.1
  obtain ⟨n, hn⟩ : ∃ n : Nat, xm g 199 0 = (n : Int) := ⟨(xm g 199 0).toNat, by have := C.2.1; omega⟩
  have full := t_heldFull R0.1 R0.2.2.2.1 0 (by decide) hn 6 x
  have full' : f_X12_isFull 173 0 6 x g = some (0, g) := by rw [if_neg (by omega)] at full; exact full
  obtain ⟨h1, e1, C1, D1⟩ := s_step C0
  have Q1 : PQ T L h1 g (tk_n T L p b).1 (tk_n T L p b).2 := ⟨C1, R0⟩
  have K1 := cd_lex C D1 (Fx.refl DN g)
  obtain ⟨v, w, h2, g2, e2, e2', D2, N2, o⟩ := k_new Q1 K1
  have Sh1 := C1.1.1
  have Sh2 := D2.sh DC_nf Sh1
  have Sg2 := N2.sh DN_nf R0.1
  have K2 := cd_lex K1 D2 N2
  have st : f_X1_readHeld 6 h = if v = -1 then some (0, h2) else (f_X6_needWord 2 1 h2).bind fun r6 => if r6.1 = 0 then some (0, r6.2) else (xgf r6.2 1 0 6).bind fun x8 => (xrc r6.2 6 x8 (f_X6_needNumber x8 99 r6.2)).bind fun r9 => if r9.1 = -1 then some (0, r9.2) else (xgf r9.2 1 2 6).bind fun x11 => (xrc r9.2 0 x11 (f_X0_addHeld x11 v r9.1 r9.2)).bind fun r12 => some ((1, r12)) := by
    unfold f_X1_readHeld
    rw [r60 Sh, x62 Sh, e1, bbind, x16 Sh1, e2, bbind, r60 Sh2, x62 Sh2]
  have sr : f_X12_heldTold 173 x g = (f_X12_asks 173 177 g2).bind fun r5 => (xrc r5 12 173 (f_X12_number 173 0 99 r5)).bind fun r6 => (xgf r6.2 12 5 173).bind fun x7 => if x7 = 0 then (xgf r6.2 12 35 173).bind fun x9 => (xgf r6.2 12 34 173).bind fun x10 => (xal r6.2 0 x10 0).bind fun x11 => (xas r6.2 1 x9 x11 w).bind fun h12 => (xgf h12 12 36 173).bind fun x13 => (xgf h12 12 34 173).bind fun x14 => (xal h12 0 x14 0).bind fun x15 => (xas h12 0 x13 x15 r6.1).bind fun h16 => (xgf h16 12 34 173).bind fun x17 => (xal h16 0 x17 0).bind fun x18 => (xas h16 0 x17 0 (w32 (x18 + 1))).bind fun h19 => some h19 else some r6.2 := by
    unfold f_X12_heldTold
    rw [xM R0.1, full', bbind, if_pos rfl, xM R0.1, e2', bbind, gM Sg2, pt_173_11 Sg2, xM Sg2]
  have GX2 : GX S h h2 := (DC_GX D1).tr (DC_GX D2)
  have xx : ∀ z, Fx DC h2 z → xn z = xn h ∧ xz z = xz h := fun z e => ⟨(e.1.trans D2.1).trans D1.1, (e.2.1.trans D2.2.1).trans D1.2.1⟩
  -- a fault in both
  rcases o with ⟨o1, nr, Q2⟩ | ⟨o1, PF2⟩
  · rw [if_neg o1] at st
    obtain ⟨v3, h3, g3, e3, e3', D3, N3, o3⟩ := k_word Q2 (A := 177) (w := 1) (by decide +kernel) (by decide)
    have e3x : f_X6_needWord 2 1 h2 = some (v3, h3) := e3
    have e3y : f_X12_asks 173 177 g2 = some g3 := e3'
    have K3 := cd_lex K2 D3 N3
    rw [e3x, bbind] at st
    rw [e3y, bbind] at sr
    rcases o3 with ⟨rfl, Q3⟩ | ⟨rfl, e, E3, B3⟩
    · have Sh3 := Q3.1.1.1
      have Sg3 := Q3.2.1
      rw [if_neg one_ne, r60 Sh3, x62 Sh3] at st
      rw [xM Sg3] at sr
      obtain ⟨v4, w4, h4, g4, e4, e4', D4, N4, o4⟩ := k_num Q3 (most := 99) (by decide)
      have K4 := cd_lex K3 D4 N4
      have F4 : CF h4 g4 S F1 F2 p := cf_lex (cf_lex (cf_lex (cf_lex CFh (cd_S C) s2 (Nat.le_refl _) D1 (Fx.refl DN g)) (cd_S K1) s2 (Nat.le_refl _) D2 N2) (cd_S K2) s2 (Nat.le_refl _) D3 N3) (cd_S K3) s2 (Nat.le_refl _) D4 N4
      rw [e4, bbind] at st
      rw [e4', bbind] at sr
      rcases o4 with ⟨rfl, o41, o42, o43, Q4⟩ | ⟨rfl, e, E4, B4⟩
      · have Sh4 := Q4.1.1.1
        have Sg4 := Q4.2.1
        have n4 : xm g4 199 0 = (n : Int) := ((N4.2.2.2 _ _ (dn_ne (by omega))).trans ((N3.2.2.2 _ _ (dn_ne (by omega))).trans (N2.2.2.2 _ _ (dn_ne (by omega))))).trans hn
        have ah := t_addHeld (cd_S K4) ((cd_1 K4).trans n4) (by omega) v v4
        rw [if_neg o41, g6k Sh4, cd_6 K4, x0S (cd_S K4), ah] at st
        have KK := cd_held K4 n4 (by omega) nr ⟨o42, o43⟩
        have i1 : xia g4 0 199 0 = true := ia_199 Sg4 (by omega) (by omega)
        have i2 : xia g4 1 200 (n : Int) = true := ia_200 Sg4 (by omega) (by omega)
        have i3 : xia g4 0 201 (n : Int) = true := ia_201 Sg4 (by omega) (by omega)
        have Sg5 : SH (xset g4 200 n w) := Sg4.set (fixd_of (by decide +kernel))
        have Sg6 : SH (xset (xset g4 200 n w) 201 n v4) := Sg5.set (fixd_of (by decide +kernel))
        have Sg7 : SH (xset (xset (xset g4 200 n w) 201 n v4) 199 0 ((n + 1 : Nat) : Int)) := Sg6.set (by decide +kernel)
        have rr : f_X12_heldTold 173 x g = some (xset (xset (xset g4 200 n w) 201 n v4) 199 0 ((n + 1 : Nat) : Int)) := by
          have a4 : xal g4 0 199 0 = some (n : Int) := by unfold xal; rw [if_pos i1]; exact congrArg some n4
          have a5 : xal (xset g4 200 n w) 0 199 0 = some (n : Int) := by unfold xal; rw [if_pos (show xia (xset g4 200 n w) 0 199 0 = true from i1)]; exact congrArg some n4
          have a6 : xal (xset (xset g4 200 n w) 201 n v4) 0 199 0 = some (n : Int) := by unfold xal; rw [if_pos (show xia (xset (xset g4 200 n w) 201 n v4) 0 199 0 = true from i1)]; exact congrArg some n4
          have w1 : w32 ((n : Int) + 1) = ((n + 1 : Nat) : Int) := by rw [w32_id (by omega) (by omega)]; omega
          rw [sr, gM Sg4, Q4.2.2.2.2.1, if_pos rfl, gM Sg4, gM Sg4, pt_173_34 Sg4, pt_173_35 Sg4, a4, bbind, bxas, if_pos i2]
          show ((xgf (xset g4 200 n w) 12 36 173).bind fun x13 => (xgf (xset g4 200 n w) 12 34 173).bind fun x14 => (xal (xset g4 200 n w) 0 x14 0).bind fun x15 => (xas (xset g4 200 n w) 0 x13 x15 v4).bind fun h16 => (xgf h16 12 34 173).bind fun x17 => (xal h16 0 x17 0).bind fun x18 => (xas h16 0 x17 0 (w32 (x18 + 1))).bind fun h19 => some h19) = _
          rw [gM Sg5, gM Sg5, pt_173_36 Sg5, pt_173_34 Sg5, a5, bbind, bxas, if_pos (show xia (xset g4 200 n w) 0 201 (n : Int) = true from i3)]
          show ((xgf (xset (xset g4 200 n w) 201 n v4) 12 34 173).bind fun x17 => (xal (xset (xset g4 200 n w) 201 n v4) 0 x17 0).bind fun x18 => (xas (xset (xset g4 200 n w) 201 n v4) 0 x17 0 (w32 (x18 + 1))).bind fun h19 => some h19) = _
          rw [gM Sg6, pt_173_34 Sg6, a6, bbind, bxas, if_pos (show xia (xset (xset g4 200 n w) 201 n v4) 0 199 0 = true from i1), w1]
          rfl
        have pge : p ≤ (tk_n T L (tk_n T L (tk_n T L (tk_n T L p b).1 (tk_n T L p b).2).1 (tk_n T L (tk_n T L p b).1 (tk_n T L p b).2).2).1 (tk_n T L (tk_n T L (tk_n T L p b).1 (tk_n T L p b).2).1 (tk_n T L (tk_n T L p b).1 (tk_n T L p b).2).2).2).1 := by
          have := n_ge (T := T) (L := L) (p := p) (b := b)
          have := n_ge (T := T) (L := L) (p := (tk_n T L p b).1) (b := (tk_n T L p b).2)
          have := n_ge (T := T) (L := L) (p := (tk_n T L (tk_n T L p b).1 (tk_n T L p b).2).1) (b := (tk_n T L (tk_n T L p b).1 (tk_n T L p b).2).2)
          exact Nat.le_trans (by omega) n_ge
        refine ⟨1, _, _, st, rr, ((((GX2.tr (DC_GX D3)).tr (DC_GX D4)).set (by omega)).set (by omega)).set (by omega), (((((DN_DG N2).tr (DN_DG N3)).tr (DN_DG N4)).set ?_).set ?_).set rfl, Or.inl ⟨rfl, _, _, pq_set Q4 (sh_big (sh_big (sh_big Sh4 (by omega)) (by omega)) (by omega)) Sg7 (fun a k ha => ?_) (fun a k ha => ?_), KK, ?_, pge, ?_⟩⟩
        · simp [DG, Nat.blt]; omega
        · simp [DG, Nat.blt]; omega
        · rw [xm_xset, if_neg (by omega), xm_xset, if_neg (by omega), xm_xset, if_neg (by omega)]
        · rw [xm_xset, if_neg (by omega), xm_xset, if_neg (by omega), xm_xset, if_neg (by omega)]
        · refine cf_set (cf_mv F4 (pge) (Nat.le_refl _) (fun _ _ => rfl) (fun _ _ _ _ => rfl) (by have := (cd_S K4).2.1; omega) (fun _ _ _ => rfl)) s2 (cd_S K4) rfl rfl (fun a k q => ?_) (fun a k q => ?_)
          · rw [xm_xset, if_neg (by omega), xm_xset, if_neg (by omega), xm_xset, if_neg (by omega)]
          · rw [xm_xset, if_neg (by omega), xm_xset, if_neg (by omega), xm_xset, if_neg (by omega)]
        · exact ⟨(D4.1.trans D3.1).trans (xx h2 (Fx.refl DC h2)).1, (D4.2.1.trans D3.2.1).trans (xx h2 (Fx.refl DC h2)).2⟩
      · refine ⟨0, h4, g4, by rw [st, if_pos rfl], by rw [sr, gM B4.1, b_5 B4], (GX2.tr (DC_GX D3)).tr (DC_GX D4), ((DN_DG N2).tr (DN_DG N3)).tr (DN_DG N4), Or.inr ⟨rfl, ⟨e, E4, B4⟩, xx h4 (D3.tr D4)⟩⟩
    · refine ⟨0, h3, g3, by rw [st, if_pos rfl], by rw [sr, xM B3.1, b_number B3, bbind, gM B3.1, b_5 B3], GX2.tr (DC_GX D3), (DN_DG N2).tr (DN_DG N3), Or.inr ⟨rfl, ⟨e, E3, B3⟩, xx h3 D3⟩⟩
  · obtain ⟨e, E2, B2⟩ := PF2
    refine ⟨0, h2, g2, by rw [st, if_pos o1], by rw [sr, b_asks B2, bbind, xM B2.1, b_number B2, bbind, gM B2.1, b_5 B2], GX2, DN_DG N2, Or.inr ⟨rfl, ⟨e, E2, B2⟩, xx h2 (Fx.refl DC h2)⟩⟩
