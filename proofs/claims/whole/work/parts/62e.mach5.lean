/-! ===== a sum goes on: all cases ===== -/
theorem mx_top {T : Nat → Int} {L : Nat} {q : Bool} {b : Nat} {h : xa_H} {c : Int} {σ : List Int} {d : Nat} {s : pS} (M : Mx T L q b h (c :: σ) d s) (c' : Int) : Mx T L q b (xset h 246 (b + σ.length) c') (c' :: σ) d s ∧ Fm b h (xset h 246 (b + σ.length) c') := by
  obtain ⟨m1, ⟨m2, m3⟩, m4, m5, m6, m7, m8, m9, m10, m11⟩ := M
  have m : ∀ a k, a ≠ 246 ∨ k ≠ b + σ.length → xm (xset h 246 (b + σ.length) c') a k = xm h a k := fun a k g => by rw [xm_xset, if_neg (by omega)]
  refine ⟨⟨rx_dq m1 (by omega) (by omega) fx246, ⟨?_, fun i hi => ?_⟩, ?_, ⟨?_, stk_mv σ (fun i _ _ => ?_) m5.2⟩, ?_, ?_, m8, ?_, m10, ?_⟩, ⟨(Fx.refl DQ h).set rfl, fun i _ => ?_⟩⟩
  · rw [m _ _ (by omega)]; exact m2
  · rw [m _ _ (by omega)]; exact m3 i hi
  · rw [m _ _ (by omega)]; exact m4
  · rw [xm_xset, if_pos ⟨rfl, rfl⟩]
  · rw [m _ _ (by omega)]
  · rw [m _ _ (by omega)]; exact m6
  · rw [m _ _ (by omega)]; exact m7
  · rw [m _ _ (by omega)]; exact m9
  · by_cases z : b = 0
    · exact Or.inl z
    · rw [m _ _ (by omega)]; exact m11
  · rw [m _ _ (by omega)]
theorem smS_c {c : Int} (h : 1 ≤ c ∧ c ≤ 4) : smS c := Or.inr (Or.inl h)
theorem nop_c {c : Int} {σ : List Int} (h : 1 ≤ c ∧ c ≤ 4) : nop (c :: σ) = nop σ := by
  conv => lhs; unfold nop
  rw [if_neg (by omega)]
  omega
theorem pN_x (T : Nat → Int) (L : Nat) {s z : pS} (h1 : z.1 = s.1) (h2 : z.2.1 = s.2.1) : (pN T L z).1 = (pN T L s).1 := by
  unfold pN
  rw [h1, h2]
def gOn (T : Nat → Int) (L : Nat) (q : Bool) (b D : Nat) (h : xa_H) (f : Option (Int × xa_H)) (R : pR) (p : Nat) : Prop :=
  (∃ h' σ' d' s', f = some (1, h') ∧ Mx T L q b h' σ' d' s' ∧ Fm b h h' ∧ R = bd (part T L q d' s') (KS T L q σ' d') ∧ Gd b D σ' d' s' ∧ p < s'.1)
  ∨ (∃ h' σ' d' s', f = some (0, h') ∧ Mx T L q b h' σ' d' s' ∧ Fm b h h' ∧ R = .inl (dr2 (dr1 (σ', s'))).2 ∧ (dr2 (dr1 (σ', s'))).1 = [] ∧ Gd b D σ' d' s' ∧ noU σ' ∧ p ≤ s'.1)
  ∨ (∃ h' e, f = some (0, h') ∧ R = .inr e ∧ Bq h' e 1600 ∧ Fx DQ h h')
theorem gOn_tr {T : Nat → Int} {L : Nat} {q : Bool} {b D : Nat} {h h1 : xa_H} {f : Option (Int × xa_H)} {R : pR} {p : Nat} (e : Fm b h h1) (g : gOn T L q b D h1 f R p) : gOn T L q b D h f R p := by
  rcases g with ⟨h', σ', d', s', a1, a2, a3, a4⟩ | ⟨h', σ', d', s', a1, a2, a3, a4⟩ | ⟨h', e', a1, a2, a3, a4⟩
  · exact Or.inl ⟨h', σ', d', s', a1, a2, e.tr a3, a4⟩
  · exact Or.inr (Or.inl ⟨h', σ', d', s', a1, a2, e.tr a3, a4⟩)
  · exact Or.inr (Or.inr ⟨h', e', a1, a2, a3, e.1.tr a4⟩)
theorem go_mul {T : Nat → Int} {L : Nat} {q : Bool} {b D : Nat} {h h2 : xa_H} {σ : List Int} {d : Nat} {s : pS} (M : Mx T L q b h σ d s) (G : Gd b D σ d s) (hu : noU σ) (M2 : Mx T L q b h2 σ d (pN T L s)) (F2 : Fm b h h2) (hat : xm h2 173 2 = ((s.1 + 1 : Nat) : Int)) {c : Int} (hc : pO1 T L s = some c) : gOn T L q b D h (f_X12_qGoesOn_J140 173 h2) (KS T L q σ d s) s.1 := by
  obtain ⟨G1, G2, G3, G4⟩ := G
  have lL := mx_L M
  obtain ⟨c1, c2⟩ := pO1_some hc
  have n1 := pN_lt (T := T) c1
  have S2 := mx_S M2
  have hT : xm h2 174 s.1 = T s.1 := by rw [M2.1.2.1]
  have f1 := dr1_f (σ, s)
  have p1 := dr1_1 (x := (σ, s))
  have wd := wf_dr1 (s := s) G1 hu
  have hk := KK_op1 (T := T) lL.2 (lf := part T L q) (o2 := pO2 T L) hu ((part_ok d).pr) pO1_pl (fun s c h => ⟨(pO1_some h).1, by have := (pO1_some h).2; omega⟩) lL.1 hc
  obtain ⟨h3, e3, M3, F3⟩ := mulP M2 c
  have ed : dw (fun w => decide (w = 3 ∨ w = 4)) σ s = dr1 (σ, s) := dw_1 G1 hu (fun w hw z => by
    have := G2 w hw
    unfold smS at this
    unfold b1 at z
    exact decide_eq_true (by omega)) (fun w hw z => by
    have := G2 w hw
    unfold smS at this
    unfold b1 at z
    exact decide_eq_false (by omega))
  rw [dw_pN, ed] at M3
  obtain ⟨z, hz⟩ : ∃ z, z = dr1 (σ, s) := ⟨_, rfl⟩
  rw [← hz] at f1 p1 wd hk M3
  obtain ⟨f11, f12, f13⟩ := f1
  dsimp only at f11 f13 p1 M3
  have zn := pN_x T L p1.1 p1.2
  have zl := pM_len (T := T) (L := L) z.2
  obtain ⟨h4, e4, M4, F4⟩ := s_pushOp M3 (by rw [zl, zn]; omega) c
  have st : f_X12_qGoesOn_J140 173 h2 = some (1, h4) := by
    have i1 : xia h2 0 174 (s.1 : Int) = true := ia_174 S2 (by omega) (by omega)
    have J : f_X12_qGoesOn_J161 173 c h2 = some (1, h4) := by
      unfold f_X12_qGoesOn_J161
      rw [e3, bbind]
      exact e4
    have cc : (if T s.1 = 42 then f_X12_qGoesOn_J161 173 3 h2 else f_X12_qGoesOn_J161 173 4 h2) = some (1, h4) := by
      unfold pO1 at hc
      by_cases y : pG T L s 42 = true
      · rw [if_pos y] at hc
        cases hc
        rw [if_pos (pG_i.mp y).2]
        exact J
      · rw [if_neg y] at hc
        by_cases y2 : pG T L s 47 = true
        · rw [if_pos y2] at hc
          cases hc
          rw [if_neg (by rw [(pG_i.mp y2).2]; decide)]
          exact J
        · rw [if_neg y2] at hc
          cases hc
    unfold f_X12_qGoesOn_J140
    rw [gM S2, gM S2, hat, pt_173_0 S2, w32_id (by omega) (by omega), show ((s.1 + 1 : Nat) : Int) - 1 = (s.1 : Int) by omega, bxal, if_pos i1]
    show (if xm h2 174 s.1 = 42 then _ else _) = _
    rw [hT]
    exact cc
  refine Or.inl ⟨h4, c :: z.1, d, pN T L z.2, st, M4, F2.tr (F3.tr F4), hk, ⟨wf_c1 wd (by omega), ?_, ?_, ?_⟩, by rw [zn]; omega⟩
  · intro w hw
    rcases List.mem_cons.mp hw with rfl | hw
    · exact smS_c (by omega)
    · exact G2 w (f12 w hw)
  · rw [nop_c (by omega), f11]
    exact G3
  · simp only [List.length_cons]
    rw [zl, zn]
    omega
theorem go_add {T : Nat → Int} {L : Nat} {q : Bool} {b D : Nat} {h h2 : xa_H} {σ : List Int} {d : Nat} {s : pS} (M : Mx T L q b h σ d s) (G : Gd b D σ d s) (hu : noU σ) (M2 : Mx T L q b h2 σ d (pN T L s)) (F2 : Fm b h h2) (hat : xm h2 173 2 = ((s.1 + 1 : Nat) : Int)) {c : Int} (hn : pO1 T L s = none) (hc : pO2 T L s = some c) : gOn T L q b D h (f_X12_qGoesOn_J225 173 h2) (KS T L q σ d s) s.1 := by
  obtain ⟨G1, G2, G3, G4⟩ := G
  have lL := mx_L M
  obtain ⟨c1, c2⟩ := pO2_some hc
  have n1 := pN_lt (T := T) c1
  have S2 := mx_S M2
  have hT : xm h2 174 s.1 = T s.1 := by rw [M2.1.2.1]
  have f1 := dr1_f (σ, s)
  have p1 := dr1_1 (x := (σ, s))
  have f2 := dr2_f (dr1 (σ, s))
  have p2 := dr2_1 (x := dr1 (σ, s))
  have wd := wf_dr2 (s := (dr1 (σ, s)).2) (wf_dr1 (s := s) G1 hu)
  change wf (dr2 (dr1 (σ, s))).1 2 at wd
  have hk := KK_op2 (T := T) lL.2 (lf := part T L q) hu ((part_ok d).pr) pO1_pl pO2_pl (fun s c h => (pO1_some h).1) (fun s c h => ⟨(pO2_some h).1, by have := (pO2_some h).2; omega⟩) lL.1 hn hc
  obtain ⟨h3, e3, M3, F3⟩ := addP M2 c
  have ed : dw (fun w => decide (1 ≤ w ∧ w ≤ 4)) σ s = dr2 (dr1 (σ, s)) := dw_12 G1 hu (fun w hw z => by
    have := G2 w hw
    unfold smS at this
    unfold b1 b2 at z
    exact decide_eq_true (by omega)) (fun w hw z => decide_eq_false (by omega))
  rw [dw_pN, ed] at M3
  obtain ⟨z, hz⟩ : ∃ z, z = dr2 (dr1 (σ, s)) := ⟨_, rfl⟩
  rw [← hz] at f2 p2 wd hk M3
  obtain ⟨f11, f12, f13⟩ := f1
  obtain ⟨f21, f22, f23⟩ := f2
  dsimp only at f11 f13 p1 M3
  have zn := pN_x T L (p2.1.trans p1.1) (p2.2.trans p1.2)
  have zl := pM_len (T := T) (L := L) z.2
  obtain ⟨h4, e4, M4, F4⟩ := s_pushOp M3 (by rw [zl, zn]; omega) c
  have st : f_X12_qGoesOn_J225 173 h2 = some (1, h4) := by
    have i1 : xia h2 0 174 (s.1 : Int) = true := ia_174 S2 (by omega) (by omega)
    have J : f_X12_qGoesOn_J246 173 c h2 = some (1, h4) := by
      unfold f_X12_qGoesOn_J246
      rw [e3, bbind]
      exact e4
    have cc : (if T s.1 = 43 then f_X12_qGoesOn_J246 173 1 h2 else f_X12_qGoesOn_J246 173 2 h2) = some (1, h4) := by
      unfold pO2 at hc
      by_cases y : pG T L s 43 = true
      · rw [if_pos y] at hc
        cases hc
        rw [if_pos (pG_i.mp y).2]
        exact J
      · rw [if_neg y] at hc
        by_cases y2 : pG T L s 45 = true
        · rw [if_pos y2] at hc
          cases hc
          rw [if_neg (by rw [(pG_i.mp y2).2]; decide)]
          exact J
        · rw [if_neg y2] at hc
          cases hc
    unfold f_X12_qGoesOn_J225
    rw [gM S2, gM S2, hat, pt_173_0 S2, w32_id (by omega) (by omega), show ((s.1 + 1 : Nat) : Int) - 1 = (s.1 : Int) by omega, bxal, if_pos i1]
    show (if xm h2 174 s.1 = 43 then _ else _) = _
    rw [hT]
    exact cc
  refine Or.inl ⟨h4, c :: z.1, d, pN T L z.2, st, M4, F2.tr (F3.tr F4), hk, ⟨wf_c2 wd (by omega), ?_, ?_, ?_⟩, by rw [zn]; omega⟩
  · intro w hw
    rcases List.mem_cons.mp hw with rfl | hw
    · exact smS_c (by omega)
    · exact G2 w (f12 w (f22 w hw))
  · rw [nop_c (by omega), f21, f11]
    exact G3
  · simp only [List.length_cons]
    rw [zl, zn]
    omega
/-- nothing of those: the bracket decides -/
theorem KS_end {T : Nat → Int} {L : Nat} {q : Bool} {σ : List Int} {d : Nat} {s : pS} (hu : noU σ) (hn : pO1 T L s = none) (hn2 : pO2 T L s = none) : KS T L q σ d s = KK T L (part T L q) (pO1 T L) (pO2 T L) (dr2 (dr1 (σ, s))).1 d 2 (dr2 (dr1 (σ, s))).2 := KK_end hu pO1_pl pO2_pl hn hn2
theorem go_comma {T : Nat → Int} {L : Nat} {q : Bool} {b D : Nat} {h : xa_H} {σ : List Int} {d : Nat} {s : pS} (M : Mx T L q b h σ d s) (G : Gd b D σ d s) (hu : noU σ) (hn : pO1 T L s = none) (hn2 : pO2 T L s = none) (hb : brk σ = 21 ∨ brk σ = 22) : gOn T L q b D h (f_X12_qGoesOn_J326 173 h) (KS T L q σ d s) s.1 := by
  obtain ⟨G1, G2, G3, G4⟩ := G
  have lL := mx_L M
  have S := mx_S M
  have f1 := dr1_f (σ, s)
  have p1 := dr1_1 (x := (σ, s))
  have f2 := dr2_f (dr1 (σ, s))
  have p2 := dr2_1 (x := dr1 (σ, s))
  have wd := wf_dr2 (s := (dr1 (σ, s)).2) (wf_dr1 (s := s) G1 hu)
  change wf (dr2 (dr1 (σ, s))).1 2 at wd
  have bq := brk_eq (s := s) G1 hu (fun w hw z => by have := G2 w hw; unfold smS at this; omega)
  have hk := KS_end (q := q) (d := d) hu hn hn2
  have ed := sm_nBr G2 G1 hu s
  obtain ⟨z, hz⟩ : ∃ z, z = dr2 (dr1 (σ, s)) := ⟨_, rfl⟩
  rw [← hz] at f2 p2 wd hk bq ed
  obtain ⟨f11, f12, f13⟩ := f1
  obtain ⟨f21, f22, f23⟩ := f2
  dsimp only at f11 f13 p1
  obtain ⟨ζ, zs⟩ := z
  cases ζ with
  | nil =>
    dsimp only at bq
    omega
  | cons w σ1 =>
    dsimp only at bq f21 f22 f23 p2 wd hk
    have hw : w = 21 ∨ w = 22 := by rw [← bq]; exact hb
    obtain ⟨w3, w4⟩ := wf_2 wd
    have nw : nop (w :: σ1) = 1 + nop σ1 := by
      conv => lhs; unfold nop
      rw [if_pos (by omega)]
    have zn := pN_x T L (p2.1.trans p1.1) (p2.2.trans p1.2)
    have zl := pM_len (T := T) (L := L) zs
    rw [KK_2] at hk
    unfold kC at hk
    rw [if_pos hw] at hk
    obtain ⟨h1, e1, F1, o⟩ := s_asksSign M.1 g44
    unfold f_X12_qGoesOn_J326
    rw [xM S, e1, bbind]
    rcases o with ⟨o1, R1⟩ | ⟨o1, B1⟩
    · have g : pG T L s 44 = true := pG_i.mpr o1
      have n1 := pN_lt (T := T) (pG_lt g)
      have M1 : Mx T L q b h1 σ d (pN T L s) := mx_lex M F1 R1 (by have := n1.1; show s.1 ≤ (pN T L s).1; omega)
      obtain ⟨h2, e2, M2, F2⟩ := s_dtb M1
      change Mx T L q b h2 (dw nBr σ (pN T L s)).1 d (dw nBr σ (pN T L s)).2 at M2
      rw [dw_pN, ed] at M2
      dsimp only at M2
      have S1 := mx_S M1
      have S2 := mx_S M2
      have hl := mx_len M2
      simp only [List.length_cons] at hl f23
      obtain ⟨M3, F3⟩ := mx_top M2 (w + 2)
      have q4 := M2.2.2.1
      simp only [List.length_cons] at q4
      have i1 : xia h2 0 246 ((b + σ1.length : Nat) : Int) = true := ia_246 S2 (by omega) (by omega)
      have t2 : xm h2 246 (b + σ1.length) = w := M2.2.2.2.1.1
      refine Or.inl ⟨_, (w + 2) :: σ1, d, pN T L zs, ?_, M3, (DB_DQ F1).tr (F2.tr F3), ?_, ⟨wf_br w4 (by omega), ?_, ?_, ?_⟩, by rw [zn]; omega⟩
      · have c1 : w32 (((b + (σ1.length + 1) : Nat) : Int) - 1) = ((b + σ1.length : Nat) : Int) := by rw [w32_id (by omega) (by omega)]; omega
        have c2 : w32 (w + 2) = w + 2 := w32_id (by omega) (by omega)
        rw [gM S1, mx_bad M1, if_pos rfl, xM S1, e2, bbind, gM S2, gM S2, q4, c1, pt_173_99 S2, bxal, if_pos i1, bxas, if_pos i1]
        show some ((1 : Int), xset h2 246 (b + σ1.length) (w32 (xm h2 246 (b + σ1.length) + 2))) = _
        rw [t2, c2]
      · have gz : pG T L zs 44 = true := by rw [pG_pl (p2.1.trans p1.1) (p2.2.trans p1.2)]; exact g
        rw [hk]
        unfold KS
        rw [KK_in (by omega)]
        unfold pD
        rw [if_pos gz, bd_l]
        refine bd_c fun s' _ => ?_
        unfold kC pD
        rcases hw with rfl | rfl
        · rfl
        · rfl
      · intro v hv
        rcases List.mem_cons.mp hv with rfl | hv
        · unfold smS; omega
        · exact G2 v (f12 v (f22 v (List.mem_cons_of_mem _ hv)))
      · have : nop ((w + 2) :: σ1) = 1 + nop σ1 := by
          conv => lhs; unfold nop
          rw [if_pos (by omega)]
        omega
      · simp only [List.length_cons]
        rw [zl, zn]
        omega
    · have g : ¬ pG T L s 44 = true := fun y => o1 (pG_i.mp y)
      have gz : ¬ pG T L zs 44 = true := by rw [pG_pl (p2.1.trans p1.1) (p2.2.trans p1.2)]; exact g
      have S1 := B1.1
      have c98 : xm h1 173 98 = (s.2.2.length : Int) := (F1.2.2.2 _ _ rfl).trans M.2.1.1
      refine Or.inr (Or.inr ⟨h1, (1, s.1), ?_, ?_, ⟨B1, by omega, by omega⟩, (DB_DQ (b := 0) F1).1⟩)
      · rw [gM S1, B1.2.1, if_neg (show ¬ ((1 : Nat) : Int) = 0 by decide)]
      · rw [hk]
        unfold pD
        rw [if_neg gz, bd_r]
        show Sum.inr (1, zs.1) = Sum.inr (1, s.1)
        rw [p2.1.trans p1.1]
theorem s_goesOn {T : Nat → Int} {L : Nat} {q : Bool} {b D : Nat} {h : xa_H} {σ : List Int} {d : Nat} {s : pS} (hD : D ≤ 6) (M : Mx T L q b h σ d s) (G : Gd b D σ d s) (hu : noU σ) : gOn T L q b D h (f_X12_qGoesOn 173 h) (KS T L q σ d s) s.1 := by
  have lL0 := mx_L M
  obtain ⟨h1, σ1, d1, s1, a1, M1, F1, k1, u1, G1, l1, nc, hat⟩ := s_goL hD L σ d s h (by omega) M G hu xFU (by unfold xFU; omega)
  have S1 := mx_S M1
  have lL := mx_L M1
  unfold f_X12_qGoesOn
  rw [a1, bbind, k1]
  refine gOn_tr F1 ?_
  have wk : ∀ {f : Option (Int × xa_H)}, gOn T L q b D h1 f (KS T L q σ1 d1 s1) s1.1 → gOn T L q b D h1 f (KS T L q σ1 d1 s1) s.1 := by
    intro f g
    rcases g with ⟨h', σ', d', s', x1, x2, x3, x4, x5, x6⟩ | ⟨h', σ', d', s', x1, x2, x3, x4, x5, x6, x7, x8⟩ | g
    · exact Or.inl ⟨h', σ', d', s', x1, x2, x3, x4, x5, by omega⟩
    · exact Or.inr (Or.inl ⟨h', σ', d', s', x1, x2, x3, x4, x5, x6, x7, by omega⟩)
    · exact Or.inr (Or.inr g)
  refine wk ?_
  unfold f_X12_qGoesOn_J122
  rcases mx_takesSign M1 hat g42 with ⟨g, h2, e2, M2, F2, at2⟩ | ⟨ng42, e2⟩
  · rw [xM S1, e2, bbind, if_neg one_ne]
    exact go_mul M1 G1 u1 M2 F2 at2 (c := 3) (by unfold pO1; rw [if_pos g])
  rw [xM S1, e2, bbind, if_pos rfl]
  rcases mx_takesSign M1 hat g47 with ⟨g, h2, e2, M2, F2, at2⟩ | ⟨ng47, e2⟩
  · rw [xM S1, e2, bbind, if_neg one_ne]
    exact go_mul M1 G1 u1 M2 F2 at2 (c := 4) (by unfold pO1; rw [if_neg ng42, if_pos g])
  have hn : pO1 T L s1 = none := by unfold pO1; rw [if_neg ng42, if_neg ng47]
  rw [xM S1, e2, bbind, if_pos rfl]
  rcases mx_takesSign M1 hat g43s with ⟨g, h2, e2, M2, F2, at2⟩ | ⟨ng43, e2⟩
  · rw [xM S1, e2, bbind, if_neg one_ne]
    exact go_add M1 G1 u1 M2 F2 at2 (c := 1) hn (by unfold pO2; rw [if_pos g])
  rw [xM S1, e2, bbind, if_pos rfl]
  rcases mx_takesSign M1 hat g45 with ⟨g, h2, e2, M2, F2, at2⟩ | ⟨ng45, e2⟩
  · rw [xM S1, e2, bbind, if_neg one_ne]
    exact go_add M1 G1 u1 M2 F2 at2 (c := 2) hn (by unfold pO2; rw [if_neg ng43, if_pos g])
  have hn2 : pO2 T L s1 = none := by unfold pO2; rw [if_neg ng43, if_neg ng45]
  rw [xM S1, e2, bbind, if_pos rfl, xM S1, s_bracket M1, bbind]
  by_cases b21 : brk σ1 = 21
  · rw [if_pos b21]
    exact go_comma M1 G1 u1 hn hn2 (Or.inl b21)
  rw [if_neg b21, xM S1, bbind]
  by_cases b22 : brk σ1 = 22
  · rw [if_pos b22]
    exact go_comma M1 G1 u1 hn hn2 (Or.inr b22)
  rw [if_neg b22, xM S1, bbind]
  obtain ⟨G11, G12, G13, G14⟩ := G1
  have p1 := dr1_1 (x := (σ1, s1))
  have p2 := dr2_1 (x := dr1 (σ1, s1))
  have wd := wf_dr2 (s := (dr1 (σ1, s1)).2) (wf_dr1 (s := s1) G11 u1)
  change wf (dr2 (dr1 (σ1, s1))).1 2 at wd
  have bq := brk_eq (s := s1) G11 u1 (fun w hw z => by have := G12 w hw; unfold smS at this; omega)
  have hk := KS_end (q := q) (d := d1) u1 hn hn2
  have mem : ∀ w ∈ (dr2 (dr1 (σ1, s1))).1, w ∈ σ1 := fun w hw => (dr1_f (σ1, s1)).2.1 w ((dr2_f (dr1 (σ1, s1))).2.1 w hw)
  by_cases bn : brk σ1 = -1
  · rw [if_pos bn]
    cases e : (dr2 (dr1 (σ1, s1))).1 with
    | nil =>
      rw [e] at hk
      exact Or.inr (Or.inl ⟨h1, σ1, d1, s1, rfl, M1, Fm.refl _ _, hk, e, ⟨G11, G12, G13, G14⟩, u1, Nat.le_refl _⟩)
    | cons w σ2 =>
      rw [e] at bq wd
      have := (wf_2 wd).1
      dsimp only at bq
      omega
  · rw [if_neg bn, gM S1, mx_bad M1, if_pos rfl, gM S1, hat, xM S1, s_fail S1 (mx_bad M1), bbind]
    cases e : (dr2 (dr1 (σ1, s1))).1 with
    | nil =>
      rw [e] at bq
      dsimp only at bq
      omega
    | cons w σ2 =>
      rw [e] at bq wd hk
      have w1 := (wf_2 wd).1
      dsimp only at bq
      have w2 := G12 w (mem w (by rw [e]; exact List.mem_cons_self ..))
      unfold smS at w2
      have wc : w = 20 ∨ w = 23 ∨ w = 24 := by omega
      have g41n : ¬ pG T L s1 41 = true := fun y => nc ⟨y, by omega⟩
      have gz : ¬ pG T L (dr2 (dr1 (σ1, s1))).2 41 = true := by rw [pG_pl (p2.1.trans p1.1) (p2.2.trans p1.2)]; exact g41n
      have c98 : xm h1 173 98 = (s1.2.2.length : Int) := M1.2.1.1
      refine Or.inr (Or.inr ⟨_, (1, s1.1), rfl, ?_, ⟨bx_fail S1 1 s1.1 (by decide), ?_, ?_⟩, ((Fx.refl DQ h1).set rfl).set rfl⟩)
      · rw [hk, KK_2]
        unfold kC pD
        have fz : (Sum.inr (1, (dr2 (dr1 (σ1, s1))).2.1) : pR) = Sum.inr (1, s1.1) := by rw [p2.1.trans p1.1]
        rcases wc with rfl | rfl | rfl
        · rw [if_neg (by decide), if_neg (by decide), if_neg (by decide), if_neg gz, bd_r]
          exact fz
        · rw [if_neg (by decide), if_pos (by decide), if_neg gz, bd_r]
          exact fz
        · rw [if_neg (by decide), if_pos (by decide), if_neg gz, bd_r]
          exact fz
      · rw [xm_xset, if_neg (by omega), xm_xset, if_neg (by omega)]
        omega
      · rw [xm_xset, if_neg (by omega), xm_xset, if_neg (by omega)]
        omega
