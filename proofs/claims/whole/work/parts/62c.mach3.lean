/-! ===== parts end, sums go on ===== -/
def smS (w : Int) : Prop := w = 60 ∨ (1 ≤ w ∧ w ≤ 4) ∨ (20 ≤ w ∧ w ≤ 24)
/-- what a step that goes no further in the text leaves -/
def EP (T : Nat → Int) (L : Nat) (σ : List Int) (d : Nat) (s : pS) (σ' : List Int) (d' : Nat) (s' : pS) : Prop := (∀ lf o1 o2, KK T L lf o1 o2 σ d 0 s = KK T L lf o1 o2 σ' d' 0 s') ∧ noU σ' ∧ d' + nop σ' = d + nop σ ∧ (wf σ 0 → wf σ' 0) ∧ (∀ w ∈ σ', w ∈ σ) ∧ s'.1 = s.1 ∧ s'.2.1 = s.2.1 ∧ s'.2.2.length + σ'.length = s.2.2.length + σ.length
theorem pU_len (s : pS) (c : Int) : (pU s c).2.2.length = s.2.2.length + 1 := by
  show (s.2.2 ++ [c]).length = _
  rw [List.length_append]
  rfl
theorem s_ends {T : Nat → Int} {L : Nat} {q : Bool} {b : Nat} : ∀ (σ : List Int) (h : xa_H) (d : Nat) (s : pS), Mx T L q b h σ d s → (∀ w ∈ σ, smS w) → d + nop σ ≤ 6 → ∀ fu, σ.length < fu → ∃ h' σ' d' s', xit (fun s => f_X12_qEndsPart_L0 173 s) fu h = some h' ∧ Mx T L q b h' σ' d' s' ∧ Fm b h h' ∧ EP T L σ d s σ' d' s'
  | [], h, d, s, M, _, _, fu, hf => by
    have S := mx_S M
    have e : f_X12_qEndsPart_L0 173 h = some (.inr h) := by
      unfold f_X12_qEndsPart_L0
      rw [gM S, mx_bad M, if_pos rfl, gM S, gM S, M.2.2.1, M.2.2.2.2.1, if_neg (by simp)]
    exact ⟨h, [], d, s, xit_end (f := fun s => f_X12_qEndsPart_L0 173 s) e (by omega), M, Fm.refl _ _, fun _ _ _ => rfl, (fun _ _ e => by cases e), rfl, id, fun _ hw => hw, rfl, rfl, rfl⟩
  | w :: σ, h, d, s, M, hs, hn, fu, hf => by
    have S := mx_S M
    have hl := mx_len M
    have m4 := M.2.2.1
    have m5 := M.2.2.2.1.1
    simp only [List.length_cons] at hl m4 hf
    have i1 : xia h 0 246 ((b + σ.length : Nat) : Int) = true := ia_246 S (by omega) (by omega)
    have e0 : f_X12_qEndsPart_L0 173 h = if w < 60 then some (Sum.inr h) else (xgf h 12 101 173).bind fun x10 => (xpf h 12 101 173 (w32 (x10 - 1))).bind fun h11 => (xrc h11 12 173 (f_X12_qDrops 173 h11)).bind fun r12 => some (Sum.inl r12) := by
      unfold f_X12_qEndsPart_L0
      rw [gM S, mx_bad M, if_pos rfl, gM S, gM S, m4, M.2.2.2.2.1, if_pos (by omega), gM S, gM S, m4, pt_173_99 S, w32_id (by omega) (by omega), show ((b + (σ.length + 1) : Nat) : Int) - 1 = ((b + σ.length : Nat) : Int) by omega, bxal, if_pos i1]
      show (if xm h 246 (b + σ.length) < 60 then _ else _) = _
      rw [m5]
    have hw := hs w (List.mem_cons_self ..)
    unfold smS at hw
    by_cases z : w = 60
    · subst z
      have nd : d + 1 + nop σ ≤ 6 := by
        unfold nop at hn
        simp at hn
        omega
      have w1 : w32 (((6 - d : Nat) : Int) - 1) = ((6 - (d + 1) : Nat) : Int) := by rw [w32_id (by omega) (by omega)]; omega
      obtain ⟨o1, o2⟩ := mx_op M (d' := d + 1) (by omega)
      obtain ⟨g, e1, e2, e3⟩ := mx_drop o1
      rw [if_neg (by decide), gM S, M.2.2.2.2.2.1, w1, pMf S, xM (mx_S o1), e1] at e0
      obtain ⟨fu, rfl⟩ : ∃ y, fu = y + 1 := ⟨fu - 1, by omega⟩
      obtain ⟨h', σ', d', s', a1, a2, a3, a4, a5, a6, a7, a8, a9, a10, a11⟩ := s_ends σ g (d + 1) (pU s 60) e2 (fun v hv => hs v (List.mem_cons_of_mem _ hv)) nd fu (by omega)
      refine ⟨h', σ', d', s', by rw [xit_go (f := fun s => f_X12_qEndsPart_L0 173 s) e0]; exact a1, a2, (o2.tr e3).tr a3, fun lf oa ob => ?_, a5, ?_, fun g => a7 (wf_un' g (Or.inl rfl)), fun v hv => List.mem_cons_of_mem _ (a8 v hv), a9, a10, ?_⟩
      · rw [KK_un (Or.inl rfl)]
        exact a4 lf oa ob
      · rw [a6]
        conv => rhs; unfold nop
        simp
        omega
      · rw [a11, pU_len]
        simp only [List.length_cons]
        omega
    · rw [if_pos (by omega)] at e0
      exact ⟨h, w :: σ, d, s, xit_end (f := fun s => f_X12_qEndsPart_L0 173 s) e0 (by omega), M, Fm.refl _ _, fun _ _ _ => rfl, (fun v σ' e => by cases e; omega), rfl, id, fun _ hw => hw, rfl, rfl, rfl⟩
theorem s_endsPart {T : Nat → Int} {L : Nat} {q : Bool} {b : Nat} {σ : List Int} {h : xa_H} {d : Nat} {s : pS} (M : Mx T L q b h σ d s) (hs : ∀ w ∈ σ, smS w) (hn : d + nop σ ≤ 6) : ∃ h' σ' d' s', f_X12_qEndsPart 173 h = some h' ∧ Mx T L q b h' σ' d' s' ∧ Fm b h h' ∧ EP T L σ d s σ' d' s' := by
  have hl := mx_len M
  obtain ⟨h', σ', d', s', e1, e2⟩ := s_ends σ h d s M hs hn xFU (by unfold xFU; omega)
  refine ⟨h', σ', d', s', ?_, e2⟩
  unfold f_X12_qEndsPart
  rw [e1]
  rfl
/-- the row that waits is fit, at the place -/
def Gd (b D : Nat) (σ : List Int) (d : Nat) (s : pS) : Prop := wf σ 0 ∧ (∀ w ∈ σ, smS w) ∧ d + nop σ = D ∧ s.2.2.length + b + σ.length ≤ s.1
theorem dw_pN {T : Nat → Int} {L : Nat} {P : Int → Bool} : ∀ (σ : List Int) (s : pS), dw P σ (pN T L s) = ((dw P σ s).1, pN T L (dw P σ s).2)
  | [], _ => rfl
  | w :: σ, s => by
    unfold dw
    by_cases z : P w = true
    · rw [if_pos z, if_pos z]
      exact dw_pN σ (pU s w)
    · rw [if_neg z, if_neg z]
theorem dw_len {P : Int → Bool} : ∀ (σ : List Int) (s : pS), (dw P σ s).2.2.2.length + (dw P σ s).1.length = s.2.2.length + σ.length
  | [], _ => rfl
  | w :: σ, s => by
    unfold dw
    by_cases z : P w = true
    · rw [if_pos z, dw_len σ (pU s w), pU_len]
      simp only [List.length_cons]
      omega
    · rw [if_neg z]
theorem dw_pl {P : Int → Bool} : ∀ (σ : List Int) (s : pS), (dw P σ s).2.1 = s.1 ∧ (dw P σ s).2.2.1 = s.2.1
  | [], _ => ⟨rfl, rfl⟩
  | w :: σ, s => by
    unfold dw
    by_cases z : P w = true
    · rw [if_pos z]
      exact dw_pl σ (pU s w)
    · rw [if_neg z]
      exact ⟨rfl, rfl⟩
theorem dw_mem {P : Int → Bool} : ∀ (σ : List Int) (s : pS), ∀ w ∈ (dw P σ s).1, w ∈ σ
  | [], _ => fun w h => h
  | v :: σ, s => fun w h => by
    unfold dw at h
    by_cases z : P v = true
    · rw [if_pos z] at h
      exact List.mem_cons_of_mem _ (dw_mem σ (pU s v) w h)
    · rw [if_neg z] at h
      exact h
theorem dw_nop {P : Int → Bool} : ∀ (σ : List Int) (s : pS), (∀ w ∈ σ, P w = true → ¬(w = 60 ∨ w = 12 ∨ 20 ≤ w ∧ w ≤ 25)) → nop (dw P σ s).1 = nop σ
  | [], _, _ => rfl
  | w :: σ, s, h => by
    unfold dw
    by_cases z : P w = true
    · rw [if_pos z, dw_nop σ (pU s w) (fun v hv => h v (List.mem_cons_of_mem _ hv))]
      conv => rhs; unfold nop
      rw [if_neg (h w (List.mem_cons_self ..) z)]
      omega
    · rw [if_neg z]
theorem pG_pl {T : Nat → Int} {L : Nat} {s s' : pS} {c : Int} (h1 : s'.1 = s.1) (h2 : s'.2.1 = s.2.1) : pG T L s' c = pG T L s c := by
  unfold pG
  rw [h1, h2]
theorem pO1_no {T : Nat → Int} {L : Nat} {s : pS} {c : Int} (g : pG T L s c = true) (h1 : c ≠ 42) (h2 : c ≠ 47) : pO1 T L s = none := by
  unfold pO1
  rw [if_neg (pG_2 g h1), if_neg (pG_2 g h2)]
theorem pO2_no {T : Nat → Int} {L : Nat} {s : pS} {c : Int} (g : pG T L s c = true) (h1 : c ≠ 43) (h2 : c ≠ 45) : pO2 T L s = none := by
  unfold pO2
  rw [if_neg (pG_2 g h1), if_neg (pG_2 g h2)]
/-- the meaning, for sums -/
def KS (T : Nat → Int) (L : Nat) (q : Bool) (σ : List Int) (d : Nat) (s : pS) : pR := KK T L (part T L q) (pO1 T L) (pO2 T L) σ d 0 s
def nBr (w : Int) : Bool := ! decide (20 ≤ w ∧ w ≤ 24)
theorem sm_nBr {σ : List Int} (hw : ∀ w ∈ σ, smS w) (h : wf σ 0) (hu : noU σ) (s : pS) : dw nBr σ s = dr2 (dr1 (σ, s)) := by
  refine dw_12 h hu (fun w hm z => ?_) (fun w hm z => ?_)
  · unfold nBr
    rw [decide_eq_false (by unfold b1 b2 at z; omega)]
    rfl
  · have := hw w hm
    unfold smS at this
    unfold nBr
    rw [decide_eq_true (by omega)]
    rfl
/-- the closing of a bracket -/
theorem KS_close {T : Nat → Int} {L : Nat} {q : Bool} {σ : List Int} {d : Nat} {s : pS} {w : Int} {σ' : List Int} (hu : noU σ) (g : pG T L s 41 = true) (e : (dr2 (dr1 (σ, s))).1 = w :: σ') (hw : w = 20 ∨ w = 23 ∨ w = 24) : KS T L q σ d s = KS T L q σ' (d + 1) (if w = 20 then pN T L (dr2 (dr1 (σ, s))).2 else pU (pN T L (dr2 (dr1 (σ, s))).2) (if w = 23 then 5 else 6)) := by
  have p1 := dr1_1 (x := (σ, s))
  have p2 := dr2_1 (x := dr1 (σ, s))
  have g2 : pG T L (dr2 (dr1 (σ, s))).2 41 = true := by rw [pG_pl (p2.1.trans p1.1) (p2.2.trans p1.2)]; exact g
  unfold KS
  rw [KK_end hu pO1_pl pO2_pl (pO1_no g (by decide) (by decide)) (pO2_no g (by decide) (by decide)), e, KK_2]
  unfold kC pD
  rcases hw with rfl | rfl | rfl
  · rw [if_neg (by decide), if_neg (by decide), if_neg (by decide), if_pos g2, bd_l, if_pos rfl]
  · rw [if_neg (by decide), if_pos (by decide), if_pos g2, bd_l, if_neg (show ¬ (23 : Int) = 20 by decide)]
  · rw [if_neg (by decide), if_pos (by decide), if_pos g2, bd_l, if_neg (show ¬ (24 : Int) = 20 by decide)]
theorem dr1_f (x : List Int × pS) : nop (dr1 x).1 = nop x.1 ∧ (∀ w ∈ (dr1 x).1, w ∈ x.1) ∧ (dr1 x).2.2.2.length + (dr1 x).1.length = x.2.2.2.length + x.1.length := by
  obtain ⟨σ, s⟩ := x
  cases σ with
  | nil => exact ⟨rfl, fun _ h => h, rfl⟩
  | cons w σ =>
    unfold dr1
    dsimp only
    by_cases q : w = 3 ∨ w = 4 ∨ w = 10
    · rw [if_pos q]
      refine ⟨?_, fun v h => List.mem_cons_of_mem _ h, ?_⟩
      · conv => rhs; unfold nop
        rw [if_neg (by omega)]
        show nop σ = 0 + nop σ
        omega
      · dsimp only
        rw [pU_len]
        simp only [List.length_cons]
        omega
    · rw [if_neg q]
      exact ⟨rfl, fun _ h => h, rfl⟩
theorem dr2_f (x : List Int × pS) : nop (dr2 x).1 = nop x.1 ∧ (∀ w ∈ (dr2 x).1, w ∈ x.1) ∧ (dr2 x).2.2.2.length + (dr2 x).1.length = x.2.2.2.length + x.1.length := by
  obtain ⟨σ, s⟩ := x
  cases σ with
  | nil => exact ⟨rfl, fun _ h => h, rfl⟩
  | cons w σ =>
    unfold dr2
    dsimp only
    by_cases q : w = 1 ∨ w = 2 ∨ w = 11
    · rw [if_pos q]
      refine ⟨?_, fun v h => List.mem_cons_of_mem _ h, ?_⟩
      · conv => rhs; unfold nop
        rw [if_neg (by omega)]
        show nop σ = 0 + nop σ
        omega
      · dsimp only
        rw [pU_len]
        simp only [List.length_cons]
        omega
    · rw [if_neg q]
      exact ⟨rfl, fun _ h => h, rfl⟩
theorem pM_len {T : Nat → Int} {L : Nat} (s : pS) : (pN T L s).2.2.length = s.2.2.length := rfl
theorem s_closer {T : Nat → Int} {L : Nat} {q : Bool} {b D : Nat} {σ : List Int} {h : xa_H} {d : Nat} {s : pS} (M : Mx T L q b h σ d s) (hat : xm h 173 2 = (s.1 : Int)) (G : Gd b D σ d s) (hD : D ≤ 6) (hu : noU σ) (g : pG T L s 41 = true) (hb : brk σ = 20 ∨ brk σ = 23 ∨ brk σ = 24) :
    ∃ h' σ' d' s', f_X12_qGoesOn_J43L0 173 h = some (.inl h') ∧ Mx T L q b h' σ' d' s' ∧ Fm b h h' ∧ KS T L q σ d s = KS T L q σ' d' s' ∧ noU σ' ∧ Gd b D σ' d' s' ∧ s.1 + 1 ≤ s'.1 := by
  obtain ⟨G1, G2, G3, G4⟩ := G
  have lL := mx_L M
  have S := mx_S M
  have kg := (pG_i.mp g).1
  have n1 := pN_lt (T := T) (pG_lt g)
  have R1 := rx_sg M.1 kg
  have F1 : Fx DB h (xset h 173 2 ((s.1 + 1 : Nat) : Int)) := (Fx.refl DB h).set rfl
  have M1 : Mx T L q b (xset h 173 2 ((s.1 + 1 : Nat) : Int)) σ d (pN T L s) := mx_lex M F1 R1 (by have := n1.1; show s.1 ≤ (pN T L s).1; omega)
  obtain ⟨h2, e2, M2, F2⟩ := s_dtb M1
  have ee := dw_pN (T := T) (L := L) (P := nBr) σ s
  change Mx T L q b h2 (dw nBr σ (pN T L s)).1 d (dw nBr σ (pN T L s)).2 at M2
  rw [ee, sm_nBr G2 G1 hu s] at M2
  have f1 := dr1_f (σ, s)
  have f2 := dr2_f (dr1 (σ, s))
  have p1 := dr1_1 (x := (σ, s))
  have p2 := dr2_1 (x := dr1 (σ, s))
  have bq := brk_eq (s := s) G1 hu (fun w hw z => by have := G2 w hw; unfold smS at this; omega)
  have w2 := wf_dr2 (s := (dr1 (σ, s)).2) (wf_dr1 (s := s) G1 hu)
  change wf (dr2 (dr1 (σ, s))).1 2 at w2
  cases e : (dr2 (dr1 (σ, s))).1 with
  | nil =>
    rw [e] at bq
    dsimp only at bq
    omega
  | cons w σ1 =>
    rw [e] at bq w2 M2 f2
    dsimp only at bq M2
    have hw : w = 20 ∨ w = 23 ∨ w = 24 := by rw [← bq]; exact hb
    obtain ⟨w3, w4⟩ := wf_2 w2
    obtain ⟨f21, f22, f23⟩ := f2
    obtain ⟨f11, f12, f13⟩ := f1
    have nw : nop (w :: σ1) = 1 + nop σ1 := by
      conv => lhs; unfold nop
      rw [if_pos (by omega)]
    rw [nw] at f21
    dsimp only at f11 f13
    simp only [List.length_cons] at f23
    have hK := KS_close (q := q) (d := d) hu g e hw
    obtain ⟨z, hz⟩ : ∃ z, z = (dr2 (dr1 (σ, s))).2 := ⟨_, rfl⟩
    rw [← hz] at hK M2 f23 p2
    dsimp only at p1
    have pl : z.1 = s.1 ∧ z.2.1 = s.2.1 := ⟨p2.1.trans p1.1, p2.2.trans p1.2⟩
    have zn : (pN T L z).1 = (pN T L s).1 := by
      unfold pN
      rw [pl.1, pl.2]
    have zl := pM_len (T := T) (L := L) z
    obtain ⟨q1, q2, q3, q4, q5⟩ := mx_pop M2
    obtain ⟨o1, o2⟩ := mx_op q1 (d' := d + 1) (by omega)
    have hl := mx_len M2
    simp only [List.length_cons] at hl
    obtain ⟨h4, hh4⟩ : ∃ H, H = xset (xset h2 173 100 ((b + σ1.length : Nat) : Int)) 173 101 ((6 - (d + 1) : Nat) : Int) := ⟨_, rfl⟩
    rw [← hh4] at o1 o2
    have S2 := mx_S M2
    have S3 := mx_S q1
    have S4 := mx_S o1
    have t4 : xm h4 246 (b + σ1.length) = w := by rw [hh4, xm_xset, if_neg (by omega), xm_xset, if_neg (by omega), q2]
    have i4 : xia h4 0 246 ((b + σ1.length : Nat) : Int) = true := ia_246 S4 (by omega) (by omega)
    have r4 : xal h4 0 246 ((b + σ1.length : Nat) : Int) = some w := by
      unfold xal
      rw [if_pos i4]
      exact congrArg some t4
    have F4 : Fm b h h4 := ((DB_DQ F1).tr F2).tr (q4.tr o2)
    have st : f_X12_qGoesOn_J43L0 173 h = if w = 20 then f_X12_qGoesOn_J115L0 173 h4 else if w = 23 then f_X12_qGoesOn_J112L0 173 173 5 h4 else f_X12_qGoesOn_J112L0 173 173 6 h4 := by
      have c1 : w32 ((s.1 : Int) + 1) = ((s.1 + 1 : Nat) : Int) := by rw [w32_id (by omega) (by omega)]; omega
      have c2 : w32 (((b + σ1.length + 1 : Nat) : Int) - 1) = ((b + σ1.length : Nat) : Int) := by rw [w32_id (by omega) (by omega)]; omega
      have c3 : w32 (((6 - d : Nat) : Int) - 1) = ((6 - (d + 1) : Nat) : Int) := by rw [w32_id (by omega) (by omega)]; omega
      have c4 : xm (xset h2 173 100 ((b + σ1.length : Nat) : Int)) 173 101 = ((6 - d : Nat) : Int) := q1.2.2.2.2.2.1
      unfold f_X12_qGoesOn_J43L0
      rw [gM S, hat, c1, pMf S, xM (mx_S M1), e2, bbind, gM S2, q3, c2, pMf S2, gM S3, c4, c3, pMf S3, ← hh4, gM S4, gM S4, o1.2.2.1, pt_173_99 S4, r4, bbind, gM S4, gM S4, pt_173_99 S4, o1.2.2.1, r4, bbind]
    have fin : ∀ (h5 : xa_H) (s5 : pS), Mx T L q b h5 σ1 (d + 1) s5 → Fm b h h5 → KS T L q σ d s = KS T L q σ1 (d + 1) s5 → s5.1 = (pN T L s).1 → s5.2.2.length + b + σ1.length ≤ s5.1 → ∃ h' σ' d' s', f_X12_qGoesOn_J115L0 173 h5 = some (.inl h') ∧ Mx T L q b h' σ' d' s' ∧ Fm b h h' ∧ KS T L q σ d s = KS T L q σ' d' s' ∧ noU σ' ∧ Gd b D σ' d' s' ∧ s.1 + 1 ≤ s'.1 := by
      intro h5 s5 M5 F5 k5 l5 b5
      have sm5 : ∀ v ∈ σ1, smS v := fun v hv => G2 v (f12 v (f22 v (List.mem_cons_of_mem _ hv)))
      obtain ⟨h', σ', d', s', a1, a2, a3, a4, a5, a6, a7, a8, a9, a10, a11⟩ := s_endsPart M5 sm5 (by omega)
      refine ⟨h', σ', d', s', ?_, a2, F5.tr a3, k5.trans (a4 _ _ _), a5, ⟨a7 w4, fun v hv => sm5 v (a8 v hv), by omega, by omega⟩, by omega⟩
      unfold f_X12_qGoesOn_J115L0
      rw [xM (mx_S M5), a1]
      rfl
    have fin2 : ∀ c : Int, KS T L q σ d s = KS T L q σ1 (d + 1) (pU (pN T L z) c) → ∃ h' σ' d' s', f_X12_qGoesOn_J112L0 173 173 c h4 = some (.inl h') ∧ Mx T L q b h' σ' d' s' ∧ Fm b h h' ∧ KS T L q σ d s = KS T L q σ' d' s' ∧ noU σ' ∧ Gd b D σ' d' s' ∧ s.1 + 1 ≤ s'.1 := by
      intro c hc
      obtain ⟨h5, y1, y2, y3⟩ := mx_code o1 (by rw [zl, zn]; omega) c
      obtain ⟨h', σ', d', s', x1, x2⟩ := fin h5 _ y2 (F4.tr y3) hc zn (by rw [pU_len, zl]; show _ ≤ (pN T L z).1; omega)
      refine ⟨h', σ', d', s', ?_, x2⟩
      unfold f_X12_qGoesOn_J112L0
      rw [xM S4, y1]
      exact x1
    rw [st]
    rcases hw with rfl | rfl | rfl
    · rw [if_pos rfl] at hK ⊢
      exact fin h4 _ o1 F4 hK zn (by rw [zl]; omega)
    · rw [if_neg (by decide)] at hK ⊢
      rw [if_pos rfl] at hK ⊢
      exact fin2 5 hK
    · rw [if_neg (by decide)] at hK ⊢
      rw [if_neg (by decide)] at hK ⊢
      exact fin2 6 hK
