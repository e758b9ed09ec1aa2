/-! ===== a test goes on ===== -/
theorem s_dropS {T : Nat → Int} {L : Nat} {q : Bool} : ∀ (σ : List Int) (h : xa_H) (d : Nat) (s : pS), Mx T L q 0 h σ d s → 25 ∈ σ → ∀ fu, σ.length < fu → ∃ h', xit (fun s => f_X12_qGoesOnTest_L33 173 s) fu h = some h' ∧ Mx T L q 0 h' (dw (fun w => ! decide (w = 25)) σ s).1 d (dw (fun w => ! decide (w = 25)) σ s).2 ∧ Fm 0 h h'
  | [], h, d, s, M, h25, fu, hf => by cases h25
  | w :: σ, h, d, s, M, h25, fu, hf => by
    have S := mx_S M
    have e : f_X12_qGoesOnTest_L33 173 h = if w = 25 then some (.inr h) else (f_X12_qDrops 173 h).bind (fun r => some (.inl r)) := by
      unfold f_X12_qGoesOnTest_L33
      rw [xM S, mx_isOn M (by decide), bbind, show top1 h 0 (w :: σ) = w from rfl, iff01, xM S]
    unfold dw
    by_cases z : w = 25
    · rw [if_pos z] at e
      rw [if_neg (by simp [z])]
      exact ⟨h, xit_end (f := fun s => f_X12_qGoesOnTest_L33 173 s) e (by omega), M, Fm.refl _ _⟩
    · rw [if_neg z] at e
      rw [if_pos (by simp [z])]
      obtain ⟨g, e1, e2, e3⟩ := mx_drop M
      rw [e1] at e
      simp only [List.length_cons] at hf
      obtain ⟨fu, rfl⟩ : ∃ y, fu = y + 1 := ⟨fu - 1, by omega⟩
      obtain ⟨h', a1, a2, a3⟩ := s_dropS σ g d (pU s w) e2 (by rcases List.mem_cons.mp h25 with y | y; exact absurd y.symm z; exact y) fu (by omega)
      exact ⟨h', by rw [xit_go (f := fun s => f_X12_qGoesOnTest_L33 173 s) e]; exact a1, a2, e3.tr a3⟩
theorem pG_A1 {T : Nat → Int} {L : Nat} {s : pS} {c : Int} (g : pG T L s c = true) : pA1 T L s = none ∧ pA2 T L s = none := by
  have := pG_w g
  unfold pA1 pA2
  rw [if_neg (by omega), if_neg (by omega)]
  exact ⟨rfl, rfl⟩
theorem KT_close {T : Nat → Int} {L : Nat} {q : Bool} {σ : List Int} {d : Nat} {s : pS} {σ' : List Int} (hu : noU σ) (g : pG T L s 93 = true) (e : (dr2 (dr1 (σ, s))).1 = 25 :: σ') : KT T L q σ d s = KT T L q σ' (d + 1) (pN T L (dr2 (dr1 (σ, s))).2) := by
  have p1 := dr1_1 (x := (σ, s))
  have p2 := dr2_1 (x := dr1 (σ, s))
  have g2 : pG T L (dr2 (dr1 (σ, s))).2 93 = true := by rw [pG_pl (p2.1.trans p1.1) (p2.2.trans p1.2)]; exact g
  unfold KT
  rw [KK_end hu pA1_pl pA2_pl (pG_A1 g).1 (pG_A1 g).2, e, KK_2]
  unfold kC pD
  rw [if_neg (by decide), if_neg (by decide), if_pos rfl, if_pos g2, bd_l]
theorem s_goTL {T : Nat → Int} {L : Nat} {q : Bool} {D : Nat} (hD : D ≤ 6) : ∀ (n : Nat) (σ : List Int) (d : Nat) (s : pS) (h : xa_H), L - s.1 ≤ n → Mx T L q 0 h σ d s → Gt D σ d s → noU σ → ∀ fu, n + 1 < fu → ∃ h' σ' d' s', xit (fun s => f_X12_qGoesOnTest_L0 173 s) fu h = some h' ∧ Mx T L q 0 h' σ' d' s' ∧ Fm 0 h h' ∧ KT T L q σ d s = KT T L q σ' d' s' ∧ noU σ' ∧ Gt D σ' d' s' ∧ s.1 ≤ s'.1 ∧ ¬(pG T L s' 93 = true ∧ 25 ∈ σ') ∧ xm h' 173 2 = (s'.1 : Int) := by
  intro n
  induction n with
  | zero =>
    intro σ d s h hn M G hu fu hf
    have S := mx_S M
    have lL := mx_L M
    obtain ⟨k1, k2, k3, k4⟩ := mx_look M
    have np : ¬ pG T L s 93 = true := fun g => by have := pG_lt g; omega
    have e : f_X12_qGoesOnTest_L0 173 h = some (.inr (xset h 173 2 (s.1 : Int))) := by
      unfold f_X12_qGoesOnTest_L0
      rw [gM S, mx_bad M, if_pos rfl, xM S, k1, bbind, if_neg (fun z => np ((lkv_pG g93).mp z))]
    exact ⟨_, σ, d, s, xit_end (f := fun s => f_X12_qGoesOnTest_L0 173 s) e (by omega), k2, k4, rfl, hu, G, Nat.le_refl _, fun z => np z.1, k3⟩
  | succ n ih =>
    intro σ d s h hn M G hu fu hf
    obtain ⟨G1, G2, G3, G4⟩ := G
    have G : Gt D σ d s := ⟨G1, G2, G3, G4⟩
    have S := mx_S M
    have lL := mx_L M
    obtain ⟨k1, k2, k3, k4⟩ := mx_look M
    have S2 := mx_S k2
    have sq := s_hasSq k2
    obtain ⟨H, hH⟩ : ∃ H, H = xset h 173 2 (s.1 : Int) := ⟨_, rfl⟩
    rw [← hH] at k1 k2 k3 k4 S2 sq
    by_cases g : pG T L s 93 = true
    · have lk := (lkv_pG g93).mpr g
      by_cases m25 : 25 ∈ σ
      · have kg := (pG_i.mp g).1
        have n1 := pN_lt (T := T) (pG_lt g)
        have R1 := rx_sg k2.1 kg
        have F1 : Fx DB H (xset H 173 2 ((s.1 + 1 : Nat) : Int)) := (Fx.refl DB H).set rfl
        have M1 : Mx T L q 0 (xset H 173 2 ((s.1 + 1 : Nat) : Int)) σ d (pN T L s) := mx_lex k2 F1 R1 (by have := n1.1; show s.1 ≤ (pN T L s).1; omega)
        have hl := mx_len M1
        obtain ⟨h2, e2, M2, F2⟩ := s_dropS σ _ d _ M1 m25 xFU (by unfold xFU; omega)
        have ed : dw (fun w => ! decide (w = 25)) σ s = dr2 (dr1 (σ, s)) := dw_12 G1 hu (fun w hw z => by
          unfold b1 b2 at z
          rw [decide_eq_false (by omega)]
          rfl) (fun w hw z => by
          have := G2 w hw
          unfold tsS at this
          rw [decide_eq_true (by omega)]
          rfl)
        rw [dw_pN, ed] at M2
        obtain ⟨σ1, e1⟩ := (sq_iff (s := s) G1 hu G2).1.mp m25
        have hK := KT_close (q := q) (d := d) hu g e1
        have f1 := dr1_f (σ, s)
        have f2 := dr2_f (dr1 (σ, s))
        have p1 := dr1_1 (x := (σ, s))
        have p2 := dr2_1 (x := dr1 (σ, s))
        have w2 := wf_dr2 (s := (dr1 (σ, s)).2) (wf_dr1 (s := s) G1 hu)
        change wf (dr2 (dr1 (σ, s))).1 2 at w2
        rw [e1] at M2 f2 w2
        obtain ⟨f11, f12, f13⟩ := f1
        obtain ⟨f21, f22, f23⟩ := f2
        rw [nop_op (by omega)] at f21
        dsimp only at f11 f13 p1 M2
        simp only [List.length_cons] at f23
        obtain ⟨z, hz⟩ : ∃ z, z = (dr2 (dr1 (σ, s))).2 := ⟨_, rfl⟩
        rw [← hz] at hK M2 f23 p2
        have zn := pN_x T L (p2.1.trans p1.1) (p2.2.trans p1.2)
        have zl := pM_len (T := T) (L := L) z
        obtain ⟨q1, q2, q3, q4, q5⟩ := mx_pop M2
        obtain ⟨o1, o2⟩ := mx_op q1 (d' := d + 1) (by omega)
        have hl2 := mx_len M2
        simp only [List.length_cons] at hl2
        have t1 : ∀ v ∈ σ1, tsS v := fun v hv => G2 v (f12 v (f22 v (List.mem_cons_of_mem _ hv)))
        obtain ⟨h3, σ3, d3, s3, a1, a2, a3, a4, a5, a6, a7, a8, a9, a10, a11⟩ := s_dropsNots o1 (by omega) t1
        have S3 := mx_S M2
        have S4 := mx_S q1
        have st : f_X12_qGoesOnTest_L0 173 h = some (.inl h3) := by
          have c1 : w32 ((s.1 : Int) + 1) = ((s.1 + 1 : Nat) : Int) := by rw [w32_id (by omega) (by omega)]; omega
          have c2 : w32 (((0 + σ1.length + 1 : Nat) : Int) - 1) = ((0 + σ1.length : Nat) : Int) := by rw [w32_id (by omega) (by omega)]; omega
          have c3 : w32 (((6 - d : Nat) : Int) - 1) = ((6 - (d + 1) : Nat) : Int) := by rw [w32_id (by omega) (by omega)]; omega
          unfold f_X12_qGoesOnTest_L0
          rw [gM S, mx_bad M, if_pos rfl, xM S, k1, bbind, if_pos lk, xM S2, sq, bbind, iff01, if_pos m25, gM S2, k3, c1, pMf S2, e2, bbind, gM S3, q3, c2, pMf S3, gM S4, q1.2.2.2.2.2.1, c3, pMf S4, xM (mx_S o1), a1]
          rfl
        obtain ⟨fu, rfl⟩ : ∃ y, fu = y + 1 := ⟨fu - 1, by omega⟩
        obtain ⟨h', σ', d', s', y1, y2, y3, y4, y5, y6, y7, y8, y9⟩ := ih σ3 d3 s3 h3 (by omega) a2 ⟨a7 (wf_2 w2).2, fun v hv => t1 v (a8 v hv), by omega, by omega⟩ a5 fu (by omega)
        exact ⟨h', σ', d', s', by rw [xit_go (f := fun s => f_X12_qGoesOnTest_L0 173 s) st]; exact y1, y2, (k4.tr ((DB_DQ F1).tr (F2.tr ((q4.tr o2).tr a3)))).tr y3, (hK.trans (a4 _ _ _)).trans y4, y5, y6, by omega, y8, y9⟩
      · have e : f_X12_qGoesOnTest_L0 173 h = some (.inr H) := by
          unfold f_X12_qGoesOnTest_L0
          rw [gM S, mx_bad M, if_pos rfl, xM S, k1, bbind, if_pos lk, xM S2, sq, bbind, iff01, if_neg m25]
        exact ⟨H, σ, d, s, xit_end (f := fun s => f_X12_qGoesOnTest_L0 173 s) e (by omega), k2, k4, rfl, hu, G, Nat.le_refl _, fun z => m25 z.2, k3⟩
    · have e : f_X12_qGoesOnTest_L0 173 h = some (.inr H) := by
        unfold f_X12_qGoesOnTest_L0
        rw [gM S, mx_bad M, if_pos rfl, xM S, k1, bbind, if_neg (fun z => g ((lkv_pG g93).mp z))]
      exact ⟨H, σ, d, s, xit_end (f := fun s => f_X12_qGoesOnTest_L0 173 s) e (by omega), k2, k4, rfl, hu, G, Nat.le_refl _, fun z => g z.1, k3⟩
def gOt (T : Nat → Int) (L : Nat) (q : Bool) (D : Nat) (h : xa_H) (f : Option (Int × xa_H)) (R : pR) (p : Nat) : Prop :=
  (∃ h' σ' d' s', f = some (1, h') ∧ Mx T L q 0 h' σ' d' s' ∧ Fm 0 h h' ∧ R = bd (fact T L q d' s') (KT T L q σ' d') ∧ Gt D σ' d' s' ∧ p < s'.1)
  ∨ (∃ h' σ' d' s', f = some (0, h') ∧ Mx T L q 0 h' σ' d' s' ∧ Fm 0 h h' ∧ R = .inl (dr2 (dr1 (σ', s'))).2 ∧ (dr2 (dr1 (σ', s'))).1 = [] ∧ Gt D σ' d' s' ∧ noU σ' ∧ p ≤ s'.1)
  ∨ (∃ h' e, f = some (0, h') ∧ R = .inr e ∧ Bq h' e 1602 ∧ Fx DQ h h')
theorem tA {T : Nat → Int} {L : Nat} {q : Bool} {h : xa_H} {σ : List Int} {d : Nat} {s : pS} (M : Mx T L q 0 h σ d s) (hat : xm h 173 2 = (s.1 : Int)) {A w : Nat} (hm : (A, w) ∈ wtab) (hw : w < 29) : (pW T L s = (w : Int) ∧ ∃ h', f_X12_takes 173 (A : Int) h = some (1, h') ∧ Mx T L q 0 h' σ d (pN T L s) ∧ Fm 0 h h') ∨ (pW T L s ≠ (w : Int) ∧ f_X12_takes 173 (A : Int) h = some (0, h)) := by
  have e0 : xset h 173 2 (s.1 : Int) = h := by rw [← hat]; exact xset_self h 173 2
  rcases s_takes M.1 hm hw with ⟨z, h', e1, e2, e3⟩ | ⟨z, e1⟩
  · have n1 : s.1 ≤ (pN T L s).1 := tk_n_ge' (b := s.2.1)
    exact Or.inl ⟨z, h', e1, mx_lex M e3 e2 n1, DB_DQ e3⟩
  · rw [e0] at e1
    exact Or.inr ⟨z, e1⟩
theorem top0 {h : xa_H} : top1 h 0 [] = -1 := rfl
theorem s_goesOnT {T : Nat → Int} {L : Nat} {q : Bool} {D : Nat} {h : xa_H} {σ : List Int} {d : Nat} {s : pS} (hD : D ≤ 6) (M : Mx T L q 0 h σ d s) (G : Gt D σ d s) (hu : noU σ) : gOt T L q D h (f_X12_qGoesOnTest 173 h) (KT T L q σ d s) s.1 := by
  have lL0 := mx_L M
  obtain ⟨h1, σ1, d1, s1, a1, M1, F1, k1, u1, G1, l1, nc, hat⟩ := s_goTL hD L σ d s h (by omega) M G hu xFU (by unfold xFU; omega)
  obtain ⟨G11, G12, G13, G14⟩ := G1
  have S1 := mx_S M1
  have lL := mx_L M1
  unfold f_X12_qGoesOnTest
  rw [a1, bbind, k1]
  unfold f_X12_qGoesOnTest_J76
  rw [gM S1, pt_173_84 S1, xM S1]
  have tand : (pW T L s1 = 18 ∧ ∃ h', f_X12_takes 173 232 h1 = some (1, h') ∧ Mx T L q 0 h' σ1 d1 (pN T L s1) ∧ Fm 0 h1 h') ∨ (pW T L s1 ≠ 18 ∧ f_X12_takes 173 232 h1 = some (0, h1)) := tA M1 hat (A := 232) (w := 18) (by decide +kernel) (by decide)
  have tor : (pW T L s1 = 17 ∧ ∃ h', f_X12_takes 173 233 h1 = some (1, h') ∧ Mx T L q 0 h' σ1 d1 (pN T L s1) ∧ Fm 0 h1 h') ∨ (pW T L s1 ≠ 17 ∧ f_X12_takes 173 233 h1 = some (0, h1)) := tA M1 hat (A := 233) (w := 17) (by decide +kernel) (by decide)
  rcases tand with ⟨w18, h2, e2, M2, F2⟩ | ⟨n18, e2⟩
  · have sl : s1.1 < L := pW_lt (T := T) (L := L) (by omega)
    have n1 := pN_lt (T := T) sl
    have hc : pA1 T L s1 = some 10 := by unfold pA1; rw [if_pos w18]
    have f1 := dr1_f (σ1, s1)
    have p1 := dr1_1 (x := (σ1, s1))
    have wd := wf_dr1 (s := s1) G11 u1
    have hk := KK_op1 (T := T) lL.2 (lf := fact T L q) (o2 := pA2 T L) (d := d1) u1 ((fact_ok d1).pr) pA1_pl (fun s c h => ⟨(pA1_some h).1, by have := (pA1_some h).2; omega⟩) lL.1 hc
    obtain ⟨h3, e3, M3, F3⟩ := dropw' (F := fun s => f_X12_qGoesOnTest_L87 173 s) (P := fun w => decide (w = 10)) (fun h d s M => by
      have S := mx_S M
      show f_X12_qGoesOnTest_L87 173 h = _
      unfold f_X12_qGoesOnTest_L87
      rw [xM S, mx_isOn M (by decide), bbind, top0, iff01, if_neg (by decide)]) (fun h w σ d s M => by
      have S := mx_S M
      show f_X12_qGoesOnTest_L87 173 h = _
      unfold f_X12_qGoesOnTest_L87
      rw [xM S, mx_isOn M (by decide), bbind, show top1 h 0 (w :: σ) = w from rfl, iff01, xM S]
      by_cases z : w = 10
      · rw [if_pos z, if_pos (decide_eq_true z)]
      · rw [if_neg z, if_neg (by rw [decide_eq_true_eq]; exact z)]) M2
    have ed : dw (fun w => decide (w = 10)) σ1 s1 = dr1 (σ1, s1) := dw_1 G11 u1 (fun w hw z => by
      have := G12 w hw
      unfold tsS at this
      unfold b1 at z
      exact decide_eq_true (by omega)) (fun w hw z => by
      unfold b1 at z
      exact decide_eq_false (by omega))
    rw [dw_pN, ed] at M3
    obtain ⟨z, hz⟩ : ∃ z, z = dr1 (σ1, s1) := ⟨_, rfl⟩
    rw [← hz] at f1 p1 wd hk M3
    obtain ⟨f11, f12, f13⟩ := f1
    dsimp only at f11 f13 p1 M3
    have zn := pN_x T L p1.1 p1.2
    have zl := pM_len (T := T) (L := L) z.2
    obtain ⟨h4, e4, M4, F4⟩ := s_pushOp M3 (by rw [zl, zn]; omega) 10
    refine Or.inl ⟨h4, 10 :: z.1, d1, pN T L z.2, ?_, M4, (F1.tr F2).tr (F3.tr F4), hk, ⟨wf_c1 wd (by omega), ?_, ?_, ?_⟩, by rw [zn]; omega⟩
    · rw [e2, bbind, if_neg one_ne, e3, bbind]
      exact e4
    · intro w hw
      rcases List.mem_cons.mp hw with rfl | hw
      · unfold tsS; omega
      · exact G12 w (f12 w hw)
    · have : nop (10 :: z.1) = nop z.1 := by
        conv => lhs; unfold nop
        rw [if_neg (by omega)]
        omega
      omega
    · simp only [List.length_cons]
      rw [zl, zn]
      omega
  have hn : pA1 T L s1 = none := by unfold pA1; rw [if_neg n18]
  rw [e2, bbind, if_pos rfl, gM S1, pt_173_85 S1, xM S1]
  rcases tor with ⟨w17, h2, e3, M2, F2⟩ | ⟨n17, e3⟩
  · have sl : s1.1 < L := pW_lt (T := T) (L := L) (by omega)
    have n1 := pN_lt (T := T) sl
    have hc : pA2 T L s1 = some 11 := by unfold pA2; rw [if_pos w17]
    have f1 := dr1_f (σ1, s1)
    have p1 := dr1_1 (x := (σ1, s1))
    have f2 := dr2_f (dr1 (σ1, s1))
    have p2 := dr2_1 (x := dr1 (σ1, s1))
    have wd := wf_dr2 (s := (dr1 (σ1, s1)).2) (wf_dr1 (s := s1) G11 u1)
    change wf (dr2 (dr1 (σ1, s1))).1 2 at wd
    have hk := KK_op2 (T := T) lL.2 (lf := fact T L q) (d := d1) u1 ((fact_ok d1).pr) pA1_pl pA2_pl (fun s c h => (pA1_some h).1) (fun s c h => ⟨(pA2_some h).1, by have := (pA2_some h).2; omega⟩) lL.1 hn hc
    obtain ⟨h3, e3', M3, F3⟩ := dropw' (F := fun s => f_X12_qGoesOnTest_L137 173 s) (P := fun w => decide (w = 10 ∨ w = 11)) (fun h d s M => by
      have S := mx_S M
      show f_X12_qGoesOnTest_L137 173 h = _
      unfold f_X12_qGoesOnTest_L137
      rw [xM S, mx_isOn M (by decide), bbind, top0, iff01, if_neg (by decide), xM S, mx_isOn M (by decide), bbind, top0, iff01, if_neg (by decide)]) (fun h w σ d s M => by
      have S := mx_S M
      show f_X12_qGoesOnTest_L137 173 h = _
      unfold f_X12_qGoesOnTest_L137 f_X12_qGoesOnTest_J155L137
      rw [xM S, mx_isOn M (by decide), bbind, show top1 h 0 (w :: σ) = w from rfl, iff01, xM S, xM S, mx_isOn M (by decide), bbind, show top1 h 0 (w :: σ) = w from rfl, iff01]
      by_cases z : w = 10
      · rw [if_pos z, if_pos (decide_eq_true (Or.inl z))]
      · rw [if_neg z]
        by_cases z2 : w = 11
        · rw [if_pos z2, if_pos (decide_eq_true (Or.inr z2))]
        · rw [if_neg z2, if_neg (by rw [decide_eq_true_eq]; omega)]) M2
    have ed : dw (fun w => decide (w = 10 ∨ w = 11)) σ1 s1 = dr2 (dr1 (σ1, s1)) := dw_12 G11 u1 (fun w hw z => by
      have := G12 w hw
      unfold tsS at this
      unfold b1 b2 at z
      exact decide_eq_true (by omega)) (fun w hw z => decide_eq_false (by omega))
    rw [dw_pN, ed] at M3
    obtain ⟨z, hz⟩ : ∃ z, z = dr2 (dr1 (σ1, s1)) := ⟨_, rfl⟩
    rw [← hz] at f2 p2 wd hk M3
    obtain ⟨f11, f12, f13⟩ := f1
    obtain ⟨f21, f22, f23⟩ := f2
    dsimp only at f11 f13 p1 M3
    have zn := pN_x T L (p2.1.trans p1.1) (p2.2.trans p1.2)
    have zl := pM_len (T := T) (L := L) z.2
    obtain ⟨h4, e4, M4, F4⟩ := s_pushOp M3 (by rw [zl, zn]; omega) 11
    refine Or.inl ⟨h4, 11 :: z.1, d1, pN T L z.2, ?_, M4, (F1.tr F2).tr (F3.tr F4), hk, ⟨wf_c2 wd (by omega), ?_, ?_, ?_⟩, by rw [zn]; omega⟩
    · rw [e3, bbind, if_neg one_ne, e3', bbind]
      exact e4
    · intro w hw
      rcases List.mem_cons.mp hw with rfl | hw
      · unfold tsS; omega
      · exact G12 w (f12 w (f22 w hw))
    · have : nop (11 :: z.1) = nop z.1 := by
        conv => lhs; unfold nop
        rw [if_neg (by omega)]
        omega
      omega
    · simp only [List.length_cons]
      rw [zl, zn]
      omega
  have hn2 : pA2 T L s1 = none := by unfold pA2; rw [if_neg n17]
  have hk : KT T L q σ1 d1 s1 = KK T L (fact T L q) (pA1 T L) (pA2 T L) (dr2 (dr1 (σ1, s1))).1 d1 2 (dr2 (dr1 (σ1, s1))).2 := KK_end u1 pA1_pl pA2_pl hn hn2
  rw [e3, bbind, if_pos rfl, gM S1, mx_bad M1, if_pos rfl, xM S1, s_hasSq M1, bbind, iff01]
  by_cases m25 : 25 ∈ σ1
  · obtain ⟨σ2, e4⟩ := (sq_iff (s := s1) G11 u1 G12).1.mp m25
    have p1 := dr1_1 (x := (σ1, s1))
    have p2 := dr2_1 (x := dr1 (σ1, s1))
    have g93n : ¬ pG T L s1 93 = true := fun y => nc ⟨y, m25⟩
    have gz : ¬ pG T L (dr2 (dr1 (σ1, s1))).2 93 = true := by rw [pG_pl (p2.1.trans p1.1) (p2.2.trans p1.2)]; exact g93n
    have c98 : xm h1 173 98 = (s1.2.2.length : Int) := M1.2.1.1
    rw [if_pos m25, gM S1, hat, xM S1, s_fail S1 (mx_bad M1), bbind]
    refine Or.inr (Or.inr ⟨_, (1, s1.1), rfl, ?_, ⟨bx_fail S1 1 s1.1 (by decide), ?_, ?_⟩, (F1.1.set rfl).set rfl⟩)
    · rw [hk, e4, KK_2]
      unfold kC pD
      rw [if_neg (by decide), if_neg (by decide), if_pos rfl, if_neg gz, bd_r]
      show Sum.inr (1, (dr2 (dr1 (σ1, s1))).2.1) = Sum.inr (1, s1.1)
      rw [p2.1.trans p1.1]
    · rw [xm_xset, if_neg (by omega), xm_xset, if_neg (by omega)]
      omega
    · rw [xm_xset, if_neg (by omega), xm_xset, if_neg (by omega)]
      omega
  · have e4 := (sq_iff (s := s1) G11 u1 G12).2.mp m25
    rw [e4] at hk
    rw [if_neg m25]
    exact Or.inr (Or.inl ⟨h1, σ1, d1, s1, rfl, M1, F1, hk, e4, ⟨G11, G12, G13, G14⟩, u1, l1⟩)
