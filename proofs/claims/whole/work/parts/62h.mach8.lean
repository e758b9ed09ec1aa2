/-! ===== a part, a sum of the reference ===== -/
theorem bq_code {h : xa_H} {e : Nat × Nat} {n : Int} (B : Bq h e n) (hn : n < 1690) (c : Int) : ∃ h', f_X12_qCode 173 c h = some h' ∧ Bq h' e (n + 1) ∧ Fx DQ h h' := by
  obtain ⟨⟨b1, b2, b3, b4⟩, b5⟩ := B
  obtain ⟨k, hk⟩ : ∃ k : Nat, xm h 173 98 = (k : Int) := ⟨(xm h 173 98).toNat, by omega⟩
  have i1 : xia h 0 245 (k : Int) = true := ia_245 b1 (by omega) (by omega)
  refine ⟨xset (xset h 245 k c) 173 98 ((k + 1 : Nat) : Int), ?_, ⟨⟨(b1.set fx245).set (by decide +kernel), ?_, ?_, b4⟩, ?_⟩, ((Fx.refl DQ h).set rfl).set rfl⟩
  · have w1 : w32 ((k : Int) + 1) = ((k + 1 : Nat) : Int) := by rw [w32_id (by omega) (by omega)]; omega
    unfold f_X12_qCode
    simp (disch := omega) only [↓reduceIte, ↓bbind, ↓bxgf, ↓bxpf, ↓bxal, ↓bxas, ↓bxrc, ↓exrc, xbo, xok_xset, xia_xset, xln_xset, xm_xset, xok_xarr, xia_xarr, xln_xarr, xm_xarr, Option.bind_some, Int.reduceToNat, Nat.reduceEqDiff, Nat.reduceSub, Int.reduceLT, Int.reduceLE, Int.reduceEq, Int.reduceNeg, if_true, if_false, ite_true, ite_false, true_and, and_true, false_and, and_false, eq_self, reduceIte, Bool.false_eq_true, Nat.reduceBEq, reduceCtorEq, or_true, true_or, or_false, false_or, xel, Int.toNat_natCast, Int.toNat_add, Int.toNat_mul, ok_173 b1, pt_173_97 b1, hk, i1, w1]
  · rw [xm_xset, if_neg (by omega), xm_xset, if_neg (by omega)]; exact b2
  · rw [xm_xset, if_neg (by omega), xm_xset, if_neg (by omega)]; exact b3
  · rw [xm_xset, if_pos ⟨rfl, rfl⟩]
    omega
theorem bq_ends {h : xa_H} {e : Nat × Nat} {n : Int} (B : Bq h e n) : f_X12_qEndsPart 173 h = some h := by
  have e0 : f_X12_qEndsPart_L0 173 h = some (.inr h) := by
    unfold f_X12_qEndsPart_L0
    rw [gM B.1.1, B.1.2.1, if_neg (by have := B.1.2.2.2; omega)]
  unfold f_X12_qEndsPart
  rw [xit_end (f := fun s => f_X12_qEndsPart_L0 173 s) e0 (by unfold xFU; omega)]
  rfl
theorem bq_mono {h : xa_H} {e : Nat × Nat} {n m : Int} (B : Bq h e n) (hm : n ≤ m) : Bq h e m := ⟨B.1, B.2.1, by have := B.2.2; omega⟩
def pTd (T : Nat → Int) (L : Nat) (q : Bool) (b D : Nat) (h : xa_H) (f : Option xa_H) (R : pR) (p : Nat) : Prop :=
  (∃ h' σ' d' s', f = some h' ∧ Mx T L q b h' σ' d' s' ∧ Fm b h h' ∧ R = KS T L q σ' d' s' ∧ Gd b D σ' d' s' ∧ noU σ' ∧ p < s'.1)
  ∨ (∃ h' e, f = some h' ∧ R = .inr e ∧ Bq h' e 1601 ∧ Fx DQ h h')
theorem s_prim {T : Nat → Int} {L : Nat} {q : Bool} {b D : Nat} (hD : D ≤ 6) {σ : List Int} {h : xa_H} {d : Nat} {s : pS} (M : Mx T L q b h σ d s) (G : Gd b D σ d s) (n1 : ¬ pG T L s 40 = true) (n2 : ¬(pW T L s = 21 ∨ pW T L s = 22)) (n3 : ¬(q = true ∧ pW T L s = 14)) : pTd T L q b D h (f_X12_qPartTold_J186 173 h) (bd (part T L q d s) (KS T L q σ d)) s.1 := by
  obtain ⟨G1, G2, G3, G4⟩ := G
  have lL := mx_L M
  have S := mx_S M
  have hr := M.2.2.2.2.2.2.2.1
  have w08 : f_X12_qWordOf 173 0 8 h = some (match pF q (pW T L s) with | none => -1 | some c => c - 40, xset h 173 2 (s.1 : Int)) := s_word08 (q := q) M.1 hr
  obtain ⟨k1, k2, k3, k4⟩ := mx_look M
  obtain ⟨H, hH⟩ : ∃ H, H = xset h 173 2 (s.1 : Int) := ⟨_, rfl⟩
  rw [← hH] at k1 k2 k3 k4 w08
  have S2 := mx_S k2
  rw [pt_prim n1 n2 n3]
  -- a code behind a token
  have fin : ∀ (g : xa_H) (c : Int), s.1 < L → Mx T L q b g σ d (pN T L s) → Fm b h g → pTd T L q b D h (f_X12_qPartTold_J237 173 173 c g) (bd (.inl (pU (pN T L s) c)) (KS T L q σ d)) s.1 := by
    intro g c sl Mg Fg
    have u1 := pN_lt (T := T) sl
    obtain ⟨g1, e1, M1, F1⟩ := mx_code Mg (by rw [pM_len]; omega) c
    obtain ⟨h', σ', d', s', a1, a2, a3, a4, a5, a6, a7, a8, a9, a10, a11⟩ := s_endsPart M1 G2 (by omega)
    rw [pU_len, pM_len] at a11
    change s'.1 = (pN T L s).1 at a9
    refine Or.inl ⟨h', σ', d', s', ?_, a2, (Fg.tr F1).tr a3, a4 _ _ _, ⟨a7 G1, fun v hv => G2 v (a8 v hv), by omega, by omega⟩, a5, by omega⟩
    unfold f_X12_qPartTold_J237
    rw [xM (mx_S Mg), e1, bbind, xM (mx_S M1), a1]
    rfl
  have start : f_X12_qPartTold_J186 173 h = if (match pF q (pW T L s) with | none => (-1 : Int) | some c => c - 40) = -1 then f_X12_qPartTold_J212 173 (match pF q (pW T L s) with | none => -1 | some c => c - 40) H else (xrc H 12 173 (f_X12_qAsksWord 173 (match pF q (pW T L s) with | none => -1 | some c => c - 40) H)).bind fun r42 => f_X12_qPartTold_J212 173 (match pF q (pW T L s) with | none => -1 | some c => c - 40) r42 := by
    unfold f_X12_qPartTold_J186
    rw [gM S, mx_bad M, if_pos rfl, xM S, w08, bbind]
  rw [start]
  unfold prim
  cases hF : pF q (pW T L s) with
  | some c =>
    obtain ⟨f1, f2, f3⟩ := pF_some hF
    have nk : ¬ tk_k T L s.1 s.2.1 = 2 := by
      refine pW_k fun z => ?_
      rw [z] at hF
      cases q <;> simp [pF] at hF
    rw [if_neg nk]
    dsimp only
    have hm : ∃ w : Nat, (c - 40, w) ∈ wcd ∧ pW T L s = (w : Int) := by
      have key : ∀ q : Bool, ∀ w : Nat, w < 29 → ∀ c : Int, pF q (w : Int) = some c → (c - 40, w) ∈ wcd := by
        intro q w hw c hc
        have t : ∀ q : Bool, ∀ w : Nat, w < 29 → (match pF q (w : Int) with | none => true | some c => decide ((c - 40, w) ∈ wcd)) = true := by decide +kernel
        have := t q w hw
        rw [hc] at this
        simpa using this
      rcases tk_w_r (T := T) (L := L) (p := s.1) (b := s.2.1) with e | ⟨w, hw, e⟩
      · change pW T L s = -1 at e
        rw [e] at hF
        cases q <;> simp [pF] at hF
      · change pW T L s = (w : Int) at e
        rw [e] at hF
        exact ⟨w, key q w hw c hF, e⟩
    obtain ⟨w, hm1, hm2⟩ := hm
    obtain ⟨g, e1, F1, R1⟩ := s_asksW k2.1 hm1 hm2
    have u1 := pN_lt (T := T) f1
    have Mg : Mx T L q b g σ d (pN T L s) := mx_lex k2 F1 R1 (by have := u1.1; show s.1 ≤ (pN T L s).1; omega)
    rw [if_neg (show ¬ c - 40 = -1 by omega), xM S2, e1, bbind]
    unfold f_X12_qPartTold_J212
    have c1 : w32 (40 + (c - 40)) = c := by rw [w32_id (by omega) (by omega)]; omega
    rw [if_neg (show ¬ c - 40 = -1 by omega), c1]
    exact fin g c f1 Mg (k4.tr (DB_DQ F1))
  | none =>
    dsimp only
    rw [if_pos rfl]
    unfold f_X12_qPartTold_J212
    rw [if_pos rfl]
    obtain ⟨v, g, e1, F1, o⟩ := s_number k2.1 9999
    rw [xM S2, e1, bbind]
    rcases o with ⟨o1, o2, rfl, R1⟩ | ⟨er, o1, B1⟩
    · have kd := (tk_k_n.mp o2).2
      have vb := tk_v_b kd
      have sl := (tk_di.mp kd).1
      have u1 := pN_lt (T := T) sl
      have Mg : Mx T L q b g σ d (pN T L s) := mx_lex k2 F1 R1 (by have := u1.1; show s.1 ≤ (pN T L s).1; omega)
      have l4 : ¬ 4 < tk_de T L s.1 - s.1 := by
        unfold nFt at o1
        rw [if_pos o2] at o1
        intro z
        rw [if_pos z] at o1
        cases o1
      rw [if_pos o2, if_neg l4]
      have c1 : w32 (1000 + tk_v T L s.1) = 1000 + tk_v T L s.1 := w32_id (by omega) (by omega)
      dsimp only
      rw [c1]
      exact fin g _ sl Mg (k4.tr (DB_DQ F1))
    · have c98 : xm g 173 98 = (s.2.2.length : Int) := (F1.2.2.2 _ _ rfl).trans k2.2.1.1
      have Bg : Bq g er 1600 := ⟨B1, by omega, by omega⟩
      obtain ⟨g2, e2, B2, F2⟩ := bq_code Bg (by omega) (w32 (1000 + v))
      have er_eq : (if tk_k T L s.1 s.2.1 = 2 then (if 4 < tk_de T L s.1 - s.1 then Sum.inr (1, s.1 + 4) else Sum.inl (pU (pN T L s) (1000 + tk_v T L s.1))) else Sum.inr (1, s.1) : pR) = .inr er := by
        unfold nFt at o1
        by_cases z : tk_k T L s.1 s.2.1 = 2
        · rw [if_pos z] at o1 ⊢
          by_cases y : 4 < tk_de T L s.1 - s.1
          · rw [if_pos y] at o1 ⊢
            cases o1
            rfl
          · have vb := tk_v_b (tk_k_n.mp z).2
            rw [if_neg y, if_neg (by omega)] at o1
            cases o1
        · rw [if_neg z] at o1 ⊢
          cases o1
          rfl
      rw [er_eq, bd_r]
      refine Or.inr ⟨g2, er, ?_, rfl, B2, (k4.1.tr (DB_DQ (b := 0) F1).1).tr F2⟩
      unfold f_X12_qPartTold_J237
      dsimp only
      rw [xM Bg.1.1, e2, bbind, xM B2.1.1, bq_ends B2]
      rfl
theorem s_partTold {T : Nat → Int} {L : Nat} {q : Bool} {b D : Nat} (hD : D ≤ 6) {σ : List Int} {h : xa_H} {d : Nat} {s : pS} (M : Mx T L q b h σ d s) (G : Gd b D σ d s) : pTd T L q b D h (f_X12_qPartTold 173 h) (bd (part T L q d s) (KS T L q σ d)) s.1 := by
  have lL := mx_L M
  unfold f_X12_qPartTold
  rcases s_partL hD L σ d s h (by omega) M G xFU (by unfold xFU; omega) with ⟨h1, σ1, d1, s1, a1, M1, F1, k1, G1, l1, z1, z2, z3⟩ | ⟨h1, er, a1, k1, B1, F1⟩
  · rw [a1, bbind, k1]
    rcases s_prim hD M1 G1 z1 z2 z3 with ⟨h', σ', d', s', c1, c2, c3, c4, c5, c6, c7⟩ | ⟨h', e', c1, c2, c3, c4⟩
    · exact Or.inl ⟨h', σ', d', s', c1, c2, F1.tr c3, c4, c5, c6, by omega⟩
    · exact Or.inr ⟨h', e', c1, c2, c3, F1.1.tr c4⟩
  · rw [a1, bbind]
    refine Or.inr ⟨h1, er, ?_, k1, bq_mono B1 (by omega), F1⟩
    unfold f_X12_qPartTold_J186
    rw [gM B1.1.1, B1.1.2.1, if_neg (by have := B1.1.2.2.2; omega)]
/-! ===== a sum ===== -/
def sTd (T : Nat → Int) (L : Nat) (q : Bool) (b D : Nat) (h : xa_H) (f : Option xa_H) (R : pR) (p : Nat) : Prop :=
  (∃ h' σ' d' s', f = some h' ∧ Mx T L q b h' σ' d' s' ∧ Fm b h h' ∧ R = .inl (dr2 (dr1 (σ', s'))).2 ∧ (dr2 (dr1 (σ', s'))).1 = [] ∧ Gd b D σ' d' s' ∧ noU σ' ∧ p < s'.1)
  ∨ (∃ h' e, f = some h' ∧ R = .inr e ∧ Bq h' e 1601 ∧ Fx DQ h h')
theorem sumsL_bad {h : xa_H} {e : Nat × Nat} {n : Int} (B : Bq h e n) (c v : Int) : f_X12_qSums_L15 173 c v h = some (.inr h) := by
  unfold f_X12_qSums_L15
  by_cases z : v = 0
  · rw [if_pos z]
  · rw [if_neg z, gM B.1.1, B.1.2.1, if_neg (by have := B.1.2.2.2; omega)]
theorem s_sumsL {T : Nat → Int} {L : Nat} {q : Bool} {b D : Nat} (hD : D ≤ 6) (c : Int) : ∀ (n : Nat) (σ : List Int) (d : Nat) (s : pS) (h : xa_H), L - s.1 ≤ n → Mx T L q b h σ d s → Gd b D σ d s → ∀ fu, n + 2 < fu → sTd T L q b D h (xit (fun s => f_X12_qSums_L15 173 c s.1 s.2) fu (1, h)) (bd (part T L q d s) (KS T L q σ d)) s.1 := by
  intro n
  induction n with
  | zero =>
    intro σ d s h hn M G fu hf
    have lL := mx_L M
    have S := mx_S M
    rcases s_partTold hD M G with ⟨h1, σ1, d1, s1, a1, M1, F1, k1, G1, u1, l1⟩ | ⟨h1, er, a1, k1, B1, F1⟩
    · have := mx_L M1
      omega
    · have e : f_X12_qSums_L15 173 c 1 h = some (.inl (0, h1)) := by
        unfold f_X12_qSums_L15
        rw [if_neg one_ne, gM S, mx_bad M, if_pos rfl, xM S, a1, bbind, gM B1.1.1, B1.1.2.1, if_neg (by have := B1.1.2.2.2; omega)]
      obtain ⟨fu, rfl⟩ : ∃ y, fu = y + 1 := ⟨fu - 1, by omega⟩
      rw [xit_go (f := fun s => f_X12_qSums_L15 173 c s.1 s.2) e, xit_end (f := fun s => f_X12_qSums_L15 173 c s.1 s.2) (sumsL_bad B1 c 0) (by omega)]
      exact Or.inr ⟨h1, er, rfl, k1, B1, F1⟩
  | succ n ih =>
    intro σ d s h hn M G fu hf
    have lL := mx_L M
    have S := mx_S M
    obtain ⟨fu, rfl⟩ : ∃ y, fu = y + 1 := ⟨fu - 1, by omega⟩
    rcases s_partTold hD M G with ⟨h1, σ1, d1, s1, a1, M1, F1, k1, G1, u1, l1⟩ | ⟨h1, er, a1, k1, B1, F1⟩
    · have S1 := mx_S M1
      rw [k1]
      rcases s_goesOn hD M1 G1 u1 with ⟨h2, σ2, d2, s2, c1, M2, F2, k2, G2, l2⟩ | ⟨h2, σ2, d2, s2, c1, M2, F2, k2, k3, G2, u2, lx⟩ | ⟨h2, er, c1, k2, B2, F2⟩
      · have e : f_X12_qSums_L15 173 c 1 h = some (.inl (1, h2)) := by
          unfold f_X12_qSums_L15
          rw [if_neg one_ne, gM S, mx_bad M, if_pos rfl, xM S, a1, bbind, gM S1, mx_bad M1, if_pos rfl, xM S1, c1, bbind, if_neg one_ne]
        rw [xit_go (f := fun s => f_X12_qSums_L15 173 c s.1 s.2) e, k2]
        rcases ih σ2 d2 s2 h2 (by omega) M2 G2 fu (by omega) with ⟨h', σ', d', s', y1, y2, y3, y4, y5, y6, y7, y8⟩ | ⟨h', e', y1, y2, y3, y4⟩
        · exact Or.inl ⟨h', σ', d', s', y1, y2, (F1.tr F2).tr y3, y4, y5, y6, y7, by omega⟩
        · exact Or.inr ⟨h', e', y1, y2, y3, (F1.tr F2).1.tr y4⟩
      · have e : f_X12_qSums_L15 173 c 1 h = some (.inl (0, h2)) := by
          unfold f_X12_qSums_L15
          rw [if_neg one_ne, gM S, mx_bad M, if_pos rfl, xM S, a1, bbind, gM S1, mx_bad M1, if_pos rfl, xM S1, c1, bbind, if_pos rfl]
        have l2 : s.1 < s2.1 := by omega
        rw [xit_go (f := fun s => f_X12_qSums_L15 173 c s.1 s.2) e, xit_end (f := fun s => f_X12_qSums_L15 173 c s.1 s.2) (e := h2) (by show f_X12_qSums_L15 173 c 0 h2 = _; unfold f_X12_qSums_L15; rw [if_pos rfl]) (by omega)]
        exact Or.inl ⟨h2, σ2, d2, s2, rfl, M2, F1.tr F2, k2, k3, G2, u2, l2⟩
      · have e : f_X12_qSums_L15 173 c 1 h = some (.inl (0, h2)) := by
          unfold f_X12_qSums_L15
          rw [if_neg one_ne, gM S, mx_bad M, if_pos rfl, xM S, a1, bbind, gM S1, mx_bad M1, if_pos rfl, xM S1, c1, bbind, if_pos rfl]
        rw [xit_go (f := fun s => f_X12_qSums_L15 173 c s.1 s.2) e, xit_end (f := fun s => f_X12_qSums_L15 173 c s.1 s.2) (e := h2) (by show f_X12_qSums_L15 173 c 0 h2 = _; unfold f_X12_qSums_L15; rw [if_pos rfl]) (by omega)]
        exact Or.inr ⟨h2, er, rfl, k2, bq_mono B2 (by omega), F1.1.tr F2⟩
    · have e : f_X12_qSums_L15 173 c 1 h = some (.inl (0, h1)) := by
        unfold f_X12_qSums_L15
        rw [if_neg one_ne, gM S, mx_bad M, if_pos rfl, xM S, a1, bbind, gM B1.1.1, B1.1.2.1, if_neg (by have := B1.1.2.2.2; omega)]
      rw [xit_go (f := fun s => f_X12_qSums_L15 173 c s.1 s.2) e, xit_end (f := fun s => f_X12_qSums_L15 173 c s.1 s.2) (sumsL_bad B1 c 0) (by omega)]
      exact Or.inr ⟨h1, er, rfl, k1, B1, F1⟩
theorem dw_all {σ : List Int} {s : pS} (h : (dr2 (dr1 (σ, s))).1 = []) : dw (fun _ => true) σ s = dr2 (dr1 (σ, s)) := by
  have k2 : ∀ (σ : List Int) (s : pS), (dr2 (σ, s)).1 = [] → dw (fun _ => true) σ s = dr2 (σ, s) := by
    intro σ s h
    unfold dr2 at h ⊢
    cases σ with
    | nil => rfl
    | cons w σ =>
      dsimp only at h ⊢
      by_cases q : w = 1 ∨ w = 2 ∨ w = 11
      · rw [if_pos q] at h ⊢
        dsimp only at h
        subst h
        rfl
      · rw [if_neg q] at h
        cases h
  unfold dr1 at h ⊢
  cases σ with
  | nil => rfl
  | cons w σ =>
    dsimp only at h ⊢
    by_cases q : w = 3 ∨ w = 4 ∨ w = 10
    · rw [if_pos q] at h ⊢
      rw [dw_go rfl]
      exact k2 _ _ h
    · rw [if_neg q] at h ⊢
      exact k2 _ _ h
/-- a whole sum of the reference -/
theorem s_qSums {T : Nat → Int} {L : Nat} {q : Bool} {b : Nat} {σ : List Int} {h : xa_H} {d : Nat} {s : pS} (M : Mx T L q b h σ d s) (h10 : ∀ w ∈ σ, 10 ≤ w) (hs : s.2.2.length + b + σ.length ≤ s.1) :
    (∃ h' s', f_X12_qSums 173 h = some h' ∧ sumP T L q d s = .inl s' ∧ Mx T L q b h' σ d s' ∧ Fm (b + σ.length) h h' ∧ s'.2.2.length + b + σ.length ≤ s'.1 ∧ s.1 < s'.1)
    ∨ (∃ h' e, f_X12_qSums 173 h = some h' ∧ sumP T L q d s = .inr e ∧ Bq h' e 1601 ∧ Fx DQ h h') := by
  have lL := mx_L M
  have S := mx_S M
  obtain ⟨m1, ⟨m2, m3⟩, m4, m5, m6, m7, m8, m9, m10, m11⟩ := M
  have M : Mx T L q b h σ d s := ⟨m1, ⟨m2, m3⟩, m4, m5, m6, m7, m8, m9, m10, m11⟩
  have m : ∀ a k, a ≠ 173 ∨ k ≠ 102 → xm (xset h 173 102 ((b + σ.length : Nat) : Int)) a k = xm h a k := fun a k g => by rw [xm_xset, if_neg (by omega)]
  have M0 : Mx T L q (b + σ.length) (xset h 173 102 ((b + σ.length : Nat) : Int)) [] d s := by
    refine ⟨rx_dq m1 (by omega) (by omega) (by decide +kernel), ⟨?_, fun i hi => ?_⟩, ?_, True.intro, ?_, ?_, m8, ?_, by simp only [List.length_nil]; omega, ?_⟩
    · rw [m _ _ (by omega)]; exact m2
    · rw [m _ _ (by omega)]; exact m3 i hi
    · rw [m _ _ (by omega)]; exact m4
    · rw [xm_xset, if_pos ⟨rfl, rfl⟩]
    · rw [m _ _ (by omega)]; exact m7
    · rw [m _ _ (by omega)]; exact m9
    · rw [m _ _ (by omega)]
      cases σ with
      | nil => exact m11
      | cons w σ =>
        right
        have := m5.1
        rw [show b + (w :: σ).length - 1 = b + σ.length by simp only [List.length_cons]; omega, this]
        exact h10 w (List.mem_cons_self ..)
  have G0 : Gd (b + σ.length) d [] d s := ⟨True.intro, (fun w hw => by cases hw), rfl, by simp only [List.length_nil]; omega⟩
  have S0 := mx_S M0
  have k0 : bd (part T L q d s) (KS T L q [] d) = sumP T L q d s := KK_0
  have lp := s_sumsL m8 (b : Int) L [] d s _ (by omega) M0 G0 xFU (by unfold xFU; omega)
  rw [k0] at lp
  have hd : ∀ (g : xa_H) (f : Option xa_H), (xit (fun s => f_X12_qSums_L15 173 (b : Int) s.1 s.2) xFU (1, xset h 173 102 ((b + σ.length : Nat) : Int))) = some g → f_X12_qSums 173 h = (xit (fun s => f_X12_qSums_L53 173 (b : Int) s) xFU g).bind fun e19 => (xpf e19 12 102 173 (b : Int)).bind fun h20 => some h20 := by
    intro g f e
    unfold f_X12_qSums
    rw [gM S, gM S, m4, m6, pMf S, e, bbind]
  rcases lp with ⟨h1, σ1, d1, s1, a1, M1, F1, k1, k2, G1, u1, l1⟩ | ⟨h1, er, a1, k1, B1, F1⟩
  · left
    obtain ⟨h2, e2, M2, F2⟩ := dropw' (F := fun s => f_X12_qSums_L53 173 (b : Int) s) (P := fun _ => true) (fun h d s M => by
      have S := mx_S M
      show f_X12_qSums_L53 173 (b : Int) h = _
      unfold f_X12_qSums_L53
      rw [gM S, mx_bad M, if_pos rfl, gM S, gM S, M.2.2.1, M.2.2.2.2.1, if_neg (by simp)]) (fun h w σ d s M => by
      have S := mx_S M
      show f_X12_qSums_L53 173 (b : Int) h = _
      unfold f_X12_qSums_L53
      rw [gM S, mx_bad M, if_pos rfl, gM S, gM S, M.2.2.1, M.2.2.2.2.1, if_pos (by simp only [List.length_cons]; omega), if_pos rfl, xM S]) M1
    have dn := dr1_f (σ1, s1)
    have dn2 := dr2_f (dr1 (σ1, s1))
    have p1 := dr1_1 (x := (σ1, s1))
    have p2 := dr2_1 (x := dr1 (σ1, s1))
    rw [dw_all k2, k2] at M2
    rw [k2] at dn2
    obtain ⟨z, hz⟩ : ∃ z, z = (dr2 (dr1 (σ1, s1))).2 := ⟨_, rfl⟩
    rw [← hz] at M2 dn2 p2 k1
    dsimp only at dn p1
    have nz : nop ([] : List Int) = 0 := rfl
    obtain ⟨g1, g2, g3, g4⟩ := G1
    have d1d : d1 = d := by omega
    subst d1d
    have ll : z.2.2.length = s1.2.2.length + σ1.length := by
      have := dn2.2.2
      simp only [List.length_nil] at this
      omega
    have pz : z.1 = s1.1 := p2.1.trans p1.1
    obtain ⟨y1, ⟨y2, y3⟩, y4, y5, y6, y7, y8, y9, y10, y11⟩ := M2
    have FF := F1.tr F2
    have m' : ∀ a k, a ≠ 173 ∨ k ≠ 102 → xm (xset h2 173 102 (b : Int)) a k = xm h2 a k := fun a k g => by rw [xm_xset, if_neg (by omega)]
    have f246 : ∀ i, i < b + σ.length → xm (xset h2 173 102 (b : Int)) 246 i = xm h 246 i := fun i hi => by rw [m' _ _ (by omega), FF.2 i hi, m _ _ (by omega)]
    simp only [List.length_nil, Nat.add_zero] at y4
    refine ⟨xset h2 173 102 (b : Int), z, ?_, k1, ⟨rx_dq y1 (by omega) (by omega) (by decide +kernel), ⟨?_, fun i hi => ?_⟩, ?_, stk_mv σ (fun i g1 g2 => f246 i g2) m5, ?_, ?_, y8, ?_, by omega, ?_⟩, ⟨⟨FF.1.1, FF.1.2.1, FF.1.2.2.1, fun a k hd => ?_⟩, f246⟩, by omega, by omega⟩
    · rw [hd h1 none a1, e2, bbind, pMf y1.1]
    · rw [m' _ _ (by omega)]; exact y2
    · rw [m' _ _ (by omega)]; exact y3 i hi
    · rw [m' _ _ (by omega)]; exact y4
    · rw [xm_xset, if_pos ⟨rfl, rfl⟩]
    · rw [m' _ _ (by omega)]; exact y7
    · rw [m' _ _ (by omega)]; exact y9
    · by_cases bz : b = 0
      · exact Or.inl bz
      · rw [f246 _ (by omega)]
        exact m11
    · by_cases y : a = 173 ∧ k = 102
      · rw [y.1, y.2, xm_xset, if_pos ⟨rfl, rfl⟩, m6]
      · rw [m' _ _ (by omega), FF.1.2.2.2 a k hd, m _ _ (by omega)]
  · right
    have eb : f_X12_qSums_L53 173 (b : Int) h1 = some (.inr h1) := by
      unfold f_X12_qSums_L53
      rw [gM B1.1.1, B1.1.2.1, if_neg (by have := B1.1.2.2.2; omega)]
    have m' : ∀ a k, a ≠ 173 ∨ k ≠ 102 → xm (xset h1 173 102 (b : Int)) a k = xm h1 a k := fun a k g => by rw [xm_xset, if_neg (by omega)]
    refine ⟨xset h1 173 102 (b : Int), er, ?_, k1, ⟨⟨B1.1.1.set (by decide +kernel), ?_, ?_, B1.1.2.2.2⟩, ?_⟩, ⟨F1.1, F1.2.1, F1.2.2.1, fun a k hd => ?_⟩⟩
    · rw [hd h1 none a1, xit_end (f := fun s => f_X12_qSums_L53 173 (b : Int) s) eb (by unfold xFU; omega), bbind, pMf B1.1.1]
    · rw [m' _ _ (by omega)]; exact B1.1.2.1
    · rw [m' _ _ (by omega)]; exact B1.1.2.2.1
    · rw [m' _ _ (by omega)]; exact B1.2
    · by_cases y : a = 173 ∧ k = 102
      · rw [y.1, y.2, xm_xset, if_pos ⟨rfl, rfl⟩, m6]
      · rw [m' _ _ (by omega), F1.2.2.2 a k hd, m _ _ (by omega)]
