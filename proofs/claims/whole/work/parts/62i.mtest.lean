/-! ===== tests of the reference ===== -/
theorem bind_s {α : Type} (E : Option α) : (E.bind fun r => some r) = E := by cases E <;> rfl
def tsS (w : Int) : Prop := w = 12 ∨ w = 10 ∨ w = 11 ∨ w = 25
def KT (T : Nat → Int) (L : Nat) (q : Bool) (σ : List Int) (d : Nat) (s : pS) : pR := KK T L (fact T L q) (pA1 T L) (pA2 T L) σ d 0 s
def Gt (D : Nat) (σ : List Int) (d : Nat) (s : pS) : Prop := wf σ 0 ∧ (∀ w ∈ σ, tsS w) ∧ d + nop σ = D ∧ s.2.2.length + 0 + σ.length ≤ s.1
theorem ts10 {σ : List Int} (h : ∀ w ∈ σ, tsS w) : ∀ w ∈ σ, 10 ≤ w := fun w hw => by
  have := h w hw
  unfold tsS at this
  omega
theorem mx_code' {T : Nat → Int} {L : Nat} {q : Bool} {h : xa_H} {σ : List Int} {d : Nat} {s : pS} (M : Mx T L q 0 h σ d s) (hs : s.2.2.length + 0 + σ.length + 1 ≤ s.1) (c : Int) : ∃ h', f_X12_qCode 173 c h = some h' ∧ Mx T L q 0 h' σ d (pU s c) ∧ Fm 0 h h' ∧ (pU s c).2.2.length + 0 + σ.length ≤ (pU s c).1 := by
  obtain ⟨h', e1, e2, e3⟩ := mx_code M (by omega) c
  refine ⟨h', e1, e2, e3, ?_⟩
  rw [pU_len]
  show s.2.2.length + 1 + 0 + σ.length ≤ s.1
  omega
def fTd (T : Nat → Int) (L : Nat) (q : Bool) (h : xa_H) (σ : List Int) (d : Nat) (f : Option xa_H) (R : pR) (p : Nat) : Prop :=
  (∃ h' s', f = some h' ∧ R = .inl s' ∧ Mx T L q 0 h' σ d s' ∧ Fm 0 h h' ∧ s'.2.2.length + 0 + σ.length ≤ s'.1 ∧ p < s'.1)
  ∨ (∃ h' e, f = some h' ∧ R = .inr e ∧ Bq h' e 1602 ∧ Fx DQ h h')
theorem s_qFact {T : Nat → Int} {L : Nat} {q : Bool} {σ : List Int} {h : xa_H} {d : Nat} {s : pS} (M : Mx T L q 0 h σ d s) (h10 : ∀ w ∈ σ, 10 ≤ w) (hs : s.2.2.length + 0 + σ.length ≤ s.1) : fTd T L q h σ d (f_X12_qFact 173 h) (if pW T L s = 20 then .inl (pU (pN T L s) 13) else fcC T L (sumP T L q d) s) s.1 := by
  have lL := mx_L M
  have S := mx_S M
  have ta := s_takes M.1 (A := 234) (w := 20) (by decide +kernel) (by decide)
  have ta' : (pW T L s = 20 ∧ ∃ h', f_X12_takes 173 234 h = some (1, h') ∧ Rx T L h' (pN T L s).1 (pN T L s).2.1 ∧ Fx DB h h') ∨ (pW T L s ≠ 20 ∧ f_X12_takes 173 234 h = some (0, xset h 173 2 (s.1 : Int))) := ta
  unfold f_X12_qFact
  rw [gM S, pt_173_86 S]
  rcases ta' with ⟨w20, h1, e1, R1, F1⟩ | ⟨w20, e1⟩
  · have sl : s.1 < L := pW_lt (T := T) (L := L) (by omega)
    have n1 := pN_lt (T := T) sl
    have M1 : Mx T L q 0 h1 σ d (pN T L s) := mx_lex M F1 R1 (by have := n1.1; show s.1 ≤ (pN T L s).1; omega)
    obtain ⟨h2, e2, M2, F2, l2⟩ := mx_code' M1 (by rw [pM_len]; omega) 13
    rw [if_pos w20, xM S, e1, bbind, if_neg one_ne, xM (mx_S M1), e2]
    exact Or.inl ⟨h2, _, rfl, rfl, M2, (DB_DQ F1).tr F2, l2, by show s.1 < (pN T L s).1; omega⟩
  · have M1 : Mx T L q 0 (xset h 173 2 (s.1 : Int)) σ d s := mx_lex M rx_fx (rx_at M.1) (Nat.le_refl _)
    have F1 : Fm 0 h (xset h 173 2 (s.1 : Int)) := DB_DQ rx_fx
    rw [if_neg w20, xM S, e1, bbind, if_pos rfl, xM (mx_S M1)]
    unfold fcC
    rcases s_qSums M1 h10 hs with ⟨h2, s2, e2, k2, M2, F2, l2, p2⟩ | ⟨h2, er, e2, k2, B2, F2⟩
    · have S2 := mx_S M2
      obtain ⟨y1, y2, y3, y4⟩ := mx_look M2
      have F12 : Fm 0 h (xset h2 173 2 (s2.1 : Int)) := (F1.tr ⟨F2.1, fun i hi => by omega⟩).tr y4
      have S3 := mx_S y2
      rw [e2, k2, bd_l, bbind, gM S2, mx_bad M2, if_pos rfl, xM S2, y1, bbind]
      have J : ∀ (c cd : Int), pC T L s2 = some cd → (if c = 60 then (7 : Int) else if c = 62 then 8 else 9) = cd → tk_k T L s2.1 s2.2.1 = 3 → fTd T L q h σ d (f_X12_qFact_J63 173 c (xset h2 173 2 (s2.1 : Int))) (match pC T L s2 with
          | none => .inr (1, s2.1)
          | some c => bd (sumP T L q d (pN T L s2)) (fun s2 => .inl (pU s2 c))) s.1 := by
        intro c cd hc hcd hk
        have sl2 := (pC_some hc).1
        have n2 := pN_lt (T := T) sl2
        have lL2 := mx_L M2
        have R4 := rx_sg M2.1 hk
        have F4 : Fx DB h2 (xset h2 173 2 ((s2.1 + 1 : Nat) : Int)) := (Fx.refl DB h2).set rfl
        have M4 : Mx T L q 0 (xset h2 173 2 ((s2.1 + 1 : Nat) : Int)) σ d (pN T L s2) := mx_lex M2 F4 R4 (by have := n2.1; show s2.1 ≤ (pN T L s2).1; omega)
        have F04 : Fm 0 h (xset h2 173 2 ((s2.1 + 1 : Nat) : Int)) := (F1.tr ⟨F2.1, fun i hi => by omega⟩).tr (DB_DQ F4)
        have sx : (pN T L s2).2.2.length + 0 + σ.length ≤ (pN T L s2).1 := by rw [pM_len]; omega
        rw [hc]
        dsimp only
        have st : f_X12_qFact_J63 173 c (xset h2 173 2 (s2.1 : Int)) = (f_X12_qSums 173 (xset h2 173 2 ((s2.1 + 1 : Nat) : Int))).bind fun r11 => (f_X12_qCode 173 cd r11) := by
          have w1 : w32 ((s2.1 : Int) + 1) = ((s2.1 + 1 : Nat) : Int) := by rw [w32_id (by omega) (by omega)]; omega
          unfold f_X12_qFact_J63
          rw [gM S3, y3, w1, pMf S3, xset_xset, xM (mx_S M4)]
          rcases s_qSums M4 h10 sx with ⟨h5, s5, e5, -, M5, -⟩ | ⟨h5, er, e5, -, B5, -⟩
          · have S5 := mx_S M5
            rw [e5, bbind, bbind]
            by_cases z : c = 60
            · rw [if_pos z] at hcd ⊢
              rw [← hcd, xM S5]
              exact bind_s _
            · rw [if_neg z] at hcd ⊢
              by_cases z2 : c = 62
              · rw [if_pos z2] at hcd ⊢
                rw [← hcd, xM S5]
                exact bind_s _
              · rw [if_neg z2] at hcd ⊢
                rw [← hcd, xM S5]
                exact bind_s _
          · have S5 := B5.1.1
            rw [e5, bbind, bbind]
            by_cases z : c = 60
            · rw [if_pos z] at hcd ⊢
              rw [← hcd, xM S5]
              exact bind_s _
            · rw [if_neg z] at hcd ⊢
              by_cases z2 : c = 62
              · rw [if_pos z2] at hcd ⊢
                rw [← hcd, xM S5]
                exact bind_s _
              · rw [if_neg z2] at hcd ⊢
                rw [← hcd, xM S5]
                exact bind_s _
        rw [st]
        rcases s_qSums M4 h10 sx with ⟨h5, s5, e5, k5, M5, F5, l5, p5⟩ | ⟨h5, er, e5, k5, B5, F5⟩
        · have slx := (sumP_ok (T := T) (L := L) (q := q) d).sl k5 n2.2.1
          rw [pM_len] at slx
          obtain ⟨h6, e6, M6, F6, l6⟩ := mx_code' M5 (by omega) cd
          rw [e5, k5, bd_l, bbind, e6]
          exact Or.inl ⟨h6, _, rfl, rfl, M6, (F04.tr ⟨F5.1, fun i hi => by omega⟩).tr F6, l6, by show s.1 < s5.1; omega⟩
        · obtain ⟨h6, e6, B6, F6⟩ := bq_code B5 (by omega) cd
          rw [e5, k5, bd_r, bbind, e6]
          exact Or.inr ⟨h6, er, rfl, rfl, B6, (F04.1.tr F5).tr F6⟩
      by_cases g1 : pG T L s2 60 = true
      · have hc : pC T L s2 = some 7 := by unfold pC; rw [if_neg (pG_2 g1 (by decide)), if_pos g1]
        have lk : lkv T L s2.1 = 60 := (lkv_pG g60).mpr g1
        rw [if_pos lk]
        exact J _ 7 hc (by rw [lk]; rfl) (pG_i.mp g1).1
      · have lk : ¬ lkv T L s2.1 = 60 := fun z => g1 ((lkv_pG g60).mp z)
        rw [if_neg lk]
        by_cases g2 : pG T L s2 62 = true
        · have hc : pC T L s2 = some 8 := by unfold pC; rw [if_neg (pG_2 g2 (by decide)), if_neg g1, if_pos g2]
          have lk2 : lkv T L s2.1 = 62 := (lkv_pG g62).mpr g2
          rw [if_pos lk2]
          exact J _ 8 hc (by rw [lk2]; rfl) (pG_i.mp g2).1
        · have lk2 : ¬ lkv T L s2.1 = 62 := fun z => g2 ((lkv_pG g62).mp z)
          rw [if_neg lk2]
          by_cases g3 : pG T L s2 61 = true
          · have hc : pC T L s2 = some 9 := by unfold pC; rw [if_pos g3]
            have lk3 : lkv T L s2.1 = 61 := (lkv_pG g61).mpr g3
            rw [if_pos lk3]
            exact J _ 9 hc (by rw [lk3]; rfl) (pG_i.mp g3).1
          · have lk3 : ¬ lkv T L s2.1 = 61 := fun z => g3 ((lkv_pG g61).mp z)
            have hc : pC T L s2 = none := by unfold pC; rw [if_neg g3, if_neg g1, if_neg g2]
            have c98 : xm h2 173 98 = (s2.2.2.length : Int) := M2.2.1.1
            have lL2 := mx_L M2
            rw [if_neg lk3, hc, gM S3, y3, xM S3, s_fail S3 (mx_bad y2)]
            refine Or.inr ⟨_, (1, s2.1), rfl, rfl, ⟨bx_fail S3 1 s2.1 (by decide), ?_, ?_⟩, (F12.1.set rfl).set rfl⟩
            · rw [xm_xset, if_neg (by omega), xm_xset, if_neg (by omega), xm_xset, if_neg (by omega)]
              omega
            · rw [xm_xset, if_neg (by omega), xm_xset, if_neg (by omega), xm_xset, if_neg (by omega)]
              omega
    · rw [e2, k2, bd_r, bbind, gM B2.1.1, B2.1.2.1, if_neg (by have := B2.1.2.2.2; omega)]
      exact Or.inr ⟨h2, er, rfl, rfl, bq_mono B2 (by omega), F1.1.tr F2⟩
/-! ===== what a not, a bracket leave ===== -/
theorem s_nots {T : Nat → Int} {L : Nat} {q : Bool} : ∀ (σ : List Int) (h : xa_H) (d : Nat) (s : pS), Mx T L q 0 h σ d s → d + nop σ ≤ 6 → (∀ w ∈ σ, tsS w) → ∀ fu, σ.length < fu → ∃ h' σ' d' s', xit (fun s => f_X12_qDropsNots_L0 173 s) fu h = some h' ∧ Mx T L q 0 h' σ' d' s' ∧ Fm 0 h h' ∧ EP T L σ d s σ' d' s'
  | [], h, d, s, M, _, _, fu, hf => by
    have S := mx_S M
    have e : f_X12_qDropsNots_L0 173 h = some (.inr h) := by
      unfold f_X12_qDropsNots_L0
      rw [gM S, mx_bad M, if_pos rfl, xM S, mx_isOn M (by decide), bbind, show top1 h 0 [] = -1 from rfl, iff01, if_neg (by decide)]
    exact ⟨h, [], d, s, xit_end (f := fun s => f_X12_qDropsNots_L0 173 s) e (by omega), M, Fm.refl _ _, fun _ _ _ => rfl, (fun _ _ e => by cases e), rfl, id, fun _ hw => hw, rfl, rfl, rfl⟩
  | w :: σ, h, d, s, M, hn, ht, fu, hf => by
    have S := mx_S M
    simp only [List.length_cons] at hf
    have e0 : f_X12_qDropsNots_L0 173 h = if w = 12 then (xgf h 12 101 173).bind fun x5 => (xpf h 12 101 173 (w32 (x5 - 1))).bind fun h6 => (xrc h6 12 173 (f_X12_qDrops 173 h6)).bind fun r7 => some (Sum.inl r7) else some (Sum.inr h) := by
      unfold f_X12_qDropsNots_L0
      rw [gM S, mx_bad M, if_pos rfl, xM S, mx_isOn M (by decide), bbind, show top1 h 0 (w :: σ) = w from rfl, iff01]
    by_cases z : w = 12
    · subst z
      have nd : d + 1 + nop σ ≤ 6 := by
        rw [nop_op (by omega)] at hn
        omega
      have w1 : w32 (((6 - d : Nat) : Int) - 1) = ((6 - (d + 1) : Nat) : Int) := by rw [w32_id (by omega) (by omega)]; omega
      obtain ⟨o1, o2⟩ := mx_op M (d' := d + 1) (by omega)
      obtain ⟨g, e1, e2, e3⟩ := mx_drop o1
      rw [if_pos rfl, gM S, M.2.2.2.2.2.1, w1, pMf S, xM (mx_S o1), e1] at e0
      obtain ⟨fu, rfl⟩ : ∃ y, fu = y + 1 := ⟨fu - 1, by omega⟩
      obtain ⟨h', σ', d', s', a1, a2, a3, a4, a5, a6, a7, a8, a9, a10, a11⟩ := s_nots σ g (d + 1) (pU s 12) e2 nd (fun v hv => ht v (List.mem_cons_of_mem _ hv)) fu (by omega)
      refine ⟨h', σ', d', s', by rw [xit_go (f := fun s => f_X12_qDropsNots_L0 173 s) e0]; exact a1, a2, (o2.tr e3).tr a3, fun lf oa ob => ?_, a5, ?_, fun g => a7 (wf_un' g (Or.inr rfl)), fun v hv => List.mem_cons_of_mem _ (a8 v hv), a9, a10, ?_⟩
      · rw [KK_un (Or.inr rfl)]
        exact a4 lf oa ob
      · rw [a6, nop_op (by omega)]
        omega
      · rw [a11, pU_len]
        simp only [List.length_cons]
        omega
    · rw [if_neg z] at e0
      refine ⟨h, w :: σ, d, s, xit_end (f := fun s => f_X12_qDropsNots_L0 173 s) e0 (by omega), M, Fm.refl _ _, fun _ _ _ => rfl, (fun v σ' e => ?_), rfl, id, fun _ hw => hw, rfl, rfl, rfl⟩
      cases e
      have := ht w (List.mem_cons_self ..)
      unfold tsS at this
      omega
theorem s_dropsNots {T : Nat → Int} {L : Nat} {q : Bool} {σ : List Int} {h : xa_H} {d : Nat} {s : pS} (M : Mx T L q 0 h σ d s) (hn : d + nop σ ≤ 6) (ht : ∀ w ∈ σ, tsS w) : ∃ h' σ' d' s', f_X12_qDropsNots 173 h = some h' ∧ Mx T L q 0 h' σ' d' s' ∧ Fm 0 h h' ∧ EP T L σ d s σ' d' s' := by
  have hl := mx_len M
  obtain ⟨h', σ', d', s', e1, e2⟩ := s_nots σ h d s M hn ht xFU (by unfold xFU; omega)
  refine ⟨h', σ', d', s', ?_, e2⟩
  unfold f_X12_qDropsNots
  rw [e1]
  rfl
theorem stk_mem {h : xa_H} (c : Int) : ∀ (σ : List Int), stk h 0 σ → (c ∈ σ ↔ ∃ j, j < σ.length ∧ xm h 246 j = c)
  | [], _ => by simp
  | w :: σ, g => by
    have ih := stk_mem c σ g.2
    have g1 := g.1
    rw [Nat.zero_add] at g1
    rw [List.mem_cons, ih]
    constructor
    · rintro (rfl | ⟨j, h1, h2⟩)
      · exact ⟨σ.length, by simp, g1⟩
      · exact ⟨j, by simp only [List.length_cons]; omega, h2⟩
    · rintro ⟨j, h1, h2⟩
      simp only [List.length_cons] at h1
      by_cases z : j = σ.length
      · left
        rw [← h2, z, g1]
      · exact Or.inr ⟨j, by omega, h2⟩
theorem s_hasSq {T : Nat → Int} {L : Nat} {q : Bool} {σ : List Int} {h : xa_H} {d : Nat} {s : pS} (M : Mx T L q 0 h σ d s) : f_X12_qHasSquare 173 h = some (if 25 ∈ σ then 1 else 0) := by
  have S := mx_S M
  have hl := mx_len M
  have m4 := M.2.2.1
  simp only [Nat.zero_add] at m4 hl
  have hm := stk_mem 25 σ M.2.2.2.1
  obtain ⟨e, e1, e2⟩ := xit_inv (f := fun s => f_X12_qHasSquare_L2 173 h s) (fun s => ∃ j : Nat, s = (j : Int) ∧ j ≤ σ.length ∧ ∀ i, i < j → xm h 246 i ≠ 25) (fun s => σ.length - s.toNat)
    (fun e => (e = .inr () ∧ ∀ j, j < σ.length → xm h 246 j ≠ 25) ∨ (e = .inl 1 ∧ ∃ j, j < σ.length ∧ xm h 246 j = 25)) 0 ⟨0, rfl, by omega, fun i hi => by omega⟩ (by omega) (fun s hs => by
    obtain ⟨j, rfl, hj, hall⟩ := hs
    by_cases z : j < σ.length
    · have i1 : xia h 0 246 (j : Int) = true := ia_246 S (by omega) (by omega)
      have e0 : f_X12_qHasSquare_L2 173 h (j : Int) = if xm h 246 j = 25 then some (.inr (.inl 1)) else some (.inl (w32 ((j : Int) + 1))) := by
        unfold f_X12_qHasSquare_L2
        rw [gM S, m4, if_pos (by omega), gM S, pt_173_99 S, bxal, if_pos i1]
        rfl
      by_cases y : xm h 246 j = 25
      · rw [if_pos y] at e0
        exact Or.inr ⟨_, e0, Or.inr ⟨rfl, j, z, y⟩⟩
      · rw [if_neg y, w32_id (by omega) (by omega)] at e0
        refine Or.inl ⟨_, e0, ⟨j + 1, by omega, by omega, fun i hi => ?_⟩, by omega⟩
        by_cases x : i = j
        · rw [x]; exact y
        · exact hall i (by omega)
    · refine Or.inr ⟨.inr (), ?_, Or.inl ⟨rfl, fun i hi => hall i (by omega)⟩⟩
      show f_X12_qHasSquare_L2 173 h (j : Int) = _
      unfold f_X12_qHasSquare_L2
      rw [gM S, m4, if_neg (by omega)])
  unfold f_X12_qHasSquare
  rw [e1, bbind]
  rcases e2 with ⟨rfl, g⟩ | ⟨rfl, g⟩
  · rw [if_neg (fun y => by obtain ⟨j, h1, h2⟩ := hm.mp y; exact g j h1 h2)]
    rfl
  · rw [if_pos (hm.mpr g)]
    rfl
/-- a bracket waits, if anything is left below the operations -/
theorem sq_iff {σ : List Int} {s : pS} (h : wf σ 0) (hu : noU σ) (ht : ∀ w ∈ σ, tsS w) : (25 ∈ σ ↔ ∃ σ', (dr2 (dr1 (σ, s))).1 = 25 :: σ') ∧ (25 ∉ σ ↔ (dr2 (dr1 (σ, s))).1 = []) := by
  have w2 := wf_dr2 (s := (dr1 (σ, s)).2) (wf_dr1 (s := s) h hu)
  change wf (dr2 (dr1 (σ, s))).1 2 at w2
  have mem : ∀ w ∈ (dr2 (dr1 (σ, s))).1, w ∈ σ := fun w hw => (dr1_f (σ, s)).2.1 w ((dr2_f (dr1 (σ, s))).2.1 w hw)
  have back : (dr2 (dr1 (σ, s))).1 = [] → 25 ∉ σ := by
    intro e
    unfold dr1 at e
    cases σ with
    | nil => simp
    | cons w σ =>
      have k2 : ∀ (σ : List Int) (s : pS), (dr2 (σ, s)).1 = [] → 25 ∉ σ := by
        intro σ s e
        unfold dr2 at e
        cases σ with
        | nil => simp
        | cons w σ =>
          dsimp only at e
          by_cases q : w = 1 ∨ w = 2 ∨ w = 11
          · rw [if_pos q] at e
            dsimp only at e
            subst e
            simp
            omega
          · rw [if_neg q] at e
            cases e
      dsimp only at e
      by_cases q : w = 3 ∨ w = 4 ∨ w = 10
      · rw [if_pos q] at e
        have := k2 _ _ e
        simp only [List.mem_cons, not_or]
        exact ⟨by omega, this⟩
      · rw [if_neg q] at e
        exact k2 _ _ e
  cases e : (dr2 (dr1 (σ, s))).1 with
  | nil =>
    have := back e
    simp [this]
  | cons w σ' =>
    rw [e] at w2 mem
    have w3 := (wf_2 w2).1
    have w4 := ht w (mem w (List.mem_cons_self ..))
    unfold tsS at w4
    have : w = 25 := by omega
    subst this
    have m25 : (25 : Int) ∈ σ := mem 25 (List.mem_cons_self ..)
    simp [m25]
