/-! ===== what opens ahead of a part ===== -/
theorem one_lt {w : Int} (h : w = 21 ∨ w = 22) : smS w := by unfold smS; omega
/-- the reading comes to a part that opens nothing -/
def pOn (T : Nat → Int) (L : Nat) (q : Bool) (b D : Nat) (h : xa_H) (f : Option xa_H) (R : pR) (p : Nat) : Prop :=
  (∃ h' σ' d' s', f = some h' ∧ Mx T L q b h' σ' d' s' ∧ Fm b h h' ∧ R = bd (part T L q d' s') (KS T L q σ' d') ∧ Gd b D σ' d' s' ∧ p ≤ s'.1 ∧ ¬ pG T L s' 40 = true ∧ ¬(pW T L s' = 21 ∨ pW T L s' = 22) ∧ ¬(q = true ∧ pW T L s' = 14))
  ∨ (∃ h' e, f = some h' ∧ R = .inr e ∧ Bq h' e 1600 ∧ Fx DQ h h')
theorem bq_set2 {h : xa_H} {e : Nat × Nat} {n v : Int} (B : Bq h e n) : Bq (xset h 173 2 v) e n := by
  obtain ⟨⟨b1, b2, b3, b4⟩, b5⟩ := B
  refine ⟨⟨b1.set (by decide +kernel), ?_, ?_, b4⟩, ?_⟩
  · rw [xm_xset, if_neg (by omega)]; exact b2
  · rw [xm_xset, if_neg (by omega)]; exact b3
  · rw [xm_xset, if_neg (by omega)]; exact b5
theorem partL_bad {h : xa_H} (S : SH h) {e : Nat × Nat} {n : Int} (B : Bq h e n) (v : Int) : f_X12_qPartTold_L2 173 v h = some (.inr h) := by
  unfold f_X12_qPartTold_L2
  by_cases z : v = 0
  · rw [if_pos z]
  · rw [if_neg z, gM S, B.1.2.1, if_neg (by have := B.1.2.2.2; omega)]
theorem s_asksBad {h : xa_H} {e : Nat × Nat} {n : Int} (B : Bq h e n) (c : Int) : f_X12_asksSign 173 c h = some h := by
  unfold f_X12_asksSign
  rw [gM B.1.1, B.1.2.1, if_neg (by have := B.1.2.2.2; omega)]
theorem s_asksBadW {h : xa_H} {e : Nat × Nat} {n : Int} (B : Bq h e n) (c : Int) : f_X12_asks 173 c h = some h := by
  unfold f_X12_asks
  rw [gM B.1.1, B.1.2.1, if_neg (by have := B.1.2.2.2; omega)]
theorem s_asksWBad {h : xa_H} {e : Nat × Nat} {n : Int} (B : Bq h e n) (k : Int) : f_X12_qAsksWord 173 k h = some h := by
  have S := B.1.1
  unfold f_X12_qAsksWord
  simp only [gM S, xM S, s_asksBadW B, bbind]
  repeat' split
  all_goals rfl
theorem nop_op {c : Int} {σ : List Int} (h : c = 60 ∨ c = 12 ∨ 20 ≤ c ∧ c ≤ 25) : nop (c :: σ) = 1 + nop σ := by
  conv => lhs; unfold nop
  rw [if_pos h]
theorem s_partL {T : Nat → Int} {L : Nat} {q : Bool} {b D : Nat} (hD : D ≤ 6) : ∀ (n : Nat) (σ : List Int) (d : Nat) (s : pS) (h : xa_H), L - s.1 ≤ n → Mx T L q b h σ d s → Gd b D σ d s → ∀ fu, n + 2 < fu → pOn T L q b D h (xit (fun s => f_X12_qPartTold_L2 173 s.1 s.2) fu (1, h)) (bd (part T L q d s) (KS T L q σ d)) s.1 := by
  intro n
  induction n with
  | zero =>
    intro σ d s h hn M G fu hf
    have lL := mx_L M
    have S := mx_S M
    obtain ⟨k1, k2, k3, k4⟩ := mx_look M
    have S2 := mx_S k2
    have hr := M.2.2.2.2.2.2.2.1
    have hr2 := k2.2.2.2.2.2.2.2.1
    have nG : ∀ c, ¬ pG T L s c = true := fun c g => by have := pG_lt g; omega
    have nW : pW T L s = -1 := by
      by_cases z : pW T L s = -1
      · exact z
      · have := pW_lt z; omega
    have w89 := s_word89 (q := q) (rx_at M.1) hr2
    rw [xset_xset] at w89
    have h21 : f_X12_isHere 173 235 (xset h 173 2 (s.1 : Int)) = some (if pW T L s = 21 then 1 else 0, xset h 173 2 (s.1 : Int)) := hereH M.1 (A := 235) (w := 21) (by decide +kernel) (by decide)
    have h22 : f_X12_isHere 173 236 (xset h 173 2 (s.1 : Int)) = some (if pW T L s = 22 then 1 else 0, xset h 173 2 (s.1 : Int)) := hereH M.1 (A := 236) (w := 22) (by decide +kernel) (by decide)
    have e : f_X12_qPartTold_L2 173 1 h = some (.inl (0, xset h 173 2 (s.1 : Int))) := by
      have nw14 : ¬(q = true ∧ tk_w T L s.1 s.2.1 = 14) := fun z => by
        have := z.2
        change pW T L s = 14 at this
        omega
      unfold f_X12_qPartTold_L2
      rw [if_neg one_ne, gM S, mx_bad M, if_pos rfl, xM S, k1, bbind, xM S2, w89, bbind, if_neg (fun z => nG 40 ((lkv_pG g40s).mp z)), gM S2, pt_173_87 S2, xM S2, h21, bbind, iff01, if_neg (by omega), gM S2, pt_173_88 S2, xM S2, h22, bbind, iff01, if_neg (by omega), if_neg nw14, if_pos rfl]
    obtain ⟨fu, rfl⟩ : ∃ y, fu = y + 1 := ⟨fu - 1, by omega⟩
    refine Or.inl ⟨_, σ, d, s, ?_, k2, k4, rfl, G, Nat.le_refl _, nG 40, by omega, fun z => by omega⟩
    rw [xit_go (f := fun s => f_X12_qPartTold_L2 173 s.1 s.2) e]
    exact xit_end (by show f_X12_qPartTold_L2 173 0 _ = _; unfold f_X12_qPartTold_L2; rw [if_pos rfl]) (by omega)
  | succ n ih =>
    intro σ d s h hn M G fu hf
    obtain ⟨G1, G2, G3, G4⟩ := G
    have G : Gd b D σ d s := ⟨G1, G2, G3, G4⟩
    have lL := mx_L M
    have S := mx_S M
    obtain ⟨k1, k2, k3, k4⟩ := mx_look M
    have S2 := mx_S k2
    have hr2 := k2.2.2.2.2.2.2.2.1
    have d6 := M.2.2.2.2.2.2.1
    obtain ⟨fu, rfl⟩ : ∃ y, fu = y + 1 := ⟨fu - 1, by omega⟩
    have w89 := s_word89 (q := q) (rx_at M.1) hr2
    rw [xset_xset] at w89
    change f_X12_qWordOf 173 8 9 (xset h 173 2 (s.1 : Int)) = some (if q = true ∧ pW T L s = 14 then 8 else -1, xset h 173 2 (s.1 : Int)) at w89
    have h21 : f_X12_isHere 173 235 (xset h 173 2 (s.1 : Int)) = some (if pW T L s = 21 then 1 else 0, xset h 173 2 (s.1 : Int)) := hereH M.1 (A := 235) (w := 21) (by decide +kernel) (by decide)
    have h22 : f_X12_isHere 173 236 (xset h 173 2 (s.1 : Int)) = some (if pW T L s = 22 then 1 else 0, xset h 173 2 (s.1 : Int)) := hereH M.1 (A := 236) (w := 22) (by decide +kernel) (by decide)
    obtain ⟨H, hH⟩ : ∃ H, H = xset h 173 2 (s.1 : Int) := ⟨_, rfl⟩
    rw [← hH] at k1 k2 k3 k4 S2 hr2 w89 h21 h22
    -- a step that goes on, and what comes of it
    have go : ∀ (g : xa_H) (σ1 : List Int) (d1 : Nat) (s1 : pS) (F : Fm b h g), f_X12_qPartTold_L2 173 1 h = some (.inl (1, g)) → Mx T L q b g σ1 d1 s1 → Gd b D σ1 d1 s1 → s.1 + 1 ≤ s1.1 → bd (part T L q d s) (KS T L q σ d) = bd (part T L q d1 s1) (KS T L q σ1 d1) → pOn T L q b D h (xit (fun s => f_X12_qPartTold_L2 173 s.1 s.2) (fu + 1) (1, h)) (bd (part T L q d s) (KS T L q σ d)) s.1 := by
      intro g σ1 d1 s1 F e M1 G' l1 ek
      rw [xit_go (f := fun s => f_X12_qPartTold_L2 173 s.1 s.2) e, ek]
      rcases ih σ1 d1 s1 g (by omega) M1 G' fu (by omega) with ⟨h', σ', d', s', a1, a2, a3, a4, a5, a6, a7⟩ | ⟨h', e', a1, a2, a3, a4⟩
      · exact Or.inl ⟨h', σ', d', s', a1, a2, F.tr a3, a4, a5, by omega, a7⟩
      · exact Or.inr ⟨h', e', a1, a2, a3, F.1.tr a4⟩
    have bad : ∀ (g : xa_H) (er : Nat × Nat), f_X12_qPartTold_L2 173 1 h = some (.inl (1, g)) → Bq g er 1600 → Fx DQ h g → bd (part T L q d s) (KS T L q σ d) = .inr er → pOn T L q b D h (xit (fun s => f_X12_qPartTold_L2 173 s.1 s.2) (fu + 1) (1, h)) (bd (part T L q d s) (KS T L q σ d)) s.1 := by
      intro g er e B F ek
      refine Or.inr ⟨g, er, ?_, ek, B, F⟩
      rw [xit_go (f := fun s => f_X12_qPartTold_L2 173 s.1 s.2) e]
      exact xit_end (f := fun s => f_X12_qPartTold_L2 173 s.1 s.2) (partL_bad B.1.1 B 1) (by omega)
    by_cases g40 : pG T L s 40 = true
    · have n1 := pN_lt (T := T) (pG_lt g40)
      have lk : lkv T L s.1 = 40 := (lkv_pG g40s).mpr g40
      obtain ⟨h1, e1, o⟩ := s_opens k2 G4 20 s.1
      have e0 : f_X12_qPartTold_L2 173 1 h = (xgf h1 12 2 173).bind fun x9 => (xpf h1 12 2 173 (w32 (x9 + 1))).bind fun h10 => some (Sum.inl ((1, h10))) := by
        unfold f_X12_qPartTold_L2
        rw [if_neg one_ne, gM S, mx_bad M, if_pos rfl, xM S, k1, bbind, xM S2, w89, bbind, if_pos lk, gM S2, k3, xM S2, e1, bbind]
      rcases o with ⟨o1, M1, F1, at1⟩ | ⟨o1, B1, F1⟩
      · obtain ⟨d', rfl⟩ : ∃ y, d = y + 1 := ⟨d - 1, by omega⟩
        have S1 := mx_S M1
        have kg := (pG_i.mp g40).1
        have F2 : Fx DB h1 (xset h1 173 2 ((s.1 + 1 : Nat) : Int)) := (Fx.refl DB h1).set rfl
        have M2 : Mx T L q b (xset h1 173 2 ((s.1 + 1 : Nat) : Int)) (20 :: σ) d' (pN T L s) := mx_lex M1 F2 (rx_sg M1.1 kg) (by have := n1.1; show s.1 ≤ (pN T L s).1; omega)
        refine go _ (20 :: σ) d' (pN T L s) (k4.tr (F1.tr (DB_DQ F2))) ?_ M2 ⟨wf_br G1 (by decide), ?_, ?_, ?_⟩ n1.1 (pt_round g40)
        · rw [e0, gM S1, at1, k3, w32_id (by omega) (by omega), pMf S1]
          rfl
        · intro w hw
          rcases List.mem_cons.mp hw with rfl | hw
          · unfold smS; omega
          · exact G2 w hw
        · rw [nop_op (by omega)]
          omega
        · rw [pM_len]
          simp only [List.length_cons]
          omega
      · subst o1
        refine bad (xset h1 173 2 (w32 (xm h1 173 2 + 1))) (4, s.1) ?_ (bq_set2 B1) ((k4.1.tr F1).tr ((Fx.refl DQ h1).set rfl)) (by rw [pt_round0 g40, bd_r])
        rw [e0, gM B1.1.1, pMf B1.1.1]
    · have lk : ¬ lkv T L s.1 = 40 := fun z => g40 ((lkv_pG g40s).mp z)
      by_cases w2 : pW T L s = 21 ∨ pW T L s = 22
      · -- min, max
        have sl : s.1 < L := pW_lt (T := T) (L := L) (by omega)
        have n1 := pN_lt (T := T) sl
        obtain ⟨w, hw⟩ : ∃ w, w = pW T L s := ⟨_, rfl⟩
        have hw' : w = 21 ∨ w = 22 := by omega
        obtain ⟨g, v4, eg, Mg, Fg, hv4⟩ : ∃ g v4, f_X12_qPartTold_J78L2 173 1 H = f_X12_qPartTold_J101L2 173 1 v4 g ∧ Mx T L q b g σ d (pN T L s) ∧ Fm b h g ∧ (if v4 = 0 then (22 : Int) else 21) = w := by
          have t21 := s_takes k2.1 (A := 235) (w := 21) (by decide +kernel) (by decide)
          have t21' : (pW T L s = 21 ∧ ∃ h', f_X12_takes 173 235 H = some (1, h') ∧ Rx T L h' (pN T L s).1 (pN T L s).2.1 ∧ Fx DB H h') ∨ (pW T L s ≠ 21 ∧ f_X12_takes 173 235 H = some (0, xset H 173 2 (s.1 : Int))) := t21
          have eH : xset H 173 2 (s.1 : Int) = H := by rw [hH, xset_xset]
          unfold f_X12_qPartTold_J78L2
          rcases t21' with ⟨t1, g, t2, t3, t4⟩ | ⟨t1, t2⟩
          · refine ⟨g, 1, ?_, mx_lex k2 t4 t3 (by have := n1.1; show s.1 ≤ (pN T L s).1; omega), k4.tr (DB_DQ t4), by rw [if_neg one_ne]; omega⟩
            rw [gM S2, pt_173_87 S2, xM S2, t2, bbind, if_neg one_ne]
          · have a22 := s_asks k2.1 (A := 236) (w := 22) (by decide +kernel) (by decide)
            have a22' : ∃ h', f_X12_asks 173 236 H = some h' ∧ Fx DB H h' ∧ ((pW T L s = 22 ∧ Rx T L h' (pN T L s).1 (pN T L s).2.1) ∨ (pW T L s ≠ 22 ∧ Bx h' (1, s.1))) := a22
            obtain ⟨g, t3, t4, o⟩ := a22'
            rcases o with ⟨-, t5⟩ | ⟨t5, -⟩
            · refine ⟨g, 0, ?_, mx_lex k2 t4 t5 (by have := n1.1; show s.1 ≤ (pN T L s).1; omega), k4.tr (DB_DQ t4), by rw [if_pos rfl]; omega⟩
              rw [gM S2, pt_173_87 S2, xM S2, t2, bbind, if_pos rfl, eH, gM S2, pt_173_88 S2, xM S2, t3, bbind]
            · omega
        have e0 : f_X12_qPartTold_L2 173 1 h = f_X12_qPartTold_J101L2 173 1 v4 g := by
          unfold f_X12_qPartTold_L2
          rw [if_neg one_ne, gM S, mx_bad M, if_pos rfl, xM S, k1, bbind, xM S2, w89, bbind, if_neg lk, gM S2, pt_173_87 S2, xM S2, h21, bbind, iff01]
          by_cases z : pW T L s = 21
          · rw [if_pos z]
            simp only [if_pos z]
            exact eg
          · rw [if_neg z]
            simp only [if_neg z]
            rw [gM S2, pt_173_88 S2, xM S2, h22, bbind, iff01, if_pos (by omega)]
            simp only
            exact eg
        obtain ⟨m1, m2, m3, m4⟩ := mx_look Mg
        have Sg := mx_S Mg
        have Sm := mx_S m2
        obtain ⟨g', hg'⟩ : ∃ z, z = xset g 173 2 ((pN T L s).1 : Int) := ⟨_, rfl⟩
        rw [← hg'] at m1 m2 m3 m4 Sm
        have lL2 := mx_L m2
        by_cases p40 : pG T L (pN T L s) 40 = true
        · have u1 := pN_lt (T := T) (pG_lt p40)
          have lk2 : lkv T L (pN T L s).1 = 40 := (lkv_pG g40s).mpr p40
          obtain ⟨h1, e1, o⟩ := s_opens m2 (by rw [pM_len]; omega) w (pN T L s).1
          have e2 : f_X12_qPartTold_L2 173 1 h = (xrc h1 12 173 (f_X12_asksSign 173 40 h1)).bind fun r30 => some (Sum.inl ((1, r30))) := by
            have J139 : f_X12_qPartTold_J139L2 173 1 ((pN T L s).1 : Int) 173 w g' = f_X12_qPartTold_J144L2 173 1 h1 := by
              unfold f_X12_qPartTold_J139L2
              rw [xM Sm, e1, bbind]
            rw [e0]
            unfold f_X12_qPartTold_J101L2
            rw [xM Sg, m1, bbind, if_pos lk2, gM Sm, m3]
            unfold f_X12_qPartTold_J118L2
            rw [if_neg (by omega)]
            by_cases z : v4 = 0
            · rw [if_pos z] at hv4 ⊢
              rw [hv4]
              exact J139
            · rw [if_neg z] at hv4 ⊢
              rw [hv4]
              exact J139
          rcases o with ⟨o1, M1, F1, at1⟩ | ⟨o1, B1, F1⟩
          · obtain ⟨d', rfl⟩ : ∃ y, d = y + 1 := ⟨d - 1, by omega⟩
            have S1 := mx_S M1
            obtain ⟨h3, e3, F3, o3⟩ := s_asksSign M1.1 g40s
            rcases o3 with ⟨-, R3⟩ | ⟨o3, -⟩
            · have M3 : Mx T L q b h3 (w :: σ) d' (pN T L (pN T L s)) := mx_lex M1 F3 R3 (by have := u1.1; show (pN T L s).1 ≤ (pN T L (pN T L s)).1; omega)
              refine go h3 (w :: σ) d' _ (Fg.tr (m4.tr (F1.tr (DB_DQ F3)))) ?_ M3 ⟨wf_br G1 (by omega), ?_, ?_, ?_⟩ (by omega) (pt_min hw' hw.symm p40)
              · rw [e2, xM S1, e3]
                rfl
              · intro v hv
                rcases List.mem_cons.mp hv with rfl | hv
                · exact one_lt hw'
                · exact G2 v hv
              · rw [nop_op (by omega)]
                omega
              · rw [pM_len, pM_len]
                simp only [List.length_cons]
                omega
            · exact absurd (pG_i.mp p40) o3
          · subst o1
            refine bad h1 (4, (pN T L s).1) ?_ B1 ((Fg.1.tr m4.1).tr F1) (by rw [pt_min0 hw' hw.symm p40, bd_r])
            rw [e2, xM B1.1.1, s_asksBad B1]
            rfl
        · have lk2 : ¬ lkv T L (pN T L s).1 = 40 := fun z => p40 ((lkv_pG g40s).mp z)
          obtain ⟨h3, e3, F3, o3⟩ := s_asksSign m2.1 g40s
          rcases o3 with ⟨o3, -⟩ | ⟨-, B3⟩
          · exact absurd (pG_i.mpr o3) p40
          · have c98 : xm h3 173 98 = (s.2.2.length : Int) := (F3.2.2.2 _ _ rfl).trans m2.2.1.1
            refine bad h3 (1, (pN T L s).1) ?_ ⟨B3, by omega, by omega⟩ ((Fg.1.tr m4.1).tr (DB_DQ (b := 0) F3).1) (by rw [pt_minx hw' hw.symm p40, bd_r])
            rw [e0]
            unfold f_X12_qPartTold_J101L2
            rw [xM Sg, m1, bbind, if_neg lk2]
            unfold f_X12_qPartTold_J118L2 f_X12_qPartTold_J144L2
            rw [if_pos rfl, xM Sm, e3]
            rfl
      · by_cases w14 : q = true ∧ pW T L s = 14
        · have sl : s.1 < L := pW_lt (T := T) (L := L) (by omega)
          have n1 := pN_lt (T := T) sl
          have hq := w14.1
          subst hq
          obtain ⟨h1, e1, o⟩ := s_opens k2 G4 60 s.1
          have e0 : f_X12_qPartTold_L2 173 1 h = (xrc h1 12 173 (f_X12_qAsksWord 173 8 h1)).bind fun r20 => some (Sum.inl ((1, r20))) := by
            have c8 : w32 (w32 (60 + 8) - 8) = 60 := by decide
            rw [if_pos w14] at w89
            unfold f_X12_qPartTold_L2
            rw [if_neg one_ne, gM S, mx_bad M, if_pos rfl, xM S, k1, bbind, xM S2, w89, bbind, if_neg lk, gM S2, pt_173_87 S2, xM S2, h21, bbind, iff01, if_neg (by omega), gM S2, pt_173_88 S2, xM S2, h22, bbind, iff01, if_neg (by omega)]
            rw [if_neg (show ¬ (8 : Int) = -1 by decide), gM S2, k3, xM S2, c8, e1, bbind]
          rcases o with ⟨o1, M1, F1, at1⟩ | ⟨o1, B1, F1⟩
          · obtain ⟨d', rfl⟩ : ∃ y, d = y + 1 := ⟨d - 1, by omega⟩
            have S1 := mx_S M1
            obtain ⟨h3, e3, F3, R3⟩ := s_asksW M1.1 (k := 8) (w := 14) (by decide) w14.2
            have M3 : Mx T L true b h3 (60 :: σ) d' (pN T L s) := mx_lex M1 F3 R3 (by have := n1.1; show s.1 ≤ (pN T L s).1; omega)
            refine go h3 (60 :: σ) d' _ (k4.tr (F1.tr (DB_DQ F3))) ?_ M3 ⟨wf_un G1 (Or.inl rfl), ?_, ?_, ?_⟩ (by omega) (pt_met w14.2)
            · rw [e0, xM S1, e3]
              rfl
            · intro v hv
              rcases List.mem_cons.mp hv with rfl | hv
              · unfold smS; omega
              · exact G2 v hv
            · rw [nop_op (by omega)]
              omega
            · rw [pM_len]
              simp only [List.length_cons]
              omega
          · subst o1
            refine bad h1 (4, s.1) ?_ B1 (k4.1.tr F1) (by rw [pt_met0 w14.2, bd_r])
            rw [e0, xM B1.1.1, s_asksWBad B1]
            rfl
        · have e0 : f_X12_qPartTold_L2 173 1 h = some (.inl (0, H)) := by
            unfold f_X12_qPartTold_L2
            rw [if_neg one_ne, gM S, mx_bad M, if_pos rfl, xM S, k1, bbind, xM S2, w89, bbind, if_neg lk, gM S2, pt_173_87 S2, xM S2, h21, bbind, iff01, if_neg (by omega), gM S2, pt_173_88 S2, xM S2, h22, bbind, iff01, if_neg (by omega)]
            simp only [if_neg w14]
            rw [if_pos trivial]
          refine Or.inl ⟨H, σ, d, s, ?_, k2, k4, rfl, G, Nat.le_refl _, g40, w2, w14⟩
          rw [xit_go (f := fun s => f_X12_qPartTold_L2 173 s.1 s.2) e0]
          exact xit_end (by show f_X12_qPartTold_L2 173 0 _ = _; unfold f_X12_qPartTold_L2; rw [if_pos rfl]) (by omega)
