/-! ===== a whole test of the reference ===== -/
def tTd (T : Nat → Int) (L : Nat) (q : Bool) (D : Nat) (h : xa_H) (f : Option xa_H) (R : pR) (p : Nat) : Prop :=
  (∃ h' σ' d' s', f = some h' ∧ Mx T L q 0 h' σ' d' s' ∧ Fm 0 h h' ∧ R = .inl (dr2 (dr1 (σ', s'))).2 ∧ (dr2 (dr1 (σ', s'))).1 = [] ∧ Gt D σ' d' s' ∧ noU σ' ∧ p < s'.1)
  ∨ (∃ h' e, f = some h' ∧ R = .inr e ∧ Bq h' e 1602 ∧ Fx DQ h h')
theorem testL_bad {h : xa_H} {e : Nat × Nat} {n : Int} (B : Bq h e n) (v : Int) : f_X12_qTest_L2 173 v h = some (.inr h) := by
  unfold f_X12_qTest_L2
  by_cases z : v = 0
  · rw [if_pos z]
  · rw [if_neg z, gM B.1.1, B.1.2.1, if_neg (by have := B.1.2.2.2; omega)]
theorem testL_0 {h : xa_H} : f_X12_qTest_L2 173 0 h = some (.inr h) := by
  unfold f_X12_qTest_L2
  rw [if_pos rfl]
theorem bq_nots {h : xa_H} {e : Nat × Nat} {n : Int} (B : Bq h e n) : f_X12_qDropsNots 173 h = some h := by
  have e0 : f_X12_qDropsNots_L0 173 h = some (.inr h) := by
    unfold f_X12_qDropsNots_L0
    rw [gM B.1.1, B.1.2.1, if_neg (by have := B.1.2.2.2; omega)]
  unfold f_X12_qDropsNots
  rw [xit_end (f := fun s => f_X12_qDropsNots_L0 173 s) e0 (by unfold xFU; omega)]
  rfl
theorem s_testL {T : Nat → Int} {L : Nat} {q : Bool} {D : Nat} (hD : D ≤ 6) : ∀ (n : Nat) (σ : List Int) (d : Nat) (s : pS) (h : xa_H), L - s.1 ≤ n → Mx T L q 0 h σ d s → Gt D σ d s → ∀ fu, n + 2 < fu → tTd T L q D h (xit (fun s => f_X12_qTest_L2 173 s.1 s.2) fu (1, h)) (bd (fact T L q d s) (KT T L q σ d)) s.1 := by
  intro n
  induction n with
  | zero =>
    intro σ d s h hn M G fu hf
    obtain ⟨G1, G2, G3, G4⟩ := G
    have lL := mx_L M
    have S := mx_S M
    obtain ⟨fu, rfl⟩ : ∃ y, fu = y + 1 := ⟨fu - 1, by omega⟩
    obtain ⟨k1, k2, k3, k4⟩ := mx_look M
    have S2 := mx_S k2
    have nG : ∀ c, ¬ pG T L s c = true := fun c g => by have := pG_lt g; omega
    have nW : pW T L s = -1 := by
      by_cases z : pW T L s = -1
      · exact z
      · have := pW_lt z; omega
    have h19 : f_X12_isHere 173 231 (xset h 173 2 (s.1 : Int)) = some (if pW T L s = 19 then 1 else 0, xset h 173 2 (s.1 : Int)) := hereH M.1 (A := 231) (w := 19) (by decide +kernel) (by decide)
    rw [fc_prim (nG 91) (by omega)]
    rcases s_qFact k2 (ts10 G2) G4 with ⟨h1, s1, e1, r1, M1, F1, l1, p1⟩ | ⟨h1, er, e1, r1, B1, F1⟩
    · have := mx_L M1
      omega
    · have e : f_X12_qTest_L2 173 1 h = some (.inl (0, h1)) := by
        unfold f_X12_qTest_L2
        rw [if_neg one_ne, gM S, mx_bad M, if_pos rfl, xM S, k1, bbind, if_neg (fun z => nG 91 ((lkv_pG g91).mp z)), gM S2, pt_173_83 S2, xM S2, h19, bbind, iff01, if_neg (by omega), xM S2, e1, bbind, xM B1.1.1, bq_nots B1, bbind, gM B1.1.1, B1.1.2.1, if_neg (by have := B1.1.2.2.2; omega)]
      rw [xit_go (f := fun s => f_X12_qTest_L2 173 s.1 s.2) e, xit_end (f := fun s => f_X12_qTest_L2 173 s.1 s.2) (testL_0 (h := h1)) (by omega), r1, bd_r]
      exact Or.inr ⟨h1, er, rfl, rfl, B1, k4.1.tr F1⟩
  | succ n ih =>
    intro σ d s h hn M G fu hf
    obtain ⟨G1, G2, G3, G4⟩ := G
    have lL := mx_L M
    have S := mx_S M
    have d6 := M.2.2.2.2.2.2.1
    obtain ⟨fu, rfl⟩ : ∃ y, fu = y + 1 := ⟨fu - 1, by omega⟩
    obtain ⟨k1, k2, k3, k4⟩ := mx_look M
    have h19 : f_X12_isHere 173 231 (xset h 173 2 (s.1 : Int)) = some (if pW T L s = 19 then 1 else 0, xset h 173 2 (s.1 : Int)) := hereH M.1 (A := 231) (w := 19) (by decide +kernel) (by decide)
    obtain ⟨H, hH⟩ : ∃ H, H = xset h 173 2 (s.1 : Int) := ⟨_, rfl⟩
    rw [← hH] at k1 k2 k3 k4 h19
    have S2 := mx_S k2
    have go : ∀ (g : xa_H) (σ1 : List Int) (d1 : Nat) (s1 : pS) (F : Fm 0 h g), f_X12_qTest_L2 173 1 h = some (.inl (1, g)) → Mx T L q 0 g σ1 d1 s1 → Gt D σ1 d1 s1 → s.1 + 1 ≤ s1.1 → bd (fact T L q d s) (KT T L q σ d) = bd (fact T L q d1 s1) (KT T L q σ1 d1) → tTd T L q D h (xit (fun s => f_X12_qTest_L2 173 s.1 s.2) (fu + 1) (1, h)) (bd (fact T L q d s) (KT T L q σ d)) s.1 := by
      intro g σ1 d1 s1 F e M1 G' l1 ek
      rw [xit_go (f := fun s => f_X12_qTest_L2 173 s.1 s.2) e, ek]
      rcases ih σ1 d1 s1 g (by omega) M1 G' fu (by omega) with ⟨h', σ', d', s', a1, a2, a3, a4, a5, a6, a7, a8⟩ | ⟨h', e', a1, a2, a3, a4⟩
      · exact Or.inl ⟨h', σ', d', s', a1, a2, F.tr a3, a4, a5, a6, a7, by omega⟩
      · exact Or.inr ⟨h', e', a1, a2, a3, F.1.tr a4⟩
    have bad : ∀ (g : xa_H) (er : Nat × Nat) (v : Int), f_X12_qTest_L2 173 1 h = some (.inl (v, g)) → Bq g er 1602 → Fx DQ h g → bd (fact T L q d s) (KT T L q σ d) = .inr er → tTd T L q D h (xit (fun s => f_X12_qTest_L2 173 s.1 s.2) (fu + 1) (1, h)) (bd (fact T L q d s) (KT T L q σ d)) s.1 := by
      intro g er v e B F ek
      refine Or.inr ⟨g, er, ?_, ek, B, F⟩
      rw [xit_go (f := fun s => f_X12_qTest_L2 173 s.1 s.2) e]
      exact xit_end (f := fun s => f_X12_qTest_L2 173 s.1 s.2) (testL_bad B v) (by omega)
    by_cases g91' : pG T L s 91 = true
    · have n1 := pN_lt (T := T) (pG_lt g91')
      have lk : lkv T L s.1 = 91 := (lkv_pG g91).mpr g91'
      obtain ⟨h1, e1, o⟩ := s_opens k2 G4 25 s.1
      have e0 : f_X12_qTest_L2 173 1 h = (xgf h1 12 2 173).bind fun x8 => (xpf h1 12 2 173 (w32 (x8 + 1))).bind fun h9 => some (Sum.inl ((1, h9))) := by
        unfold f_X12_qTest_L2
        rw [if_neg one_ne, gM S, mx_bad M, if_pos rfl, xM S, k1, bbind, if_pos lk, gM S2, k3, xM S2, e1, bbind]
      rcases o with ⟨o1, M1, F1, at1⟩ | ⟨o1, B1, F1⟩
      · obtain ⟨d', rfl⟩ : ∃ y, d = y + 1 := ⟨d - 1, by omega⟩
        have S1 := mx_S M1
        have kg := (pG_i.mp g91').1
        have F2 : Fx DB h1 (xset h1 173 2 ((s.1 + 1 : Nat) : Int)) := (Fx.refl DB h1).set rfl
        have M2 : Mx T L q 0 (xset h1 173 2 ((s.1 + 1 : Nat) : Int)) (25 :: σ) d' (pN T L s) := mx_lex M1 F2 (rx_sg M1.1 kg) (by have := n1.1; show s.1 ≤ (pN T L s).1; omega)
        refine go _ (25 :: σ) d' (pN T L s) (k4.tr (F1.tr (DB_DQ F2))) ?_ M2 ⟨wf_br G1 (by decide), ?_, ?_, ?_⟩ n1.1 (fc_sq g91')
        · rw [e0, gM S1, at1, k3, w32_id (by omega) (by omega), pMf S1]
          rfl
        · intro w hw
          rcases List.mem_cons.mp hw with rfl | hw
          · unfold tsS; omega
          · exact G2 w hw
        · rw [nop_op (by omega)]
          omega
        · rw [pM_len]
          simp only [List.length_cons]
          omega
      · subst o1
        refine bad (xset h1 173 2 (w32 (xm h1 173 2 + 1))) (4, s.1) 1 ?_ (bq_mono (bq_set2 B1) (by omega)) ((k4.1.tr F1).tr ((Fx.refl DQ h1).set rfl)) (by rw [fc_sq0 g91', bd_r])
        rw [e0, gM B1.1.1, pMf B1.1.1]
    · have lk : ¬ lkv T L s.1 = 91 := fun z => g91' ((lkv_pG g91).mp z)
      by_cases w19 : pW T L s = 19
      · have sl : s.1 < L := pW_lt (T := T) (L := L) (by omega)
        have n1 := pN_lt (T := T) sl
        obtain ⟨h1, e1, o⟩ := s_opens k2 G4 12 s.1
        rw [if_pos w19] at h19
        have e0 : f_X12_qTest_L2 173 1 h = (xgf h1 12 83 173).bind fun x21 => (xrc h1 12 173 (f_X12_asks 173 x21 h1)).bind fun r22 => some (Sum.inl ((1, r22))) := by
          unfold f_X12_qTest_L2
          rw [if_neg one_ne, gM S, mx_bad M, if_pos rfl, xM S, k1, bbind, if_neg lk, gM S2, pt_173_83 S2, xM S2, h19, bbind, if_neg one_ne, gM S2, k3, xM S2, e1, bbind]
        rcases o with ⟨o1, M1, F1, at1⟩ | ⟨o1, B1, F1⟩
        · obtain ⟨d', rfl⟩ : ∃ y, d = y + 1 := ⟨d - 1, by omega⟩
          have S1 := mx_S M1
          have a := s_asks M1.1 (A := 231) (w := 19) (by decide +kernel) (by decide)
          have a' : ∃ h', f_X12_asks 173 231 h1 = some h' ∧ Fx DB h1 h' ∧ ((pW T L s = 19 ∧ Rx T L h' (pN T L s).1 (pN T L s).2.1) ∨ (pW T L s ≠ 19 ∧ Bx h' (1, s.1))) := a
          obtain ⟨h3, e3, F3, o3⟩ := a'
          rcases o3 with ⟨-, R3⟩ | ⟨o3, -⟩
          · have M3 : Mx T L q 0 h3 (12 :: σ) d' (pN T L s) := mx_lex M1 F3 R3 (by have := n1.1; show s.1 ≤ (pN T L s).1; omega)
            refine go h3 (12 :: σ) d' _ (k4.tr (F1.tr (DB_DQ F3))) ?_ M3 ⟨wf_un G1 (Or.inr rfl), ?_, ?_, ?_⟩ (by omega) (fc_not w19)
            · rw [e0, gM S1, pt_173_83 S1, xM S1, e3]
              rfl
            · intro v hv
              rcases List.mem_cons.mp hv with rfl | hv
              · unfold tsS; omega
              · exact G2 v hv
            · rw [nop_op (by omega)]
              omega
            · rw [pM_len]
              simp only [List.length_cons]
              omega
          · exact absurd w19 o3
        · subst o1
          refine bad h1 (4, s.1) 1 ?_ (bq_mono B1 (by omega)) (k4.1.tr F1) (by rw [fc_not0 w19, bd_r])
          rw [e0, gM B1.1.1, xM B1.1.1, s_asksBadW B1]
          rfl
      · rw [if_neg w19] at h19
        have pr := fc_prim (q := q) (d := d) g91' w19
        rcases s_qFact k2 (ts10 G2) G4 with ⟨h1, s1, e1, r1, M1, F1, l1, p1⟩ | ⟨h1, er, e1, r1, B1, F1⟩
        · obtain ⟨h2, σ2, d2, s2, c1, M2, F2, c4, c5, c6, c7, c8, c9, c10, c11⟩ := s_dropsNots M1 (by omega) G2
          have S1 := mx_S M1
          have S3 := mx_S M2
          have kk : bd (fact T L q d s) (KT T L q σ d) = KT T L q σ2 d2 s2 := by
            rw [pr, r1, bd_l]
            exact c4 _ _ _
          have G' : Gt D σ2 d2 s2 := ⟨c7 G1, fun v hv => G2 v (c8 v hv), by omega, by omega⟩
          have st : f_X12_qTest_L2 173 1 h = (f_X12_qGoesOnTest 173 h2).bind fun r17 => if r17.1 = 0 then some (Sum.inl ((0, r17.2))) else some (Sum.inl ((1, r17.2))) := by
            unfold f_X12_qTest_L2
            rw [if_neg one_ne, gM S, mx_bad M, if_pos rfl, xM S, k1, bbind, if_neg lk, gM S2, pt_173_83 S2, xM S2, h19, bbind, if_pos rfl, xM S2, e1, bbind, xM S1, c1, bbind, gM S3, mx_bad M2, if_pos rfl, xM S3]
          have F02 := k4.tr (F1.tr F2)
          rcases s_goesOnT hD M2 G' c5 with ⟨h3, σ3, d3, s3, y1, M3, F3, y4, G3', y6⟩ | ⟨h3, σ3, d3, s3, y1, M3, F3, y4, y5, G3', u3, y7⟩ | ⟨h3, er, y1, y2, B3, F3⟩
          · refine go h3 σ3 d3 s3 (F02.tr F3) ?_ M3 G3' (by omega) (kk.trans y4)
            rw [st, y1, bbind, if_neg one_ne]
          · have e : f_X12_qTest_L2 173 1 h = some (.inl (0, h3)) := by rw [st, y1, bbind, if_pos rfl]
            rw [xit_go (f := fun s => f_X12_qTest_L2 173 s.1 s.2) e, xit_end (f := fun s => f_X12_qTest_L2 173 s.1 s.2) (testL_0 (h := h3)) (by omega)]
            exact Or.inl ⟨h3, σ3, d3, s3, rfl, M3, F02.tr F3, kk.trans y4, y5, G3', u3, by omega⟩
          · refine bad h3 er 0 ?_ B3 (F02.1.tr F3) (kk.trans y2)
            rw [st, y1, bbind, if_pos rfl]
        · refine bad h1 er 0 ?_ B1 (k4.1.tr F1) (by rw [pr, r1, bd_r])
          unfold f_X12_qTest_L2
          rw [if_neg one_ne, gM S, mx_bad M, if_pos rfl, xM S, k1, bbind, if_neg lk, gM S2, pt_173_83 S2, xM S2, h19, bbind, if_pos rfl, xM S2, e1, bbind, xM B1.1.1, bq_nots B1, bbind, gM B1.1.1, B1.1.2.1, if_neg (by have := B1.1.2.2.2; omega)]
theorem s_qTest {T : Nat → Int} {L : Nat} {q : Bool} {h : xa_H} {d : Nat} {s : pS} (M : Mx T L q 0 h [] d s) (hs : s.2.2.length ≤ s.1) :
    (∃ h' s', f_X12_qTest 173 h = some h' ∧ testP T L q d s = .inl s' ∧ Mx T L q 0 h' [] d s' ∧ Fx DQ h h' ∧ s'.2.2.length ≤ s'.1 ∧ s.1 < s'.1)
    ∨ (∃ h' e, f_X12_qTest 173 h = some h' ∧ testP T L q d s = .inr e ∧ Bq h' e 1602 ∧ Fx DQ h h') := by
  have lL := mx_L M
  have m8 := M.2.2.2.2.2.2.1
  have G0 : Gt d [] d s := ⟨True.intro, (fun w hw => by cases hw), rfl, by simp only [List.length_nil]; omega⟩
  have k0 : bd (fact T L q d s) (KT T L q [] d) = testP T L q d s := KK_0
  have lp := s_testL m8 L [] d s _ (by omega) M G0 xFU (by unfold xFU; omega)
  rw [k0] at lp
  unfold f_X12_qTest
  rcases lp with ⟨h1, σ1, d1, s1, a1, M1, F1, k1, k2, G1, u1, l1⟩ | ⟨h1, er, a1, k1, B1, F1⟩
  · left
    obtain ⟨h2, e2, M2, F2⟩ := dropw' (F := fun s => f_X12_qTest_L110 173 s) (P := fun _ => true) (fun h d s M => by
      have S := mx_S M
      show f_X12_qTest_L110 173 h = _
      unfold f_X12_qTest_L110
      rw [gM S, mx_bad M, if_pos rfl, gM S, M.2.2.1, if_neg (by simp)]) (fun h w σ d s M => by
      have S := mx_S M
      show f_X12_qTest_L110 173 h = _
      unfold f_X12_qTest_L110
      rw [gM S, mx_bad M, if_pos rfl, gM S, M.2.2.1, if_pos (by simp only [List.length_cons]; omega), if_pos rfl, xM S]) M1
    have dn := dr1_f (σ1, s1)
    have dn2 := dr2_f (dr1 (σ1, s1))
    have p1 := dr1_1 (x := (σ1, s1))
    have p2 := dr2_1 (x := dr1 (σ1, s1))
    rw [dw_all k2, k2] at M2
    rw [k2] at dn2
    obtain ⟨z, hz⟩ : ∃ z, z = (dr2 (dr1 (σ1, s1))).2 := ⟨_, rfl⟩
    rw [← hz] at M2 dn2 p2 k1
    dsimp only at dn p1
    have nz : nop ([] : List Int) = 0 := rfl
    obtain ⟨g1, g2, g3, g4⟩ := G1
    have d1d : d1 = d := by omega
    subst d1d
    have ll : z.2.2.length = s1.2.2.length + σ1.length := by
      have := dn2.2.2
      simp only [List.length_nil] at this
      omega
    have pz : z.1 = s1.1 := p2.1.trans p1.1
    refine ⟨h2, z, ?_, k1, M2, (F1.tr F2).1, by omega, by omega⟩
    rw [a1, bbind, e2]
    rfl
  · right
    have eb : f_X12_qTest_L110 173 h1 = some (.inr h1) := by
      unfold f_X12_qTest_L110
      rw [gM B1.1.1, B1.1.2.1, if_neg (by have := B1.1.2.2.2; omega)]
    refine ⟨h1, er, ?_, k1, B1, F1⟩
    rw [a1, bbind, xit_end (f := fun s => f_X12_qTest_L110 173 s) eb (by unfold xFU; omega)]
    rfl
