/-! ===== a question, begun by the reference ===== -/
def DA (a k : Nat) : Bool := (a == 173 && ((Nat.ble 1 k && Nat.ble k 6) || k == 49 || k == 98 || k == 100 || k == 101 || k == 102)) || a == 245 || a == 246
theorem DA_nf : nofix DA := by unfold nofix; decide +kernel
theorem DB_DA {g g' : xa_H} (e : Fx DB g g') : Fx DA g g' := e.mono fun x k q => by
  unfold DA at q
  unfold DB
  by_cases z : x = 173
  · subst z
    by_cases y : 1 ≤ k ∧ k ≤ 6
    · have y1 : Nat.ble 1 k = true := Nat.ble_eq_true_of_le y.1
      have y2 : Nat.ble k 6 = true := Nat.ble_eq_true_of_le y.2
      simp [y1, y2] at q
    · simp
      omega
  · simp [z]
theorem DQ_DA {g g' : xa_H} (e : Fx DQ g g') : Fx DA g g' := e.mono fun x k q => by
  unfold DA at q
  unfold DQ
  by_cases z : x = 173
  · subst z
    by_cases y : 1 ≤ k ∧ k ≤ 6
    · have y1 : Nat.ble 1 k = true := Nat.ble_eq_true_of_le y.1
      have y2 : Nat.ble k 6 = true := Nat.ble_eq_true_of_le y.2
      simp [y1, y2] at q
    · simp at q ⊢
      omega
  · simp [z] at q ⊢
    omega
theorem r_J117g {T : Nat → Int} {L : Nat} {g : xa_H} {p : Nat} {b : Bool} (R : Rx T L g p b) (k : Nat) : f_X12_ask_J117 173 (k : Int) g = f_X12_ask_J157 173 (k : Int) 173 (if k < 2 then -1 else 0) (xset (xset g 173 7 0) 173 8 (-1)) := by
  have S := R.1
  obtain ⟨A1, e1⟩ : ∃ z, z = xset g 173 7 0 := ⟨_, rfl⟩
  obtain ⟨A2, e2⟩ : ∃ z, z = xset A1 173 8 (-1) := ⟨_, rfl⟩
  have s1 : SH A1 := by rw [e1]; exact S.set (by decide +kernel)
  have s2 : SH A2 := by rw [e2]; exact s1.set (by decide +kernel)
  have v6 : xm A1 173 6 = -1 := by rw [e1, xm_xset, if_neg (by omega)]; exact R.2.2.2.2.1
  have v5 : xm A2 173 5 = 0 := by rw [e2, xm_xset, if_neg (by omega), e1, xm_xset, if_neg (by omega)]; exact R.2.2.2.1
  rw [← e1, ← e2]
  unfold f_X12_ask_J117
  rw [gM S, R.2.2.2.1, pMf S, ← e1, gM s1, v6, pMf s1, ← e2, gM s2, v5, if_pos rfl]
  by_cases y : k < 2
  · rw [if_pos (by omega), if_pos y]
  · rw [if_neg (by omega), if_neg y]
theorem r_J117b {g : xa_H} {e : Nat × Nat} (B : Bx g e) (z : Int) : f_X12_ask_J117 173 z g = some (-1000000000000000, xset (xset g 173 7 (e.1 : Int)) 173 8 (e.2 : Int)) := by
  obtain ⟨S, h5, h6, h0⟩ := B
  obtain ⟨A1, e1⟩ : ∃ z, z = xset g 173 7 (e.1 : Int) := ⟨_, rfl⟩
  obtain ⟨A2, e2⟩ : ∃ z, z = xset A1 173 8 (e.2 : Int) := ⟨_, rfl⟩
  have s1 : SH A1 := by rw [e1]; exact S.set (by decide +kernel)
  have s2 : SH A2 := by rw [e2]; exact s1.set (by decide +kernel)
  have v6 : xm A1 173 6 = (e.2 : Int) := by rw [e1, xm_xset, if_neg (by omega)]; exact h6
  have v5 : xm A2 173 5 = (e.1 : Int) := by rw [e2, xm_xset, if_neg (by omega), e1, xm_xset, if_neg (by omega)]; exact h5
  rw [← e1, ← e2]
  unfold f_X12_ask_J117
  rw [gM S, h5, pMf S, ← e1, gM s1, v6, pMf s1, ← e2, gM s2, v5, if_neg (by omega)]
theorem r_J93b {g : xa_H} {e : Nat × Nat} (B : Bx g e) (z : Int) : f_X12_ask_J93 173 z g = some (-1000000000000000, xset (xset g 173 7 (e.1 : Int)) 173 8 (e.2 : Int)) := by
  unfold f_X12_ask_J93
  rw [gM B.1, b_5 B, r_J117b B]
theorem r_ask0 {g : xa_H} (S : SH g) {T : Nat → Int} {L : Nat} (gT : xm g 174 = T) (g1 : xm g 173 1 = (L : Int)) (hL : L ≤ 1600) (hT : ∀ k, k < 1600 → 0 ≤ T k) :
    ∃ gA, Fx DA g gA ∧ SH gA ∧ xm gA 173 1 = 0 ∧ xm gA 173 49 = 0 ∧ ((∃ k s, aG T L k s ∧ xm gA 173 98 = (s.2.2.length : Int) ∧ (∀ i, i < s.2.2.length → xm gA 245 i = s.2.2.getD i 0) ∧ f_X12_ask 173 g = f_X12_ask_J157 173 (k : Int) 173 (if k < 2 then -1 else 0) (xset (xset gA 173 7 0) 173 8 (-1))) ∨
      ∃ e, aE T L e ∧ f_X12_ask 173 g = some (-1000000000000000, xset (xset gA 173 7 (e.1 : Int)) 173 8 (e.2 : Int))) := by
  obtain ⟨A1, e1⟩ : ∃ z, z = xset g 173 3 (L : Int) := ⟨_, rfl⟩
  obtain ⟨A2, e2⟩ : ∃ z, z = xset A1 173 1 0 := ⟨_, rfl⟩
  obtain ⟨A3, e3⟩ : ∃ z, z = xset A2 173 2 0 := ⟨_, rfl⟩
  obtain ⟨A4, e4⟩ : ∃ z, z = xset A3 173 4 (-1) := ⟨_, rfl⟩
  obtain ⟨A5, e5⟩ : ∃ z, z = xset A4 173 5 0 := ⟨_, rfl⟩
  obtain ⟨A6, e6⟩ : ∃ z, z = xset A5 173 6 (-1) := ⟨_, rfl⟩
  obtain ⟨A7, e7⟩ : ∃ z, z = xset A6 173 49 0 := ⟨_, rfl⟩
  obtain ⟨A8, e8⟩ : ∃ z, z = xset A7 173 98 0 := ⟨_, rfl⟩
  obtain ⟨A9, e9⟩ : ∃ z, z = xset A8 173 100 0 := ⟨_, rfl⟩
  obtain ⟨Aa, ea⟩ : ∃ z, z = xset A9 173 101 0 := ⟨_, rfl⟩
  obtain ⟨Ab, eb⟩ : ∃ z, z = xset Aa 173 102 0 := ⟨_, rfl⟩
  have s1 : SH A1 := by rw [e1]; exact S.set (by decide +kernel)
  have s2 : SH A2 := by rw [e2]; exact s1.set (by decide +kernel)
  have s3 : SH A3 := by rw [e3]; exact s2.set (by decide +kernel)
  have s4 : SH A4 := by rw [e4]; exact s3.set (by decide +kernel)
  have s5 : SH A5 := by rw [e5]; exact s4.set (by decide +kernel)
  have s6 : SH A6 := by rw [e6]; exact s5.set (by decide +kernel)
  have s7 : SH A7 := by rw [e7]; exact s6.set (by decide +kernel)
  have s8 : SH A8 := by rw [e8]; exact s7.set (by decide +kernel)
  have s9 : SH A9 := by rw [e9]; exact s8.set (by decide +kernel)
  have sa : SH Aa := by rw [ea]; exact s9.set (by decide +kernel)
  have sb : SH Ab := by rw [eb]; exact sa.set (by decide +kernel)
  have D : Fx DA g Ab := by
    rw [eb, ea, e9, e8, e7, e6, e5, e4, e3, e2, e1]
    exact (((((((((((Fx.refl DA g).set rfl).set rfl).set rfl).set rfl).set rfl).set rfl).set rfl).set rfl).set rfl).set rfl).set rfl
  have v : ∀ k, xm Ab 173 k = if k = 102 ∨ k = 101 ∨ k = 100 ∨ k = 98 ∨ k = 49 then 0 else if k = 6 then -1 else if k = 5 then 0 else if k = 4 then -1 else if k = 2 ∨ k = 1 then 0 else if k = 3 then (L : Int) else xm g 173 k := fun k => by
    rw [eb, ea, e9, e8, e7, e6, e5, e4, e3, e2, e1]
    simp only [xm_xset, true_and]
    by_cases a1 : k = 102
    · subst a1; rfl
    by_cases a2 : k = 101
    · subst a2; rfl
    by_cases a3 : k = 100
    · subst a3; rfl
    by_cases a4 : k = 98
    · subst a4; rfl
    by_cases a5 : k = 49
    · subst a5; rfl
    by_cases a6 : k = 2
    · subst a6; rfl
    by_cases a7 : k = 1
    · subst a7; rfl
    simp only [a1, a2, a3, a4, a5, a6, a7, or_false, if_false]
  have vT : xm Ab 174 = T := by rw [← gT]; exact funext fun k => D.2.2.2 174 k rfl
  have x49 : xm Ab 173 49 = 0 := by rw [v]; rfl
  have Rb : Rx T L Ab (tk_sk T L 0) false := by
    refine ⟨sb, vT, by rw [v]; rfl, by rw [v]; rfl, by rw [v]; rfl, hL, rn_le tk_b0 _ _ (Nat.zero_le _), ?_, ?_, 0, by rw [v]; rfl, rfl⟩
    · rw [v]
      constructor
      · intro y; cases y
      · intro y
        have y' : (-1 : Int) = (tk_sk T L 0 : Int) := y
        omega
    · have y : xm Ab 173 4 = -1 := by rw [v]; rfl
      omega
  have M : Mx T L true 0 Ab [] 6 (tk_sk T L 0, false, []) := by
    refine ⟨Rb, ⟨by rw [v]; rfl, fun i hi => by simp at hi⟩, by rw [v]; rfl, True.intro, by rw [v]; rfl, by rw [v]; rfl, by omega, by rw [x49]; rfl, by simp, Or.inl rfl⟩
  have hd : f_X12_ask 173 g = (f_X12_qKind 173 Ab).bind fun r13 => (xgf r13.2 12 5 173).bind fun x14 => if x14 = 0 then (if r13.1 < 3 then (xrc r13.2 12 173 (f_X12_qTest 173 r13.2)).bind fun r17 => f_X12_ask_J93 173 r13.1 r17 else f_X12_ask_J82 173 r13.1 r13.2) else f_X12_ask_J82 173 r13.1 r13.2 := by
    unfold f_X12_ask
    rw [gM S, g1, pMf S, ← e1, pMf s1, ← e2, pMf s2, ← e3, pMf s3, ← e4, pMf s4, ← e5, pMf s5, ← e6, pMf s6, ← e7, pMf s7, ← e8, pMf s8, ← e9, pMf s9, ← ea, pMf sa, ← eb, xM sb]
  obtain ⟨g2, d2, o⟩ := r_kind Rb
  have x1 : xm Ab 173 1 = 0 := by rw [v]; rfl
  rcases o with ⟨k, k6, ew, qk, R2⟩ | ⟨nw, qk, B⟩
  · rw [qk, bbind, gM R2.1, R2.2.2.2.1, if_pos rfl] at hd
    have M2 : Mx T L true 0 g2 [] 6 (pN T L (tk_sk T L 0, false, [])) := mx_lex M d2 R2 tk_n_ge'
    have S2 := R2.1
    have rd : ∃ g3, f_X12_ask 173 g = f_X12_ask_J93 173 (k : Int) g3 ∧ Fx DQ g2 g3 ∧ ((∃ s', fmQ T L (if k < 3 then 0 else 1) (pN T L (tk_sk T L 0, false, [])) = .inl s' ∧ Mx T L true 0 g3 [] 6 s') ∨ (∃ e, fmQ T L (if k < 3 then 0 else 1) (pN T L (tk_sk T L 0, false, [])) = .inr e ∧ Bx g3 e)) := by
      by_cases y : k < 3
      · rw [if_pos (show ((k : Nat) : Int) < 3 by omega)] at hd
        rw [if_pos y]
        rcases s_qTest M2 (by show ([] : List Int).length ≤ _; simp) with ⟨g3, s', a1, a2, a3, a4, -⟩ | ⟨g3, e, a1, a2, a3, a4⟩
        · refine ⟨g3, ?_, a4, Or.inl ⟨s', a2, a3⟩⟩
          rw [hd, xM S2, a1, bbind]
        · refine ⟨g3, ?_, a4, Or.inr ⟨e, a2, a3.1⟩⟩
          rw [hd, xM S2, a1, bbind]
      · rw [if_neg (show ¬ ((k : Nat) : Int) < 3 by omega)] at hd
        unfold f_X12_ask_J82 at hd
        rw [gM S2, R2.2.2.2.1, if_pos rfl, xM S2] at hd
        rw [if_neg y]
        rcases s_qSums M2 (fun w hw => by cases hw) (by show ([] : List Int).length + 0 + 0 ≤ _; simp) with ⟨g3, s', a1, a2, a3, a4, -⟩ | ⟨g3, e, a1, a2, a3, a4⟩
        · refine ⟨g3, ?_, a4.1, Or.inl ⟨s', a2, a3⟩⟩
          rw [hd, a1, bbind]
        · refine ⟨g3, ?_, a4, Or.inr ⟨e, a2, a3.1⟩⟩
          rw [hd, a1, bbind]
    obtain ⟨g3, hd3, d3, o3⟩ := rd
    have D3 : Fx DA g g3 := (D.tr (DB_DA d2)).tr (DQ_DA d3)
    have y1 : xm g3 173 1 = 0 := by rw [d3.2.2.2 173 1 rfl, d2.2.2.2 173 1 rfl]; exact x1
    have y49 : xm g3 173 49 = 0 := by rw [d3.2.2.2 173 49 rfl, d2.2.2.2 173 49 rfl]; exact x49
    rcases o3 with ⟨s', f1, M3⟩ | ⟨e, f1, B3⟩
    · have R3 := M3.1
      have S3 := R3.1
      have R3' := rx_at R3
      have lk := s_look R3
      have D4 : Fx DA g (xset g3 173 2 (s'.1 : Int)) := D3.set rfl
      obtain ⟨g4, e4'⟩ : ∃ z, z = xset g3 173 2 (s'.1 : Int) := ⟨_, rfl⟩
      have m4 : ∀ a k, ¬ (a = 173 ∧ k = 2) → xm g4 a k = xm g3 a k := fun a k y => by rw [e4', xm_xset, if_neg y]
      have at4 : xm g4 173 2 = (s'.1 : Int) := by rw [e4', xm_xset, if_pos ⟨rfl, rfl⟩]
      rw [← e4'] at lk R3' D4
      have S4 := R3'.1
      unfold f_X12_ask_J93 at hd3
      rw [gM S3, R3.2.2.2.1, if_pos rfl, xM S3, lk, bbind] at hd3
      have lL := R3.2.2.2.2.2.2.1
      have z1 : xm g4 173 1 = 0 := by rw [m4 _ _ (by omega)]; exact y1
      have z49 : xm g4 173 49 = 0 := by rw [m4 _ _ (by omega)]; exact y49
      by_cases y : s'.1 < L
      · have lv : lkv T L s'.1 ≠ -1 := by
          unfold lkv
          rw [if_pos y]
          intro c
          have t0 : (0 : Int) ≤ T s'.1 := hT _ (by omega)
          omega
        rw [if_neg lv, gM S4, at4, xM S4, s_fail S4 R3'.2.2.2.1 1 (s'.1 : Int), bbind] at hd3
        have B := bx_fail S4 1 s'.1 (by decide)
        refine ⟨_, (D4.set (a := 173) (k := 5) (v := 1) rfl).set (a := 173) (k := 6) (v := (s'.1 : Int)) rfl, B.1, ?_, ?_, Or.inr ⟨(1, s'.1), Or.inl ⟨k, k6, ew, ?_⟩, ?_⟩⟩
        · rw [xm_xset, if_neg (by omega), xm_xset, if_neg (by omega)]; exact z1
        · rw [xm_xset, if_neg (by omega), xm_xset, if_neg (by omega)]; exact z49
        · unfold aQ
          rw [f1, bd_l, if_pos y]
        · rw [hd3]
          exact r_J117b B _
      · have lv : lkv T L s'.1 = -1 := by
          unfold lkv
          rw [if_neg y]
        rw [if_pos lv, r_J117g R3'] at hd3
        refine ⟨g4, D4, S4, z1, z49, Or.inl ⟨k, s', ⟨k6, ew, ?_⟩, ?_, fun i hi => ?_, hd3⟩⟩
        · unfold aQ
          rw [f1, bd_l, if_neg y]
        · rw [m4 _ _ (by omega)]; exact M3.2.1.1
        · rw [m4 _ _ (by omega)]; exact M3.2.1.2 i hi
    · refine ⟨g3, D3, B3.1, y1, y49, Or.inr ⟨e, Or.inl ⟨k, k6, ew, ?_⟩, ?_⟩⟩
      · unfold aQ
        rw [f1]
        rfl
      · rw [hd3, r_J93b B3]
  · have D3 : Fx DA g g2 := D.tr (DB_DA d2)
    refine ⟨g2, D3, B.1, by rw [d2.2.2.2 173 1 rfl]; exact x1, by rw [d2.2.2.2 173 49 rfl]; exact x49, Or.inr ⟨_, Or.inr ⟨nw, rfl⟩, ?_⟩⟩
    rw [qk, bbind, gM B.1, b_5 B] at hd
    unfold f_X12_ask_J82 at hd
    rw [gM B.1, b_5 B] at hd
    rw [hd, r_J93b B]
