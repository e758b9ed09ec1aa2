/-! ===== a holder told ===== -/
theorem t_holderOf {h : xa_H} {S n : Nat} (K : CS h S) (hn : n ≤ 6) (v : Int) : f_X9_holderOf ((S + 7 : Nat) : Int) v (n : Int) h = some (xfind (fun i => decide (xm h (S + 8) i = v)) n) := by
  have o7 := CS.okS K
  have p8 : xm h (S + 7) 1 = ((S + 8 : Nat) : Int) := K.2.2.2.2.2 0 (by decide)
  have hl := xit_find (f := fun s => f_X9_holderOf_L2 ((S + 7 : Nat) : Int) v (n : Int) h s) (fun i => decide (xm h (S + 8) i = v)) n (by omega) (fun i hi => by
    have i8 : xia h 0 ((S + 8 : Nat) : Int) (i : Int) = true := K.ia 8 6 (by decide) (by decide +kernel) (by omega) (by omega)
    unfold f_X9_holderOf_L2
    rw [if_pos (by omega), xgf_eq o7 p8, bbind, xal_eq i8 rfl, bbind]
    simp only [decide_eq_true_eq]) (by
    unfold f_X9_holderOf_L2
    rw [if_neg (by omega)])
  unfold f_X9_holderOf
  rw [hl]
  simp only [Option.bind_some]
  by_cases q : xfind (fun i => decide (xm h (S + 8) i = v)) n = -1
  · rw [if_pos q, q]; rfl
  · rw [if_neg q]; rfl
theorem x9S {α : Type} {h : xa_H} {S : Nat} (K : CS h S) (E : Option α) : xrc h 9 ((S + 7 : Nat) : Int) E = E := by
  rw [exrc, if_pos (CS.okS K)]
theorem b_35 {g : xa_H} {e : Nat × Nat} (B : Bx g e) (C : Ct g) (w a : Int) : xit (fun s => f_X12_holderTold_L35 173 w a s.1 s.2) xFU (0, g) = some g := by
  obtain ⟨n, hn, hn6⟩ : ∃ n : Nat, xm g 199 1 = (n : Int) ∧ n ≤ 6 := by
    obtain ⟨c1, c2⟩ := C
    exact ⟨(xm g 199 1).toNat, by omega, by omega⟩
  have i1 : xia g 0 199 ((1 : Nat) : Int) = true := ia_199 B.1 (by omega) (by omega)
  have a1 : xal g 0 199 1 = some (n : Int) := xal_eq (a := 199) (i := 1) i1 hn
  exact xit_seq (f := fun s : Int × xa_H => f_X12_holderTold_L35 173 w a s.1 s.2) (fun i => ((i : Int), g)) n g (fun i hi => by
    show f_X12_holderTold_L35 173 w a (i : Int) g = _
    unfold f_X12_holderTold_L35
    rw [gM B.1, pt_173_34 B.1, a1, bbind, if_pos (by omega), gM B.1, b_5 B, w32_id (by omega) (by omega)]
    rfl) (by
    show f_X12_holderTold_L35 173 w a (n : Int) g = _
    unfold f_X12_holderTold_L35
    rw [gM B.1, pt_173_34 B.1, a1, bbind, if_neg (by omega)]) (by omega)
/-- nobody has it yet -/
theorem s_35 {g : xa_H} (S : SH g) (h5 : xm g 173 5 = 0) {n : Nat} (hn : xm g 199 1 = (n : Int)) (hn6 : n ≤ 6) (w a : Int) (no : ∀ i, i < n → xm g 203 i ≠ a) : xit (fun s => f_X12_holderTold_L35 173 w a s.1 s.2) xFU (0, g) = some g := by
  have i1 : xia g 0 199 ((1 : Nat) : Int) = true := ia_199 S (by omega) (by omega)
  have a1 : xal g 0 199 1 = some (n : Int) := xal_eq (a := 199) (i := 1) i1 hn
  exact xit_seq (f := fun s : Int × xa_H => f_X12_holderTold_L35 173 w a s.1 s.2) (fun i => ((i : Int), g)) n g (fun i hi => by
    have i3 : xia g 0 203 (i : Int) = true := ia_203 S (by omega) (by omega)
    show f_X12_holderTold_L35 173 w a (i : Int) g = _
    unfold f_X12_holderTold_L35
    rw [gM S, pt_173_34 S, a1, bbind, if_pos (by omega), gM S, h5, if_pos rfl, gM S, pt_173_38 S, show xal g 0 203 (i : Int) = some (xm g 203 i) from xal_eq (a := 203) i3 rfl, bbind, if_neg (no i hi), w32_id (by omega) (by omega)]
    rfl) (by
    show f_X12_holderTold_L35 173 w a (n : Int) g = _
    unfold f_X12_holderTold_L35
    rw [gM S, pt_173_34 S, a1, bbind, if_neg (by omega)]) (by omega)
/-- one has it -/
theorem s_35x {g g' : xa_H} (S : SH g) (h5 : xm g 173 5 = 0) {n : Nat} (hn : xm g 199 1 = (n : Int)) (hn6 : n ≤ 6) (w a : Int) {j : Nat} (hj : j < n) (ja : xm g 203 j = a) (no : ∀ i, i < j → xm g 203 i ≠ a) (hf : f_X12_fail 173 3 (xm g 173 33) g = some g') {e : Nat × Nat} (B : Bx g' e) (hn' : xm g' 199 1 = (n : Int)) : xit (fun s => f_X12_holderTold_L35 173 w a s.1 s.2) xFU (0, g) = some g' := by
  have i1 : xia g 0 199 ((1 : Nat) : Int) = true := ia_199 S (by omega) (by omega)
  have a1 : xal g 0 199 1 = some (n : Int) := xal_eq (a := 199) (i := 1) i1 hn
  have i1' : xia g' 0 199 ((1 : Nat) : Int) = true := ia_199 B.1 (by omega) (by omega)
  have a1' : xal g' 0 199 1 = some (n : Int) := xal_eq (a := 199) (i := 1) i1' hn'
  exact xit_seq (f := fun s : Int × xa_H => f_X12_holderTold_L35 173 w a s.1 s.2) (fun i => ((i : Int), if i ≤ j then g else g')) n g' (fun i hi => by
    by_cases q : i ≤ j
    · have i3 : xia g 0 203 (i : Int) = true := ia_203 S (by omega) (by omega)
      show f_X12_holderTold_L35 173 w a (i : Int) (if i ≤ j then g else g') = _
      rw [if_pos q]
      unfold f_X12_holderTold_L35
      rw [gM S, pt_173_34 S, a1, bbind, if_pos (by omega), gM S, h5, if_pos rfl, gM S, pt_173_38 S, show xal g 0 203 (i : Int) = some (xm g 203 i) from xal_eq (a := 203) i3 rfl, bbind, w32_id (by omega) (by omega)]
      by_cases z : i = j
      · subst z
        rw [if_pos ja, gM S, xM S, hf, bbind]
        rw [if_neg (by omega)]
        rfl
      · rw [if_neg (no i (by omega))]
        rw [if_pos (by omega)]
        rfl
    · show f_X12_holderTold_L35 173 w a (i : Int) (if i ≤ j then g else g') = _
      rw [if_neg q]
      unfold f_X12_holderTold_L35
      rw [gM B.1, pt_173_34 B.1, a1', bbind, if_pos (by omega), gM B.1, b_5 B, w32_id (by omega) (by omega)]
      rw [if_neg (by omega)]
      rfl) (by
    show f_X12_holderTold_L35 173 w a (n : Int) (if n ≤ j then g else g') = _
    rw [if_neg (by omega)]
    unfold f_X12_holderTold_L35
    rw [gM B.1, pt_173_34 B.1, a1', bbind, if_neg (by omega)]) (by omega)
section
variable {T : Nat → Int} {L S F1 F2 : Nat} {h0 g0 : xa_H} {p0 : Nat} {h g : xa_H} {p : Nat} {b : Bool}
theorem go_wordx (G : GO T L S F1 F2 h0 g0 p0 h g p b) {A w : Nat} (hm : (A, w) ∈ wtab) (hw : w < 29) : ∃ v h' g', f_X6_needWord 2 (w : Int) h = some (v, h') ∧ f_X12_asks 173 (A : Int) g = some g' ∧ ((v = 1 ∧ GO T L S F1 F2 h0 g0 p0 h' g' (tk_n T L p b).1 (tk_n T L p b).2 ∧ Fx DC h h' ∧ Fx DN g g') ∨ (v = 0 ∧ BD S h0 g0 h' g')) := by
  obtain ⟨v, h', g', e1, e2, d1, d2, o⟩ := k_word G.1 hm hw
  refine ⟨v, h', g', e1, e2, ?_⟩
  rcases o with ⟨o1, o2⟩ | ⟨o1, o2⟩
  · exact Or.inl ⟨o1, go_lex G d1 d2 o2 n_ge, d1, d2⟩
  · exact Or.inr ⟨o1, go_bad G d1 d2 o2⟩
theorem t_holdFin {g : xa_H} (Sg : SH g) {n : Nat} (hn : xm g 199 1 = (n : Int)) (h6 : n < 6) (w a b' c : Int) {X : Option xa_H} (h5 : xm g 173 5 = 0) :
    ((xgf g 12 5 173).bind fun x24 => if x24 = 0 then (xgf g 12 34 173).bind fun x26 => (xal g 0 x26 1).bind fun x27 => (xgf g 12 35 173).bind fun x28 => (xas g 1 x28 (w32 (6 + x27)) w).bind fun h29 => (xgf h29 12 38 173).bind fun x30 => (xas h29 0 x30 x27 a).bind fun h31 => (xgf h31 12 39 173).bind fun x32 => (xas h31 0 x32 x27 b').bind fun h33 => (xgf h33 12 40 173).bind fun x34 => (xas h33 0 x34 x27 c).bind fun h35 => (xgf h35 12 34 173).bind fun x36 => (xal h35 0 x36 1).bind fun x37 => (xas h35 0 x36 1 (w32 (x37 + 1))).bind fun h38 => some h38 else X) = some (xset (xset (xset (xset (xset g 200 (6 + n) w) 203 n a) 204 n b') 205 n c) 199 1 ((n + 1 : Nat) : Int)) := by
  have i1 : xia g 0 199 ((1 : Nat) : Int) = true := ia_199 Sg (by omega) (by omega)
  have i2 : xia g 1 200 ((6 + n : Nat) : Int) = true := ia_200 Sg (by omega) (by omega)
  have i3 : xia g 0 203 (n : Int) = true := ia_203 Sg (by omega) (by omega)
  have i4 : xia g 0 204 (n : Int) = true := ia_204 Sg (by omega) (by omega)
  have i5 : xia g 0 205 (n : Int) = true := ia_205 Sg (by omega) (by omega)
  obtain ⟨H1, e1⟩ : ∃ z, z = xset g 200 (6 + n) w := ⟨_, rfl⟩
  obtain ⟨H2, e2⟩ : ∃ z, z = xset H1 203 n a := ⟨_, rfl⟩
  obtain ⟨H3, e3⟩ : ∃ z, z = xset H2 204 n b' := ⟨_, rfl⟩
  obtain ⟨H4, e4⟩ : ∃ z, z = xset H3 205 n c := ⟨_, rfl⟩
  have S1 : SH H1 := by rw [e1]; exact Sg.set (fixd_of (by decide +kernel))
  have S2 : SH H2 := by rw [e2]; exact S1.set (fixd_of (by decide +kernel))
  have S3 : SH H3 := by rw [e3]; exact S2.set (fixd_of (by decide +kernel))
  have S4 : SH H4 := by rw [e4]; exact S3.set (fixd_of (by decide +kernel))
  have j3 : xia H1 0 203 (n : Int) = true := by rw [e1]; exact i3
  have j4 : xia H2 0 204 (n : Int) = true := by rw [e2, e1]; exact i4
  have j5 : xia H3 0 205 (n : Int) = true := by rw [e3, e2, e1]; exact i5
  have j1 : xia H4 0 199 ((1 : Nat) : Int) = true := by rw [e4, e3, e2, e1]; exact i1
  have m1 : xm H4 199 1 = (n : Int) := by rw [e4, xm_xset, if_neg (by omega), e3, xm_xset, if_neg (by omega), e2, xm_xset, if_neg (by omega), e1, xm_xset, if_neg (by omega)]; exact hn
  have w1 : w32 (6 + (n : Int)) = ((6 + n : Nat) : Int) := by rw [w32_id (by omega) (by omega)]; omega
  have w2 : w32 ((n : Int) + 1) = ((n + 1 : Nat) : Int) := by rw [w32_id (by omega) (by omega)]; omega
  rw [gM Sg, h5, if_pos rfl, gM Sg, pt_173_34 Sg]
  refine (bnd (xal_eq (a := 199) (i := 1) i1 hn)).trans ?_
  rw [gM Sg, pt_173_35 Sg, w1]
  refine (bnd (xas_eq (a := 200) i2)).trans ?_
  rw [← e1, gM S1, pt_173_38 S1]
  refine (bnd (xas_eq (a := 203) j3)).trans ?_
  rw [← e2, gM S2, pt_173_39 S2]
  refine (bnd (xas_eq (a := 204) j4)).trans ?_
  rw [← e3, gM S3, pt_173_40 S3]
  refine (bnd (xas_eq (a := 205) j5)).trans ?_
  rw [← e4, gM S4, pt_173_34 S4]
  refine (bnd (xal_eq (a := 199) (i := 1) j1 m1)).trans ?_
  rw [w2]
  exact (bnd (xas_eq (a := 199) (i := 1) j1)).trans rfl
theorem t_holder (C0 : Cx T L h0 p0 b) (R0 : Rx T L g0 (tk_n T L p0 b).1 (tk_n T L p0 b).2) (C : CD h0 g0 S) (CFh : CF h0 g0 S F1 F2 p0) (h6 : xm g0 199 1 < 6) (x : Int) : TR T L S h0 g0 p0 (f_X1_readHolder 6 h0) (f_X12_holderTold 173 x g0) F1 F2 := by
  have Sh := C0.1.1
  obtain ⟨n, hn⟩ : ∃ n : Nat, xm g0 199 1 = (n : Int) := ⟨(xm g0 199 1).toNat, by have := C.2.2.1; omega⟩
  have full := t_heldFull R0.1 R0.2.2.2.1 1 (by decide) hn 6 x
  have full' : f_X12_isFull 173 1 6 x g0 = some (0, g0) := by rw [if_neg (by omega)] at full; exact full
  obtain ⟨h1, e1, G1⟩ := go_0 C0 R0 C CFh
  have Sh1 := G1.1.1.1.1
  obtain ⟨v2, w2, h2, g2, e2, e2', o2⟩ := go_new G1
  unfold f_X1_readHolder f_X12_holderTold
  rw [r60 Sh, x62 Sh, e1, bbind, x16 Sh1, e2, bbind, xM R0.1, full', bbind, if_pos rfl, xM R0.1, e2', bbind]
  rcases o2 with ⟨q2, nr, G2, -, N2⟩ | ⟨q2, B⟩
  · have Sh2 := G2.1.1.1.1
    have Sg2 := G2.1.2.1
    obtain ⟨v3, h3, g3, e3, e3', o3⟩ := go_wordx G2 (A := 179) (w := 3) (by decide +kernel) (by decide)
    have e3x : f_X6_needWord 2 3 h2 = some (v3, h3) := e3
    have e3y : f_X12_asks 173 179 g2 = some g3 := e3'
    rw [if_neg q2, r60 Sh2, x62 Sh2, e3x, bbind, gM Sg2, pt_173_13 Sg2, xM Sg2, e3y, bbind]
    rcases o3 with ⟨rfl, G3, -, N3⟩ | ⟨rfl, B⟩
    · have Sh3 := G3.1.1.1.1
      have Sg3 := G3.1.2.1
      obtain ⟨v4, w4, h4, g4, e4, e4', o4⟩ := go_held G3
      rw [if_neg one_ne, x16 Sh3, e4, bbind, xM Sg3, e4', bbind]
      rcases o4 with ⟨j, rfl, rfl, j1, G4, -, N4, j8, j33⟩ | ⟨rfl, rfl, B⟩
      · have Sh4 := G4.1.1.1.1
        have Sg4 := G4.1.2.1
        have K4 := G4.2.1
        have h25 := G4.1.2.2.2.2.1
        obtain ⟨m, hm⟩ : ∃ m : Nat, xm g4 199 1 = (m : Int) := ⟨(xm g4 199 1).toNat, by have := K4.2.2.1; omega⟩
        have m6 : m ≤ 6 := by have := K4.2.2.1; omega
        have sv : ∀ i : Nat, i < m → xm h4 (S + 8) i = xm g4 203 i := fun i hi => (K4.2.2.2.2.2.2.2.2.2.2.2.2.2.2.2.2.1 i (by omega)).1.1
        have ho := t_holderOf (cd_S K4) m6 (j : Int)
        rw [if_neg (by omega), g6k Sh4, cd_6 K4, gCS (cd_S K4), cs_p13 (cd_S K4), g6k Sh4, cd_6 K4, gCS (cd_S K4), (cd_2 K4).trans hm, x9S (cd_S K4), ho, bbind]
        rcases xfind_spec (fun i => decide (xm h4 (S + 8) i = (j : Int))) m with ⟨f1, f2⟩ | ⟨y, f1, f2, f3, f4⟩
        · have no : ∀ i, i < m → xm g4 203 i ≠ (j : Int) := fun i hi q => by
            have := f2 i hi
            rw [sv i hi, q] at this
            simp at this
          obtain ⟨v5, h5, g5, e5, e5', o5⟩ := go_wordx G4 (A := 180) (w := 4) (by decide +kernel) (by decide)
          have e5x : f_X6_needWord 2 4 h4 = some (v5, h5) := e5
          have e5y : f_X12_asks 173 180 g4 = some g5 := e5'
          rw [if_pos f1, s_35 Sg4 h25 hm m6 _ _ no, bbind, r60 Sh4, x62 Sh4, e5x, bbind, gM Sg4, pt_173_14 Sg4, xM Sg4, e5y, bbind]
          rcases o5 with ⟨rfl, G5, -, N5⟩ | ⟨rfl, B⟩
          · have Sh5 := G5.1.1.1.1
            have Sg5 := G5.1.2.1
            obtain ⟨v6, w6, h6', g6, e6, e6', o6⟩ := go_held G5
            rw [if_neg one_ne, x16 Sh5, e6, bbind, xM Sg5, e6', bbind]
            rcases o6 with ⟨k, rfl, rfl, k1, G6, -, N6, -⟩ | ⟨rfl, rfl, B⟩
            · have Sh6 := G6.1.1.1.1
              have Sg6 := G6.1.2.1
              obtain ⟨v7, h7, g7, e7, e7', o7⟩ := go_wordx G6 (A := 181) (w := 5) (by decide +kernel) (by decide)
              have e7x : f_X6_needWord 2 5 h6' = some (v7, h7) := e7
              have e7y : f_X12_asks 173 181 g6 = some g7 := e7'
              rw [if_neg (by omega), r60 Sh6, x62 Sh6, e7x, bbind, gM Sg6, pt_173_15 Sg6, xM Sg6, e7y, bbind]
              rcases o7 with ⟨rfl, G7, -, N7⟩ | ⟨rfl, B⟩
              · have Sh7 := G7.1.1.1.1
                have Sg7 := G7.1.2.1
                obtain ⟨v8, w8, h8, g8, e8, e8', o8⟩ := go_num G7 (most := 999) (by decide)
                rw [if_neg one_ne, r60 Sh7, x62 Sh7, e8, bbind, xM Sg7, e8', bbind]
                rcases o8 with ⟨rfl, q81, q82, q83, G8, -, N8⟩ | ⟨rfl, B⟩
                · have Sh8 := G8.1.1.1.1
                  have Sg8 := G8.1.2.1
                  have K8 := G8.2.1
                  have nn : Fx DN g4 g8 := ((N5.tr N6).tr N7).tr N8
                  have m8 : xm g8 199 1 = (m : Int) := (nn.2.2.2 _ _ (dn_ne (by omega))).trans hm
                  have c8 : xm g8 199 0 = xm g4 199 0 := nn.2.2.2 _ _ (dn_ne (by omega))
                  have c84 : xm g8 199 0 = xm g3 199 0 := c8.trans (N4.2.2.2 _ _ (dn_ne (by omega)))
                  have c85 : xm g5 199 0 = xm g4 199 0 := N5.2.2.2 _ _ (dn_ne (by omega))
                  have m0 : xm g4 199 1 = xm g0 199 1 := ((N2.tr N3).tr N4).2.2.2 _ _ (dn_ne (by omega))
                  have m66 : m < 6 := by omega
                  have s2 := K8.1.1
                  have ad := t_addHolder (cd_S K8) ((cd_2 K8).trans m8) m66 v2 (j : Int) (k : Int) v8
                  rw [if_neg q81, g6k Sh8, cd_6 K8, x0S (cd_S K8), ad, bbind]
                  refine Eq.subst (motive := fun z => TR T L S h0 g0 p0 _ z F1 F2) (t_holdFin Sg8 m8 m66 w2 (j : Int) (k : Int) v8 G8.1.2.2.2.2.1).symm ?_
                  refine tr_fin G8 (cd_holder K8 m8 m66 nr ⟨by omega, by omega⟩ ⟨by omega, by omega⟩ ⟨q82, q83⟩ (fun i hi => ?_)) rfl rfl rfl (fun a k q => ?_) (((((Fx.refl DG g8).set ?_).set rfl).set rfl).set rfl |>.set rfl) (fun a k q => ?_)
                  · rw [nn.2.2.2 _ _ (dn_ne (by omega))]
                    exact no i hi
                  · rw [xm_xset, if_neg (by omega), xm_xset, if_neg (by omega), xm_xset, if_neg (by omega), xm_xset, if_neg (by omega), xm_xset, if_neg (by omega)]
                  · simp [DG, Nat.blt]; omega
                  · rw [xm_xset, if_neg (by omega), xm_xset, if_neg (by omega), xm_xset, if_neg (by omega), xm_xset, if_neg (by omega), xm_xset, if_neg (by omega)]
                · have b5 := B.1
                  obtain ⟨e, -, B1⟩ := b5
                  rw [if_pos rfl, gM B1.1, b_5 B1]
                  exact tr_bad B
              · have b5 := B.1
                obtain ⟨e, -, B1⟩ := b5
                rw [if_pos rfl, xM B1.1, b_number B1, bbind, gM B1.1, b_5 B1]
                exact tr_bad B
            · have b5 := B.1
              obtain ⟨e, -, B1⟩ := b5
              rw [if_pos rfl, gM B1.1, xM B1.1, b_asks B1, bbind, xM B1.1, b_number B1, bbind, gM B1.1, b_5 B1]
              exact tr_bad B
          · have b5 := B.1
            obtain ⟨e, -, B1⟩ := b5
            have o1 : f_X12_oneOf 173 0 g5 = some (0, g5) := b_oneOf B1 B.2.1 (k := 0) (by decide)
            rw [if_pos rfl, xM B1.1, o1, bbind, gM B1.1, xM B1.1, b_asks B1, bbind, xM B1.1, b_number B1, bbind, gM B1.1, b_5 B1]
            exact tr_bad B
        · obtain ⟨h5, a1, e5, d5⟩ := t_badName G4.1.1.1 j8
          obtain ⟨g5, a2, a4, n5⟩ := bx_3 G4.1.2 j33
          have a3 : BD S h0 g0 h5 g5 := go_bad G4 d5 n5 ⟨_, e5, a4⟩
          simp only [decide_eq_true_eq, decide_eq_false_iff_not] at f3 f4
          have hm' : xm g5 199 1 = (m : Int) := (n5.2.2.2 _ _ (dn_ne (by omega))).trans hm
          rw [if_neg (by omega), s_35x Sg4 h25 hm m6 _ _ f2 ((sv y f2).symm.trans f3) (fun i hi q => f4 i hi ((sv i (by omega)).trans q)) a2 a4 hm', bbind, x16 Sh4, a1, bbind, xbo_ok (Or.inl rfl)]
          have o1 : f_X12_oneOf 173 0 g5 = some (0, g5) := b_oneOf a4 a3.2.1 (k := 0) (by decide)
          rw [gM a4.1, xM a4.1, b_asks a4, bbind, xM a4.1, o1, bbind, gM a4.1, xM a4.1, b_asks a4, bbind, xM a4.1, b_number a4, bbind, gM a4.1, b_5 a4]
          exact tr_bad a3
      · have b5 := B.1
        obtain ⟨e, -, B1⟩ := b5
        have o1 : f_X12_oneOf 173 0 g4 = some (0, g4) := b_oneOf B1 B.2.1 (k := 0) (by decide)
        rw [if_pos rfl, b_35 B1 B.2.1, bbind, gM B1.1, xM B1.1, b_asks B1, bbind, xM B1.1, o1, bbind, gM B1.1, xM B1.1, b_asks B1, bbind, xM B1.1, b_number B1, bbind, gM B1.1, b_5 B1]
        exact tr_bad B
    · have b5 := B.1
      obtain ⟨e, -, B1⟩ := b5
      have o1 : f_X12_oneOf 173 0 g3 = some (0, g3) := b_oneOf B1 B.2.1 (k := 0) (by decide)
      rw [if_pos rfl, xM B1.1, o1, bbind, b_35 B1 B.2.1, bbind, gM B1.1, xM B1.1, b_asks B1, bbind, xM B1.1, o1, bbind, gM B1.1, xM B1.1, b_asks B1, bbind, xM B1.1, b_number B1, bbind, gM B1.1, b_5 B1]
      exact tr_bad B
  · have b5 := B.1
    obtain ⟨e, -, B1⟩ := b5
    have o1 : f_X12_oneOf 173 0 g2 = some (0, g2) := b_oneOf B1 B.2.1 (k := 0) (by decide)
    rw [if_pos q2, gM B1.1, xM B1.1, b_asks B1, bbind, xM B1.1, o1, bbind, b_35 B1 B.2.1, bbind, gM B1.1, xM B1.1, b_asks B1, bbind, xM B1.1, o1, bbind, gM B1.1, xM B1.1, b_asks B1, bbind, xM B1.1, b_number B1, bbind, gM B1.1, b_5 B1]
    exact tr_bad B
end
