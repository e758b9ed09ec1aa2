/-! ===== all statements told ===== -/
theorem cd_set0 {h g : xa_H} {S : Nat} (C : CD h g S) (v : Int) : CD (xset h S 0 v) g S := by
  have m : ∀ a k, a ≠ S ∨ k ≠ 0 → xm (xset h S 0 v) a k = xm h a k := fun a k q => by rw [xm_xset, if_neg (by omega)]
  have s2 := C.1.1
  obtain ⟨⟨a1, a2, a3⟩, C2⟩ := C
  refine ⟨⟨a1, ?_, by rw [m _ _ (by omega)]; exact a3⟩, ?_⟩
  · obtain ⟨s1, s2, s3, s4, s5, s6⟩ := a2
    exact ⟨s1, s2, s3, fun j hj => by rw [m _ _ (by omega)]; exact s4 j hj, by rw [m _ _ (by omega)]; exact s5, fun j hj => by rw [m _ _ (by omega)]; exact s6 j hj⟩
  · simp (disch := omega) only [m]
    exact C2
def DH (a k : Nat) : Bool := DF a k || (a == 173 && k == 48)
theorem DH_nf : nofix DH := by unfold nofix; decide +kernel
theorem DF_DH {g g' : xa_H} (e : Fx DF g g') : Fx DH g g' := e.mono fun x k q => by
  unfold DH at q
  simp only [Bool.or_eq_false_iff] at q
  exact q.1
/-- where the loops stand -/
def Lq (T : Nat → Int) (L S : Nat) (h0 g0 : xa_H) (n : Nat) (h g : xa_H) (p : Nat) (b : Bool) : Prop := PQ T L h g p b ∧ CD h g S ∧ (∃ F1 F2, CF h g S F1 F2 p) ∧ (xm g 173 48 = (n : Int) ∧ n ≤ 80) ∧ GX S h0 h ∧ Fx DH g0 g ∧ xn h + 3 * fcn g0 = xn h0 + 3 * fcn g ∧ xz h + 1666 * fcn g0 ≤ xz h0 + 1666 * fcn g
/-- what they come to -/
def Lz (T : Nat → Int) (L S : Nat) (h0 g0 : xa_H) (v : Int) (h g : xa_H) : Prop := (v = (S : Int) ∧ ∃ n p b, Lq T L S h0 g0 n h g p b ∧ xm h S 0 = (n : Int)) ∨ (v = -1 ∧ PF h g ∧ GX S h0 h ∧ Fx DH g0 g ∧ xn h ≤ xn h0 + 6 ∧ xz h ≤ xz h0 + 3332)
theorem fcn_set {g : xa_H} {k : Nat} {v : Int} : fcn (xset g 173 k v) = fcn g := by
  have a : xm (xset g 173 k v) 209 0 = xm g 209 0 := by rw [xm_xset, if_neg (by omega)]
  have b : xm (xset g 173 k v) 209 1 = xm g 209 1 := by rw [xm_xset, if_neg (by omega)]
  unfold fcn
  rw [a, b]
theorem fcn_le (g : xa_H) : fcn g ≤ 2 := by
  unfold fcn
  split <;> split <;> omega
/-- behind a fault -/
theorem b_J175 {g : xa_H} {e : Nat × Nat} (B : Bx g e) : ∃ g', f_X12_statementTold_J175 173 g = some g' ∧ Bx g' e ∧ Fx DH g g' := by
  refine ⟨xset g 173 48 (w32 (xm g 173 48 + 1)), ?_, bx_mv B (B.1.set (by decide +kernel)) (by rw [xm_xset, if_neg (by omega)]) (by rw [xm_xset, if_neg (by omega)]), (Fx.refl DH g).set rfl⟩
  unfold f_X12_statementTold_J175
  rw [xM B.1, b_asksSign B, bbind, gM B.1, pMf B.1]
theorem b_L133 {g : xa_H} {e : Nat × Nat} (B : Bx g e) {fu : Nat} (hf : 0 < fu) : xit (fun s => f_X12_open_L133 173 s) fu g = some g := by
  refine xit_end ?_ hf
  show f_X12_open_L133 173 g = _
  unfold f_X12_open_L133
  rw [gM B.1, b_5 B]
theorem Fx.tr' {D : Nat → Nat → Bool} {a b c : xa_H} (x : Fx D a b) (y : Fx D b c) : Fx D a c := x.tr y
theorem t_loop {T : Nat → Int} {L S : Nat} {h0 g0 : xa_H} : ∀ (m n : Nat), n + m = 80 → ∀ (h g : xa_H) (p : Nat) (b : Bool), Lq T L S h0 g0 n h g p b → ∀ fu fu', m < fu → m + 1 < fu' →
    ∃ v h' g', xit (fun s => f_X1_readCase_L21 6 s.1 s.2) fu ((n : Int), h) = some (.inl (v, h')) ∧ xit (fun s => f_X12_open_L133 173 s) fu' g = some g' ∧ Lz T L S h0 g0 v h' g' := by
  intro m
  induction m with
  | zero =>
    intro n hm h g p b A fu fu' hf hf'
    obtain ⟨fu, rfl⟩ : ∃ z, fu = z + 1 := ⟨fu - 1, by omega⟩
    obtain ⟨fu', rfl⟩ : ∃ z, fu' = z + 1 := ⟨fu' - 1, by omega⟩
    obtain ⟨P, K, ⟨F1, F2, KF⟩, ⟨a1, a2⟩, a3, a4, a5, a6⟩ := A
    obtain ⟨Cc, R⟩ := P
    have Sh := Cc.1.1
    have KS := cd_S K
    have s2 := K.1.1
    have fl := fcn_le g
    have lk := s_look R
    have R' := rx_at R
    obtain ⟨g1, eg⟩ : ∃ z, z = xset g 173 2 (p : Int) := ⟨_, rfl⟩
    have d1 : Fx DB g g1 := by rw [eg]; exact rx_fx
    have at1 : xm g1 173 2 = (p : Int) := by rw [eg, xm_xset, if_pos ⟨rfl, rfl⟩]
    rw [← eg] at lk R'
    have D1 : Fx DH g g1 := DF_DH (DG_DF (DN_DG (DB_DN d1)))
    have K1 := cd_lex K (Fx.refl DC h) (DB_DN d1)
    have KF1 := cf_lex KF KS s2 (Nat.le_refl p) (Fx.refl DC h) (DB_DN d1)
    have b1 : xm g1 173 48 = (n : Int) := (d1.2.2.2 173 48 rfl).trans a1
    have f1 := fcn_eq (DN_DG (DB_DN d1))
    have c3 : xm h 2 3 = tk_k T L p b := Cc.2.2.2.1
    have T0 : p < L → lkv T L p ≠ -1 := fun q => by
      have := (Cc.1.2.1 p (by have := Cc.1.2.2.2.1; omega)).2
      unfold lkv
      rw [if_pos q]
      omega
    have pl : p ≤ L := Cc.2.1
    by_cases z : L ≤ p
    · -- the end
      refine ⟨(S : Int), xset h S 0 (n : Int), g1, ?_, ?_, Or.inl ⟨rfl, n, p, b, ⟨⟨cx_mv Cc (sh_big Sh s2) (fun a k _ => by rw [xm_xset, if_neg (by omega)]), R'⟩, cd_set0 K1 _, ⟨F1, F2, cf_set KF1 s2 (cd_S K1) rfl rfl (fun a k q => by rw [xm_xset, if_neg (by omega)]) (fun _ _ _ => rfl)⟩, ⟨b1, a2⟩, a3.set (by omega), a4.tr D1, by rw [f1]; exact a5, by rw [f1]; exact a6⟩, by rw [xm_xset, if_pos ⟨rfl, rfl⟩]⟩⟩
      · refine xit_end ?_ (by omega)
        show f_X1_readCase_L21 6 (n : Int) h = _
        unfold f_X1_readCase_L21
        have p2 : xpf h 0 0 (S : Int) (n : Int) = some (xset h S 0 (n : Int)) := xpf_eq (CS.ok KS)
        have m6 : xm (xset h S 0 (n : Int)) 6 2 = (S : Int) := by rw [xm_xset, if_neg (by omega)]; exact cd_6 K
        rw [if_neg (by omega), r60 Sh, g2k Sh, c3, if_pos (tk_k_e.mpr z), g6k Sh, cd_6 K]
        refine (bnd p2).trans ?_
        rw [g6k (sh_big Sh s2), m6]
      · refine xit_end ?_ (by omega)
        show f_X12_open_L133 173 g = _
        unfold f_X12_open_L133
        rw [gM R.1, R.2.2.2.1, if_pos rfl, xM R.1, lk, bbind, if_pos (by unfold lkv; exact if_neg (by omega))]
    · have k0 : tk_k T L p b ≠ 0 := fun q => z (tk_k_e.mp q)
      have lk0 := T0 (by omega)
      have ref1 : ∀ g2, f_X12_statementTold 173 g1 = some g2 → xit (fun s => f_X12_open_L133 173 s) (fu' + 1) g = xit (fun s => f_X12_open_L133 173 s) fu' g2 := fun g2 e => by
        refine xit_go ?_
        show f_X12_open_L133 173 g = _
        unfold f_X12_open_L133
        rw [gM R.1, R.2.2.2.1, if_pos rfl, xM R.1, lk, bbind, if_neg lk0, xM R'.1, e, bbind]
      -- the eightieth has been
      obtain ⟨h2, e2, E2, d2⟩ := t_tooMany Cc
      have B2 : Bx (xset (xset g1 173 5 5) 173 6 (p : Int)) (5, p) := bx_fail R'.1 5 p (by decide)
      have st : f_X12_statementTold 173 g1 = some (xset (xset g1 173 5 5) 173 6 (p : Int)) := by
        unfold f_X12_statementTold
        rw [gM R'.1, gM R'.1, at1, b1, if_pos (by omega), xM R'.1, s_fail R'.1 R'.2.2.2.1, bbind]
      refine ⟨-1, h2, xset (xset g1 173 5 5) 173 6 (p : Int), ?_, ?_, Or.inr ⟨rfl, ⟨_, E2, B2⟩, a3.tr (DC_GX d2), ((a4.tr D1).set rfl).set rfl, ?_, ?_⟩⟩
      · refine xit_end ?_ (by omega)
        show f_X1_readCase_L21 6 (n : Int) h = _
        unfold f_X1_readCase_L21
        rw [if_neg (by omega), r60 Sh, g2k Sh, c3, if_neg k0, if_pos (by omega), x16 Sh, e2, bbind]
      · rw [ref1 _ st]
        exact b_L133 B2 (by omega)
      · have := d2.1
        omega
      · have := d2.2.1
        omega
  | succ m ih =>
    intro n hm h g p b A fu fu' hf hf'
    obtain ⟨fu, rfl⟩ : ∃ z, fu = z + 1 := ⟨fu - 1, by omega⟩
    obtain ⟨fu', rfl⟩ : ∃ z, fu' = z + 1 := ⟨fu' - 1, by omega⟩
    obtain ⟨P, K, ⟨F1, F2, KF⟩, ⟨a1, a2⟩, a3, a4, a5, a6⟩ := A
    obtain ⟨Cc, R⟩ := P
    have Sh := Cc.1.1
    have KS := cd_S K
    have s2 := K.1.1
    have fl := fcn_le g
    have lk := s_look R
    have R' := rx_at R
    obtain ⟨g1, eg⟩ : ∃ z, z = xset g 173 2 (p : Int) := ⟨_, rfl⟩
    have d1 : Fx DB g g1 := by rw [eg]; exact rx_fx
    have at1 : xm g1 173 2 = (p : Int) := by rw [eg, xm_xset, if_pos ⟨rfl, rfl⟩]
    rw [← eg] at lk R'
    have D1 : Fx DH g g1 := DF_DH (DG_DF (DN_DG (DB_DN d1)))
    have K1 := cd_lex K (Fx.refl DC h) (DB_DN d1)
    have KF1 := cf_lex KF KS s2 (Nat.le_refl p) (Fx.refl DC h) (DB_DN d1)
    have b1 : xm g1 173 48 = (n : Int) := (d1.2.2.2 173 48 rfl).trans a1
    have f1 := fcn_eq (DN_DG (DB_DN d1))
    have c3 : xm h 2 3 = tk_k T L p b := Cc.2.2.2.1
    have T0 : p < L → lkv T L p ≠ -1 := fun q => by
      have := (Cc.1.2.1 p (by have := Cc.1.2.2.2.1; omega)).2
      unfold lkv
      rw [if_pos q]
      omega
    have pl : p ≤ L := Cc.2.1
    by_cases z : L ≤ p
    · -- the end
      refine ⟨(S : Int), xset h S 0 (n : Int), g1, ?_, ?_, Or.inl ⟨rfl, n, p, b, ⟨⟨cx_mv Cc (sh_big Sh s2) (fun a k _ => by rw [xm_xset, if_neg (by omega)]), R'⟩, cd_set0 K1 _, ⟨F1, F2, cf_set KF1 s2 (cd_S K1) rfl rfl (fun a k q => by rw [xm_xset, if_neg (by omega)]) (fun _ _ _ => rfl)⟩, ⟨b1, a2⟩, a3.set (by omega), a4.tr D1, by rw [f1]; exact a5, by rw [f1]; exact a6⟩, by rw [xm_xset, if_pos ⟨rfl, rfl⟩]⟩⟩
      · refine xit_end ?_ (by omega)
        show f_X1_readCase_L21 6 (n : Int) h = _
        unfold f_X1_readCase_L21
        have p2 : xpf h 0 0 (S : Int) (n : Int) = some (xset h S 0 (n : Int)) := xpf_eq (CS.ok KS)
        have m6 : xm (xset h S 0 (n : Int)) 6 2 = (S : Int) := by rw [xm_xset, if_neg (by omega)]; exact cd_6 K
        rw [if_neg (by omega), r60 Sh, g2k Sh, c3, if_pos (tk_k_e.mpr z), g6k Sh, cd_6 K]
        refine (bnd p2).trans ?_
        rw [g6k (sh_big Sh s2), m6]
      · refine xit_end ?_ (by omega)
        show f_X12_open_L133 173 g = _
        unfold f_X12_open_L133
        rw [gM R.1, R.2.2.2.1, if_pos rfl, xM R.1, lk, bbind, if_pos (by unfold lkv; exact if_neg (by omega))]
    · have k0 : tk_k T L p b ≠ 0 := fun q => z (tk_k_e.mp q)
      have lk0 := T0 (by omega)
      have ref1 : ∀ g2, f_X12_statementTold 173 g1 = some g2 → xit (fun s => f_X12_open_L133 173 s) (fu' + 1) g = xit (fun s => f_X12_open_L133 173 s) fu' g2 := fun g2 e => by
        refine xit_go ?_
        show f_X12_open_L133 173 g = _
        unfold f_X12_open_L133
        rw [gM R.1, R.2.2.2.1, if_pos rfl, xM R.1, lk, bbind, if_neg lk0, xM R'.1, e, bbind]
      obtain ⟨g2, s1, v2, h2, g2', t1, t2, t3, t4, o⟩ := t_st Cc (by omega) R' at1 K1 KF1 (by omega)
      have gg : g2' = g2 := (Option.some.inj t2).symm
      subst gg
      have cl : f_X1_readCase_L21 6 (n : Int) h = if v2 = 0 then some (Sum.inr (Sum.inl (-1, h2))) else (xgf h2 1 0 6).bind fun x17 => (xrc h2 6 x17 (f_X6_needSign x17 59 h2)).bind fun r18 => if r18.1 = 0 then some (Sum.inr (Sum.inl (-1, r18.2))) else some (Sum.inl (w32 ((n : Int) + 1), r18.2)) := by
        unfold f_X1_readCase_L21
        rw [if_neg (by omega), r60 Sh, g2k Sh, c3, if_neg k0, if_neg (by omega), x16 Sh, t1, bbind]
      have fl2 := fcn_le g2'
      rcases o with ⟨rfl, p2, bb, G1, G2, P2, K2, KF2, o1, o2, o3⟩ | ⟨rfl, ⟨e, E2, B2⟩, o2, o3⟩
      · rw [if_neg one_ne, r60 P2.1.1.1, x62 P2.1.1.1] at cl
        obtain ⟨v3, h3, g3, e3, e3', d3, n3, o⟩ := k_sign P2 (c := 59) g59
        rw [e3, bbind] at cl
        have J : f_X12_statementTold_J175 173 g2' = (xgf g3 12 48 173).bind fun x32 => (xpf g3 12 48 173 (w32 (x32 + 1))).bind fun h33 => some h33 := by
          unfold f_X12_statementTold_J175
          rw [xM P2.2.1, e3', bbind]
        have b3 : xm g3 173 48 = xm g2' 173 48 := n3.2.2.2 173 48 rfl
        have b2 : xm g2' 173 48 = (n : Int) := (t4.2.2.2 173 48 rfl).trans b1
        rcases o with ⟨rfl, P3, l3⟩ | ⟨rfl, e, E3, B3⟩
        · rw [if_neg one_ne] at cl
          have Sg3 := P3.2.1
          have S4 : SH (xset g3 173 48 ((n + 1 : Nat) : Int)) := Sg3.set (by decide +kernel)
          have st : f_X12_statementTold 173 g1 = some (xset g3 173 48 ((n + 1 : Nat) : Int)) := by
            have w1 : w32 ((n : Int) + 1) = ((n + 1 : Nat) : Int) := by rw [w32_id (by omega) (by omega)]; omega
            rw [s1, J, gM Sg3, b3, b2, pMf Sg3, w1]
          have n3' : Fx DH g2' (xset g3 173 48 ((n + 1 : Nat) : Int)) := (DF_DH (DG_DF (DN_DG n3))).set rfl
          have K3 := cd_lex K2 d3 n3
          have KF3 := cf_lex KF2 (cd_S K2) s2 (n_ge (T := T) (L := L) (p := p2) (b := bb)) d3 n3 (p' := (tk_n T L p2 bb).1)
          have f3 : fcn (xset g3 173 48 ((n + 1 : Nat) : Int)) = fcn g2' := fcn_set.trans (fcn_eq (DN_DG n3))
          have LL : Lq T L S h0 g0 (n + 1) h3 (xset g3 173 48 ((n + 1 : Nat) : Int)) _ _ := ⟨⟨P3.1, rx_mvq P3.2 S4 (fun a k y => by rw [xm_xset, if_neg (by omega)])⟩, cd_mv K3 (Nat.le_refl _) (fun _ _ => rfl) (fun _ _ _ _ _ => rfl) rfl (fun a k _ _ => by rw [xm_xset, if_neg (by omega)]), ⟨G1, G2, cf_mv KF3 (Nat.le_refl _) (Nat.le_refl _) (fun _ _ => rfl) (fun _ _ _ _ => rfl) (by have := (cd_S K3).2.1; omega) (fun a k y => by rw [xm_xset, if_neg (by omega)])⟩, ⟨by rw [xm_xset, if_pos ⟨rfl, rfl⟩], by omega⟩, (a3.tr t3).tr (DC_GX d3), ((a4.tr D1).tr (DF_DH t4)).tr n3', by rw [f3]; have := d3.1; omega, by rw [f3]; have := d3.2.1; omega⟩
          obtain ⟨v, h', g', x1, x2, x3⟩ := ih (n + 1) (by omega) _ _ _ _ LL fu fu' (by omega) (by omega)
          refine ⟨v, h', g', ?_, by rw [ref1 _ st]; exact x2, x3⟩
          rw [← x1]
          refine xit_go ?_
          show f_X1_readCase_L21 6 (n : Int) h = _
          have w1 : w32 ((n : Int) + 1) = ((n + 1 : Nat) : Int) := by rw [w32_id (by omega) (by omega)]; omega
          rw [cl, w1]
        · rw [if_pos rfl] at cl
          have B4 : Bx (xset g3 173 48 (w32 ((n : Int) + 1))) e := bx_mv B3 (B3.1.set (by decide +kernel)) (by rw [xm_xset, if_neg (by omega)]) (by rw [xm_xset, if_neg (by omega)])
          have st : f_X12_statementTold 173 g1 = some (xset g3 173 48 (w32 ((n : Int) + 1))) := by
            rw [s1, J, gM B3.1, b3, b2, pMf B3.1]
          refine ⟨-1, h3, _, xit_end cl (by omega), by rw [ref1 _ st]; exact b_L133 B4 (by omega), Or.inr ⟨rfl, ⟨e, E3, B4⟩, (a3.tr t3).tr (DC_GX d3), (((a4.tr D1).tr (DF_DH t4)).tr (DF_DH (DG_DF (DN_DG n3)))).set rfl, ?_, ?_⟩⟩
          · have := d3.1
            omega
          · have := d3.2.1
            omega
      · rw [if_pos rfl] at cl
        obtain ⟨g3, j1, B3, j2⟩ := b_J175 B2
        refine ⟨-1, h2, g3, xit_end cl (by omega), by rw [ref1 g3 (s1.trans j1)]; exact b_L133 B3 (by omega), Or.inr ⟨rfl, ⟨e, E2, B3⟩, a3.tr t3, ((a4.tr D1).tr (DF_DH t4)).tr j2, ?_, ?_⟩⟩
        · omega
        · omega
