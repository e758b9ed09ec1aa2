/-! ===== a statement told ===== -/
theorem xset_id {h : xa_H} {a k : Nat} {v : Int} (e : xm h a k = v) : xset h a k v = h := by
  obtain ⟨n, z, kd, f⟩ := h
  show (n, z, kd, fun a' k' => if a' = a ∧ k' = k then v else f a' k') = (n, z, kd, f)
  congr 3
  funext a' k'
  by_cases y : a' = a ∧ k' = k
  · rw [if_pos y, y.1, y.2]
    exact e.symm
  · rw [if_neg y]
theorem ts_tr {T : Nat → Int} {L S F1 F2 : Nat} {h g g1 : xa_H} {p : Nat} {fc : Option (Int × xa_H)} {fr : Option xa_H} (t : TR T L S h g1 p fc fr F1 F2) (e : Fx DB g g1) : TS T L S h g p fc fr := by
  obtain ⟨v, h', g', e1, e2, e3, e4, o⟩ := t
  have d1 : Fx DG g g1 := DN_DG (DB_DN e)
  refine ⟨v, h', g', e1, e2, e3, (DG_DF d1).tr (DG_DF e4), ?_⟩
  rcases o with ⟨o1, p', b', o2, o3, o4, o5, o6, o7⟩ | o
  · have f1 := fcn_eq e4
    have f2 := fcn_eq d1
    exact Or.inl ⟨o1, p', b', F1, F2, o2, o3, o4, o5, by omega, by omega⟩
  · exact Or.inr o
theorem ts_mv {T : Nat → Int} {L S : Nat} {h g g1 : xa_H} {p : Nat} {fc : Option (Int × xa_H)} {fr : Option xa_H} (t : TS T L S h g1 p fc fr) (e : Fx DB g g1) : TS T L S h g p fc fr := by
  obtain ⟨v, h', g', e1, e2, e3, e4, o⟩ := t
  have d1 : Fx DG g g1 := DN_DG (DB_DN e)
  refine ⟨v, h', g', e1, e2, e3, (DG_DF d1).tr e4, ?_⟩
  rw [fcn_eq d1] at o
  exact o
theorem bind_J {α β γ : Type} {E : Option α} {F : α → Option β} {g' : β} {f : β → Option γ} (e : (E.bind fun r => (F r).bind fun h => some h) = some g') : (E.bind fun r => (F r).bind f) = f g' := by
  cases E with
  | none => cases e
  | some r =>
    change ((F r).bind fun h => some h) = some g' at e
    show (F r).bind f = f g'
    cases q : F r with
    | none => rw [q] at e; cases e
    | some y => rw [q] at e; cases e; rfl
/-- one of the eight is full -/
theorem ts_full {T : Nat → Int} {L S : Nat} {h g : xa_H} {p p' : Nat} {b b' : Bool} (C : Cx T L h p b) (R : Rx T L g p' b') : TS T L S h g p (f_X1_tooMany 6 h) (some (xset (xset g 173 5 5) 173 6 (p : Int))) := by
  obtain ⟨h1, e1, e2, e3⟩ := t_tooMany C
  have f : Fx DN g (xset (xset g 173 5 5) 173 6 (p : Int)) := ((Fx.refl DN g).set rfl).set rfl
  exact ⟨0, h1, _, e1, rfl, DC_GX e3, DG_DF (DN_DG f), Or.inr ⟨rfl, ⟨_, e2, bx_fail R.1 5 p (by decide)⟩, e3.1, e3.2.1⟩⟩
theorem ts_xbo {T : Nat → Int} {L S : Nat} {h g : xa_H} {p : Nat} {fc : Option (Int × xa_H)} {fr : Option xa_H} (t : TS T L S h g p fc fr) : TS T L S h g p (fc.bind fun r => xbo r.1 <| some (r.1, r.2)) fr := by
  obtain ⟨v, h', g', e1, e2, e3, e4, o⟩ := t
  refine ⟨v, h', g', ?_, e2, e3, e4, o⟩
  rw [e1, bbind]
  refine xbo_ok ?_
  rcases o with ⟨rfl, -⟩ | ⟨rfl, -⟩
  · exact Or.inr rfl
  · exact Or.inl rfl
theorem ts_get {T : Nat → Int} {L S : Nat} {h g : xa_H} {p : Nat} {fc : Option (Int × xa_H)} {fr : Option xa_H} (t : TS T L S h g p fc fr) : ∃ g', fr = some g' ∧ TS T L S h g p fc (some g') := by
  obtain ⟨v, h', g', e1, e2, e3⟩ := t
  exact ⟨g', e2, v, h', g', e1, rfl, e3⟩
section
variable {T : Nat → Int} {L S F1 F2 : Nat} {h g : xa_H} {p : Nat} {b : Bool}
theorem tk_take (R : Rx T L g p b) (hat : xm g 173 2 = (p : Int)) {A w : Nat} (hm : (A, w) ∈ wtab) (hw : w < 29) (q : tk_w T L p b ≠ (w : Int)) : f_X12_takes 173 (A : Int) g = some (0, g) := by
  rcases s_takes R hm hw with ⟨z, -⟩ | ⟨-, e⟩
  · exact absurd z q
  · rw [e, xset_id hat]
theorem tk_took (R : Rx T L g p b) {A w : Nat} (hm : (A, w) ∈ wtab) (hw : w < 29) (q : tk_w T L p b = (w : Int)) : ∃ g1, f_X12_takes 173 (A : Int) g = some (1, g1) ∧ Rx T L g1 (tk_n T L p b).1 (tk_n T L p b).2 ∧ Fx DB g g1 := by
  rcases s_takes R hm hw with ⟨-, e⟩ | ⟨z, -⟩
  · exact e
  · exact absurd q z
theorem t_st (C : Cx T L h p b) (pl : p < L) (R : Rx T L g p b) (hat : xm g 173 2 = (p : Int)) (K : CD h g S) (KF : CF h g S F1 F2 p) (h80 : xm g 173 48 ≠ 80) : ∃ g', f_X12_statementTold 173 g = f_X12_statementTold_J175 173 g' ∧ TS T L S h g p (f_X1_readStatement 6 h) (some g') := by
  have Sh := C.1.1
  have Sg := R.1
  have c7 : xm h 2 7 = tk_w T L p b := C.2.2.2.2.2.2.2
  have KS := cd_S K
  have s2 := K.1.1
  have cm := cd_m K
  have mv : ∀ g1, Fx DB g g1 → CD h g1 S ∧ CF h g1 S F1 F2 p := fun g1 e => ⟨cd_lex K (Fx.refl _ _) (DB_DN e), cf_lex KF KS s2 (Nat.le_refl _) (Fx.refl _ _) (DB_DN e)⟩
  have n0 := fun (q : tk_w T L p b ≠ ((0 : Nat) : Int)) => tk_take R hat (A := 176) (w := 0) (by decide +kernel) (by decide) q
  have n2 := fun (q : tk_w T L p b ≠ ((2 : Nat) : Int)) => tk_take R hat (A := 178) (w := 2) (by decide +kernel) (by decide) q
  have n6 := fun (q : tk_w T L p b ≠ ((6 : Nat) : Int)) => tk_take R hat (A := 182) (w := 6) (by decide +kernel) (by decide) q
  have n7 := fun (q : tk_w T L p b ≠ ((7 : Nat) : Int)) => tk_take R hat (A := 183) (w := 7) (by decide +kernel) (by decide) q
  have n8 := fun (q : tk_w T L p b ≠ ((8 : Nat) : Int)) => tk_take R hat (A := 184) (w := 8) (by decide +kernel) (by decide) q
  have n9 := fun (q : tk_w T L p b ≠ ((9 : Nat) : Int)) => tk_take R hat (A := 185) (w := 9) (by decide +kernel) (by decide) q
  have n10 := fun (q : tk_w T L p b ≠ ((10 : Nat) : Int)) => tk_take R hat (A := 186) (w := 10) (by decide +kernel) (by decide) q
  unfold f_X12_statementTold f_X1_readStatement
  rw [gM Sg, gM Sg, hat, if_neg h80, gM Sg, pt_173_10 Sg, xM Sg, r60 Sh, g2k Sh, c7]
  by_cases w0 : tk_w T L p b = ((0 : Nat) : Int)
  · obtain ⟨g1, e1, R1, d1⟩ := tk_took R (A := 176) (w := 0) (by decide +kernel) (by decide) w0
    obtain ⟨K1, KF1⟩ := mv g1 d1
    rw [show f_X12_takes 173 176 g = some (1, g1) from e1, bbind, if_neg one_ne, if_pos (show tk_w T L p b = 0 from w0), g6k Sh, cd_6 K, gCS KS, cd_1 K, xM R1.1]
    have c0 : xm g1 199 0 = xm g 199 0 := d1.2.2.2 _ _ rfl
    by_cases f : xm g 199 0 < 6
    · obtain ⟨g', e', t⟩ := ts_get (ts_tr (t_held C R1 K1 KF1 (by omega) (p : Int)) d1)
      rw [if_pos f, x16 Sh, e', bbind]
      exact ⟨g', rfl, ts_xbo t⟩
    · have full := t_heldFull R1.1 R1.2.2.2.1 0 (by decide) (n := 6) (by omega) 6 (p : Int)
      have full' : f_X12_isFull 173 0 6 (p : Int) g1 = some (1, xset (xset g1 173 5 5) 173 6 (p : Int)) := full
      rw [if_neg f, x16 Sh]
      unfold f_X12_heldTold
      rw [xM R1.1, full', bbind, if_neg one_ne, bbind]
      exact ⟨_, rfl, ts_xbo (ts_mv (ts_full C R1) d1)⟩
  rw [show f_X12_takes 173 176 g = some (0, g) from n0 w0, bbind, if_pos rfl, gM Sg, pt_173_12 Sg, xM Sg]
  by_cases w2 : tk_w T L p b = ((2 : Nat) : Int)
  · obtain ⟨g1, e1, R1, d1⟩ := tk_took R (A := 178) (w := 2) (by decide +kernel) (by decide) w2
    obtain ⟨K1, KF1⟩ := mv g1 d1
    rw [show f_X12_takes 173 178 g = some (1, g1) from e1, bbind, if_neg one_ne, if_neg (by omega), if_neg (by omega), if_pos (by omega)]
    rw [g6k Sh, cd_6 K, gCS KS, cd_2 K, xM R1.1]
    have c0 : xm g1 199 1 = xm g 199 1 := d1.2.2.2 _ _ rfl
    by_cases f : xm g 199 1 < 6
    · obtain ⟨g', e', t⟩ := ts_get (ts_tr (t_holder C R1 K1 KF1 (by omega) (p : Int)) d1)
      rw [if_pos f, x16 Sh, e', bbind]
      exact ⟨g', rfl, ts_xbo t⟩
    · have full := t_heldFull R1.1 R1.2.2.2.1 1 (by decide) (n := 6) (by omega) 6 (p : Int)
      have full' : f_X12_isFull 173 1 6 (p : Int) g1 = some (1, xset (xset g1 173 5 5) 173 6 (p : Int)) := full
      rw [if_neg f, x16 Sh]
      unfold f_X12_holderTold
      rw [xM R1.1, full', bbind, if_neg one_ne, bbind]
      exact ⟨_, rfl, ts_xbo (ts_mv (ts_full C R1) d1)⟩
  rw [show f_X12_takes 173 178 g = some (0, g) from n2 w2, bbind, if_pos rfl, gM Sg, pt_173_16 Sg, xM Sg]
  by_cases w6 : tk_w T L p b = ((6 : Nat) : Int)
  · obtain ⟨g1, e1, R1, d1⟩ := tk_took R (A := 182) (w := 6) (by decide +kernel) (by decide) w6
    obtain ⟨K1, KF1⟩ := mv g1 d1
    rw [show f_X12_takes 173 182 g = some (1, g1) from e1, bbind, if_neg one_ne, if_neg (by omega), if_neg (by omega), if_neg (by omega), if_neg (by omega), if_neg (by omega), if_neg (by omega), if_pos (by omega)]
    obtain ⟨g', e', t⟩ := ts_get (ts_tr (t_val C R1 K1 KF1) d1)
    rw [x16 Sh, xM R1.1, e', bbind]
    exact ⟨g', rfl, ts_xbo t⟩
  rw [show f_X12_takes 173 182 g = some (0, g) from n6 w6, bbind, if_pos rfl, gM Sg, pt_173_17 Sg, xM Sg]
  by_cases w7 : tk_w T L p b = ((7 : Nat) : Int)
  · obtain ⟨g1, e1, R1, d1⟩ := tk_took R (A := 183) (w := 7) (by decide +kernel) (by decide) w7
    obtain ⟨K1, KF1⟩ := mv g1 d1
    rw [show f_X12_takes 173 183 g = some (1, g1) from e1, bbind, if_neg one_ne, if_neg (by omega), if_neg (by omega), if_neg (by omega), if_neg (by omega), if_neg (by omega), if_neg (by omega), if_neg (by omega), if_pos (by omega)]
    have k3 : xm h S 3 = xm g 199 2 := K.2.2.2.2.2.2.2.1
    have cn := K.2.2.2.1
    rw [g6k Sh, cd_6 K, gCS KS, k3, xM R1.1]
    have c0 : xm g1 199 2 = xm g 199 2 := d1.2.2.2 _ _ rfl
    by_cases f : xm g 199 2 < 10
    · obtain ⟨g', e', t⟩ := ts_get (ts_tr (t_feud C R1 K1 KF1 (by omega) (p : Int)) d1)
      rw [if_pos f, x16 Sh, e', bbind]
      exact ⟨g', rfl, ts_xbo t⟩
    · have full := t_heldFull R1.1 R1.2.2.2.1 2 (by decide) (n := 10) (by omega) 10 (p : Int)
      have full' : f_X12_isFull 173 2 10 (p : Int) g1 = some (1, xset (xset g1 173 5 5) 173 6 (p : Int)) := full
      rw [if_neg f, x16 Sh]
      unfold f_X12_feudTold
      rw [xM R1.1, full', bbind, if_neg one_ne, bbind]
      exact ⟨_, rfl, ts_xbo (ts_mv (ts_full C R1) d1)⟩
  rw [show f_X12_takes 173 183 g = some (0, g) from n7 w7, bbind, if_pos rfl, gM Sg, pt_173_18 Sg, xM Sg]
  by_cases w8 : tk_w T L p b = ((8 : Nat) : Int)
  · obtain ⟨g1, e1, R1, d1⟩ := tk_took R (A := 184) (w := 8) (by decide +kernel) (by decide) w8
    obtain ⟨K1, KF1⟩ := mv g1 d1
    rw [show f_X12_takes 173 184 g = some (1, g1) from e1, bbind, if_neg one_ne, if_neg (by omega), if_neg (by omega), if_neg (by omega), if_neg (by omega), if_neg (by omega), if_neg (by omega), if_neg (by omega), if_neg (by omega), if_pos (by omega)]
    obtain ⟨g', e', t⟩ := ts_get (ts_tr (t_sis C R1 K1 KF1) d1)
    rw [x16 Sh, xM R1.1, e', bbind]
    exact ⟨g', rfl, ts_xbo t⟩
  rw [show f_X12_takes 173 184 g = some (0, g) from n8 w8, bbind, if_pos rfl, gM Sg, pt_173_19 Sg, xM Sg]
  by_cases w9 : tk_w T L p b = ((9 : Nat) : Int)
  · obtain ⟨g1, e1, R1, d1⟩ := tk_took R (A := 185) (w := 9) (by decide +kernel) (by decide) w9
    obtain ⟨K1, KF1⟩ := mv g1 d1
    rw [show f_X12_takes 173 185 g = some (1, g1) from e1, bbind, if_neg one_ne, if_neg (by omega), if_neg (by omega), if_neg (by omega), if_neg (by omega), if_neg (by omega), if_neg (by omega), if_neg (by omega), if_neg (by omega), if_neg (by omega), if_pos (by omega)]
    obtain ⟨g', e', t⟩ := ts_get (ts_mv (t_codes C pl R1 K1 KF1 (w := 0) (k := 0) (Or.inl ⟨rfl, rfl⟩)) d1)
    have e'' : f_X12_codesTold 173 0 (p : Int) g1 = some g' := e'
    rw [xM R1.1, e'', bbind]
    exact ⟨g', rfl, t⟩
  rw [show f_X12_takes 173 185 g = some (0, g) from n9 w9, bbind, if_pos rfl, gM Sg, pt_173_20 Sg, xM Sg]
  by_cases w10 : tk_w T L p b = ((10 : Nat) : Int)
  · obtain ⟨g1, e1, R1, d1⟩ := tk_took R (A := 186) (w := 10) (by decide +kernel) (by decide) w10
    obtain ⟨K1, KF1⟩ := mv g1 d1
    rw [show f_X12_takes 173 186 g = some (1, g1) from e1, bbind, if_neg one_ne, if_neg (by omega), if_neg (by omega), if_neg (by omega), if_neg (by omega), if_neg (by omega), if_neg (by omega), if_neg (by omega), if_neg (by omega), if_neg (by omega), if_neg (by omega), if_pos (by omega)]
    obtain ⟨g', e', t⟩ := ts_get (ts_mv (t_codes C pl R1 K1 KF1 (w := 1) (k := 3) (Or.inr ⟨rfl, rfl⟩)) d1)
    have e'' : f_X12_codesTold 173 1 (p : Int) g1 = some g' := e'
    rw [xM R1.1, e'', bbind]
    exact ⟨g', rfl, t⟩
  rw [show f_X12_takes 173 186 g = some (0, g) from n10 w10, bbind, if_pos rfl, gM Sg, pt_173_21 Sg, xM Sg]
  obtain ⟨g1, e1, d1, o⟩ := s_asks R (A := 187) (w := 11) (by decide +kernel) (by decide)
  rw [show f_X12_asks 173 187 g = some g1 from e1, bbind]
  by_cases w11 : tk_w T L p b = ((11 : Nat) : Int)
  · rcases o with ⟨-, R1⟩ | ⟨z, -⟩
    · obtain ⟨K1, KF1⟩ := mv g1 d1
      rw [gM R1.1, pt_173_43 R1.1, xM R1.1, if_neg (by omega), if_neg (by omega), if_neg (by omega), if_neg (by omega), if_neg (by omega), if_neg (by omega), if_neg (by omega), if_neg (by omega), if_neg (by omega), if_neg (by omega), if_neg (by omega), if_pos (by omega), x16 Sh]
      obtain ⟨g', e', t⟩ := ts_get (ts_tr (t_fog C R1 K1 KF1) d1)
      exact ⟨g', bind_J e', ts_xbo t⟩
    · exact absurd w11 z
  · rcases o with ⟨z, -⟩ | ⟨-, B1⟩
    · exact absurd z w11
    · obtain ⟨h1, a1, a2, a3⟩ := q_stray C
      have i1 : xia g1 0 208 0 = true := ia_208 B1.1 (by omega) (by omega)
      refine ⟨xset g1 208 0 0, ?_, 0, h1, _, ?_, rfl, DC_GX a3, (DG_DF (DN_DG (DB_DN d1))).set rfl, Or.inr ⟨rfl, ⟨_, a2, bx_mv B1 (B1.1.set (fixd_of (by decide +kernel))) (by rw [xm_xset, if_neg (by omega)]) (by rw [xm_xset, if_neg (by omega)])⟩, a3.1, a3.2.1⟩⟩
      · rw [gM B1.1, pt_173_43 B1.1, xM B1.1, b_number B1, bbind]
        exact bnd (xas_eq (a := 208) (i := 0) i1)
      · have st : ((xgf h 1 0 6).bind fun x82 => (xrc h 6 x82 (f_X6_stray x82 h)).bind fun r83 => xbo r83.1 <| some (r83.1, r83.2)) = some (0, h1) := by
          rw [r60 Sh, x62 Sh, a1, bbind]
          exact xbo_ok (Or.inl rfl)
        rw [if_neg (by omega)]
        by_cases z1 : tk_w T L p b = 1
        · rw [if_pos z1]; exact st
        rw [if_neg z1, if_neg (by omega)]
        by_cases z3 : tk_w T L p b = 3
        · rw [if_pos z3]; exact st
        rw [if_neg z3]
        by_cases z4 : tk_w T L p b = 4
        · rw [if_pos z4]; exact st
        rw [if_neg z4]
        by_cases z5 : tk_w T L p b = 5
        · rw [if_pos z5]; exact st
        rw [if_neg z5, if_neg (by omega), if_neg (by omega), if_neg (by omega), if_neg (by omega), if_neg (by omega), if_neg (by omega)]
        exact st
end
