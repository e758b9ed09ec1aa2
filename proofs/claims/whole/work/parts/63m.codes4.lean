/-! ===== a formula told ===== -/
def fcn (g : xa_H) : Nat := (if xm g 209 0 = -1 then 0 else 1) + (if xm g 209 1 = -1 then 0 else 1)
/-- what a statement comes to -/
def TS (T : Nat → Int) (L : Nat) (S : Nat) (h g : xa_H) (p : Nat) (fc : Option (Int × xa_H)) (fr : Option xa_H) : Prop := ∃ v h' g', fc = some (v, h') ∧ fr = some g' ∧ GX S h h' ∧ Fx DF g g' ∧ ((v = 1 ∧ ∃ p' b' F1 F2, PQ T L h' g' p' b' ∧ CD h' g' S ∧ CF h' g' S F1 F2 p' ∧ p ≤ p' ∧ xn h' + 3 * fcn g = xn h + 3 * fcn g' ∧ xz h' + 1666 * fcn g ≤ xz h + 1666 * fcn g') ∨ (v = 0 ∧ PF h' g' ∧ xn h' = xn h ∧ xz h' = xz h))
theorem fcn_eq {g g' : xa_H} (e : Fx DG g g') : fcn g' = fcn g := by
  unfold fcn
  rw [e.2.2.2 209 0 rfl, e.2.2.2 209 1 rfl]
theorem t_tooMany {T : Nat → Int} {L : Nat} {h : xa_H} {p : Nat} {b : Bool} (C : Cx T L h p b) : ∃ h', f_X1_tooMany 6 h = some (0, h') ∧ Ex h' (5, p) ∧ Fx DC h h' := by
  obtain ⟨h1, e1, e2, e3⟩ := q_refuse C.1 5 p (z := (p : Int)) rfl
  have e1' : f_X6_refuse 2 5 (p : Int) h = some (0, h1) := e1
  have S := C.1.1
  refine ⟨h1, ?_, e2, e3⟩
  unfold f_X1_tooMany
  rw [r60 S, r60 S, g2k S, C.2.2.2.2.1, x62 S, e1', bbind, xbo_ok (Or.inl rfl)]
/-- a fault 5 at the statement's begin, in both -/
theorem ts_5 {T : Nat → Int} {L S : Nat} {h g : xa_H} {p p' : Nat} {b b' : Bool} (C : Cx T L h p b) (R : Rx T L g p' b') (K : CD h g S) : ∃ h' g', f_X1_tooMany 6 h = some (0, h') ∧ f_X12_fail 173 5 (p : Int) g = some g' ∧ Ex h' (5, p) ∧ Bx g' (5, p) ∧ Fx DC h h' ∧ Fx DN g g' ∧ Ct g' := by
  obtain ⟨h1, e1, e2, e3⟩ := t_tooMany C
  have f : Fx DN g (xset (xset g 173 5 5) 173 6 (p : Int)) := ((Fx.refl DN g).set rfl).set rfl
  exact ⟨h1, _, e1, s_fail R.1 R.2.2.2.1 5 (p : Int), e2, bx_fail R.1 5 p (by decide), e3, f, ct_mv (cd_m K) f⟩
def cbr (k w : Nat) (h : xa_H) : Option (Int × xa_H) := (xgf h 1 2 6).bind fun x50 => (xgf h 0 (11 + w) x50).bind fun x51 => xn5 x51 <| if x51 = -1 then (xgf h 1 2 6).bind fun x53 => (xgf h 1 1 6).bind fun x54 => (xrc h 3 x54 (if k = 0 then f_X3_readTest x54 0 h else f_X3_readSum x54 0 h)).bind fun r55 => (xpf r55.2 0 (11 + w) x53 r55.1).bind fun h56 => (xgf h56 1 2 6).bind fun x57 => (xgf h56 0 (11 + w) x57).bind fun x58 => xn5 x58 <| if x58 = -1 then some (0, h56) else some (1, h56) else (xrc h 1 6 (f_X1_tooMany 6 h)).bind fun r61 => xbo r61.1 <| some (r61.1, r61.2)
theorem xn5_ok {α : Type} {v : Int} {E : Option α} (h : v ≠ -5) : xn5 v E = E := if_neg h
theorem DR_GX {S : Nat} {h h' : xa_H} (e : Fx DR h h') : GX S h h' := ⟨⟨by rw [e.1]; exact Nat.le_refl _, by rw [e.2.1]; exact Nat.le_refl _⟩, fun a _ => by rw [e.2.2.1], fun a k _ h1 h2 h3 _ => e.2.2.2 a k (by
  unfold DR DP
  by_cases z : a = 2
  · subst z
    have : ¬ 3 ≤ k := fun y => h1 ⟨rfl, y⟩
    rw [show Nat.ble 3 k = false from ble_ff (by omega)]
    rfl
  · by_cases y : a = 4
    · subst y
      have : ¬ 2 ≤ k := fun y => h2 ⟨rfl, y⟩
      simp
      omega
    · simp [z, y, h3])⟩
theorem dr_ne {a k : Nat} (h : a ≠ 2 ∧ a ≠ 4 ∧ a ≠ 5) : DR a k = false := by
  unfold DR DP
  simp [h.1, h.2.1, h.2.2]
theorem t_codes {T : Nat → Int} {L S F1 F2 : Nat} {h0 g0 : xa_H} {p0 : Nat} {b : Bool} (C0 : Cx T L h0 p0 b) (hp : p0 < L) (R0 : Rx T L g0 (tk_n T L p0 b).1 (tk_n T L p0 b).2) (C : CD h0 g0 S) (CFh : CF h0 g0 S F1 F2 p0) {w k : Nat} (hk : (w = 0 ∧ k = 0) ∨ (w = 1 ∧ k = 3)) : TS T L S h0 g0 p0 (cbr k w h0) (f_X12_codesTold 173 (w : Int) (p0 : Int) g0) := by
  have Sh := C0.1.1
  have w2 : w < 2 := by omega
  have s2 := C.1.1
  have KS := cd_S C
  have hS := KS.2.1
  obtain ⟨Fo, ho⟩ : ∃ Fo, FOt h0 g0 S w Fo := by
    rcases hk with ⟨rfl, -⟩ | ⟨rfl, -⟩
    · exact ⟨F1, CFh.1⟩
    · exact ⟨F2, CFh.2.1⟩
  obtain ⟨Fp, hop, op1, op2⟩ : ∃ Fp, FOt h0 g0 S (1 - w) Fp ∧ 249 ≤ Fp ∧ (xm g0 209 (1 - w) ≠ -1 → S + 13 ≤ Fp) := by
    rcases hk with ⟨rfl, -⟩ | ⟨rfl, -⟩
    · exact ⟨F2, CFh.2.1, CFh.2.2.2.2.1, CFh.2.2.2.2.2.2.2⟩
    · exact ⟨F1, CFh.1, CFh.2.2.2.1, CFh.2.2.2.2.2.2.1⟩
  have ok0 := CS.ok KS
  rcases ho with ⟨ho1, ho2⟩ | ⟨ho1, ho2, l, a, ho3, ho4, -⟩
  · obtain ⟨a, ha⟩ : ∃ a : Nat, xm g0 173 47 = (a : Int) := ⟨(xm g0 173 47).toNat, by have := CFh.2.2.2.2.2.1; omega⟩
    have hap : a ≤ p0 := by have := CFh.2.2.2.2.2.1; omega
    have pn := n_ge (T := T) (L := L) (p := p0) (b := b)
    obtain ⟨v, h1, e1, o⟩ := c_codes C0 hp hk
    obtain ⟨g1, e1', D1, o'⟩ := r_codes R0 w2 ho2 ha (by omega) (p0 : Int)
    have rd : (xrc h0 3 4 (if k = 0 then f_X3_readTest 4 0 h0 else f_X3_readSum 4 0 h0)) = some (v, h1) := by
      rw [xrc4 Sh]
      rcases hk with ⟨-, rfl⟩ | ⟨-, rfl⟩
      · rw [if_pos rfl, rdF_0]; exact e1
      · rw [if_neg (by omega), rdF_3]; exact e1
    have hd : ∀ (S1 : SH h1) (K1 : CS h1 S), xm h1 6 2 = (S : Int) → v ≠ -5 → cbr k w h0 = if v = -1 then some (0, xset h1 S (11 + w) v) else some (1, xset h1 S (11 + w) v) := by
      intro S1 K1 h62 v5
      have S2 : SH (xset h1 S (11 + w) v) := sh_big S1 s2
      have o1 : xok h1 0 (S : Int) = true := CS.ok K1
      have o2 : xok (xset h1 S (11 + w) v) 0 (S : Int) = true := o1
      have p2 : xpf h1 0 (11 + w) (S : Int) v = some (xset h1 S (11 + w) v) := xpf_eq o1
      have m2 : xm (xset h1 S (11 + w) v) 6 2 = (S : Int) := by rw [xm_xset, if_neg (by omega)]; exact h62
      have m3 : xgf (xset h1 S (11 + w) v) 0 (11 + w) (S : Int) = some v := xgf_eq o2 (by rw [xm_xset, if_pos ⟨rfl, rfl⟩])
      unfold cbr
      rw [g6k Sh, cd_6 C, gCS KS, ho1, xn5_ok (by omega), if_pos rfl, g6k Sh, g6k Sh, pt_6_1 Sh, rd, bbind, cd_6 C]
      refine (bnd p2).trans ?_
      rw [g6k S2, m2]
      refine (bnd m3).trans ?_
      exact xn5_ok v5
    rcases o with ⟨s', f1, rfl, C1, n1, n2, n3, n4, n5, n6⟩ | ⟨e, f1, rfl, E1, D⟩
    · rcases o' with ⟨s'', l, f1', hl, R1, r1, r2, r3, r4, r5, r6, r7⟩ | ⟨e, f1', -⟩
      · have se : s'' = s' := by
          have := f1'.symm.trans f1
          exact Sum.inl.inj this
        subst se
        have sx := n5
        rw [← hl] at n2 n5 n6
        have S1 : SH h1 := C1.1.1
        have K1 : CS h1 S := KS.mv (by omega) n3 (fun a k _ _ => n4 a k (by omega) (dr_ne (by omega)))
        have m62 : xm h1 6 2 = (S : Int) := (n4 6 2 (by have := Sh.1; omega) rfl).trans (cd_6 C)
        have hd := hd S1 K1 m62 (by omega)
        rw [if_neg (by omega)] at hd
        obtain ⟨h2, e2⟩ : ∃ z, z = xset h1 S (11 + w) ((xn h0 : Nat) : Int) := ⟨_, rfl⟩
        rw [← e2] at hd
        have m2 : ∀ a k, a ≠ S ∨ k ≠ 11 + w → xm h2 a k = xm h1 a k := fun a k y => by rw [e2, xm_xset, if_neg (by omega)]
        have S2 : SH h2 := by rw [e2]; exact sh_big S1 s2
        have nn2 : xn h2 = xn h0 + 3 := by rw [e2]; exact n1
        have zz2 : xz h2 = xz h0 + (66 + l) := by rw [e2]; exact n2
        have kk2 : ∀ a, xk h2 a = xk h1 a := fun a => by rw [e2]; rfl
        have l16 : l ≤ 1600 := by have := R1.2.2.2.2.2.1; have := R1.2.2.2.2.2.2.1; omega
        have pp : p0 ≤ s''.1 ∧ (∃ c : List Int, c = s''.2.2) ∧ (∀ r ∈ s''.2.2, vcode false r) ∧ tl s''.2.2 [] = some [decide (w = 0)] := by
          obtain ⟨o1, -, c, o3, -, o5, o6⟩ := fmP_ok (T := T) (L := L) w _ _ f1' R0.2.2.2.2.2.2.1
          have : s''.2.2 = c := by rw [o3]; rfl
          rw [this]
          exact ⟨Nat.le_trans pn o1, ⟨_, rfl⟩, o5, o6 [] (by simp)⟩
        obtain ⟨pp1, -, pp3, pp4⟩ := pp
        have gx : GX S h0 h2 := by
          refine ⟨⟨by omega, by omega⟩, fun a ha => by rw [kk2]; exact n3 a ha, fun a k ha y1 y2 y3 y4 => ?_⟩
          rw [m2 _ _ (by omega)]
          refine n4 a k ha ?_
          have := (DR_GX (S := S) (Fx.refl DR h0))
          unfold DR DP
          by_cases z : a = 2
          · subst z
            have : ¬ 3 ≤ k := fun y => y1 ⟨rfl, y⟩
            rw [show Nat.ble 3 k = false from ble_ff (by omega)]
            rfl
          · by_cases y : a = 4
            · subst y
              have : ¬ 2 ≤ k := fun y => y2 ⟨rfl, y⟩
              simp
              omega
            · simp [z, y, y3]
        have m09 : ∀ a k, 199 ≤ a → a ≤ 208 → xm g1 a k = xm g0 a k := fun a k y1 y2 => D1.2.2.2 a k (de_ne ⟨y1, y2⟩)
        have CDn : CD h2 g1 S := cd_mv C (by omega) (fun a ha => by rw [kk2]; exact n3 a ha) (fun a k y1 y2 y3 => by rw [m2 _ _ (by omega)]; exact n4 a k (by omega) (dr_ne (by omega))) (by rw [m2 _ _ (by omega)]; exact m62.trans (cd_6 C).symm) m09
        have fnew : FOt h2 g1 S w (xn h0) := by
          refine Or.inr ⟨by rw [e2, xm_xset, if_pos ⟨rfl, rfl⟩], hS, l, a, n5.mv (by omega) (fun a _ => kk2 a) (fun k => m2 _ _ (by omega)), r1, r2, by rw [r3]; exact Int.le_refl _, fun i hi => ?_, ?_⟩
          · rw [m2 _ _ (by omega), n6 i hi, r5 i hi]
            refine ⟨rfl, pp3 _ ?_⟩
            rw [List.getD_eq_getElem?_getD, List.getElem?_eq_getElem (by omega)]
            exact List.getElem_mem _
          · rw [← pp4, ← tl_trun, ← hl]
            exact trun_congr _ _ (fun i hi => r5 i hi)
        obtain ⟨Fq, q1, q2, q3, q4⟩ : ∃ Fq, FOt h2 g1 S (1 - w) Fq ∧ (xn h0 + 3 ≤ Fq ∨ Fq + 3 ≤ xn h0) ∧ 249 ≤ Fq ∧ (xm g1 209 (1 - w) ≠ -1 → S + 13 ≤ Fq) := by
          have mS : xm h2 S (11 + (1 - w)) = xm h0 S (11 + (1 - w)) := by rw [m2 _ _ (by omega)]; exact n4 _ _ (by omega) (dr_ne (by omega))
          have x9 := (r7 (1 - w) (by omega)).1
          have x10 := (r7 (1 - w) (by omega)).2
          rcases hop with ⟨y1, y2⟩ | ⟨y1, y2, l', a', y3, y4, y5, y6, y7, y8⟩
          · exact ⟨xn h0 + 3, Or.inl ⟨by rw [mS]; exact y1, by rw [x9]; exact y2⟩, Or.inl (Nat.le_refl _), by have := Sh.1; omega, fun _ => by omega⟩
          · have f3 := y3.2.1
            refine ⟨Fp, Or.inr ⟨by rw [mS]; exact y1, y2, l', a', y3.mv (by omega) (fun a ha => by rw [kk2]; exact n3 a ha) (fun k => by rw [m2 _ _ (by omega)]; exact n4 _ _ (by omega) (dr_ne (by omega))), by rw [x9]; exact y4, by rw [x10]; exact y5, by rw [r3]; omega, fun i hi => ?_, ?_⟩, Or.inr f3, op1, fun _ => y2⟩
            · rw [m2 _ _ (by omega), n4 _ _ (by omega) (dr_ne (by omega)), r6 _ (by omega)]
              exact y7 i hi
            · rw [← y8]
              exact trun_congr _ _ (fun i hi => r6 _ (by omega))
        have ne : xm g1 209 w ≠ -1 := by omega
        have fc1 : fcn g1 = fcn g0 + 1 := by
          unfold fcn
          rcases hk with ⟨rfl, -⟩ | ⟨rfl, -⟩
          · have := (r7 1 (by omega)).1
            rw [if_neg ne, this, if_pos ho2]
            omega
          · have := (r7 0 (by omega)).1
            rw [if_neg ne, this, if_pos ho2]
        have pq : PQ T L h2 g1 s''.1 s''.2.1 := ⟨cx_mv C1 S2 (fun a k ha => m2 _ _ (by omega)), R1⟩
        have fin : ∃ G1 G2, CF h2 g1 S G1 G2 s''.1 := by
          rcases hk with ⟨rfl, -⟩ | ⟨rfl, -⟩
          · exact ⟨xn h0, Fq, fnew, q1, q2, Sh.1, q3, by omega, fun _ => hS, q4⟩
          · exact ⟨Fq, xn h0, q1, fnew, q2.symm, q3, Sh.1, by omega, q4, fun _ => hS⟩
        obtain ⟨G1, G2, fin⟩ := fin
        exact ⟨1, h2, g1, hd, e1', gx, DE_DF D1, Or.inl ⟨rfl, s''.1, s''.2.1, G1, G2, pq, CDn, fin, pp1, by omega, by omega⟩⟩
      · rw [show (pN T L (p0, b, [])) = ((tk_n T L p0 b).1, (tk_n T L p0 b).2, []) from rfl] at f1
        rw [f1] at f1'
        cases f1'
    · rcases o' with ⟨s'', l, f1', -⟩ | ⟨e', f1', B1⟩
      · rw [show (pN T L (p0, b, [])) = ((tk_n T L p0 b).1, (tk_n T L p0 b).2, []) from rfl] at f1
        rw [f1] at f1'
        cases f1'
      · have ee : e' = e := Sum.inr.inj (f1'.symm.trans f1)
        subst ee
        have S1 : SH h1 := D.sh DR_nf Sh
        have K1 : CS h1 S := KS.mv (by rw [D.1]; exact Nat.le_refl _) (fun a _ => by rw [D.2.2.1]) (fun a k _ _ => D.2.2.2 a k (dr_ne (by omega)))
        have m62 : xm h1 6 2 = (S : Int) := (D.2.2.2 6 2 rfl).trans (cd_6 C)
        have hd := hd S1 K1 m62 (by omega)
        rw [if_pos rfl] at hd
        refine ⟨0, _, g1, hd, e1', (DR_GX D).set (by omega), DE_DF D1, Or.inr ⟨rfl, ⟨e', ⟨sh_big S1 s2, ?_, ?_⟩, B1⟩, D.1, D.2.1⟩⟩
        · rw [xm_xset, if_neg (by omega)]; exact E1.2.1
        · rw [xm_xset, if_neg (by omega)]; exact E1.2.2
  · obtain ⟨h1, g1, e1, e2, e3, e4, e5, e6, e7⟩ := ts_5 C0 R0 C
    have i9 : xia g0 0 209 (w : Int) = true := ia_209 R0.1 (by omega) (by omega)
    have f249 := ho3.1
    refine ⟨0, h1, g1, ?_, ?_, DC_GX e5, DG_DF (DN_DG e6), Or.inr ⟨rfl, ⟨_, e3, e4⟩, e5.1, e5.2.1⟩⟩
    · unfold cbr
      rw [g6k Sh, cd_6 C, gCS KS, ho1, xn5_ok (by omega), if_neg (by omega), x16 Sh, e1, bbind]
      exact xbo_ok (Or.inl rfl)
    · unfold f_X12_codesTold f_X12_codesTold_J23
      rw [gM R0.1, R0.2.2.2.1, if_pos rfl, gM R0.1, pt_173_44 R0.1, show xal g0 0 209 (w : Int) = some (xm g0 209 w) from xal_eq (a := 209) i9 rfl, bbind, if_neg (by omega), xM R0.1, e2, bbind, gM e4.1, b_5 e4]
