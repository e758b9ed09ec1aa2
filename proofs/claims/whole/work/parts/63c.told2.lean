/-! ===== both sides look names up ===== -/
/-- both stand at the same place -/
def PQ (T : Nat → Int) (L : Nat) (h g : xa_H) (p : Nat) (b : Bool) : Prop := Cx T L h p b ∧ Rx T L g p b
/-- both have the same fault -/
def PF (h g : xa_H) : Prop := ∃ e, Ex h e ∧ Bx g e
theorem g6k {β : Type} {h : xa_H} (S : SH h) (k : Nat) (f : Int → Option β) : (xgf h 1 k 6).bind f = f (xm h 6 k) := by
  rw [bxgf, if_pos (ok_6 S)]
  rfl
theorem x16 {α β : Type} {h : xa_H} (S : SH h) (E : Option α) (f : α → Option β) : (xrc h 1 6 E).bind f = E.bind f := by
  rw [show xrc h 1 6 E = E from if_pos (ok_6 S)]
theorem x0S {α β : Type} {h : xa_H} {s : Nat} (C : CS h s) (E : Option α) (f : α → Option β) : (xrc h 0 (s : Int) E).bind f = E.bind f := by
  rw [show xrc h 0 (s : Int) E = E from if_pos C.ok]
theorem gCS {β : Type} {h : xa_H} {s : Nat} (C : CS h s) (k : Nat) (f : Int → Option β) : (xgf h 0 k (s : Int)).bind f = f (xm h s k) := by
  rw [bxgf, if_pos C.ok]
  rfl
theorem r60 {β : Type} {h : xa_H} (S : SH h) (f : Int → Option β) : (xgf h 1 0 6).bind f = f 2 := by
  rw [g6k S, pt_6_0 S]
theorem dn_ne {a k : Nat} (h : a ≠ 173) : DN a k = false := by
  unfold DN DB
  rw [show (a == 173) = false by simp [h]]
  rfl
theorem dc_ne {a k : Nat} (h : a ≠ 2) : DC a k = false := by
  unfold DC
  rw [show (a == 2) = false by simp [h]]
  rfl
theorem cd_mv {h g h' g' : xa_H} {S : Nat} (C : CD h g S) (hn : xn h ≤ xn h') (hk : ∀ a, a < xn h → xk h' a = xk h a) (e : ∀ a k, S ≤ a → a < S + 13 → a ≠ S ∨ k < 11 ∨ 13 ≤ k → xm h' a k = xm h a k) (e6 : xm h' 6 2 = xm h 6 2) (e' : ∀ a k, 199 ≤ a → a ≤ 208 → xm g' a k = xm g a k) : CD h' g' S := by
  have z := C.1.1
  have ha : ∀ j k, 1 ≤ j → j < 13 → xm h' (S + j) k = xm h (S + j) k := fun j k h1 h2 => e _ _ (by omega) (by omega) (by omega)
  have hS : ∀ k, k < 11 ∨ 13 ≤ k → xm h' S k = xm h S k := fun k hk => e _ _ (by omega) (by omega) (by omega)
  have c2 : CS h' S := by
    obtain ⟨c1, c2, c3, c4, c5, c6⟩ := C.1.2.1
    refine ⟨c1, by omega, fun j hj => by rw [hk _ (by omega)]; exact c3 j hj, fun j hj => by rw [hS _ (by omega)]; exact c4 j hj, by rw [hS _ (by omega)]; exact c5, fun j hj => by rw [ha 7 _ (by omega) (by omega)]; exact c6 j hj⟩
  have g1 := e' 199
  have g2 := e' 200
  have g3 := e' 201
  have g4 := e' 202
  have g5 := e' 203
  have g6 := e' 204
  have g7 := e' 205
  have g8 := e' 206
  have g9 := e' 207
  have g10 := e' 208
  have C1 := C.1.2.2
  obtain ⟨-, C2⟩ := C
  refine ⟨⟨z, c2, by rw [e6]; exact C1⟩, ?_⟩
  simp (disch := omega) only [g1, g2, g3, g4, g5, g6, g7, g8, g9, g10, hS, ha]
  exact C2
theorem cd_lex {h g h' g' : xa_H} {S : Nat} (C : CD h g S) (e : Fx DC h h') (e' : Fx DN g g') : CD h' g' S := by
  have z := C.1.1
  exact cd_mv C (by rw [e.1]; exact Nat.le_refl _) (fun a _ => by rw [e.2.2.1]) (fun a k h1 _ _ => e.2.2.2 _ _ (dc_ne (by omega))) (e.2.2.2 _ _ (dc_ne (by omega))) (fun a k _ _ => e'.2.2.2 _ _ (dn_ne (by omega)))
theorem pq_nm {T : Nat → Int} {L p : Nat} (kl : tk_l T L p = true) (l6 : tk_we T L p - p ≤ 6) : nmr (nm5 (lw T p) (tk_we T L p - p)) (nmV T L p) :=
  ⟨lw T p, tk_we T L p - p, by have := tk_we_gt kl; omega, l6, lw_b, rfl, rfl⟩
theorem t_badName {T : Nat → Int} {L : Nat} {h : xa_H} {p : Nat} (C : Cb T L h) (h8 : xm h 2 8 = (p : Int)) : ∃ h', f_X1_badName 6 h = some (0, h') ∧ Ex h' (3, p) ∧ Fx DC h h' := by
  obtain ⟨h1, e1, e2, e3⟩ := q_refuse C 3 p (z := (p : Int)) rfl
  have e1' : f_X6_refuse 2 3 (p : Int) h = some (0, h1) := e1
  refine ⟨h1, ?_, e2, e3⟩
  unfold f_X1_badName
  rw [r60 C.1, r60 C.1, g2k C.1, h8, x62 C.1, e1', bbind, xbo_ok (Or.inl rfl)]
theorem bx_3 {T : Nat → Int} {L : Nat} {g : xa_H} {p : Nat} {b : Bool} (R : Rx T L g p b) {z : Nat} (h33 : xm g 173 33 = (z : Int)) : ∃ g', f_X12_fail 173 3 (xm g 173 33) g = some g' ∧ Bx g' (3, z) ∧ Fx DN g g' := by
  rw [h33]
  exact ⟨_, s_fail R.1 R.2.2.2.1 3 (z : Int), bx_fail R.1 3 z (by decide), ((Fx.refl DN g).set rfl).set rfl⟩
theorem ct_mv {g g' : xa_H} (C : Ct g) (e : Fx DN g g') : Ct g' := by
  unfold Ct
  rw [e.2.2.2 199 0 (dn_ne (by omega)), e.2.2.2 199 1 (dn_ne (by omega))]
  exact C
def kRes (T : Nat → Int) (L : Nat) (h g : xa_H) (p : Nat) (b : Bool) (fc fr : Option (Int × xa_H)) (n : Int) : Prop := ∃ v w h' g', fc = some (v, h') ∧ fr = some (w, g') ∧ Fx DC h h' ∧ Fx DN g g' ∧ ((v = w ∧ 0 ≤ v ∧ v < n ∧ PQ T L h' g' (tk_n T L p b).1 (tk_n T L p b).2 ∧ xm h' 2 8 = (p : Int) ∧ xm g' 173 33 = (p : Int)) ∨ (v = -1 ∧ w = 0 ∧ PF h' g'))
theorem xfind_r (P : Nat → Bool) (n : Nat) : xfind P n = -1 ∨ (0 ≤ xfind P n ∧ xfind P n < (n : Int)) := by
  rcases xfind_spec P n with ⟨e, -⟩ | ⟨j, e, h, -⟩
  · exact Or.inl e
  · right
    omega
theorem k_held {T : Nat → Int} {L : Nat} {h g : xa_H} {p : Nat} {b : Bool} {S : Nat} (P : PQ T L h g p b) (C : CD h g S) : kRes T L h g p b (f_X1_knownHeld 6 h) (f_X12_oneOf 173 0 g) (xm g 199 0) := by
  obtain ⟨P1, P2⟩ := P
  have Sh := P1.1.1
  obtain ⟨⟨m1, m2⟩, m3⟩ := cd_m C
  obtain ⟨n, hn⟩ : ∃ n : Nat, xm g 199 0 = (n : Int) := ⟨(xm g 199 0).toNat, by omega⟩
  obtain ⟨v, h1, e1, F1, o⟩ := q_needName P1
  obtain ⟨w, g1, e2, F2, o2⟩ := s_name P2
  have C1 := cd_lex C F1 F2
  have Sh1 := F1.sh DC_nf Sh
  have Sg1 := F2.sh DN_nf P2.1
  have n1 : xm g1 199 0 = (n : Int) := (F2.2.2.2 _ _ (dn_ne (by omega))).trans hn
  have no := t_nameOf Sg1 (k := 0) (by decide) n1 (by omega) w
  have hx : f_X12_nameOf 173 0 w g1 = some (xfind (fun i => decide (xm g1 200 (6 * 0 + i) = w)) n) := no
  have hh := t_heldNamed (cd_S C1) (by rw [cd_1 C1, n1]) (by omega : n ≤ 6) v
  have cl : f_X1_knownHeld 6 h = if v = -1 then some (-1, h1) else (f_X0_heldNamed (S : Int) v h1).bind fun r5 => if r5 = -1 then (xrc h1 1 6 (f_X1_badName 6 h1)).bind fun r7 => some (r5, r7.2) else some (r5, h1) := by
    unfold f_X1_knownHeld
    rw [r60 Sh, x62 Sh, e1, bbind]
    by_cases z : v = -1
    · rw [if_pos z, if_pos z]
    · rw [if_neg z, if_neg z, g6k Sh1, cd_6 C1, x0S (cd_S C1)]
  rcases o with ⟨o1, o3, o4, o5, o6⟩ | ⟨e, o1, rfl, o3⟩
  · rcases o2 with ⟨-, p2, p3, p4, p5, p6⟩ | ⟨e', p1, -⟩
    · have nr := pq_nm (tk_k_w.mp p2).2 p3
      rw [← o3, ← p4] at nr
      have xe : xfind (fun i => decide (xm h1 (S + 1) i = v)) n = xfind (fun i => decide (xm g1 200 (6 * 0 + i) = w)) n := xfind_congr fun i hi => by
        have := nmr_inj (C1.2.2.2.2.2.2.2.2.2.2.2.2.2.2.1 i (by rw [n1]; omega)) nr
        rw [Nat.mul_zero, Nat.zero_add]
        exact decide_eq_decide.mpr this
      rw [hh, if_neg o4, bbind] at cl
      rcases xfind_r (fun i => decide (xm g1 200 (6 * 0 + i) = w)) n with z | z
      · obtain ⟨h2, a1, a2, a3⟩ := t_badName o6.1 o5
        obtain ⟨g2, c1, c2, c3⟩ := bx_3 p6 p5
        refine ⟨-1, 0, h2, g2, ?_, ?_, F1.tr a3, F2.tr c3, Or.inr ⟨rfl, rfl, (3, p), a2, c2⟩⟩
        · rw [cl, xe, z, if_pos rfl, x16 Sh1, a1]
          rfl
        · unfold f_X12_oneOf f_X12_oneOf_J35
          rw [xM P2.1, e2, bbind, xM Sg1, hx, bbind, gM Sg1, p6.2.2.2.1, if_pos rfl, z, if_pos rfl, gM Sg1, xM Sg1, c1, bbind, gM c2.1, c2.2.1, if_neg (show ¬ ((3 : Nat) : Int) = 0 by decide)]
      · refine ⟨_, _, h1, g1, ?_, ?_, F1, F2, Or.inl ⟨rfl, z.1, by omega, ⟨o6, p6⟩, o5, p5⟩⟩
        · rw [cl, xe, if_neg (by omega)]
        · unfold f_X12_oneOf f_X12_oneOf_J35
          rw [xM P2.1, e2, bbind, xM Sg1, hx, bbind, gM Sg1, p6.2.2.2.1, if_pos rfl, if_neg (by omega), gM Sg1, p6.2.2.2.1, if_pos rfl]
    · rw [o1] at p1
      cases p1
  · rcases o2 with ⟨p1, -⟩ | ⟨e', p1, p2⟩
    · rw [o1] at p1
      cases p1
    · rw [o1] at p1
      cases p1
      have nz : ¬ ((e.1 : Nat) : Int) = 0 := by have := p2.2.2.2; omega
      refine ⟨-1, 0, h1, g1, by rw [cl, if_pos rfl], ?_, F1, F2, Or.inr ⟨rfl, rfl, e, o3, p2⟩⟩
      unfold f_X12_oneOf f_X12_oneOf_J35
      rw [xM P2.1, e2, bbind, xM Sg1, hx, bbind, gM Sg1, p2.2.1, if_neg nz, gM Sg1, p2.2.1, if_neg nz]
theorem k_holder {T : Nat → Int} {L : Nat} {h g : xa_H} {p : Nat} {b : Bool} {S : Nat} (P : PQ T L h g p b) (C : CD h g S) : kRes T L h g p b (f_X1_knownHolder 6 h) (f_X12_oneOf 173 1 g) (xm g 199 1) := by
  obtain ⟨P1, P2⟩ := P
  have Sh := P1.1.1
  obtain ⟨m3, ⟨m1, m2⟩⟩ := cd_m C
  obtain ⟨n, hn⟩ : ∃ n : Nat, xm g 199 1 = (n : Int) := ⟨(xm g 199 1).toNat, by omega⟩
  obtain ⟨v, h1, e1, F1, o⟩ := q_needName P1
  obtain ⟨w, g1, e2, F2, o2⟩ := s_name P2
  have C1 := cd_lex C F1 F2
  have Sh1 := F1.sh DC_nf Sh
  have Sg1 := F2.sh DN_nf P2.1
  have n1 : xm g1 199 1 = (n : Int) := (F2.2.2.2 _ _ (dn_ne (by omega))).trans hn
  have no := t_nameOf Sg1 (k := 1) (by decide) n1 (by omega) w
  have hx : f_X12_nameOf 173 1 w g1 = some (xfind (fun i => decide (xm g1 200 (6 * 1 + i) = w)) n) := no
  have hh := t_holderNamed (cd_S C1) (by rw [cd_2 C1, n1]) (by omega : n ≤ 6) v
  have cl : f_X1_knownHolder 6 h = if v = -1 then some (-1, h1) else (f_X0_holderNamed (S : Int) v h1).bind fun r5 => if r5 = -1 then (xrc h1 1 6 (f_X1_badName 6 h1)).bind fun r7 => some (r5, r7.2) else some (r5, h1) := by
    unfold f_X1_knownHolder
    rw [r60 Sh, x62 Sh, e1, bbind]
    by_cases z : v = -1
    · rw [if_pos z, if_pos z]
    · rw [if_neg z, if_neg z, g6k Sh1, cd_6 C1, x0S (cd_S C1)]
  rcases o with ⟨o1, o3, o4, o5, o6⟩ | ⟨e, o1, rfl, o3⟩
  · rcases o2 with ⟨-, p2, p3, p4, p5, p6⟩ | ⟨e', p1, -⟩
    · have nr := pq_nm (tk_k_w.mp p2).2 p3
      rw [← o3, ← p4] at nr
      have xe : xfind (fun i => decide (xm h1 (S + 2) i = v)) n = xfind (fun i => decide (xm g1 200 (6 * 1 + i) = w)) n := xfind_congr fun i hi => by
        have := nmr_inj (C1.2.2.2.2.2.2.2.2.2.2.2.2.2.2.2.1 i (by rw [n1]; omega)) nr
        rw [Nat.mul_one]
        exact decide_eq_decide.mpr this
      rw [hh, if_neg o4, bbind] at cl
      rcases xfind_r (fun i => decide (xm g1 200 (6 * 1 + i) = w)) n with z | z
      · obtain ⟨h2, a1, a2, a3⟩ := t_badName o6.1 o5
        obtain ⟨g2, c1, c2, c3⟩ := bx_3 p6 p5
        refine ⟨-1, 0, h2, g2, ?_, ?_, F1.tr a3, F2.tr c3, Or.inr ⟨rfl, rfl, (3, p), a2, c2⟩⟩
        · rw [cl, xe, z, if_pos rfl, x16 Sh1, a1]
          rfl
        · unfold f_X12_oneOf f_X12_oneOf_J35
          rw [xM P2.1, e2, bbind, xM Sg1, hx, bbind, gM Sg1, p6.2.2.2.1, if_pos rfl, z, if_pos rfl, gM Sg1, xM Sg1, c1, bbind, gM c2.1, c2.2.1, if_neg (show ¬ ((3 : Nat) : Int) = 0 by decide)]
      · refine ⟨_, _, h1, g1, ?_, ?_, F1, F2, Or.inl ⟨rfl, z.1, by omega, ⟨o6, p6⟩, o5, p5⟩⟩
        · rw [cl, xe, if_neg (by omega)]
        · unfold f_X12_oneOf f_X12_oneOf_J35
          rw [xM P2.1, e2, bbind, xM Sg1, hx, bbind, gM Sg1, p6.2.2.2.1, if_pos rfl, if_neg (by omega), gM Sg1, p6.2.2.2.1, if_pos rfl]
    · rw [o1] at p1
      cases p1
  · rcases o2 with ⟨p1, -⟩ | ⟨e', p1, p2⟩
    · rw [o1] at p1
      cases p1
    · rw [o1] at p1
      cases p1
      have nz : ¬ ((e.1 : Nat) : Int) = 0 := by have := p2.2.2.2; omega
      refine ⟨-1, 0, h1, g1, by rw [cl, if_pos rfl], ?_, F1, F2, Or.inr ⟨rfl, rfl, e, o3, p2⟩⟩
      unfold f_X12_oneOf f_X12_oneOf_J35
      rw [xM P2.1, e2, bbind, xM Sg1, hx, bbind, gM Sg1, p2.2.1, if_neg nz, gM Sg1, p2.2.1, if_neg nz]
/-! ===== a new name ===== -/
theorem k_new {T : Nat → Int} {L : Nat} {h g : xa_H} {p : Nat} {b : Bool} {S : Nat} (P : PQ T L h g p b) (C : CD h g S) : ∃ v w h' g', f_X1_newName 6 h = some (v, h') ∧ f_X12_newName 173 g = some (w, g') ∧ Fx DC h h' ∧ Fx DN g g' ∧ ((v ≠ -1 ∧ nmr v w ∧ PQ T L h' g' (tk_n T L p b).1 (tk_n T L p b).2) ∨ (v = -1 ∧ PF h' g')) := by
  obtain ⟨P1, P2⟩ := P
  have Sh := P1.1.1
  obtain ⟨⟨m1, m2⟩, m3, m4⟩ := cd_m C
  obtain ⟨n, hn⟩ : ∃ n : Nat, xm g 199 0 = (n : Int) := ⟨(xm g 199 0).toNat, by omega⟩
  obtain ⟨m, hm⟩ : ∃ n : Nat, xm g 199 1 = (n : Int) := ⟨(xm g 199 1).toNat, by omega⟩
  obtain ⟨v, h1, e1, F1, o⟩ := q_needName P1
  obtain ⟨w, g1, e2, F2, o2⟩ := s_name P2
  have C1 := cd_lex C F1 F2
  have Sh1 := F1.sh DC_nf Sh
  have Sg1 := F2.sh DN_nf P2.1
  have n1 : xm g1 199 0 = (n : Int) := (F2.2.2.2 _ _ (dn_ne (by omega))).trans hn
  have n2 : xm g1 199 1 = (m : Int) := (F2.2.2.2 _ _ (dn_ne (by omega))).trans hm
  have hx0 : f_X12_nameOf 173 0 w g1 = some (xfind (fun i => decide (xm g1 200 (6 * 0 + i) = w)) n) := t_nameOf Sg1 (k := 0) (by decide) n1 (by omega) w
  have hx1 : f_X12_nameOf 173 1 w g1 = some (xfind (fun i => decide (xm g1 200 (6 * 1 + i) = w)) m) := t_nameOf Sg1 (k := 1) (by decide) n2 (by omega) w
  have hh0 := t_heldNamed (cd_S C1) (by rw [cd_1 C1, n1]) (by omega : n ≤ 6) v
  have hh1 := t_holderNamed (cd_S C1) (by rw [cd_2 C1, n2]) (by omega : m ≤ 6) v
  have cl : f_X1_newName 6 h = if v = -1 then some (-1, h1) else (f_X0_heldNamed (S : Int) v h1).bind fun r5 => if r5 = -1 then (f_X0_holderNamed (S : Int) v h1).bind fun r8 => if r8 = -1 then some (v, h1) else f_X1_newName_J39 6 h1 else f_X1_newName_J39 6 h1 := by
    unfold f_X1_newName
    rw [r60 Sh, x62 Sh, e1, bbind]
    by_cases z : v = -1
    · rw [if_pos z, if_pos z]
    · rw [if_neg z, if_neg z, g6k Sh1, cd_6 C1, x0S (cd_S C1)]
      simp only [g6k Sh1, cd_6 C1, x0S (cd_S C1)]
  have rf : f_X12_newName 173 g = (xit (fun s => f_X12_newName_L7 173 w s.1 s.2) xFU ((0, g1))).bind fun e9 => some ((w, e9)) := by
    unfold f_X12_newName
    rw [xM P2.1, e2, bbind]
  have lb : ∀ (g : xa_H) (e : Nat × Nat), Bx g e → ∀ k : Int, k < 2 → f_X12_newName_L7 173 w k g = some (.inl (w32 (k + 1), g)) := fun g e B k hk => by
    unfold f_X12_newName_L7
    rw [if_pos hk, gM B.1, B.2.1, if_neg (by have := B.2.2.2; omega)]
  have le : ∀ g, f_X12_newName_L7 173 w 2 g = some (.inr g) := fun g => by
    unfold f_X12_newName_L7
    rw [if_neg (by decide)]
  have run : ∀ ga gb, f_X12_newName_L7 173 w 0 g1 = some (.inl (1, ga)) → f_X12_newName_L7 173 w 1 ga = some (.inl (2, gb)) → xit (fun s : Int × xa_H => f_X12_newName_L7 173 w s.1 s.2) xFU ((0, g1)) = some gb := by
    intro ga gb z1 z2
    rw [show xFU = (999997 + 1) + 1 + 1 from rfl, xit_go (f := fun s : Int × xa_H => f_X12_newName_L7 173 w s.1 s.2) z1, xit_go (f := fun s : Int × xa_H => f_X12_newName_L7 173 w s.1 s.2) z2, xit_end (f := fun s : Int × xa_H => f_X12_newName_L7 173 w s.1 s.2) (le gb) (by omega)]
  rcases o with ⟨o1, o3, o4, o5, o6⟩ | ⟨e, o1, rfl, o3⟩
  · rcases o2 with ⟨-, p2, p3, p4, p5, p6⟩ | ⟨e', p1, -⟩
    · have nr := pq_nm (tk_k_w.mp p2).2 p3
      rw [← o3, ← p4] at nr
      have xe0 : xfind (fun i => decide (xm h1 (S + 1) i = v)) n = xfind (fun i => decide (xm g1 200 (6 * 0 + i) = w)) n := xfind_congr fun i hi => by
        have := nmr_inj (C1.2.2.2.2.2.2.2.2.2.2.2.2.2.2.1 i (by rw [n1]; omega)) nr
        rw [Nat.mul_zero, Nat.zero_add]
        exact decide_eq_decide.mpr this
      have xe1 : xfind (fun i => decide (xm h1 (S + 2) i = v)) m = xfind (fun i => decide (xm g1 200 (6 * 1 + i) = w)) m := xfind_congr fun i hi => by
        have := nmr_inj (C1.2.2.2.2.2.2.2.2.2.2.2.2.2.2.2.1 i (by rw [n2]; omega)) nr
        rw [Nat.mul_one]
        exact decide_eq_decide.mpr this
      rw [hh0, if_neg o4, bbind, hh1, bbind, xe0, xe1] at cl
      have bad : ∀ g2, (f_X12_newName_L7 173 w 0 g1 = some (.inl (1, g2)) ∧ Bx g2 (3, p) ∧ Fx DN g1 g2 ∨ f_X12_newName_L7 173 w 0 g1 = some (.inl (1, g1)) ∧ f_X12_newName_L7 173 w 1 g1 = some (.inl (2, g2)) ∧ Bx g2 (3, p) ∧ Fx DN g1 g2) → f_X1_newName 6 h = f_X1_newName_J39 6 h1 → ∃ v w h' g', f_X1_newName 6 h = some (v, h') ∧ f_X12_newName 173 g = some (w, g') ∧ Fx DC h h' ∧ Fx DN g g' ∧ ((v ≠ -1 ∧ nmr v w ∧ PQ T L h' g' (tk_n T L p b).1 (tk_n T L p b).2) ∨ (v = -1 ∧ PF h' g')) := by
        intro g2 hg hc
        obtain ⟨h2, a1, a2, a3⟩ := t_badName o6.1 o5
        refine ⟨-1, w, h2, g2, ?_, ?_, F1.tr a3, F2.tr ?_, Or.inr ⟨rfl, (3, p), a2, ?_⟩⟩
        · rw [hc]
          unfold f_X1_newName_J39
          rw [x16 Sh1, a1]
          rfl
        · rw [rf]
          rcases hg with ⟨z1, z2, -⟩ | ⟨z1, z2, z3, -⟩
          · rw [run g2 g2 z1 (by rw [lb g2 _ z2 1 (by decide)]; rfl)]
            rfl
          · rw [run g1 g2 z1 z2]
            rfl
        · rcases hg with ⟨-, -, z⟩ | ⟨-, -, -, z⟩ <;> exact z
        · rcases hg with ⟨-, z, -⟩ | ⟨-, -, z, -⟩ <;> exact z
      obtain ⟨g2, c1, c2, c3⟩ := bx_3 p6 p5
      by_cases z : xfind (fun i => decide (xm g1 200 (6 * 0 + i) = w)) n = -1
      · have s0 : f_X12_newName_L7 173 w 0 g1 = some (.inl (1, g1)) := by
          unfold f_X12_newName_L7
          rw [if_pos (by decide), gM Sg1, p6.2.2.2.1, if_pos rfl, xM Sg1, hx0, bbind, if_pos z]
          rfl
        rw [if_pos z] at cl
        by_cases y : xfind (fun i => decide (xm g1 200 (6 * 1 + i) = w)) m = -1
        · have s1 : f_X12_newName_L7 173 w 1 g1 = some (.inl (2, g1)) := by
            unfold f_X12_newName_L7
            rw [if_pos (by decide), gM Sg1, p6.2.2.2.1, if_pos rfl, xM Sg1, hx1, bbind, if_pos y]
            rfl
          rw [if_pos y] at cl
          refine ⟨v, w, h1, g1, cl, ?_, F1, F2, Or.inl ⟨o4, nr, o6, p6⟩⟩
          rw [rf, run g1 g1 s0 s1]
          rfl
        · rw [if_neg y] at cl
          refine bad g2 (Or.inr ⟨s0, ?_, c2, c3⟩) cl
          unfold f_X12_newName_L7
          rw [if_pos (by decide), gM Sg1, p6.2.2.2.1, if_pos rfl, xM Sg1, hx1, bbind, if_neg y, gM Sg1, xM Sg1, c1]
          rfl
      · rw [if_neg z] at cl
        refine bad g2 (Or.inl ⟨?_, c2, c3⟩) cl
        unfold f_X12_newName_L7
        rw [if_pos (by decide), gM Sg1, p6.2.2.2.1, if_pos rfl, xM Sg1, hx0, bbind, if_neg z, gM Sg1, xM Sg1, c1]
        rfl
    · rw [o1] at p1
      cases p1
  · rcases o2 with ⟨p1, -⟩ | ⟨e', p1, p2⟩
    · rw [o1] at p1
      cases p1
    · rw [o1] at p1
      cases p1
      refine ⟨-1, w, h1, g1, by rw [cl, if_pos rfl], ?_, F1, F2, Or.inr ⟨rfl, e, o3, p2⟩⟩
      rw [rf, run g1 g1 (by rw [lb g1 e p2 0 (by decide)]; rfl) (by rw [lb g1 e p2 1 (by decide)]; rfl)]
      rfl
