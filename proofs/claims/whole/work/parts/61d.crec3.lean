/-! ===== parts, facts ===== -/
def pairP (T : Nat → Int) (L : Nat) (op : Bool) (f : pS → pR) (s : pS) : pR :=
  if pG T L s 40 = true then (if op = true then bd (l2 T L f (pO1 T L) (pO2 T L) (pN T L s)) (fun s2 => bd (pD T L 44 s2) (fun s3 => bd (l2 T L f (pO1 T L) (pO2 T L) s3) (pD T L 41))) else .inr (4, s.1))
  else .inr (1, s.1)
theorem ptB_pair {T : Nat → Int} {L : Nat} {q op : Bool} {f : pS → pR} {s : pS} (h : pW T L s = 21 ∨ pW T L s = 22) : ptB T L q op f s = bd (pairP T L op f (pN T L s)) (fun s5 => .inl (pU s5 (if pW T L s = 21 then 5 else 6))) := by
  have hn : pW T L s ≠ -1 := by omega
  unfold ptB pairP
  rw [if_neg (pW_k hn), if_neg (pW_G hn), if_pos h]
  by_cases g : pG T L (pN T L s) 40 = true
  · rw [if_pos g, if_pos g]
    by_cases o : op = true
    · rw [if_pos o, if_pos o, bd_a]
      refine bd_c fun s2 _ => ?_
      rw [bd_a]
      refine bd_c fun s3 _ => ?_
      rw [bd_a]
    · rw [if_neg o, if_neg o, bd_r]
  · rw [if_neg g, if_neg g, bd_r]
theorem op_w {d : Nat} (h1 : 0 < d) (h2 : d ≤ 6) : w32 (((6 - d : Nat) : Int) + 1) = ((6 - (d - 1) : Nat) : Int) := by
  rw [w32_id (by omega) (by omega)]
  omega
theorem one_ne : ¬ (1 : Int) = 0 := by decide
theorem g40 {β : Type} {h : xa_H} (S : SH h) (f : Int → Option β) : (xgf h 3 0 4).bind f = f 2 := by
  rw [bxgf, if_pos (ok_4 S)]
  exact congrArg f (pt_4_0 S)
theorem g43 {β : Type} {h : xa_H} (S : SH h) (f : Int → Option β) : (xgf h 3 3 4).bind f = f (xm h 4 3) := by
  rw [bxgf, if_pos (ok_4 S)]
  rfl
theorem g2k {β : Type} {h : xa_H} (S : SH h) (k : Nat) (f : Int → Option β) : (xgf h 6 k 2).bind f = f (xm h 2 k) := by
  rw [bxgf, if_pos (ok_2 S)]
  rfl
theorem x34 {α β : Type} {h : xa_H} (S : SH h) (E : Option α) (f : α → Option β) : (xrc h 3 4 E).bind f = E.bind f := by rw [xrc4 S]
theorem x62 {α β : Type} {h : xa_H} (S : SH h) (E : Option α) (f : α → Option β) : (xrc h 6 2 E).bind f = E.bind f := by rw [xrc2 S]
theorem iff01 {α : Type} {c : Prop} [Decidable c] {A B : α} : (if (if c then (1 : Int) else 0) = 0 then A else B) = if c then B else A := by
  by_cases h : c
  · rw [if_pos h, if_pos h, if_neg one_ne]
  · rw [if_neg h, if_neg h, if_pos rfl]
theorem pD_sl {T : Nat → Int} {L : Nat} {c : Int} {s s' : pS} (h : pD T L c s = .inl s') (hl : s.2.2.length ≤ s.1) : s'.2.2.length + 1 ≤ s'.1 := by
  obtain ⟨h1, h2⟩ := pD_inl h
  subst h1
  exact pN_sl h2 hl
theorem c_pair {T : Nat → Int} {L : Nat} {q : Bool} {rc : Nat → Int → Int → xa_H → Option (Int × xa_H)} {d m : Nat} {f : pS → pR} (hd : d ≤ 6) (hf : 0 < d → pOK L q false m f) (hr : 0 < d → cF T L q rc 3 (d - 1) (l2 T L f (pO1 T L) (pO2 T L))) (h : xa_H) (s : pS) (P : Px T L q h s) (hl : s.2.2.length ≤ s.1) : cR T L q h (f_X3_pair rc 4 ((6 - d : Nat) : Int) h) (pairP T L (decide (0 < d)) f s) := by
  have S := px_S P
  unfold f_X3_pair pairP
  by_cases g : pG T L s 40 = true
  · rw [if_pos g]
    obtain ⟨v, h1, e, F1, o⟩ := q_stepInto P d hd
    rw [g40 S, x62 S, q_isSign P.1, bbind, iff01, if_pos g, x34 S, e, bbind]
    rcases o with ⟨o1, rfl, P1⟩ | ⟨o1, rfl, E1⟩
    · have S1 := px_S P1
      have n1 := pN_lt (T := T) (pG_lt g)
      have n2 := pN_sl (T := T) (pG_lt g) hl
      have lo := l2_ok (T := T) (hf o1) (pO1_ok (T := T)) (pO2_ok (T := T))
      rw [if_pos (show decide (0 < d) = true by simp [o1])]
      rw [if_neg one_ne, x34 S1, op_w o1 hd]
      refine cR_tr (DC_DP F1) (cR_bd (hr o1 h1 _ P1 (by omega)) (fun h' => if_pos rfl) (fun h2 s2 F2 e2 P2 => ?_))
      have S2 := px_S P2
      have z2 := lo.sl' e2 n1.2.1 (by omega)
      rw [if_neg one_ne, g40 S2, x62 S2]
      refine cR_bd (q_needSign P2 44) (fun h' => if_pos rfl) (fun h3 s3 F3 e3 P3 => ?_)
      have S3 := px_S P3
      have z3 := pD_sl e3 z2.1
      rw [if_neg one_ne, x34 S3]
      refine cR_bd (hr o1 h3 _ P3 (by omega)) (fun h' => if_pos rfl) (fun h4 s4 F4 e4 P4 => ?_)
      have S4 := px_S P4
      rw [if_neg one_ne, g40 S4, x62 S4]
      have := cR_bd (g := fun r17 => if r17.1 = 0 then some (0, r17.2) else some (1, r17.2)) (k := fun s => .inl s) (q_needSign P4 41) (fun h' => if_pos rfl) (fun h5 s5 F5 e5 P5 => cR_inl (Fx.refl _ _) P5)
      rw [bd_i] at this
      exact this
    · rw [if_pos rfl, if_neg (show ¬ decide (0 < d) = true by simp [o1])]
      exact cR_inr (DC_DP F1) E1
  · rw [if_neg g]
    obtain ⟨h1, e1, e2, e3⟩ := q_stray P.1
    rw [g40 S, x62 S, q_isSign P.1, bbind, iff01, if_neg g, g40 S, x62 S, e1, bbind, xbo_ok (Or.inl rfl)]
    exact cR_inr (DC_DP e3) e2
theorem q_needNumber {T : Nat → Int} {L : Nat} {h : xa_H} {p : Nat} {b : Bool} (C : Cx T L h p b) (most : Int) (hm : -1 ≤ most) :
    ∃ v h', f_X6_needNumber 2 most h = some (v, h') ∧ Fx DC h h' ∧ ((nFt T L p b most = none ∧ tk_k T L p b = 2 ∧ v = tk_v T L p ∧ v ≠ -1 ∧ Cx T L h' (tk_n T L p b).1 (tk_n T L p b).2) ∨ (∃ e, nFt T L p b most = some e ∧ v = -1 ∧ Ex h' e)) := by
  have S := C.1.1
  obtain ⟨c1, c2, c3, c4, c5, c6, c7, c8⟩ := C
  unfold f_X6_needNumber nFt
  by_cases k : tk_k T L p b = 2
  · have kd := (tk_k_n.mp k).2
    have vb := tk_v_b kd
    have st := tk_st_d kd
    have gd := tk_de_gt kd
    have dl : tk_de T L p ≤ L := rn_le tk_d0 _ _ c2
    have hL := c1.2.2.2.1
    have w : w32 (((tk_de T L p : Nat) : Int) - (p : Int)) = ((tk_de T L p - p : Nat) : Int) := by rw [w32_id (by omega) (by omega)]; omega
    rw [if_pos k]
    simp (disch := omega) only [↓reduceIte, ↓bbind, ↓bxgf, ↓bxpf, ↓bxal, ↓bxas, ↓bxrc, ↓exrc, xbo, xok_xset, xia_xset, xln_xset, xm_xset, xok_xarr, xia_xarr, xln_xarr, xm_xarr, Option.bind_some, Int.reduceToNat, Nat.reduceEqDiff, Nat.reduceSub, Int.reduceLT, Int.reduceLE, Int.reduceEq, Int.reduceNeg, if_true, if_false, ite_true, ite_false, true_and, and_true, false_and, and_false, eq_self, reduceIte, Bool.false_eq_true, Nat.reduceBEq, reduceCtorEq, or_true, true_or, or_false, false_or, xel, Int.toNat_natCast, Int.toNat_add, Int.toNat_mul, ok_2 S, c4, c5, c6, c7, if_pos k, st, w]
    by_cases y : 4 < tk_de T L p - p
    · obtain ⟨h1, e1, e2, e3⟩ := q_refuse c1 1 (p + 4) (z := w32 ((p : Int) + 4)) (by rw [w32_id (by omega) (by omega)]; omega)
      have e1' : f_X6_refuse 2 1 (w32 ((p : Int) + 4)) h = some (0, h1) := e1
      rw [if_pos y, if_pos (by omega), e1']
      exact ⟨_, h1, rfl, e3, Or.inr ⟨_, rfl, rfl, e2⟩⟩
    · rw [if_neg y, if_neg (by omega)]
      by_cases z : most < tk_v T L p
      · obtain ⟨h1, e1, e2, e3⟩ := q_refuse c1 2 p (z := (p : Int)) rfl
        have e1' : f_X6_refuse 2 2 (p : Int) h = some (0, h1) := e1
        rw [if_pos z, if_pos z, e1']
        exact ⟨_, h1, rfl, e3, Or.inr ⟨_, rfl, rfl, e2⟩⟩
      · obtain ⟨h1, e1, e2, e3⟩ := s_step (h := h) (p := p) (b := b) ⟨c1, c2, c3, c4, c5, c6, c7, c8⟩
        rw [if_neg z, if_neg z, e1]
        exact ⟨_, h1, rfl, e3, Or.inl ⟨rfl, k, rfl, by omega, e2⟩⟩
  · obtain ⟨h1, e1, e2, e3⟩ := q_stray (h := h) (p := p) (b := b) ⟨c1, c2, c3, c4, c5, c6, c7, c8⟩
    rw [if_neg k, g2k S, g2k S, c4, if_neg k, x62 S, e1]
    exact ⟨_, h1, rfl, e3, Or.inr ⟨_, rfl, rfl, e2⟩⟩
theorem fin_put {T : Nat → Int} {L : Nat} {q : Bool} {h : xa_H} {s : pS} (P : Px T L q h s) {c v : Int} (hv : v = cof c) (hl : s.2.2.length < 1600) : cR T L q h ((f_X3_put 4 v h).bind fun r => if r.1 = 0 then some (0, r.2) else some (1, r.2)) (.inl (pU s c)) := by
  obtain ⟨h', e1, e2, e3⟩ := q_put P hv hl
  rw [e1]
  exact cR_inl e3 e2
theorem fin_put2 {T : Nat → Int} {L : Nat} {q : Bool} {h : xa_H} {s : pS} (P : Px T L q h s) {c v : Int} (hv : v = cof c) (hl : s.2.2.length < 1600) : cR T L q h ((f_X3_put 4 v h).bind fun r => xbo r.1 <| some (r.1, r.2)) (.inl (pU s c)) := by
  obtain ⟨h', e1, e2, e3⟩ := q_put P hv hl
  rw [e1]
  exact cR_inl e3 e2
theorem cof_num {v : Int} (h : 0 ≤ v) : v = cof (1000 + v) := by
  unfold cof
  rw [if_pos (by omega)]
  omega
theorem c_part {T : Nat → Int} {L : Nat} {q : Bool} {rc : Nat → Int → Int → xa_H → Option (Int × xa_H)} {d m : Nat} {f : pS → pR} (hd : d ≤ 6) (hf : 0 < d → pOK L q false m f) (h3 : 0 < d → cF T L q rc 3 (d - 1) (l2 T L f (pO1 T L) (pO2 T L))) (h5 : 0 < d → cF T L q rc 5 (d - 1) f) (h6 : cF T L q rc 6 d (pairP T L (decide (0 < d)) f)) (h : xa_H) (s : pS) (P : Px T L q h s) (hl : s.2.2.length ≤ s.1) : cR T L q h (f_X3_part rc 4 ((6 - d : Nat) : Int) h) (ptB T L q (decide (0 < d)) f s) := by
  have S := px_S P
  have pl := px_le P
  obtain ⟨⟨c1, c2, c3, c4, c5, c6, c7, c8⟩, p2, p3⟩ := P
  have P : Px T L q h s := ⟨⟨c1, c2, c3, c4, c5, c6, c7, c8⟩, p2, p3⟩
  have c8' : xm h 2 7 = pW T L s := c8
  unfold f_X3_part
  by_cases k : tk_k T L s.1 s.2.1 = 2
  · have kd := (tk_k_n.mp k).2
    have vb := tk_v_b kd
    have sl := (tk_di.mp kd).1
    obtain ⟨v, h1, e, F1, o⟩ := q_needNumber P.1 9999 (by decide)
    rw [g40 S, g2k S, c4, if_pos k, g40 S, x62 S, e, bbind]
    unfold ptB
    rw [if_pos k]
    have nf : nFt T L s.1 s.2.1 9999 = if 4 < tk_de T L s.1 - s.1 then some (1, s.1 + 4) else none := by
      unfold nFt
      rw [if_pos k]
      by_cases y : 4 < tk_de T L s.1 - s.1
      · rw [if_pos y, if_pos y]
      · rw [if_neg y, if_neg y, if_neg (by omega)]
    rw [nf] at o
    by_cases y : 4 < tk_de T L s.1 - s.1
    · rw [if_pos y] at o ⊢
      rcases o with ⟨o1, -⟩ | ⟨er, o1, rfl, E1⟩
      · cases o1
      · cases o1
        rw [if_pos rfl]
        exact cR_inr (DC_DP F1) E1
    · rw [if_neg y] at o ⊢
      rcases o with ⟨-, -, rfl, o3, C1⟩ | ⟨er, o1, -⟩
      · have P1 : Px T L q h1 (pN T L s) := ⟨C1, fc_mv p2 F1, (F1.2.2.2 4 3 rfl).trans p3⟩
        have n2 := pN_sl (T := T) sl hl
        have n1 := pN_lt (T := T) sl
        rw [if_neg o3, x34 (px_S P1)]
        exact cR_tr (DC_DP F1) (fin_put P1 (cof_num vb.1) (by omega))
      · cases o1
  · rw [g40 S, g2k S, c4, if_neg k, g40 S, x62 S, q_isSign P.1, bbind, iff01]
    by_cases g : pG T L s 40 = true
    · obtain ⟨v, h1, e, F1, o⟩ := q_stepInto P d hd
      rw [if_pos g]
      unfold ptB
      rw [if_neg k, if_pos g, x34 S, e, bbind]
      rcases o with ⟨o1, rfl, P1⟩ | ⟨o1, rfl, E1⟩
      · have S1 := px_S P1
        have n1 := pN_lt (T := T) (pG_lt g)
        have n2 := pN_sl (T := T) (pG_lt g) hl
        rw [if_pos (show decide (0 < d) = true by simp [o1])]
        rw [if_neg one_ne, x34 S1, op_w o1 hd]
        refine cR_tr (DC_DP F1) (cR_bd (h3 o1 h1 _ P1 (by omega)) (fun h' => if_pos rfl) (fun h2 s2 F2 e2 P2 => ?_))
        have S2 := px_S P2
        rw [if_neg one_ne, g40 S2, x62 S2]
        have := cR_bd (g := fun r17 => if r17.1 = 0 then some (0, r17.2) else some (1, r17.2)) (k := fun s => .inl s) (q_needSign P2 41) (fun h' => if_pos rfl) (fun h5 s5 F5 e5 P5 => cR_inl (Fx.refl _ _) P5)
        rw [bd_i] at this
        exact this
      · rw [if_pos rfl, if_neg (show ¬ decide (0 < d) = true by simp [o1])]
        exact cR_inr (DC_DP F1) E1
    · rw [if_neg g, g40 S, g2k S, c8']
      have J113 : (pW T L s = 21 ∨ pW T L s = 22) → cR T L q h (f_X3_part_J113 rc 4 ((6 - d : Nat) : Int) h) (ptB T L q (decide (0 < d)) f s) := by
        intro hw
        have sl : s.1 < L := pW_lt (T := T) (L := L) (by omega)
        have n1 := pN_lt (T := T) sl
        have n2 := pN_sl (T := T) sl hl
        obtain ⟨h1, e1, P1, F1⟩ := q_step P
        have S1 := px_S P1
        have J132 : ∀ v : Int, v = cof (if pW T L s = 21 then 5 else 6) → cR T L q h (f_X3_part_J132 rc 4 ((6 - d : Nat) : Int) v h) (ptB T L q (decide (0 < d)) f s) := by
          intro v hv
          rw [ptB_pair hw]
          unfold f_X3_part_J132
          rw [g40 S, x62 S, e1, bbind, x34 S1]
          refine cR_tr (DC_DP F1) (cR_bd (h6 h1 _ P1 (by omega)) (fun h' => if_pos rfl) (fun h2 s2 F2 e2 P2 => ?_))
          rw [if_neg one_ne, x34 (px_S P2)]
          refine fin_put P2 hv ?_
          have z : s2.2.2.length < s2.1 ∧ s2.1 ≤ L := by
            unfold pairP at e2
            split at e2
            · rename_i g2
              split at e2
              · rename_i o1
                have o1 : 0 < d := by simpa using o1
                have lo := l2_ok (T := T) (hf o1) (pO1_ok (T := T)) (pO2_ok (T := T))
                have u1 := pN_lt (T := T) (pG_lt g2)
                have u2 := pN_sl (T := T) (pG_lt g2) (by omega : (pN T L s).2.2.length ≤ (pN T L s).1)
                cases x1 : l2 T L f (pO1 T L) (pO2 T L) (pN T L (pN T L s)) with
                | inr e => rw [x1] at e2; cases e2
                | inl y1 =>
                  rw [x1, bd_l] at e2
                  have t1 := lo.sl' x1 u1.2.1 (by omega)
                  cases x2 : pD T L 44 y1 with
                  | inr e => rw [x2] at e2; cases e2
                  | inl y2 =>
                    rw [x2, bd_l] at e2
                    have t2 := pD_sl x2 t1.1
                    obtain ⟨v1, v2⟩ := pD_inl x2
                    have v3 := pN_lt (T := T) v2
                    cases x3 : l2 T L f (pO1 T L) (pO2 T L) y2 with
                    | inr e => rw [x3] at e2; cases e2
                    | inl y3 =>
                      rw [x3, bd_l] at e2
                      have t3 := lo.sl' x3 (by rw [v1]; exact v3.2.1) (by omega)
                      have t4 := pD_sl e2 t3.1
                      obtain ⟨v5, v6⟩ := pD_inl e2
                      have v7 := pN_lt (T := T) v6
                      rw [← v5] at v7
                      exact ⟨by omega, v7.2.1⟩
              · cases e2
            · cases e2
          omega
        unfold f_X3_part_J113
        rw [g40 S, g2k S, c8']
        by_cases y : pW T L s = 21
        · rw [if_pos y]
          exact J132 _ (by rw [if_pos y]; rfl)
        · rw [if_neg y]
          exact J132 _ (by rw [if_neg y]; rfl)
      have J214 : ¬(pW T L s = 21 ∨ pW T L s = 22) → ¬(q = true ∧ pW T L s = 14) → cR T L q h (f_X3_part_J214 rc 4 h) (ptB T L q (decide (0 < d)) f s) := by
        intro hw hw2
        have fc := q_factCode P
        unfold ptB
        rw [if_neg k, if_neg g, if_neg hw, if_neg hw2]
        unfold f_X3_part_J214
        rw [g40 S, g2k S, c8', x34 S, fc, bbind]
        cases hF : pF q (pW T L s) with
        | none =>
          obtain ⟨h1, e1, e2, e3⟩ := q_stray P.1
          dsimp only
          rw [if_pos rfl, g40 S, x62 S, e1, bbind, xbo_ok (Or.inl rfl)]
          exact cR_inr (DC_DP e3) e2
        | some c =>
          obtain ⟨f1, f2, f3⟩ := pF_some hF
          obtain ⟨h1, e1, P1, F1⟩ := q_step P
          have S1 := px_S P1
          have n1 := pN_lt (T := T) f1
          have n2 := pN_sl (T := T) f1 hl
          have cn : ¬ cof c = -22 := by
            unfold cof
            rw [if_neg (by omega), if_neg (by omega), if_pos (by omega)]
            omega
          dsimp only
          rw [if_neg cn, g40 S, x62 S, e1, bbind, x34 S1]
          exact cR_tr (DC_DP F1) (fin_put2 P1 rfl (by omega))
      by_cases w21 : pW T L s = 21
      · rw [if_pos w21]
        exact J113 (Or.inl w21)
      · rw [if_neg w21, g40 S, g2k S, c8']
        by_cases w22 : pW T L s = 22
        · rw [if_pos w22]
          exact J113 (Or.inr w22)
        · rw [if_neg w22, g43 S, p3]
          by_cases hq : q = true
          · rw [if_pos hq, if_neg one_ne, g40 S, g2k S, c8']
            by_cases w14 : pW T L s = 14
            · rw [if_pos w14]
              have sl : s.1 < L := pW_lt (T := T) (L := L) (by omega)
              obtain ⟨v, h1, e, F1, o⟩ := q_stepInto P d hd
              unfold ptB
              rw [if_neg k, if_neg g, if_neg (by omega), if_pos ⟨hq, w14⟩, x34 S, e, bbind]
              rcases o with ⟨o1, rfl, P1⟩ | ⟨o1, rfl, E1⟩
              · have S1 := px_S P1
                have n1 := pN_lt (T := T) sl
                have n2 := pN_sl (T := T) sl hl
                rw [if_pos (show decide (0 < d) = true by simp [o1])]
                rw [if_neg one_ne, x34 S1, op_w o1 hd]
                refine cR_tr (DC_DP F1) (cR_bd (h5 o1 h1 _ P1 (by omega)) (fun h' => if_pos rfl) (fun h2 s2 F2 e2 P2 => ?_))
                have z := (hf o1).sl e2 n1.2.1
                rw [if_neg one_ne, x34 (px_S P2)]
                exact fin_put P2 rfl (by omega)
              · rw [if_pos rfl, if_neg (show ¬ decide (0 < d) = true by simp [o1])]
                exact cR_inr (DC_DP F1) E1
            · rw [if_neg w14]
              exact J214 (by omega) (fun z => w14 z.2)
          · rw [if_neg hq, if_pos rfl]
            exact J214 (by omega) (fun z => hq z.1)
