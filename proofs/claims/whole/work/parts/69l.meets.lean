/-! ===== meetings, both sides ===== -/
theorem rr_sy {h : xa_H} {s F1 F2 T2 T3 n : Nat} (R : RR h s F1 F2 T2 T3) (n6 : n ≤ 6) : ∀ i j, i < n → j < n → fd (xm h 207) i j = fd (xm h 207) j i := by
  intro i j hi hj
  have := (rr_c R).2.2.2.2.2.2.2.2.2.2.2.2.2.1 i j (by omega) (by omega)
  unfold fd
  by_cases y : xand (xshr (xm h 207 (6 + i)) (j : Int)) 1 = 1
  · rw [decide_eq_true y, decide_eq_true (this.1 y)]
  · rw [decide_eq_false y, decide_eq_false (fun q => y (this.2 q))]
theorem fo_xn {h : xa_H} {s w F : Nat} (R : RFo h s w F) (y : xm h s (11 + w) ≠ -1) : F + 3 ≤ xn h := by
  rcases R with ⟨r, -⟩ | ⟨-, -, L, a, f, -⟩
  · exact absurd r y
  · exact f.2.1
theorem c_meet {h H1 : xa_H} {s F1 F2 T2 T3 n w c : Nat} (R : RR h s F1 F2 T2 T3) (en : xm h 199 4 = (n : Int)) (n6 : n ≤ 6) (hw : w < 2) (src : f_X11_findSources 0 h = some (1, H1)) (F : F69 h H1) (V : vperm n c) (sc : ∀ i, i < n → xm H1 169 i = ((dg i c : Nat) : Int)) :
    ∃ v H2 T, f_X11_meetings 0 ((2 + w : Nat) : Int) h = some (v, H2) ∧ ansB (rch n (xm h 207) (2 + w)) c v ∧ SH H2 ∧ (xn h ≤ xn H2 ∧ xn H2 ≤ xn h + 5) ∧ (xz h ≤ xz H2 ∧ xz H2 ≤ xz h + 1619) ∧ (∀ a, a < xn h → xk H2 a = xk h a) ∧ (∀ a k, a < xn h → a ≠ 169 → ¬ (a = 168 ∧ k = w) → ¬ (T ≤ a ∧ a < T + 5) → xm H2 a k = xm h a k) ∧ xm H2 168 w = (T : Int) ∧ SI H2 T n (xm h 207) (2 + w) ∧ s + 13 ≤ T ∧ (xm h s 11 ≠ -1 → F1 + 3 ≤ T) ∧ (xm h s 12 ≠ -1 → F2 + 3 ≤ T) ∧ ((T = (if w = 0 then T2 else T3) ∧ xm h 168 w = (T : Int)) ∨ T = xn h) := by
  have Sh := rr_S R
  have h249 : 249 ≤ xn h := Sh.1
  have C := rr_c R
  have cs := C.2.1
  have S1 := F.sh Sh
  have rs : RSo h s F1 F2 w (if w = 0 then T2 else T3) := by
    have := rr_o R
    have hw' : w = 0 ∨ w = 1 := by omega
    rcases hw' with rfl | rfl
    · exact this.1
    · exact this.2.1
  have m68 : xm H1 168 w = xm h 168 w := F.2.2.2 168 w (by omega)
  have fin : ∀ (G : xa_H) (T : Nat), SH G → SW G T n (xm h 207) (2 + w) → (∀ k, xm G 169 k = xm H1 169 k) → ∃ v H2, f_X11_meetings_J54 0 (T : Int) G = some (v, H2) ∧ ansB (rch n (xm h 207) (2 + w)) c v ∧ FT T G H2 ∧ SW H2 T n (xm h 207) (2 + w) := by
    intro G T SG W e
    obtain ⟨v, H2, g1, g2, g3, g4⟩ := t_fewest SG W V (fun i hi => (e i).trans (sc i hi))
    refine ⟨v, H2, ?_, g2, g3, g4⟩
    unfold f_X11_meetings_J54
    rw [g0k SG, pt_0_13 SG, xSo W.1, g1]
    rfl
  have hd : f_X11_meetings 0 ((2 + w : Nat) : Int) h = if xm h 168 w = -1 then (xnO H1 8 8).bind fun h8 => (xgf h8 11 5 0).bind fun x9 => (f_X8_init ((xn H1 : Int)) x9 ((2 + w : Nat) : Int) h8).bind fun r10 => (xgf r10 11 12 0).bind fun x11 => xrc r10 8 ((xn H1 : Int)) <| (xas r10 5 x11 (w : Int) ((xn H1 : Int))).bind fun h12 => f_X11_meetings_J54 0 ((xn H1 : Int)) h12 else f_X11_meetings_J54 0 (xm h 168 w) H1 := by
    unfold f_X11_meetings
    rw [if_neg (by omega), if_neg (by omega), x0o Sh, src, bbind, if_neg (show ¬ (1 : Int) = 0 by decide), g0k S1, pt_0_12 S1, w32_id (by omega) (by omega), show ((2 + w : Nat) : Int) - 2 = (w : Int) by omega]
    refine (bnd (xal_eq (a := 168) (ia_168 S1 (by omega) (by omega)) m68)).trans ?_
    refine (xn5_ok ?_).trans rfl
    rcases rs with rs | ⟨rs, -⟩
    · rw [rs]; decide
    · rw [rs]; omega
  rcases rs with rs | ⟨g1, g2, g3, g4, g5⟩
  · -- a new one
    rw [if_pos rs] at hd
    have E1 : EV H1 s (xm h 207) := ⟨cs.mv (by rw [F.1]; exact Nat.le_refl _) (fun a _ => by rw [F.2.2.1]) (fun a k y1 y2 => F.2.2.2 a k (by have := cs.1; omega)), fun i hi => by rw [F.2.2.2 _ _ (by have := cs.1; omega)]; exact rc_feud C hi⟩
    have c1 := cs.1
    have c2 := cs.2.1
    obtain ⟨G, t1, t2, t3, t4, t5, t6⟩ := t_init (mo := 2 + w) S1.1 E1 ((F.2.2.2 s 2 (by omega)).trans (C.2.2.2.2.2.2.1.trans en)) n6 (rr_sy R n6)
    have f7 := fct_720 n6
    have Sn : SH (xno H1 8 8) := sh_new S1
    have SG : SH G := S1.mv (by omega) t5 (fun a k hf => t6 a k (by have := fix_lt hf; have := S1.1; omega))
    obtain ⟨T, eT⟩ : ∃ T, T = xn H1 := ⟨_, rfl⟩
    rw [← eT] at t1 t2 t3 hd
    obtain ⟨G2, eG2⟩ : ∃ z, z = xset G 168 w (T : Int) := ⟨_, rfl⟩
    have SG2 : SH G2 := by rw [eG2]; exact SG.set (fixd_of (by decide +kernel))
    have W2 : SW G2 T n (xm h 207) (2 + w) := by
      refine ((t2.si).mv (h' := G2) (by rw [eG2]; exact Nat.le_refl _) (fun a _ => by rw [eG2]; rfl) (fun a k y1 y2 => ?_) rfl).sw n6
      rw [eG2, xm_xset, if_neg (by have := S1.1; omega)]
    have o9 : ∀ k, xm G2 169 k = xm H1 169 k := fun k => by rw [eG2, xm_xset, if_neg (by omega)]; exact t6 169 k (by have := S1.1; omega)
    obtain ⟨v, H2, q1, q2, q3, q4⟩ := fin G2 T SG2 W2 o9
    have nT : T = xn h := by rw [eT, F.1]
    have W2ok := W2.1
    have SH2 : SH H2 := SG2.mv (by rw [q3.1]; exact Nat.le_refl _) (fun a _ => by rw [q3.2.2.1]) (fun a k hf => q3.2.2.2 a k (by have := fix_lt hf; omega) (by have := fix_lt hf; omega))
    have n2 : xn H2 = xn h + 5 := by rw [q3.1, eG2]; show xn G = _; rw [t3, nT]
    have z2 : xz H2 = xz h + (179 + 2 * fct n) := by rw [q3.2.1, eG2]; show xz G = _; rw [t4, F.2.1]
    refine ⟨v, H2, T, ?_, q2, SH2, by omega, by omega, fun a ha => ?_, fun a k ha y1 y2 y3 => ?_, ?_, q4.si, by omega, fun y => ?_, fun y => ?_, Or.inr nT⟩
    · rw [hd, show xnO H1 8 8 = some (xno H1 8 8) from rfl, bbind, g0k Sn]
      have e5 : xm (xno H1 8 8) 0 5 = (s : Int) := by
        show xm (xnew H1 18 8 (xd0 8)) 0 5 = _
        rw [xm_xnew, if_neg (by have := S1.1; omega), F.2.2.2 0 5 (by omega)]
        exact C.1
      rw [e5, t1, bbind, g0k SG, pt_0_12 SG, show xrc G 8 (T : Int) _ = _ from if_pos t2.1.ok]
      refine (bnd (xas_eq (a := 168) (ia_168 SG (by omega) (by omega)))).trans ?_
      rw [← eG2]
      exact q1
    · rw [q3.2.2.1, eG2]
      show xk G a = _
      rw [t5 a (by omega), F.2.2.1]
    · rw [q3.2.2.2 a k (by omega) (by omega), eG2, xm_xset, if_neg (by omega), t6 a k (by omega), F.2.2.2 a k y1]
    · rw [q3.2.2.2 168 w (by omega) (by omega), eG2, xm_xset, if_pos ⟨rfl, rfl⟩]
    · rw [nT]; exact fo_xn (rr_F R).1 y
    · rw [nT]; exact fo_xn (rr_F R).2.1 y
  · -- one that there is
    obtain ⟨T, eT⟩ : ∃ T, T = (if w = 0 then T2 else T3) := ⟨_, rfl⟩
    rw [← eT] at g1 g2 g3 g4 g5
    rw [if_neg (by omega), g1] at hd
    rw [en, Int.toNat_natCast] at g5
    have T249 := g5.1
    have T5 := g5.2.1
    have W1 : SW H1 T n (xm h 207) (2 + w) := (g5.mv (h' := H1) (by rw [F.1]; exact Nat.le_refl _) (fun a _ => by rw [F.2.2.1]) (fun a k y1 y2 => F.2.2.2 a k (by omega)) rfl).sw n6
    obtain ⟨v, H2, q1, q2, q3, q4⟩ := fin H1 T S1 W1 (fun _ => rfl)
    have SH2 : SH H2 := S1.mv (by rw [q3.1]; exact Nat.le_refl _) (fun a _ => by rw [q3.2.2.1]) (fun a k hf => q3.2.2.2 a k (by have := fix_lt hf; omega) (by have := fix_lt hf; omega))
    have n2 : xn H2 = xn h := by rw [q3.1, F.1]
    have z2 : xz H2 = xz h := by rw [q3.2.1, F.2.1]
    refine ⟨v, H2, T, by rw [hd]; exact q1, q2, SH2, by omega, by omega, fun a ha => ?_, fun a k ha y1 y2 y3 => ?_, ?_, q4.si, g2, g3, g4, Or.inl ⟨eT, g1⟩⟩
    · rw [q3.2.2.1, F.2.2.1]
    · rw [q3.2.2.2 a k (by omega) (by omega), F.2.2.2 a k y1]
    · rw [q3.2.2.2 168 w (by omega) (by omega), F.2.2.2 168 w (by omega)]; exact g1
/-- what meetings may change -/
def DMe (w T a k : Nat) : Prop := (216 ≤ a ∧ a ≤ 218) ∨ (a = 173 ∧ k = 65) ∨ a = 169 ∨ (a = 168 ∧ k = w) ∨ (T ≤ a ∧ a < T + 5)
theorem rr_meet {h g : xa_H} {s F1 F2 T2 T3 w T U2 U3 : Nat} (R : RR h s F1 F2 T2 T3) (S : SH g) (hn : xn h ≤ xn g) (hk : ∀ a, a < xn h → xk g a = xk h a) (e : ∀ a k, a < xn h → ¬ DMe w T a k → xm g a k = xm h a k) (T249 : 249 ≤ T) (sT : s + 13 ≤ T) (t1 : xm h s 11 ≠ -1 → F1 + 3 ≤ T) (t2 : xm h s 12 ≠ -1 → F2 + 3 ≤ T) (go : RSs g s F1 F2 U2 U3) : RR g s F1 F2 U2 U3 := by
  have Sh := rr_S R
  have h249 : 249 ≤ xn h := Sh.1
  have C := rr_c R
  have c1 := C.2.1.1
  have c2 := C.2.1.2.1
  have FF := rr_F R
  have ag : ∀ D : Nat → Nat → Bool, (∀ a k, D a k = true → a < 249 ∧ ¬ (216 ≤ a ∧ a ≤ 218) ∧ ¬ (a = 173 ∧ k = 65) ∧ a ≠ 169 ∧ a ≠ 168) → agr D h g := fun D hD a k q => e a k (by have := hD a k q; omega) (by have := hD a k q; unfold DMe; omega)
  have fo : ∀ v F, v < 2 → (xm h s (11 + v) ≠ -1 → F + 3 ≤ T) → RFo h s v F → RFo g s v F := by
    intro v F hv ht o
    have e0 : xm g s (11 + v) = xm h s (11 + v) := e _ _ (by omega) (by unfold DMe; omega)
    by_cases y : xm h s (11 + v) = -1
    · rcases o with ⟨o1, o2⟩ | ⟨o1, -⟩
      · exact Or.inl ⟨e0.trans o1, by rw [e 209 _ (by omega) (by unfold DMe; omega)]; exact o2⟩
      · omega
    · have f3 := fo_xn o y
      have f4 := ht y
      have f5 : 249 ≤ F := by
        rcases o with ⟨o1, -⟩ | ⟨-, -, L, a, fs, -⟩
        · exact absurd o1 y
        · exact fs.1
      exact o.mv hn hk (fun a k hd => e a k (by omega) (by unfold DMe; omega))
  refine ⟨S, (rr_t R).mv (ag _ (fun a k q => ?_)), (rr_r R).mv (ag _ (fun a k q => ?_)), (rr_f R).mv (ag _ (fun a k q => ?_)), C.mv hn hk (fun a k hd => e a k (by unfold DRc at hd; omega) (by unfold DRc at hd; unfold DMe; omega)), ⟨fo 0 F1 (by omega) t1 FF.1, fo 1 F2 (by omega) t2 FF.2.1, FF.2.2⟩, (rr_n R).mv (ag _ (fun a k q => ?_)), (rr_h R).mv (ag _ (fun a k q => ?_)), (rr_j R).mv (ag _ (fun a k q => ?_)), (rr_i R).mv (ag _ (fun a k q => ?_)), (rr_s R).mv (ag _ (fun a k q => ?_)), go, (rr_2 R).mv (ag _ (fun a k q => ?_))⟩
  · unfold DRt at q; simp at q; omega
  · unfold DRr at q; simp at q; omega
  · unfold DRf at q; simp at q; omega
  · unfold DRn at q; simp at q; omega
  · unfold DRh at q; simp at q; omega
  · unfold DRj at q; simp at q; omega
  · unfold DRi at q; simp at q; omega
  · unfold DRs at q; simp at q; omega
  · unfold DRo2 at q; simp at q; omega
def CallS (h : xa_H) (fc : Option (Int × xa_H)) (fr : xa_H → Option (Int × xa_H)) : Prop := ∃ v h1 h2, fc = some (v, h1) ∧ fr h1 = some (v, h2) ∧ (∃ s F1 F2 T2 T3, RR h2 s F1 F2 T2 T3) ∧ (xn h ≤ xn h2 ∧ xn h2 ≤ xn h + 40) ∧ (xz h ≤ xz h2 ∧ xz h2 ≤ xz h + 8000) ∧ SH h1
theorem CallS.same {h h1 h2 : xa_H} {v : Int} {fc : Option (Int × xa_H)} {fr : xa_H → Option (Int × xa_H)} (S : SH h1) (e1 : fc = some (v, h1)) (e2 : fr h1 = some (v, h2)) (R : ∃ s F1 F2 T2 T3, RR h2 s F1 F2 T2 T3) (hn : xn h2 = xn h) (hz : xz h2 = xz h) : CallS h fc fr :=
  ⟨v, h1, h2, e1, e2, R, by omega, by omega, S⟩
theorem c_meetingS {h : xa_H} {s F1 F2 T2 T3 : Nat} (R : RR h s F1 F2 T2 T3) (v : Int) : CallS h (f_X11_meetings 0 v h) (f_X12_meetings 173 v) := by
  have Sh := rr_S R
  have h249 : 249 ≤ xn h := Sh.1
  have C := rr_c R
  have c1 := C.2.1.1
  have c2 := C.2.1.2.1
  have n6 := rc_n C
  obtain ⟨n, en⟩ : ∃ n : Nat, xm h 199 4 = (n : Int) := ⟨(xm h 199 4).toNat, by omega⟩
  have hn : n ≤ 6 := by omega
  have sy := rr_sy R hn
  by_cases bad : v < 2 ∨ 3 < v
  · refine CallS.same (v := -1) (h1 := h) (h2 := h) Sh ?_ ?_ ⟨s, F1, F2, T2, T3, R⟩ rfl rfl
    · unfold f_X11_meetings
      by_cases y : v < 2
      · rw [if_pos y]
      · rw [if_neg y, if_pos (by omega)]
    · unfold f_X12_meetings
      rw [s_X12_isIn, bbind, if_pos bad, if_pos rfl]
  · obtain ⟨w, hw2, rfl⟩ : ∃ w : Nat, w < 2 ∧ v = ((2 + w : Nat) : Int) := ⟨(v - 2).toNat, by omega, by omega⟩
    rcases c_srcs R en with ⟨H1, c, src, F, V, sc, st⟩ | ⟨H1, src, F, no⟩
    · obtain ⟨v, H2, T, a1, a2, a3, a4, a5, a6, a7, a8, a9, a10, a11, a12, a13⟩ := c_meet R en hn hw2 src F V sc
      have T249 : 249 ≤ T := a9.1
      have T5 := a9.2.1
      have q7 : ∀ a k, 173 ≤ a → a < 249 → xm H2 a k = xm h a k := fun a k y1 y2 => a7 a k (by omega) (by omega) (by omega) (by omega)
      obtain ⟨v', G, r1, r2, r3⟩ := m_meet (mo := 2 + w) en hn sy (rr_MV a3 (fun a k y1 y2 => q7 a k (by omega) (by omega))) (fun k => q7 212 k (by omega) (by omega)) (by omega)
      have ev : v' = v := by
        rcases r3 with ⟨c', V', st', an⟩ | ⟨rfl, an⟩
        · rw [stl_one R en V' V st' st] at an
          exact ansB_one an a2
        · exact ansB_one (an c V st) a2
      rw [ev] at r1
      have SG : SH G := r2.sh DBt_nf a3
      have kG : ∀ a, xk G a = xk H2 a := fun a => by rw [r2.2.2.1]
      have eG : ∀ a k, a < xn h → ¬ DMe w T a k → xm G a k = xm h a k := fun a k ha hd => by
        unfold DMe at hd
        rw [r2.2.2.2 a k (dbt_ne (by omega)), a7 a k ha (by omega) (by omega) (by omega)]
      have e207 : xm G 207 = xm h 207 := funext fun k => eG 207 k (by omega) (by unfold DMe; omega)
      have e94 : xm G 199 4 = (n : Int) := (eG 199 4 (by omega) (by unfold DMe; omega)).trans en
      have e11 : xm G s 11 = xm h s 11 := eG s 11 (by omega) (by unfold DMe; omega)
      have e12 : xm G s 12 = xm h s 12 := eG s 12 (by omega) (by unfold DMe; omega)
      have own : RSo G s F1 F2 w T := by
        refine Or.inr ⟨by rw [r2.2.2.2 168 w (dbt_ne (by omega))]; exact a8, a10, by rw [e11]; exact a11, by rw [e12]; exact a12, ?_⟩
        rw [e94, Int.toNat_natCast, e207]
        exact a9.mv (by rw [r2.1]; exact Nat.le_refl _) (fun a _ => kG a) (fun a k y1 y2 => r2.2.2.2 a k (dbt_ne (by omega))) rfl
      have so := rr_o R
      obtain ⟨so1, so2, so3, so4, so5⟩ := so
      -- the other sorter stays
      have oth : ∀ x U, x < 2 → x ≠ w → RSo h s F1 F2 x U → (xm h 168 x ≠ -1 → U + 5 ≤ T ∨ T + 5 ≤ U) → RSo G s F1 F2 x U := by
        intro x U hx hne o ap
        have e8 : xm G 168 x = xm h 168 x := eG 168 x (by omega) (by unfold DMe; omega)
        rcases o with o | ⟨g1, g2, g3, g4, g5⟩
        · exact Or.inl (e8.trans o)
        · have u1 := g5.1
          have u2 := g5.2.1
          have ap' := ap (by omega)
          refine Or.inr ⟨e8.trans g1, g2, by rw [e11]; exact g3, by rw [e12]; exact g4, ?_⟩
          rw [e94, e207]
          rw [en] at g5
          exact g5.mv (by rw [r2.1]; exact a4.1) (fun a ha => (kG a).trans (a6 a ha)) (fun a k y1 y2 => eG a k (by omega) (by unfold DMe; omega)) rfl
      have ux : ∀ x U, RSo h s F1 F2 x U → xm h 168 x ≠ -1 → U + 5 ≤ xn h := by
        intro x U o y
        rcases o with o | ⟨-, -, -, -, g5⟩
        · exact absurd o y
        · exact g5.2.1
      have hw' : w = 0 ∨ w = 1 := by omega
      have done : (∃ U2 U3, RSs G s F1 F2 U2 U3) := by
        rcases hw' with rfl | rfl
        · have ap : xm h 168 1 ≠ -1 → T3 + 5 ≤ T ∨ T + 5 ≤ T3 := fun y => by
            rcases a13 with ⟨b1, b2⟩ | b1
            · rw [if_pos rfl] at b1
              rw [b1] at b2 ⊢
              have := so3 (by omega) y
              omega
            · have := ux 1 T3 so2 y
              omega
          refine ⟨T, T3, own, oth 1 T3 (by omega) (by omega) so2 ap, fun _ y2 => ?_, T249, so5⟩
          rw [eG 168 1 (by omega) (by unfold DMe; omega)] at y2
          have := ap y2
          omega
        · have ap : xm h 168 0 ≠ -1 → T2 + 5 ≤ T ∨ T + 5 ≤ T2 := fun y => by
            rcases a13 with ⟨b1, b2⟩ | b1
            · rw [if_neg (by decide)] at b1
              rw [b1] at b2 ⊢
              have := so3 y (by omega)
              omega
            · have := ux 0 T2 so1 y
              omega
          refine ⟨T2, T, oth 0 T2 (by omega) (by omega) so1 ap, own, fun y1 _ => ?_, so4, T249⟩
          rw [eG 168 0 (by omega) (by unfold DMe; omega)] at y1
          exact ap y1
      obtain ⟨U2, U3, go⟩ := done
      exact ⟨v, H2, G, a1, r1, ⟨s, F1, F2, U2, U3, rr_meet R SG (by rw [r2.1]; exact a4.1) (fun a ha => (kG a).trans (a6 a ha)) eG T249 a10 a11 a12 go⟩, by rw [r2.1]; omega, by rw [r2.2.1]; omega, a3⟩
    · have S1 := F.sh Sh
      have q7 : ∀ a k, a ≠ 169 → xm H1 a k = xm h a k := F.2.2.2
      obtain ⟨v', G, r1, r2, r3⟩ := m_meet (mo := 2 + w) en hn sy (rr_MV S1 (fun a k y1 y2 => q7 a k (by omega))) (fun k => q7 212 k (by omega)) (by omega)
      have ev : v' = -1 := by
        rcases r3 with ⟨c', V', st', an⟩ | ⟨e, -⟩
        · exact absurd st' (no c' V')
        · exact e
      rw [ev] at r1
      have SG : SH G := r2.sh DBt_nf S1
      have eG : ∀ a k, ¬ (216 ≤ a ∧ a ≤ 218) → ¬ (a = 173 ∧ k = 65) → a ≠ 169 → xm G a k = xm h a k := fun a k y1 y2 y3 => by
        rw [r2.2.2.2 a k (dbt_ne (by omega)), q7 a k y3]
      refine CallS.same (v := -1) (h1 := H1) (h2 := G) S1 ?_ r1 ⟨s, F1, F2, T2, T3, rr_meet (w := 0) (T := xn h) R SG (by rw [r2.1, F.1]; exact Nat.le_refl _) (fun a _ => by rw [r2.2.2.1, F.2.2.1]) (fun a k ha hd => eG a k (by unfold DMe at hd; omega) (by unfold DMe at hd; omega) (by unfold DMe at hd; omega)) h249 (by omega) (fun y => fo_xn (rr_F R).1 y) (fun y => fo_xn (rr_F R).2.1 y) ?_⟩ (by rw [r2.1, F.1]) (by rw [r2.2.1, F.2.1])
      · unfold f_X11_meetings
        rw [if_neg (by omega), if_neg (by omega), x0o Sh, src, bbind, if_pos rfl]
      · have so := rr_o R
        refine so.mv (by rw [r2.1, F.1]; exact Nat.le_refl _) (fun a _ => by rw [r2.2.2.1, F.2.2.1]) (fun a k hd => eG a k (by omega) (by omega) (by omega)) (fun _ a k y1 y2 => eG a k (by have := so.2.2.2.1; omega) (by have := so.2.2.2.1; omega) (by have := so.2.2.2.1; omega)) (fun _ a k y1 y2 => eG a k (by have := so.2.2.2.2; omega) (by have := so.2.2.2.2; omega) (by have := so.2.2.2.2; omega))
