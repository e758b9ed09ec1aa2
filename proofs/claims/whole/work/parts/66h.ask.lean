/-! ===== ask ===== -/
theorem aG_ok {T : Nat → Int} {L k : Nat} {s : pS} (hL : L ≤ 1600) (a : aG T L k s) : s.2.2.length ≤ 1600 ∧ (∀ i, i < s.2.2.length → vcode true (s.2.2.getD i 0)) ∧ trun (fun i => s.2.2.getD i 0) s.2.2.length [] = some [decide (k < 3)] := by
  obtain ⟨k6, ew, e⟩ := a
  have pl : tk_sk T L 0 < L := by
    have := tk_w_l (T := T) (L := L) (p := tk_sk T L 0) (b := false) (by rw [ew]; omega)
    exact (tk_li.mp this.2).1
  unfold aQ at e
  cases f : fmQ T L (if k < 3 then 0 else 1) (pN T L (tk_sk T L 0, false, [])) with
  | inr x => rw [f] at e; cases e
  | inl s' =>
    rw [f, bd_l] at e
    have e2 : s' = s := by
      by_cases y : s'.1 < L
      · rw [if_pos y] at e; cases e
      · rw [if_neg y] at e; exact Sum.inl.inj e
    subst e2
    have pn := (pN_lt (T := T) (s := (tk_sk T L 0, false, [])) pl).2.1
    obtain ⟨o1, o2, c, o3, o4, o5, o6⟩ := fmQ_ok (T := T) (L := L) (if k < 3 then 0 else 1) _ _ f pn
    have ec : s'.2.2 = c := by rw [o3]; rfl
    rw [ec]
    refine ⟨by omega, fun i hi => o5 _ ?_, ?_⟩
    · rw [List.getD_eq_getElem?_getD, List.getElem?_eq_getElem hi]
      exact List.getElem_mem _
    · rw [tl_trun, o6 [] (by simp)]
      by_cases y : k < 3
      · rw [if_pos y, decide_eq_true y]; rfl
      · rw [if_neg y, decide_eq_false y]; rfl
theorem l_ask {h G : xa_H} {s n l F1 F2 T2 T3 k : Nat} {c : Nat → Int} (R : RR h s F1 F2 T2 T3) (en : xm h 199 4 = (n : Int)) (Q : QM h G) (h98 : xm G 173 98 = (l : Int)) (hl : l < 1602) (hc : ∀ i, i < l → xm G 245 i = c i ∧ vcode true (c i)) (ht : trun c l [] = some [decide (k < 3)]) (hk : k < 6) (hw : ∀ i, i < n → okv1 (decide (k < 3)) (wv h n c l i) ∧ vrun (fq h n i) c l = [wv h n c l i]) :
    ∀ m i, i + m = n → ∀ H, Fx DY2 G H → xm H 173 105 = rf (wv h n c l) k i → (xm H 173 106 = if i = 0 then 1 else 0) → ∀ fu, m < fu → (k = 3 → -1000000 * (i : Int) ≤ rf (wv h n c l) 3 i ∧ rf (wv h n c l) 3 i ≤ 1000000 * (i : Int)) →
    ∃ H', xit (fun s => f_X12_ask_L167 173 (k : Int) s.1 s.2) fu ((i : Int), H) = some H' ∧ Fx DY2 G H' ∧ xm H' 173 105 = rf (wv h n c l) k n := by
  have C := rr_c R
  have n6 := rc_n C
  intro m
  induction m with
  | zero =>
    intro i him H Z e5 e6 fu hf hb
    have Qh := Q.fx Z
    have : i = n := by omega
    subst this
    refine ⟨H, xit_end ?_ hf, Z, e5⟩
    show f_X12_ask_L167 173 (k : Int) (i : Int) H = _
    unfold f_X12_ask_L167
    rw [xM Qh.1, m_many Qh en, bbind, if_neg (by omega)]
  | succ m ih =>
    intro i him H Z e5 e6 fu hf hb
    have Qh := Q.fx Z
    obtain ⟨fu, rfl⟩ : ∃ z, fu = z + 1 := ⟨fu - 1, by omega⟩
    obtain ⟨o, ev⟩ := hw i (by omega)
    have tq := m_qTold (fa := fq h n i) (w := (i : Int)) (c := c) Qh.1 (fq_ok R en (by omega)) ((Z.2.2.2 173 98 rfl).trans h98) (by omega) (fun j hj => by rw [Z.2.2.2 245 j rfl]; exact hc j hj) ht ev (fun H2 e2 j hj y => m_part R (Qh.fx (DW_DY2 e2)) en (by omega) hj y.1 y.2) (fun H2 e2 a _ _ => m_of R (Qh.fx (DW_DY2 e2)) en (by omega))
    have F1 := rH_f H (fq h n i) c l
    obtain ⟨H1, eH1⟩ : ∃ z, z = rH H (fq h n i) c l := ⟨_, rfl⟩
    rw [← eH1] at tq F1
    have Z1 : Fx DY2 G H1 := Z.tr (DW_DY2 F1)
    have Q1 := Q.fx Z1
    have b2 := rf_c (w := wv h n c l) i
    obtain ⟨H2, t1, t2, t3, t4⟩ := m_takes (H := H1) Q1.1 (w := wv h n c l) hk (i := i) (by omega) (by rw [F1.2.2.2 173 105 rfl]; exact e5) (by rw [F1.2.2.2 173 106 rfl]; exact e6) (by
      unfold okv1 at o
      by_cases y : k < 3
      · rw [if_pos y]; rw [decide_eq_true y, if_pos rfl] at o; exact o
      · rw [if_neg y]; rw [decide_eq_false y, if_neg (by decide)] at o; exact o) (fun y => by have := hb y; omega) (fun _ => by omega)
    obtain ⟨H', x1, x2, x3⟩ := ih (i + 1) (by omega) H2 (Z1.tr t2) t3 (by rw [t4, if_neg (by omega)]) fu (by omega) (fun y => by
      subst y
      unfold okv1 at o
      rw [decide_eq_false (by omega), if_neg (by decide)] at o
      have r3 : rf (wv h n c l) 3 (i + 1) = rf (wv h n c l) 3 i + wv h n c l i := rfl
      have := hb rfl
      rw [r3]
      omega)
    refine ⟨H', ?_, x2, x3⟩
    rw [← x1]
    refine xit_go ?_
    show f_X12_ask_L167 173 (k : Int) (i : Int) H = _
    unfold f_X12_ask_L167
    rw [xM Qh.1, m_many Qh en, bbind, if_pos (by omega), xM Qh.1, tq, bbind, xM Q1.1, t1, bbind, wS (by omega)]
theorem c_ask {h : xa_H} {s F1 F2 T2 T3 : Nat} (R : RR h s F1 F2 T2 T3) : CallOK h (f_X11_ask 0 h) (f_X12_ask 173) := by
  have Sh := rr_S R
  have C := rr_c R
  have cs1 := C.2.1.1
  have cs2 := C.2.1.2.1
  obtain ⟨t1, t2, t3, t4⟩ := rr_t R
  have h249 : 249 ≤ xn h := Sh.1
  obtain ⟨L, eL⟩ : ∃ L : Nat, xm h 173 1 = (L : Int) := ⟨(xm h 173 1).toNat, by omega⟩
  have hL : L ≤ 1600 := by omega
  obtain ⟨n, en⟩ : ∃ n : Nat, xm h 199 4 = (n : Int) := ⟨(xm h 199 4).toNat, by have := rc_n C; omega⟩
  obtain ⟨T, eT⟩ : ∃ T, T = xm h 174 := ⟨_, rfl⟩
  obtain ⟨hA, G, SA, o⟩ := c_ask0 Sh (T := T) (t2.trans eL) (fun k hk => by
    have := t1 k hk
    rw [eT]
    exact ⟨this.2.2, this.1, this.2.1⟩) hL
  obtain ⟨h0, e0⟩ : ∃ z, z = xset h 0 1 0 := ⟨_, rfl⟩
  rw [← e0] at G
  have n0 : xn h0 = xn h := by rw [e0]; rfl
  have z0 : xz h0 = xz h := by rw [e0]; rfl
  have m0 : ∀ a k, ¬ (a = 0 ∧ k = 1) → xm h0 a k = xm h a k := fun a k q => by rw [e0, xm_xset, if_neg q]
  have v0 : xm h0 0 1 = 0 := by rw [e0, xm_xset, if_pos ⟨rfl, rfl⟩]
  have kA : ∀ a, a < xn h → xk hA a = xk h a := fun a ha => by rw [G.2.2.1 a (by omega), e0]; rfl
  have mA : ∀ a k, a < xn h → ¬ (a = 6 ∧ k = 2) → a ≠ 2 → a ≠ 4 → a ≠ 5 → xm hA a k = xm h0 a k := fun a k y0 y1 y2 y3 y4 => G.2.2.2 a k (by omega) y1 y2 y3 y4
  -- what both sides end with, by the class's last heap
  have fin : ∀ (H : xa_H) (D : Nat → Nat → Bool), Fx D hA H → (∀ a k, a < xn h → a ≠ 170 → D a k = false) → SH H → ∃ gA, Fx DA H gA ∧ SH gA ∧ xm gA 173 1 = 0 ∧ xm gA 173 49 = 0 ∧ ((∃ k s, aG T L k s ∧ xm gA 173 98 = (s.2.2.length : Int) ∧ (∀ i, i < s.2.2.length → xm gA 245 i = s.2.2.getD i 0) ∧ f_X12_ask 173 H = f_X12_ask_J157 173 (k : Int) 173 (if k < 2 then -1 else 0) (xset (xset gA 173 7 0) 173 8 (-1))) ∨
      ∃ e, aE T L e ∧ f_X12_ask 173 H = some (-1000000000000000, xset (xset gA 173 7 (e.1 : Int)) 173 8 (e.2 : Int))) := by
    intro H D Z hd S
    refine r_ask0 S ?_ ?_ hL (fun k hk => by rw [eT]; exact (t1 k hk).1)
    · rw [eT]
      refine funext fun k => ?_
      rw [Z.2.2.2 174 k (hd 174 k (by omega) (by omega)), mA 174 k (by omega) (by omega) (by omega) (by omega) (by omega), m0 174 k (by omega)]
    · rw [Z.2.2.2 173 1 (hd 173 1 (by omega) (by omega)), mA 173 1 (by omega) (by omega) (by omega) (by omega) (by omega), m0 173 1 (by omega), eL]
  -- the relation at the end
  have last : ∀ (H gA g2 : xa_H) (D : Nat → Nat → Bool) (x y : Int), Fx D hA H → (∀ a k, a < xn h → a ≠ 170 → D a k = false) → SH H → Fx DA H gA → SH gA → xm gA 173 1 = 0 → Fx DY2 (xset (xset gA 173 7 x) 173 8 y) g2 → xm hA 2 9 = x → xm hA 2 10 = y → RR g2 s F1 F2 T2 T3 ∧ xn g2 = xn hA ∧ xz g2 = xz hA := by
    intro H gA g2 D x y Z hd S DAe SgA g1 Y x9 x10
    obtain ⟨G2, eG⟩ : ∃ z, z = xset (xset gA 173 7 x) 173 8 y := ⟨_, rfl⟩
    rw [← eG] at Y
    have SG : SH G2 := by rw [eG]; exact (SgA.set (by decide +kernel)).set (by decide +kernel)
    have mG : ∀ a k, ¬ (a = 173 ∧ (k = 7 ∨ k = 8)) → xm G2 a k = xm gA a k := fun a k y => by rw [eG, xm_xset, if_neg (by omega), xm_xset, if_neg (by omega)]
    have e1 : ∀ a k, a < xn h → a ≠ 170 → ¬ (a = 247 ∨ (a = 173 ∧ 104 ≤ k ∧ k ≤ 106)) → ¬ (a = 173 ∧ (k = 7 ∨ k = 8)) → DA a k = false → xm g2 a k = xm hA a k := fun a k y0 y1 y2 y3 y4 => by
      rw [Y.2.2.2 a k (by unfold DY2; simp; omega), mG a k y3, DAe.2.2.2 a k y4, Z.2.2.2 a k (hd a k y0 y1)]
    have da : ∀ a k, ¬ DXr a k → DA a k = false := fun a k y => by
      unfold DXr at y
      unfold DA
      by_cases z : a = 173
      · subst z
        by_cases u : k ≤ 6
        · omega
        · rw [show Nat.ble k 6 = false from ble_ff (by omega)]
          simp
          omega
      · simp [z]
        omega
    have nn : xn g2 = xn hA := by rw [Y.1, eG]; show xn gA = xn hA; rw [DAe.1, Z.1]
    have zz : xz g2 = xz hA := by rw [Y.2.1, eG]; show xz gA = xz hA; rw [DAe.2.1, Z.2.1]
    have kk : xk g2 = xk hA := by rw [Y.2.2.1, eG]; show xk gA = xk hA; rw [DAe.2.2.1, Z.2.2.1]
    have g1a := G.1.1
    have eX : ∀ a k, a < xn h → ¬ DX a k → xm g2 a k = xm h a k := fun a k y0 y1 => by
      unfold DX at y1
      have y2 : ¬ DXr a k := fun z => y1 (by simp only [z, or_true, true_or])
      rw [e1 a k y0 (by omega) (by omega) (by unfold DXr at y2; omega) (da a k y2), mA a k y0 (by omega) (by omega) (by omega) (by omega), m0 a k (by omega)]
    have Rtt : Rt g2 := by
      have x01 : xm g2 0 1 = 0 := by rw [e1 0 1 (by omega) (by omega) (by omega) (by omega) rfl, mA 0 1 (by omega) (by omega) (by omega) (by omega) (by omega), v0]
      have x31 : xm g2 173 1 = 0 := by rw [Y.2.2.2 173 1 rfl, mG 173 1 (by omega), g1]
      refine ⟨fun k hk => ?_, by rw [x01, x31], by rw [x31]; decide, by rw [x31]; decide⟩
      rw [eX 174 k (by omega) (by unfold DX DXr; omega), eX 1 k (by omega) (by unfold DX DXr; omega)]
      exact t1 k hk
    have Rrr : Rr g2 := fun k hk => by
      have nd : ∀ a, a = 172 ∨ a = 175 → xm g2 a k = xm h a k := fun a ha => by
        rw [e1 a k (by omega) (by omega) (by omega) (by omega) (da a k (by unfold DXr; omega)), mA a k (by omega) (by omega) (by omega) (by omega) (by omega), m0 a k (by omega)]
      rw [nd 172 (by omega), nd 175 (by omega)]
      exact rr_r R k hk
    have Rfa : Rf g2 := by
      refine ⟨?_, ?_⟩
      · rw [e1 2 9 (by omega) (by omega) (by omega) (by omega) rfl, x9, Y.2.2.2 173 7 rfl, eG, xm_xset, if_neg (by omega), xm_xset, if_pos ⟨rfl, rfl⟩]
      · rw [e1 2 10 (by omega) (by omega) (by omega) (by omega) rfl, x10, Y.2.2.2 173 8 rfl, eG, xm_xset, if_pos ⟨rfl, rfl⟩]
    exact ⟨R.mvN (Y.sh DY2_nf SG) (by omega) (fun a ha => by rw [kk]; exact kA a ha) eX Rtt Rrr Rfa, nn, zz⟩
  have g11 := G.1
  have g21 := G.2.1
  rcases o with ⟨k, s', a, CB, FA, hc, nA, -, hd⟩ | ⟨e, a, E, hd⟩
  · obtain ⟨ok1, ok2, ok3⟩ := aG_ok hL a
    have k6 := a.1
    have QA : QC h hA s := ⟨SA, by omega, kA, fun a k q => by rw [mA a k (by omega) (by omega) (by omega) (by omega) (by omega), m0 a k (by omega)]⟩
    have A : AC h hA s n (xn h) s'.2.2.length (fun i => s'.2.2.getD i 0) (decide (k < 3)) := ⟨QA, rfl, FA, by omega, fun i hi => ⟨hc i hi, ok2 i hi⟩, ok3, en⟩
    obtain ⟨H, ca, Z⟩ := c_ans R A k6
    rw [ca] at hd
    have zd : ∀ a k, a < xn h → a ≠ 170 → DZ (xn h) a k = false := fun a k y1 y2 => by unfold DZ; simp; omega
    have SHH : SH H := fx_SH Z h249 SA
    obtain ⟨gA, d1, d2, d3, d4, o2⟩ := fin H _ Z zd SHH
    rcases o2 with ⟨k', s2, a', c1, c2, c3⟩ | ⟨e, a', -⟩
    · obtain ⟨u1, u2⟩ := aG_u a a'
      subst u1 u2
      obtain ⟨G2, eG⟩ : ∃ z, z = xset (xset gA 173 7 0) 173 8 (-1) := ⟨_, rfl⟩
      have SG : SH G2 := by rw [eG]; exact (d2.set (by decide +kernel)).set (by decide +kernel)
      have mG : ∀ a k, ¬ (a = 173 ∧ (k = 7 ∨ k = 8)) → xm G2 a k = xm gA a k := fun a k y => by rw [eG, xm_xset, if_neg (by omega), xm_xset, if_neg (by omega)]
      have QG : QM h G2 := by
        refine ⟨SG, by rw [mG _ _ (by omega)]; exact d4, fun a k q => ?_⟩
        have dd : DA a k = false := by
          unfold DA
          rw [show (a == 173) = false by simp; omega]
          simp
          omega
        rw [mG a k (by omega), d1.2.2.2 a k dd, Z.2.2.2 a k (zd a k (by omega) (by omega)), mA a k (by omega) (by omega) (by omega) (by omega) (by omega), m0 a k (by omega)]
      obtain ⟨B1, f1⟩ : ∃ z, z = xset G2 173 105 (if k < 2 then -1 else 0) := ⟨_, rfl⟩
      obtain ⟨B2, f2⟩ : ∃ z, z = xset B1 173 106 1 := ⟨_, rfl⟩
      have s1 : SH B1 := by rw [f1]; exact SG.set (by decide +kernel)
      have s2 : SH B2 := by rw [f2]; exact s1.set (by decide +kernel)
      have Z2 : Fx DY2 G2 B2 := by rw [f2, f1]; exact ((Fx.refl _ _).set rfl).set rfl
      have hw : ∀ i, i < n → okv1 (decide (k < 3)) (wv h n (fun i => s'.2.2.getD i 0) s'.2.2.length i) ∧ vrun (fq h n i) (fun i => s'.2.2.getD i 0) s'.2.2.length = [wv h n (fun i => s'.2.2.getD i 0) s'.2.2.length i] := fun i hi => by
        obtain ⟨H1, H2, -, -, -, -, p1, p2, -⟩ := c_one R A (Fx.refl _ _) hi
        exact ⟨p1, p2⟩
      obtain ⟨g2, x1, x2, x3⟩ := l_ask R en QG (c := fun i => s'.2.2.getD i 0) (by rw [mG _ _ (by omega)]; exact c1) (by omega) (fun i hi => ⟨by rw [mG _ _ (by omega)]; exact c2 i hi, ok2 i hi⟩) ok3 k6 hw n 0 (by omega) B2 Z2 (by
        rw [f2, xm_xset, if_neg (by omega), f1, xm_xset, if_pos ⟨rfl, rfl⟩]
        rfl) (by rw [f2, xm_xset, if_pos ⟨rfl, rfl⟩, if_pos rfl]) xFU (by have := rc_n C; unfold xFU; omega) (fun y => by
        subst y
        show _ ≤ (0 : Int) ∧ (0 : Int) ≤ _
        omega)
      have ref : f_X12_ask 173 H = some (rf (wv h n (fun i => s'.2.2.getD i 0) s'.2.2.length) k n, g2) := by
        rw [c3, ← eG]
        unfold f_X12_ask_J157
        rw [pMf SG, ← f1, pMf s1, ← f2]
        refine (bnd x1).trans ?_
        rw [gM (x2.sh DY2_nf SG), x3]
      rw [eG] at x2
      obtain ⟨l1, l2, l3⟩ := last H gA g2 _ 0 (-1) Z zd SHH d1 d2 d3 x2 CB.2.2.2.2.1 CB.2.2.2.2.2
      exact ⟨_, H, g2, hd, ref, ⟨s, F1, F2, T2, T3, l1⟩, by omega, by omega⟩
    · exact (aG_aE a a').elim
  · have zd : ∀ a k, a < xn h → a ≠ 170 → DB a k = false → True := fun _ _ _ _ _ => True.intro
    obtain ⟨gA, d1, d2, d3, d4, o2⟩ := fin hA (fun _ _ => false) (Fx.refl _ _) (fun _ _ _ _ => rfl) SA
    rcases o2 with ⟨k', s2, a', -⟩ | ⟨e', a', c3⟩
    · exact (aG_aE a' a).elim
    · have u := aE_u a a'
      subst u
      obtain ⟨l1, l2, l3⟩ := last hA gA _ (fun _ _ => false) (e.1 : Int) (e.2 : Int) (Fx.refl _ _) (fun _ _ _ _ => rfl) SA d1 d2 d3 (Fx.refl _ _) E.2.1 E.2.2
      exact ⟨_, hA, _, hd, c3, ⟨s, F1, F2, T2, T3, l1⟩, by omega, by omega⟩
