/-! ===== a night ===== -/
def DCn (F1 F2 a k : Nat) : Prop := (a = 0 ∧ k = 18) ∨ (153 ≤ a ∧ a ≤ 157) ∨ (a = 20 ∧ k = 6) ∨ (21 ≤ a ∧ a ≤ 25) ∨ a = F1 + 2 ∨ a = F2 + 2
def CNf (F1 F2 : Nat) (H H' : xa_H) : Prop := xn H' = xn H ∧ xz H' = xz H ∧ xk H' = xk H ∧ ∀ a k, ¬ DCn F1 F2 a k → xm H' a k = xm H a k
theorem CNf.tr {F1 F2 : Nat} {H H' H'' : xa_H} (a : CNf F1 F2 H H') (b : CNf F1 F2 H' H'') : CNf F1 F2 H H'' := ⟨b.1.trans a.1, b.2.1.trans a.2.1, b.2.2.1.trans a.2.2.1, fun x k hd => (b.2.2.2 x k hd).trans (a.2.2.2 x k hd)⟩
theorem CNf.refl (F1 F2 : Nat) (H : xa_H) : CNf F1 F2 H H := ⟨rfl, rfl, rfl, fun _ _ _ => rfl⟩
theorem CNf.set {F1 F2 : Nat} {H H' : xa_H} (e : CNf F1 F2 H H') {a k : Nat} {v : Int} (hd : DCn F1 F2 a k) : CNf F1 F2 H (xset H' a k v) := ⟨e.1, e.2.1, e.2.2.1, fun x j y => by
  rw [xm_xset, if_neg]
  · exact e.2.2.2 x j y
  · rintro ⟨rfl, rfl⟩
    exact y hd⟩
theorem CNf.cg {F1 F2 : Nat} {H H' : xa_H} (e : CG 153 F1 F2 H H') : CNf F1 F2 H H' := ⟨e.1, e.2.1, e.2.2.1, fun a k hd => e.2.2.2 a k (fun c => hd (by unfold DG7 at c; unfold DCn; omega))⟩
theorem CV.cn {h H H' : xa_H} {s F1 F2 n m : Nat} (K : KX h s F1 F2 n m) (Q : CV h H s F1 F2) (e : CNf F1 F2 H H') (S : SH H') : CV h H' s F1 F2 := by
  obtain ⟨C, FF, f1, f2, -⟩ := K
  obtain ⟨g1, g2, g3⟩ := FF.far
  have cs := C.2.1.1
  refine ⟨S, e.1.trans Q.2.1, e.2.2.1.trans Q.2.2.1, fun a k hd => ?_⟩
  rw [e.2.2.2 a k (by unfold DCn; omega)]
  exact Q.2.2.2 a k hd
def DNg (a k : Nat) : Bool := DC8 a k || (a == 173 && (k == 56 || k == 57 || k == 76)) || a == 213
theorem DNg_nf : nofix DNg := by unfold nofix; decide +kernel
theorem DC8_DNg {g g' : xa_H} (e : Fx DC8 g g') : Fx DNg g g' := e.mono fun x k q => by
  unfold DNg at q
  simp only [Bool.or_eq_false_iff] at q
  exact q.1.1
theorem DM7_DNg {g g' : xa_H} (e : Fx DM7 g g') : Fx DNg g g' := e.mono fun x k q => by
  unfold DNg DC8 DM2 at q
  unfold DM7
  simp only [Bool.or_eq_false_iff] at q ⊢
  refine ⟨q.1.1.1.1.1, ?_⟩
  have := q.1.2
  simp at this ⊢
  omega
theorem DNg_ne {a k : Nat} (h : a ≠ 173 ∧ a ≠ 247 ∧ ¬ (212 ≤ a ∧ a ≤ 215)) : DNg a k = false := by
  unfold DNg DC8 DM2 DM
  simp
  omega
theorem clC_ne {H : xa_H} {V : Int} {r : Nat} {ρ : Nat → Nat} {th py th' py' : Nat → Int} (h : V ≠ 0) : clC H V r ρ th py = clC H V r ρ th' py' := by
  unfold clC
  rw [if_neg h, if_neg h]
theorem clC_o2 {H : xa_H} {V : Int} {r : Nat} {ρ : Nat → Nat} {th py : Nat → Int} {a k : Nat} (h : ¬ ((a = 20 ∧ k = 6) ∨ (21 ≤ a ∧ a ≤ 25))) : xm (clC H V r ρ th py) a k = xm H a k := by
  unfold clC
  split
  · rw [cH_o (by omega), kpC_o (by omega) (by omega)]
  · rw [kpC_o (by omega) (by omega)]
/-- both sides at night -/
def NI (h : xa_H) (s F1 F2 n m : Nat) (H G : xa_H) (x : Nat) : Prop := CV h H s F1 F2 ∧ MV h G ∧ ST H G n m ∧ xm H 0 18 = (x : Int) ∧ xm G 173 76 = (x : Int) ∧ x < 2147483648
def rho2 (a b : Nat) : Nat → Nat := fun i => if i = 0 then a else b
theorem nt_end {h A B : xa_H} {s F1 F2 n m : Nat} {ρ : Nat → Nat} {x c : Nat} (K : KX h s F1 F2 n m) (R : RG h B A s F1 F2 n m 153 2 ρ) (Q : MV h B) (M : RMd B n 2 ρ) (inj : ∀ a b, a < 2 → b < 2 → ρ a = ρ b → a = b) (xA : xm A 0 18 = (x : Int)) (xB : xm B 173 76 = (x : Int)) (x31 : x < 2147483648) :
    ∃ V H' G', (0 ≤ V ∧ V ≤ 4) ∧ (if (c : Int) < xm h 208 1 then (xgf A 11 9 0).bind fun x20 => (xpf A 7 2 x20 4).bind fun h21 => f_X11_drawRing_J107 0 h21 else (xgf A 11 9 0).bind fun x23 => (xgf A 11 5 0).bind fun x24 => (xgf A 11 6 0).bind fun x25 => (xrc A 7 x23 (f_X7_weigh x23 x24 x25 A)).bind fun r26 => f_X11_drawRing_J107 0 r26) = some H' ∧ xm H' 153 2 = V ∧
      (if (c : Int) < xm h 208 1 then f_X12_nightGoes_J86 173 4 B else (xrc B 12 173 (f_X12_whyNot 173 B)).bind fun r23 => f_X12_nightGoes_J86 173 r23.1 r23.2) = some (if V = 0 then 1 else 0, G') ∧ CNf F1 F2 A H' ∧ Fx DNg B G' ∧ NI h s F1 F2 n m H' G' x := by
  have n6 := rc_n K.1
  have en := K.2.2.2.2.1
  have hn : n ≤ 6 := by omega
  have SA := R.1.1
  have SB := Q.1
  obtain ⟨g1, g2, g3⟩ := K.2.1.far
  have cs := K.1.2.1.1
  have hR := R.2.1
  -- how the reference ends, once judged
  have J : ∀ (V : Int) (G0 G' : xa_H), SH G0 → clM V G0 = some G' → f_X12_nightGoes_J86 173 V G0 = some (if V = 0 then 1 else 0, G') := by
    intro V G0 G' S0 c1
    unfold f_X12_nightGoes_J86 f_X12_nightGoes_J95
    unfold clM at c1
    by_cases y : V = 0
    · rw [if_pos y] at c1
      rw [if_pos y]
      have : ∀ (E : Option xa_H) (f : xa_H → Option xa_H), (E.bind f) = some G' → (E.bind fun r20 => (f r20).bind fun r21 => if V = 0 then some ((1 : Int), r21) else some (0, r21)) = some (if V = 0 then 1 else 0, G') := by
        intro E f h
        cases E with
        | none => cases h
        | some x =>
          have h' : f x = some G' := h
          show ((f x).bind fun r21 => if V = 0 then some ((1 : Int), r21) else some (0, r21)) = _
          rw [h', bbind, if_pos y, if_pos y]
      exact this _ _ c1
    · rw [if_neg y] at c1
      rw [if_neg y]
      refine (bnd c1).trans ?_
      rw [if_neg y, if_neg y]
  by_cases fog : (c : Int) < xm h 208 1
  · rw [if_pos fog, if_pos fog]
    obtain ⟨A7, e7⟩ : ∃ z, z = xset A 153 2 4 := ⟨_, rfl⟩
    have S7 : SH A7 := by rw [e7]; exact SA.set (by decide +kernel)
    have m7 : ∀ a k, ¬ (a = 153 ∧ k = 2) → xm A7 a k = xm A a k := fun a k y => by rw [e7, xm_xset, if_neg y]
    have RQ7 : RQ A7 n 153 2 ρ (fun i => xm A7 156 i) (fun i => xm A7 155 i) := ⟨S7, Or.inr rfl, ⟨by omega, by omega⟩, by rw [m7 _ _ (by omega)]; exact R.2.2.2.2.1, fun i hi => ⟨by rw [m7 _ _ (by omega)]; exact (R.2.2.2.2.2 i hi).1, (R.2.2.2.2.2 i hi).2⟩, fun i _ => rfl, fun i _ => rfl⟩
    have ST7 : ST A7 B n m := hR.cl (fun a k _ _ => m7 a k (by omega))
    have cl := c_close hn RQ7 (V := 4) (by rw [e7, xm_xset, if_pos ⟨rfl, rfl⟩]) (by omega) (by rw [st_kc ST7]; exact sv_kc ST7) (by rw [st_night ST7]; exact sv_night ST7)
    obtain ⟨G', c1, Z4, ST4⟩ := m_close K Q ST7 M inj (V := 4) (by omega) (fun y => by cases y)
    rw [clC_ne (th' := fun i => xm A7 156 i) (py' := fun i => xm A7 155 i) (show (4 : Int) ≠ 0 by decide)] at ST4
    obtain ⟨H', eH⟩ : ∃ z, z = clC A7 4 2 ρ (fun i => xm A7 156 i) (fun i => xm A7 155 i) := ⟨_, rfl⟩
    rw [← eH] at cl ST4
    have oH : ∀ a k, ¬ ((a = 20 ∧ k = 6) ∨ (21 ≤ a ∧ a ≤ 25)) → xm H' a k = xm A7 a k := fun a k y => by rw [eH]; exact clC_o2 y
    have SH' : SH H' := by rw [eH]; exact clC_S S7
    obtain ⟨nc1, nc2, nc3⟩ := clC_n A7 4 2 ρ (fun i => xm A7 156 i) (fun i => xm A7 155 i)
    rw [← eH] at nc1 nc2 nc3
    have cn : CNf F1 F2 A H' := ⟨by rw [nc1, e7]; rfl, by rw [nc2, e7]; rfl, by rw [nc3, e7]; rfl, fun a k hd => by
      unfold DCn at hd
      rw [oH a k (by omega), m7 a k (by omega)]⟩
    refine ⟨4, H', G', by omega, ?_, ?_, J 4 B G' SB c1, cn, DC8_DNg Z4, R.1.cn K cn SH', Q.fx (DC8_DNg Z4) DNg_nf (fun a k _ _ => DNg_ne (by omega)), ST4, ?_, ?_, x31⟩
    · rw [g0k SA, pt_0_9 SA]
      refine (bnd (xpf_eq (a := 153) (ok_153 SA))).trans ?_
      rw [← e7]
      unfold f_X11_drawRing_J107
      rw [x0o S7, cl]
      rfl
    · rw [oH _ _ (by omega), e7, xm_xset, if_pos ⟨rfl, rfl⟩]
    · rw [oH _ _ (by omega), m7 _ _ (by omega)]; exact xA
    · rw [Z4.2.2.2 173 76 rfl]; exact xB
  · rw [if_neg fog, if_neg fog]
    obtain ⟨H2, w1, w2, w3, w4, w5⟩ := c_weigh K R
    have R2 := R.cg K w2
    have S2 := R2.1.1
    obtain ⟨V, eV⟩ : ∃ V, V = rV h B 2 ρ := ⟨_, rfl⟩
    rw [← eV] at w4
    have hV : 0 ≤ V ∧ V ≤ 4 := by
      rw [eV]
      unfold rV
      split
      · split
        · split <;> omega
        · omega
      · omega
    obtain ⟨th, eth⟩ : ∃ th, th = (fun i => xm B 212 (1 + 9 * ρ (prv 2 i))) := ⟨_, rfl⟩
    obtain ⟨py, epy⟩ : ∃ py, py = rPy h B 2 ρ := ⟨_, rfl⟩
    have RQ2 : RQ H2 n 153 2 ρ th py := ⟨S2, Or.inr rfl, ⟨by omega, by omega⟩, R2.2.2.2.2.1, R2.2.2.2.2.2, fun i hi => by rw [epy]; exact w3.1 i hi, fun i hi => by rw [eth]; exact w3.2 i hi⟩
    have cl := c_close hn RQ2 w4 hV (by rw [st_kc R2.2.1]; exact sv_kc R2.2.1) (by rw [st_night R2.2.1]; exact sv_night R2.2.1)
    obtain ⟨G3, g1', Z3, -⟩ := m_whyNot K Q hR M
    rw [← eV] at g1'
    have SG3 : SH G3 := Z3.sh DM7_nf SB
    have e32 : ∀ k, xm G3 212 k = xm B 212 k := fun k => Z3.2.2.2 212 k (DM7_ne (by omega) (by omega))
    have Q3 : MV h G3 := Q.fx Z3 DM7_nf (fun a k _ _ => DM7_ne (by omega) (by omega))
    have ST3 : ST H2 G3 n m := ST.dm R2.2.1 e32
    have M3 : RMd G3 n 2 ρ := M.fx Z3 rfl (fun _ => rfl)
    obtain ⟨rw1, -, rw3⟩ := rv_eq (h := h) (G := B) (G' := G3) (r := 2) (ρ := ρ) e32
    obtain ⟨G', c1, Z4, ST4⟩ := m_close K Q3 ST3 M3 inj hV (fun y => by rw [rw1, ← eV]; exact y)
    rw [show (fun i => xm G3 212 (1 + 9 * ρ (prv 2 i))) = th by rw [eth]; exact funext fun i => e32 _, rw3, ← epy] at ST4
    obtain ⟨H', eH⟩ : ∃ z, z = clC H2 V 2 ρ th py := ⟨_, rfl⟩
    rw [← eH] at cl ST4
    have oH : ∀ a k, ¬ ((a = 20 ∧ k = 6) ∨ (21 ≤ a ∧ a ≤ 25)) → xm H' a k = xm H2 a k := fun a k y => by rw [eH]; exact clC_o2 y
    have SH' : SH H' := by rw [eH]; exact clC_S S2
    obtain ⟨nc1, nc2, nc3⟩ := clC_n H2 V 2 ρ th py
    rw [← eH] at nc1 nc2 nc3
    have cn2 : CNf F1 F2 H2 H' := ⟨nc1, nc2, nc3, fun a k hd => by
      unfold DCn at hd
      exact oH a k (by omega)⟩
    have cn : CNf F1 F2 A H' := (CNf.cg w2).tr cn2
    have ZB : Fx DNg B G' := (DM7_DNg Z3).tr (DC8_DNg Z4)
    refine ⟨V, H', G', hV, ?_, ?_, ?_, cn, ZB, R.1.cn K cn SH', Q.fx ZB DNg_nf (fun a k _ _ => DNg_ne (by omega)), ST4, ?_, ?_, x31⟩
    · rw [g0k SA, pt_0_9 SA, g0k SA, R.1.s05 K.1, g0k SA, pt_0_6 SA]
      refine (bnd (v := H2) (by rw [show xrc A 7 153 (f_X7_weigh 153 (s : Int) 20 A) = f_X7_weigh ((153 : Nat) : Int) (s : Int) 20 A from if_pos (ok_153 SA), w1])).trans ?_
      unfold f_X11_drawRing_J107
      rw [x0o S2, cl]
      rfl
    · rw [oH _ _ (by omega)]; exact w4
    · rw [xM SB, g1', bbind]
      exact J V G3 G' SG3 c1
    · rw [oH _ _ (by omega), w2.2.2.2 0 18 (by unfold DG7; omega)]; exact xA
    · rw [Z4.2.2.2 173 76 rfl, Z3.2.2.2 173 76 rfl]; exact xB
theorem nt_ring {h H G : xa_H} {s F1 F2 n m x : Nat} (K : KX h s F1 F2 n m) (I : NI h s F1 F2 n m H G x) (hn2 : 2 ≤ n) :
    ∃ V H' G' x', (0 ≤ V ∧ V ≤ 4) ∧ f_X11_drawRing 0 H = some H' ∧ xm H' 153 2 = V ∧ f_X12_nightGoes 173 G = some (if V = 0 then 1 else 0, G') ∧ CNf F1 F2 H H' ∧ Fx DNg G G' ∧ NI h s F1 F2 n m H' G' x' := by
  obtain ⟨Qc, Qm, R, xH, xG, x31⟩ := I
  have n6 := rc_n K.1
  have en := K.2.2.2.2.1
  have hn : n ≤ 6 := by omega
  obtain ⟨g1, g2, g3⟩ := K.2.1.far
  have cs := K.1.2.1.1
  have S := Qc.1
  have SG := Qm.1
  obtain ⟨a, ea⟩ : ∃ a, a = drv x n := ⟨_, rfl⟩
  obtain ⟨b0, eb0⟩ : ∃ b, b = drv (nxs x) (n - 1) := ⟨_, rfl⟩
  obtain ⟨c, ec⟩ : ∃ c, c = drv (nxs (nxs x)) 100 := ⟨_, rfl⟩
  obtain ⟨b, eb⟩ : ∃ b, b = if b0 < a then b0 else b0 + 1 := ⟨_, rfl⟩
  have ha : a < n := by rw [ea]; exact Nat.mod_lt _ (by omega)
  have hb0 : b0 < n - 1 := by rw [eb0]; exact Nat.mod_lt _ (by omega)
  have hb : b < n ∧ a ≠ b := by
    rw [eb]
    split <;> omega
  have l1 := nxs_lt x
  have l2 := nxs_lt (nxs x)
  have l3 := nxs_lt (nxs (nxs x))
  obtain ⟨x1, ex1⟩ : ∃ z, z = nxs x := ⟨_, rfl⟩
  obtain ⟨x2, ex2⟩ : ∃ z, z = nxs (nxs x) := ⟨_, rfl⟩
  obtain ⟨x3, ex3⟩ : ∃ z, z = nxs (nxs (nxs x)) := ⟨_, rfl⟩
  rw [← ex1] at l1 eb0
  rw [← ex2] at l2 ec
  rw [← ex3] at l3
  have nx1 : nxs x = x1 := ex1.symm
  have nx2 : nxs x1 = x2 := by rw [ex1, ex2]
  have nx3 : nxs x2 = x3 := by rw [ex2, ex3]
  -- the class's heaps
  obtain ⟨A1, f1⟩ : ∃ z, z = xset H 0 18 (x1 : Int) := ⟨_, rfl⟩
  obtain ⟨A2, f2⟩ : ∃ z, z = xset A1 0 18 (x2 : Int) := ⟨_, rfl⟩
  obtain ⟨A3, f3⟩ : ∃ z, z = xset A2 153 1 2 := ⟨_, rfl⟩
  obtain ⟨A4, f4⟩ : ∃ z, z = xset A3 154 0 (a : Int) := ⟨_, rfl⟩
  obtain ⟨A5, f5⟩ : ∃ z, z = xset A4 154 1 (b : Int) := ⟨_, rfl⟩
  obtain ⟨A6, f6⟩ : ∃ z, z = xset A5 0 18 (x3 : Int) := ⟨_, rfl⟩
  have s1 : SH A1 := by rw [f1]; exact S.set (by decide +kernel)
  have s2 : SH A2 := by rw [f2]; exact s1.set (by decide +kernel)
  have s3 : SH A3 := by rw [f3]; exact s2.set (by decide +kernel)
  have s4 : SH A4 := by rw [f4]; exact s3.set (fixd_of (by decide +kernel))
  have s5 : SH A5 := by rw [f5]; exact s4.set (fixd_of (by decide +kernel))
  have s6 : SH A6 := by rw [f6]; exact s5.set (by decide +kernel)
  have c6 : CNf F1 F2 H A6 := by
    rw [f6, f5, f4, f3, f2, f1]
    exact ((((((CNf.refl _ _ _).set (by unfold DCn; omega)).set (by unfold DCn; omega)).set (by unfold DCn; omega)).set (by unfold DCn; omega)).set (by unfold DCn; omega)).set (by unfold DCn; omega)
  have m1 : ∀ a k, ¬ (a = 0 ∧ k = 18) → xm A1 a k = xm H a k := fun a k y => by rw [f1, xm_xset, if_neg y]
  have m6 : ∀ y k, ¬ (y = 0 ∧ k = 18) → y ≠ 153 → y ≠ 154 → xm A6 y k = xm H y k := fun y k y1 y2 y3 => by rw [f6, xm_xset, if_neg (by omega), f5, xm_xset, if_neg (by omega), f4, xm_xset, if_neg (by omega), f3, xm_xset, if_neg (by omega), f2, xm_xset, if_neg (by omega), m1 _ _ y1]
  -- the reference's heaps
  obtain ⟨B1, q1⟩ : ∃ z, z = xset G 173 56 2 := ⟨_, rfl⟩
  obtain ⟨B2, q2⟩ : ∃ z, z = xset B1 173 76 (x1 : Int) := ⟨_, rfl⟩
  obtain ⟨B3, q3⟩ : ∃ z, z = xset B2 213 0 (a : Int) := ⟨_, rfl⟩
  obtain ⟨B4, q4⟩ : ∃ z, z = xset B3 173 76 (x2 : Int) := ⟨_, rfl⟩
  obtain ⟨B5, q5⟩ : ∃ z, z = xset B4 213 1 (b : Int) := ⟨_, rfl⟩
  obtain ⟨B6, q6⟩ : ∃ z, z = xset B5 173 76 (x3 : Int) := ⟨_, rfl⟩
  have Z1 : Fx DNg G B1 := by rw [q1]; exact (Fx.refl _ _).set rfl
  have Z2 : Fx DNg G B2 := by rw [q2]; exact Z1.set rfl
  have Z3 : Fx DNg G B3 := by rw [q3]; exact Z2.set rfl
  have Z4 : Fx DNg G B4 := by rw [q4]; exact Z3.set rfl
  have Z5 : Fx DNg G B5 := by rw [q5]; exact Z4.set rfl
  have Z6 : Fx DNg G B6 := by rw [q6]; exact Z5.set rfl
  have Qx : ∀ {X}, Fx DNg G X → MV h X := fun e => Qm.fx e DNg_nf (fun a k _ _ => DNg_ne (by omega))
  have e12 : ∀ k, xm B6 212 k = xm G 212 k := fun k => by rw [q6, xm_xset, if_neg (by omega), q5, xm_xset, if_neg (by omega), q4, xm_xset, if_neg (by omega), q3, xm_xset, if_neg (by omega), q2, xm_xset, if_neg (by omega), q1, xm_xset, if_neg (by omega)]
  have many : ∀ {X}, MV h X → f_X12_holderMany 173 X = some (n : Int) := fun {X} Q => by
    have i1 : xia X 0 199 ((4 : Nat) : Int) = true := ia_199 Q.1 (by omega) (by omega)
    unfold f_X12_holderMany
    rw [gM Q.1, pt_173_34 Q.1]
    exact (bnd (xal_eq (a := 199) i1 ((Q.2 199 4 (by omega)).trans en))).trans rfl
  have M6 : RMd B6 n 2 (rho2 a b) := by
    refine ⟨⟨by omega, by omega⟩, by rw [q6, xm_xset, if_neg (by omega), q5, xm_xset, if_neg (by omega), q4, xm_xset, if_neg (by omega), q3, xm_xset, if_neg (by omega), q2, xm_xset, if_neg (by omega), q1, xm_xset, if_pos ⟨rfl, rfl⟩]; rfl, fun i hi => ?_⟩
    have : i = 0 ∨ i = 1 := by omega
    rcases this with rfl | rfl
    · refine ⟨?_, ha⟩
      rw [q6, xm_xset, if_neg (by omega), q5, xm_xset, if_neg (by omega), q4, xm_xset, if_neg (by omega), q3, xm_xset, if_pos ⟨rfl, rfl⟩]
      rfl
    · refine ⟨?_, hb.1⟩
      rw [q6, xm_xset, if_neg (by omega), q5, xm_xset, if_pos ⟨rfl, rfl⟩]
      rfl
  have inj : ∀ i j, i < 2 → j < 2 → rho2 a b i = rho2 a b j → i = j := fun i j hi hj e => by
    unfold rho2 at e
    split at e <;> split at e <;> omega
  have RG6 : RG h B6 A6 s F1 F2 n m 153 2 (rho2 a b) := by
    refine ⟨Qc.cn K c6 s6, (R.dm e12).cl (fun y k y1 y2 => m6 y k (by omega) (by omega) (by omega)), Or.inr rfl, ⟨by omega, by omega⟩, by rw [f6, xm_xset, if_neg (by omega), f5, xm_xset, if_neg (by omega), f4, xm_xset, if_neg (by omega), f3, xm_xset, if_pos ⟨rfl, rfl⟩]; rfl, fun i hi => ?_⟩
    have : i = 0 ∨ i = 1 := by omega
    rcases this with rfl | rfl
    · refine ⟨?_, ha⟩
      rw [f6, xm_xset, if_neg (by omega), f5, xm_xset, if_neg (by omega), f4, xm_xset, if_pos ⟨rfl, rfl⟩]
      rfl
    · refine ⟨?_, hb.1⟩
      rw [f6, xm_xset, if_neg (by omega), f5, xm_xset, if_pos ⟨rfl, rfl⟩]
      rfl
  obtain ⟨V, H', G', v1, v2, v3, v4, v5, v6, v7⟩ := nt_end (c := c) (x := x3) K RG6 (Qx Z6) M6 inj (by rw [f6, xm_xset, if_pos ⟨rfl, rfl⟩]) (by rw [q6, xm_xset, if_pos ⟨rfl, rfl⟩]) l3
  refine ⟨V, H', G', x3, v1, ?_, v3, ?_, c6.tr v5, Z6.tr v6, v7⟩
  · have ct := Qc.cs K.1.2.1
    have c1s : CS A1 s := ct.mv (by rw [f1]; exact Nat.le_refl _) (fun _ _ => by rw [f1]; rfl) (fun y k y1 y2 => m1 y k (by omega))
    have c6s := RG6.1.cs K.1.2.1
    have es2 : xm H s 2 = (n : Int) := by rw [Qc.2.2.2 _ _ (Or.inl ⟨by omega, by omega⟩), K.1.2.2.2.2.2.2.1, en]
    have es4 : xm A6 s 4 = xm h 208 1 := by rw [RG6.1.2.2.2 _ _ (Or.inl ⟨by omega, by omega⟩)]; exact rc_4 K.1
    have J : f_X11_drawRing_J64 0 154 1 (b : Int) A4 = some H' := by
      unfold f_X11_drawRing_J64
      refine (bnd (xas_eq (a := 154) (i := 1) (ia_154 s4 (by omega) (by omega)))).trans ?_
      rw [← f5, x0o s5]
      have d := c_draw s5 (x := x2) (v := 100) (by rw [f5, xm_xset, if_neg (by omega), f4, xm_xset, if_neg (by omega), f3, xm_xset, if_neg (by omega), f2, xm_xset, if_pos ⟨rfl, rfl⟩]) (by omega) (by omega)
      rw [nx3, ← ec, ← f6] at d
      refine (bnd d).trans ?_
      rw [g0k s6, RG6.1.s05 K.1, gCS c6s, es4]
      exact v2
    unfold f_X11_drawRing
    rw [g0k S, Qc.s05 K.1, gCS ct, es2, x0o S]
    have d1 := c_draw S (x := x) (v := n) xH (by omega) (by omega)
    rw [nx1, ← ea, ← f1] at d1
    refine (bnd d1).trans ?_
    rw [g0k s1, m1 0 5 (by omega), Qc.s05 K.1, gCS c1s, m1 s 2 (by omega), es2, x0o s1, wM1 (by omega), show (n : Int) - 1 = ((n - 1 : Nat) : Int) by omega]
    have d2 := c_draw s1 (x := x1) (v := n - 1) (by rw [f1, xm_xset, if_pos ⟨rfl, rfl⟩]) (by omega) (by omega)
    rw [nx2, ← eb0, ← f2] at d2
    refine (bnd d2).trans ?_
    rw [g0k s2, pt_0_9 s2]
    refine (bnd (xpf_eq (a := 153) (ok_153 s2))).trans ?_
    rw [← f3, g0k s3, pt_0_9 s3]
    refine (bnd (xgf_eq (a := 153) (ok_153 s3) (pt_153_0 s3))).trans ?_
    refine (bnd (xas_eq (a := 154) (i := 0) (ia_154 s3 (by omega) (by omega)))).trans ?_
    rw [← f4, g0k s4, pt_0_9 s4]
    refine (bnd (xgf_eq (a := 153) (ok_153 s4) (pt_153_0 s4))).trans ?_
    by_cases y : b0 < a
    · rw [if_pos (show ((b0 : Nat) : Int) < (a : Int) by omega)]
      rw [if_pos y] at eb
      rw [← eb]
      exact J
    · rw [if_neg (show ¬ ((b0 : Nat) : Int) < (a : Int) by omega)]
      rw [if_neg y] at eb
      rw [wS (by omega), ← eb]
      exact J
  · have S1 := (Qx Z1).1
    have S2 := (Qx Z2).1
    have S3 := (Qx Z3).1
    have S4 := (Qx Z4).1
    have S5 := (Qx Z5).1
    have S6 := (Qx Z6).1
    have J : f_X12_nightGoes_J62 173 213 1 (b : Int) B4 = some (if V = 0 then 1 else 0, G') := by
      unfold f_X12_nightGoes_J62
      refine (bnd (xas_eq (a := 213) (i := 1) (ia_213 S4 (by omega) (by omega)))).trans ?_
      rw [← q5, xM S5]
      have d := m_draw S5 (x := x2) (v := 100) (by rw [q5, xm_xset, if_neg (by omega), q4, xm_xset, if_pos ⟨rfl, rfl⟩]) l2 (by omega) (by omega)
      rw [nx3, ← ec, ← q6] at d
      refine (bnd d).trans ?_
      rw [gM S6, pt_173_43 S6]
      refine (bnd (xal_eq (a := 208) (i := 1) (ia_208 S6 (by omega) (by omega)) ((Qx Z6).2 208 1 (by omega)))).trans ?_
      exact v4
    unfold f_X12_nightGoes
    rw [xM SG, many Qm, bbind, if_neg (by omega), pMf SG, ← q1, gM S1, pt_173_55 S1, xM S1, many (Qx Z1), bbind, xM S1]
    have d1 := m_draw S1 (x := x) (v := n) (by rw [q1, xm_xset, if_neg (by omega)]; exact xG) x31 (by omega) (by omega)
    rw [nx1, ← ea, ← q2] at d1
    refine (bnd d1).trans ?_
    refine (bnd (xas_eq (a := 213) (i := 0) (ia_213 S2 (by omega) (by omega)))).trans ?_
    rw [← q3, xM S3, many (Qx Z3), bbind, xM S3, wM1 (by omega), show (n : Int) - 1 = ((n - 1 : Nat) : Int) by omega]
    have d2 := m_draw S3 (x := x1) (v := n - 1) (by rw [q3, xm_xset, if_neg (by omega), q2, xm_xset, if_pos ⟨rfl, rfl⟩]) l1 (by omega) (by omega)
    rw [nx2, ← eb0, ← q4] at d2
    refine (bnd d2).trans ?_
    rw [gM S4, pt_173_55 S4, gM S4, pt_173_55 S4]
    refine (bnd (xal_eq (a := 213) (i := 0) (v := (a : Int)) (ia_213 S4 (by omega) (by omega)) (by rw [q4, xm_xset, if_neg (by omega), q3, xm_xset, if_pos ⟨rfl, rfl⟩]))).trans ?_
    by_cases y : b0 < a
    · rw [if_pos (show ((b0 : Nat) : Int) < (a : Int) by omega)]
      rw [if_pos y] at eb
      rw [← eb]
      exact J
    · rw [if_neg (show ¬ ((b0 : Nat) : Int) < (a : Int) by omega)]
      rw [if_neg y] at eb
      rw [wS (by omega), ← eb]
      exact J
