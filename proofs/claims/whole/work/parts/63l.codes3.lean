/-! ===== a formula of the case, read by the reference ===== -/
theorem rx_mvq {T : Nat → Int} {L : Nat} {h h' : xa_H} {p : Nat} {t : Bool} (R : Rx T L h p t) (S : SH h') (e : ∀ a k, a = 174 ∨ (a = 173 ∧ k ≤ 6) → xm h' a k = xm h a k) : Rx T L h' p t := by
  obtain ⟨r1, r2, r3, r4, r5, r6, r7, r8, r9, y, r10, r11⟩ := R
  refine ⟨S, ?_, (e 173 3 (by omega)).trans r3, (e 173 5 (by omega)).trans r4, (e 173 6 (by omega)).trans r5, r6, r7, by rw [e 173 4 (by omega)]; exact r8, by rw [e 173 4 (by omega)]; exact r9, y, (e 173 2 (by omega)).trans r10, r11⟩
  rw [← r2]
  exact funext fun j => e 174 j (Or.inl rfl)
theorem bx_mv {h h' : xa_H} {e : Nat × Nat} (B : Bx h e) (S : SH h') (h5 : xm h' 173 5 = xm h 173 5) (h6 : xm h' 173 6 = xm h 173 6) : Bx h' e := ⟨S, h5.trans B.2.1, h6.trans B.2.2.1, B.2.2.2⟩
/-- the codes, copied -/
def cpG (g : xa_H) (a : Nat) : Nat → xa_H
  | 0 => g
  | n + 1 => xset (xset (cpG g a n) 211 (a + n) (xm g 245 n)) 173 47 ((a + n + 1 : Nat) : Int)
theorem cpG_o {g : xa_H} {a : Nat} {q k : Nat} (hq : q ≠ 211) (hk : q ≠ 173 ∨ k ≠ 47) : ∀ n, xm (cpG g a n) q k = xm g q k
  | 0 => rfl
  | n + 1 => by
    show xm (xset (xset (cpG g a n) 211 (a + n) (xm g 245 n)) 173 47 _) q k = _
    rw [xm_xset, if_neg (by omega), xm_xset, if_neg (by omega)]
    exact cpG_o hq hk n
theorem cpG_a {g : xa_H} {a : Nat} (ha : xm g 173 47 = (a : Int)) : ∀ n, xm (cpG g a n) 173 47 = ((a + n : Nat) : Int)
  | 0 => ha
  | n + 1 => by
    show xm (xset (xset (cpG g a n) 211 (a + n) (xm g 245 n)) 173 47 _) 173 47 = _
    rw [xm_xset, if_pos ⟨rfl, rfl⟩]
    rfl
theorem cpG_c {g : xa_H} {a k : Nat} : ∀ n, xm (cpG g a n) 211 k = if a ≤ k ∧ k < a + n then xm g 245 (k - a) else xm g 211 k
  | 0 => by rw [if_neg (by omega)]; rfl
  | n + 1 => by
    show xm (xset (xset (cpG g a n) 211 (a + n) (xm g 245 n)) 173 47 _) 211 k = _
    rw [xm_xset, if_neg (by omega), xm_xset]
    by_cases z : k = a + n
    · rw [if_pos ⟨rfl, z⟩, if_pos (by omega)]
      congr 1
      omega
    · rw [if_neg (by omega), cpG_c n]
      by_cases y : a ≤ k ∧ k < a + n
      · rw [if_pos y, if_pos (by omega)]
      · rw [if_neg y, if_neg (by omega)]
theorem cpG_S {g : xa_H} {a : Nat} (S : SH g) : ∀ n, SH (cpG g a n)
  | 0 => S
  | n + 1 => ((cpG_S S n).set (fixd_of (by decide +kernel))).set (by decide +kernel)
theorem cpG_F {g : xa_H} {a : Nat} : ∀ n, a + n ≤ 1600 → Fx DE g (cpG g a n)
  | 0, _ => Fx.refl _ _
  | n + 1, h => ((cpG_F n (by omega)).set (by simp [DE, Nat.blt]; omega)).set rfl
theorem cpG_loop {g : xa_H} {a l : Nat} (S : SH g) (ha : xm g 173 47 = (a : Int)) (hl : xm g 173 98 = (l : Int)) (hb : a + l ≤ 1600) (w : Int) : xit (fun s => f_X12_codesTold_L91 173 w s.1 s.2) xFU (0, g) = some (cpG g a l) :=
  xit_seq (f := fun s : Int × xa_H => f_X12_codesTold_L91 173 w s.1 s.2) (fun i => ((i : Int), cpG g a i)) l (cpG g a l) (fun i hi => by
    have Si := cpG_S (a := a) S i
    have i1 : xia (cpG g a i) 0 245 (i : Int) = true := ia_245 Si (by omega) (by omega)
    have i2 : xia (cpG g a i) 0 211 ((a + i : Nat) : Int) = true := ia_211 Si (by omega) (by omega)
    have v1 : xm (cpG g a i) 245 i = xm g 245 i := cpG_o (by omega) (by omega) i
    have v2 : xm (cpG g a i) 173 98 = (l : Int) := (cpG_o (by omega) (by omega) i).trans hl
    have S2 : SH (xset (cpG g a i) 211 (a + i) (xm g 245 i)) := Si.set (fixd_of (by decide +kernel))
    have v3 : xm (xset (cpG g a i) 211 (a + i) (xm g 245 i)) 173 47 = ((a + i : Nat) : Int) := by rw [xm_xset, if_neg (by omega)]; exact cpG_a ha i
    have w1 : w32 ((i : Int) + 1) = ((i + 1 : Nat) : Int) := by rw [w32_id (by omega) (by omega)]; omega
    have w2 : w32 (((a + i : Nat) : Int) + 1) = ((a + i + 1 : Nat) : Int) := by rw [w32_id (by omega) (by omega)]; omega
    show f_X12_codesTold_L91 173 w (i : Int) (cpG g a i) = _
    unfold f_X12_codesTold_L91
    rw [gM Si, v2, if_pos (by clear w1 w2; omega), gM Si, pt_173_46 Si, gM Si, cpG_a ha i, gM Si, pt_173_97 Si]
    refine (bnd (xal_eq (a := 245) i1 v1)).trans ?_
    refine (bnd (xas_eq (a := 211) i2)).trans ?_
    rw [gM S2, v3, pMf S2, w1, w2]
    rfl) (by
    have Si := cpG_S (a := a) S l
    have v2 : xm (cpG g a l) 173 98 = (l : Int) := (cpG_o (by omega) (by omega) l).trans hl
    show f_X12_codesTold_L91 173 w (l : Int) (cpG g a l) = _
    unfold f_X12_codesTold_L91
    rw [gM Si, v2, if_neg (by omega)]) (by omega)
theorem DQ_DE {g g' : xa_H} (e : Fx DQ g g') : Fx DE g g' := e.mono fun x k q => by
  unfold DE DN DB at q
  unfold DQ
  by_cases z : x = 173
  · subst z
    simp at q ⊢
    omega
  · simp [z] at q ⊢
    omega
theorem trun_sh (c : Nat → Int) : ∀ (n : Nat) (st : List Bool), trun c (n + 1) st = (tstep st (c 0)).bind fun s => trun (fun i => c (i + 1)) n s
  | 0, st => by
    show tstep st (c 0) = (tstep st (c 0)).bind fun s => some s
    cases tstep st (c 0) <;> rfl
  | n + 1, st => by
    show (trun c (n + 1) st).bind (fun s => tstep s (c (n + 1))) = _
    rw [trun_sh c n st]
    cases tstep st (c 0) <;> rfl
theorem tl_trun : ∀ (c : List Int) (st : List Bool), trun (fun i => c.getD i 0) c.length st = tl c st
  | [], _ => rfl
  | r :: c, st => by
    show trun (fun i => (r :: c).getD i 0) (c.length + 1) st = (tstep st r).bind (tl c)
    rw [trun_sh]
    show (tstep st r).bind (fun s => trun (fun i => c.getD i 0) c.length s) = _
    congr 1
    funext s
    exact tl_trun c s
theorem r_codes {T : Nat → Int} {L : Nat} {g : xa_H} {p : Nat} {b : Bool} (R : Rx T L g p b) {w : Nat} (hw : w < 2) (hx : xm g 209 w = -1) {a : Nat} (h47 : xm g 173 47 = (a : Int)) (hap : a ≤ p) (x : Int) :
    ∃ g', f_X12_codesTold 173 (w : Int) x g = some g' ∧ Fx DE g g' ∧ ((∃ s' l, fmP T L w (p, b, []) = .inl s' ∧ l = s'.2.2.length ∧ Rx T L g' s'.1 s'.2.1 ∧ xm g' 209 w = (a : Int) ∧ xm g' 210 w = ((a + l : Nat) : Int) ∧ xm g' 173 47 = ((a + l : Nat) : Int) ∧ a + l ≤ s'.1 ∧ (∀ i, i < l → xm g' 211 (a + i) = s'.2.2.getD i 0) ∧ (∀ i, i < a → xm g' 211 i = xm g 211 i) ∧ ∀ j, j ≠ w → xm g' 209 j = xm g 209 j ∧ xm g' 210 j = xm g 210 j)
      ∨ (∃ e, fmP T L w (p, b, []) = .inr e ∧ Bx g' e)) := by
  have S := R.1
  obtain ⟨G1, e1⟩ : ∃ z, z = xset (xset (xset (xset (xset g 173 49 1) 173 98 0) 173 100 0) 173 101 0) 173 102 0 := ⟨_, rfl⟩
  have z1 : SH (xset g 173 49 1) := S.set (by decide +kernel)
  have z2 : SH (xset (xset g 173 49 1) 173 98 0) := z1.set (by decide +kernel)
  have z3 : SH (xset (xset (xset g 173 49 1) 173 98 0) 173 100 0) := z2.set (by decide +kernel)
  have z4 : SH (xset (xset (xset (xset g 173 49 1) 173 98 0) 173 100 0) 173 101 0) := z3.set (by decide +kernel)
  have S1 : SH G1 := by rw [e1]; exact z4.set (by decide +kernel)
  have d1 : Fx DE g G1 := by rw [e1]; exact (((((Fx.refl DE g).set rfl).set rfl).set rfl).set rfl).set rfl
  have m1 : ∀ q k, q ≠ 173 ∨ (k ≠ 49 ∧ k ≠ 98 ∧ k ≠ 100 ∧ k ≠ 101 ∧ k ≠ 102) → xm G1 q k = xm g q k := fun q k y => by
    rw [e1, xm_xset, if_neg (by omega), xm_xset, if_neg (by omega), xm_xset, if_neg (by omega), xm_xset, if_neg (by omega), xm_xset, if_neg (by omega)]
  have M1 : Mx T L false 0 G1 [] 6 (p, b, []) := by
    refine ⟨rx_mvq R S1 (fun q k y => m1 q k (by omega)), ⟨?_, fun i hi => by simp at hi⟩, ?_, True.intro, ?_, ?_, by omega, ?_, by simp, Or.inl rfl⟩
    · rw [e1, xm_xset, if_neg (by omega), xm_xset, if_neg (by omega), xm_xset, if_neg (by omega), xm_xset, if_pos ⟨rfl, rfl⟩]; rfl
    · rw [e1, xm_xset, if_neg (by omega), xm_xset, if_neg (by omega), xm_xset, if_pos ⟨rfl, rfl⟩]; rfl
    · rw [e1, xm_xset, if_pos ⟨rfl, rfl⟩]; rfl
    · rw [e1, xm_xset, if_neg (by omega), xm_xset, if_pos ⟨rfl, rfl⟩]; rfl
    · rw [e1, xm_xset, if_neg (by omega), xm_xset, if_neg (by omega), xm_xset, if_neg (by omega), xm_xset, if_neg (by omega), xm_xset, if_pos ⟨rfl, rfl⟩]; rfl
  have rd : ∃ g2, ((w = 0 ∧ f_X12_qTest 173 G1 = some g2) ∨ (w = 1 ∧ f_X12_qSums 173 G1 = some g2)) ∧ Fx DQ G1 g2 ∧ ((∃ s', fmP T L w (p, b, []) = .inl s' ∧ Mx T L false 0 g2 [] 6 s') ∨ (∃ e, fmP T L w (p, b, []) = .inr e ∧ Bx g2 e)) := by
    have : w = 0 ∨ w = 1 := by omega
    rcases this with rfl | rfl
    · rcases s_qTest M1 (by simp) with ⟨g2, s', a1, a2, a3, a4, -⟩ | ⟨g2, e, a1, a2, a3, a4⟩
      · exact ⟨g2, Or.inl ⟨rfl, a1⟩, a4, Or.inl ⟨s', a2, a3⟩⟩
      · exact ⟨g2, Or.inl ⟨rfl, a1⟩, a4, Or.inr ⟨e, a2, a3.1⟩⟩
    · rcases s_qSums M1 (by simp) (by simp) with ⟨g2, s', a1, a2, a3, a4, -⟩ | ⟨g2, e, a1, a2, a3, a4⟩
      · exact ⟨g2, Or.inr ⟨rfl, a1⟩, a4.1, Or.inl ⟨s', a2, a3⟩⟩
      · exact ⟨g2, Or.inr ⟨rfl, a1⟩, a4, Or.inr ⟨e, a2, a3.1⟩⟩
  obtain ⟨g2, c1, d2, o⟩ := rd
  have S2 : SH g2 := d2.sh DQ_nf S1
  have i9 : xia g 0 209 (w : Int) = true := ia_209 S (by omega) (by omega)
  have hd : f_X12_codesTold 173 (w : Int) x g = f_X12_codesTold_J71 173 (w : Int) g2 := by
    unfold f_X12_codesTold f_X12_codesTold_J23
    rw [gM S, R.2.2.2.1, if_pos rfl, gM S, pt_173_44 S, show xal g 0 209 (w : Int) = some (-1) from xal_eq (a := 209) i9 hx, bbind, if_pos rfl, gM S, R.2.2.2.1, if_pos rfl, pMf S, pMf z1, pMf z2, pMf z3, pMf z4, ← e1]
    rcases c1 with ⟨rfl, c1⟩ | ⟨rfl, c1⟩
    · rw [if_pos (show ((0 : Nat) : Int) = 0 from rfl), xM S1, c1, bbind]
    · rw [if_neg (by decide), xM S1, c1, bbind]
  rw [hd]
  unfold f_X12_codesTold_J71
  rcases o with ⟨s', f1, M2⟩ | ⟨e, f1, B2⟩
  · have ok := fmP_ok (T := T) (L := L) w (p, b, []) s' f1 R.2.2.2.2.2.2.1
    obtain ⟨o1, o2, c, o3, o4, -⟩ := ok
    have o5 : s'.2.2 = c := by rw [o3]; rfl
    rw [← o5] at o4
    have hL := R.2.2.2.2.2.1
    dsimp only at o1 o2 o4
    have h47' : xm g2 173 47 = (a : Int) := (d2.2.2.2 173 47 rfl).trans ((m1 173 47 (by omega)).trans h47)
    have j9 : xia g2 0 209 (w : Int) = true := ia_209 S2 (by omega) (by omega)
    obtain ⟨g3, e3⟩ : ∃ z, z = xset g2 209 w (a : Int) := ⟨_, rfl⟩
    have S3 : SH g3 := by rw [e3]; exact S2.set (fixd_of (by decide +kernel))
    have m3 : ∀ q k, q ≠ 209 ∨ k ≠ w → xm g3 q k = xm g2 q k := fun q k y => by rw [e3, xm_xset, if_neg (by omega)]
    have lp := cpG_loop S3 ((m3 173 47 (by omega)).trans h47') ((m3 173 98 (by omega)).trans M2.2.1.1) (by omega) (w : Int)
    obtain ⟨g4, e4⟩ : ∃ z, z = cpG g3 a s'.2.2.length := ⟨_, rfl⟩
    rw [← e4] at lp
    have S4 : SH g4 := by rw [e4]; exact cpG_S S3 _
    have a4 : xm g4 173 47 = ((a + s'.2.2.length : Nat) : Int) := by rw [e4]; exact cpG_a ((m3 173 47 (by omega)).trans h47') _
    have i10 : xia g4 0 210 (w : Int) = true := ia_210 S4 (by omega) (by omega)
    have m4 : ∀ q k, q ≠ 211 → q ≠ 173 ∨ k ≠ 47 → xm g4 q k = xm g3 q k := fun q k y1 y2 => by rw [e4]; exact cpG_o y1 y2 _
    have c4 : ∀ k, xm g4 211 k = if a ≤ k ∧ k < a + s'.2.2.length then xm g3 245 (k - a) else xm g3 211 k := fun k => by rw [e4]; exact cpG_c _
    have df : Fx DE g (xset g4 210 w ((a + s'.2.2.length : Nat) : Int)) := by
      rw [e4, e3]
      refine ((((d1.tr (DQ_DE d2)).set ?_).tr (cpG_F _ (by omega)))).set ?_
      · simp [DE, Nat.blt]; omega
      · simp [DE, Nat.blt]; omega
    refine ⟨xset g4 210 w ((a + s'.2.2.length : Nat) : Int), ?_, df, Or.inl ⟨s', s'.2.2.length, f1, rfl, ?_, ?_, ?_, ?_, by omega, fun i hi => ?_, fun i hi => ?_, fun j hj => ⟨?_, ?_⟩⟩⟩
    · rw [gM S2, mx_bad M2, if_pos rfl, gM S2, pt_173_44 S2, gM S2, h47']
      refine (bnd (xas_eq (a := 209) j9)).trans ?_
      rw [← e3]
      refine (bnd lp).trans ?_
      rw [gM S4, pt_173_45 S4, gM S4, a4]
      exact (bnd (xas_eq (a := 210) i10)).trans rfl
    · refine rx_mvq M2.1 (S4.set (fixd_of (by decide +kernel))) (fun q k y => ?_)
      rw [xm_xset, if_neg (by omega), m4 _ _ (by omega) (by omega), m3 _ _ (by omega)]
    · rw [xm_xset, if_neg (by omega), m4 _ _ (by omega) (by omega), e3, xm_xset, if_pos ⟨rfl, rfl⟩]
    · rw [xm_xset, if_pos ⟨rfl, rfl⟩]
    · rw [xm_xset, if_neg (by omega)]; exact a4
    · rw [xm_xset, if_neg (by omega), c4, if_pos (by omega), m3 _ _ (by omega), show a + i - a = i by omega]
      exact M2.2.1.2 i hi
    · rw [xm_xset, if_neg (by omega), c4, if_neg (by omega), m3 _ _ (by omega), d2.2.2.2 211 i rfl, m1 _ _ (by omega)]
    · rw [xm_xset, if_neg (by omega), m4 _ _ (by omega) (by omega), m3 _ _ (by omega), d2.2.2.2 209 j rfl, m1 _ _ (by omega)]
    · rw [xm_xset, if_neg (by omega), m4 _ _ (by omega) (by omega), m3 _ _ (by omega), d2.2.2.2 210 j rfl, m1 _ _ (by omega)]
  · exact ⟨g2, by rw [gM S2, b_5 B2], d1.tr (DQ_DE d2), Or.inr ⟨e, f1, B2⟩⟩
