/-! ===== the reference begins a case ===== -/
theorem flG_m {A : xa_H} {a q k : Nat} {v : Int} : ∀ n, xm (flG A a v n) q k = if q = a ∧ k < n then v else xm A q k
  | 0 => by rw [if_neg (by omega)]; rfl
  | n + 1 => by
    show xm (xset (flG A a v n) a n v) q k = _
    rw [xm_xset]
    by_cases z : q = a ∧ k = n
    · rw [if_pos z, if_pos (by omega)]
    · rw [if_neg z, flG_m n]
      by_cases y : q = a ∧ k < n
      · rw [if_pos y, if_pos (by omega)]
      · rw [if_neg y, if_neg (by omega)]
theorem flG_S {A : xa_H} {a : Nat} {v : Int} (S : SH A) (hf : fixa a = false) : ∀ n, SH (flG A a v n)
  | 0 => S
  | n + 1 => (flG_S S hf n).set (fixd_of hf)
def fl2 (A : xa_H) : Nat → xa_H
  | 0 => A
  | i + 1 => xset (xset (fl2 A i) 207 i 0) 202 i (-1)
theorem fl2_m {A : xa_H} {q k : Nat} : ∀ n, xm (fl2 A n) q k = if q = 207 ∧ k < n then 0 else if q = 202 ∧ k < n then -1 else xm A q k
  | 0 => by rw [if_neg (by omega), if_neg (by omega)]; rfl
  | n + 1 => by
    show xm (xset (xset (fl2 A n) 207 n 0) 202 n (-1)) q k = _
    rw [xm_xset, xm_xset, fl2_m n]
    by_cases z : q = 207
    · subst z
      rw [if_neg (by omega)]
      by_cases y : k = n
      · rw [if_pos ⟨rfl, y⟩, if_pos (by omega)]
      · rw [if_neg (by omega)]
        by_cases x : k < n
        · rw [if_pos (by omega), if_pos (by omega)]
        · rw [if_neg (by omega), if_neg (by omega), if_neg (by omega), if_neg (by omega)]
    · by_cases z2 : q = 202
      · subst z2
        by_cases y : k = n
        · rw [if_pos ⟨rfl, y⟩, if_neg (by omega), if_pos (by omega)]
        · by_cases x : k < n
          · rw [if_neg (by omega), if_neg (by omega), if_neg (by omega), if_pos (by omega), if_neg (by omega), if_pos (by omega)]
          · rw [if_neg (by omega), if_neg (by omega), if_neg (by omega), if_neg (by omega), if_neg (by omega), if_neg (by omega)]
      · rw [if_neg (by omega), if_neg (by omega), if_neg (by omega), if_neg (by omega), if_neg (by omega), if_neg (by omega)]
theorem fl2_S {A : xa_H} (S : SH A) : ∀ n, SH (fl2 A n)
  | 0 => S
  | n + 1 => ((fl2_S S n).set (fixd_of (by decide +kernel))).set (fixd_of (by decide +kernel))
theorem r_L45 {g : xa_H} (S : SH g) : xit (fun s => f_X12_open_L45 173 s.1 s.2) xFU (0, g) = some (flG g 199 0 3) :=
  xit_seq (f := fun s : Int × xa_H => f_X12_open_L45 173 s.1 s.2) (fun i => ((i : Int), flG g 199 0 i)) 3 _ (fun i hi => by
    have Si := flG_S (v := 0) S (a := 199) (by decide +kernel) i
    have ia : xia (flG g 199 0 i) 0 199 (i : Int) = true := ia_199 Si (by omega) (by omega)
    show f_X12_open_L45 173 (i : Int) (flG g 199 0 i) = _
    unfold f_X12_open_L45
    rw [if_pos (by omega), gM Si, pt_173_34 Si]
    refine (bnd (xas_eq (a := 199) ia)).trans ?_
    rw [w32_id (by omega) (by omega)]
    rfl) (by
    show f_X12_open_L45 173 3 (flG g 199 0 3) = _
    unfold f_X12_open_L45
    rw [if_neg (by omega)]) (by decide)
theorem r_L65 {g : xa_H} (S : SH g) : xit (fun s => f_X12_open_L65 173 s.1 s.2) xFU (0, g) = some (flG g 206 0 36) :=
  xit_seq (f := fun s : Int × xa_H => f_X12_open_L65 173 s.1 s.2) (fun i => ((i : Int), flG g 206 0 i)) 36 _ (fun i hi => by
    have Si := flG_S (v := 0) S (a := 206) (by decide +kernel) i
    have ia : xia (flG g 206 0 i) 0 206 (i : Int) = true := ia_206 Si (by omega) (by omega)
    show f_X12_open_L65 173 (i : Int) (flG g 206 0 i) = _
    unfold f_X12_open_L65
    rw [if_pos (by omega), gM Si, pt_173_41 Si]
    refine (bnd (xas_eq (a := 206) ia)).trans ?_
    rw [w32_id (by omega) (by omega)]
    rfl) (by
    show f_X12_open_L65 173 36 (flG g 206 0 36) = _
    unfold f_X12_open_L65
    rw [if_neg (by omega)]) (by decide)
theorem r_L86 {g : xa_H} (S : SH g) : xit (fun s => f_X12_open_L86 173 s.1 s.2) xFU (0, g) = some (fl2 g 6) :=
  xit_seq (f := fun s : Int × xa_H => f_X12_open_L86 173 s.1 s.2) (fun i => ((i : Int), fl2 g i)) 6 _ (fun i hi => by
    have Si := fl2_S S i
    have S2 : SH (xset (fl2 g i) 207 i 0) := Si.set (fixd_of (by decide +kernel))
    have ia : xia (fl2 g i) 0 207 (i : Int) = true := ia_207 Si (by omega) (by omega)
    have ib : xia (xset (fl2 g i) 207 i 0) 0 202 (i : Int) = true := ia_202 S2 (by omega) (by omega)
    show f_X12_open_L86 173 (i : Int) (fl2 g i) = _
    unfold f_X12_open_L86
    rw [if_pos (by omega), gM Si, pt_173_42 Si]
    refine (bnd (xas_eq (a := 207) ia)).trans ?_
    rw [gM S2, pt_173_37 S2]
    refine (bnd (xas_eq (a := 202) ib)).trans ?_
    rw [w32_id (by omega) (by omega)]
    rfl) (by
    show f_X12_open_L86 173 6 (fl2 g 6) = _
    unfold f_X12_open_L86
    rw [if_neg (by omega)]) (by decide)
/-- nothing is told yet -/
def RI (g : xa_H) : Prop := (∀ k, k < 3 → xm g 199 k = 0) ∧ (∀ k, k < 36 → xm g 206 k = 0) ∧ (∀ k, k < 6 → xm g 207 k = 0) ∧ (∀ k, k < 6 → xm g 202 k = -1) ∧ xm g 208 0 = 0 ∧ xm g 209 0 = -1 ∧ xm g 209 1 = -1 ∧ xm g 173 47 = 0 ∧ xm g 173 48 = 0
def DO (a k : Nat) : Bool := DH a k || (a == 173 && (k == 1 || k == 3))
theorem DO_nf : nofix DO := by unfold nofix; decide +kernel
theorem DH_DO {g g' : xa_H} (e : Fx DH g g') : Fx DO g g' := e.mono fun x k q => by
  unfold DO at q
  simp only [Bool.or_eq_false_iff] at q
  exact q.1
theorem flG_F {D : Nat → Nat → Bool} {A : xa_H} {a : Nat} {v : Int} : ∀ n, (∀ k, k < n → D a k = true) → Fx D A (flG A a v n)
  | 0, _ => Fx.refl _ _
  | n + 1, h => (flG_F n (fun k hk => h k (by omega))).set (h n (by omega))
theorem fl2_F {D : Nat → Nat → Bool} {A : xa_H} : ∀ n, (∀ k, k < n → D 207 k = true ∧ D 202 k = true) → Fx D A (fl2 A n)
  | 0, _ => Fx.refl _ _
  | n + 1, h => ((fl2_F n (fun k hk => h k (by omega))).set (h n (by omega)).1).set (h n (by omega)).2
theorem r_begin {g : xa_H} (S : SH g) {T : Nat → Int} {L : Nat} (hT : xm g 174 = T) (h1 : xm g 173 1 = (L : Int)) (hL : L ≤ 1600) :
    ∃ g', f_X12_open 173 g = ((xit (fun s => f_X12_open_L133 173 s) xFU g').bind fun e35 => f_X12_open_J155 173 e35) ∧ Rx T L g' (tk_sk T L 0) false ∧ RI g' ∧ xm g' 173 1 = 0 ∧ Fx DO g g' := by
  obtain ⟨A1, e1⟩ : ∃ z, z = xset g 173 3 (L : Int) := ⟨_, rfl⟩
  obtain ⟨A2, e2⟩ : ∃ z, z = xset A1 173 1 0 := ⟨_, rfl⟩
  obtain ⟨A3, e3⟩ : ∃ z, z = xset A2 173 2 0 := ⟨_, rfl⟩
  obtain ⟨A4, e4⟩ : ∃ z, z = xset A3 173 4 (-1) := ⟨_, rfl⟩
  obtain ⟨A5, e5⟩ : ∃ z, z = xset A4 173 5 0 := ⟨_, rfl⟩
  obtain ⟨A6, e6⟩ : ∃ z, z = xset A5 173 6 (-1) := ⟨_, rfl⟩
  obtain ⟨A7, e7⟩ : ∃ z, z = xset A6 173 48 0 := ⟨_, rfl⟩
  obtain ⟨A8, e8⟩ : ∃ z, z = xset A7 173 47 0 := ⟨_, rfl⟩
  obtain ⟨B1, f1⟩ : ∃ z, z = flG A8 199 0 3 := ⟨_, rfl⟩
  obtain ⟨B2, f2⟩ : ∃ z, z = flG B1 206 0 36 := ⟨_, rfl⟩
  obtain ⟨B3, f3⟩ : ∃ z, z = fl2 B2 6 := ⟨_, rfl⟩
  obtain ⟨B4, f4⟩ : ∃ z, z = xset B3 208 0 0 := ⟨_, rfl⟩
  obtain ⟨B5, f5⟩ : ∃ z, z = xset B4 209 0 (-1) := ⟨_, rfl⟩
  obtain ⟨B6, f6⟩ : ∃ z, z = xset B5 209 1 (-1) := ⟨_, rfl⟩
  have s1 : SH A1 := by rw [e1]; exact S.set (by decide +kernel)
  have s2 : SH A2 := by rw [e2]; exact s1.set (by decide +kernel)
  have s3 : SH A3 := by rw [e3]; exact s2.set (by decide +kernel)
  have s4 : SH A4 := by rw [e4]; exact s3.set (by decide +kernel)
  have s5 : SH A5 := by rw [e5]; exact s4.set (by decide +kernel)
  have s6 : SH A6 := by rw [e6]; exact s5.set (by decide +kernel)
  have s7 : SH A7 := by rw [e7]; exact s6.set (by decide +kernel)
  have s8 : SH A8 := by rw [e8]; exact s7.set (by decide +kernel)
  have t1 : SH B1 := by rw [f1]; exact flG_S s8 (by decide +kernel) _
  have t2 : SH B2 := by rw [f2]; exact flG_S t1 (by decide +kernel) _
  have t3 : SH B3 := by rw [f3]; exact fl2_S t2 _
  have t4 : SH B4 := by rw [f4]; exact t3.set (fixd_of (by decide +kernel))
  have t5 : SH B5 := by rw [f5]; exact t4.set (fixd_of (by decide +kernel))
  have t6 : SH B6 := by rw [f6]; exact t5.set (fixd_of (by decide +kernel))
  have mB : ∀ a k, a ≠ 199 → a ≠ 206 → a ≠ 207 → a ≠ 202 → a ≠ 208 → a ≠ 209 → xm B6 a k = xm A8 a k := fun a k q1 q2 q3 q4 q5 q6 => by
    rw [f6, xm_xset, if_neg (by omega), f5, xm_xset, if_neg (by omega), f4, xm_xset, if_neg (by omega), f3, fl2_m, if_neg (by omega), if_neg (by omega), f2, flG_m, if_neg (by omega), f1, flG_m, if_neg (by omega)]
  have v3 : xm A8 173 3 = (L : Int) := by rw [e8, xm_xset, if_neg (by omega), e7, xm_xset, if_neg (by omega), e6, xm_xset, if_neg (by omega), e5, xm_xset, if_neg (by omega), e4, xm_xset, if_neg (by omega), e3, xm_xset, if_neg (by omega), e2, xm_xset, if_neg (by omega), e1, xm_xset, if_pos ⟨rfl, rfl⟩]
  have v1 : xm A8 173 1 = 0 := by rw [e8, xm_xset, if_neg (by omega), e7, xm_xset, if_neg (by omega), e6, xm_xset, if_neg (by omega), e5, xm_xset, if_neg (by omega), e4, xm_xset, if_neg (by omega), e3, xm_xset, if_neg (by omega), e2, xm_xset, if_pos ⟨rfl, rfl⟩]
  have v2 : xm A8 173 2 = ((0 : Nat) : Int) := by rw [e8, xm_xset, if_neg (by omega), e7, xm_xset, if_neg (by omega), e6, xm_xset, if_neg (by omega), e5, xm_xset, if_neg (by omega), e4, xm_xset, if_neg (by omega), e3, xm_xset, if_pos ⟨rfl, rfl⟩]; rfl
  have v4 : xm A8 173 4 = -1 := by rw [e8, xm_xset, if_neg (by omega), e7, xm_xset, if_neg (by omega), e6, xm_xset, if_neg (by omega), e5, xm_xset, if_neg (by omega), e4, xm_xset, if_pos ⟨rfl, rfl⟩]
  have v5 : xm A8 173 5 = 0 := by rw [e8, xm_xset, if_neg (by omega), e7, xm_xset, if_neg (by omega), e6, xm_xset, if_neg (by omega), e5, xm_xset, if_pos ⟨rfl, rfl⟩]
  have v6 : xm A8 173 6 = -1 := by rw [e8, xm_xset, if_neg (by omega), e7, xm_xset, if_neg (by omega), e6, xm_xset, if_pos ⟨rfl, rfl⟩]
  have v48 : xm A8 173 48 = 0 := by rw [e8, xm_xset, if_neg (by omega), e7, xm_xset, if_pos ⟨rfl, rfl⟩]
  have v47 : xm A8 173 47 = 0 := by rw [e8, xm_xset, if_pos ⟨rfl, rfl⟩]
  have v174 : xm A8 174 = T := by
    rw [← hT]
    funext k
    rw [e8, xm_xset, if_neg (by omega), e7, xm_xset, if_neg (by omega), e6, xm_xset, if_neg (by omega), e5, xm_xset, if_neg (by omega), e4, xm_xset, if_neg (by omega), e3, xm_xset, if_neg (by omega), e2, xm_xset, if_neg (by omega), e1, xm_xset, if_neg (by omega)]
  have w : ∀ k, xm B6 173 k = xm A8 173 k := fun k => mB 173 k (by omega) (by omega) (by omega) (by omega) (by omega) (by omega)
  have i1 : xia B3 0 208 ((0 : Nat) : Int) = true := ia_208 t3 (by omega) (by omega)
  have i2 : xia B4 0 209 ((0 : Nat) : Int) = true := ia_209 t4 (by omega) (by omega)
  have i3 : xia B5 0 209 ((1 : Nat) : Int) = true := ia_209 t5 (by omega) (by omega)
  refine ⟨B6, ?_, ⟨t6, ?_, (w 3).trans v3, (w 5).trans v5, (w 6).trans v6, hL, ?_, ⟨(fun q => by cases q), fun q => ?_⟩, ⟨?_, ?_⟩, 0, (w 2).trans v2, rfl⟩, ⟨?_, ?_, ?_, ?_, ?_, ?_, ?_, (w 47).trans v47, (w 48).trans v48⟩, (w 1).trans v1, ?_⟩
  · unfold f_X12_open
    rw [gM S, h1, pMf S, ← e1, pMf s1, ← e2, pMf s2, ← e3, pMf s3, ← e4, pMf s4, ← e5, pMf s5, ← e6, pMf s6, ← e7, pMf s7, ← e8]
    refine (bnd (r_L45 s8)).trans ?_
    rw [← f1]
    refine (bnd (r_L65 t1)).trans ?_
    rw [← f2]
    refine (bnd (r_L86 t2)).trans ?_
    rw [← f3, gM t3, pt_173_43 t3]
    refine (bnd (xas_eq (a := 208) (i := 0) i1)).trans ?_
    rw [← f4, gM t4, pt_173_44 t4]
    refine (bnd (xas_eq (a := 209) (i := 0) i2)).trans ?_
    rw [← f5, gM t5, pt_173_44 t5]
    refine (bnd (xas_eq (a := 209) (i := 1) i3)).trans ?_
    rw [← f6]
  · rw [← v174]
    funext k
    exact mB 174 k (by omega) (by omega) (by omega) (by omega) (by omega) (by omega)
  · exact rn_le tk_b0 _ _ (Nat.zero_le _)
  · rw [w 4, v4] at q
    omega
  · rw [w 4, v4]; omega
  · rw [w 4, v4]; omega
  · intro k hk
    rw [f6, xm_xset, if_neg (by omega), f5, xm_xset, if_neg (by omega), f4, xm_xset, if_neg (by omega), f3, fl2_m, if_neg (by omega), if_neg (by omega), f2, flG_m, if_neg (by omega), f1, flG_m, if_pos ⟨rfl, hk⟩]
  · intro k hk
    rw [f6, xm_xset, if_neg (by omega), f5, xm_xset, if_neg (by omega), f4, xm_xset, if_neg (by omega), f3, fl2_m, if_neg (by omega), if_neg (by omega), f2, flG_m, if_pos ⟨rfl, hk⟩]
  · intro k hk
    rw [f6, xm_xset, if_neg (by omega), f5, xm_xset, if_neg (by omega), f4, xm_xset, if_neg (by omega), f3, fl2_m, if_pos ⟨rfl, hk⟩]
  · intro k hk
    rw [f6, xm_xset, if_neg (by omega), f5, xm_xset, if_neg (by omega), f4, xm_xset, if_neg (by omega), f3, fl2_m, if_neg (by omega), if_pos ⟨rfl, hk⟩]
  · rw [f6, xm_xset, if_neg (by omega), f5, xm_xset, if_neg (by omega), f4, xm_xset, if_pos ⟨rfl, rfl⟩]
  · rw [f6, xm_xset, if_neg (by omega), f5, xm_xset, if_pos ⟨rfl, rfl⟩]
  · rw [f6, xm_xset, if_pos ⟨rfl, rfl⟩]
  · have a1 : Fx DO g A8 := by
      rw [e8, e7, e6, e5, e4, e3, e2, e1]
      exact (((((((((Fx.refl DO g).set rfl).set rfl).set rfl).set rfl).set rfl).set rfl).set rfl).set rfl)
    have a2 : Fx DO A8 B1 := by rw [f1]; exact flG_F 3 (fun k hk => by simp [DO, DH, DF, DG, Nat.blt]; omega)
    have a3 : Fx DO B1 B2 := by rw [f2]; exact flG_F 36 (fun k hk => by simp [DO, DH, DF, DG, Nat.blt]; omega)
    have a4 : Fx DO B2 B3 := by rw [f3]; exact fl2_F 6 (fun k hk => ⟨by simp [DO, DH, DF, DG, Nat.blt]; omega, by simp [DO, DH, DF, DG, Nat.blt]; omega⟩)
    have a5 : Fx DO B3 B6 := by rw [f6, f5, f4]; exact (((Fx.refl DO B3).set rfl).set rfl).set rfl
    exact (((a1.tr a2).tr a3).tr a4).tr a5
