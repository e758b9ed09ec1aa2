/-! ===== what is told comes to stand: all of it ===== -/
def DV (a k : Nat) : Bool := a == 199 || a == 200 || a == 201 || a == 202 || a == 206 || a == 207 || a == 208 || a == 209 || a == 210 || a == 211 || a == 212 || (a == 173 && (k == 60 || k == 70 || k == 74))
theorem cpT_F {A : xa_H} : ∀ n, Fx DV A (cpT A n)
  | 0 => Fx.refl _ _
  | n + 1 => (((cpT_F n).set rfl).set rfl).set rfl
theorem cpD_F {A : xa_H} : ∀ n, Fx DV A (cpD A n)
  | 0 => Fx.refl _ _
  | n + 1 => ((cpD_F n).set rfl).set rfl
theorem hdO_F {A : xa_H} : ∀ n, Fx DV A (hdO A n)
  | 0 => Fx.refl _ _
  | n + 1 => (((hdO_F n).set rfl).set rfl).set rfl
theorem r_stands {g : xa_H} (S : SH g) {n l : Nat} (hn : xm g 199 1 = (n : Int)) (h6 : n ≤ 6) (hl : xm g 173 47 = (l : Int)) (h16 : l ≤ 1600) : ∃ g', f_X12_stands 173 g = some g' ∧ SH g' ∧ Fx DV g g' ∧
    (∀ k, k < 3 → xm g' 199 k = xm g 199 k ∧ xm g' 199 (3 + k) = xm g 199 k) ∧ (∀ k, k < 12 → xm g' 200 (12 + k) = xm g 200 k) ∧ (∀ a k, (a = 201 ∨ a = 202 ∨ a = 207) → k < 6 → xm g' a (6 + k) = xm g a k) ∧ (∀ k, k < 36 → xm g' 206 (36 + k) = xm g 206 k) ∧ xm g' 208 1 = xm g 208 0 ∧
    (∀ a k, (a = 209 ∨ a = 210) → k < 2 → xm g' a (2 + k) = xm g a k) ∧ (∀ k, k < l → xm g' 211 (1600 + k) = xm g 211 k) ∧ (∀ i, i < n → xm g' 212 (1 + 9 * i) = xm g 203 i ∧ xm g' 212 (1 + 9 * i + 1) = xm g 204 i ∧ xm g' 212 (1 + 9 * i + 2) = xm g 205 i) ∧
    (∀ k, k < 176 → (∀ i, i < n → k ≠ 1 + 9 * i ∧ k ≠ 1 + 9 * i + 1 ∧ k ≠ 1 + 9 * i + 2) → xm g' 212 k = 0) ∧ xm g' 173 74 = 0 ∧ xm g' 173 70 = 0 ∧ xm g' 173 60 = 0 := by
  obtain ⟨B1, f1⟩ : ∃ z, z = cpO g 199 3 3 := ⟨_, rfl⟩
  obtain ⟨B2, f2⟩ : ∃ z, z = cpO B1 200 12 12 := ⟨_, rfl⟩
  obtain ⟨B3, f3⟩ : ∃ z, z = cpT B2 6 := ⟨_, rfl⟩
  obtain ⟨B4, f4⟩ : ∃ z, z = cpO B3 206 36 36 := ⟨_, rfl⟩
  obtain ⟨B5, f5⟩ : ∃ z, z = xset B4 208 1 (xm g 208 0) := ⟨_, rfl⟩
  obtain ⟨B6, f6⟩ : ∃ z, z = cpD B5 2 := ⟨_, rfl⟩
  obtain ⟨B7, f7⟩ : ∃ z, z = cpO B6 211 1600 l := ⟨_, rfl⟩
  obtain ⟨B8, f8⟩ : ∃ z, z = flG B7 212 0 176 := ⟨_, rfl⟩
  obtain ⟨B9, f9⟩ : ∃ z, z = hdO B8 n := ⟨_, rfl⟩
  obtain ⟨C1, c1⟩ : ∃ z, z = xset B9 173 74 0 := ⟨_, rfl⟩
  obtain ⟨C2, c2⟩ : ∃ z, z = xset C1 173 70 0 := ⟨_, rfl⟩
  obtain ⟨C3, c3⟩ : ∃ z, z = xset C2 173 60 0 := ⟨_, rfl⟩
  have s1 : SH B1 := by rw [f1]; exact cpO_S S (by decide +kernel) _
  have s2 : SH B2 := by rw [f2]; exact cpO_S s1 (by decide +kernel) _
  have s3 : SH B3 := by rw [f3]; exact cpT_S s2 _
  have s4 : SH B4 := by rw [f4]; exact cpO_S s3 (by decide +kernel) _
  have s5 : SH B5 := by rw [f5]; exact s4.set (fixd_of (by decide +kernel))
  have s6 : SH B6 := by rw [f6]; exact cpD_S s5 _
  have s7 : SH B7 := by rw [f7]; exact cpO_S s6 (by decide +kernel) _
  have s8 : SH B8 := by rw [f8]; exact flG_S s7 (by decide +kernel) _
  have s9 : SH B9 := by rw [f9]; exact hdO_S s8 _
  have t1 : SH C1 := by rw [c1]; exact s9.set (by decide +kernel)
  have t2 : SH C2 := by rw [c2]; exact t1.set (by decide +kernel)
  have t3 : SH C3 := by rw [c3]; exact t2.set (by decide +kernel)
  have m1 : ∀ a k, a ≠ 199 → xm B1 a k = xm g a k := fun a k q => by rw [f1, cpO_m, if_neg (by omega)]
  have m2 : ∀ a k, a ≠ 200 → xm B2 a k = xm B1 a k := fun a k q => by rw [f2, cpO_m, if_neg (by omega)]
  have m3 : ∀ a k, a ≠ 201 → a ≠ 202 → a ≠ 207 → xm B3 a k = xm B2 a k := fun a k q1 q2 q3 => by rw [f3, cpT_m, if_neg (by omega)]
  have m4 : ∀ a k, a ≠ 206 → xm B4 a k = xm B3 a k := fun a k q => by rw [f4, cpO_m, if_neg (by omega)]
  have m5 : ∀ a k, a ≠ 208 → xm B5 a k = xm B4 a k := fun a k q => by rw [f5, xm_xset, if_neg (by omega)]
  have m6 : ∀ a k, a ≠ 209 → a ≠ 210 → xm B6 a k = xm B5 a k := fun a k q1 q2 => by rw [f6, cpD_m, if_neg (by omega)]
  have m7 : ∀ a k, a ≠ 211 → xm B7 a k = xm B6 a k := fun a k q => by rw [f7, cpO_m, if_neg (by omega)]
  have m8 : ∀ a k, a ≠ 212 → xm B8 a k = xm B7 a k := fun a k q => by rw [f8, flG_m, if_neg (by omega)]
  have m9 : ∀ a k, a ≠ 212 → xm B9 a k = xm B8 a k := fun a k q => by rw [f9, hdO_o q]
  have mC : ∀ a k, a ≠ 173 → xm C3 a k = xm B9 a k := fun a k q => by rw [c3, xm_xset, if_neg (by omega), c2, xm_xset, if_neg (by omega), c1, xm_xset, if_neg (by omega)]
  have i208 : xia B4 0 208 ((0 : Nat) : Int) = true := ia_208 s4 (by omega) (by omega)
  have j208 : xia B4 0 208 ((1 : Nat) : Int) = true := ia_208 s4 (by omega) (by omega)
  have v208 : xm B4 208 0 = xm g 208 0 := by rw [m4 _ _ (by omega), m3 _ _ (by omega) (by omega) (by omega), m2 _ _ (by omega), m1 _ _ (by omega)]
  have vl : xm B6 173 47 = (l : Int) := by rw [m6 _ _ (by omega) (by omega), m5 _ _ (by omega), m4 _ _ (by omega), m3 _ _ (by omega) (by omega) (by omega), m2 _ _ (by omega), m1 _ _ (by omega)]; exact hl
  have vn : xm B8 199 1 = (n : Int) := by rw [m8 _ _ (by omega), m7 _ _ (by omega), m6 _ _ (by omega) (by omega), m5 _ _ (by omega), m4 _ _ (by omega), m3 _ _ (by omega) (by omega) (by omega), m2 _ _ (by omega), f1, cpO_m, if_neg (by omega)]; exact hn
  refine ⟨C3, ?_, t3, ?_, fun k hk => ⟨?_, ?_⟩, fun k hk => ?_, fun a k ha hk => ?_, fun k hk => ?_, ?_, fun a k ha hk => ?_, fun k hk => ?_, fun i hi => ?_, fun k hk hz => ?_, ?_, ?_, ?_⟩
  · unfold f_X12_stands
    refine (bnd (r_L2 S)).trans ?_
    rw [← f1]
    refine (bnd (r_L29 s1)).trans ?_
    rw [← f2]
    refine (bnd (r_L58 s2)).trans ?_
    rw [← f3]
    refine (bnd (r_L117 s3)).trans ?_
    rw [← f4, gM s4, gM s4, pt_173_43 s4]
    refine (bnd (xal_eq (a := 208) (i := 0) i208 v208)).trans ?_
    refine (bnd (xas_eq (a := 208) (i := 1) j208)).trans ?_
    rw [← f5]
    refine (bnd (r_L158 s5)).trans ?_
    rw [← f6]
    refine (bnd (r_L199 s6 vl h16)).trans ?_
    rw [← f7]
    refine (bnd (r_L231 s7)).trans ?_
    rw [← f8]
    refine (bnd (r_L253 s8 vn h6)).trans ?_
    rw [← f9, pMf s9, ← c1, pMf t1, ← c2, pMf t2, ← c3]
  · have a1 : Fx DV g B1 := by rw [f1]; exact cpO_F 3 (fun _ _ => rfl)
    have a2 : Fx DV B1 B2 := by rw [f2]; exact cpO_F 12 (fun _ _ => rfl)
    have a3 : Fx DV B2 B3 := by rw [f3]; exact cpT_F 6
    have a4 : Fx DV B3 B4 := by rw [f4]; exact cpO_F 36 (fun _ _ => rfl)
    have a5 : Fx DV B4 B5 := by rw [f5]; exact (Fx.refl DV B4).set rfl
    have a6 : Fx DV B5 B6 := by rw [f6]; exact cpD_F 2
    have a7 : Fx DV B6 B7 := by rw [f7]; exact cpO_F l (fun _ _ => rfl)
    have a8 : Fx DV B7 B8 := by rw [f8]; exact flG_F 176 (fun _ _ => rfl)
    have a9 : Fx DV B8 B9 := by rw [f9]; exact hdO_F n
    have a10 : Fx DV B9 C3 := by rw [c3, c2, c1]; exact (((Fx.refl DV B9).set rfl).set rfl).set rfl
    exact ((((((((a1.tr a2).tr a3).tr a4).tr a5).tr a6).tr a7).tr a8).tr a9).tr a10
  · rw [mC _ _ (by omega), m9 _ _ (by omega), m8 _ _ (by omega), m7 _ _ (by omega), m6 _ _ (by omega) (by omega), m5 _ _ (by omega), m4 _ _ (by omega), m3 _ _ (by omega) (by omega) (by omega), m2 _ _ (by omega), f1, cpO_m, if_neg (by omega)]
  · rw [mC _ _ (by omega), m9 _ _ (by omega), m8 _ _ (by omega), m7 _ _ (by omega), m6 _ _ (by omega) (by omega), m5 _ _ (by omega), m4 _ _ (by omega), m3 _ _ (by omega) (by omega) (by omega), m2 _ _ (by omega), f1, cpO_m, if_pos (by omega), show 3 + k - 3 = k by omega]
  · rw [mC _ _ (by omega), m9 _ _ (by omega), m8 _ _ (by omega), m7 _ _ (by omega), m6 _ _ (by omega) (by omega), m5 _ _ (by omega), m4 _ _ (by omega), m3 _ _ (by omega) (by omega) (by omega), f2, cpO_m, if_pos (by omega), show 12 + k - 12 = k by omega, m1 _ _ (by omega)]
  · rw [mC _ _ (by omega), m9 _ _ (by omega), m8 _ _ (by omega), m7 _ _ (by omega), m6 _ _ (by omega) (by omega), m5 _ _ (by omega), m4 _ _ (by omega), f3, cpT_m, if_pos (by omega), show 6 + k - 6 = k by omega, m2 _ _ (by omega), m1 _ _ (by omega)]
  · rw [mC _ _ (by omega), m9 _ _ (by omega), m8 _ _ (by omega), m7 _ _ (by omega), m6 _ _ (by omega) (by omega), m5 _ _ (by omega), f4, cpO_m, if_pos (by omega), show 36 + k - 36 = k by omega, m3 _ _ (by omega) (by omega) (by omega), m2 _ _ (by omega), m1 _ _ (by omega)]
  · rw [mC _ _ (by omega), m9 _ _ (by omega), m8 _ _ (by omega), m7 _ _ (by omega), m6 _ _ (by omega) (by omega), f5, xm_xset, if_pos ⟨rfl, rfl⟩]
  · rw [mC _ _ (by omega), m9 _ _ (by omega), m8 _ _ (by omega), m7 _ _ (by omega), f6, cpD_m, if_pos (by omega), show 2 + k - 2 = k by omega, m5 _ _ (by omega), m4 _ _ (by omega), m3 _ _ (by omega) (by omega) (by omega), m2 _ _ (by omega), m1 _ _ (by omega)]
  · rw [mC _ _ (by omega), m9 _ _ (by omega), m8 _ _ (by omega), f7, cpO_m, if_pos (by omega), show 1600 + k - 1600 = k by omega, m6 _ _ (by omega) (by omega), m5 _ _ (by omega), m4 _ _ (by omega), m3 _ _ (by omega) (by omega) (by omega), m2 _ _ (by omega), m1 _ _ (by omega)]
  · have w : ∀ a, a = 203 ∨ a = 204 ∨ a = 205 → xm B8 a i = xm g a i := fun a ha => by rw [m8 _ _ (by omega), m7 _ _ (by omega), m6 _ _ (by omega) (by omega), m5 _ _ (by omega), m4 _ _ (by omega), m3 _ _ (by omega) (by omega) (by omega), m2 _ _ (by omega), m1 _ _ (by omega)]
    obtain ⟨x1, x2, x3⟩ := hdO_h (A := B8) (i := i) n hi
    rw [← f9] at x1 x2 x3
    exact ⟨(mC _ _ (by omega)).trans (x1.trans (w 203 (by omega))), (mC _ _ (by omega)).trans (x2.trans (w 204 (by omega))), (mC _ _ (by omega)).trans (x3.trans (w 205 (by omega)))⟩
  · rw [mC _ _ (by omega), f9, hdO_z n hz, f8, flG_m, if_pos ⟨rfl, hk⟩]
  · rw [c3, xm_xset, if_neg (by omega), c2, xm_xset, if_neg (by omega), c1, xm_xset, if_pos ⟨rfl, rfl⟩]
  · rw [c3, xm_xset, if_neg (by omega), c2, xm_xset, if_pos ⟨rfl, rfl⟩]
  · rw [c3, xm_xset, if_pos ⟨rfl, rfl⟩]
