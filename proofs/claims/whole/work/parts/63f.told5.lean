/-! ===== both sides go on, bundled ===== -/
def GO (T : Nat → Int) (L S F1 F2 : Nat) (h0 g0 : xa_H) (p0 : Nat) (h g : xa_H) (p : Nat) (b : Bool) : Prop := PQ T L h g p b ∧ CD h g S ∧ CF h g S F1 F2 p ∧ GX S h0 h ∧ Fx DG g0 g ∧ p0 ≤ p ∧ xn h = xn h0 ∧ xz h = xz h0
def BD (S : Nat) (h0 g0 h g : xa_H) : Prop := (∃ e, Ex h e ∧ Bx g e) ∧ Ct g ∧ GX S h0 h ∧ Fx DG g0 g ∧ xn h = xn h0 ∧ xz h = xz h0
section
variable {T : Nat → Int} {L S F1 F2 : Nat} {h0 g0 : xa_H} {p0 : Nat} {h g : xa_H} {p : Nat} {b : Bool}
theorem go_lex (G : GO T L S F1 F2 h0 g0 p0 h g p b) {h' g' : xa_H} (e : Fx DC h h') (e' : Fx DN g g') {p' : Nat} {b' : Bool} (Q : PQ T L h' g' p' b') (hp : p ≤ p') : GO T L S F1 F2 h0 g0 p0 h' g' p' b' := by
  obtain ⟨g1, g2, g3, g4, g5, g6, g7, g8⟩ := G
  exact ⟨Q, cd_lex g2 e e', cf_lex g3 (cd_S g2) g2.1.1 hp e e', g4.tr (DC_GX e), g5.tr (DN_DG e'), by omega, e.1.trans g7, e.2.1.trans g8⟩
theorem go_bad (G : GO T L S F1 F2 h0 g0 p0 h g p b) {h' g' : xa_H} (e : Fx DC h h') (e' : Fx DN g g') (F : PF h' g') : BD S h0 g0 h' g' := by
  obtain ⟨g1, g2, g3, g4, g5, g6, g7, g8⟩ := G
  exact ⟨F, ct_mv (cd_m g2) e', g4.tr (DC_GX e), g5.tr (DN_DG e'), e.1.trans g7, e.2.1.trans g8⟩
theorem go_word (G : GO T L S F1 F2 h0 g0 p0 h g p b) {A w : Nat} (hm : (A, w) ∈ wtab) (hw : w < 29) : ∃ v h' g', f_X6_needWord 2 (w : Int) h = some (v, h') ∧ f_X12_asks 173 (A : Int) g = some g' ∧ ((v = 1 ∧ GO T L S F1 F2 h0 g0 p0 h' g' (tk_n T L p b).1 (tk_n T L p b).2) ∨ (v = 0 ∧ BD S h0 g0 h' g')) := by
  obtain ⟨v, h', g', e1, e2, d1, d2, o⟩ := k_word G.1 hm hw
  refine ⟨v, h', g', e1, e2, ?_⟩
  rcases o with ⟨o1, o2⟩ | ⟨o1, o2⟩
  · exact Or.inl ⟨o1, go_lex G d1 d2 o2 n_ge⟩
  · exact Or.inr ⟨o1, go_bad G d1 d2 o2⟩
theorem go_num (G : GO T L S F1 F2 h0 g0 p0 h g p b) {most : Int} (hm : 0 ≤ most) : ∃ v w h' g', f_X6_needNumber 2 most h = some (v, h') ∧ f_X12_number 173 0 most g = some (w, g') ∧ ((v = w ∧ v ≠ -1 ∧ 0 ≤ v ∧ v ≤ most ∧ GO T L S F1 F2 h0 g0 p0 h' g' (tk_n T L p b).1 (tk_n T L p b).2 ∧ Fx DC h h' ∧ Fx DN g g') ∨ (v = -1 ∧ BD S h0 g0 h' g')) := by
  obtain ⟨v, w, h', g', e1, e2, d1, d2, o⟩ := k_num G.1 hm
  refine ⟨v, w, h', g', e1, e2, ?_⟩
  rcases o with ⟨o1, o2, o3, o4, o5⟩ | ⟨o1, o2⟩
  · exact Or.inl ⟨o1, o2, o3, o4, go_lex G d1 d2 o5 n_ge, d1, d2⟩
  · exact Or.inr ⟨o1, go_bad G d1 d2 o2⟩
def gKn (T : Nat → Int) (L S F1 F2 : Nat) (h0 g0 : xa_H) (p0 : Nat) (h g : xa_H) (p : Nat) (b : Bool) (fc fr : Option (Int × xa_H)) (n : Int) : Prop := ∃ v w h' g', fc = some (v, h') ∧ fr = some (w, g') ∧ ((∃ i : Nat, v = (i : Int) ∧ w = (i : Int) ∧ (i : Int) < n ∧ GO T L S F1 F2 h0 g0 p0 h' g' (tk_n T L p b).1 (tk_n T L p b).2 ∧ Fx DC h h' ∧ Fx DN g g' ∧ xm h' 2 8 = (p : Int) ∧ xm g' 173 33 = (p : Int)) ∨ (v = -1 ∧ w = 0 ∧ BD S h0 g0 h' g'))
theorem go_kn (G : GO T L S F1 F2 h0 g0 p0 h g p b) {fc fr : Option (Int × xa_H)} {n : Int} (K : kRes T L h g p b fc fr n) : gKn T L S F1 F2 h0 g0 p0 h g p b fc fr n := by
  obtain ⟨v, w, h', g', e1, e2, d1, d2, o⟩ := K
  refine ⟨v, w, h', g', e1, e2, ?_⟩
  rcases o with ⟨o1, o2, o3, o4, o5, o6⟩ | ⟨o1, o2, o3⟩
  · exact Or.inl ⟨v.toNat, by omega, by omega, by omega, go_lex G d1 d2 o4 n_ge, d1, d2, o5, o6⟩
  · exact Or.inr ⟨o1, o2, go_bad G d1 d2 o3⟩
theorem go_held (G : GO T L S F1 F2 h0 g0 p0 h g p b) : gKn T L S F1 F2 h0 g0 p0 h g p b (f_X1_knownHeld 6 h) (f_X12_oneOf 173 0 g) (xm g 199 0) := go_kn G (k_held G.1 G.2.1)
theorem go_holder (G : GO T L S F1 F2 h0 g0 p0 h g p b) : gKn T L S F1 F2 h0 g0 p0 h g p b (f_X1_knownHolder 6 h) (f_X12_oneOf 173 1 g) (xm g 199 1) := go_kn G (k_holder G.1 G.2.1)
theorem go_new (G : GO T L S F1 F2 h0 g0 p0 h g p b) : ∃ v w h' g', f_X1_newName 6 h = some (v, h') ∧ f_X12_newName 173 g = some (w, g') ∧ ((v ≠ -1 ∧ nmr v w ∧ GO T L S F1 F2 h0 g0 p0 h' g' (tk_n T L p b).1 (tk_n T L p b).2 ∧ Fx DC h h' ∧ Fx DN g g') ∨ (v = -1 ∧ BD S h0 g0 h' g')) := by
  obtain ⟨v, w, h', g', e1, e2, d1, d2, o⟩ := k_new G.1 G.2.1
  refine ⟨v, w, h', g', e1, e2, ?_⟩
  rcases o with ⟨o1, o2, o3⟩ | ⟨o1, o2⟩
  · exact Or.inl ⟨o1, o2, go_lex G d1 d2 o3 n_ge, d1, d2⟩
  · exact Or.inr ⟨o1, go_bad G d1 d2 o2⟩
/-- a name that can't be -/
theorem go_3 (G : GO T L S F1 F2 h0 g0 p0 h g p b) {z : Nat} (h8 : xm h 2 8 = (z : Int)) (h33 : xm g 173 33 = (z : Int)) : ∃ h' g', f_X1_badName 6 h = some (0, h') ∧ f_X12_fail 173 3 (xm g 173 33) g = some g' ∧ BD S h0 g0 h' g' ∧ Bx g' (3, z) := by
  obtain ⟨h1, a1, a2, a3⟩ := t_badName G.1.1.1 h8
  obtain ⟨g1, c1, c2, c3⟩ := bx_3 G.1.2 h33
  exact ⟨h1, g1, a1, c1, go_bad G a3 c3 ⟨(3, z), a2, c2⟩, c2⟩
theorem tr_bad (B : BD S h0 g0 h g) : TR T L S h0 g0 p0 (some (0, h)) (some g) F1 F2 := by
  obtain ⟨e, c, g1, g2, g3, g4⟩ := B
  exact ⟨0, h, g, rfl, rfl, g1, g2, Or.inr ⟨rfl, e, g3, g4⟩⟩
theorem tr_fin (G : GO T L S F1 F2 h0 g0 p0 h g p b) {h' g' : xa_H} (C : CD h' g' S) (xnn : xn h' = xn h) (xzz : xz h' = xz h) (xkk : xk h' = xk h) (e : ∀ a k, (a < S ∨ S + 13 ≤ a) ∨ (a = S ∧ 11 ≤ k) → xm h' a k = xm h a k) (E : Fx DG g g') (e' : ∀ a k, (a < 199 ∨ 208 < a) → xm g' a k = xm g a k) : TR T L S h0 g0 p0 (some (1, h')) (some g') F1 F2 := by
  obtain ⟨g1, g2, g3, g4, g5, g6, g7, g8⟩ := G
  have s2 := g2.1.1
  have Sh : SH h' := (g1.1.1.1).mv (by omega) (fun a _ => by rw [xkk]) (fun a k hf => e a k (by
    have : ∀ t ∈ pl0, t.1 < 249 := by decide +kernel
    obtain ⟨t, ht, h2⟩ := List.any_eq_true.mp hf
    simp at h2
    have := this t ht
    omega))
  refine ⟨1, h', g', rfl, rfl, g4.tr ⟨⟨by omega, by omega⟩, fun a _ => by rw [xkk], fun a k _ _ _ _ q => e a k (Or.inl q)⟩, g5.tr E, Or.inl ⟨rfl, p, b, pq_set g1 Sh (E.sh DG_nf g1.2.1) (fun a k ha => e a k (by omega)) (fun a k ha => e' a k (by omega)), C, cf_set g3 s2 (cd_S g2) xnn xkk e e', g6, by omega, by omega⟩⟩
/-! ===== fog ===== -/
theorem t_fog (C0 : Cx T L h0 p0 b) (R0 : Rx T L g0 (tk_n T L p0 b).1 (tk_n T L p0 b).2) (C : CD h0 g0 S) (CFh : CF h0 g0 S F1 F2 p0) : TR T L S h0 g0 p0 (f_X1_readFog 6 h0) ((f_X12_number 173 0 100 g0).bind fun r29 => (xas r29.2 0 208 0 r29.1).bind fun h30 => some h30) F1 F2 := by
  have Sh := C0.1.1
  obtain ⟨h1, e1, C1, D1⟩ := s_step C0
  have G1 : GO T L S F1 F2 h0 g0 p0 h1 g0 (tk_n T L p0 b).1 (tk_n T L p0 b).2 := ⟨⟨C1, R0⟩, cd_lex C D1 (Fx.refl _ _), cf_lex CFh (cd_S C) C.1.1 n_ge D1 (Fx.refl _ _), DC_GX D1, Fx.refl _ _, n_ge, D1.1, D1.2.1⟩
  obtain ⟨v, w, h2, g2, e2, e2', o⟩ := go_num G1 (most := 100) (by decide)
  unfold f_X1_readFog
  rw [r60 Sh, x62 Sh, e1, bbind, r60 C1.1.1, x62 C1.1.1, e2, bbind, e2', bbind]
  rcases o with ⟨rfl, o2, o3, o4, G2, -⟩ | ⟨rfl, B⟩
  · have Sh2 := G2.1.1.1.1
    have Sg2 := G2.1.2.1
    have K := G2.2.1
    have s2 := K.1.1
    have i1 : xia g2 0 208 0 = true := ia_208 Sg2 (by omega) (by omega)
    rw [if_neg o2, g6k Sh2, cd_6 K]
    rw [show (xas g2 0 208 0 v) = some (xset g2 208 0 v) from xas_eq (a := 208) (i := 0) i1, bbind, show xpf h2 0 4 (S : Int) v = some (xset h2 S 4 v) from xpf_eq (CS.ok (cd_S K)), bbind]
    refine tr_fin G2 ?_ rfl rfl rfl (fun a k q => by rw [xm_xset, if_neg (by omega)]) ((Fx.refl DG g2).set rfl) (fun a k q => by rw [xm_xset, if_neg (by omega)])
    have m : ∀ a k, ¬(a = S ∧ k = 4) → xm (xset h2 S 4 v) a k = xm h2 a k := fun a k q => by rw [xm_xset, if_neg q]
    have m1 : xm (xset h2 S 4 v) S 4 = v := by rw [xm_xset, if_pos ⟨rfl, rfl⟩]
    have k : ∀ a k, ¬(a = 208 ∧ k = 0) → xm (xset g2 208 0 v) a k = xm g2 a k := fun a k q => by rw [xm_xset, if_neg q]
    have k1 : xm (xset g2 208 0 v) 208 0 = v := by rw [xm_xset, if_pos ⟨rfl, rfl⟩]
    have KS := cd_S K
    obtain ⟨⟨a1, a2, a3⟩, a4, a5, a6, a7, a8, a9, a10, a11, K2⟩ := K
    refine ⟨⟨a1, KS.mv (Nat.le_refl _) (fun _ _ => rfl) (fun _ _ _ _ => rfl) |> fun _ => ?_, by rw [m _ _ (by omega)]; exact a3⟩, ?_⟩
    · obtain ⟨s1, s2, s3, s4, s5, s6⟩ := KS
      exact ⟨s1, s2, s3, fun j hj => by rw [m _ _ (by omega)]; exact s4 j hj, by rw [m _ _ (by omega)]; exact s5, fun j hj => by rw [m _ _ (by omega)]; exact s6 j hj⟩
    · rw [k1, m1, k _ _ (by omega), k _ _ (by omega), k _ _ (by omega), m _ _ (by omega), m _ _ (by omega), m _ _ (by omega)]
      refine ⟨a4, a5, a6, ⟨o3, o4⟩, a8, a9, a10, rfl, ?_⟩
      simp (disch := omega) only [k, m]
      exact K2
  · obtain ⟨⟨e, E1, B1⟩, c, x1, x2, x3, x4⟩ := B
    have i1 : xia g2 0 208 0 = true := ia_208 B1.1 (by omega) (by omega)
    rw [if_pos rfl, show (xas g2 0 208 0 w) = some (xset g2 208 0 w) from xas_eq (a := 208) (i := 0) i1, bbind]
    refine tr_bad ⟨⟨e, E1, B1.1.set (fixd_of (by decide +kernel)), ?_, ?_, B1.2.2.2⟩, c, x1, x2.set rfl, x3, x4⟩
    · rw [xm_xset, if_neg (by omega)]; exact B1.2.1
    · rw [xm_xset, if_neg (by omega)]; exact B1.2.2.1
end
