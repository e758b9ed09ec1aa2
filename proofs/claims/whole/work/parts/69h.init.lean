/-! ===== a new sorter ===== -/
theorem ev_bl {h0 H : xa_H} {m Z : Nat} {K : Nat → Nat × Nat} {V : Nat → Nat → Int} {s : Nat} {fe : Nat → Int} (E : EV h0 s fe) (B : Bl h0 H m Z K V) : EV H s fe := by
  have c := E.1.2.1
  exact ⟨E.1.mv (by rw [B.1]; omega) (fun a ha => B.2.2.1 a ha) (fun a k y1 y2 => B.2.2.2.1 a k (by omega)), fun i hi => by rw [B.2.2.2.1 _ _ (by omega)]; exact E.2 i hi⟩
theorem t_fact {H : xa_H} {T n : Nat} (ok : xok H 8 (T : Int) = true) (h0 : xm H T 0 = (n : Int)) (n6 : n ≤ 6) (c1 c2 : Int) : xit (fun s => f_X8_init_L49 (T : Int) c1 c2 H s.1 s.2) xFU (1, 2) = some ((fct n : Nat) : Int) := by
  obtain ⟨N, hN⟩ : ∃ N, N = n - 1 := ⟨_, rfl⟩
  obtain ⟨st, est⟩ : ∃ st : Nat → Int × Int, ∀ i, st i = (((fct (i + 1) : Nat) : Int), ((i + 2 : Nat) : Int)) := ⟨_, fun _ => rfl⟩
  have g : ∀ (x y : Int), f_X8_init_L49 (T : Int) c1 c2 H x y = if (n : Int) < y then some (Sum.inr x) else some (Sum.inl (w32 (x * y), w32 (y + 1))) := fun x y => by
    unfold f_X8_init_L49
    exact bnd (xgf_eq ok h0)
  have it := xit_seq (f := fun s : Int × Int => f_X8_init_L49 (T : Int) c1 c2 H s.1 s.2) st N ((fct n : Nat) : Int) (fun i hi => ?_) ?_ (by omega)
  · rw [est] at it
    exact it
  · rw [est, est]
    show f_X8_init_L49 (T : Int) c1 c2 H ((fct (i + 1) : Nat) : Int) ((i + 2 : Nat) : Int) = _
    have f7 := fct_720 (n := i + 1 + 1) (by omega)
    rw [g, if_neg (by omega), ← Int.natCast_mul, show fct (i + 1) * (i + 2) = fct (i + 1 + 1) from rfl, w32_id (by omega) (by omega), w32_id (by omega) (by omega)]
    rfl
  · rw [est]
    show f_X8_init_L49 (T : Int) c1 c2 H ((fct (N + 1) : Nat) : Int) ((N + 2 : Nat) : Int) = _
    rw [g, if_pos (by omega)]
    have : fct (N + 1) = fct n := by
      by_cases y : n = 0
      · rw [hN, y]; rfl
      · rw [show N + 1 = n by omega]
    rw [this]
theorem t_id {H : xa_H} {T n : Nat} (R : SX H T n) : xit (fun s => f_X8_init_L100 (T : Int) s.1 s.2) xFU (0, H) = some (mkA H (T + 2) (fun i => ((i : Nat) : Int)) n) := by
  have n6 := sx_n R
  obtain ⟨hp, ehp⟩ : ∃ hp : Nat → xa_H, ∀ i, hp i = mkA H (T + 2) (fun i => ((i : Nat) : Int)) i := ⟨_, fun _ => rfl⟩
  have Fi : ∀ i, FO T H (hp i) := fun i => by
    obtain ⟨a1, a2, a3⟩ := mkA_n H (T + 2) (fun i => ((i : Nat) : Int)) i
    rw [ehp]
    exact ⟨a1, a2, a3, fun a k y => by rw [mkA_m, if_neg (by omega)]⟩
  obtain ⟨st, est⟩ : ∃ st : Nat → Int × xa_H, ∀ i, st i = ((i : Int), hp i) := ⟨_, fun _ => rfl⟩
  have it := xit_seq (f := fun s : Int × xa_H => f_X8_init_L100 (T : Int) s.1 s.2) st n (hp n) (fun i hi => ?_) ?_ (by omega)
  · rw [est, show hp 0 = H by rw [ehp]; rfl, ehp] at it
    exact it
  · rw [est, est]
    show f_X8_init_L100 (T : Int) (i : Int) (hp i) = _
    have Rq := R.fo (Fi i)
    unfold f_X8_init_L100
    rw [gSo Rq, sx_0 Rq, if_pos (by omega), gSo Rq, sx_7 Rq]
    refine (bnd (xas_eq (sx_i2 Rq (by omega)))).trans ?_
    rw [wS (by omega), ehp, ehp]
    rfl
  · rw [est]
    show f_X8_init_L100 (T : Int) (n : Int) (hp n) = _
    have Rq := R.fo (Fi n)
    unfold f_X8_init_L100
    rw [gSo Rq, sx_0 Rq, if_neg (by omega)]
theorem t_init {H : xa_H} {s n mo : Nat} {fe : Nat → Int} (h249 : 249 ≤ xn H) (E : EV H s fe) (en : xm H s 2 = (n : Int)) (n6 : n ≤ 6) (sy : ∀ i j, i < n → j < n → fd fe i j = fd fe j i) :
    ∃ H', f_X8_init ((xn H : Nat) : Int) (s : Int) (mo : Int) (xno H 8 8) = some H' ∧ SW H' (xn H) n fe mo ∧ xn H' = xn H + 5 ∧ xz H' = xz H + (179 + 2 * fct n) ∧ (∀ a, a < xn H → xk H' a = xk H a) ∧ ∀ a k, a < xn H → xm H' a k = xm H a k := by
  have f7 := fct_720 n6
  have fp := fct_p n
  have cs := E.1.2.1
  have b0 := bl_new (bl_0 H) 18 8 (xd0 8)
  have ok : xok (xnew H 18 8 (xd0 8)) 8 ((xn H : Nat) : Int) = true := bl_ok b0 (ci := 8) (j := 0) (N := 8) (by decide) rfl
  rw [show xno H 8 8 = xnew H 18 8 (xd0 8) from rfl]
  unfold f_X8_init
  rw [exrc, if_pos ok]
  obtain ⟨A0, e0⟩ : ∃ z, z = xnew H 18 8 (xd0 8) := ⟨_, rfl⟩
  rw [← e0] at b0 ⊢
  refine exs (bl_xna (H := A0) (v := 165) (by omega)) ?_
  obtain ⟨A1, e1⟩ : ∃ z, z = xnew A0 0 165 (fun _ => 0) := ⟨_, rfl⟩
  have b1 := bl_new b0 0 165 (fun _ => 0)
  rw [show ((165 : Int)).toNat = 165 from rfl, ← e1, b0.1]
  rw [← e1] at b1
  refine exs (bl_xpf b1 (ci := 8) (j := 0) (k := 1) (N := 8) (v := ((xn H + (0 + 1) : Nat) : Int)) (by decide) rfl) ?_
  obtain ⟨A2, e2⟩ : ∃ z, z = xset A1 (xn H + 0) 1 ((xn H + (0 + 1) : Nat) : Int) := ⟨_, rfl⟩
  have b2 := bl_set b1 0 1 ((xn H + (0 + 1) : Nat) : Int)
  rw [← e2] at b2 ⊢
  refine exs (bl_xpf b2 (ci := 8) (j := 0) (k := 2) (N := 8) (v := 0) (by decide) rfl) ?_
  obtain ⟨A3, e3⟩ : ∃ z, z = xset A2 (xn H + 0) 2 0 := ⟨_, rfl⟩
  have b3 := bl_set b2 0 2 0
  rw [← e3] at b3 ⊢
  refine exs (bl_xpf b3 (ci := 8) (j := 0) (k := 5) (N := 8) (v := 0) (by decide) rfl) ?_
  obtain ⟨A4, e4⟩ : ∃ z, z = xset A3 (xn H + 0) 5 0 := ⟨_, rfl⟩
  have b4 := bl_set b3 0 5 0
  rw [← e4] at b4 ⊢
  refine exs (bl_xpf b4 (ci := 8) (j := 0) (k := 6) (N := 8) (v := 0) (by decide) rfl) ?_
  obtain ⟨A5, e5⟩ : ∃ z, z = xset A4 (xn H + 0) 6 0 := ⟨_, rfl⟩
  have b5 := bl_set b4 0 6 0
  rw [← e5] at b5 ⊢
  refine exs (bl_xna (H := A5) (v := 6) (by omega)) ?_
  obtain ⟨A6, e6⟩ : ∃ z, z = xnew A5 0 6 (fun _ => 0) := ⟨_, rfl⟩
  have b6 := bl_new b5 0 6 (fun _ => 0)
  rw [show ((6 : Int)).toNat = 6 from rfl, ← e6, b5.1]
  rw [← e6] at b6
  refine exs (bl_xpf b6 (ci := 8) (j := 0) (k := 7) (N := 8) (v := ((xn H + (0 + 1 + 1) : Nat) : Int)) (by decide) rfl) ?_
  obtain ⟨A7, e7⟩ : ∃ z, z = xset A6 (xn H + 0) 7 ((xn H + (0 + 1 + 1) : Nat) : Int) := ⟨_, rfl⟩
  have b7 := bl_set b6 0 7 ((xn H + (0 + 1 + 1) : Nat) : Int)
  rw [← e7] at b7 ⊢
  have E7 := ev_bl E b7
  have n7 : xm A7 s 2 = (n : Int) := (b7.2.2.2.1 s 2 (by omega)).trans en
  refine exs ((gCS E7.1 2 _).trans (by rw [n7])) ?_
  refine exs (bl_xpf b7 (ci := 8) (j := 0) (k := 0) (N := 8) (v := (n : Int)) (by decide) rfl) ?_
  obtain ⟨A8, e8⟩ : ∃ z, z = xset A7 (xn H + 0) 0 (n : Int) := ⟨_, rfl⟩
  have b8 := bl_set b7 0 0 (n : Int)
  rw [← e8] at b8 ⊢
  have o8 : xok A8 8 ((xn H : Nat) : Int) = true := bl_ok b8 (ci := 8) (j := 0) (N := 8) (by decide) rfl
  have v8 : xm A8 (xn H) 0 = (n : Int) := b8.2.2.2.2.2 0 0 (by decide)
  refine exs (bnd (t_fact o8 v8 n6 _ _)) ?_
  refine exs (bl_xna (H := A8) (v := ((fct n : Nat) : Int)) (by omega)) ?_
  rw [Int.toNat_natCast]
  obtain ⟨A9, e9⟩ : ∃ z, z = xnew A8 0 (fct n) (fun _ => 0) := ⟨_, rfl⟩
  have b9 := bl_new b8 0 (fct n) (fun _ => 0)
  rw [← e9, b8.1]
  rw [← e9] at b9
  refine exs (bl_xpf b9 (ci := 8) (j := 0) (k := 3) (N := 8) (v := ((xn H + (0 + 1 + 1 + 1) : Nat) : Int)) (by decide) rfl) ?_
  obtain ⟨A10, e10⟩ : ∃ z, z = xset A9 (xn H + 0) 3 ((xn H + (0 + 1 + 1 + 1) : Nat) : Int) := ⟨_, rfl⟩
  have b10 := bl_set b9 0 3 ((xn H + (0 + 1 + 1 + 1) : Nat) : Int)
  rw [← e10] at b10 ⊢
  refine exs (bl_xna (H := A10) (v := ((fct n : Nat) : Int)) (by omega)) ?_
  rw [Int.toNat_natCast]
  obtain ⟨A11, e11⟩ : ∃ z, z = xnew A10 0 (fct n) (fun _ => 0) := ⟨_, rfl⟩
  have b11 := bl_new b10 0 (fct n) (fun _ => 0)
  rw [← e11, b10.1]
  rw [← e11] at b11
  refine exs (bl_xpf b11 (ci := 8) (j := 0) (k := 4) (N := 8) (v := ((xn H + (0 + 1 + 1 + 1 + 1) : Nat) : Int)) (by decide) rfl) ?_
  obtain ⟨A12, e12⟩ : ∃ z, z = xset A11 (xn H + 0) 4 ((xn H + (0 + 1 + 1 + 1 + 1) : Nat) : Int) := ⟨_, rfl⟩
  have b12 := bl_set b11 0 4 ((xn H + (0 + 1 + 1 + 1 + 1) : Nat) : Int)
  rw [← e12] at b12 ⊢
  refine exs (bl_xgf b12 (ci := 8) (j := 0) (k := 3) (N := 8) (v := ((xn H + (0 + 1 + 1 + 1) : Nat) : Int)) (by decide) rfl rfl) ?_
  obtain ⟨A13, g13, b13⟩ := bl_fill b12 (j := 3) (n := fct n) (by decide) rfl (by omega) (-1)
  refine exs (bnd g13) ?_
  obtain ⟨T, eT⟩ : ∃ T, T = xn H := ⟨_, rfl⟩
  have R13 : SX A13 T n := ⟨by omega, by rw [b13.1]; omega, by rw [eT]; exact b13.2.2.2.2.1 0 (by decide), by rw [eT]; exact b13.2.2.2.2.1 1 (by decide), by rw [eT]; exact b13.2.2.2.2.1 2 (by decide), by rw [eT]; exact b13.2.2.2.2.1 3 (by decide), by rw [eT]; exact b13.2.2.2.2.1 4 (by decide), by rw [eT]; exact b13.2.2.2.2.2 0 1 (by decide), by rw [eT]; exact b13.2.2.2.2.2 0 7 (by decide), by rw [eT]; exact b13.2.2.2.2.2 0 3 (by decide), by rw [eT]; exact b13.2.2.2.2.2 0 4 (by decide), by rw [eT]; exact b13.2.2.2.2.2 0 0 (by decide), n6⟩
  have z2 : xm A13 T 2 = 0 := by rw [eT]; exact b13.2.2.2.2.2 0 2 (by decide)
  have z5 : xm A13 T 5 = 0 := by rw [eT]; exact b13.2.2.2.2.2 0 5 (by decide)
  have z6 : xm A13 T 6 = 0 := by rw [eT]; exact b13.2.2.2.2.2 0 6 (by decide)
  have z3 : ∀ k, k < fct n → xm A13 (T + 3) k = -1 := fun k hk => by rw [eT]; exact (b13.2.2.2.2.2 3 k (by decide)).trans (if_pos ⟨rfl, hk⟩)
  have z4 : ∀ k, xm A13 (T + 4) k = 0 := fun k => by rw [eT]; exact b13.2.2.2.2.2 4 k (by decide)
  have E13 := ev_bl E b13
  rw [← eT]
  have hT : s + 13 ≤ T := by omega
  obtain ⟨G, t, m1, m2, RG, M⟩ := t_moves0 (mo := mo) hT R13 E13 sy z2
  refine exs ((xSo R13 _ _).trans (bnd m1)) ?_
  obtain ⟨G2, eG2⟩ : ∃ z, z = mkA G (T + 2) (fun i => ((i : Nat) : Int)) n := ⟨_, rfl⟩
  have idl := t_id RG
  rw [← eG2] at idl
  refine exs (bnd idl) ?_
  have F2 : FO T G G2 := by
    obtain ⟨a1, a2, a3⟩ := mkA_n G (T + 2) (fun i => ((i : Nat) : Int)) n
    rw [eG2]
    exact ⟨a1, a2, a3, fun a k y => by rw [mkA_m, if_neg (by omega)]⟩
  have R2 := RG.fo F2
  obtain ⟨e, ee⟩ : ∃ e, e = enc (fun i => i) n := ⟨_, rfl⟩
  have V : vperm n e := by rw [ee]; exact vperm_enc n6 (fun i hi => hi) (fun i j _ _ h => h)
  have O2 : OD G2 T n e := fun i hi => by
    rw [ee, dg_enc (fun j hj => by omega) hi, eG2, mkA_m, if_pos ⟨rfl, hi⟩]
  have mm : ∀ a k, a ≠ T + 1 → a ≠ T + 2 → ¬ (a = T ∧ k = 2) → xm G2 a k = xm A13 a k := fun a k y1 y2 y3 => by rw [F2.2.2.2 a k y2, m2.2.2.2 a k y1 y3]
  have rb := rkn_bd V
  have go := t_reachNew (v := 0) (tl := 0) R2 O2 V (by rw [mm _ _ (by omega) (by omega) (by omega)]; exact z3 _ rb) (by rw [mm _ _ (by omega) (by omega) (by omega)]; exact z6) fp (by rw [mm _ _ (by omega) (by omega) (by omega)]; exact z4 _)
  obtain ⟨G3, eG3⟩ : ∃ z, z = xset (xset (xset G2 (T + 3) (rkn n e n) 0) (T + 4) 0 ((pk3 (fun t => dg t e) n : Nat) : Int)) T 6 ((0 + 1 : Nat) : Int) := ⟨_, rfl⟩
  rw [← eG3] at go
  have F3 : FT T G2 G3 := by
    rw [eG3]
    exact (((FT.refl T G2).set (by omega)).set (by omega)).set (by omega)
  have m3 : ∀ k, k < fct n → xm G3 (T + 3) k = if k = rkn n e n then 0 else -1 := fun k hk => by
    rw [eG3, xm_xset, if_neg (by omega), xm_xset, if_neg (by omega), xm_xset]
    by_cases z : k = rkn n e n
    · rw [if_pos ⟨rfl, z⟩, if_pos z]
    · rw [if_neg (fun w => z w.2), if_neg z, mm _ _ (by omega) (by omega) (by omega)]
      exact z3 k hk
  have m4 : ∀ k, xm G3 (T + 4) k = if k = 0 then ((pk3 (fun t => dg t e) n : Nat) : Int) else 0 := fun k => by
    rw [eG3, xm_xset, if_neg (by omega), xm_xset]
    by_cases z : k = 0
    · rw [if_pos ⟨rfl, z⟩, if_pos z]
    · rw [if_neg (fun w => z w.2), if_neg z, xm_xset, if_neg (by omega), mm _ _ (by omega) (by omega) (by omega)]
      exact z4 k
  have fr : ∀ a k, a < T → xm G3 a k = xm H a k := fun a k ha => by
    rw [F3.2.2.2 a k (by omega) (by omega), mm a k (by omega) (by omega) (by omega)]
    exact b13.2.2.2.1 a k (by omega)
  refine ⟨G3, ?_, ⟨R2.ft F3, ⟨t, (M.ft F2.ft).ft F3⟩, fun _ => e, fun _ => 0, 0, 1, by omega, fp, ⟨?_, ?_, fun i hi => ⟨V, ?_, ?_⟩, fun i h1 h2 => ?_, fun c W => ?_⟩, ?_⟩, ?_, ?_, fun a ha => ?_, fun a k ha => fr a k (by omega)⟩
  · exact ((xSo R2 _ _).trans (bnd go)).trans rfl
  · rw [eG3, xm_xset, if_neg (by omega), xm_xset, if_neg (by omega), xm_xset, if_neg (by omega), mm _ _ (by omega) (by omega) (by omega)]; exact z5
  · rw [eG3, xm_xset, if_pos ⟨rfl, rfl⟩]
  · rw [m4, if_pos (by omega)]
  · rw [m3 _ rb, if_pos rfl]; rfl
  · rw [m4, if_neg (by omega)]
  · by_cases z : c = e
    · exact Or.inr ⟨0, by omega, z.symm⟩
    · rw [m3 _ (rkn_bd W), if_neg (fun w => z (rkn_inj W V w))]
      exact Or.inl rfl
  · refine bf_init (fun c => ?_)
    rw [ee]
    exact Iff.rfl
  · rw [F3.1, F2.1, m2.1, b13.1, eT]
  · rw [F3.2.1, F2.2.1, m2.2.1, b13.2.1]
    omega
  · rw [F3.2.2.1, F2.2.2.1, m2.2.2.1]
    exact b13.2.2.1 a (by omega)
