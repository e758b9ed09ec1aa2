/-! ===== the class's sorter goes on from an order ===== -/
theorem trp_trp {a b t : Nat} : trp a b (trp a b t) = t := by
  unfold trp
  by_cases y : t = a
  · rw [if_pos y]
    by_cases z : b = a
    · rw [if_pos z, z, y]
    · rw [if_neg z, if_pos rfl, y]
  · rw [if_neg y]
    by_cases z : t = b
    · rw [if_pos z, if_pos rfl, z]
    · rw [if_neg z, if_neg y, if_neg z]
theorem swp_swp {n a b c : Nat} (ha : a < n) (hb : b < n) (hc : c < 6 ^ n) : swp n a b (swp n a b c) = c :=
  code_ext (swp_lt _ _ _ _) hc (fun t ht => by rw [dg_swp ht, dg_swp (trp_lt ha hb ht), trp_trp])
theorem mvt_vperm {n mo a b c : Nat} {fe : Nat → Int} {k : Int} (ok : okm n fe mo a b k) (V : vperm n c) : vperm n (mvt n a b k c) := by
  obtain ⟨h1, h2, h3, h4, h5⟩ := ok
  unfold mvt
  by_cases y : k = -1
  · rw [if_pos y]; exact swp_vperm h1 h2 V
  · rw [if_neg y]
    rcases h5 with h5 | ⟨g1, g2, g3, g4, g5, g6, g7⟩
    · exact absurd h5 y
    · exact swp_vperm h2 g3 (swp_vperm h1 h2 V)
theorem rch_S {n mo : Nat} {fe : Nat → Int} (k c : Nat) (h : rch n fe mo (k + 1) c) : rch n fe mo k c ∨ ∃ c0, rch n fe mo k c0 ∧ nbr n fe mo c0 c := h
theorem rch_S' {n mo : Nat} {fe : Nat → Int} (k c c0 : Nat) (h : rch n fe mo k c0) (hn : nbr n fe mo c0 c) : rch n fe mo (k + 1) c := Or.inr ⟨c0, h, hn⟩
theorem t_move {fe : Nat → Int} {mo : Nat} {H : xa_H} {T n t c0 hd tl u a b : Nat} {k : Int} {Q L : Nat → Nat} (R : SX H T n) (O : OD H T n c0) (V0 : vperm n c0) (X : SS H T n Q L hd tl) (B : BF (rch n fe mo) (nbr n fe mo) Q L hd tl) (hl : hd < tl) (ht : tl ≤ fct n) (q0 : Q hd = c0) (hu : u < t) (t55 : t ≤ 55) (e2 : xm H T 2 = ((3 * t : Nat) : Int))
    (ea : xm H (T + 1) (3 * u) = (a : Int)) (eb : xm H (T + 1) (3 * u + 1) = (b : Int)) (ek : xm H (T + 1) (3 * u + 2) = k) (ok : okm n fe mo a b k) :
    ∃ H' Q' L' tl', f_X8_reachFrom_L44 (T : Int) ((L hd + 1 : Nat) : Int) ((3 * u : Nat) : Int) H = some (Sum.inl (((3 * (u + 1) : Nat) : Int), H')) ∧ FT T H H' ∧ OD H' T n c0 ∧ SS H' T n Q' L' hd tl' ∧ BF (rch n fe mo) (nbr n fe mo) Q' L' hd tl' ∧ tl ≤ tl' ∧ tl' ≤ fct n ∧ (∀ i, i < tl → Q' i = Q i ∧ L' i = L i) ∧ ∃ j, j < tl' ∧ Q' j = mvt n a b k c0 := by
  have n6 := sx_n R
  have ok' := ok
  obtain ⟨h1, h2, h3, h4, h5⟩ := ok
  have V1 : vperm n (swp n a b c0) := swp_vperm h1 h2 V0
  obtain ⟨H1, eH1⟩ : ∃ z, z = swH H T a b := ⟨_, rfl⟩
  have F1 : FO T H H1 := by rw [eH1]; exact swH_fo H T a b
  have R1 := R.fo F1
  have O1 : OD H1 T n (swp n a b c0) := by rw [eH1]; exact swH_od O h1 h2 (by omega)
  have X1 := X.fo F1
  have w2 : w32 (((3 * u : Nat) : Int) + 2) = ((3 * u + 2 : Nat) : Int) := by rw [w32_id (by omega) (by omega)]; omega
  have w1 : w32 (((3 * u : Nat) : Int) + 1) = ((3 * u + 1 : Nat) : Int) := by rw [w32_id (by omega) (by omega)]; omega
  have w3 : w32 (((3 * u : Nat) : Int) + 3) = ((3 * (u + 1) : Nat) : Int) := by rw [w32_id (by omega) (by omega)]; omega
  -- back again by the first exchange
  have J125 : ∀ G : xa_H, SX G T n → (∀ j, xm G (T + 1) j = xm H (T + 1) j) → f_X8_reachFrom_J125L44 (T : Int) ((L hd + 1 : Nat) : Int) ((3 * u : Nat) : Int) G = some (Sum.inl (((3 * (u + 1) : Nat) : Int), swH G T a b)) := by
    intro G RG eG
    unfold f_X8_reachFrom_J125L44
    rw [gSo RG, sx_1 RG]
    refine (bnd (xal_eq (v := (a : Int)) (sx_i1 RG (by omega)) ((eG _).trans ea))).trans ?_
    rw [gSo RG, sx_1 RG, w1]
    refine (bnd (xal_eq (v := (b : Int)) (sx_i1 RG (by omega)) ((eG _).trans eb))).trans ?_
    rw [xSo RG, t_swap RG h1 h2, bbind, w3]
  have hd1 : ∀ E : xa_H → Option ((Int × xa_H) ⊕ xa_H), f_X8_reachFrom_L44 (T : Int) ((L hd + 1 : Nat) : Int) ((3 * u : Nat) : Int) H = if k = -1 then f_X8_reachFrom_J100L44 (T : Int) ((L hd + 1 : Nat) : Int) ((3 * u : Nat) : Int) k H1 else (xgf H1 8 1 (T : Int)).bind fun x29 => (xal H1 0 x29 ((3 * u + 1 : Nat) : Int)).bind fun x30 => (xrc H1 8 (T : Int) (f_X8_swap (T : Int) x30 k H1)).bind fun r31 => f_X8_reachFrom_J100L44 (T : Int) ((L hd + 1 : Nat) : Int) ((3 * u : Nat) : Int) k r31 := by
    intro E
    unfold f_X8_reachFrom_L44
    rw [gSo R, e2, if_pos (by omega), gSo R, sx_1 R, w2]
    refine (bnd (xal_eq (v := k) (sx_i1 R (by omega)) ek)).trans ?_
    rw [gSo R, sx_1 R]
    refine (bnd (xal_eq (v := (a : Int)) (sx_i1 R (by omega)) ea)).trans ?_
    rw [gSo R, sx_1 R, w1]
    refine (bnd (xal_eq (v := (b : Int)) (sx_i1 R (by omega)) eb)).trans ?_
    rw [xSo R, t_swap R h1 h2, bbind, ← eH1]
  rw [hd1 (fun _ => none)]
  by_cases y : k = -1
  · subst y
    have nb : nbr n fe mo (Q hd) (swp n a b c0) := ⟨a, b, -1, ok', by rw [q0]; unfold mvt; rw [if_pos rfl]⟩
    obtain ⟨H2, Q', L', tl', r1, r2, r3, r4, r5, r6, r7, r8, r9⟩ := t_reach R1 O1 V1 X1 B rch_S rch_S' hl ht nb
    have R2 := R1.ft r2
    have O3 := swH_od r3 h1 h2 (show a ≠ b by omega)
    rw [swp_swp h1 h2 V0.1] at O3
    refine ⟨swH H2 T a b, Q', L', tl', ?_, (F1.ft.tr r2).tr (swH_fo H2 T a b).ft, O3, r4.fo (swH_fo H2 T a b), r5, r6, r7, r8, ?_⟩
    · rw [if_pos rfl]
      unfold f_X8_reachFrom_J100L44
      rw [xSo R1, r1, bbind, if_pos rfl]
      exact J125 H2 R2 (fun j => by rw [r2.2.2.2 _ _ (by omega) (by omega), F1.2.2.2 _ _ (by omega)])
    · unfold mvt
      rw [if_pos rfl]
      exact r9
  · rcases h5 with h5 | ⟨g1, g2, g3, g4, g5, g6, g7⟩
    · exact absurd h5 y
    obtain ⟨K, rfl⟩ : ∃ K : Nat, k = (K : Int) := ⟨k.toNat, by omega⟩
    rw [Int.toNat_natCast] at g3 g4 g5 g6 g7
    have V2 : vperm n (swp n b K (swp n a b c0)) := swp_vperm h2 g3 V1
    obtain ⟨H2, eH2⟩ : ∃ z, z = swH H1 T b K := ⟨_, rfl⟩
    have F2 : FO T H1 H2 := by rw [eH2]; exact swH_fo H1 T b K
    have R2 := R1.fo F2
    have O2 : OD H2 T n (swp n b K (swp n a b c0)) := by rw [eH2]; exact swH_od O1 h2 g3 (by omega)
    have X2 := X1.fo F2
    have em : mvt n a b (K : Int) c0 = swp n b K (swp n a b c0) := by
      unfold mvt
      rw [if_neg y, Int.toNat_natCast]
    have nb : nbr n fe mo (Q hd) (swp n b K (swp n a b c0)) := ⟨a, b, (K : Int), ok', by rw [q0, em]⟩
    obtain ⟨H3, Q', L', tl', r1, r2, r3, r4, r5, r6, r7, r8, r9⟩ := t_reach R2 O2 V2 X2 B rch_S rch_S' hl ht nb
    have R3 := R2.ft r2
    obtain ⟨H4, eH4⟩ : ∃ z, z = swH H3 T b K := ⟨_, rfl⟩
    have F4 : FO T H3 H4 := by rw [eH4]; exact swH_fo H3 T b K
    have R4 := R3.fo F4
    have O4 : OD H4 T n (swp n a b c0) := by
      rw [eH4, ← swp_swp h2 g3 V1.1]
      exact swH_od r3 h2 g3 (by omega)
    have O5 := swH_od O4 h1 h2 (show a ≠ b by omega)
    rw [swp_swp h1 h2 V0.1] at O5
    have m3 : ∀ j, xm H3 (T + 1) j = xm H (T + 1) j := fun j => by rw [r2.2.2.2 _ _ (by omega) (by omega), F2.2.2.2 _ _ (by omega), F1.2.2.2 _ _ (by omega)]
    refine ⟨swH H4 T a b, Q', L', tl', ?_, (((F1.tr F2).ft.tr r2).tr F4.ft).tr (swH_fo H4 T a b).ft, O5, (r4.fo F4).fo (swH_fo H4 T a b), r5, r6, r7, r8, ?_⟩
    · rw [if_neg y, gSo R1, sx_1 R1]
      refine (bnd (xal_eq (v := (b : Int)) (sx_i1 R1 (by omega)) (by rw [F1.2.2.2 _ _ (by omega)]; exact eb))).trans ?_
      rw [xSo R1, t_swap R1 h2 g3, bbind, ← eH2]
      unfold f_X8_reachFrom_J100L44
      rw [xSo R2, r1, bbind, if_neg y, gSo R3, sx_1 R3, w1]
      refine (bnd (xal_eq (v := (b : Int)) (sx_i1 R3 (by omega)) ((m3 _).trans eb))).trans ?_
      rw [xSo R3, t_swap R3 h2 g3, bbind, ← eH4]
      exact J125 H4 R4 (fun j => by rw [F4.2.2.2 _ _ (by omega)]; exact m3 j)
    · rw [em]
      exact r9
theorem t_moves {fe : Nat → Int} {mo : Nat} {H0 : xa_H} {T n t c0 hd l0 : Nat} (V0 : vperm n c0) (t55 : t ≤ 55) (e2 : xm H0 T 2 = ((3 * t : Nat) : Int)) (mv : ∀ u, u < t → ∃ a b : Nat, xm H0 (T + 1) (3 * u) = (a : Int) ∧ xm H0 (T + 1) (3 * u + 1) = (b : Int) ∧ okm n fe mo a b (xm H0 (T + 1) (3 * u + 2))) :
    ∀ r u, u + r = t → ∀ (H : xa_H) (Q L : Nat → Nat) (tl : Nat), SX H T n → FT T H0 H → OD H T n c0 → SS H T n Q L hd tl → BF (rch n fe mo) (nbr n fe mo) Q L hd tl → hd < tl → tl ≤ fct n → Q hd = c0 → L hd = l0 → (∀ w, w < u → ∃ j, j < tl ∧ Q j = mvt n (xm H0 (T + 1) (3 * w)).toNat (xm H0 (T + 1) (3 * w + 1)).toNat (xm H0 (T + 1) (3 * w + 2)) c0) → ∀ fu, r < fu →
      ∃ H' Q' L' tl', xit (fun s => f_X8_reachFrom_L44 (T : Int) ((l0 + 1 : Nat) : Int) s.1 s.2) fu (((3 * u : Nat) : Int), H) = some H' ∧ FT T H H' ∧ SS H' T n Q' L' hd tl' ∧ BF (rch n fe mo) (nbr n fe mo) Q' L' hd tl' ∧ tl ≤ tl' ∧ tl' ≤ fct n ∧ Q' hd = c0 ∧ ∀ w, w < t → ∃ j, j < tl' ∧ Q' j = mvt n (xm H0 (T + 1) (3 * w)).toNat (xm H0 (T + 1) (3 * w + 1)).toNat (xm H0 (T + 1) (3 * w + 2)) c0 := by
  intro r
  induction r with
  | zero =>
    intro u hu H Q L tl R F O X B hl ht q0 l0' hw fu hf
    have : u = t := by omega
    subst this
    refine ⟨H, Q, L, tl, xit_end ?_ hf, FT.refl _ _, X, B, Nat.le_refl _, ht, q0, hw⟩
    show f_X8_reachFrom_L44 (T : Int) _ ((3 * u : Nat) : Int) H = _
    unfold f_X8_reachFrom_L44
    rw [gSo R, F.2.2.2 _ _ (by omega) (by omega), e2, if_neg (by omega)]
  | succ r ih =>
    intro u hu H Q L tl R F O X B hl ht q0 l0' hw fu hf
    obtain ⟨fu, rfl⟩ : ∃ z, fu = z + 1 := ⟨fu - 1, by omega⟩
    obtain ⟨a, b, m1, m2, m3⟩ := mv u (by omega)
    have f1 : ∀ j, xm H (T + 1) j = xm H0 (T + 1) j := fun j => F.2.2.2 _ _ (by omega) (by omega)
    obtain ⟨H1, Q1, L1, tl1, s1, s2, s3, s4, s5, s6, s7, s8, s9⟩ := t_move (u := u) R O V0 X B hl ht q0 (by omega) t55 ((F.2.2.2 _ _ (by omega) (by omega)).trans e2) ((f1 _).trans m1) ((f1 _).trans m2) (f1 _) m3
    rw [l0'] at s1
    have hw2 : ∀ w, w < u + 1 → ∃ j, j < tl1 ∧ Q1 j = mvt n (xm H0 (T + 1) (3 * w)).toNat (xm H0 (T + 1) (3 * w + 1)).toNat (xm H0 (T + 1) (3 * w + 2)) c0 := fun w hw' => by
      by_cases y : w = u
      · subst y
        rw [m1, m2, Int.toNat_natCast, Int.toNat_natCast]
        exact s9
      · obtain ⟨j, hj, e⟩ := hw w (by omega)
        exact ⟨j, by omega, (s8 j hj).1.trans e⟩
    obtain ⟨H', Q', L', tl', z1, z2, z3, z4, z5, z6, z7, z8⟩ := ih (u + 1) (by omega) H1 Q1 L1 tl1 (R.ft s2) (F.tr s2) s3 s4 s5 (by omega) s7 ((s8 hd hl).1.trans q0) ((s8 hd hl).2.trans l0') hw2 fu (by omega)
    exact ⟨H', Q', L', tl', (xit_go s1).trans z1, s2.tr z2, z3, z4, by omega, z6, z7, z8⟩
/-- the moves that the sorter knows -/
def MO (H : xa_H) (T n t : Nat) (fe : Nat → Int) (mo : Nat) : Prop := t ≤ 55 ∧ xm H T 2 = ((3 * t : Nat) : Int) ∧ (∀ u, u < t → ∃ a b : Nat, xm H (T + 1) (3 * u) = (a : Int) ∧ xm H (T + 1) (3 * u + 1) = (b : Int) ∧ okm n fe mo a b (xm H (T + 1) (3 * u + 2))) ∧
  ∀ a b k, okm n fe mo a b k → ∃ u, u < t ∧ xm H (T + 1) (3 * u) = (a : Int) ∧ xm H (T + 1) (3 * u + 1) = (b : Int) ∧ xm H (T + 1) (3 * u + 2) = k
theorem MO.ft {H H' : xa_H} {T n t mo : Nat} {fe : Nat → Int} (M : MO H T n t fe mo) (e : FT T H H') : MO H' T n t fe mo := by
  have m : ∀ k, xm H' (T + 1) k = xm H (T + 1) k := fun k => e.2.2.2 _ _ (by omega) (by omega)
  unfold MO
  simp only [m]
  rw [e.2.2.2 T 2 (by omega) (by omega)]
  exact M
theorem p3_dg {c n i : Nat} (hi : i < n) (hn : n ≤ 6) : xand (xshr ((pk3 (fun t => dg t c) n : Nat) : Int) (w32 (3 * (i : Int)))) 7 = ((dg i c : Nat) : Int) := by
  have pl := p3_lt (c := c) (n := n)
  have p6 := p8_le hn
  rw [show (3 : Int) * (i : Int) = ((3 * i : Nat) : Int) by omega, w32_id (by omega) (by omega), x_shr (by omega) (by omega), show (7 : Int) = ((7 : Nat) : Int) from rfl, x_and (Nat.lt_of_le_of_lt (Nat.div_le_self _ _) (by omega)), show (7 : Nat) = 2 ^ 3 - 1 from rfl, Nat.and_two_pow_sub_one_eq_mod, ← p8_2, pk3_b, show (2 ^ 3 : Nat) = 8 from rfl, encb_dg (by decide) n (fun j _ => by have := dg_lt j c; omega) i hi]
/-- nobody is farther than he stands back in the row -/
theorem bf_le {S nb : Nat → Nat → Prop} {Q L : Nat → Nat} {hd tl : Nat} (B : BF S nb Q L hd tl) (hS : ∀ k c, S (k + 1) c → S k c ∨ ∃ c0, S k c0 ∧ nb c0 c) (hS' : ∀ k c c0, S k c0 → nb c0 c → S (k + 1) c) (hS2 : ∀ k c, S k c → S (k + 1) c) (hl : hd ≤ tl) : ∀ i, i < tl → L i ≤ i := by
  intro i
  induction i using Nat.strongRecOn with
  | ind i ih =>
    intro hi
    obtain ⟨e1, e2⟩ := B.2.1 i hi
    by_cases y : L i = 0
    · omega
    obtain ⟨k, hk⟩ : ∃ k, L i = k + 1 := ⟨L i - 1, by omega⟩
    rw [hk] at e1
    rcases hS k _ e1 with h | ⟨c0, h0, hn⟩
    · exact absurd h (e2 k (by omega))
    · have up : ∀ d j c, S j c → S (j + d) c := by
        intro d
        induction d with
        | zero => intro j c h; exact h
        | succ d ihd => intro j c h; exact hS2 _ _ (ihd j c h)
      obtain ⟨j, hj, rfl⟩ := bf_in B hS hl k (fun z => by have := B.2.2.2.2.1 z i hi; omega) c0 h0
      have lj : L j = k := by
        obtain ⟨d1, d2⟩ := B.2.1 j hj
        have : ¬ k < L j := fun z => d2 k z h0
        have : ¬ L j < k := fun z => by
          have := up (k - (L j + 1)) _ _ (hS' _ _ _ d1 hn)
          rw [show L j + 1 + (k - (L j + 1)) = k by omega] at this
          exact e2 k (by omega) this
        omega
      have : j < i := by
        by_cases z : j < i
        · exact z
        · have := B.2.2.2.1 i j (by omega) hj
          omega
      have := ih j this hj
      omega
theorem t_from {fe : Nat → Int} {mo : Nat} {H : xa_H} {T n t c0 hd tl : Nat} {Q L : Nat → Nat} (R : SX H T n) (M : MO H T n t fe mo) (X : SS H T n Q L hd tl) (B : BF (rch n fe mo) (nbr n fe mo) Q L hd tl) (hl : hd < tl) (ht : tl ≤ fct n) (q0 : Q hd = c0) :
    ∃ H' Q' L' tl', f_X8_reachFrom (T : Int) ((pk3 (fun t => dg t c0) n : Nat) : Int) H = some H' ∧ FT T H H' ∧ SS H' T n Q' L' hd tl' ∧ BF (rch n fe mo) (nbr n fe mo) Q' L' (hd + 1) tl' ∧ tl ≤ tl' ∧ tl' ≤ fct n := by
  have n6 := sx_n R
  have f7 := fct_720 n6
  have V0 : vperm n c0 := by rw [← q0]; exact (X.2.2.1 hd hl).1
  obtain ⟨hp, ehp⟩ : ∃ hp : Nat → xa_H, ∀ i, hp i = mkA H (T + 2) (fun i => ((dg i c0 : Nat) : Int)) i := ⟨_, fun _ => rfl⟩
  have Fi : ∀ i, FO T H (hp i) := fun i => by
    obtain ⟨a1, a2, a3⟩ := mkA_n H (T + 2) (fun i => ((dg i c0 : Nat) : Int)) i
    rw [ehp]
    exact ⟨a1, a2, a3, fun a k y => by rw [mkA_m, if_neg (by omega)]⟩
  obtain ⟨st, est⟩ : ∃ st : Nat → Int × xa_H, ∀ i, st i = ((i : Int), hp i) := ⟨_, fun _ => rfl⟩
  have it := xit_seq (f := fun s : Int × xa_H => f_X8_reachFrom_L2 (T : Int) ((pk3 (fun t => dg t c0) n : Nat) : Int) s.1 s.2) st n (hp n) (fun i hi => ?_) ?_ (by omega)
  · rw [est, show hp 0 = H by rw [ehp]; rfl] at it
    have R1 := R.fo (Fi n)
    have X1 := X.fo (Fi n)
    have M1 := M.ft (Fi n).ft
    have O1 : OD (hp n) T n c0 := fun i hi => by rw [ehp, mkA_m, if_pos ⟨rfl, hi⟩]
    have lle := bf_le B rch_S rch_S' (fun k c h => Or.inl h) (by omega) hd hl
    have l0 : xm (hp n) (T + 3) (rkn n c0 n) = (L hd : Int) := by rw [← q0]; exact (X1.2.2.1 hd hl).2.2
    obtain ⟨H', Q', L', tl', z1, z2, z3, z4, z5, z6, z7, z8⟩ := t_moves (hd := hd) (l0 := L hd) V0 M1.1 M1.2.1 M1.2.2.1 t 0 (by omega) (hp n) Q L tl R1 (FT.refl _ _) O1 X1 B hl ht q0 rfl (fun w hw => by omega) xFU (by have := M1.1; unfold xFU; omega)
    refine ⟨H', Q', L', tl', ?_, (Fi n).ft.tr z2, z3, bf_next z4 (by omega) (fun c hc => ?_), z5, z6⟩
    · unfold f_X8_reachFrom
      refine (bnd it).trans ?_
      rw [gSo R1, sx_3 R1, xSo R1, t_rank R1 O1 V0, bbind]
      refine (bnd (xal_eq (sx_i3 R1 (rkn_bd V0)) l0)).trans ?_
      rw [wS (by omega)]
      exact (bnd z1).trans rfl
    · rw [z7] at hc
      obtain ⟨a, b, k, ok, rfl⟩ := hc
      obtain ⟨u, hu, e1, e2, e3⟩ := M1.2.2.2 a b k ok
      have := z8 u hu
      rw [e1, e2, e3, Int.toNat_natCast, Int.toNat_natCast] at this
      exact this
  · rw [est, est]
    show f_X8_reachFrom_L2 (T : Int) _ (i : Int) (hp i) = _
    have Rq := R.fo (Fi i)
    unfold f_X8_reachFrom_L2
    rw [gSo Rq, sx_0 Rq, if_pos (by omega), gSo Rq, sx_7 Rq, p3_dg hi n6]
    refine (bnd (xas_eq (sx_i2 Rq (by omega)))).trans ?_
    rw [wS (by omega), ehp, ehp]
    rfl
  · rw [est]
    show f_X8_reachFrom_L2 (T : Int) _ (n : Int) (hp n) = _
    have Rq := R.fo (Fi n)
    unfold f_X8_reachFrom_L2
    rw [gSo Rq, sx_0 Rq, if_neg (by omega)]
