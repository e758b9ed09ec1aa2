/-! ===== meetings ===== -/
theorem m_settled {h G : xa_H} {n c : Nat} (Q : MV h G) (en : xm h 199 4 = (n : Int)) (n6 : n ≤ 6) (O : ROD G n c) (V : vperm n c) (e12 : ∀ k, xm G 212 k = xm h 212 k) : ∃ v, f_X12_areSettled 173 G = some v ∧ ((v = 1 ∧ stl h n c) ∨ (v = 0 ∧ ¬ stl h n c)) := by
  have S := Q.1
  have step : ∀ i : Nat, i < n → f_X12_areSettled_L2 173 G (i : Int) = if hsv h (dg i c) = wsv h i then some (Sum.inl ((i + 1 : Nat) : Int)) else some (Sum.inr (Sum.inl 0)) := by
    intro i hi
    have d6 := dg_lt i c
    unfold f_X12_areSettled_L2 f_X12_hadBy f_X12_wantedBy
    rw [xM S, b_many Q en, bbind, if_pos (by omega), gM S, pt_173_66 S]
    refine (bnd (xal_eq (a := 218) (ia_218 S (by omega) (by omega)) (O i hi))).trans ?_
    rw [w32_id (z := 9 * ((dg i c : Nat) : Int)) (by omega) (by omega), w32_id (z := 1 + 9 * ((dg i c : Nat) : Int)) (by omega) (by omega), show 1 + 9 * ((dg i c : Nat) : Int) = ((1 + 9 * dg i c : Nat) : Int) by omega, w32_id (z := 9 * (i : Int)) (by omega) (by omega), w32_id (z := 1 + 9 * (i : Int)) (by omega) (by omega), w32_id (z := 1 + 9 * (i : Int) + 1) (by omega) (by omega), show 1 + 9 * (i : Int) + 1 = ((1 + 9 * i + 1 : Nat) : Int) by omega, xM S, gM S, pt_173_50 S]
    rw [show (xal G 0 212 ((1 + 9 * dg i c : Nat) : Int)) = some (hsv h (dg i c)) from xal_eq (a := 212) (ia_212 S (by omega) (by omega)) (e12 _), bbind, bbind, xM S, gM S, pt_173_50 S, show (xal G 0 212 ((1 + 9 * i + 1 : Nat) : Int)) = some (wsv h i) from xal_eq (a := 212) (ia_212 S (by omega) (by omega)) (e12 _), bbind, bbind, wS (by omega)]
  have end_ : f_X12_areSettled_L2 173 G (n : Int) = some (Sum.inr (Sum.inr ())) := by
    unfold f_X12_areSettled_L2
    rw [xM S, b_many Q en, bbind, if_neg (by omega)]
  have run : ∀ r i, i + r = n → (∀ k, k < i → hsv h (dg k c) = wsv h k) → ∀ fu, r < fu → (xit (fun s => f_X12_areSettled_L2 173 G s) fu (i : Int) = some (Sum.inr ()) ∧ stl h n c) ∨ (xit (fun s => f_X12_areSettled_L2 173 G s) fu (i : Int) = some (Sum.inl 0) ∧ ¬ stl h n c) := by
    intro r
    induction r with
    | zero =>
      intro i hi all fu hf
      have : i = n := by omega
      subst this
      exact Or.inl ⟨xit_end end_ hf, all⟩
    | succ r ih =>
      intro i hi all fu hf
      obtain ⟨fu, rfl⟩ : ∃ z, fu = z + 1 := ⟨fu - 1, by omega⟩
      have st := step i (by omega)
      by_cases y : hsv h (dg i c) = wsv h i
      · rw [if_pos y] at st
        rw [xit_go st]
        exact ih (i + 1) (by omega) (fun k hk => by
          by_cases z : k = i
          · rw [z]; exact y
          · exact all k (by omega)) fu (by omega)
      · rw [if_neg y] at st
        exact Or.inr ⟨xit_end st (by omega), fun q => y (q i (by omega))⟩
  unfold f_X12_areSettled
  rcases run n 0 (by omega) (fun k hk => absurd hk (by omega)) xFU (by unfold xFU; omega) with ⟨e, q⟩ | ⟨e, q⟩
  · exact ⟨1, (bnd e).trans rfl, Or.inl ⟨rfl, q⟩⟩
  · exact ⟨0, (bnd e).trans rfl, Or.inr ⟨rfl, q⟩⟩
/-- what the reference finds -/
def ansR (h : xa_H) (n mo : Nat) (v : Int) : Prop := (∃ c, vperm n c ∧ stl h n c ∧ ansB (rch n (xm h 207) mo) c v) ∨ (v = -1 ∧ ∀ c, vperm n c → stl h n c → ansB (rch n (xm h 207) mo) c (-1))
theorem m_72 {h : xa_H} {n mo : Nat} (en : xm h 199 4 = (n : Int)) (n6 : n ≤ 6) (sy : ∀ i j, i < n → j < n → fd (xm h 207) i j = fd (xm h 207) j i) : ∀ r hd, hd + r = fct n → ∀ (G : xa_H) (Q L : Nat → Nat) (tl : Nat), MV h G → (∀ k, xm G 212 k = xm h 212 k) → RSS G n Q L tl → BF (rch n (xm h 207) mo) (nbr n (xm h 207) mo) Q L hd tl → hd ≤ tl → tl ≤ fct n → (∀ i, i < hd → ¬ stl h n (Q i)) → ∀ fu, r < fu →
    ∃ v G', ((xit (fun s => f_X12_meetings_L72 173 (mo : Int) s.1 s.2) fu ((hd : Int), G) = some (Sum.inl (v, G'))) ∨ (v = -1 ∧ xit (fun s => f_X12_meetings_L72 173 (mo : Int) s.1 s.2) fu ((hd : Int), G) = some (Sum.inr G'))) ∧ Fx DBt G G' ∧ ansR h n mo v := by
  have f7 := fct_720 n6
  have c6 := six_le n6
  intro r
  induction r with
  | zero =>
    intro hd hr G Q L tl M e12 X B hl ht no fu hf
    refine ⟨-1, G, Or.inr ⟨rfl, xit_end ?_ hf⟩, Fx.refl _ _, Or.inr ⟨rfl, fun c V st => bf_none B rch_S (by omega) (fun j hj e => no j (by omega) (by rw [e]; exact st))⟩⟩
    show f_X12_meetings_L72 173 (mo : Int) (hd : Int) G = _
    unfold f_X12_meetings_L72
    rw [gM M.1, X.1, if_neg (by omega)]
  | succ r ih =>
    intro hd hr G Q L tl M e12 X B hl ht no fu hf
    obtain ⟨fu, rfl⟩ : ∃ z, fu = z + 1 := ⟨fu - 1, by omega⟩
    have S := M.1
    by_cases y : hd < tl
    · obtain ⟨V0, q0, l0⟩ := X.2.1 hd y
      have cl := V0.1
      obtain ⟨G1, a1, a2, a3, a4⟩ := m_isState (c := Q hd) M en n6 (by omega)
      have M1 := M.bt a4
      have S1 := M1.1
      have X1 : RSS G1 n Q L tl := X.or a3
      obtain ⟨w, s1, s2⟩ := m_settled M1 en n6 a2 V0 (fun k => by rw [a3 212 k (by omega)]; exact e12 k)
      rcases s2 with ⟨rfl, st⟩ | ⟨rfl, st⟩
      · refine ⟨(L hd : Int), G1, Or.inl (xit_end ?_ (by omega)), a4, Or.inl ⟨Q hd, V0, st, bf_ans B y⟩⟩
        show f_X12_meetings_L72 173 (mo : Int) (hd : Int) G = _
        unfold f_X12_meetings_L72
        rw [gM S, X.1, if_pos (by omega), gM S, pt_173_64 S]
        refine (bnd (xal_eq (a := 217) (ia_217 S (by omega) (by omega)) q0)).trans ?_
        rw [xM S, a1, bbind, xM S1, s1, bbind, if_neg (by decide), gM S1, pt_173_63 S1, gM S1, pt_173_64 S1]
        refine (bnd (xal_eq (a := 217) (ia_217 S1 (by omega) (by omega)) (X1.2.1 hd y).2.1)).trans ?_
        exact (bnd (xal_eq (a := 216) (ia_216 S1 (by omega) (by omega)) (X1.2.1 hd y).2.2)).trans rfl
      · obtain ⟨G2, Q2, L2, tl2, b1, b2, b3, b4, b5, b6, b7⟩ := m_triesAll en n6 sy M1 X1 B y ht
        have go : f_X12_meetings_L72 173 (mo : Int) (hd : Int) G = some (Sum.inl (((hd + 1 : Nat) : Int), G2)) := by
          unfold f_X12_meetings_L72
          rw [gM S, X.1, if_pos (by omega), gM S, pt_173_64 S]
          refine (bnd (xal_eq (a := 217) (ia_217 S (by omega) (by omega)) q0)).trans ?_
          rw [xM S, a1, bbind, xM S1, s1, bbind, if_pos rfl, gM S1, pt_173_64 S1]
          refine (bnd (xal_eq (a := 217) (ia_217 S1 (by omega) (by omega)) (X1.2.1 hd y).2.1)).trans ?_
          rw [xM S1, b1, bbind, wS (by omega)]
        obtain ⟨v, G', g1, g2, g3⟩ := ih (hd + 1) (by omega) G2 Q2 L2 tl2 (M1.bt b2) (fun k => by rw [b2.2.2.2 212 k (dbt_ne (by omega)), a3 212 k (by omega)]; exact e12 k) b3 b4 b5 b6 (fun i hi q => by
          rw [b7 i (by omega)] at q
          by_cases z : i = hd
          · rw [z] at q; exact st q
          · exact no i (by omega) q) fu (by omega)
        refine ⟨v, G', ?_, (a4.tr b2).tr g2, g3⟩
        rcases g1 with g1 | ⟨g0, g1⟩
        · exact Or.inl ((xit_go (s' := (((hd + 1 : Nat) : Int), G2)) go).trans g1)
        · exact Or.inr ⟨g0, (xit_go (s' := (((hd + 1 : Nat) : Int), G2)) go).trans g1⟩
    · refine ⟨-1, G, Or.inr ⟨rfl, xit_end ?_ (by omega)⟩, Fx.refl _ _, Or.inr ⟨rfl, fun c V st => bf_none B rch_S (by omega) (fun j hj e => no j (by omega) (by rw [e]; exact st))⟩⟩
      show f_X12_meetings_L72 173 (mo : Int) (hd : Int) G = _
      unfold f_X12_meetings_L72
      rw [gM S, X.1, if_neg (by omega)]
/-- the whole of the reference's -/
theorem m_meet {h G : xa_H} {n mo : Nat} (en : xm h 199 4 = (n : Int)) (n6 : n ≤ 6) (sy : ∀ i j, i < n → j < n → fd (xm h 207) i j = fd (xm h 207) j i) (M : MV h G) (e12 : ∀ k, xm G 212 k = xm h 212 k) (hmo : mo = 2 ∨ mo = 3) : ∃ v G', f_X12_meetings 173 (mo : Int) G = some (v, G') ∧ Fx DBt G G' ∧ ansR h n mo v := by
  have S := M.1
  have f7 := fct_720 n6
  have fp := fct_p n
  have c6 := six_le n6
  obtain ⟨W, eW⟩ : ∃ W, W = 46656 := ⟨_, rfl⟩
  -- no order is known
  obtain ⟨hp, ehp⟩ : ∃ hp : Nat → xa_H, ∀ i, hp i = mkA G 216 (fun _ => -1) i := ⟨_, fun _ => rfl⟩
  have fr : ∀ i a k, a ≠ 216 → xm (hp i) a k = xm G a k := fun i a k y => by rw [ehp, mkA_m, if_neg (by omega)]
  have Fi : ∀ i, Fx DBt G (hp i) := fun i => by
    obtain ⟨a1, a2, a3⟩ := mkA_n G 216 (fun _ => -1) i
    refine ⟨by rw [ehp]; exact a1, by rw [ehp]; exact a2, by rw [ehp]; exact a3, fun a k y => fr i a k ?_⟩
    rintro rfl
    rw [show DBt 216 k = true from rfl] at y
    cases y
  obtain ⟨st, est⟩ : ∃ st : Nat → Int × xa_H, ∀ i, st i = ((i : Int), hp i) := ⟨_, fun _ => rfl⟩
  have it := xit_seq (f := fun s : Int × xa_H => f_X12_meetings_L18 173 (mo : Int) s.1 s.2) st W (hp W) (fun i hi => by
    rw [est, est]
    show f_X12_meetings_L18 173 (mo : Int) (i : Int) (hp i) = _
    have Si := (M.bt (Fi i)).1
    unfold f_X12_meetings_L18
    rw [if_pos (by omega), gM Si, pt_173_63 Si]
    refine (bnd (xas_eq (a := 216) (ia_216 Si (by omega) (by omega)))).trans ?_
    rw [wS (by omega), ehp (i + 1), ehp i]
    rfl) (by
    rw [est]
    show f_X12_meetings_L18 173 (mo : Int) (W : Int) (hp W) = _
    unfold f_X12_meetings_L18
    rw [if_neg (by omega)]) (by omega)
  rw [est, show hp 0 = G by rw [ehp]; rfl] at it
  obtain ⟨G1, e1⟩ : ∃ z, z = hp W := ⟨_, rfl⟩
  have Z1 : Fx DBt G G1 := by rw [e1]; exact Fi W
  have M1 := M.bt Z1
  have k1 : ∀ c, c < 46656 → xm G1 216 c = -1 := fun c hc => by rw [e1, ehp, mkA_m, if_pos ⟨rfl, by omega⟩]
  rw [← e1] at it
  -- everybody has his own
  obtain ⟨hq, ehq⟩ : ∃ hq : Nat → xa_H, ∀ i, hq i = mkA G1 218 (fun i => ((i : Nat) : Int)) i := ⟨_, fun _ => rfl⟩
  have fq : ∀ i a k, a ≠ 218 → xm (hq i) a k = xm G1 a k := fun i a k y => by rw [ehq, mkA_m, if_neg (by omega)]
  have Fq : ∀ i, Fx DBt G1 (hq i) := fun i => by
    obtain ⟨a1, a2, a3⟩ := mkA_n G1 218 (fun i => ((i : Nat) : Int)) i
    refine ⟨by rw [ehq]; exact a1, by rw [ehq]; exact a2, by rw [ehq]; exact a3, fun a k y => fq i a k ?_⟩
    rintro rfl
    rw [show DBt 218 k = true from rfl] at y
    cases y
  obtain ⟨su, esu⟩ : ∃ su : Nat → Int × xa_H, ∀ i, su i = ((i : Int), hq i) := ⟨_, fun _ => rfl⟩
  have it2 := xit_seq (f := fun s : Int × xa_H => f_X12_meetings_L39 173 (mo : Int) s.1 s.2) su n (hq n) (fun i hi => by
    rw [esu, esu]
    show f_X12_meetings_L39 173 (mo : Int) (i : Int) (hq i) = _
    have Mi := M1.bt (Fq i)
    have Si := Mi.1
    unfold f_X12_meetings_L39
    rw [xM Si, b_many Mi en, bbind, if_pos (by omega), gM Si, pt_173_66 Si]
    refine (bnd (xas_eq (a := 218) (ia_218 Si (by omega) (by omega)))).trans ?_
    rw [wS (by omega), ehq (i + 1), ehq i]
    rfl) (by
    rw [esu]
    show f_X12_meetings_L39 173 (mo : Int) (n : Int) (hq n) = _
    have Mi := M1.bt (Fq n)
    unfold f_X12_meetings_L39
    rw [xM Mi.1, b_many Mi en, bbind, if_neg (by omega)]) (by omega)
  rw [esu, show hq 0 = G1 by rw [ehq]; rfl] at it2
  obtain ⟨G2, e2⟩ : ∃ z, z = hq n := ⟨_, rfl⟩
  have Z2 : Fx DBt G1 G2 := by rw [e2]; exact Fq n
  have M2 := M1.bt Z2
  rw [← e2] at it2
  obtain ⟨G3, e3⟩ : ∃ z, z = xset G2 173 65 0 := ⟨_, rfl⟩
  have Z3 : Fx DBt G2 G3 := by rw [e3]; exact (Fx.refl _ _).set rfl
  have M3 := M2.bt Z3
  obtain ⟨e, ee⟩ : ∃ e, e = enc (fun i => i) n := ⟨_, rfl⟩
  have V : vperm n e := by rw [ee]; exact vperm_enc n6 (fun i hi => hi) (fun i j _ _ h => h)
  have ve := V.1
  have O3 : ROD G3 n e := fun i hi => by
    rw [ee, dg_enc (fun j hj => by omega) hi, e3, xm_xset, if_neg (by omega), e2, ehq, mkA_m, if_pos ⟨rfl, hi⟩]
  have k3 : ∀ c, c < 46656 → xm G3 216 c = -1 := fun c hc => by rw [e3, xm_xset, if_neg (by omega), e2, fq n 216 c (by omega)]; exact k1 c hc
  have go := m_comesNew (v := 0) (tl := 0) M3 en n6 O3 V (k3 e (by omega)) (by rw [e3, xm_xset, if_pos ⟨rfl, rfl⟩]; rfl) fp
  obtain ⟨G4, e4⟩ : ∃ z, z = xset (xset (xset G3 216 e 0) 217 0 (e : Int)) 173 65 ((0 + 1 : Nat) : Int) := ⟨_, rfl⟩
  rw [← e4] at go
  have Z4 : Fx DBt G3 G4 := by rw [e4]; exact (((Fx.refl _ _).set rfl).set rfl).set rfl
  have M4 := M3.bt Z4
  have X4 : RSS G4 n (fun _ => e) (fun _ => 0) 1 := by
    refine ⟨by rw [e4, xm_xset, if_pos ⟨rfl, rfl⟩], fun i hi => ⟨V, ?_, ?_⟩, fun c W' => ?_⟩
    · rw [e4, xm_xset, if_neg (by omega), xm_xset, if_pos ⟨rfl, by omega⟩]
    · rw [e4, xm_xset, if_neg (by omega), xm_xset, if_neg (by omega), xm_xset, if_pos ⟨rfl, rfl⟩]; rfl
    · by_cases z : c = e
      · exact Or.inr ⟨0, by omega, z.symm⟩
      · have := W'.1
        rw [e4, xm_xset, if_neg (by omega), xm_xset, if_neg (by omega), xm_xset, if_neg (fun q => z q.2)]
        exact Or.inl (k3 c (by omega))
  have Z : Fx DBt G G4 := ((Z1.tr Z2).tr Z3).tr Z4
  have B4 : BF (rch n (xm h 207) mo) (nbr n (xm h 207) mo) (fun _ => e) (fun _ => 0) 0 1 := bf_init (fun c => by rw [ee]; exact Iff.rfl)
  obtain ⟨v, G5, g1, g2, g3⟩ := m_72 en n6 sy (fct n) 0 (by omega) G4 _ _ 1 M4 (fun k => by rw [Z.2.2.2 212 k (dbt_ne (by omega))]; exact e12 k) X4 B4 (by omega) fp (fun i hi => absurd hi (by omega)) xFU (by unfold xFU; omega)
  refine ⟨v, G5, ?_, Z.tr g2, g3⟩
  unfold f_X12_meetings
  rw [s_X12_isIn, bbind, if_neg (show ¬ ((mo : Int) < 2 ∨ 3 < (mo : Int)) by omega), if_neg (by decide)]
  refine (bnd it).trans ?_
  refine (bnd it2).trans ?_
  rw [pMf M2.1, ← e3, xM M3.1, go, bbind]
  rcases g1 with g1 | ⟨g0, g1⟩
  · exact (bnd g1).trans rfl
  · rw [g0]
    exact (bnd g1).trans rfl
