/-! ===== the reference counts meetings ===== -/
def DBt (a k : Nat) : Bool := a == 216 || a == 217 || a == 218 || (a == 173 && k == 65)
theorem DBt_nf : nofix DBt := by unfold nofix; decide +kernel
theorem dbt_ne {a k : Nat} (h : a ≠ 216 ∧ a ≠ 217 ∧ a ≠ 218 ∧ ¬ (a = 173 ∧ k = 65)) : DBt a k = false := by
  unfold DBt
  simp
  omega
theorem MV.bt {h G G' : xa_H} (Q : MV h G) (e : Fx DBt G G') : MV h G' := Q.fx e DBt_nf (fun a k _ _ => dbt_ne (by omega))
theorem b_many {h G : xa_H} {n : Nat} (Q : MV h G) (en : xm h 199 4 = (n : Int)) : f_X12_holderMany 173 G = some (n : Int) := by
  have S := Q.1
  have i1 : xia G 0 199 ((4 : Nat) : Int) = true := ia_199 S (by omega) (by omega)
  unfold f_X12_holderMany
  rw [gM S, pt_173_34 S]
  exact (bnd (xal_eq (a := 199) i1 ((Q.2 199 4 (by omega)).trans en))).trans rfl
theorem b_some9 {α : Type} (E : Option α) : (E.bind fun r => some r) = E := by cases E <;> rfl
def ROD (G : xa_H) (n c : Nat) : Prop := ∀ i, i < n → xm G 218 i = ((dg i c : Nat) : Int)
theorem six_le {n : Nat} (h : n ≤ 6) : 6 ^ n ≤ 46656 := Nat.pow_le_pow_right (by decide) h
theorem dv_s (c j : Nat) : 6 * (c / 6 ^ (j + 1)) + dg j c = c / 6 ^ j := by
  unfold dg
  rw [Nat.pow_succ, ← Nat.div_div_eq_div_mul]
  omega
theorem m_code {h G : xa_H} {n c : Nat} (Q : MV h G) (en : xm h 199 4 = (n : Int)) (n6 : n ≤ 6) (O : ROD G n c) (hc : c < 6 ^ n) : f_X12_stateOf 173 G = some (c : Int) := by
  have S := Q.1
  have c6 := six_le n6
  obtain ⟨st, est⟩ : ∃ st : Nat → Int × Int, ∀ i, st i = (((c / 6 ^ (n - i) : Nat) : Int), (n : Int) - (i : Int) - 1) := ⟨_, fun _ => rfl⟩
  have it := xit_seq (f := fun s : Int × Int => f_X12_stateOf_L9 173 G s.1 s.2) st n (c : Int) (fun i hi => ?_) ?_ (by omega)
  · rw [est, Nat.sub_zero, Nat.div_eq_of_lt hc] at it
    unfold f_X12_stateOf
    rw [xM S, b_many Q en, bbind, w32_id (by omega) (by omega)]
    rw [show (n : Int) - ((0 : Nat) : Int) - 1 = (n : Int) - 1 by omega] at it
    exact (bnd it).trans rfl
  · rw [est, est]
    show f_X12_stateOf_L9 173 G ((c / 6 ^ (n - i) : Nat) : Int) ((n : Int) - (i : Int) - 1) = _
    obtain ⟨j, hj⟩ : ∃ j, n - i = j + 1 := ⟨n - i - 1, by omega⟩
    have e1 : (n : Int) - (i : Int) - 1 = (j : Int) := by omega
    have dv := dv_s c j
    have le : c / 6 ^ j ≤ c := Nat.div_le_self _ _
    unfold f_X12_stateOf_L9
    rw [hj, e1, if_neg (by omega), gM S, pt_173_66 S]
    refine (bnd (xal_eq (a := 218) (ia_218 S (by omega) (by omega)) (O j (by omega)))).trans ?_
    obtain ⟨x, ex⟩ : ∃ x, x = c / 6 ^ (j + 1) := ⟨_, rfl⟩
    obtain ⟨y, ey⟩ : ∃ y, y = c / 6 ^ j := ⟨_, rfl⟩
    rw [← ex, ← ey] at dv
    rw [← ey] at le
    rw [← ex, show n - (i + 1) = j by omega, ← ey, w32_id (z := 6 * (x : Int)) (by omega) (by omega), w32_id (z := 6 * (x : Int) + ((dg j c : Nat) : Int)) (by omega) (by omega), w32_id (by omega) (by omega), show 6 * (x : Int) + ((dg j c : Nat) : Int) = (y : Int) by omega, show (n : Int) - ((i + 1 : Nat) : Int) - 1 = (j : Int) + -1 by omega]
  · rw [est]
    show f_X12_stateOf_L9 173 G ((c / 6 ^ (n - n) : Nat) : Int) ((n : Int) - (n : Int) - 1) = _
    unfold f_X12_stateOf_L9
    rw [if_pos (by omega), Nat.sub_self, Nat.pow_zero, Nat.div_one]
theorem m_isState {h G : xa_H} {n c : Nat} (Q : MV h G) (en : xm h 199 4 = (n : Int)) (n6 : n ≤ 6) (hc : c < 46656) : ∃ G', f_X12_isState 173 (c : Int) G = some G' ∧ ROD G' n c ∧ (∀ a k, a ≠ 218 → xm G' a k = xm G a k) ∧ Fx DBt G G' := by
  obtain ⟨hp, ehp⟩ : ∃ hp : Nat → xa_H, ∀ i, hp i = mkA G 218 (fun i => ((dg i c : Nat) : Int)) i := ⟨_, fun _ => rfl⟩
  have fr : ∀ i a k, a ≠ 218 → xm (hp i) a k = xm G a k := fun i a k y => by rw [ehp, mkA_m, if_neg (by omega)]
  have Fi : ∀ i, Fx DBt G (hp i) := fun i => by
    obtain ⟨a1, a2, a3⟩ := mkA_n G 218 (fun i => ((dg i c : Nat) : Int)) i
    refine ⟨by rw [ehp]; exact a1, by rw [ehp]; exact a2, by rw [ehp]; exact a3, fun a k y => fr i a k ?_⟩
    rintro rfl
    rw [show DBt 218 k = true from rfl] at y
    cases y
  obtain ⟨st, est⟩ : ∃ st : Nat → Int × Int × xa_H, ∀ i, st i = (((c / 6 ^ i : Nat) : Int), (i : Int), hp i) := ⟨_, fun _ => rfl⟩
  have it := xit_seq (f := fun s : Int × Int × xa_H => f_X12_isState_L4 173 s.1 s.2.1 s.2.2) st n (hp n) (fun i hi => ?_) ?_ (by omega)
  · rw [est, show hp 0 = G by rw [ehp]; rfl, Nat.pow_zero, Nat.div_one] at it
    refine ⟨hp n, ?_, fun i hi => by rw [ehp, mkA_m, if_pos ⟨rfl, hi⟩], fr n, Fi n⟩
    unfold f_X12_isState
    exact (bnd it).trans rfl
  · rw [est, est]
    show f_X12_isState_L4 173 ((c / 6 ^ i : Nat) : Int) (i : Int) (hp i) = _
    have Qi := Q.bt (Fi i)
    have S := Qi.1
    have le : c / 6 ^ i ≤ c := Nat.div_le_self _ _
    have e1 : c / 6 ^ (i + 1) = c / 6 ^ i / 6 := by rw [Nat.pow_succ, Nat.div_div_eq_div_mul]
    unfold f_X12_isState_L4
    rw [xM S, b_many Qi en, bbind, if_pos (by omega), gM S, pt_173_66 S]
    refine (bnd (xas_eq (a := 218) (ia_218 S (by omega) (by omega)))).trans ?_
    obtain ⟨x, ex⟩ : ∃ x, x = c / 6 ^ i := ⟨_, rfl⟩
    rw [← ex] at le e1
    rw [e1, ← ex, show Int.tdiv ((x : Nat) : Int) 6 = ((x / 6 : Nat) : Int) from rfl, w32_id (by omega) (by omega), wS (by omega), ehp (i + 1), ehp i, show Int.tmod ((x : Nat) : Int) 6 = ((dg i c : Nat) : Int) by rw [ex]; rfl]
    rfl
  · rw [est]
    show f_X12_isState_L4 173 _ (n : Int) (hp n) = _
    have Qi := Q.bt (Fi n)
    have S := Qi.1
    unfold f_X12_isState_L4
    rw [xM S, b_many Qi en, bbind, if_neg (by omega)]
def RSS (G : xa_H) (n : Nat) (Q L : Nat → Nat) (tl : Nat) : Prop := xm G 173 65 = (tl : Int) ∧ (∀ i, i < tl → vperm n (Q i) ∧ xm G 217 i = ((Q i : Nat) : Int) ∧ xm G 216 (Q i) = (L i : Int)) ∧ ∀ c, vperm n c → xm G 216 c = -1 ∨ ∃ i, i < tl ∧ Q i = c
theorem RSS.or {G G' : xa_H} {n tl : Nat} {Q L : Nat → Nat} (X : RSS G n Q L tl) (m : ∀ a k, a ≠ 218 → xm G' a k = xm G a k) : RSS G' n Q L tl := by
  obtain ⟨h1, h2, h3⟩ := X
  refine ⟨by rw [m _ _ (by omega)]; exact h1, fun i hi => ?_, fun c V => ?_⟩
  · rw [m _ _ (by omega), m _ _ (by omega)]; exact h2 i hi
  · rw [m _ _ (by omega)]; exact h3 c V
theorem m_comesNew {h G : xa_H} {n c tl : Nat} {v : Int} (Q : MV h G) (en : xm h 199 4 = (n : Int)) (n6 : n ≤ 6) (O : ROD G n c) (V : vperm n c) (h1 : xm G 216 c = -1) (h6 : xm G 173 65 = (tl : Int)) (ht : tl < fct n) :
    f_X12_comesTo 173 v G = some (xset (xset (xset G 216 c v) 217 tl (c : Int)) 173 65 ((tl + 1 : Nat) : Int)) := by
  have S := Q.1
  have f7 := fct_720 n6
  have c6 := six_le n6
  have cl := V.1
  obtain ⟨G1, e1⟩ : ∃ z, z = xset G 216 c v := ⟨_, rfl⟩
  obtain ⟨G2, e2⟩ : ∃ z, z = xset G1 217 tl (c : Int) := ⟨_, rfl⟩
  have Z1 : Fx DBt G G1 := by rw [e1]; exact (Fx.refl _ _).set rfl
  have Z2 : Fx DBt G1 G2 := by rw [e2]; exact (Fx.refl _ _).set rfl
  have S1 := (Q.bt Z1).1
  have S2 := ((Q.bt Z1).bt Z2).1
  have t1 : xm G1 173 65 = (tl : Int) := by rw [e1, xm_xset, if_neg (by omega)]; exact h6
  have t2 : xm G2 173 65 = (tl : Int) := by rw [e2, xm_xset, if_neg (by omega)]; exact t1
  unfold f_X12_comesTo
  rw [xM S, m_code Q en n6 O cl, bbind, gM S, pt_173_63 S]
  refine (bnd (xal_eq (a := 216) (v := -1) (ia_216 S (by omega) (by omega)) h1)).trans ?_
  rw [if_pos rfl, gM S, pt_173_63 S]
  refine (bnd (xas_eq (a := 216) (ia_216 S (by omega) (by omega)))).trans ?_
  rw [← e1, gM S1, pt_173_64 S1, gM S1, t1]
  refine (bnd (xas_eq (a := 217) (ia_217 S1 (by omega) (by omega)))).trans ?_
  rw [← e2, gM S2, t2, pMf S2, wS (by omega)]
theorem m_comesOld {h G : xa_H} {n c : Nat} {v : Int} (Q : MV h G) (en : xm h 199 4 = (n : Int)) (n6 : n ≤ 6) (O : ROD G n c) (V : vperm n c) (h1 : xm G 216 c ≠ -1) : f_X12_comesTo 173 v G = some G := by
  have S := Q.1
  have c6 := six_le n6
  have cl := V.1
  unfold f_X12_comesTo
  rw [xM S, m_code Q en n6 O cl, bbind, gM S, pt_173_63 S]
  refine (bnd (xal_eq (a := 216) (v := xm G 216 c) (ia_216 S (by omega) (by omega)) rfl)).trans ?_
  rw [if_neg h1]
theorem m_comes {S nb : Nat → Nat → Prop} {h G : xa_H} {n c hd tl : Nat} {Q L : Nat → Nat} (M : MV h G) (en : xm h 199 4 = (n : Int)) (n6 : n ≤ 6) (O : ROD G n c) (V : vperm n c) (X : RSS G n Q L tl) (B : BF S nb Q L hd tl) (hS : ∀ k c, S (k + 1) c → S k c ∨ ∃ c0, S k c0 ∧ nb c0 c) (hS' : ∀ k c c0, S k c0 → nb c0 c → S (k + 1) c) (hl : hd < tl) (ht : tl ≤ fct n) (hn : nb (Q hd) c) :
    ∃ G' Q' L' tl', f_X12_comesTo 173 ((L hd + 1 : Nat) : Int) G = some G' ∧ Fx DBt G G' ∧ RSS G' n Q' L' tl' ∧ BF S nb Q' L' hd tl' ∧ tl ≤ tl' ∧ tl' ≤ fct n ∧ (∀ i, i < tl → Q' i = Q i ∧ L' i = L i) ∧ ∃ j, j < tl' ∧ Q' j = c := by
  obtain ⟨h1, h2, h3⟩ := X
  by_cases y : xm G 216 c = -1
  · have new : ∀ j, j < tl → Q j ≠ c := fun j hj e => by
      have := (h2 j hj).2.2
      rw [e, y] at this
      omega
    have B' := bf_add B hS hS' hl hn new
    obtain ⟨Q', eQ⟩ : ∃ Q' : Nat → Nat, Q' = fun i => if i = tl then c else Q i := ⟨_, rfl⟩
    obtain ⟨L', eL⟩ : ∃ L' : Nat → Nat, L' = fun i => if i = tl then L hd + 1 else L i := ⟨_, rfl⟩
    rw [← eQ, ← eL] at B'
    have Qt : Q' tl = c := by rw [eQ]; exact if_pos rfl
    have Lt : L' tl = L hd + 1 := by rw [eL]; exact if_pos rfl
    have Qo : ∀ i, i ≠ tl → Q' i = Q i := fun i y => by rw [eQ]; exact if_neg y
    have Lo : ∀ i, i ≠ tl → L' i = L i := fun i y => by rw [eL]; exact if_neg y
    have Vq : ∀ i, i < tl + 1 → vperm n (Q' i) := fun i hi => by
      by_cases z : i = tl
      · rw [z, Qt]; exact V
      · rw [Qo i z]; exact (h2 i (by omega)).1
    have lt : tl + 1 ≤ fct n := fits (f := fun i => rkn n (Q' i) n) (fun i j hi hj e => B'.1 i j hi hj (rkn_inj (Vq i hi) (Vq j hj) e)) (fun j hj => rkn_bd (Vq j hj))
    have go := m_comesNew (v := ((L hd + 1 : Nat) : Int)) M en n6 O V y h1 (by omega)
    obtain ⟨G', eG⟩ : ∃ z, z = xset (xset (xset G 216 c ((L hd + 1 : Nat) : Int)) 217 tl (c : Int)) 173 65 ((tl + 1 : Nat) : Int) := ⟨_, rfl⟩
    rw [← eG] at go
    have m6 : ∀ k, xm G' 216 k = if k = c then ((L hd + 1 : Nat) : Int) else xm G 216 k := fun k => by
      rw [eG, xm_xset, if_neg (by omega), xm_xset, if_neg (by omega), xm_xset]
      by_cases z : k = c
      · rw [if_pos ⟨rfl, z⟩, if_pos z]
      · rw [if_neg (fun w => z w.2), if_neg z]
    have m7 : ∀ k, xm G' 217 k = if k = tl then (c : Int) else xm G 217 k := fun k => by
      rw [eG, xm_xset, if_neg (by omega), xm_xset]
      by_cases z : k = tl
      · rw [if_pos ⟨rfl, z⟩, if_pos z]
      · rw [if_neg (fun w => z w.2), if_neg z, xm_xset, if_neg (by omega)]
    refine ⟨G', Q', L', tl + 1, go, ?_, ⟨?_, fun i hi => ⟨Vq i hi, ?_, ?_⟩, fun d W => ?_⟩, B', by omega, lt, fun i hi => ⟨Qo i (by omega), Lo i (by omega)⟩, tl, by omega, Qt⟩
    · rw [eG]
      exact (((Fx.refl _ _).set rfl).set rfl).set rfl
    · rw [eG, xm_xset, if_pos ⟨rfl, rfl⟩]
    · rw [m7]
      by_cases z : i = tl
      · rw [if_pos z, z, Qt]
      · rw [if_neg z, Qo i z]; exact (h2 i (by omega)).2.1
    · rw [m6]
      by_cases z : i = tl
      · rw [z, Qt, if_pos rfl, Lt]
      · rw [Qo i z, Lo i z, if_neg (new i (by omega))]
        exact (h2 i (by omega)).2.2
    · by_cases z : d = c
      · exact Or.inr ⟨tl, by omega, by rw [Qt, z]⟩
      · rw [m6, if_neg z]
        rcases h3 d W with w | ⟨i, hi, e⟩
        · exact Or.inl w
        · exact Or.inr ⟨i, by omega, by rw [Qo i (by omega)]; exact e⟩
  · refine ⟨G, Q, L, tl, m_comesOld M en n6 O V y, Fx.refl _ _, ⟨h1, h2, h3⟩, B, Nat.le_refl _, ht, fun i _ => ⟨rfl, rfl⟩, ?_⟩
    rcases h3 c V with w | w
    · exact absurd w y
    · exact w
theorem m9_feud {h G : xa_H} {a b : Nat} (Q : MV h G) (ha : a < 6) : f_X12_areFeud 173 (a : Int) (b : Int) G = some (if fd (xm h 207) a b = true then 1 else 0) := by
  have S := Q.1
  unfold f_X12_areFeud
  rw [gM S, pt_173_42 S, w32_id (by omega) (by omega), show (6 : Int) + (a : Int) = ((6 + a : Nat) : Int) by omega]
  refine (bnd (xal_eq (a := 207) (ia_207 S (by omega) (by omega)) (Q.2 207 (6 + a) (by omega)))).trans ?_
  unfold fd
  by_cases y : xand (xshr (xm h 207 (6 + a)) (b : Int)) 1 = 1
  · rw [if_pos y, if_pos (decide_eq_true y)]
  · rw [if_neg y, if_neg (by rw [decide_eq_false y]; decide)]
/-- two meet, or three: then he comes to that order -/
theorem m_try2 {h G : xa_H} {n c i j : Nat} {v : Int} (Q : MV h G) (n6 : n ≤ 6) (O : ROD G n c) (hi : i < n) (hj : j < n) (hij : i < j) : ∃ G', f_X12_tries 173 (i : Int) (j : Int) (-1) v G = f_X12_comesTo 173 v G' ∧ ROD G' n (mvt n i j (-1) c) ∧ (∀ a k, a ≠ 218 → xm G' a k = xm G a k) ∧ Fx DBt G G' := by
  have S := Q.1
  obtain ⟨G1, e1⟩ : ∃ z, z = xset G 218 j (xm G 218 i) := ⟨_, rfl⟩
  obtain ⟨G2, e2⟩ : ∃ z, z = xset G1 218 i (xm G 218 j) := ⟨_, rfl⟩
  have S1 : SH G1 := by rw [e1]; exact S.set (fixd_of (by decide +kernel))
  have Z : Fx DBt G G2 := by rw [e2, e1]; exact ((Fx.refl _ _).set rfl).set rfl
  have S2 := (Q.bt Z).1
  refine ⟨G2, ?_, fun t ht => ?_, fun a k y => by rw [e2, xm_xset, if_neg (by omega), e1, xm_xset, if_neg (by omega)], Z⟩
  · unfold f_X12_tries f_X12_tries_J10 f_X12_tries_J38
    rw [if_pos rfl, gM S, pt_173_66 S]
    refine (bnd (xal_eq (a := 218) (v := xm G 218 j) (ia_218 S (by omega) (by omega)) rfl)).trans ?_
    rw [if_pos rfl, gM S, pt_173_66 S, gM S, pt_173_66 S]
    refine (bnd (xal_eq (a := 218) (v := xm G 218 i) (ia_218 S (by omega) (by omega)) rfl)).trans ?_
    refine (bnd (xas_eq (a := 218) (ia_218 S (by omega) (by omega)))).trans ?_
    rw [← e1, gM S1, pt_173_66 S1]
    refine (bnd (xas_eq (a := 218) (ia_218 S1 (by omega) (by omega)))).trans ?_
    rw [← e2, xM S2]
    exact b_some9 _
  · unfold mvt
    rw [if_pos rfl, dg_swp ht]
    unfold trp
    rw [e2, xm_xset]
    by_cases y : t = i
    · rw [if_pos ⟨rfl, y⟩, if_pos y]; exact O j hj
    · rw [if_neg (fun q => y q.2), if_neg y, e1, xm_xset]
      by_cases z : t = j
      · rw [if_pos ⟨rfl, z⟩, if_pos z]; exact O i hi
      · rw [if_neg (fun q => z q.2), if_neg z]; exact O t ht
theorem m_try3 {h G : xa_H} {n c i j k : Nat} {v : Int} (Q : MV h G) (n6 : n ≤ 6) (O : ROD G n c) (hi : i < n) (hj : j < n) (hk : k < n) (hij : i < j) (hik : i < k) (hkj : k ≠ j) : ∃ G', f_X12_tries 173 (i : Int) (j : Int) (k : Int) v G = f_X12_comesTo 173 v G' ∧ ROD G' n (mvt n i k (j : Int) c) ∧ (∀ a k, a ≠ 218 → xm G' a k = xm G a k) ∧ Fx DBt G G' := by
  have S := Q.1
  obtain ⟨G0, e0⟩ : ∃ z, z = xset G 218 k (xm G 218 j) := ⟨_, rfl⟩
  obtain ⟨G1, e1⟩ : ∃ z, z = xset G0 218 j (xm G 218 i) := ⟨_, rfl⟩
  obtain ⟨G2, e2⟩ : ∃ z, z = xset G1 218 i (xm G 218 k) := ⟨_, rfl⟩
  have S0 : SH G0 := by rw [e0]; exact S.set (fixd_of (by decide +kernel))
  have S1 : SH G1 := by rw [e1]; exact S0.set (fixd_of (by decide +kernel))
  have Z : Fx DBt G G2 := by rw [e2, e1, e0]; exact (((Fx.refl _ _).set rfl).set rfl).set rfl
  have S2 := (Q.bt Z).1
  refine ⟨G2, ?_, fun t ht => ?_, fun a k y => by rw [e2, xm_xset, if_neg (by omega), e1, xm_xset, if_neg (by omega), e0, xm_xset, if_neg (by omega)], Z⟩
  · unfold f_X12_tries f_X12_tries_J10 f_X12_tries_J38
    rw [if_neg (by omega), gM S, pt_173_66 S]
    refine (bnd (xal_eq (a := 218) (v := xm G 218 k) (ia_218 S (by omega) (by omega)) rfl)).trans ?_
    rw [if_neg (by omega), gM S, pt_173_66 S, gM S, pt_173_66 S]
    refine (bnd (xal_eq (a := 218) (v := xm G 218 j) (ia_218 S (by omega) (by omega)) rfl)).trans ?_
    refine (bnd (xas_eq (a := 218) (ia_218 S (by omega) (by omega)))).trans ?_
    rw [← e0, gM S0, pt_173_66 S0, gM S0, pt_173_66 S0]
    refine (bnd (xal_eq (a := 218) (v := xm G 218 i) (ia_218 S0 (by omega) (by omega)) (by rw [e0, xm_xset, if_neg (by omega)]))).trans ?_
    refine (bnd (xas_eq (a := 218) (ia_218 S0 (by omega) (by omega)))).trans ?_
    rw [← e1, gM S1, pt_173_66 S1]
    refine (bnd (xas_eq (a := 218) (ia_218 S1 (by omega) (by omega)))).trans ?_
    rw [← e2, xM S2]
    exact b_some9 _
  · unfold mvt
    rw [if_neg (by omega), Int.toNat_natCast, dg_swp ht, dg_swp (trp_lt hk hj ht)]
    rw [e2, xm_xset]
    by_cases y : t = i
    · have : trp i k (trp k j t) = k := by
        unfold trp
        rw [if_neg (show ¬ t = k by omega), if_neg (show ¬ t = j by omega), if_pos y]
      rw [if_pos ⟨rfl, y⟩, this]
      exact O k hk
    · rw [if_neg (fun q => y q.2), e1, xm_xset]
      by_cases z : t = j
      · have : trp i k (trp k j t) = i := by
          unfold trp
          rw [if_neg (show ¬ t = k by omega), if_pos z, if_neg (show ¬ k = i by omega), if_pos rfl]
        rw [if_pos ⟨rfl, z⟩, this]
        exact O i hi
      · rw [if_neg (fun q => z q.2), e0, xm_xset]
        by_cases w : t = k
        · have : trp i k (trp k j t) = j := by
            unfold trp
            rw [if_pos w, if_neg (show ¬ j = i by omega), if_neg (show ¬ j = k by omega)]
          rw [if_pos ⟨rfl, w⟩, this]
          exact O j hj
        · have : trp i k (trp k j t) = t := by
            unfold trp
            rw [if_neg w, if_neg z, if_neg y, if_neg w]
          rw [if_neg (fun q => w q.2), this]
          exact O t ht
