/-! ===== is the tape a ring ===== -/
def okR (T : Nat → Int) (n i : Nat) : Prop := (∀ j, j < i → 0 ≤ T j ∧ T j < (n : Int)) ∧ ∀ a b, a < i → b < i → T a = T b → a = b
theorem rd_loop {f : Int × Int → Option ((Int × Int) ⊕ ((Int × xa_H) ⊕ Unit))} {h : xa_H} {T : Nat → Int} {n k : Nat} (hn : n ≤ 6) (st : ∀ (v : Int) (i : Nat), i < k → f (v, (i : Int)) = if ¬ (0 ≤ T i ∧ T i < (n : Int)) then some (.inr (.inl (0, h))) else if xand (xshr v (T i)) 1 = 1 then some (.inr (.inl (0, h))) else some (.inl (xior v (xshl 1 (T i)), ((i + 1 : Nat) : Int)))) (en : ∀ v, f (v, (k : Int)) = some (.inr (.inr ()))) :
    ∀ t i, i + t = k → ∀ M : Nat, M < 64 → okR T n i → (∀ x, x < 6 → (M.testBit x = true ↔ ∃ j, j < i ∧ T j = (x : Int))) → ∀ fu, t < fu → (okR T n k ∧ xit f fu ((M : Int), (i : Int)) = some (.inr ())) ∨ (¬ okR T n k ∧ xit f fu ((M : Int), (i : Int)) = some (.inl (0, h))) := by
  intro t
  induction t with
  | zero =>
    intro i hit M hM ok hb fu hf
    have : i = k := by omega
    subst this
    exact Or.inl ⟨ok, xit_end (en _) hf⟩
  | succ t ih =>
    intro i hit M hM ok hb fu hf
    obtain ⟨fu, rfl⟩ : ∃ z, fu = z + 1 := ⟨fu - 1, by omega⟩
    have s := st (M : Int) i (by omega)
    by_cases a : 0 ≤ T i ∧ T i < (n : Int)
    · rw [if_neg (fun c => c a)] at s
      obtain ⟨x, ex⟩ : ∃ x : Nat, T i = (x : Int) := ⟨(T i).toNat, by omega⟩
      have x6 : x < 6 := by omega
      rw [ex, b_bit M hM x x6] at s
      by_cases b : M.testBit x = true
      · rw [if_pos b, if_pos rfl] at s
        refine Or.inr ⟨fun c => ?_, xit_end s (by omega)⟩
        obtain ⟨j, j1, j2⟩ := (hb x x6).mp b
        have := c.2 j i (by omega) (by omega) (by rw [j2, ex])
        omega
      · rw [if_neg b, if_neg (by decide), (b_set M hM x x6).1] at s
        have ok' : okR T n (i + 1) := by
          refine ⟨fun j hj => ?_, fun a' b' ha hb' hab => ?_⟩
          · by_cases y : j = i
            · rw [y]; exact a
            · exact ok.1 j (by omega)
          · by_cases y : a' = i
            · by_cases z : b' = i
              · omega
              · exfalso
                exact b ((hb x x6).mpr ⟨b', by omega, by rw [← hab, y, ex]⟩)
            · by_cases z : b' = i
              · exfalso
                exact b ((hb x x6).mpr ⟨a', by omega, by rw [hab, z, ex]⟩)
              · exact ok.2 a' b' (by omega) (by omega) hab
        have hb2 : ∀ y, y < 6 → ((M ||| 2 ^ x).testBit y = true ↔ ∃ j, j < i + 1 ∧ T j = (y : Int)) := by
          intro y hy
          rw [Nat.testBit_or, Nat.testBit_two_pow, Bool.or_eq_true, hb y hy, decide_eq_true_iff]
          constructor
          · rintro (⟨j, j1, j2⟩ | e)
            · exact ⟨j, by omega, j2⟩
            · exact ⟨i, by omega, by rw [ex, e]⟩
          · rintro ⟨j, j1, j2⟩
            by_cases z : j = i
            · right
              rw [z, ex] at j2
              omega
            · exact Or.inl ⟨j, by omega, j2⟩
        rw [xit_go s]
        exact ih (i + 1) (by omega) (M ||| 2 ^ x) (b_set M hM x x6).2 ok' hb2 fu (by omega)
    · rw [if_pos a] at s
      exact Or.inr ⟨fun c => a (c.1 i (by omega)), xit_end s (by omega)⟩
def mkA (H : xa_H) (A : Nat) (T : Nat → Int) : Nat → xa_H
  | 0 => H
  | i + 1 => xset (mkA H A T i) A i (T i)
theorem mkA_n (H : xa_H) (A : Nat) (T : Nat → Int) : ∀ i, xn (mkA H A T i) = xn H ∧ xz (mkA H A T i) = xz H ∧ xk (mkA H A T i) = xk H
  | 0 => ⟨rfl, rfl, rfl⟩
  | i + 1 => mkA_n H A T i
theorem mkA_m {H : xa_H} {A : Nat} {T : Nat → Int} {a k : Nat} : ∀ i, xm (mkA H A T i) a k = if a = A ∧ k < i then T k else xm H a k
  | 0 => by rw [if_neg (by omega)]; rfl
  | i + 1 => by
    show xm (xset (mkA H A T i) A i (T i)) a k = _
    rw [xm_xset]
    by_cases y : a = A ∧ k = i
    · rw [if_pos y, if_pos (by omega), y.2]
    · rw [if_neg y, mkA_m i]
      by_cases z : a = A ∧ k < i
      · rw [if_pos z, if_pos (by omega)]
      · rw [if_neg z, if_neg (by omega)]
theorem mkA_S {H : xa_H} {A : Nat} {T : Nat → Int} (S : SH H) (hA : ∀ k, fixd A k = false) : ∀ i, SH (mkA H A T i)
  | 0 => S
  | i + 1 => (mkA_S S hA i).set (hA i)
theorem c_readRing {H : xa_H} {s n q k : Nat} (S : SH H) (C : Rc H s) (T : RtB H) (hq : isQ q) (en : xm H 199 4 = (n : Int)) (hk : k ≤ 1600) :
    ((2 ≤ k ∧ k ≤ 6 ∧ okR (xm H 174) n k) ∧ f_X11_readRing 0 (q : Int) (k : Int) H = some (1, xset (mkA H (q + 1) (xm H 174) k) q 1 (k : Int))) ∨ (¬ (2 ≤ k ∧ k ≤ 6 ∧ okR (xm H 174) n k) ∧ f_X11_readRing 0 (q : Int) (k : Int) H = some (0, H)) := by
  have n6 := rc_n C
  have hq' : q = 148 ∨ q = 153 := hq
  unfold f_X11_readRing
  by_cases k2 : k < 2
  · exact Or.inr ⟨fun c => by omega, by rw [if_pos (by omega)]⟩
  rw [if_neg (by omega)]
  by_cases k6 : 6 < k
  · exact Or.inr ⟨fun c => by omega, by rw [if_pos (by omega)]⟩
  rw [if_neg (by omega)]
  have l := rd_loop (f := fun u : Int × Int => f_X11_readRing_L18 0 (q : Int) (k : Int) H u.1 u.2) (h := H) (T := xm H 174) (n := n) (k := k) (by omega) (fun v i hi => by
    show f_X11_readRing_L18 0 (q : Int) (k : Int) H v (i : Int) = _
    unfold f_X11_readRing_L18
    rw [if_pos (by omega), x0o S, s_tapeByte S T (by omega), bbind, x0o S, s_X11_isHolder S C, bbind, iff01, en]
    by_cases a : 0 ≤ xm H 174 i ∧ xm H 174 i < (n : Int)
    · rw [if_pos a, if_neg (c := ¬ (0 ≤ xm H 174 i ∧ xm H 174 i < (n : Int))) (fun c => c a), wS (by omega)]
    · rw [if_neg a, if_pos a]) (fun v => by
    show f_X11_readRing_L18 0 (q : Int) (k : Int) H v (k : Int) = _
    unfold f_X11_readRing_L18
    rw [if_neg (by omega)]) k 0 (by omega) 0 (by omega) ⟨fun j hj => by omega, fun a b ha => by omega⟩ (fun x hx => by simp) xFU (by unfold xFU; omega)
  rcases l with ⟨ok, e⟩ | ⟨ok, e⟩
  · refine Or.inl ⟨⟨by omega, by omega, ok⟩, ?_⟩
    refine (bnd e).trans ?_
    have SA : ∀ i, SH (mkA H (q + 1) (xm H 174) i) := mkA_S S (fun j => q_nf hq (Or.inr ⟨by omega, by omega⟩))
    have e74 : ∀ i j, xm (mkA H (q + 1) (xm H 174) i) 174 j = xm H 174 j := fun i j => by rw [mkA_m, if_neg (by omega)]
    have TA : ∀ i, RtB (mkA H (q + 1) (xm H 174) i) := fun i j hj => by
      rw [e74, mkA_m (a := 1), if_neg (by omega)]
      exact T j hj
    have lp := xit_seq (f := fun u : Int × xa_H => f_X11_readRing_L69 0 (q : Int) (k : Int) u.1 u.2) (fun i => ((i : Int), mkA H (q + 1) (xm H 174) i)) k (mkA H (q + 1) (xm H 174) k) (fun i hi => by
      show f_X11_readRing_L69 0 (q : Int) (k : Int) (i : Int) _ = _
      unfold f_X11_readRing_L69
      rw [if_pos (by omega), gQ (SA i) hq, q_0 (SA i) hq, x0o (SA i), s_tapeByte (SA i) (TA i) (by omega), bbind, e74]
      refine (bnd (xas_eq (q_i1 (SA i) hq (by omega)))).trans ?_
      rw [wS (by omega)]
      rfl) (by
      show f_X11_readRing_L69 0 (q : Int) (k : Int) (k : Int) _ = _
      unfold f_X11_readRing_L69
      rw [if_neg (by omega)]) (by omega)
    refine (bnd lp).trans ?_
    exact (bnd (xpf_eq (q_ok (SA k) hq))).trans rfl
  · refine Or.inr ⟨fun c => ok c.2.2, ?_⟩
    exact (bnd e).trans rfl
theorem m_isHolder {h G : xa_H} (Q : MV h G) {n : Nat} (hn : n ≤ 6) (en : xm h 199 4 = (n : Int)) (v : Int) : f_X12_isHolder 173 v G = some (if 0 ≤ v ∧ v < (n : Int) then 1 else 0) := by
  have S := Q.1
  have i1 : xia G 0 199 ((4 : Nat) : Int) = true := ia_199 S (by omega) (by omega)
  have hm : f_X12_holderMany 173 G = some (n : Int) := by
    unfold f_X12_holderMany
    rw [gM S, pt_173_34 S]
    exact (bnd (xal_eq (a := 199) i1 ((Q.2 199 4 (by omega)).trans en))).trans rfl
  unfold f_X12_isHolder f_X12_isIn
  rw [xM S, hm, bbind, wM1 (by omega)]
  by_cases a : v < 0
  · rw [if_pos (cmp_lt.mpr a), bbind, xbo_ok (Or.inl rfl), if_neg (by omega)]
  · rw [if_neg (fun c => a (cmp_lt.mp c))]
    by_cases b : (n : Int) - 1 < v
    · rw [if_pos (cmp_gt.mpr b), bbind, xbo_ok (Or.inl rfl), if_neg (by omega)]
    · rw [if_neg (fun c => b (cmp_gt.mp c)), bbind, xbo_ok (Or.inr rfl), if_pos (by omega)]
theorem m_isRing {h G : xa_H} {n k : Nat} (Q : MV h G) (hn : n ≤ 6) (en : xm h 199 4 = (n : Int)) (ek : xm G 173 1 = (k : Int)) (hk : k ≤ 1600) :
    ((2 ≤ k ∧ k ≤ 6 ∧ okR (xm G 174) n k) ∧ f_X12_isRing 173 G = some (1, xset (mkA (xset G 173 1 0) 213 (xm G 174) k) 173 56 (k : Int))) ∨ (¬ (2 ≤ k ∧ k ≤ 6 ∧ okR (xm G 174) n k) ∧ f_X12_isRing 173 G = some (0, xset G 173 1 0)) := by
  have S := Q.1
  obtain ⟨G0, e0⟩ : ∃ z, z = xset G 173 1 0 := ⟨_, rfl⟩
  have Q0 : MV h G0 := by
    refine ⟨by rw [e0]; exact S.set (by decide +kernel), fun a k hd => ?_⟩
    rw [e0, xm_xset, if_neg (by omega)]
    exact Q.2 a k hd
  have S0 := Q0.1
  have e74 : ∀ j, xm G0 174 j = xm G 174 j := fun j => by rw [e0, xm_xset, if_neg (by omega)]
  rw [← e0]
  unfold f_X12_isRing f_X12_isIn
  rw [gM S, ek, pMf S, ← e0]
  by_cases k2 : k < 2
  · exact Or.inr ⟨fun c => by omega, by rw [if_pos (cmp_lt.mpr (by omega)), bbind, if_pos rfl]⟩
  rw [if_neg (fun c => k2 (by have := cmp_lt.mp c; omega))]
  by_cases k6 : 6 < k
  · exact Or.inr ⟨fun c => by omega, by rw [if_pos (cmp_gt.mpr (by omega)), bbind, if_pos rfl]⟩
  rw [if_neg (fun c => k6 (by have := cmp_gt.mp c; omega)), bbind, if_neg one_ne]
  have at0 : ∀ i, i < k → xal G0 0 174 ((i : Nat) : Int) = some (xm G 174 i) := fun i hi => xal_eq (a := 174) (ia_174 S0 (by omega) (by omega)) (e74 i)
  have l := rd_loop (f := fun u : Int × Int => f_X12_isRing_L30 173 (k : Int) G0 u.1 u.2) (h := G0) (T := xm G 174) (n := n) (k := k) (by omega) (fun v i hi => by
    show f_X12_isRing_L30 173 (k : Int) G0 v (i : Int) = _
    unfold f_X12_isRing_L30
    rw [if_pos (by omega), gM S0, pt_173_0 S0, at0 i hi, bbind, xM S0, m_isHolder Q0 hn en, bbind, iff01]
    by_cases a : 0 ≤ xm G 174 i ∧ xm G 174 i < (n : Int)
    · rw [if_pos a, if_neg (c := ¬ (0 ≤ xm G 174 i ∧ xm G 174 i < (n : Int))) (fun c => c a), gM S0, pt_173_0 S0, at0 i hi, bbind, gM S0, pt_173_0 S0, at0 i hi, bbind, wS (by omega)]
    · rw [if_neg a, if_pos a]) (fun v => by
    show f_X12_isRing_L30 173 (k : Int) G0 v (k : Int) = _
    unfold f_X12_isRing_L30
    rw [if_neg (by omega)]) k 0 (by omega) 0 (by omega) ⟨fun j hj => by omega, fun a b ha => by omega⟩ (fun x hx => by simp) xFU (by unfold xFU; omega)
  rcases l with ⟨ok, e⟩ | ⟨ok, e⟩
  · refine Or.inl ⟨⟨by omega, by omega, ok⟩, ?_⟩
    refine (bnd e).trans ?_
    have SA : ∀ i, SH (mkA G0 213 (xm G 174) i) := mkA_S S0 (fun j => fixd_of (by decide +kernel))
    have lp := xit_seq (f := fun u : Int × xa_H => f_X12_isRing_L83 173 (k : Int) u.1 u.2) (fun i => ((i : Int), mkA G0 213 (xm G 174) i)) k (mkA G0 213 (xm G 174) k) (fun i hi => by
      have i1 : xia (mkA G0 213 (xm G 174) i) 0 213 (i : Int) = true := ia_213 (SA i) (by omega) (by omega)
      have i2 : xia (mkA G0 213 (xm G 174) i) 0 174 (i : Int) = true := ia_174 (SA i) (by omega) (by omega)
      show f_X12_isRing_L83 173 (k : Int) (i : Int) _ = _
      unfold f_X12_isRing_L83
      rw [if_pos (by omega), gM (SA i), pt_173_55 (SA i), gM (SA i), pt_173_0 (SA i)]
      refine (bnd (xal_eq (a := 174) (v := xm G 174 i) i2 (by rw [mkA_m, if_neg (by omega), e74]))).trans ?_
      refine (bnd (xas_eq (a := 213) i1)).trans ?_
      rw [wS (by omega)]
      rfl) (by
      show f_X12_isRing_L83 173 (k : Int) (k : Int) _ = _
      unfold f_X12_isRing_L83
      rw [if_neg (by omega)]) (by omega)
    refine (bnd lp).trans ?_
    rw [pMf (SA k)]
  · refine Or.inr ⟨fun c => ok c.2.2, ?_⟩
    exact (bnd e).trans rfl
