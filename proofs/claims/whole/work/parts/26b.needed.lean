/-! ===== needed ===== -/
theorem xsum_one {P : Nat → Prop} [DecidablePred P] {n i : Nat} (hn : n ≤ 6) (hi : i < n) (hp : P i) (hu : ∀ j, j < n → P j → j = i) : xsum (fun j => if P j then 1 else 0) n = 1 := by
  have h0 : ∀ m, m ≤ i → xsum (fun j => if P j then 1 else 0) m = 0 := by
    intro m
    induction m with
    | zero => intro _; rfl
    | succ m ih =>
      intro hm
      simp only [xsum]
      rw [ih (by omega), if_neg (fun q => by have := hu m (by omega) q; omega)]
      rfl
  have h1 : ∀ m, i < m → m ≤ n → xsum (fun j => if P j then 1 else 0) m = 1 := by
    intro m
    induction m with
    | zero => intro h; omega
    | succ m ih =>
      intro h h2
      simp only [xsum]
      by_cases q : m = i
      · subst q
        rw [h0 m (by omega), if_pos hp]
        rfl
      · rw [ih (by omega) (by omega), if_neg (fun z => q (hu m (by omega) z))]
        rfl
  exact h1 n hi (Nat.le_refl _)
theorem xsum_two {P : Nat → Prop} [DecidablePred P] {n i j : Nat} (hn : n ≤ 6) (hi : i < n) (hj : j < n) (hp : P i) (hq : P j) (hij : i ≠ j) : xsum (fun j => if P j then 1 else 0) n ≠ 1 := by
  have hb : ∀ m, m ≤ 6 → (0 ≤ xsum (fun j => if P j then 1 else 0) m ∧ xsum (fun j => if P j then 1 else 0) m ≤ m) := by
    intro m
    induction m with
    | zero => intro _; exact ⟨Int.le_refl _, Int.le_refl _⟩
    | succ m ih =>
      intro h
      have := ih (by omega)
      simp only [xsum]
      split
      · rw [w32_id (by omega) (by omega)]; omega
      · rw [w32_id (by omega) (by omega)]; omega
  have hs : ∀ m, m + 1 ≤ 6 → xsum (fun j => if P j then 1 else 0) (m + 1) = xsum (fun j => if P j then 1 else 0) m + (if P m then 1 else 0) := by
    intro m hm
    have := hb m (by omega)
    show w32 (xsum (fun j => if P j then 1 else 0) m + (if P m then 1 else 0)) = _
    rw [w32_id]
    · split <;> omega
    · split <;> omega
  have h1 : ∀ m k, k < m → m ≤ 6 → P k → 1 ≤ xsum (fun j => if P j then 1 else 0) m := by
    intro m
    induction m with
    | zero => intro k h; omega
    | succ m ih =>
      intro k h h2 h3
      have := hb m (by omega)
      rw [hs m (by omega)]
      by_cases q : k = m
      · subst q; rw [if_pos h3]; omega
      · have := ih k (by omega) (by omega) h3
        split <;> omega
  have h2 : ∀ m a b, a < b → b < m → m ≤ 6 → P a → P b → 2 ≤ xsum (fun j => if P j then 1 else 0) m := by
    intro m
    induction m with
    | zero => intro a b h h2; omega
    | succ m ih =>
      intro a b h g h3 h4 h5
      rw [hs m (by omega)]
      by_cases q : b = m
      · subst q
        have := h1 b a h (by omega) h4
        rw [if_pos h5]; omega
      · have := ih a b h (by omega) (by omega) h4 h5
        split <;> omega
  rcases Nat.lt_or_gt_of_ne hij with q | q
  · have := h2 n i j q hj hn hp hq; omega
  · have := h2 n j i q hi hn hq hp; omega
theorem wantsEq {h : xa_H} (N : Rn h) {n i j : Nat} (hn : n = (xm h 199 4).toNat) (hn6 : xm h 199 4 ≤ 6) (h1 : src h i ≠ -1) (h2 : src h j ≠ -1) (hi : i < n) (hj : j < n) : src h i = src h j ↔ xm h 212 (1 + 9 * i + 1) = xm h 212 (1 + 9 * j + 1) := by
  constructor
  · intro e
    obtain ⟨a, a1, a2, a3, a4⟩ := src_lt hn6 h1
    obtain ⟨b, b1, b2, b3, b4⟩ := src_lt hn6 h2
    have : a = b := by
      have := a1.symm.trans (e.trans b1)
      omega
    subst this
    exact a4.symm.trans b4
  · intro e
    unfold src
    rw [e]
theorem s_areWanted {h : xa_H} {s : Nat} (S : SH h) (C : Rc h s) (N : Rn h) : ∃ r, f_X12_areWanted 173 h = some r ∧ ((r = 1 ∧ srcOK h (xm h 199 4).toNat) ∨ (r = 0 ∧ ¬ srcOK h (xm h 199 4).toNat)) := by
  have hn := rc_n C
  obtain ⟨n, en⟩ : ∃ n, n = (xm h 199 4).toNat := ⟨_, rfl⟩
  have step : ∀ i, i < n → f_X12_areWanted_L2 173 h (i : Int) = if xsum (fun j => if xm h 212 (1 + 9 * j + 1) = xm h 212 (1 + 9 * i + 1) then 1 else 0) n = 1 then (if src h i = -1 then some (.inr (.inl 0)) else some (.inl ((i : Int) + 1))) else some (.inr (.inl 0)) := by
    intro i hi
    have q : (i : Int) < xm h 199 4 := by omega
    unfold f_X12_areWanted_L2
    simp (disch := omega) only [↓reduceIte, ↓bbind, ↓bxgf, ↓bxal, ↓bxrc, ok_173 S, s_X12_holderMany S, if_pos q, s_X12_wantedBy S, lx_wantM S C, s_X12_holderOf S C, Option.bind_some, w32_id, ← en]
    rw [show xfind (fun i_1 => decide (xm h 212 (1 + 9 * i_1) = xm h 212 (1 + 9 * i + 1))) n = src h i by rw [en]; rfl]
  obtain ⟨e, he, hq⟩ := xit_inv (f := fun s => f_X12_areWanted_L2 173 h s) (fun t => ∃ i : Nat, i ≤ n ∧ t = (i : Int) ∧ ∀ j, j < i → src h j ≠ -1 ∧ ∀ k, k < n → xm h 212 (1 + 9 * k + 1) = xm h 212 (1 + 9 * j + 1) → k = j) (fun t => 6 - t.toNat)
    (fun e => (e = .inr () ∧ srcOK h n) ∨ (e = .inl 0 ∧ ¬ srcOK h n)) 0 ⟨0, by omega, rfl, fun j hj => by omega⟩ (by show 6 - (0 : Int).toNat < 1000000; omega) (by
    rintro t ⟨i, h1, rfl, h2⟩
    by_cases q : i < n
    · rw [step i q]
      by_cases z1 : xsum (fun j => if xm h 212 (1 + 9 * j + 1) = xm h 212 (1 + 9 * i + 1) then 1 else 0) n = 1
      · rw [if_pos z1]
        by_cases z2 : src h i = -1
        · exact Or.inr ⟨_, if_pos z2, Or.inr ⟨rfl, fun o => o.1 i q z2⟩⟩
        · refine Or.inl ⟨_, if_neg z2, ⟨i + 1, by omega, by omega, fun j hj => ?_⟩, by omega⟩
          by_cases y : j = i
          · subst y
            refine ⟨z2, fun k hk e => ?_⟩
            by_cases y2 : k = j
            · exact y2
            · exact absurd z1 (xsum_two (P := fun j' => xm h 212 (1 + 9 * j' + 1) = xm h 212 (1 + 9 * j + 1)) (by omega) hk q e rfl y2)
          · exact h2 j (by omega)
      · refine Or.inr ⟨_, if_neg z1, Or.inr ⟨rfl, fun o => z1 ?_⟩⟩
        refine xsum_one (P := fun j' => xm h 212 (1 + 9 * j' + 1) = xm h 212 (1 + 9 * i + 1)) (by omega) q rfl (fun j hj e => ?_)
        exact o.2 j i hj q ((wantsEq N en hn.2 (o.1 j hj) (o.1 i q) hj q).mpr e)
    · have q' : ¬ (i : Int) < xm h 199 4 := by omega
      refine Or.inr ⟨.inr (), ?_, Or.inl ⟨rfl, fun j hj => (h2 j (by omega)).1, fun j k hj hk e => ?_⟩⟩
      · unfold f_X12_areWanted_L2
        simp (disch := omega) only [↓reduceIte, ↓bbind, ↓bxgf, ↓bxal, ↓bxrc, ok_173 S, s_X12_holderMany S, if_neg q', Option.bind_some]
      · exact (h2 k (by omega)).2 j hj ((wantsEq N en hn.2 (h2 j (by omega)).1 (h2 k (by omega)).1 hj hk).mp e))
  unfold f_X12_areWanted
  rw [he, ← en]
  rcases hq with ⟨rfl, q⟩ | ⟨rfl, q⟩
  · exact ⟨1, rfl, Or.inl ⟨rfl, q⟩⟩
  · exact ⟨0, rfl, Or.inr ⟨rfl, q⟩⟩
theorem rr_arr {h : xa_H} {s F1 F2 T2 T3 a : Nat} (R : RR h s F1 F2 T2 T3) (F : Nat → Int) (h0 : fixa a = false) (d1 : ∀ k, DK a k = false) (d2 : ∀ k, DRt a k = false) (d3 : ∀ k, DRr a k = false) (d4 : ∀ k, DRf a k = false) (d5 : ∀ k, DRn a k = false) (d6 : ∀ k, DRh a k = false) (d7 : ∀ k, DRj a k = false) (d8 : ∀ k, DRi a k = false) (d9 : ∀ k, DRs a k = false) (d0 : ∀ k, DRo2 a k = false) : RR (xarr h a F) s F1 F2 T2 T3 :=
  R.mvL ((rr_S R).arr h0) (Nat.le_refl _) (fun _ _ => rfl) (agr_arr d1 (agr_refl _ _)) ((rr_t R).mv (agr_arr d2 (agr_refl _ _))) ((rr_r R).mv (agr_arr d3 (agr_refl _ _))) ((rr_f R).mv (agr_arr d4 (agr_refl _ _))) ((rr_n R).mv (agr_arr d5 (agr_refl _ _))) ((rr_h R).mv (agr_arr d6 (agr_refl _ _))) ((rr_j R).mv (agr_arr d7 (agr_refl _ _))) ((rr_i R).mv (agr_arr d8 (agr_refl _ _))) ((rr_s R).mv (agr_arr d9 (agr_refl _ _))) ((rr_2 R).mv (agr_arr d0 (agr_refl _ _)))
/-- a call of the class that writes, one of the reference that does not -/
theorem c_needed {h : xa_H} {s F1 F2 T2 T3 : Nat} (R : RR h s F1 F2 T2 T3) (v : Int) : CallOK h (f_X11_needed 0 v h) (fun g => (f_X12_needed 173 v g).bind fun r => some (r, g)) := by
  have S := rr_S R
  have C := rr_c R
  have N := rr_n R
  have hn := rc_n C
  by_cases q : 0 ≤ v ∧ v < xm h 199 4
  · obtain ⟨i, rfl⟩ : ∃ i : Nat, v = (i : Int) := ⟨v.toNat, by omega⟩
    obtain ⟨r, h', e1, hr⟩ := s_findSources S C N
    have R' : ∀ F, RR (xarr h 169 F) s F1 F2 T2 T3 := fun F => rr_arr R F (by decide +kernel) (fun _ => rfl) (fun _ => rfl) (fun _ => rfl) (fun _ => rfl) (fun _ => rfl) (fun _ => rfl) (fun _ => rfl) (fun _ => rfl) (fun _ => rfl) (fun _ => rfl)
    rcases hr with ⟨rfl, ho, rfl⟩ | ⟨rfl, ho, F, rfl⟩
    · have S' := rr_S (R' (fun k => if k < (xm h 199 4).toNat then src h k else xm h 169 k))
      have C' := rr_c (R' (fun k => if k < (xm h 199 4).toNat then src h k else xm h 169 k))
      have N' := rr_n (R' (fun k => if k < (xm h 199 4).toNat then src h k else xm h 169 k))
      obtain ⟨H, hH⟩ : ∃ H, H = xarr h 169 (fun k => if k < (xm h 199 4).toNat then src h k else xm h 169 k) := ⟨_, rfl⟩
      rw [← hH] at S' C' N' e1
      have ms : ∀ a k, a ≠ 169 → xm H a k = xm h a k := fun a k z => by rw [hH, xm_xarr, if_neg z]
      have mo : ∀ k : Nat, (k : Int) < xm h 199 4 → xm H 169 k = src h k := fun k z => by rw [hH, xm_xarr, if_pos rfl, if_pos (by omega)]
      have hsrc : ∀ k, src H k = src h k := fun k => by
        unfold src
        rw [ms 199 4 (by omega), ms 212 _ (by omega)]
        exact xfind_congr (fun j _ => by rw [ms 212 _ (by omega)])
      have nat : ∀ k, k < (xm h 199 4).toNat → src h k = (((src h k).toNat : Nat) : Int) ∧ (src h k).toNat < (xm h 199 4).toNat := fun k hk => by
        obtain ⟨j, j1, j2, -, -⟩ := src_lt hn.2 (ho.1 k hk)
        omega
      obtain ⟨t, t1, t2, t3, t4⟩ := itr_ret (f := fun k => (src h k).toNat) (n := (xm h 199 4).toNat) (x := i) (fun k hk => (nat k hk).2) (fun a b ha hb e => ho.2 a b ha hb (by rw [(nat a ha).1, (nat b hb).1]; exact congrArg _ e)) (by omega)
      have il : ∀ k, itr (fun k => (src h k).toNat) i k < (xm h 199 4).toNat := itr_lt (fun k hk => (nat k hk).2) (by omega)
      have hs : ∀ k, src h (itr (fun k => (src h k).toNat) i k) = ((itr (fun k => (src h k).toNat) i (k + 1) : Nat) : Int) := fun k => (nat _ (il k)).1
      have l1 := xit_seq (f := fun s => f_X11_needed_L26 0 (i : Int) H s.1 s.2) (fun k => (((k + 1 : Nat) : Int), ((itr (fun k => (src h k).toNat) i (k + 1) : Nat) : Int))) (t - 1) (t : Int) (fun k hk => by
        unfold f_X11_needed_L26
        have g1 : ¬ ((itr (fun k => (src h k).toNat) i (k + 1) : Nat) : Int) = (i : Int) := by
          have := t4 (k + 1) (by omega) (by omega)
          omega
        have g2 : ((k + 1 : Nat) : Int) < 6 := by omega
        have g3 := il (k + 1)
        simp (disch := omega) only [↓reduceIte, ↓bbind, ↓bxgf, ↓bxal, ↓bxrc, if_neg g1, if_pos g2, ok_0 S', pt_0_13 S', ia_169 S', Int.reduceToNat, Int.toNat_natCast, mo _, hs, w32_id]
        rfl) (by
        unfold f_X11_needed_L26
        dsimp only
        rw [show t - 1 + 1 = t by omega, t3, if_pos rfl]) (by omega)
      have l2 := xit_seq (f := fun s => f_X12_needed_L29 173 (i : Int) H s.1 s.2) (fun k => (((k + 1 : Nat) : Int), ((itr (fun k => (src h k).toNat) i (k + 1) : Nat) : Int))) (t - 1) (t : Int) (fun k hk => by
        unfold f_X12_needed_L29
        have g1 : ¬ ((itr (fun k => (src h k).toNat) i (k + 1) : Nat) : Int) = (i : Int) := by
          have := t4 (k + 1) (by omega) (by omega)
          omega
        have g3 := il (k + 1)
        have g4 : f_X12_holderOf 173 (xm H 212 (1 + 9 * itr (fun k => (src h k).toNat) i (k + 1) + 1)) H = some (((itr (fun k => (src h k).toNat) i (k + 2) : Nat) : Int)) := by
          rw [s_X12_holderOf S' C']
          exact congrArg some ((hsrc (itr (fun k => (src h k).toNat) i (k + 1))).trans (hs (k + 1)))
        simp (disch := omega) only [↓reduceIte, ↓bbind, ↓bxgf, ↓bxal, ↓bxrc, if_neg g1, ok_173 S', s_X12_wantedBy S', Option.bind_some, g4, w32_id]
        rfl) (by
        unfold f_X12_needed_L29
        dsimp only
        rw [show t - 1 + 1 = t by omega, t3, if_pos rfl]) (by omega)
      refine CallOK.same (v := (t : Int)) (h1 := H) (h2 := H) ?_ ?_ ⟨s, F1, F2, T2, T3, by rw [hH]; exact R' _⟩ (by rw [hH]; rfl) (by rw [hH]; rfl)
      · unfold f_X11_needed
        have z0 : src h i = ((itr (fun k => (src h k).toNat) i (0 + 1) : Nat) : Int) := hs 0
        simp (disch := omega) only [↓reduceIte, ↓bbind, ↓bxrc, ok_0 S, s_X11_isHolder S C, if_pos q, Option.bind_some, e1]
        simp (disch := omega) only [↓reduceIte, ↓bbind, ↓bxgf, ↓bxal, ↓bxrc, ok_0 S', pt_0_13 S', ia_169 S', Int.reduceToNat, Int.toNat_natCast, mo _]
        rw [z0]
        refine (bnd l1).trans ?_
        rfl
      · unfold f_X12_needed
        have q' : 0 ≤ (i : Int) ∧ (i : Int) < xm H 199 4 := by rw [ms 199 4 (by omega)]; exact q
        obtain ⟨r2, f1, f2⟩ := s_areWanted S' C' N'
        have o' : srcOK H (xm H 199 4).toNat := by
          rw [ms 199 4 (by omega)]
          exact ⟨fun k hk => by rw [hsrc]; exact ho.1 k hk, fun a b ha hb e => ho.2 a b ha hb (by rw [← hsrc a, ← hsrc b]; exact e)⟩
        have r1 : r2 = 1 := by
          rcases f2 with ⟨e, -⟩ | ⟨-, e⟩
          · exact e
          · exact absurd o' e
        subst r1
        have z0 : f_X12_holderOf 173 (xm H 212 (1 + 9 * i + 1)) H = some (((itr (fun k => (src h k).toNat) i (0 + 1) : Nat) : Int)) := by
          rw [s_X12_holderOf S' C']
          exact congrArg some ((hsrc i).trans (hs 0))
        simp (disch := omega) only [↓reduceIte, ↓bbind, ↓bxrc, ok_173 S', s_X12_isHolder S' C', if_pos q', Option.bind_some, f1, s_X12_wantedBy S', z0]
        have l2' : xit (fun s => f_X12_needed_L29 173 (i : Int) H s.1 s.2) xFU (1, ((itr (fun k => (src h k).toNat) i (0 + 1) : Nat) : Int)) = some (t : Int) := l2
        rw [l2']
        rfl
    · have S' := rr_S (R' F)
      have C' := rr_c (R' F)
      have N' := rr_n (R' F)
      obtain ⟨H, hH⟩ : ∃ H, H = xarr h 169 F := ⟨_, rfl⟩
      rw [← hH] at S' C' N' e1
      have ms : ∀ a k, a ≠ 169 → xm H a k = xm h a k := fun a k z => by rw [hH, xm_xarr, if_neg z]
      have hsrc : ∀ k, src H k = src h k := fun k => by
        unfold src
        rw [ms 199 4 (by omega), ms 212 _ (by omega)]
        exact xfind_congr (fun j _ => by rw [ms 212 _ (by omega)])
      refine CallOK.same (v := -1) (h1 := H) (h2 := H) ?_ ?_ ⟨s, F1, F2, T2, T3, by rw [hH]; exact R' _⟩ (by rw [hH]; rfl) (by rw [hH]; rfl)
      · unfold f_X11_needed
        simp (disch := omega) only [↓reduceIte, ↓bbind, ↓bxgf, ↓bxpf, ↓bxal, ↓bxas, ↓bxrc, ↓exrc, Int.reduceEq, Int.reduceLT, Int.reduceNeg, Int.reduceToNat, Int.toNat_natCast, Option.bind_some, if_true, if_false, reduceIte, ok_0 S, s_X11_isHolder S C, if_pos q, e1]
      · unfold f_X12_needed
        have q' : 0 ≤ (i : Int) ∧ (i : Int) < xm H 199 4 := by rw [ms 199 4 (by omega)]; exact q
        obtain ⟨r2, f1, f2⟩ := s_areWanted S' C' N'
        have o' : ¬ srcOK H (xm H 199 4).toNat := by
          rw [ms 199 4 (by omega)]
          intro o
          exact ho ⟨fun k hk => by rw [← hsrc]; exact o.1 k hk, fun a b ha hb e => o.2 a b ha hb (by rw [hsrc a, hsrc b]; exact e)⟩
        have r1 : r2 = 0 := by
          rcases f2 with ⟨-, e⟩ | ⟨e, -⟩
          · exact absurd e o'
          · exact e
        subst r1
        simp (disch := omega) only [↓reduceIte, ↓bbind, ↓bxrc, ok_173 S', s_X12_isHolder S' C', if_pos q', ↓reduceIte, ↓bbind, ↓bxgf, ↓bxpf, ↓bxal, ↓bxas, ↓bxrc, ↓exrc, Int.reduceEq, Int.reduceLT, Int.reduceNeg, Int.reduceToNat, Int.toNat_natCast, Option.bind_some, if_true, if_false, reduceIte, f1]
  · refine CallOK.same (v := -1) (h1 := h) (h2 := h) ?_ ?_ ⟨s, F1, F2, T2, T3, R⟩ rfl rfl
    · unfold f_X11_needed
      simp (disch := omega) only [↓reduceIte, ↓bbind, ↓bxrc, ok_0 S, s_X11_isHolder S C, if_neg q, Option.bind_some]
    · unfold f_X12_needed
      simp (disch := omega) only [↓reduceIte, ↓bbind, ↓bxrc, ok_173 S, s_X12_isHolder S C, if_neg q, Option.bind_some]
