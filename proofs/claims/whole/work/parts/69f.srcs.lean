/-! ===== from whom everybody would get what he wants ===== -/
def hsv (h : xa_H) (j : Nat) : Int := xm h 212 (1 + 9 * j)
def wsv (h : xa_H) (i : Nat) : Int := xm h 212 (1 + 9 * i + 1)
def F69 (h H : xa_H) : Prop := xn H = xn h ∧ xz H = xz h ∧ xk H = xk h ∧ ∀ a k, a ≠ 169 → xm H a k = xm h a k
theorem F69.refl (h : xa_H) : F69 h h := ⟨rfl, rfl, rfl, fun _ _ _ => rfl⟩
theorem F69.set {h H : xa_H} (e : F69 h H) (k : Nat) (v : Int) : F69 h (xset H 169 k v) := ⟨e.1, e.2.1, e.2.2.1, fun a j y => by rw [xm_xset, if_neg (by omega)]; exact e.2.2.2 a j y⟩
theorem F69.sh {h H : xa_H} (e : F69 h H) (S : SH h) : SH H := S.fixed (by rw [e.1]; exact S.1) (fun a _ => by rw [e.2.2.1]) (fun a k hf => e.2.2.2 a k (by
  rintro rfl
  rw [show fixd 169 k = false from fixd_of (by decide +kernel)] at hf
  cases hf))
theorem fs_loop {h : xa_H} {s F1 F2 T2 T3 n : Nat} (R : RR h s F1 F2 T2 T3) (en : xm h 199 4 = (n : Int)) : ∀ r i, i + r = n → ∀ (H : xa_H) (f : Nat → Nat) (b : Nat), F69 h H → (∀ k, k < i → f k < n ∧ xm H 169 k = (f k : Int) ∧ hsv h (f k) = wsv h k) → (∀ k l, k < i → l < i → f k = f l → k = l) → b < 64 → (∀ v, v < 6 → (b.testBit v = true ↔ ∃ k, k < i ∧ f k = v)) → ∀ fu, r < fu →
    (∃ (H' : xa_H) (f' : Nat → Nat), xit (fun s => f_X11_findSources_L4 0 s.1 s.2.1 s.2.2) fu ((b : Int), (i : Int), H) = some (Sum.inr H') ∧ F69 h H' ∧ (∀ k, k < n → f' k < n ∧ xm H' 169 k = (f' k : Int) ∧ hsv h (f' k) = wsv h k) ∧ ∀ k l, k < n → l < n → f' k = f' l → k = l) ∨
    (∃ H', xit (fun s => f_X11_findSources_L4 0 s.1 s.2.1 s.2.2) fu ((b : Int), (i : Int), H) = some (Sum.inl (0, H')) ∧ F69 h H' ∧ ∀ f' : Nat → Nat, (∀ k, k < n → f' k < n ∧ hsv h (f' k) = wsv h k) → ¬ ∀ k l, k < n → l < n → f' k = f' l → k = l) := by
  have Sh := rr_S R
  have C := rr_c R
  have cs := C.2.1
  have n6 := rc_n C
  have cs1 := cs.1
  have inj : ∀ j k, j < n → k < n → hsv h j = hsv h k → j = k := fun j k hj hk e => by
    have := rr_n R
    have v := this.2.2.2.2.2.2.1 j k (by rw [en]; omega) (by rw [en]; omega)
    simp only [Nat.zero_add] at v
    exact v e
  intro r
  induction r with
  | zero =>
    intro i hir H f b F hf fi b6 hb fu hfu
    have : i = n := by omega
    subst this
    have S := F.sh Sh
    have ct : CS H s := cs.mv (by rw [F.1]; exact Nat.le_refl _) (fun a _ => by rw [F.2.2.1]) (fun a k y1 y2 => F.2.2.2 a k (by omega))
    refine Or.inl ⟨H, f, xit_end ?_ hfu, F, hf, fi⟩
    show f_X11_findSources_L4 0 (b : Int) (i : Int) H = _
    unfold f_X11_findSources_L4
    rw [g0k S, F.2.2.2 0 5 (by omega), C.1, gCS ct, F.2.2.2 s 2 (by omega), C.2.2.2.2.2.2.1, en, if_neg (by omega)]
  | succ r ih =>
    intro i hir H f b F hf fi b6 hb fu hfu
    obtain ⟨fu, rfl⟩ : ∃ z, fu = z + 1 := ⟨fu - 1, by omega⟩
    have S := F.sh Sh
    have ct : CS H s := cs.mv (by rw [F.1]; exact Nat.le_refl _) (fun a _ => by rw [F.2.2.1]) (fun a k y1 y2 => F.2.2.2 a k (by omega))
    have Cq : Rc H s := C.mv (by rw [F.1]; exact Nat.le_refl _) (fun a _ => by rw [F.2.2.1]) (fun a k hd => F.2.2.2 a k (by unfold DRc at hd; omega))
    have Nq : Rn H := (rr_n R).mv (fun a k hd => F.2.2.2 a k (by unfold DRn at hd; simp at hd; omega))
    have e94 : xm H 199 4 = (n : Int) := (F.2.2.2 199 4 (by omega)).trans en
    have ew : xm H 22 i = wsv h i := by
      rw [F.2.2.2 22 i (by omega)]
      have := rn_wants (rr_n R) (i := i) (by omega)
      exact this
    have ho := s_X9_holderOf S Cq Nq (wsv h i)
    rw [e94, Int.toNat_natCast] at ho
    have e12 : ∀ j, xm H 212 (1 + 9 * j) = hsv h j := fun j => F.2.2.2 212 _ (by omega)
    simp only [e12] at ho
    have hd : ∀ v, xfind (fun j => decide (hsv h j = wsv h i)) n = v → f_X11_findSources_L4 0 (b : Int) (i : Int) H = if v = -1 then some (Sum.inr (Sum.inl ((0, H)))) else if xand (xshr (b : Int) v) 1 = 1 then some (Sum.inr (Sum.inl ((0, H)))) else (xgf H 11 13 0).bind fun x13 => (xas H 0 x13 (i : Int) v).bind fun h14 => some (Sum.inl (xior (b : Int) (xshl 1 v), w32 ((i : Int) + 1), h14)) := by
      intro v ev
      rw [ev] at ho
      unfold f_X11_findSources_L4
      rw [g0k S, F.2.2.2 0 5 (by omega), C.1, gCS ct, F.2.2.2 s 2 (by omega), C.2.2.2.2.2.2.1, en, if_pos (by omega), g0k S, pt_0_6 S, g0k S, pt_0_6 S]
      refine (bnd (xgf_eq (a := 20) (ok_20 S) (pt_20_2 S))).trans ?_
      refine (bnd (xal_eq (a := 22) (ia_22 S (by omega) (by omega)) ew)).trans ?_
      rw [g0k S, F.2.2.2 0 5 (by omega), C.1, gCS ct, F.2.2.2 s 2 (by omega), C.2.2.2.2.2.2.1, en]
      exact bnd (by rw [show xrc H 9 20 (f_X9_holderOf 20 (wsv h i) (n : Int) H) = f_X9_holderOf 20 (wsv h i) (n : Int) H from if_pos (ok_20 S), ho])
    rcases xfind_spec (fun j => decide (hsv h j = wsv h i)) n with ⟨e, no⟩ | ⟨j, e, hj, yes, -⟩
    · refine Or.inr ⟨H, xit_end ?_ (by omega), F, fun f' hf' _ => ?_⟩
      · show f_X11_findSources_L4 0 (b : Int) (i : Int) H = _
        rw [hd _ e, if_pos rfl]
      · have := no (f' i) (hf' i (by omega)).1
        simp only [decide_eq_false_iff_not] at this
        exact this (hf' i (by omega)).2
    · simp only [decide_eq_true_eq] at yes
      have bb := b_bit b b6 j (by omega)
      by_cases y : b.testBit j = true
      · refine Or.inr ⟨H, xit_end ?_ (by omega), F, fun f' hf' inj' => ?_⟩
        · show f_X11_findSources_L4 0 (b : Int) (i : Int) H = _
          rw [hd _ e, if_neg (by omega), bb, if_pos y, if_pos rfl]
        · obtain ⟨k, hk, ek⟩ := (hb j (by omega)).1 y
          have a1 : f' i = j := inj _ _ (hf' i (by omega)).1 hj ((hf' i (by omega)).2.trans yes.symm)
          have a2 : f' k = f k := inj _ _ (hf' k (by omega)).1 (hf k hk).1 ((hf' k (by omega)).2.trans (hf k hk).2.2.symm)
          have := inj' i k (by omega) (by omega) (by omega)
          omega
      · obtain ⟨H1, e1⟩ : ∃ z, z = xset H 169 i (j : Int) := ⟨_, rfl⟩
        obtain ⟨f1, ef1⟩ : ∃ f1 : Nat → Nat, ∀ k, f1 k = if k = i then j else f k := ⟨_, fun _ => rfl⟩
        have fi1 : f1 i = j := by rw [ef1, if_pos rfl]
        have fo1 : ∀ k, k ≠ i → f1 k = f k := fun k z => by rw [ef1, if_neg z]
        have bs := b_set b b6 j (by omega)
        have go : f_X11_findSources_L4 0 (b : Int) (i : Int) H = some (Sum.inl (((b ||| 2 ^ j : Nat) : Int), ((i + 1 : Nat) : Int), H1)) := by
          rw [hd _ e, if_neg (by omega), bb, if_neg y, if_neg (by decide), g0k S, pt_0_13 S]
          refine (bnd (xas_eq (a := 169) (ia_169 S (by omega) (by omega)))).trans ?_
          rw [bs.1, wS (by omega), ← e1]
        have k1 : ∀ k, k < i + 1 → f1 k < n ∧ xm H1 169 k = (f1 k : Int) ∧ hsv h (f1 k) = wsv h k := fun k hk => by
          by_cases z : k = i
          · subst z
            rw [fi1]
            exact ⟨hj, by rw [e1, xm_xset, if_pos ⟨rfl, rfl⟩], yes⟩
          · obtain ⟨d1, d2, d3⟩ := hf k (by omega)
            rw [fo1 k z]
            exact ⟨d1, by rw [e1, xm_xset, if_neg (by omega)]; exact d2, d3⟩
        have k2 : ∀ k l, k < i + 1 → l < i + 1 → f1 k = f1 l → k = l := fun k l hk hl el => by
          by_cases z : k = i
          · by_cases w : l = i
            · omega
            · subst z
              rw [fi1, fo1 l w] at el
              exact absurd ((hb j (by omega)).2 ⟨l, by omega, el.symm⟩) y
          · by_cases w : l = i
            · subst w
              rw [fi1, fo1 k z] at el
              exact absurd ((hb j (by omega)).2 ⟨k, by omega, el⟩) y
            · rw [fo1 k z, fo1 l w] at el
              exact fi k l (by omega) (by omega) el
        have k3 : ∀ v, v < 6 → ((b ||| 2 ^ j).testBit v = true ↔ ∃ k, k < i + 1 ∧ f1 k = v) := fun v hv => by
          rw [Nat.testBit_or, Nat.testBit_two_pow]
          simp only [Bool.or_eq_true, decide_eq_true_eq]
          constructor
          · rintro (q | q)
            · obtain ⟨k, hk, ek⟩ := (hb v hv).1 q
              exact ⟨k, by omega, by rw [fo1 k (by omega)]; exact ek⟩
            · exact ⟨i, by omega, by rw [fi1]; exact q⟩
          · rintro ⟨k, hk, ek⟩
            by_cases z : k = i
            · subst z
              rw [fi1] at ek
              exact Or.inr ek
            · rw [fo1 k z] at ek
              exact Or.inl ((hb v hv).2 ⟨k, by omega, ek⟩)
        rcases ih (i + 1) (by omega) H1 f1 (b ||| 2 ^ j) (by rw [e1]; exact F.set _ _) k1 k2 bs.2 k3 fu (by omega) with ⟨H', f', g1, g2⟩ | ⟨H', g1, g2⟩
        · exact Or.inl ⟨H', f', (xit_go go).trans g1, g2⟩
        · exact Or.inr ⟨H', (xit_go go).trans g1, g2⟩
/-- all have what they want, were it so handed round -/
def stl (h : xa_H) (n c : Nat) : Prop := ∀ i, i < n → hsv h (dg i c) = wsv h i
theorem c_srcs {h : xa_H} {s F1 F2 T2 T3 n : Nat} (R : RR h s F1 F2 T2 T3) (en : xm h 199 4 = (n : Int)) :
    (∃ H' c, f_X11_findSources 0 h = some (1, H') ∧ F69 h H' ∧ vperm n c ∧ (∀ i, i < n → xm H' 169 i = ((dg i c : Nat) : Int)) ∧ stl h n c) ∨ (∃ H', f_X11_findSources 0 h = some (0, H') ∧ F69 h H' ∧ ∀ c, vperm n c → ¬ stl h n c) := by
  have n6 := rc_n (rr_c R)
  have hn : n ≤ 6 := by omega
  rcases fs_loop R en n 0 (by omega) h (fun _ => 0) 0 (F69.refl h) (fun k hk => absurd hk (by omega)) (fun k l hk => absurd hk (by omega)) (by omega) (fun v _ => ⟨fun q => by simp at q, fun ⟨k, hk, _⟩ => absurd hk (by omega)⟩) xFU (by unfold xFU; omega) with ⟨H', f', g1, g2, g3, g4⟩ | ⟨H', g1, g2, g3⟩
  · have h6 : ∀ i, i < n → f' i < 6 := fun i hi => by have := (g3 i hi).1; omega
    refine Or.inl ⟨H', enc f' n, ?_, g2, vperm_enc hn (fun i hi => (g3 i hi).1) g4, fun i hi => ?_, fun i hi => ?_⟩
    · unfold f_X11_findSources
      exact (bnd g1).trans rfl
    · rw [dg_enc h6 hi]; exact (g3 i hi).2.1
    · rw [dg_enc h6 hi]; exact (g3 i hi).2.2
  · refine Or.inr ⟨H', ?_, g2, fun c V st => g3 (fun i => dg i c) (fun k hk => ⟨V.2.1 k hk, st k hk⟩) V.2.2⟩
    unfold f_X11_findSources
    exact (bnd g1).trans rfl
theorem stl_one {h : xa_H} {s F1 F2 T2 T3 n c c' : Nat} (R : RR h s F1 F2 T2 T3) (en : xm h 199 4 = (n : Int)) (V : vperm n c) (V' : vperm n c') (e : stl h n c) (e' : stl h n c') : c = c' := by
  refine code_ext V.1 V'.1 (fun i hi => ?_)
  have v := (rr_n R).2.2.2.2.2.2.1 (dg i c) (dg i c') (by rw [en]; have := V.2.1 i hi; omega) (by rw [en]; have := V'.2.1 i hi; omega)
  simp only [Nat.zero_add] at v
  exact v ((e i hi).trans (e' i hi).symm)
