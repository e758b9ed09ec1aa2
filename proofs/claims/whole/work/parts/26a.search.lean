/-! ===== needed, gain, together, clear, judged ===== -/
theorem xit_congr {σ ε : Type} {f g : σ → Option (σ ⊕ ε)} (I : σ → Prop) (hs : ∀ s, I s → f s = g s ∧ ∀ s', f s = some (.inl s') → I s') : ∀ (n : Nat) (s : σ), I s → xit f n s = xit g n s
  | 0, _, _ => rfl
  | n + 1, s, hi => by
    obtain ⟨e, h⟩ := hs s hi
    rw [xit_succ, xit_succ, ← e]
    cases q : f s with
    | none => rfl
    | some r =>
      cases r with
      | inl s' => exact xit_congr I hs n s' (h s' q)
      | inr e => rfl
theorem php : ∀ (n : Nat) (g : Nat → Nat), (∀ i, i ≤ n → g i < n) → ∃ i j, i < j ∧ j ≤ n ∧ g i = g j
  | 0, g, h => absurd (h 0 (Nat.le_refl _)) (by omega)
  | n + 1, g, h => by
    by_cases q : ∃ i, i ≤ n ∧ g i = g (n + 1)
    · obtain ⟨i, h1, h2⟩ := q
      exact ⟨i, n + 1, by omega, by omega, h2⟩
    · have hv := h (n + 1) (by omega)
      obtain ⟨i, j, h1, h2, h3⟩ := php n (fun i => if g i = n then g (n + 1) else g i) (fun i hi => by
        have h1 := h i (by omega)
        have h2 : g i ≠ g (n + 1) := fun e => q ⟨i, hi, e⟩
        split <;> omega)
      have q1 : g i ≠ g (n + 1) := fun e => q ⟨i, by omega, e⟩
      have q2 : g j ≠ g (n + 1) := fun e => q ⟨j, by omega, e⟩
      refine ⟨i, j, h1, by omega, ?_⟩
      split at h3 <;> split at h3 <;> omega
def itr (f : Nat → Nat) (x : Nat) : Nat → Nat
  | 0 => x
  | k + 1 => f (itr f x k)
theorem itr_lt {f : Nat → Nat} {n x : Nat} (hf : ∀ i, i < n → f i < n) (hx : x < n) : ∀ k, itr f x k < n
  | 0 => hx
  | k + 1 => hf _ (itr_lt hf hx k)
theorem itr_back {f : Nat → Nat} {n x : Nat} (hf : ∀ i, i < n → f i < n) (hi : ∀ i j, i < n → j < n → f i = f j → i = j) (hx : x < n) : ∀ (i d : Nat), itr f x i = itr f x (i + d) → x = itr f x d
  | 0, d, h => by simpa [itr] using h
  | i + 1, d, h => by
    rw [show i + 1 + d = (i + d) + 1 by omega] at h
    exact itr_back hf hi hx i d (hi _ _ (itr_lt hf hx _) (itr_lt hf hx _) h)
/-- the least time of coming back -/
theorem itr_ret {f : Nat → Nat} {n x : Nat} (hf : ∀ i, i < n → f i < n) (hi : ∀ i j, i < n → j < n → f i = f j → i = j) (hx : x < n) : ∃ r, 1 ≤ r ∧ r ≤ n ∧ itr f x r = x ∧ ∀ k, 1 ≤ k → k < r → itr f x k ≠ x := by
  obtain ⟨i, j, h1, h2, h3⟩ := php n (itr f x) (fun i _ => itr_lt hf hx i)
  have hb : ∃ r, 1 ≤ r ∧ r ≤ n ∧ itr f x r = x := by
    refine ⟨j - i, by omega, by omega, ?_⟩
    refine (itr_back hf hi hx i (j - i) ?_).symm
    rw [show i + (j - i) = j by omega]
    exact h3
  obtain ⟨r, g1, g2, g3⟩ := hb
  have key : ∀ m r, r ≤ m → 1 ≤ r → r ≤ n → itr f x r = x → ∃ r, 1 ≤ r ∧ r ≤ n ∧ itr f x r = x ∧ ∀ k, 1 ≤ k → k < r → itr f x k ≠ x := by
    intro m
    induction m with
    | zero => intro r a b; omega
    | succ m ih =>
      intro r a b c d
      by_cases q : ∃ k, 1 ≤ k ∧ k < r ∧ itr f x k = x
      · obtain ⟨k, k1, k2, k3⟩ := q
        exact ih k (by omega) k1 (by omega) k3
      · exact ⟨r, b, c, d, fun k k1 k2 e => q ⟨k, k1, k2, e⟩⟩
  exact key r r (Nat.le_refl _) g1 g2 g3
/-- who has whom he wants -/
def src (h : xa_H) (i : Nat) : Int := xfind (fun j => decide (xm h 212 (1 + 9 * j) = xm h 212 (1 + 9 * i + 1))) (xm h 199 4).toNat
def srcOK (h : xa_H) (n : Nat) : Prop := (∀ i, i < n → src h i ≠ -1) ∧ ∀ i j, i < n → j < n → src h i = src h j → i = j
theorem src_lt {h : xa_H} {i : Nat} (hn : xm h 199 4 ≤ 6) (hp : src h i ≠ -1) : ∃ j : Nat, src h i = (j : Int) ∧ (j : Int) < xm h 199 4 ∧ j < 6 ∧ xm h 212 (1 + 9 * j) = xm h 212 (1 + 9 * i + 1) := by
  rcases xfind_spec (fun j => decide (xm h 212 (1 + 9 * j) = xm h 212 (1 + 9 * i + 1))) (xm h 199 4).toNat with ⟨e, -⟩ | ⟨j, e1, e2, e3, -⟩
  · exact absurd e hp
  · exact ⟨j, e1, by omega, by omega, by simpa using e3⟩
theorem s_findSources {h : xa_H} {s : Nat} (S : SH h) (C : Rc h s) (N : Rn h) : ∃ r h', f_X11_findSources 0 h = some (r, h') ∧ ((r = 1 ∧ srcOK h (xm h 199 4).toNat ∧ h' = xarr h 169 (fun k => if k < (xm h 199 4).toNat then src h k else xm h 169 k)) ∨ (r = 0 ∧ ¬ srcOK h (xm h 199 4).toNat ∧ ∃ F, h' = xarr h 169 F)) := by
  have hn := rc_n C
  obtain ⟨e, he, hq⟩ := xit_inv (f := fun s => f_X11_findSources_L4 0 s.1 s.2.1 s.2.2) (fun t => ∃ i b : Nat, i ≤ (xm h 199 4).toNat ∧ b < 64 ∧ t = ((b : Int), (i : Int), xarr h 169 (fun k => if k < i then src h k else xm h 169 k)) ∧ srcOK h i ∧ ∀ j, j < 6 → (b.testBit j = true ↔ ∃ i', i' < i ∧ src h i' = (j : Int)))
    (fun t => 6 - t.2.1.toNat) (fun e => (∃ h', e = .inr h' ∧ srcOK h (xm h 199 4).toNat ∧ h' = xarr h 169 (fun k => if k < (xm h 199 4).toNat then src h k else xm h 169 k)) ∨ (∃ h', e = .inl (0, h') ∧ ¬ srcOK h (xm h 199 4).toNat ∧ ∃ F, h' = xarr h 169 F)) (0, 0, h) (by
      refine ⟨0, 0, by omega, by omega, ?_, ⟨fun i hi => by omega, fun i j hi => by omega⟩, fun j _ => by simp⟩
      refine Prod.ext rfl (Prod.ext rfl ?_)
      dsimp only
      rw [show (fun k => if k < 0 then src h k else xm h 169 k) = xm h 169 from funext fun k => if_neg (by omega)]
      exact (xarr_self h 169).symm) (by show 6 - (0 : Int).toNat < 1000000; omega) (by
    rintro t ⟨i, b, h1, h2, rfl, h3, h4⟩
    have S1 : SH (xarr h 169 (fun k => if k < i then src h k else xm h 169 k)) := S.arr (by decide +kernel)
    have ms : ∀ a k, a ≠ 169 → xm (xarr h 169 (fun k => if k < i then src h k else xm h 169 k)) a k = xm h a k := fun a k z => by rw [xm_xarr, if_neg z]
    have C1 : Rc (xarr h 169 (fun k => if k < i then src h k else xm h 169 k)) s := C.mv (Nat.le_refl _) (fun _ _ => rfl) (fun a k hd => by
      have hs := C.2.1.1
      unfold DRc at hd
      exact ms a k (by omega))
    have N1 : Rn (xarr h 169 (fun k => if k < i then src h k else xm h 169 k)) := N.mv (agr_arr (fun _ => rfl) (agr_refl _ _))
    by_cases q : i < (xm h 199 4).toNat
    · have q1 : (i : Int) < xm h 199 4 := by omega
      have es : f_X9_holderOf 20 (xm h 212 (1 + 9 * i + 1)) (xm h 199 4) (xarr h 169 (fun k => if k < i then src h k else xm h 169 k)) = some (src h i) := by
        have := s_X9_holderOf S1 C1 N1 (xm h 212 (1 + 9 * i + 1))
        rw [ms 199 4 (by omega)] at this
        rw [this]
        exact congrArg some (xfind_congr (fun j _ => by rw [ms 212 _ (by omega)]))
      have e0 : f_X11_findSources_L4 0 (b : Int) (i : Int) (xarr h 169 (fun k => if k < i then src h k else xm h 169 k)) = if src h i = -1 then some (Sum.inr (Sum.inl ((0, xarr h 169 (fun k => if k < i then src h k else xm h 169 k))))) else if xand (xshr (b : Int) (src h i)) 1 = 1 then some (Sum.inr (Sum.inl ((0, xarr h 169 (fun k => if k < i then src h k else xm h 169 k))))) else some (Sum.inl ((xior (b : Int) (xshl 1 (src h i)), (i : Int) + 1, xset (xarr h 169 (fun k => if k < i then src h k else xm h 169 k)) 169 i (src h i)))) := by
        unfold f_X11_findSources_L4
        have q1' : (i : Int) < xm (xarr h 169 (fun k => if k < i then src h k else xm h 169 k)) 199 4 := q1
        simp (disch := omega) only [↓reduceIte, ↓bxgf, ↓bxal, ↓bxas, ↓bxrc, ok_0 S1, ok_2 S1, ok_4 S1, ok_6 S1, ok_20 S1, ok_26 S1, ok_148 S1, ok_153 S1, ok_158 S1, ok_163 S1, ia_1 S1, ia_3 S1, ia_5 S1, ia_21 S1, ia_22 S1, ia_23 S1, ia_24 S1, ia_25 S1, ia_27 S1, ia_149 S1, ia_150 S1, ia_151 S1, ia_152 S1, ia_154 S1, ia_155 S1, ia_156 S1, ia_157 S1, ia_159 S1, ia_160 S1, ia_161 S1, ia_162 S1, ia_164 S1, ia_165 S1, ia_166 S1, ia_167 S1, ia_168 S1, ia_169 S1, ia_170 S1, ia_171 S1, ia_172 S1, pt_0_0 S1, pt_2_0 S1, pt_2_1 S1, pt_0_2 S1, pt_4_0 S1, pt_4_1 S1, pt_0_3 S1, pt_6_0 S1, pt_6_1 S1, pt_0_4 S1, pt_20_1 S1, pt_20_2 S1, pt_20_3 S1, pt_20_4 S1, pt_20_5 S1, pt_0_6 S1, pt_26_0 S1, pt_0_7 S1, pt_148_0 S1, pt_148_4 S1, pt_148_5 S1, pt_148_6 S1, pt_0_8 S1, pt_153_0 S1, pt_153_4 S1, pt_153_5 S1, pt_153_6 S1, pt_0_9 S1, pt_158_4 S1, pt_158_5 S1, pt_158_6 S1, pt_158_7 S1, pt_0_10 S1, pt_163_0 S1, pt_163_1 S1, pt_163_2 S1, pt_163_3 S1, pt_0_11 S1, pt_0_12 S1, pt_0_13 S1, pt_0_14 S1, pt_0_15 S1, pt_0_17 S1, rc_s C1, rc_1 C1, rc_2 C1, rc_3 C1, rc_4 C1, rc_salt C1, rc_sister C1, rc_value C1, rc_feud C1, CS.ok (C1.2.1), CS.okS (C1.2.1), cs_ia1 (C1.2.1), cs_ia2 (C1.2.1), cs_ia3 (C1.2.1), cs_ia4 (C1.2.1), cs_ia5 (C1.2.1), cs_ia6 (C1.2.1), cs_p5 (C1.2.1), cs_p6 (C1.2.1), cs_p7 (C1.2.1), cs_p8 (C1.2.1), cs_p9 (C1.2.1), cs_p10 (C1.2.1), cs_p13 (C1.2.1), rn_night N1, rn_has N1, rn_wants N1, rn_purse N1, rn_met N1, rn_kc N1, rn_kept N1, Int.reduceToNat, Int.toNat_natCast, if_pos q1', if_pos q1, ms 212 _, ms 199 _, es, Option.bind_some, w32_id]
      dsimp only
      rw [e0]
      by_cases z1 : src h i = -1
      · rw [if_pos z1]
        exact Or.inr ⟨_, rfl, Or.inr ⟨_, rfl, fun o => o.1 i q z1, _, rfl⟩⟩
      · obtain ⟨j, j1, j2, j3, j4⟩ := src_lt hn.2 z1
        rw [if_neg z1, j1, b_bit b h2 j j3]
        by_cases z2 : b.testBit j = true
        · rw [z2]
          obtain ⟨i', y1, y2⟩ := (h4 j j3).mp z2
          refine Or.inr ⟨_, if_pos rfl, Or.inr ⟨_, rfl, fun o => ?_, _, rfl⟩⟩
          have := o.2 i' i (by omega) q (y2.trans j1.symm)
          omega
        · have z2' : b.testBit j = false := by simpa using z2
          rw [z2']
          refine Or.inl ⟨_, if_neg (by decide), ⟨i + 1, b ||| 2 ^ j, by omega, (b_set b h2 j j3).2, ?_, ⟨fun i' hi' => ?_, fun i' j' hi' hj' e => ?_⟩, fun y hy => ?_⟩, ?_⟩
          · refine Prod.ext (b_set b h2 j j3).1 (Prod.ext (by dsimp only; omega) ?_)
            dsimp only
            refine xheq rfl rfl rfl (fun x k => ?_)
            rw [xm_xset, xm_xarr, xm_xarr]
            by_cases p1 : x = 169
            · subst p1
              simp only [true_and, if_true]
              by_cases p2 : k = i
              · subst p2
                rw [if_pos rfl, if_pos (by omega), j1]
              · rw [if_neg p2]
                by_cases p3 : k < i
                · rw [if_pos p3, if_pos (by omega)]
                · rw [if_neg p3, if_neg (by omega)]
            · rw [if_neg (by omega), if_neg p1, if_neg p1]
          · by_cases p : i' = i
            · rw [p]; exact z1
            · exact h3.1 i' (by omega)
          · by_cases p : i' = i
            · by_cases p2 : j' = i
              · omega
              · subst p
                exact absurd ((h4 j j3).mpr ⟨j', by omega, e.symm.trans j1⟩) z2
            · by_cases p2 : j' = i
              · subst p2
                exact absurd ((h4 j j3).mpr ⟨i', by omega, e.trans j1⟩) z2
              · exact h3.2 i' j' (by omega) (by omega) e
          · rw [Nat.testBit_or, Bool.or_eq_true, h4 y hy, Nat.testBit_two_pow]
            constructor
            · rintro (⟨i', y1, y2⟩ | y1)
              · exact ⟨i', by omega, y2⟩
              · have : j = y := by simpa using y1
                exact ⟨i, by omega, by rw [j1, this]⟩
            · rintro ⟨i', y1, y2⟩
              by_cases p : i' = i
              · subst p
                right
                have : (j : Int) = (y : Int) := j1.symm.trans y2
                simp; omega
              · exact Or.inl ⟨i', by omega, y2⟩
          · show 6 - ((i : Int) + 1).toNat < 6 - (i : Int).toNat
            omega
    · have q1 : ¬ (i : Int) < xm (xarr h 169 (fun k => if k < i then src h k else xm h 169 k)) 199 4 := by rw [ms 199 4 (by omega)]; omega
      have hi : i = (xm h 199 4).toNat := by omega
      refine Or.inr ⟨.inr (xarr h 169 (fun k => if k < i then src h k else xm h 169 k)), ?_, Or.inl ⟨_, rfl, ?_, ?_⟩⟩
      · unfold f_X11_findSources_L4
        have q2 : ¬ (i : Int) < xm h 199 4 := q1
        simp (disch := omega) only [↓reduceIte, ↓bbind, ↓bxgf, ↓bxal, ↓bxrc, ok_0 S1, ok_2 S1, ok_4 S1, ok_6 S1, ok_20 S1, ok_26 S1, ok_148 S1, ok_153 S1, ok_158 S1, ok_163 S1, ia_1 S1, ia_3 S1, ia_5 S1, ia_21 S1, ia_22 S1, ia_23 S1, ia_24 S1, ia_25 S1, ia_27 S1, ia_149 S1, ia_150 S1, ia_151 S1, ia_152 S1, ia_154 S1, ia_155 S1, ia_156 S1, ia_157 S1, ia_159 S1, ia_160 S1, ia_161 S1, ia_162 S1, ia_164 S1, ia_165 S1, ia_166 S1, ia_167 S1, ia_168 S1, ia_169 S1, ia_170 S1, ia_171 S1, ia_172 S1, pt_0_0 S1, pt_2_0 S1, pt_2_1 S1, pt_0_2 S1, pt_4_0 S1, pt_4_1 S1, pt_0_3 S1, pt_6_0 S1, pt_6_1 S1, pt_0_4 S1, pt_20_1 S1, pt_20_2 S1, pt_20_3 S1, pt_20_4 S1, pt_20_5 S1, pt_0_6 S1, pt_26_0 S1, pt_0_7 S1, pt_148_0 S1, pt_148_4 S1, pt_148_5 S1, pt_148_6 S1, pt_0_8 S1, pt_153_0 S1, pt_153_4 S1, pt_153_5 S1, pt_153_6 S1, pt_0_9 S1, pt_158_4 S1, pt_158_5 S1, pt_158_6 S1, pt_158_7 S1, pt_0_10 S1, pt_163_0 S1, pt_163_1 S1, pt_163_2 S1, pt_163_3 S1, pt_0_11 S1, pt_0_12 S1, pt_0_13 S1, pt_0_14 S1, pt_0_15 S1, pt_0_17 S1, rc_s C1, rc_1 C1, rc_2 C1, rc_3 C1, rc_4 C1, rc_salt C1, rc_sister C1, rc_value C1, rc_feud C1, CS.ok (C1.2.1), CS.okS (C1.2.1), cs_ia1 (C1.2.1), cs_ia2 (C1.2.1), cs_ia3 (C1.2.1), cs_ia4 (C1.2.1), cs_ia5 (C1.2.1), cs_ia6 (C1.2.1), cs_p5 (C1.2.1), cs_p6 (C1.2.1), cs_p7 (C1.2.1), cs_p8 (C1.2.1), cs_p9 (C1.2.1), cs_p10 (C1.2.1), cs_p13 (C1.2.1), Int.reduceToNat, Int.toNat_natCast, ms 199 _, if_neg q2]
      · rw [← hi]; exact h3
      · rw [hi])
  unfold f_X11_findSources
  rw [he]
  rcases hq with ⟨h', rfl, q1, q2⟩ | ⟨h', rfl, q1, q2⟩
  · exact ⟨1, h', rfl, Or.inl ⟨rfl, q1, q2⟩⟩
  · exact ⟨0, h', rfl, Or.inr ⟨rfl, q1, q2⟩⟩
