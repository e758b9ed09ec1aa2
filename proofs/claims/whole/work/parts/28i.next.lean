/-! ===== next ===== -/
/-- the most that are left -/
def lam (n m : Nat) (ρ : Nat → Int) (r q : Nat) : Nat := max (nC n m ρ r (q / 6) (q % 6)) (nW n m ρ r - nC n m ρ r (q / 6) (q % 6))
def bqx (n m : Nat) (ρ : Nat → Int) (r i b : Nat) : Nat → Nat
  | 0 => b
  | x + 1 => if lam n m ρ r (i * 6 + x) < lam n m ρ r (bqx n m ρ r i b x) then i * 6 + x else bqx n m ρ r i b x
def bqi (n m : Nat) (ρ : Nat → Int) (r : Nat) : Nat → Nat
  | 0 => 0
  | i + 1 => bqx n m ρ r i (bqi n m ρ r i) m
/-- a question that there is -/
def qok (n m q : Nat) : Prop := q / 6 < n ∧ q % 6 < m
theorem bqx_ok {n m : Nat} {ρ : Nat → Int} {r i b : Nat} (hm : m ≤ 6) (hi : i < n) (hb : qok n m b) : ∀ x, x ≤ m → qok n m (bqx n m ρ r i b x)
  | 0, _ => hb
  | x + 1, hx => by
    simp only [bqx]
    split
    · unfold qok; omega
    · exact bqx_ok hm hi hb x (by omega)
theorem bqi_ok {n m : Nat} {ρ : Nat → Int} {r : Nat} (hm : m ≤ 6) (h0 : 0 < n) (hm0 : 0 < m) : ∀ i, i ≤ n → qok n m (bqi n m ρ r i)
  | 0, _ => by unfold qok bqi; omega
  | i + 1, hi => by simp only [bqi]; exact bqx_ok hm (by omega) (bqi_ok hm h0 hm0 i (by omega)) m (Nat.le_refl _)
theorem c_next {h : xa_H} {s F1 F2 T2 T3 : Nat} (R : RR h s F1 F2 T2 T3) (w : Int) : CallOK h ((f_X11_next 0 w h).bind fun r => some (r, h)) (f_X12_next 173 w) := by
  have S := rr_S R
  have C := rr_c R
  have hn := rc_n C
  have hm := rc_m C
  obtain ⟨r, n, m, o1, o2, o3, o4, o5, o6, o7, o8, o9, o10⟩ := rr_2 R
  have hn6 : n ≤ 6 := by omega
  have hm6 : m ≤ 6 := by omega
  have hm0 : 0 < m ∨ n = 0 := by
    by_cases z : n = 0
    · exact Or.inr z
    · have := rv_has (rr_n R) (i := 0) (by omega)
      exact Or.inl (by omega)
  obtain ⟨F, lw⟩ := s_laysWays S C o4 o5 o2 o1 hm0 (fun k hk => (o8 k hk).1)
  obtain ⟨g, eg⟩ : ∃ g, g = xarr (xarr h 223 (wyA n m (xm h 222) r (m ^ n) (xm h 223))) 218 F := ⟨_, rfl⟩
  rw [← eg] at lw
  have Rg : RR g s F1 F2 T2 T3 := by rw [eg]; exact rr_ways R _ _
  have Sg := rr_S Rg
  obtain ⟨ρ, eρ⟩ : ∃ ρ, ρ = xm h 222 := ⟨_, rfl⟩
  rw [← eρ] at lw o9 o10
  have Wl : nW n m ρ r ≤ 46656 := nW_le hm6 hn6
  have g199 : ∀ j, xm g 199 j = xm h 199 j := fun j => by rw [eg, xm_xarr, if_neg (by omega), xm_xarr, if_neg (by omega)]
  -- a question's most, in both
  have lmC : ∀ q, qok n m q → f_X5_leftAtMost 158 (q : Int) h = some ((lam n m ρ r q : Nat) : Int) := fun q hq => by
    have e := o10 (q / 6) (q % 6) hq.1 hq.2
    rw [show q / 6 * 6 + q % 6 = q by omega] at e
    have l := nC_le (n := n) (m := m) (r := r) (i := q / 6) (j := q % 6) (ρ := ρ)
    have q36 : (q : Int) < 36 := by unfold qok at hq; omega
    unfold f_X5_leftAtMost
    simp (disch := omega) only [↓reduceIte, ↓bbind, ↓bxgf, ↓bxpf, ↓bxal, ↓bxas, ↓bxrc, ↓exrc, Int.reduceEq, Int.reduceLT, Int.reduceNeg, Int.reduceToNat, Int.toNat_natCast, Option.bind_some, if_true, if_false, reduceIte, ok_0 S, ok_2 S, ok_4 S, ok_6 S, ok_20 S, ok_26 S, ok_148 S, ok_153 S, ok_158 S, ok_163 S, ia_1 S, ia_3 S, ia_5 S, ia_21 S, ia_22 S, ia_23 S, ia_24 S, ia_25 S, ia_27 S, ia_149 S, ia_150 S, ia_151 S, ia_152 S, ia_154 S, ia_155 S, ia_156 S, ia_157 S, ia_159 S, ia_160 S, ia_161 S, ia_162 S, ia_164 S, ia_165 S, ia_166 S, ia_167 S, ia_168 S, ia_169 S, ia_170 S, ia_171 S, ia_172 S, pt_0_0 S, pt_2_0 S, pt_2_1 S, pt_0_2 S, pt_4_0 S, pt_4_1 S, pt_0_3 S, pt_6_0 S, pt_6_1 S, pt_0_4 S, pt_20_1 S, pt_20_2 S, pt_20_3 S, pt_20_4 S, pt_20_5 S, pt_0_6 S, pt_26_0 S, pt_0_7 S, pt_148_0 S, pt_148_4 S, pt_148_5 S, pt_148_6 S, pt_0_8 S, pt_153_0 S, pt_153_4 S, pt_153_5 S, pt_153_6 S, pt_0_9 S, pt_158_4 S, pt_158_5 S, pt_158_6 S, pt_158_7 S, pt_0_10 S, pt_163_0 S, pt_163_1 S, pt_163_2 S, pt_163_3 S, pt_0_11 S, pt_0_12 S, pt_0_13 S, pt_0_14 S, pt_0_15 S, pt_0_17 S, e, o9, w32_id]
    unfold lam
    congr 1
    omega
  have W0 : f_X11_next 0 w h = (if n = 0 then some (-1) else if nW n m ρ r = 0 then some (-1) else (xrc h 5 158 (f_X5_bestQuestion 158 h)).bind fun r8 => if w = 0 then some (w32 (Int.tdiv r8 6)) else if w = 1 then some (Int.tmod r8 6) else if w = 2 then (xgf h 11 10 0).bind fun x12 => (xrc h 5 x12 (f_X5_leftAtMost x12 r8 h)).bind fun r13 => some r13 else some (-1)) := by
    unfold f_X11_next
    refine (bnd (xgf_eq (a := 0) (ok_0 S) (rc_s C))).trans ?_
    refine (bnd (xgf_eq C.2.1.ok ((rc_2 C).trans o4))).trans ?_
    by_cases z : n = 0
    · rw [if_pos (by omega), if_pos z]
    · rw [if_neg (by omega), if_neg z]
      refine (bnd (xgf_eq (a := 0) (ok_0 S) (pt_0_10 S))).trans ?_
      refine (bnd (xgf_eq (a := 158) (ok_158 S) o9)).trans ?_
      by_cases z2 : nW n m ρ r = 0
      · rw [if_pos (by omega), if_pos z2]
      · rw [if_neg (by omega), if_neg z2]
        exact (bnd (xgf_eq (a := 0) (ok_0 S) (pt_0_10 S))).trans rfl
  by_cases wr : w < 0 ∨ 2 < w
  · -- refused by both
    have hs : f_X12_next 173 w h = some (-1, h) := by
      unfold f_X12_next
      rw [s_X12_isIn, if_pos wr]
      rfl
    by_cases z : n = 0
    · exact CallOK.same (v := -1) (h1 := h) (h2 := h) (by rw [W0, if_pos z]; rfl) hs ⟨s, F1, F2, T2, T3, R⟩ rfl rfl
    · by_cases z2 : nW n m ρ r = 0
      · exact CallOK.same (v := -1) (h1 := h) (h2 := h) (by rw [W0, if_neg z, if_pos z2]; rfl) hs ⟨s, F1, F2, T2, T3, R⟩ rfl rfl
      · have hb : ∃ b, f_X5_bestQuestion 158 h = some b := by
          have m0 : 0 < m := by omega
          have inner : ∀ (i : Nat) (b : Nat), i < n → qok n m b → xit (fun s => f_X5_bestQuestion_L14 158 (i : Int) h s.1 s.2) xFU ((b : Int), 0) = some ((bqx n m ρ r i b m : Nat) : Int) := by
            intro i b hi hb
            exact xit_seq (f := fun s => f_X5_bestQuestion_L14 158 (i : Int) h s.1 s.2) (fun x => (((bqx n m ρ r i b x : Nat) : Int), (x : Int))) m ((bqx n m ρ r i b m : Nat) : Int) (fun x hx => by
              have c1 := bqx_ok (ρ := ρ) (r := r) hm6 hi hb x (by omega)
              unfold f_X5_bestQuestion_L14
              refine (bnd (xgf_eq (a := 158) (ok_158 S) o7)).trans ?_
              rw [if_pos (by omega), w32_id (z := (i : Int) * 6) (by omega) (by omega), w32_id (z := (i : Int) * 6 + (x : Int)) (by omega) (by omega), show (i : Int) * 6 + (x : Int) = ((i * 6 + x : Nat) : Int) by omega]
              refine (bnd (v := ((lam n m ρ r (i * 6 + x) : Nat) : Int)) (by rw [lmC (i * 6 + x) (by unfold qok; omega)]; exact if_pos (ok_158 S))).trans ?_
              refine (bnd (v := ((lam n m ρ r (bqx n m ρ r i b x) : Nat) : Int)) (by rw [lmC _ c1]; exact if_pos (ok_158 S))).trans ?_
              rw [w32_id (z := (x : Int) + 1) (by omega) (by omega)]
              simp only [bqx]
              by_cases y : lam n m ρ r (i * 6 + x) < lam n m ρ r (bqx n m ρ r i b x)
              · rw [if_pos (by omega), if_pos y]; rfl
              · rw [if_neg (by omega), if_neg y]; rfl) (by
              unfold f_X5_bestQuestion_L14
              refine (bnd (xgf_eq (a := 158) (ok_158 S) o7)).trans ?_
              rw [if_neg (by omega)]) (by omega)
          have outer := xit_seq (f := fun s => f_X5_bestQuestion_L4 158 h s.1 s.2) (fun i => (((bqi n m ρ r i : Nat) : Int), (i : Int))) n ((bqi n m ρ r n : Nat) : Int) (fun i hi => by
            unfold f_X5_bestQuestion_L4
            refine (bnd (xgf_eq (a := 158) (ok_158 S) o6)).trans ?_
            rw [if_pos (by omega)]
            refine (bnd (inner i _ hi (bqi_ok hm6 (by omega) m0 i (by omega)))).trans ?_
            rw [w32_id (by omega) (by omega)]
            rfl) (by
            unfold f_X5_bestQuestion_L4
            refine (bnd (xgf_eq (a := 158) (ok_158 S) o6)).trans ?_
            rw [if_neg (by omega)]) (by omega)
          exact ⟨_, by unfold f_X5_bestQuestion; exact (bnd outer).trans rfl⟩
        obtain ⟨b, hb⟩ := hb
        refine CallOK.same (v := -1) (h1 := h) (h2 := h) ?_ hs ⟨s, F1, F2, T2, T3, R⟩ rfl rfl
        rw [W0, if_neg z, if_neg z2]
        refine (bnd (v := (-1 : Int)) ?_).trans rfl
        refine (bnd (v := b) (by rw [hb]; exact if_pos (ok_158 S))).trans ?_
        rw [if_neg (by omega), if_neg (by omega), if_neg (by omega)]
  · have M0 : f_X12_next 173 w h = (xit (fun s => f_X12_next_L27 173 w ((nW n m ρ r : Nat) : Int) g s.1 s.2.1 s.2.2) xFU (((-1), (-1), 0))).bind fun e15 => f_X12_next_J121 w e15.1 e15.2 g := by
      unfold f_X12_next
      rw [s_X12_isIn, if_neg wr]
      refine (bnd (v := (1 : Int)) rfl).trans ?_
      rw [if_neg (by decide)]
      exact (bnd (v := (((nW n m ρ r : Nat) : Int), g)) (by rw [lw]; exact if_pos (ok_173 S))).trans rfl
    have none : (n = 0 ∨ nW n m ρ r = 0) → xit (fun s => f_X12_next_L27 173 w ((nW n m ρ r : Nat) : Int) g s.1 s.2.1 s.2.2) xFU (((-1), (-1), 0)) = some (-1, -1) := by
      intro z
      refine xit_end (?_ : f_X12_next_L27 173 w ((nW n m ρ r : Nat) : Int) g (-1) (-1) 0 = some (.inr (-1, -1))) (by decide)
      unfold f_X12_next_L27
      refine (bnd (v := (n : Int)) (by rw [s_X12_holderMany Sg, g199, o4]; exact if_pos (ok_173 Sg))).trans ?_
      by_cases y : n = 0
      · rw [if_neg (by omega)]
      · rw [if_pos (by omega), if_neg (by omega)]
    by_cases z : n = 0 ∨ nW n m ρ r = 0
    · refine CallOK.same (v := -1) (h1 := h) (h2 := g) ?_ ?_ ⟨s, F1, F2, T2, T3, Rg⟩ (by rw [eg]; rfl) (by rw [eg]; rfl)
      · rw [W0]
        rcases z with z | z
        · rw [if_pos z]; rfl
        · by_cases y : n = 0
          · rw [if_pos y]; rfl
          · rw [if_neg y, if_pos z]; rfl
      · rw [M0, none z]
        rfl
    · have z1 : n ≠ 0 := fun c => z (Or.inl c)
      have z2 : nW n m ρ r ≠ 0 := fun c => z (Or.inr c)
      have m0 : 0 < m := by omega
      have innerC : ∀ (i : Nat) (b : Nat), i < n → qok n m b → xit (fun s => f_X5_bestQuestion_L14 158 (i : Int) h s.1 s.2) xFU ((b : Int), 0) = some ((bqx n m ρ r i b m : Nat) : Int) := by
        intro i b hi hb
        exact xit_seq (f := fun s => f_X5_bestQuestion_L14 158 (i : Int) h s.1 s.2) (fun x => (((bqx n m ρ r i b x : Nat) : Int), (x : Int))) m ((bqx n m ρ r i b m : Nat) : Int) (fun x hx => by
          have c1 := bqx_ok (ρ := ρ) (r := r) hm6 hi hb x (by omega)
          unfold f_X5_bestQuestion_L14
          refine (bnd (xgf_eq (a := 158) (ok_158 S) o7)).trans ?_
          rw [if_pos (by omega), w32_id (z := (i : Int) * 6) (by omega) (by omega), w32_id (z := (i : Int) * 6 + (x : Int)) (by omega) (by omega), show (i : Int) * 6 + (x : Int) = ((i * 6 + x : Nat) : Int) by omega]
          refine (bnd (v := ((lam n m ρ r (i * 6 + x) : Nat) : Int)) (by rw [lmC (i * 6 + x) (by unfold qok; omega)]; exact if_pos (ok_158 S))).trans ?_
          refine (bnd (v := ((lam n m ρ r (bqx n m ρ r i b x) : Nat) : Int)) (by rw [lmC _ c1]; exact if_pos (ok_158 S))).trans ?_
          rw [w32_id (z := (x : Int) + 1) (by omega) (by omega)]
          simp only [bqx]
          by_cases y : lam n m ρ r (i * 6 + x) < lam n m ρ r (bqx n m ρ r i b x)
          · rw [if_pos (by omega), if_pos y]; rfl
          · rw [if_neg (by omega), if_neg y]; rfl) (by
          unfold f_X5_bestQuestion_L14
          refine (bnd (xgf_eq (a := 158) (ok_158 S) o7)).trans ?_
          rw [if_neg (by omega)]) (by omega)
      have bC : f_X5_bestQuestion 158 h = some ((bqi n m ρ r n : Nat) : Int) := by
        have outer := xit_seq (f := fun s => f_X5_bestQuestion_L4 158 h s.1 s.2) (fun i => (((bqi n m ρ r i : Nat) : Int), (i : Int))) n ((bqi n m ρ r n : Nat) : Int) (fun i hi => by
          unfold f_X5_bestQuestion_L4
          refine (bnd (xgf_eq (a := 158) (ok_158 S) o6)).trans ?_
          rw [if_pos (by omega)]
          refine (bnd (innerC i _ hi (bqi_ok hm6 (by omega) m0 i (by omega)))).trans ?_
          rw [w32_id (by omega) (by omega)]
          rfl) (by
          unfold f_X5_bestQuestion_L4
          refine (bnd (xgf_eq (a := 158) (ok_158 S) o6)).trans ?_
          rw [if_neg (by omega)]) (by omega)
        unfold f_X5_bestQuestion
        exact (bnd outer).trans rfl
      -- the reference: few and best, -1 ahead of the first
      have P : ∀ i x, i = 0 ∧ x = 0 ∨ ¬(i = 0 ∧ x = 0) := fun i x => by omega
      have stM : ∀ (i x : Nat), i < n → x < m → ∀ (few best : Int) (p : Nat), qok n m p → ((i = 0 ∧ x = 0 ∧ few = -1 ∧ p = 0) ∨ (¬(i = 0 ∧ x = 0) ∧ few = ((lam n m ρ r p : Nat) : Int) ∧ best = (p : Int))) → f_X12_next_L43 173 w ((nW n m ρ r : Nat) : Int) (i : Int) g few best (x : Int) = some (.inl (((lam n m ρ r (if lam n m ρ r (i * 6 + x) < lam n m ρ r p then i * 6 + x else p) : Nat) : Int), (((if lam n m ρ r (i * 6 + x) < lam n m ρ r p then i * 6 + x else p) : Nat) : Int), ((x + 1 : Nat) : Int))) := by
        intro i x hi hx few best p hp hc
        have vw : xm g 223 (6 * i + x) = ((nC n m ρ r i x : Nat) : Int) := by
          rw [eg, xm_xarr, if_neg (by omega), xm_xarr, if_pos rfl, eρ]
          exact nC_ways hm6 hn6 hi hx
        have l := nC_le (n := n) (m := m) (r := r) (i := i) (j := x) (ρ := ρ)
        have el : lam n m ρ r (i * 6 + x) = max (nC n m ρ r i x) (nW n m ρ r - nC n m ρ r i x) := by
          unfold lam
          rw [show (i * 6 + x) / 6 = i by omega, show (i * 6 + x) % 6 = x by omega]
        have j82 : ∀ v : Int, v = ((lam n m ρ r (i * 6 + x) : Nat) : Int) → f_X12_next_J82L43 173 w ((nW n m ρ r : Nat) : Int) (i : Int) few best (x : Int) v g = some (.inl (((lam n m ρ r (if lam n m ρ r (i * 6 + x) < lam n m ρ r p then i * 6 + x else p) : Nat) : Int), (((if lam n m ρ r (i * 6 + x) < lam n m ρ r p then i * 6 + x else p) : Nat) : Int), ((x + 1 : Nat) : Int))) := by
          intro v hv
          unfold f_X12_next_J82L43 f_X12_next_J96L43
          rw [w32_id (z := 6 * (i : Int)) (by omega) (by omega), w32_id (z := 6 * (i : Int) + (x : Int)) (by omega) (by omega), w32_id (z := (x : Int) + 1) (by omega) (by omega)]
          rcases hc with ⟨h1, h2, h3, h4⟩ | ⟨h1, h2, h3⟩
          · subst h1 h2 h3 h4
            rw [if_pos rfl, hv, show (if lam n m ρ r (0 * 6 + 0) < lam n m ρ r 0 then 0 * 6 + 0 else 0) = 0 by split <;> rfl]
            rfl
          · rw [if_neg (by omega), hv, h2, h3]
            by_cases y : lam n m ρ r (i * 6 + x) < lam n m ρ r p
            · rw [if_pos (by omega), if_pos y, show 6 * (i : Int) + (x : Int) = ((i * 6 + x : Nat) : Int) by omega]; rfl
            · rw [if_neg (by omega), if_neg y]; rfl
        unfold f_X12_next_L43
        refine (bnd (v := (m : Int)) (by rw [s_X12_heldMany Sg, g199, o5]; exact if_pos (ok_173 Sg))).trans ?_
        rw [if_pos (by omega), w32_id (z := 6 * (i : Int)) (by omega) (by omega), w32_id (z := 6 * (i : Int) + (x : Int)) (by omega) (by omega)]
        refine (bnd (xgf_eq (a := 173) (ok_173 Sg) (pt_173_72 Sg))).trans ?_
        refine (bnd (v := ((nC n m ρ r i x : Nat) : Int)) (by unfold xal; rw [if_pos (ia_223 Sg (by omega) (by omega)), ← vw]; congr 2)).trans ?_
        rw [w32_id (z := ((nW n m ρ r : Nat) : Int) - ((nC n m ρ r i x : Nat) : Int)) (by omega) (by omega)]
        by_cases y : ((nC n m ρ r i x : Nat) : Int) < ((nW n m ρ r : Nat) : Int) - ((nC n m ρ r i x : Nat) : Int)
        · rw [if_pos y]; exact j82 _ (by rw [el]; omega)
        · rw [if_neg y]; exact j82 _ (by rw [el]; omega)
      have endM : ∀ (i : Nat) (few best : Int), f_X12_next_L43 173 w ((nW n m ρ r : Nat) : Int) (i : Int) g few best (m : Int) = some (.inr (few, best)) := by
        intro i few best
        unfold f_X12_next_L43
        refine (bnd (v := (m : Int)) (by rw [s_X12_heldMany Sg, g199, o5]; exact if_pos (ok_173 Sg))).trans ?_
        rw [if_neg (by omega)]
      have innerM : ∀ (i : Nat) (few best : Int) (p : Nat), i < n → qok n m p → ((i = 0 ∧ few = -1 ∧ p = 0) ∨ (¬ i = 0 ∧ few = ((lam n m ρ r p : Nat) : Int) ∧ best = (p : Int))) → xit (fun s => f_X12_next_L43 173 w ((nW n m ρ r : Nat) : Int) (i : Int) g s.1 s.2.1 s.2.2) xFU (few, best, 0) = some (((lam n m ρ r (bqx n m ρ r i p m) : Nat) : Int), ((bqx n m ρ r i p m : Nat) : Int)) := by
        intro i few best p hi hp hc
        refine xit_seq (f := fun s => f_X12_next_L43 173 w ((nW n m ρ r : Nat) : Int) (i : Int) g s.1 s.2.1 s.2.2) (fun x => if x = 0 then (few, best, 0) else (((lam n m ρ r (bqx n m ρ r i p x) : Nat) : Int), ((bqx n m ρ r i p x : Nat) : Int), (x : Int))) m (((lam n m ρ r (bqx n m ρ r i p m) : Nat) : Int), ((bqx n m ρ r i p m : Nat) : Int)) (fun x hx => ?_) ?_ (by omega)
        · rw [if_neg (show ¬ x + 1 = 0 by omega)]
          by_cases y : x = 0
          · subst y
            rw [if_pos rfl]
            refine (stM i 0 hi hx few best p hp ?_).trans rfl
            rcases hc with ⟨a, b, c⟩ | ⟨a, b, c⟩
            · exact Or.inl ⟨a, rfl, b, c⟩
            · exact Or.inr ⟨fun w => a w.1, b, c⟩
          · rw [if_neg y]
            exact (stM i x hi hx _ _ _ (bqx_ok hm6 hi hp x (by omega)) (Or.inr ⟨fun w => y w.2, rfl, rfl⟩)).trans rfl
        · rw [if_neg (by omega)]
          exact endM i _ _
      have outerM := xit_seq (f := fun s => f_X12_next_L27 173 w ((nW n m ρ r : Nat) : Int) g s.1 s.2.1 s.2.2) (fun i => if i = 0 then ((-1 : Int), (-1 : Int), (0 : Int)) else (((lam n m ρ r (bqi n m ρ r i) : Nat) : Int), ((bqi n m ρ r i : Nat) : Int), (i : Int))) n (((lam n m ρ r (bqi n m ρ r n) : Nat) : Int), ((bqi n m ρ r n : Nat) : Int)) (fun i hi => by
        rw [if_neg (show ¬ i + 1 = 0 by omega)]
        have row : ∀ (few best : Int), ((i = 0 ∧ few = -1 ∧ bqi n m ρ r i = 0) ∨ (¬ i = 0 ∧ few = ((lam n m ρ r (bqi n m ρ r i) : Nat) : Int) ∧ best = ((bqi n m ρ r i : Nat) : Int))) → f_X12_next_L27 173 w ((nW n m ρ r : Nat) : Int) g few best (i : Int) = some (.inl (((lam n m ρ r (bqi n m ρ r (i + 1)) : Nat) : Int), ((bqi n m ρ r (i + 1) : Nat) : Int), ((i + 1 : Nat) : Int))) := by
          intro few best hc
          unfold f_X12_next_L27
          refine (bnd (v := (n : Int)) (by rw [s_X12_holderMany Sg, g199, o4]; exact if_pos (ok_173 Sg))).trans ?_
          rw [if_pos (by omega), if_pos (by omega)]
          refine (bnd (innerM i few best _ hi (bqi_ok hm6 (by omega) m0 i (by omega)) hc)).trans ?_
          rw [w32_id (by omega) (by omega)]
          rfl
        by_cases y : i = 0
        · subst y
          rw [if_pos rfl]
          exact row _ _ (Or.inl ⟨rfl, rfl, rfl⟩)
        · rw [if_neg y]
          exact row _ _ (Or.inr ⟨y, rfl, rfl⟩)) (by
        rw [if_neg z1]
        show f_X12_next_L27 173 w ((nW n m ρ r : Nat) : Int) g ((lam n m ρ r (bqi n m ρ r n) : Nat) : Int) ((bqi n m ρ r n : Nat) : Int) (n : Int) = _
        unfold f_X12_next_L27
        refine (bnd (v := (n : Int)) (by rw [s_X12_holderMany Sg, g199, o4]; exact if_pos (ok_173 Sg))).trans ?_
        rw [if_neg (by omega)]) (by omega)
      have bok := bqi_ok (ρ := ρ) (r := r) hm6 (by omega) m0 n (Nat.le_refl _)
      have MM : f_X12_next 173 w h = f_X12_next_J121 w ((lam n m ρ r (bqi n m ρ r n) : Nat) : Int) ((bqi n m ρ r n : Nat) : Int) g := by
        rw [M0]
        exact (bnd outerM).trans rfl
      have CC : f_X11_next 0 w h = if w = 0 then some (w32 (Int.tdiv ((bqi n m ρ r n : Nat) : Int) 6)) else if w = 1 then some (Int.tmod ((bqi n m ρ r n : Nat) : Int) 6) else some ((lam n m ρ r (bqi n m ρ r n) : Nat) : Int) := by
        rw [W0, if_neg z1, if_neg z2]
        refine (bnd (v := ((bqi n m ρ r n : Nat) : Int)) (by rw [bC]; exact if_pos (ok_158 S))).trans ?_
        by_cases w0 : w = 0
        · rw [if_pos w0, if_pos w0]
        · rw [if_neg w0, if_neg w0]
          by_cases w1 : w = 1
          · rw [if_pos w1, if_pos w1]
          · rw [if_neg w1, if_neg w1, if_pos (by omega)]
            refine (bnd (xgf_eq (a := 0) (ok_0 S) (pt_0_10 S))).trans ?_
            exact (bnd (v := ((lam n m ρ r (bqi n m ρ r n) : Nat) : Int)) (by rw [lmC _ bok]; exact if_pos (ok_158 S))).trans rfl
      have JJ : f_X12_next_J121 w ((lam n m ρ r (bqi n m ρ r n) : Nat) : Int) ((bqi n m ρ r n : Nat) : Int) g = (if w = 0 then some (w32 (Int.tdiv ((bqi n m ρ r n : Nat) : Int) 6)) else if w = 1 then some (Int.tmod ((bqi n m ρ r n : Nat) : Int) 6) else some ((lam n m ρ r (bqi n m ρ r n) : Nat) : Int) : Option Int).bind fun q => some (q, g) := by
        unfold f_X12_next_J121
        rw [if_neg (by omega)]
        by_cases w0 : w = 0
        · rw [if_pos w0, if_pos w0]; rfl
        · rw [if_neg w0, if_neg w0]
          by_cases w1 : w = 1
          · rw [if_pos w1, if_pos w1]; rfl
          · rw [if_neg w1, if_neg w1]; rfl
      obtain ⟨v, hv⟩ : ∃ v, (if w = 0 then some (w32 (Int.tdiv ((bqi n m ρ r n : Nat) : Int) 6)) else if w = 1 then some (Int.tmod ((bqi n m ρ r n : Nat) : Int) 6) else some ((lam n m ρ r (bqi n m ρ r n) : Nat) : Int) : Option Int) = some v := by
        split
        · exact ⟨_, rfl⟩
        · split <;> exact ⟨_, rfl⟩
      refine CallOK.same (v := v) (h1 := h) (h2 := g) ?_ ?_ ⟨s, F1, F2, T2, T3, Rg⟩ (by rw [eg]; rfl) (by rw [eg]; rfl)
      · rw [CC, hv]; rfl
      · rw [MM, JJ, hv]; rfl
