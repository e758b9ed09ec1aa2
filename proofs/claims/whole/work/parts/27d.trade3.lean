/-! ===== trade, whole ===== -/
/-- what stands behind so many rounds: gets, rounds, sizes; points, rounds, rings -/
def gA (h : xa_H) (F : Nat → Int) : Nat → Nat → Int
  | 0, k => F k
  | t + 1, k => if k < (xm h 199 4).toNat ∧ (Lsq h t).testBit k = true ∧ 0 < rgs h (Lsq h t) k then xm h 212 (1 + 9 * pnt h (Lsq h t) k) else gA h F t k
def rA (h : xa_H) (F : Nat → Int) : Nat → Nat → Int
  | 0, k => F k
  | t + 1, k => if k < (xm h 199 4).toNat ∧ (Lsq h t).testBit k = true ∧ 0 < rgs h (Lsq h t) k then ((t + 1 : Nat) : Int) else rA h F t k
def zA (h : xa_H) (F : Nat → Int) : Nat → Nat → Int
  | 0, k => F k
  | t + 1, k => if k < (xm h 199 4).toNat ∧ (Lsq h t).testBit k = true ∧ 0 < rgs h (Lsq h t) k then ((rgs h (Lsq h t) k : Nat) : Int) else zA h F t k
def pA (h : xa_H) (F : Nat → Int) : Nat → Nat → Int
  | 0, k => F k
  | t + 1, k => if k < (xm h 199 4).toNat then ((pnt h (Lsq h t) k : Nat) : Int) else pA h F t k
def pM (h : xa_H) (F : Nat → Int) : Nat → Nat → Int
  | 0, k => F k
  | t + 1, k => if k < (xm h 199 4).toNat ∧ (Lsq h t).testBit k = true then ((pnt h (Lsq h t) k : Nat) : Int) else pM h F t k
def zM (h : xa_H) (F : Nat → Int) : Nat → Nat → Int
  | 0, k => F k
  | t + 1, k => if k < (xm h 199 4).toNat ∧ (Lsq h t).testBit k = true then ((rgs h (Lsq h t) k : Nat) : Int) else zM h F t k
/-- the class's heap behind t rounds -/
def tC (h : xa_H) (t : Nat) : xa_H := xarr (xarr (xarr (xarr h 164 (gA h (xm h 164) t)) 165 (rA h (xm h 165) t)) 166 (zA h (xm h 166) t)) 167 (pA h (xm h 167) t)
theorem tC_T (h : xa_H) (t : Nat) : TGs h (tC h t) := (((TGs.refl h).arr _ (by omega)).arr _ (by omega)).arr _ (by omega) |>.arr _ (by omega)
theorem tC_0 (h : xa_H) : tC h 0 = h := by
  unfold tC
  refine xheq rfl rfl rfl (fun a k => ?_)
  simp only [xm_xarr, gA, rA, zA, pA]
  by_cases q1 : a = 167
  · simp [q1]
  · by_cases q2 : a = 166
    · simp [q2]
    · by_cases q3 : a = 165
      · simp [q3]
      · by_cases q4 : a = 164
        · simp [q4]
        · simp [q1, q2, q3, q4]
theorem s_play {h : xa_H} {s : Nat} (S : SH h) (C : Rc h s) (N : Rn h) {T : Nat} (hT : Lsq h T = 0) (hT6 : T ≤ 6) (hTl : ∀ t, t < T → Lsq h t ≠ 0) : f_X10_play 163 (s : Int) 20 h = some (tC h T) := by
  have hn := rc_n C
  have round : ∀ t, t < T → f_X10_play_L12 163 (s : Int) 20 ((Lsq h t : Nat) : Int) ((t + 1 : Nat) : Int) (tC h t) = some (.inl (((Lsq h (t + 1) : Nat) : Int), ((t + 1 + 1 : Nat) : Int), tC h (t + 1))) := by
    intro t ht
    obtain ⟨L, eL⟩ : ∃ L, L = Lsq h t := ⟨_, rfl⟩
    have hL : L < 64 := by rw [eL]; exact Lsq_lt hn.2 t
    have T0 := tC_T h t
    have S0 := T0.S S
    obtain ⟨H1, e1⟩ : ∃ H1, H1 = xarr (tC h t) 167 (fun k => if k < (xm h 199 4).toNat then ((pnt h L k : Nat) : Int) else xm (tC h t) 167 k) := ⟨_, rfl⟩
    have T1 : TGs h H1 := by rw [e1]; exact T0.arr _ (by omega)
    have S1 := T1.S S
    have C1 := T1.C C
    have hpt : ∀ k, k < (xm h 199 4).toNat → xm H1 167 k = ((pnt h L k : Nat) : Int) := fun k hk => by rw [e1, xm_xarr, if_pos rfl, if_pos hk]
    -- the holders, one after the other
    have hl := xit_seq (f := fun u => f_X10_play_L36 163 (s : Int) 20 ((L : Nat) : Int) ((t + 1 : Nat) : Int) u.1 u.2.1 u.2.2) (fun i => (((lvb h L i : Nat) : Int), (i : Int), xarr (xarr (xarr H1 164 (fun k => if k < i ∧ L.testBit k = true ∧ 0 < rgs h L k then xm h 212 (1 + 9 * pnt h L k) else xm H1 164 k)) 165 (fun k => if k < i ∧ L.testBit k = true ∧ 0 < rgs h L k then ((t + 1 : Nat) : Int) else xm H1 165 k)) 166 (fun k => if k < i ∧ L.testBit k = true ∧ 0 < rgs h L k then ((rgs h L k : Nat) : Int) else xm H1 166 k))) (xm h 199 4).toNat
      (((lvb h L (xm h 199 4).toNat : Nat) : Int), xarr (xarr (xarr H1 164 (fun k => if k < (xm h 199 4).toNat ∧ L.testBit k = true ∧ 0 < rgs h L k then xm h 212 (1 + 9 * pnt h L k) else xm H1 164 k)) 165 (fun k => if k < (xm h 199 4).toNat ∧ L.testBit k = true ∧ 0 < rgs h L k then ((t + 1 : Nat) : Int) else xm H1 165 k)) 166 (fun k => if k < (xm h 199 4).toNat ∧ L.testBit k = true ∧ 0 < rgs h L k then ((rgs h L k : Nat) : Int) else xm H1 166 k)) (fun i hi => by
      obtain ⟨H2, e2⟩ : ∃ H2, H2 = xarr (xarr (xarr H1 164 (fun k => if k < i ∧ L.testBit k = true ∧ 0 < rgs h L k then xm h 212 (1 + 9 * pnt h L k) else xm H1 164 k)) 165 (fun k => if k < i ∧ L.testBit k = true ∧ 0 < rgs h L k then ((t + 1 : Nat) : Int) else xm H1 165 k)) 166 (fun k => if k < i ∧ L.testBit k = true ∧ 0 < rgs h L k then ((rgs h L k : Nat) : Int) else xm H1 166 k) := ⟨_, rfl⟩
      have T2 : TGs h H2 := by rw [e2]; exact ((T1.arr _ (by omega)).arr _ (by omega)).arr _ (by omega)
      have S2 := T2.S S
      have C2 := T2.C C
      have N2 := T2.N N
      have hpt2 : ∀ k, k < (xm h 199 4).toNat → xm H2 167 k = ((pnt h L k : Nat) : Int) := fun k hk => by rw [e2, xm_xarr, if_neg (by omega), xm_xarr, if_neg (by omega), xm_xarr, if_neg (by omega), hpt k hk]
      have q2 : (i : Int) < xm H2 199 4 := by rw [T2.2.2.2 199 4 (by omega) (by omega)]; omega
      have hp6 : pnt h L i < (xm h 199 4).toNat := bst_lt hi _
      have hv := lvb_lt h L i (by omega)
      dsimp only
      rw [← e2]
      unfold f_X10_play_L36
      refine (bnd (xgf_eq C2.2.1.ok (rc_2 C2))).trans ?_
      rw [if_pos q2, b_bit L hL i (by omega)]
      have fin : f_X10_play_J65L36 163 (s : Int) 20 ((L : Nat) : Int) ((t + 1 : Nat) : Int) ((lvb h L i : Nat) : Int) (i : Int) (if L.testBit i = true then ((rgs h L i : Nat) : Int) else 0) H2 = some (.inl (((lvb h L (i + 1) : Nat) : Int), ((i + 1 : Nat) : Int), xarr (xarr (xarr H1 164 (fun k => if k < i + 1 ∧ L.testBit k = true ∧ 0 < rgs h L k then xm h 212 (1 + 9 * pnt h L k) else xm H1 164 k)) 165 (fun k => if k < i + 1 ∧ L.testBit k = true ∧ 0 < rgs h L k then ((t + 1 : Nat) : Int) else xm H1 165 k)) 166 (fun k => if k < i + 1 ∧ L.testBit k = true ∧ 0 < rgs h L k then ((rgs h L k : Nat) : Int) else xm H1 166 k))) := by
        unfold f_X10_play_J65L36
        by_cases z : L.testBit i = true ∧ 0 < rgs h L i
        · have z1 : (0 : Int) < ((rgs h L i : Nat) : Int) := by omega
          have em : xm H2 212 (1 + 9 * pnt h L i) = xm h 212 (1 + 9 * pnt h L i) := T2.2.2.2 _ _ (by omega) (by omega)
          rw [if_pos z.1, if_pos z1]
          simp (disch := omega) only [↓reduceIte, ↓bbind, ↓bxgf, ↓bxpf, ↓bxal, ↓bxas, ↓bxrc, ↓exrc, Int.reduceEq, Int.reduceLT, Int.reduceNeg, Int.reduceToNat, Int.toNat_natCast, Option.bind_some, if_true, if_false, reduceIte, ok_0 S2, ok_2 S2, ok_4 S2, ok_6 S2, ok_20 S2, ok_26 S2, ok_148 S2, ok_153 S2, ok_158 S2, ok_163 S2, ia_1 S2, ia_3 S2, ia_5 S2, ia_21 S2, ia_22 S2, ia_23 S2, ia_24 S2, ia_25 S2, ia_27 S2, ia_149 S2, ia_150 S2, ia_151 S2, ia_152 S2, ia_154 S2, ia_155 S2, ia_156 S2, ia_157 S2, ia_159 S2, ia_160 S2, ia_161 S2, ia_162 S2, ia_164 S2, ia_165 S2, ia_166 S2, ia_167 S2, ia_168 S2, ia_169 S2, ia_170 S2, ia_171 S2, ia_172 S2, pt_0_0 S2, pt_2_0 S2, pt_2_1 S2, pt_0_2 S2, pt_4_0 S2, pt_4_1 S2, pt_0_3 S2, pt_6_0 S2, pt_6_1 S2, pt_0_4 S2, pt_20_1 S2, pt_20_2 S2, pt_20_3 S2, pt_20_4 S2, pt_20_5 S2, pt_0_6 S2, pt_26_0 S2, pt_0_7 S2, pt_148_0 S2, pt_148_4 S2, pt_148_5 S2, pt_148_6 S2, pt_0_8 S2, pt_153_0 S2, pt_153_4 S2, pt_153_5 S2, pt_153_6 S2, pt_0_9 S2, pt_158_4 S2, pt_158_5 S2, pt_158_6 S2, pt_158_7 S2, pt_0_10 S2, pt_163_0 S2, pt_163_1 S2, pt_163_2 S2, pt_163_3 S2, pt_0_11 S2, pt_0_12 S2, pt_0_13 S2, pt_0_14 S2, pt_0_15 S2, pt_0_17 S2, rn_night N2, rn_has N2, rn_wants N2, rn_purse N2, rn_met N2, rn_kc N2, rn_kept N2, xok_xset, xia_xset, xm_xset, Nat.reduceEqDiff, false_and, hpt2 i hi, em, (b_set _ hv i (by omega)).1, w32_id]
          rw [show lvb h L (i + 1) = lvb h L i ||| 2 ^ i from if_pos z]
          refine congrArg some (congrArg Sum.inl (Prod.ext rfl (Prod.ext rfl ?_)))
          dsimp only
          rw [e2]
          refine xheq rfl rfl rfl (fun b k => ?_)
          simp only [xm_xset, xm_xarr]
          by_cases p6 : b = 166
          · subst p6
            simp only [true_and, if_true, Nat.reduceEqDiff, false_and, if_false]
            by_cases p : k = i
            · subst p; rw [if_pos rfl, if_pos ⟨by omega, z⟩]
            · rw [if_neg p]
              by_cases p2 : k < i ∧ L.testBit k = true ∧ 0 < rgs h L k
              · rw [if_pos p2, if_pos ⟨by omega, p2.2⟩]
              · rw [if_neg p2, if_neg (fun w => p2 ⟨by omega, w.2⟩)]
          · by_cases p5 : b = 165
            · subst p5
              simp only [true_and, if_true, Nat.reduceEqDiff, false_and, if_false]
              by_cases p : k = i
              · subst p; rw [if_pos rfl, if_pos ⟨by omega, z⟩]
              · rw [if_neg p]
                by_cases p2 : k < i ∧ L.testBit k = true ∧ 0 < rgs h L k
                · rw [if_pos p2, if_pos ⟨by omega, p2.2⟩]
                · rw [if_neg p2, if_neg (fun w => p2 ⟨by omega, w.2⟩)]
            · by_cases p4 : b = 164
              · subst p4
                simp only [true_and, if_true, Nat.reduceEqDiff, false_and, if_false]
                by_cases p : k = i
                · subst p; rw [if_pos rfl, if_pos ⟨by omega, z⟩]
                · rw [if_neg p]
                  by_cases p2 : k < i ∧ L.testBit k = true ∧ 0 < rgs h L k
                  · rw [if_pos p2, if_pos ⟨by omega, p2.2⟩]
                  · rw [if_neg p2, if_neg (fun w => p2 ⟨by omega, w.2⟩)]
              · simp only [p4, p5, p6, false_and, if_false]
        · have z1 : ¬ (0 : Int) < (if L.testBit i = true then ((rgs h L i : Nat) : Int) else 0) := by
            by_cases y : L.testBit i = true
            · rw [if_pos y]
              have : ¬ 0 < rgs h L i := fun w => z ⟨y, w⟩
              omega
            · rw [if_neg y]; decide
          rw [if_neg z1, w32_id (by omega) (by omega), show lvb h L (i + 1) = lvb h L i from if_neg z]
          have same : ∀ k, (k < i + 1 ∧ L.testBit k = true ∧ 0 < rgs h L k) ↔ (k < i ∧ L.testBit k = true ∧ 0 < rgs h L k) := by
            intro k
            constructor
            · rintro ⟨a, b⟩
              refine ⟨?_, b⟩
              by_cases y : k = i
              · subst y; exact absurd b z
              · omega
            · rintro ⟨a, b⟩; exact ⟨by omega, b⟩
          simp only [same]
          rw [e2]
          rfl
      by_cases z : L.testBit i = true
      · rw [if_pos z] at fin
        rw [z]
        simp only [if_true]
        refine (bnd (v := ((rgs h L i : Nat) : Int)) ?_).trans fin
        rw [s_ringOf S2 L hn.2 hpt2 hi]
        exact if_pos (ok_163 S2)
      · rw [if_neg z] at fin
        have z' : L.testBit i = false := by simpa using z
        rw [z']
        simp only [Bool.false_eq_true, if_false]
        rw [if_neg (by decide)]
        exact fin) (by
      have T2 : TGs h (xarr (xarr (xarr H1 164 (fun k => if k < (xm h 199 4).toNat ∧ L.testBit k = true ∧ 0 < rgs h L k then xm h 212 (1 + 9 * pnt h L k) else xm H1 164 k)) 165 (fun k => if k < (xm h 199 4).toNat ∧ L.testBit k = true ∧ 0 < rgs h L k then ((t + 1 : Nat) : Int) else xm H1 165 k)) 166 (fun k => if k < (xm h 199 4).toNat ∧ L.testBit k = true ∧ 0 < rgs h L k then ((rgs h L k : Nat) : Int) else xm H1 166 k)) := ((T1.arr _ (by omega)).arr _ (by omega)).arr _ (by omega)
      have C2 := T2.C C
      unfold f_X10_play_L36
      dsimp only
      refine (bnd (xgf_eq C2.2.1.ok (rc_2 C2))).trans ?_
      rw [if_neg (by rw [T2.2.2.2 199 4 (by omega) (by omega)]; omega)]) (by omega)
    unfold f_X10_play_L12
    have g1 : ¬ ((Lsq h t : Nat) : Int) = 0 := by have := hTl t ht; omega
    have g2 : ¬ (6 : Int) < ((t + 1 : Nat) : Int) := by omega
    rw [if_neg g1, if_neg g2, ← eL]
    refine (bnd (v := H1) ?_).trans ?_
    · rw [s_X10_point T0 S C N L hL, ← e1]
      exact if_pos (ok_163 S0)
    have hz : ((0 : Int), (0 : Int), H1) = (((lvb h L 0 : Nat) : Int), ((0 : Nat) : Int), xarr (xarr (xarr H1 164 (fun k => if k < 0 ∧ L.testBit k = true ∧ 0 < rgs h L k then xm h 212 (1 + 9 * pnt h L k) else xm H1 164 k)) 165 (fun k => if k < 0 ∧ L.testBit k = true ∧ 0 < rgs h L k then ((t + 1 : Nat) : Int) else xm H1 165 k)) 166 (fun k => if k < 0 ∧ L.testBit k = true ∧ 0 < rgs h L k then ((rgs h L k : Nat) : Int) else xm H1 166 k)) := by
      refine Prod.ext rfl (Prod.ext rfl ?_)
      dsimp only
      refine xheq rfl rfl rfl (fun b k => ?_)
      simp only [xm_xarr, Nat.not_lt_zero, false_and, if_false]
      by_cases p6 : b = 166
      · rw [if_pos p6, p6]
      · rw [if_neg p6]
        by_cases p5 : b = 165
        · rw [if_pos p5, p5]
        · rw [if_neg p5]
          by_cases p4 : b = 164
          · rw [if_pos p4, p4]
          · rw [if_neg p4]
    rw [hz]
    refine (bnd hl).trans ?_
    have eN : Lsq h (t + 1) = nxl h L := by rw [eL]; rfl
    rw [w32_id (by omega) (by omega), tb_and63 L hL _ (lvb_lt h L _ (by omega)), eN]
    refine congrArg some (congrArg Sum.inl (Prod.ext rfl (Prod.ext rfl ?_)))
    dsimp only
    rw [e1]
    unfold tC
    refine xheq rfl rfl rfl (fun b k => ?_)
    simp only [xm_xarr, gA, rA, zA, pA, ← eL]
    by_cases p7 : b = 167
    · subst p7; simp
    · by_cases p6 : b = 166
      · subst p6; simp
      · by_cases p5 : b = 165
        · subst p5; simp
        · by_cases p4 : b = 164
          · subst p4; simp
          · simp only [p4, p5, p6, p7, if_false]
  have hl := xit_seq (f := fun u => f_X10_play_L12 163 (s : Int) 20 u.1 u.2.1 u.2.2) (fun t => (((Lsq h t : Nat) : Int), ((t + 1 : Nat) : Int), tC h t)) T (tC h T) round (by
    unfold f_X10_play_L12
    dsimp only
    rw [hT]
    exact if_pos rfl) (by omega)
  unfold f_X10_play
  refine (bnd (xgf_eq C.2.1.ok (rc_2 C))).trans ?_
  have e0 : w32 (xshl 1 (xm h 199 4) - 1) = ((Lsq h 0 : Nat) : Int) := by
    obtain ⟨n, en⟩ : ∃ n : Nat, xm h 199 4 = (n : Int) := ⟨(xm h 199 4).toNat, by omega⟩
    have hx : ∀ n, n < 7 → w32 (xshl 1 ((n : Nat) : Int) - 1) = ((2 ^ n - 1 : Nat) : Int) := by decide +kernel
    rw [en, hx n (by omega)]
    show _ = ((2 ^ (xm h 199 4).toNat - 1 : Nat) : Int)
    rw [en]
    rfl
  rw [e0, show (((Lsq h 0 : Nat) : Int), (1 : Int), h) = (((Lsq h 0 : Nat) : Int), ((0 + 1 : Nat) : Int), tC h 0) by rw [tC_0]; rfl]
  exact (bnd hl).trans rfl
