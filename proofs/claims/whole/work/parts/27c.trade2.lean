/-! ===== trade, rings and rounds ===== -/
theorem itr_lt2 {f : Nat → Nat} {n x : Nat} (hf : ∀ i, i < n → f i < n) (hx : x < n) (k : Nat) : itr f x k < n := itr_lt hf hx k
theorem s_ringOf {h H : xa_H} (S : SH H) (L : Nat) (hn6 : xm h 199 4 ≤ 6) (hP : ∀ k, k < (xm h 199 4).toNat → xm H 167 k = ((pnt h L k : Nat) : Int)) {i : Nat} (hi : i < (xm h 199 4).toNat) : f_X10_ringOf 163 (i : Int) H = some ((rgs h L i : Nat) : Int) := by
  have hl := fun k => itr_lt (f := pnt h L) (n := (xm h 199 4).toNat) (fun i hi => bst_lt hi _) hi k
  have rec1 : ∀ d k, k + d = 7 → 1 ≤ k → ∀ fu, d < fu → xit (fun s => f_X10_ringOf_L4 163 (i : Int) H s.1 s.2) fu (((itr (pnt h L) i (k - 1) : Nat) : Int), (k : Int)) = some (if rts (pnt h L) i d k = 0 then .inr () else .inl ((rts (pnt h L) i d k : Nat) : Int)) := by
    intro d
    induction d with
    | zero =>
      intro k hk h1 fu hf
      refine xit_end ?_ (by omega)
      unfold f_X10_ringOf_L4
      dsimp only
      rw [if_pos (by omega)]
      rfl
    | succ d ih =>
      intro k hk h1 fu hf
      obtain ⟨m, rfl⟩ : ∃ m, fu = m + 1 := ⟨fu - 1, by omega⟩
      have g := hl (k - 1)
      have st : f_X10_ringOf_L4 163 (i : Int) H ((itr (pnt h L) i (k - 1) : Nat) : Int) (k : Int) = if ((itr (pnt h L) i k : Nat) : Int) = (i : Int) then some (.inr (.inl (k : Int))) else some (.inl (((itr (pnt h L) i k : Nat) : Int), ((k + 1 : Nat) : Int))) := by
        have q : ¬ (6 : Int) < (k : Int) := by omega
        have e : xm H 167 (itr (pnt h L) i (k - 1)) = ((itr (pnt h L) i k : Nat) : Int) := by
          rw [hP _ g]
          obtain ⟨j, rfl⟩ : ∃ j, k = j + 1 := ⟨k - 1, by omega⟩
          rfl
        unfold f_X10_ringOf_L4
        rw [if_neg q]
        simp (disch := omega) only [↓reduceIte, ↓bbind, ↓bxgf, ↓bxpf, ↓bxal, ↓bxas, ↓bxrc, ↓exrc, Int.reduceEq, Int.reduceLT, Int.reduceNeg, Int.reduceToNat, Int.toNat_natCast, Option.bind_some, if_true, if_false, reduceIte, ok_0 S, ok_2 S, ok_4 S, ok_6 S, ok_20 S, ok_26 S, ok_148 S, ok_153 S, ok_158 S, ok_163 S, ia_1 S, ia_3 S, ia_5 S, ia_21 S, ia_22 S, ia_23 S, ia_24 S, ia_25 S, ia_27 S, ia_149 S, ia_150 S, ia_151 S, ia_152 S, ia_154 S, ia_155 S, ia_156 S, ia_157 S, ia_159 S, ia_160 S, ia_161 S, ia_162 S, ia_164 S, ia_165 S, ia_166 S, ia_167 S, ia_168 S, ia_169 S, ia_170 S, ia_171 S, ia_172 S, pt_0_0 S, pt_2_0 S, pt_2_1 S, pt_0_2 S, pt_4_0 S, pt_4_1 S, pt_0_3 S, pt_6_0 S, pt_6_1 S, pt_0_4 S, pt_20_1 S, pt_20_2 S, pt_20_3 S, pt_20_4 S, pt_20_5 S, pt_0_6 S, pt_26_0 S, pt_0_7 S, pt_148_0 S, pt_148_4 S, pt_148_5 S, pt_148_6 S, pt_0_8 S, pt_153_0 S, pt_153_4 S, pt_153_5 S, pt_153_6 S, pt_0_9 S, pt_158_4 S, pt_158_5 S, pt_158_6 S, pt_158_7 S, pt_0_10 S, pt_163_0 S, pt_163_1 S, pt_163_2 S, pt_163_3 S, pt_0_11 S, pt_0_12 S, pt_0_13 S, pt_0_14 S, pt_0_15 S, pt_0_17 S, e, w32_id]
        rfl
      by_cases z : itr (pnt h L) i k = i
      · rw [show rts (pnt h L) i (d + 1) k = k from if_pos z]
        rw [xit_end (by dsimp only; rw [st, if_pos (by omega)]) (by omega)]
        rw [if_neg (by omega)]
      · rw [show rts (pnt h L) i (d + 1) k = rts (pnt h L) i d (k + 1) from if_neg z]
        rw [xit_go (by dsimp only; rw [st, if_neg (by omega)])]
        exact ih (k + 1) (by omega) (by omega) m (by omega)
  unfold f_X10_ringOf
  have := rec1 6 1 rfl (by omega) xFU (by decide)
  rw [show ((i : Int), (1 : Int)) = (((itr (pnt h L) i (1 - 1) : Nat) : Int), ((1 : Nat) : Int)) from rfl, this]
  show (some _).bind _ = some ((rts (pnt h L) i 6 1 : Nat) : Int)
  by_cases z : rts (pnt h L) i 6 1 = 0
  · rw [if_pos z, z]; rfl
  · rw [if_neg z]; rfl
theorem s_roundOf {h H : xa_H} (S : SH H) (L : Nat) (hn6 : xm h 199 4 ≤ 6) {i : Nat} (hi : i < (xm h 199 4).toNat) (hLi : L.testBit i = true) (hP : ∀ k, k < (xm h 199 4).toNat → L.testBit k = true → xm H 219 k = ((pnt h L k : Nat) : Int)) : f_X12_roundOf 173 (i : Int) H = some ((rgs h L i : Nat) : Int) := by
  have hf : ∀ k, k < (xm h 199 4).toNat → pnt h L k < (xm h 199 4).toNat := fun k hk => bst_lt hk _
  have hl := fun k => itr_lt (f := pnt h L) (n := (xm h 199 4).toNat) hf hi k
  have hin : ∀ k, L.testBit (itr (pnt h L) i k) = true := by
    intro k
    induction k with
    | zero => exact hLi
    | succ k ih => exact bst_in ih _
  have e : ∀ k, xm H 219 (itr (pnt h L) i k) = ((itr (pnt h L) i (k + 1) : Nat) : Int) := fun k => hP _ (hl k) (hin k)
  have e0 : xm H 219 i = ((itr (pnt h L) i (0 + 1) : Nat) : Int) := e 0
  have stp : ∀ k : Nat, 1 ≤ k → k ≤ 6 → itr (pnt h L) i k ≠ i → f_X12_roundOf_L9 173 (i : Int) H ((itr (pnt h L) i k : Nat) : Int) (k : Int) = some (.inl (((itr (pnt h L) i (k + 1) : Nat) : Int), ((k + 1 : Nat) : Int))) := by
    intro k h1 h2 h3
    have g := hl k
    unfold f_X12_roundOf_L9
    rw [if_neg (by omega), if_neg (by omega)]
    simp (disch := omega) only [↓reduceIte, ↓bbind, ↓bxgf, ↓bxpf, ↓bxal, ↓bxas, ↓bxrc, ↓exrc, Int.reduceEq, Int.reduceLT, Int.reduceNeg, Int.reduceToNat, Int.toNat_natCast, Option.bind_some, if_true, if_false, reduceIte, ok_173 S, pt_173_67 S, ia_219 S, e, w32_id]
    rfl
  have fin : ∀ k : Nat, itr (pnt h L) i k = i → f_X12_roundOf_L9 173 (i : Int) H ((itr (pnt h L) i k : Nat) : Int) (k : Int) = some (.inr ((i : Int), (k : Int))) := by
    intro k h1
    unfold f_X12_roundOf_L9
    rw [if_pos (by omega), h1]
  have st0 : f_X12_roundOf 173 (i : Int) H = (xit (fun s => f_X12_roundOf_L9 173 (i : Int) H s.1 s.2) xFU (((itr (pnt h L) i (0 + 1) : Nat) : Int), ((0 + 1 : Nat) : Int))).bind fun e7 => f_X12_roundOf_J33 (i : Int) e7.1 e7.2 H := by
    unfold f_X12_roundOf
    simp (disch := omega) only [↓reduceIte, ↓bbind, ↓bxgf, ↓bxpf, ↓bxal, ↓bxas, ↓bxrc, ↓exrc, Int.reduceEq, Int.reduceLT, Int.reduceNeg, Int.reduceToNat, Int.toNat_natCast, Option.bind_some, if_true, if_false, reduceIte, ok_173 S, pt_173_67 S, ia_219 S, e0]
    rfl
  rw [st0]
  rcases rgs_spec h L i with ⟨r1, r2⟩ | ⟨r1, r2, r3, r4⟩
  · have n7 : itr (pnt h L) i (6 + 1) ≠ i := by
      intro c
      obtain ⟨a, b, ab, bn, eab⟩ := php (xm h 199 4).toNat (itr (pnt h L) i) (fun k _ => hl k)
      -- from a on it goes round by b - a; seven steps bring it back to i
      have per : ∀ k, itr (pnt h L) i (k + 7) = itr (pnt h L) i k := by
        intro k
        induction k with
        | zero => exact c
        | succ k ih =>
          show pnt h L (itr (pnt h L) i (k + 7)) = pnt h L (itr (pnt h L) i k)
          rw [ih]
      have sh : ∀ d, itr (pnt h L) i (a + d) = itr (pnt h L) i (b + d) := by
        intro d
        induction d with
        | zero => exact eab
        | succ d ih =>
          show pnt h L (itr (pnt h L) i (a + d)) = pnt h L (itr (pnt h L) i (b + d))
          rw [ih]
      have := sh (7 - a)
      rw [show a + (7 - a) = 0 + 7 by omega, show b + (7 - a) = (b - a) + 7 by omega, per, per] at this
      exact r2 (b - a) (by omega) (by omega) this.symm
    have l := xit_seq (f := fun s => f_X12_roundOf_L9 173 (i : Int) H s.1 s.2) (fun k => (((itr (pnt h L) i (k + 1) : Nat) : Int), ((k + 1 : Nat) : Int))) 6 (((itr (pnt h L) i (6 + 1) : Nat) : Int), (7 : Int)) (fun k hk => stp (k + 1) (by omega) (by omega) (r2 (k + 1) (by omega) (by omega))) (by
      unfold f_X12_roundOf_L9
      dsimp only
      rw [if_neg (by have := n7; omega), if_pos (by omega)]
      rfl) (by omega)
    rw [l, r1]
    show f_X12_roundOf_J33 (i : Int) ((itr (pnt h L) i (6 + 1) : Nat) : Int) 7 H = _
    unfold f_X12_roundOf_J33
    rw [if_neg (by have := n7; omega)]
    rfl
  · have l := xit_seq (f := fun s => f_X12_roundOf_L9 173 (i : Int) H s.1 s.2) (fun k => (((itr (pnt h L) i (k + 1) : Nat) : Int), ((k + 1 : Nat) : Int))) (rgs h L i - 1) ((i : Int), ((rgs h L i : Nat) : Int)) (fun k hk => stp (k + 1) (by omega) (by omega) (r4 (k + 1) (by omega) (by omega))) (by
      dsimp only
      rw [show rgs h L i - 1 + 1 = rgs h L i by omega]
      exact fin _ r3) (by omega)
    rw [l]
    show f_X12_roundOf_J33 (i : Int) (i : Int) _ H = _
    unfold f_X12_roundOf_J33
    rw [if_pos rfl]

theorem tb_and63 : ∀ L, L < 64 → ∀ e, e < 64 → xand ((L : Nat) : Int) (xxor ((e : Nat) : Int) (-1)) = ((L &&& (63 ^^^ e) : Nat) : Int) := by decide +kernel
theorem tb_63 : ∀ e, e < 64 → ∀ j, j < 6 → ((63 ^^^ e).testBit j = true ↔ ¬ e.testBit j = true) := by decide +kernel
theorem lvb_lt (h : xa_H) (L : Nat) : ∀ k, k ≤ 6 → lvb h L k < 64
  | 0, _ => (by decide : 0 < 64)
  | k + 1, hk => by
    simp only [lvb]
    split
    · exact (b_set _ (lvb_lt h L k (by omega)) k (by omega)).2
    · exact lvb_lt h L k (by omega)
theorem lvb_bit (h : xa_H) (L : Nat) : ∀ k, k ≤ 6 → ∀ j, j < 6 → ((lvb h L k).testBit j = true ↔ j < k ∧ L.testBit j = true ∧ 0 < rgs h L j)
  | 0, _, j, _ => by simp [lvb]
  | k + 1, hk, j, hj => by
    simp only [lvb]
    have ih := lvb_bit h L k (by omega) j hj
    split
    · rename_i q
      rw [bt_or, ih]
      constructor
      · rintro (a | rfl)
        · exact ⟨by omega, a.2⟩
        · exact ⟨by omega, q⟩
      · rintro a
        by_cases z : j = k
        · exact Or.inr z
        · exact Or.inl ⟨by omega, a.2⟩
    · rename_i q
      rw [ih]
      constructor
      · rintro a
        exact ⟨by omega, a.2⟩
      · rintro a
        by_cases z : j = k
        · subst z
          exact absurd a.2 q
        · exact ⟨by omega, a.2⟩
theorem nxl_lt {h : xa_H} {L : Nat} (hL : L < 64) : nxl h L < 64 := Nat.lt_of_le_of_lt Nat.and_le_left hL
theorem nxl_bit {h : xa_H} {L : Nat} (hn6 : xm h 199 4 ≤ 6) {j : Nat} (hj : j < 6) (hjn : j < (xm h 199 4).toNat) : (nxl h L).testBit j = true ↔ L.testBit j = true ∧ rgs h L j = 0 := by
  unfold nxl
  rw [Nat.testBit_and, Bool.and_eq_true, tb_63 _ (lvb_lt h L _ (by omega)) j hj, lvb_bit h L _ (by omega) j hj]
  constructor
  · rintro ⟨a, b⟩
    refine ⟨a, ?_⟩
    by_cases z : 0 < rgs h L j
    · exact absurd ⟨hjn, a, z⟩ b
    · omega
  · rintro ⟨a, b⟩
    exact ⟨a, fun c => by omega⟩
theorem Lsq_lt {h : xa_H} (hn6 : xm h 199 4 ≤ 6) : ∀ t, Lsq h t < 64
  | 0 => by
    have : ∀ n, n < 7 → 2 ^ n - 1 < 64 := by decide
    exact this _ (by omega)
  | t + 1 => nxl_lt (Lsq_lt hn6 t)
theorem Lsq_n {h : xa_H} (hn6 : xm h 199 4 ≤ 6) : ∀ t j, j < 6 → (Lsq h t).testBit j = true → j < (xm h 199 4).toNat
  | 0, j, hj, hb => (tb_all _ (by omega) j hj).mp hb
  | t + 1, j, hj, hb => by
    refine Lsq_n hn6 t j hj ?_
    have : (nxl h (Lsq h t)).testBit j = true := hb
    unfold nxl at this
    rw [Nat.testBit_and, Bool.and_eq_true] at this
    exact this.1
/-- somebody leaves -/
theorem nxl_less {h : xa_H} {L : Nat} (hn6 : xm h 199 4 ≤ 6) (hL : L < 64) (h0 : L ≠ 0) (hs : ∀ j, j < 6 → L.testBit j = true → j < (xm h 199 4).toNat) : pcn (nxl h L) < pcn L := by
  have hex : ∃ i, i < 6 ∧ L.testBit i = true := by
    refine Classical.byContradiction (fun no => h0 (tb_ext hL (by decide) (fun j hj => ?_)))
    constructor
    · intro a; exact absurd ⟨j, hj, a⟩ no
    · intro a; simp at a
  obtain ⟨i, i6, hi⟩ := hex
  have hin := hs i i6 hi
  have hf : ∀ k, k < (xm h 199 4).toNat → pnt h L k < (xm h 199 4).toNat := fun k hk => bst_lt hk _
  have hl := fun k => itr_lt (f := pnt h L) (n := (xm h 199 4).toNat) hf hin k
  have hb : ∀ k, L.testBit (itr (pnt h L) i k) = true := by
    intro k
    induction k with
    | zero => exact hi
    | succ k ih => exact bst_in ih _
  obtain ⟨a, b, ab, bn, eab⟩ := php (xm h 199 4).toNat (itr (pnt h L) i) (fun k _ => hl k)
  -- from the a-th on it is a ring
  have comp : ∀ d, itr (pnt h L) (itr (pnt h L) i a) d = itr (pnt h L) i (a + d) := by
    intro d
    induction d with
    | zero => rfl
    | succ d ih =>
      show pnt h L (itr (pnt h L) (itr (pnt h L) i a) d) = pnt h L (itr (pnt h L) i (a + d))
      rw [ih]
  have rp : rgs h L (itr (pnt h L) i a) ≠ 0 := by
    rcases rgs_spec h L (itr (pnt h L) i a) with ⟨r1, r2⟩ | ⟨r1, -⟩
    · have := r2 (b - a) (by omega) (by omega)
      rw [comp, show a + (b - a) = b by omega] at this
      exact absurd eab.symm this
    · omega
  have hy := hl a
  refine pcn_lt _ (nxl_lt hL) _ hL (tb_sub (nxl_lt hL) (fun j hj hj2 => ?_)) (fun e => ?_)
  · unfold nxl at hj2
    rw [Nat.testBit_and, Bool.and_eq_true] at hj2
    exact hj2.1
  · have h1 : (nxl h L).testBit (itr (pnt h L) i a) = true := by rw [e]; exact hb a
    exact rp ((nxl_bit hn6 (by omega) hy).mp h1).2
