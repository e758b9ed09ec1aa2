/-! ===== a case told: both sides' cells ===== -/
theorem nm5_congr {f g : Nat → Int} : ∀ n, (∀ k, k < n → f k = g k) → nm5 f n = nm5 g n
  | 0, _ => rfl
  | n + 1, h => by
    simp only [nm5]
    rw [nm5_congr n (fun k hk => h k (by omega)), h n (by omega)]
theorem nm27_congr {f g : Nat → Int} : ∀ n, (∀ k, k < n → f k = g k) → nm27 f n = nm27 g n
  | 0, _ => rfl
  | n + 1, h => by
    simp only [nm27]
    rw [nm27_congr n (fun k hk => h k (by omega)), h n (by omega)]
theorem nm27_inj {f g : Nat → Int} : ∀ n m, (∀ k, k < n → 1 ≤ f k ∧ f k ≤ 26) → (∀ k, k < m → 1 ≤ g k ∧ g k ≤ 26) → nm27 f n = nm27 g m → n = m ∧ ∀ k, k < n → f k = g k
  | 0, 0, _, _, _ => ⟨rfl, fun k hk => by omega⟩
  | 0, m + 1, hf, hg, e => by
    have := (nm27_b hg (m + 1) (Nat.le_refl _)).2 (by omega)
    rw [← e] at this
    simp [nm27] at this
  | n + 1, 0, hf, hg, e => by
    have := (nm27_b hf (n + 1) (Nat.le_refl _)).2 (by omega)
    rw [e] at this
    simp [nm27] at this
  | n + 1, m + 1, hf, hg, e => by
    simp only [nm27] at e
    have a := hf n (by omega)
    have b := hg m (by omega)
    obtain ⟨c1, c2⟩ := nm27_inj n m (fun k hk => hf k (by omega)) (fun k hk => hg k (by omega)) (by omega)
    subst c1
    refine ⟨rfl, fun k hk => ?_⟩
    by_cases z : k = n
    · subst z
      omega
    · exact c2 k (by omega)
theorem nmr_inj {a b a' b' : Int} (h : nmr a b) (h' : nmr a' b') : a = a' ↔ b = b' := by
  obtain ⟨f, n, h1, h2, h3, rfl, rfl⟩ := h
  obtain ⟨g, m, k1, k2, k3, rfl, rfl⟩ := h'
  constructor
  · intro e
    obtain ⟨c1, c2⟩ := nm5_inj h2 k2 h3 k3 e
    subst c1
    exact nm27_congr n c2
  · intro e
    obtain ⟨c1, c2⟩ := nm27_inj n m h3 k3 e
    subst c1
    exact nm5_congr n c2
/-- a formula of the case that is told -/
def FOt (h g : xa_H) (S w F : Nat) : Prop := (xm h S (11 + w) = -1 ∧ xm g 209 w = -1) ∨
  (xm h S (11 + w) = (F : Int) ∧ S + 13 ≤ F ∧ ∃ L a : Nat, FS h F L ∧ xm g 209 w = (a : Int) ∧ xm g 210 w = ((a + L : Nat) : Int) ∧ ((a + L : Nat) : Int) ≤ xm g 173 47 ∧
    (∀ i, i < L → xm h (F + 1) i = cof (xm g 211 (a + i)) ∧ vcode false (xm g 211 (a + i))) ∧ trun (fun i => xm g 211 (a + i)) L [] = some [decide (w = 0)])
/-- what is told so far: the class's cells of h at S, the reference's of g -/
def CD (h g : xa_H) (S : Nat) : Prop := (249 ≤ S ∧ CS h S ∧ xm h 6 2 = (S : Int)) ∧ (0 ≤ xm g 199 0 ∧ xm g 199 0 ≤ 6) ∧ (0 ≤ xm g 199 1 ∧ xm g 199 1 ≤ 6) ∧ (0 ≤ xm g 199 2 ∧ xm g 199 2 ≤ 10) ∧ (0 ≤ xm g 208 0 ∧ xm g 208 0 ≤ 100) ∧
  xm h S 1 = xm g 199 0 ∧ xm h S 2 = xm g 199 1 ∧ xm h S 3 = xm g 199 2 ∧ xm h S 4 = xm g 208 0 ∧
  (∀ i : Nat, (i : Int) < xm g 199 0 → xm h (S + 3) i = xm g 201 i ∧ 0 ≤ xm g 201 i ∧ xm g 201 i ≤ 99) ∧
  (∀ i : Nat, i < 6 → xm h (S + 4) i = xm g 202 i ∧ -1 ≤ xm g 202 i ∧ xm g 202 i < xm g 199 0 ∧ xm g 202 i ≠ (i : Int)) ∧
  (∀ i : Nat, i < 36 → xm h (S + 5) i = xm g 206 i ∧ 0 ≤ xm g 206 i ∧ xm g 206 i ≤ 99) ∧
  (∀ i : Nat, i < 6 → xm h (S + 6) i = xm g 207 i ∧ 0 ≤ xm g 207 i ∧ xm g 207 i < 64) ∧
  (∀ i j : Nat, i < 6 → j < 6 → (xand (xshr (xm g 207 i) (j : Int)) 1 = 1 ↔ xand (xshr (xm g 207 j) (i : Int)) 1 = 1)) ∧
  (∀ i : Nat, (i : Int) < xm g 199 0 → nmr (xm h (S + 1) i) (xm g 200 i)) ∧
  (∀ i : Nat, (i : Int) < xm g 199 1 → nmr (xm h (S + 2) i) (xm g 200 (6 + i))) ∧
  (∀ i : Nat, (i : Int) < xm g 199 1 → (xm h (S + 8) i = xm g 203 i ∧ 0 ≤ xm g 203 i ∧ xm g 203 i < xm g 199 0) ∧ (xm h (S + 9) i = xm g 204 i ∧ 0 ≤ xm g 204 i ∧ xm g 204 i < xm g 199 0) ∧ (xm h (S + 10) i = xm g 205 i ∧ 0 ≤ xm g 205 i ∧ xm g 205 i ≤ 999)) ∧
  (∀ i j : Nat, (i : Int) < xm g 199 1 → (j : Int) < xm g 199 1 → xm g 203 i = xm g 203 j → i = j) ∧
  (∀ i : Nat, xm g 199 1 ≤ (i : Int) → i < 6 → xm h (S + 8) i = 0 ∧ xm h (S + 9) i = 0 ∧ xm h (S + 10) i = 0) ∧
  ((∀ i : Nat, i < 36 → xm h (S + 11) i = 0) ∧ xm h (S + 7) 0 = 0 ∧ xm h (S + 7) 6 = 0)
/-- its formulas -/
def CF (h g : xa_H) (S F1 F2 : Nat) (p : Nat) : Prop := FOt h g S 0 F1 ∧ FOt h g S 1 F2 ∧ (F1 + 3 ≤ F2 ∨ F2 + 3 ≤ F1) ∧ 249 ≤ F1 ∧ 249 ≤ F2 ∧ (0 ≤ xm g 173 47 ∧ xm g 173 47 ≤ (p : Int)) ∧ (xm g 209 0 ≠ -1 → S + 13 ≤ F1) ∧ (xm g 209 1 ≠ -1 → S + 13 ≤ F2)
theorem cd_S {h g : xa_H} {S : Nat} (C : CD h g S) : CS h S := C.1.2.1
theorem cd_6 {h g : xa_H} {S : Nat} (C : CD h g S) : xm h 6 2 = (S : Int) := C.1.2.2
theorem cd_m {h g : xa_H} {S : Nat} (C : CD h g S) : (0 ≤ xm g 199 0 ∧ xm g 199 0 ≤ 6) ∧ (0 ≤ xm g 199 1 ∧ xm g 199 1 ≤ 6) := ⟨C.2.1, C.2.2.1⟩
theorem cd_1 {h g : xa_H} {S : Nat} (C : CD h g S) : xm h S 1 = xm g 199 0 := C.2.2.2.2.2.1
theorem cd_2 {h g : xa_H} {S : Nat} (C : CD h g S) : xm h S 2 = xm g 199 1 := C.2.2.2.2.2.2.1
/-! ===== looking a name up ===== -/
theorem t_heldNamed {h : xa_H} {S n : Nat} (C : CS h S) (h1 : xm h S 1 = (n : Int)) (hn : n ≤ 6) (v : Int) : f_X0_heldNamed (S : Int) v h = some (xfind (fun i => decide (xm h (S + 1) i = v)) n) := by
  have hl := xit_find (f := fun s => f_X0_heldNamed_L2 (S : Int) v h s) (fun i => decide (xm h (S + 1) i = v)) n (by omega) (fun i hi => by
    unfold f_X0_heldNamed_L2
    simp (disch := omega) only [↓reduceIte, ↓bbind, ↓bxgf, ↓bxpf, ↓bxal, ↓bxas, ↓bxrc, ↓exrc, xbo, xok_xset, xia_xset, xln_xset, xm_xset, xok_xarr, xia_xarr, xln_xarr, xm_xarr, Option.bind_some, Int.reduceToNat, Nat.reduceEqDiff, Nat.reduceSub, Int.reduceLT, Int.reduceLE, Int.reduceEq, Int.reduceNeg, if_true, if_false, ite_true, ite_false, true_and, and_true, false_and, and_false, eq_self, reduceIte, Bool.false_eq_true, Nat.reduceBEq, reduceCtorEq, or_true, true_or, or_false, false_or, xel, Int.toNat_natCast, Int.toNat_add, Int.toNat_mul, CS.ok C, cs_p5 C, cs_ia1 C, h1, decide_eq_true_eq]
    rw [if_pos (by omega)]) (by
    unfold f_X0_heldNamed_L2
    simp (disch := omega) only [↓reduceIte, ↓bbind, ↓bxgf, ↓bxpf, ↓bxal, ↓bxas, ↓bxrc, ↓exrc, xbo, xok_xset, xia_xset, xln_xset, xm_xset, xok_xarr, xia_xarr, xln_xarr, xm_xarr, Option.bind_some, Int.reduceToNat, Nat.reduceEqDiff, Nat.reduceSub, Int.reduceLT, Int.reduceLE, Int.reduceEq, Int.reduceNeg, if_true, if_false, ite_true, ite_false, true_and, and_true, false_and, and_false, eq_self, reduceIte, Bool.false_eq_true, Nat.reduceBEq, reduceCtorEq, or_true, true_or, or_false, false_or, xel, Int.toNat_natCast, Int.toNat_add, Int.toNat_mul, CS.ok C, h1]
    rw [if_neg (by omega)])
  unfold f_X0_heldNamed
  rw [hl]
  simp only [Option.bind_some]
  by_cases q : xfind (fun i => decide (xm h (S + 1) i = v)) n = -1
  · rw [if_pos q, q]; rfl
  · rw [if_neg q]; rfl
theorem t_holderNamed {h : xa_H} {S n : Nat} (C : CS h S) (h1 : xm h S 2 = (n : Int)) (hn : n ≤ 6) (v : Int) : f_X0_holderNamed (S : Int) v h = some (xfind (fun i => decide (xm h (S + 2) i = v)) n) := by
  have hl := xit_find (f := fun s => f_X0_holderNamed_L2 (S : Int) v h s) (fun i => decide (xm h (S + 2) i = v)) n (by omega) (fun i hi => by
    unfold f_X0_holderNamed_L2
    simp (disch := omega) only [↓reduceIte, ↓bbind, ↓bxgf, ↓bxpf, ↓bxal, ↓bxas, ↓bxrc, ↓exrc, xbo, xok_xset, xia_xset, xln_xset, xm_xset, xok_xarr, xia_xarr, xln_xarr, xm_xarr, Option.bind_some, Int.reduceToNat, Nat.reduceEqDiff, Nat.reduceSub, Int.reduceLT, Int.reduceLE, Int.reduceEq, Int.reduceNeg, if_true, if_false, ite_true, ite_false, true_and, and_true, false_and, and_false, eq_self, reduceIte, Bool.false_eq_true, Nat.reduceBEq, reduceCtorEq, or_true, true_or, or_false, false_or, xel, Int.toNat_natCast, Int.toNat_add, Int.toNat_mul, CS.ok C, cs_p6 C, cs_ia2 C, h1, decide_eq_true_eq]
    rw [if_pos (by omega)]) (by
    unfold f_X0_holderNamed_L2
    simp (disch := omega) only [↓reduceIte, ↓bbind, ↓bxgf, ↓bxpf, ↓bxal, ↓bxas, ↓bxrc, ↓exrc, xbo, xok_xset, xia_xset, xln_xset, xm_xset, xok_xarr, xia_xarr, xln_xarr, xm_xarr, Option.bind_some, Int.reduceToNat, Nat.reduceEqDiff, Nat.reduceSub, Int.reduceLT, Int.reduceLE, Int.reduceEq, Int.reduceNeg, if_true, if_false, ite_true, ite_false, true_and, and_true, false_and, and_false, eq_self, reduceIte, Bool.false_eq_true, Nat.reduceBEq, reduceCtorEq, or_true, true_or, or_false, false_or, xel, Int.toNat_natCast, Int.toNat_add, Int.toNat_mul, CS.ok C, h1]
    rw [if_neg (by omega)])
  unfold f_X0_holderNamed
  rw [hl]
  simp only [Option.bind_some]
  by_cases q : xfind (fun i => decide (xm h (S + 2) i = v)) n = -1
  · rw [if_pos q, q]; rfl
  · rw [if_neg q]; rfl
theorem xcmp_0 {a b : Int} : xcmp a b = 0 ↔ a = b := by
  unfold xcmp
  split
  · omega
  · split <;> omega
theorem t_nameOf {g : xa_H} (S : SH g) {k n : Nat} (hk : k < 2) (h1 : xm g 199 k = (n : Int)) (hn : n ≤ 6) (v : Int) : f_X12_nameOf 173 (k : Int) v g = some (xfind (fun i => decide (xm g 200 (6 * k + i) = v)) n) := by
  have hl := xit_find (f := fun s => f_X12_nameOf_L3 173 (k : Int) v g s) (fun i => decide (xm g 200 (6 * k + i) = v)) n (by omega) (fun i hi => by
    have i1 : xia g 0 199 (k : Int) = true := ia_199 S (by omega) (by omega)
    have i2 : xia g 1 200 ((6 * k + i : Nat) : Int) = true := ia_200 S (by omega) (by omega)
    unfold f_X12_nameOf_L3
    rw [gM S, pt_173_34 S, bxal, if_pos i1]
    show (if (i : Int) < xm g 199 k then _ else _) = _
    rw [h1, if_pos (by omega), gM S, pt_173_35 S, w32_id (z := 6 * (k : Int)) (by omega) (by omega), w32_id (z := 6 * (k : Int) + (i : Int)) (by omega) (by omega), show 6 * (k : Int) + (i : Int) = ((6 * k + i : Nat) : Int) by omega, bxal, if_pos i2]
    show (if xcmp (xm g 200 (6 * k + i)) v = 0 then _ else _) = _
    rw [iteI xcmp_0]
    simp only [decide_eq_true_eq]) (by
    have i1 : xia g 0 199 (k : Int) = true := ia_199 S (by omega) (by omega)
    unfold f_X12_nameOf_L3
    rw [gM S, pt_173_34 S, bxal, if_pos i1]
    show (if (n : Int) < xm g 199 k then _ else _) = _
    rw [h1, if_neg (by omega)])
  unfold f_X12_nameOf
  rw [hl]
  simp only [Option.bind_some]
  by_cases q : xfind (fun i => decide (xm g 200 (6 * k + i) = v)) n = -1
  · rw [if_pos q, q]; rfl
  · rw [if_neg q]; rfl
/-! ===== the reference with a fault goes through the rest ===== -/
theorem b_name {g : xa_H} {e : Nat × Nat} (B : Bx g e) : f_X12_name 173 g = some (0, g) := by
  unfold f_X12_name
  rw [gM B.1, B.2.1, if_neg (by have := B.2.2.2; omega)]
theorem b_asks {g : xa_H} {e : Nat × Nat} (B : Bx g e) (c : Int) : f_X12_asks 173 c g = some g := by
  unfold f_X12_asks
  rw [gM B.1, B.2.1, if_neg (by have := B.2.2.2; omega)]
theorem b_asksSign {g : xa_H} {e : Nat × Nat} (B : Bx g e) (c : Int) : f_X12_asksSign 173 c g = some g := by
  unfold f_X12_asksSign
  rw [gM B.1, B.2.1, if_neg (by have := B.2.2.2; omega)]
theorem b_number {g : xa_H} {e : Nat × Nat} (B : Bx g e) (a c : Int) : f_X12_number 173 a c g = some (0, g) := by
  unfold f_X12_number
  rw [gM B.1, B.2.1, if_neg (by have := B.2.2.2; omega)]
theorem b_fail {g : xa_H} {e : Nat × Nat} (B : Bx g e) (a c : Int) : f_X12_fail 173 a c g = some g := by
  unfold f_X12_fail
  rw [gM B.1, B.2.1, if_neg (by have := B.2.2.2; omega)]
theorem b_codesTold {g : xa_H} {e : Nat × Nat} (B : Bx g e) (a c : Int) : f_X12_codesTold 173 a c g = some g := by
  unfold f_X12_codesTold f_X12_codesTold_J23
  rw [gM B.1, B.2.1, if_neg (by have := B.2.2.2; omega), gM B.1, B.2.1, if_neg (by have := B.2.2.2; omega)]
/-- the counts are fit -/
def Ct (g : xa_H) : Prop := (0 ≤ xm g 199 0 ∧ xm g 199 0 ≤ 6) ∧ (0 ≤ xm g 199 1 ∧ xm g 199 1 ≤ 6)
theorem b_oneOf {g : xa_H} {e : Nat × Nat} (B : Bx g e) (C : Ct g) {k : Nat} (hk : k < 2) : f_X12_oneOf 173 (k : Int) g = some (0, g) := by
  obtain ⟨n, hn, hn6⟩ : ∃ n : Nat, xm g 199 k = (n : Int) ∧ n ≤ 6 := by
    obtain ⟨c1, c2⟩ := C
    have : k = 0 ∨ k = 1 := by omega
    rcases this with rfl | rfl
    · exact ⟨(xm g 199 0).toNat, by omega, by omega⟩
    · exact ⟨(xm g 199 1).toNat, by omega, by omega⟩
  unfold f_X12_oneOf f_X12_oneOf_J35
  rw [xM B.1, b_name B, bbind, xM B.1, t_nameOf B.1 hk hn hn6, bbind, gM B.1, B.2.1, if_neg (by have := B.2.2.2; omega), gM B.1, B.2.1, if_neg (by have := B.2.2.2; omega)]
theorem b_newName {g : xa_H} {e : Nat × Nat} (B : Bx g e) : f_X12_newName 173 g = some (0, g) := by
  have l : ∀ k : Int, 0 ≤ k ∧ k < 2 → f_X12_newName_L7 173 0 k g = some (.inl (w32 (k + 1), g)) := fun k hk => by
    unfold f_X12_newName_L7
    rw [if_pos hk.2, gM B.1, B.2.1, if_neg (by have := B.2.2.2; omega)]
  have r := xit_seq (f := fun s : Int × xa_H => f_X12_newName_L7 173 0 s.1 s.2) (fun i => ((i : Int), g)) 2 g (fun i hi => by
    show f_X12_newName_L7 173 0 (i : Int) g = _
    rw [l _ (by omega), w32_id (by omega) (by omega)]
    rfl) (by
    show f_X12_newName_L7 173 0 2 g = _
    unfold f_X12_newName_L7
    rw [if_neg (by decide)]) (by omega)
  unfold f_X12_newName
  rw [xM B.1, b_name B, bbind]
  refine (bnd r).trans ?_
  rfl
