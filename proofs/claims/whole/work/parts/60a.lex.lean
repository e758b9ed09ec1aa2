/-! ===== the text, by places ===== -/
def rn (P : Nat → Bool) : Nat → Nat → Nat
  | 0, k => k
  | n + 1, k => if P k = true then rn P n (k + 1) else k
theorem rn_ge (P : Nat → Bool) : ∀ (n k : Nat), k ≤ rn P n k
  | 0, k => Nat.le_refl k
  | n + 1, k => by
    simp only [rn]
    split
    · have := rn_ge P n (k + 1)
      omega
    · exact Nat.le_refl k
theorem rn_all (P : Nat → Bool) : ∀ (n k j : Nat), k ≤ j → j < rn P n k → P j = true
  | 0, k, j, h1, h2 => by
    simp only [rn] at h2
    omega
  | n + 1, k, j, h1, h2 => by
    simp only [rn] at h2
    split at h2
    · rename_i p
      by_cases e : j = k
      · rw [e]; exact p
      · exact rn_all P n (k + 1) j (by omega) h2
    · omega
theorem rn_stop {P : Nat → Bool} {L : Nat} (hP : ∀ k, L ≤ k → P k = false) : ∀ (n k : Nat), L ≤ k + n → P (rn P n k) = false
  | 0, k, h => by
    simp only [rn]
    exact hP k (by omega)
  | n + 1, k, h => by
    simp only [rn]
    split
    · exact rn_stop hP n (k + 1) (by omega)
    · rename_i p
      simpa using p
theorem rn_uniq {P : Nat → Bool} {n k q : Nat} (h1 : k ≤ q) (h2 : ∀ j, k ≤ j → j < q → P j = true) (h3 : P q = false) (hs : P (rn P n k) = false) : rn P n k = q := by
  have a := rn_ge P n k
  rcases Nat.lt_trichotomy (rn P n k) q with h | h | h
  · rw [h2 _ a h] at hs
    cases hs
  · exact h
  · have := rn_all P n k q h1 h
    rw [h3] at this
    cases this
theorem rn_le {P : Nat → Bool} {L : Nat} (hP : ∀ k, L ≤ k → P k = false) (n k : Nat) (h : k ≤ L) : rn P n k ≤ L := by
  by_cases q : L < rn P n k
  · have e := rn_all P n k L h q
    rw [hP L (Nat.le_refl _)] at e
    cases e
  · omega
def tk_b (T : Nat → Int) (L k : Nat) : Bool := decide (k < L) && (decide (T k = 10) || decide (T k = 32))
def tk_l (T : Nat → Int) (L k : Nat) : Bool := decide (k < L) && (decide (97 ≤ T k) && decide (T k ≤ 122))
def tk_d (T : Nat → Int) (L k : Nat) : Bool := decide (k < L) && (decide (48 ≤ T k) && decide (T k ≤ 57))
theorem tk_b0 {T : Nat → Int} {L : Nat} : ∀ k, L ≤ k → tk_b T L k = false := fun k h => by
  unfold tk_b
  rw [decide_eq_false (by omega)]
  rfl
theorem tk_l0 {T : Nat → Int} {L : Nat} : ∀ k, L ≤ k → tk_l T L k = false := fun k h => by
  unfold tk_l
  rw [decide_eq_false (by omega)]
  rfl
theorem tk_d0 {T : Nat → Int} {L : Nat} : ∀ k, L ≤ k → tk_d T L k = false := fun k h => by
  unfold tk_d
  rw [decide_eq_false (by omega)]
  rfl
theorem tk_bi {T : Nat → Int} {L k : Nat} : tk_b T L k = true ↔ k < L ∧ (T k = 10 ∨ T k = 32) := by simp [tk_b]
theorem tk_li {T : Nat → Int} {L k : Nat} : tk_l T L k = true ↔ k < L ∧ 97 ≤ T k ∧ T k ≤ 122 := by simp [tk_l]
theorem tk_di {T : Nat → Int} {L k : Nat} : tk_d T L k = true ↔ k < L ∧ 48 ≤ T k ∧ T k ≤ 57 := by simp [tk_d]
def tk_sk (T : Nat → Int) (L k : Nat) : Nat := rn (tk_b T L) L k
def tk_we (T : Nat → Int) (L k : Nat) : Nat := rn (tk_l T L) L k
def tk_de (T : Nat → Int) (L k : Nat) : Nat := rn (tk_d T L) L k
theorem tk_sk_stop {T : Nat → Int} {L k : Nat} : tk_b T L (tk_sk T L k) = false := rn_stop tk_b0 L k (by omega)
theorem tk_we_stop {T : Nat → Int} {L k : Nat} : tk_l T L (tk_we T L k) = false := rn_stop tk_l0 L k (by omega)
theorem tk_de_stop {T : Nat → Int} {L k : Nat} : tk_d T L (tk_de T L k) = false := rn_stop tk_d0 L k (by omega)
theorem tk_sk_eq {T : Nat → Int} {L k q : Nat} (h1 : k ≤ q) (h2 : ∀ j, k ≤ j → j < q → tk_b T L j = true) (h3 : tk_b T L q = false) : tk_sk T L k = q := rn_uniq h1 h2 h3 tk_sk_stop
theorem tk_sk_self {T : Nat → Int} {L k : Nat} (h3 : tk_b T L k = false) : tk_sk T L k = k := tk_sk_eq (Nat.le_refl _) (fun j h1 h2 => by omega) h3
theorem tk_sk_sk {T : Nat → Int} {L k : Nat} : tk_sk T L (tk_sk T L k) = tk_sk T L k := tk_sk_self tk_sk_stop
theorem tk_we_gt {T : Nat → Int} {L p : Nat} (h : tk_l T L p = true) : p + 1 ≤ tk_we T L p := by
  have a : p ≤ tk_we T L p := rn_ge _ _ _
  by_cases q : tk_we T L p = p
  · have e := tk_we_stop (T := T) (L := L) (k := p)
    rw [q, h] at e
    cases e
  · omega
theorem tk_de_gt {T : Nat → Int} {L p : Nat} (h : tk_d T L p = true) : p + 1 ≤ tk_de T L p := by
  have a : p ≤ tk_de T L p := rn_ge _ _ _
  by_cases q : tk_de T L p = p
  · have e := tk_de_stop (T := T) (L := L) (k := p)
    rw [q, h] at e
    cases e
  · omega
/-- where the token at p ends -/
def tk_st (T : Nat → Int) (L p : Nat) : Nat := if p < L then (if tk_l T L p = true then tk_we T L p else if tk_d T L p = true then tk_de T L p else p + 1) else p
/-- its kind: b, it touches what stands ahead -/
def tk_k (T : Nat → Int) (L p : Nat) (b : Bool) : Int := if p < L then (if tk_l T L p = true then (if b = true then 4 else 1) else if tk_d T L p = true then (if b = true then 4 else 2) else 3) else 0
def tk_nv (T : Nat → Int) (p : Nat) : Nat → Int
  | 0 => 0
  | n + 1 => 10 * tk_nv T p n + (T (p + n) - 48)
def tk_v (T : Nat → Int) (L p : Nat) : Int := if p < L then (if tk_l T L p = true then nm5 (fun k => T (p + k) - 96) (min (tk_we T L p - p) 6) else if tk_d T L p = true then tk_nv T p (min (tk_de T L p - p) 4) else T p) else 0
def tk_wl : List (List Int) := [[104, 101, 108, 100], [115, 97, 108, 116], [104, 111, 108, 100, 101, 114], [104, 97, 115], [119, 97, 110, 116, 115], [112, 117, 114, 115, 101], [118, 97, 108, 117, 101, 115], [102, 101, 117, 100], [115, 105, 115, 116, 101, 114], [115, 119, 97, 112, 115], [112, 97, 121, 115], [102, 111, 103], [103, 101, 116, 115], [103, 105, 118, 101, 115], [109, 101, 116], [110, 105, 103, 104, 116], [110, 117, 109, 98, 101, 114], [111, 114], [97, 110, 100], [110, 111, 116], [97, 108, 108], [109, 105, 110], [109, 97, 120], [102, 105, 114, 115, 116], [108, 97, 115, 116], [111, 102, 116, 101, 110], [116, 111, 116, 97, 108], [109, 111, 115, 116], [108, 101, 97, 115, 116]]
def tk_ww (w : Nat) : List Int := tk_wl.getD w []
/-- the word w stands at p -/
def tk_is (T : Nat → Int) (L p : Nat) (w : Nat) : Bool := tk_l T L p && decide (tk_we T L p = p + (tk_ww w).length) && (List.range (tk_ww w).length).all fun j => decide (T (p + j) = (tk_ww w).getD j 0)
theorem tk_is_i {T : Nat → Int} {L p w : Nat} : tk_is T L p w = true ↔ tk_l T L p = true ∧ tk_we T L p = p + (tk_ww w).length ∧ ∀ j, j < (tk_ww w).length → T (p + j) = (tk_ww w).getD j 0 := by
  simp [tk_is, and_assoc]
theorem tk_ww_inj : ∀ w, w < 29 → ∀ v, v < 29 → tk_ww w = tk_ww v → w = v := by decide +kernel
theorem tk_is_inj {T : Nat → Int} {L p w v : Nat} (hw : w < 29) (hv : v < 29) (h1 : tk_is T L p w = true) (h2 : tk_is T L p v = true) : w = v := by
  obtain ⟨a1, a2, a3⟩ := tk_is_i.mp h1
  obtain ⟨b1, b2, b3⟩ := tk_is_i.mp h2
  have hl : (tk_ww w).length = (tk_ww v).length := by omega
  refine tk_ww_inj w hw v hv (List.ext_getElem hl fun j g1 g2 => ?_)
  have e1 := a3 j g1
  have e2 := b3 j g2
  rw [e1] at e2
  rw [List.getD_eq_getElem?_getD, List.getD_eq_getElem?_getD, List.getElem?_eq_getElem g1, List.getElem?_eq_getElem g2] at e2
  exact e2
/-- the number of the word at p, none: -1 -/
def tk_w (T : Nat → Int) (L p : Nat) (b : Bool) : Int := if b = true then -1 else xfind (fun w => tk_is T L p w) 29
theorem tk_w_i {T : Nat → Int} {L p w : Nat} {b : Bool} (hw : w < 29) : tk_w T L p b = (w : Int) ↔ b = false ∧ tk_is T L p w = true := by
  unfold tk_w
  cases b
  · simp only [Bool.false_eq_true, if_false, true_and]
    rcases xfind_spec (fun w => tk_is T L p w) 29 with ⟨e1, e2⟩ | ⟨j, e1, e2, e3, -⟩
    · rw [e1]
      constructor
      · intro h; omega
      · intro h
        rw [e2 w hw] at h
        cases h
    · rw [e1]
      constructor
      · intro h
        have : j = w := by omega
        rw [← this]; exact e3
      · intro h
        rw [tk_is_inj e2 hw e3 h]
  · simp
theorem tk_w_r {T : Nat → Int} {L p : Nat} {b : Bool} : tk_w T L p b = -1 ∨ ∃ w : Nat, w < 29 ∧ tk_w T L p b = (w : Int) := by
  unfold tk_w
  cases b
  · simp only [Bool.false_eq_true, if_false]
    rcases xfind_spec (fun w => tk_is T L p w) 29 with ⟨e1, -⟩ | ⟨j, e1, e2, -⟩
    · exact Or.inl e1
    · exact Or.inr ⟨j, e2, e1⟩
  · simp
theorem tk_w_l {T : Nat → Int} {L p : Nat} {b : Bool} (h : tk_w T L p b ≠ -1) : b = false ∧ tk_l T L p = true := by
  rcases tk_w_r (T := T) (L := L) (p := p) (b := b) with e | ⟨w, hw, e⟩
  · exact absurd e h
  · obtain ⟨e1, e2⟩ := (tk_w_i hw).mp e
    exact ⟨e1, (tk_is_i.mp e2).1⟩
theorem tk_k_w {T : Nat → Int} {L p : Nat} {b : Bool} : tk_k T L p b = 1 ↔ b = false ∧ tk_l T L p = true := by
  unfold tk_k
  by_cases h : p < L
  · rw [if_pos h]
    by_cases g : tk_l T L p = true
    · rw [if_pos g]; cases b <;> simp [g]
    · rw [if_neg g]; cases b <;> by_cases d : tk_d T L p = true <;> simp [g, d]
  · rw [if_neg h]
    simp [tk_l0 (T := T) (L := L) p (by omega)]
theorem tk_k_n {T : Nat → Int} {L p : Nat} {b : Bool} : tk_k T L p b = 2 ↔ b = false ∧ tk_d T L p = true := by
  unfold tk_k
  by_cases h : p < L
  · rw [if_pos h]
    by_cases g : tk_l T L p = true
    · rw [if_pos g]
      have := tk_li.mp g
      have : ¬ tk_d T L p = true := fun q => by have := tk_di.mp q; omega
      cases b <;> simp [this]
    · rw [if_neg g]; cases b <;> by_cases d : tk_d T L p = true <;> simp [d]
  · rw [if_neg h]
    simp [tk_d0 (T := T) (L := L) p (by omega)]
theorem tk_k_s {T : Nat → Int} {L p : Nat} {b : Bool} : tk_k T L p b = 3 ↔ p < L ∧ ¬ tk_l T L p = true ∧ ¬ tk_d T L p = true := by
  unfold tk_k
  by_cases h : p < L
  · rw [if_pos h]
    by_cases g : tk_l T L p = true
    · rw [if_pos g]; cases b <;> simp [g]
    · rw [if_neg g]; cases b <;> by_cases d : tk_d T L p = true <;> simp [g, d, h]
  · rw [if_neg h]
    simp [h]
theorem tk_k_e {T : Nat → Int} {L p : Nat} {b : Bool} : tk_k T L p b = 0 ↔ L ≤ p := by
  unfold tk_k
  by_cases h : p < L
  · rw [if_pos h]
    by_cases g : tk_l T L p = true
    · rw [if_pos g]; cases b <;> simp <;> omega
    · rw [if_neg g]; cases b <;> by_cases d : tk_d T L p = true <;> simp [d] <;> omega
  · rw [if_neg h]
    simp
    omega
theorem tk_st_gt {T : Nat → Int} {L p : Nat} (h : p < L) : p + 1 ≤ tk_st T L p := by
  unfold tk_st
  rw [if_pos h]
  split
  · exact tk_we_gt (by assumption)
  · split
    · exact tk_de_gt (by assumption)
    · omega
theorem tk_st_ge {T : Nat → Int} {L p : Nat} : p ≤ tk_st T L p := by
  by_cases h : p < L
  · have := tk_st_gt (T := T) h
    omega
  · unfold tk_st
    rw [if_neg h]
    exact Nat.le_refl _
theorem tk_st_le {T : Nat → Int} {L p : Nat} (h : p ≤ L) : tk_st T L p ≤ L := by
  unfold tk_st
  split
  · split
    · exact rn_le tk_l0 _ _ h
    · split
      · exact rn_le tk_d0 _ _ h
      · omega
  · exact h
/-- behind the token: where the next one begins, and whether it touches -/
def tk_n (T : Nat → Int) (L p : Nat) (b : Bool) : Nat × Bool := (tk_sk T L (tk_st T L p), decide (tk_k T L p b = 1 ∨ tk_k T L p b = 2) && decide (tk_sk T L (tk_st T L p) = tk_st T L p))
theorem tk_n_ge {T : Nat → Int} {L p : Nat} {b : Bool} (h : p < L) : p + 1 ≤ (tk_n T L p b).1 := by
  have h1 := tk_st_gt (T := T) h
  have h2 : tk_st T L p ≤ tk_sk T L (tk_st T L p) := rn_ge _ _ _
  show p + 1 ≤ tk_sk T L (tk_st T L p)
  omega
theorem tk_n_ge' {T : Nat → Int} {L p : Nat} {b : Bool} : p ≤ (tk_n T L p b).1 := by
  have h1 := tk_st_ge (T := T) (L := L) (p := p)
  have h2 : tk_st T L p ≤ tk_sk T L (tk_st T L p) := rn_ge _ _ _
  show p ≤ tk_sk T L (tk_st T L p)
  omega
theorem tk_n_le {T : Nat → Int} {L p : Nat} {b : Bool} (h : p ≤ L) : (tk_n T L p b).1 ≤ L := rn_le tk_b0 _ _ (tk_st_le h)
theorem tk_n_stop {T : Nat → Int} {L p : Nat} {b : Bool} : tk_b T L (tk_n T L p b).1 = false := tk_sk_stop
theorem tk_nv_b {T : Nat → Int} {L p : Nat} {n : Nat} (h : ∀ j, j < n → 48 ≤ T (p + j) ∧ T (p + j) ≤ 57) : ∀ m, m ≤ n → 0 ≤ tk_nv T p m ∧ tk_nv T p m < ((10 ^ m : Nat) : Int)
  | 0, _ => by simp [tk_nv]
  | m + 1, hm => by
    have e := tk_nv_b (L := L) h m (by omega)
    have := h m (by omega)
    rw [Nat.pow_succ]
    simp only [tk_nv]
    omega
theorem tk_v_b {T : Nat → Int} {L p : Nat} (h : tk_d T L p = true) : 0 ≤ tk_v T L p ∧ tk_v T L p ≤ 9999 := by
  have g := tk_di.mp h
  have gl : ¬ tk_l T L p = true := fun q => by have := tk_li.mp q; omega
  unfold tk_v
  rw [if_pos g.1, if_neg gl, if_pos h]
  have e := tk_nv_b (T := T) (L := L) (p := p) (n := tk_de T L p - p) (fun j hj => (tk_di.mp (rn_all (tk_d T L) L p (p + j) (by omega) (by show p + j < tk_de T L p; omega))).2) (min (tk_de T L p - p) 4) (by omega)
  have k : 10 ^ (min (tk_de T L p - p) 4) ≤ 10 ^ 4 := Nat.pow_le_pow_right (by omega) (by omega)
  omega
