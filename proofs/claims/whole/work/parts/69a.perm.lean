/-! ===== orders: counting, ranks ===== -/
/-- how many of the first k lie from lo on, below hi -/
def cnr (f : Nat → Nat) (lo hi k : Nat) : Nat := sumN (fun j => if lo ≤ f j ∧ f j < hi then 1 else 0) k
theorem cnr_s (f : Nat → Nat) (lo hi k : Nat) : cnr f lo hi (k + 1) = cnr f lo hi k + if lo ≤ f k ∧ f k < hi then 1 else 0 := rfl
theorem cnr_0 {f : Nat → Nat} {lo hi : Nat} : ∀ k, (∀ j, j < k → ¬ (lo ≤ f j ∧ f j < hi)) → cnr f lo hi k = 0
  | 0, _ => rfl
  | k + 1, h => by rw [cnr_s, cnr_0 k (fun j hj => h j (by omega)), if_neg (h k (by omega))]
theorem cnr_1 {f : Nat → Nat} {v : Nat} : ∀ k, (∀ i j, i < k → j < k → f i = f j → i = j) → cnr f v (v + 1) k ≤ 1
  | 0, _ => Nat.zero_le _
  | k + 1, h => by
    rw [cnr_s]
    have ih := cnr_1 (v := v) k (fun i j hi hj e => h i j (by omega) (by omega) e)
    split
    · rename_i q
      rw [cnr_0 k (fun j hj c => by
        have := h j k (by omega) (by omega) (by omega)
        omega)]
      omega
    · exact ih
theorem cnr_add (f : Nat → Nat) {lo mi hi : Nat} (h1 : lo ≤ mi) (h2 : mi ≤ hi) : ∀ k, cnr f lo mi k + cnr f mi hi k = cnr f lo hi k
  | 0 => rfl
  | k + 1 => by
    have ih := cnr_add f h1 h2 k
    rw [cnr_s, cnr_s, cnr_s]
    by_cases a : lo ≤ f k ∧ f k < mi
    · rw [if_pos a, if_neg (by omega), if_pos (by omega)]; omega
    · rw [if_neg a]
      by_cases b : mi ≤ f k ∧ f k < hi
      · rw [if_pos b, if_pos (by omega)]; omega
      · rw [if_neg b, if_neg (by omega)]; omega
theorem cnr_le {f : Nat → Nat} {k : Nat} (h : ∀ i j, i < k → j < k → f i = f j → i = j) (lo : Nat) : ∀ d, cnr f lo (lo + d) k ≤ d
  | 0 => by rw [cnr_0 k (fun j _ => by omega)]; exact Nat.le_refl _
  | d + 1 => by
    have ih := cnr_le h lo d
    have := cnr_add f (lo := lo) (mi := lo + d) (hi := lo + (d + 1)) (by omega) (by omega) k
    have := cnr_1 (v := lo + d) k h
    rw [show lo + d + 1 = lo + (d + 1) by omega] at this
    omega
theorem cnr_all {f : Nat → Nat} {M : Nat} : ∀ k, (∀ j, j < k → f j < M) → cnr f 0 M k = k
  | 0, _ => rfl
  | k + 1, h => by
    have := h k (by omega)
    rw [cnr_s, cnr_all k (fun j hj => h j (by omega)), if_pos (by omega)]
/-- what fits -/
theorem fits {f : Nat → Nat} {k M : Nat} (h : ∀ i j, i < k → j < k → f i = f j → i = j) (b : ∀ j, j < k → f j < M) : k ≤ M := by
  have h1 := cnr_le h 0 M
  rw [Nat.zero_add, cnr_all k b] at h1
  exact h1
theorem lsn_cnr (c k : Nat) : ∀ j, lsn c k j = cnr (fun i => dg i c) 0 (dg k c) j
  | 0 => rfl
  | j + 1 => by
    rw [cnr_s, ← lsn_cnr c k j]
    simp only [lsn]
    by_cases a : dg j c < dg k c
    · rw [if_pos a, if_pos ⟨Nat.zero_le _, a⟩]
    · rw [if_neg a, if_neg (by omega)]
theorem lsn_bd {n c k : Nat} (V : vperm n c) (hk : k < n) : lsn c k k ≤ dg k c ∧ dg k c - lsn c k k < n - k := by
  obtain ⟨-, v2, v3⟩ := V
  rw [lsn_cnr]
  obtain ⟨f, ef⟩ : ∃ f : Nat → Nat, f = fun i => dg i c := ⟨_, rfl⟩
  have e : ∀ i, dg i c = f i := fun i => by rw [ef]
  rw [← ef]
  simp only [e] at v2 v3 ⊢
  have inj : ∀ i j, i < k → j < k → f i = f j → i = j := fun i j hi hj => v3 i j (by omega) (by omega)
  have d := v2 k hk
  have a1 := cnr_le inj 0 (f k)
  have a2 := cnr_le inj (f k + 1) (n - (f k + 1))
  have a3 : cnr f (f k) (f k + 1) k = 0 := cnr_0 k (fun j hj q => by
    have := v3 j k (by omega) hk (by omega)
    omega)
  have b1 := cnr_add f (lo := 0) (mi := f k) (hi := f k + 1) (by omega) (by omega) k
  have b2 := cnr_add f (lo := 0) (mi := f k + 1) (hi := n) (by omega) (by omega) k
  rw [cnr_all k (fun j hj => v2 j (by omega))] at b2
  rw [Nat.zero_add] at a1
  rw [show f k + 1 + (n - (f k + 1)) = n by omega] at a2
  omega
theorem fct_s {n k : Nat} (h : k < n) : fct (n - k) = fct (n - (k + 1)) * (n - k) := by
  obtain ⟨d, hd⟩ : ∃ d, n - k = d + 1 := ⟨n - k - 1, by omega⟩
  rw [hd, show n - (k + 1) = d by omega]
  rfl
theorem fct_p : ∀ n, 0 < fct n
  | 0 => Nat.one_pos
  | n + 1 => Nat.mul_pos (fct_p n) (by omega)
theorem rkn_bd' {n c : Nat} (V : vperm n c) : ∀ k, k ≤ n → (rkn n c k + 1) * fct (n - k) ≤ fct n
  | 0, _ => by simp [rkn]
  | k + 1, hk => by
    have ih := rkn_bd' V k (by omega)
    have l := (lsn_bd V (k := k) (by omega)).2
    rw [fct_s (by omega)] at ih
    simp only [rkn]
    have e : (rkn n c k + 1) * (fct (n - (k + 1)) * (n - k)) = ((rkn n c k + 1) * (n - k)) * fct (n - (k + 1)) := by rw [Nat.mul_comm (fct _), Nat.mul_assoc]
    rw [e] at ih
    refine Nat.le_trans (Nat.mul_le_mul_right _ ?_) ih
    rw [Nat.add_mul]
    omega
theorem rkn_bd {n c : Nat} (V : vperm n c) : rkn n c n < fct n := by
  have := rkn_bd' V n (Nat.le_refl _)
  rw [Nat.sub_self] at this
  simp only [fct] at this
  omega
theorem rkn_peel {n c c' : Nat} (V : vperm n c) (V' : vperm n c') : ∀ k, k ≤ n → rkn n c k = rkn n c' k → ∀ j, j < k → dg j c - lsn c j j = dg j c' - lsn c' j j
  | 0, _, _ => fun j hj => by omega
  | k + 1, hk, e => by
    have l := (lsn_bd V (k := k) (by omega)).2
    have l' := (lsn_bd V' (k := k) (by omega)).2
    simp only [rkn] at e
    have m := congrArg (· % (n - k)) e
    simp only [Nat.mul_add_mod_self_right, Nat.mod_eq_of_lt l, Nat.mod_eq_of_lt l'] at m
    rw [m] at e
    have e2 : rkn n c k = rkn n c' k := Nat.eq_of_mul_eq_mul_right (by omega) (Nat.add_right_cancel e)
    intro j hj
    by_cases y : j = k
    · rw [y]; exact m
    · exact rkn_peel V V' k (by omega) e2 j (by omega)
theorem rkn_lt {n c c' k : Nat} (V : vperm n c) (V' : vperm n c') (hk : k < n) (eq : ∀ j, j < k → dg j c = dg j c') (l : dg k c - lsn c k k = dg k c' - lsn c' k k) : ¬ dg k c < dg k c' := by
  intro lt
  have b := (lsn_bd V hk).1
  have b' := (lsn_bd V' hk).1
  rw [lsn_cnr] at l b
  rw [lsn_cnr] at l b'
  obtain ⟨f, ef⟩ : ∃ f : Nat → Nat, f = fun i => dg i c := ⟨_, rfl⟩
  have e : ∀ i, dg i c = f i := fun i => by rw [ef]
  have cg : ∀ lo hi j, j ≤ k → cnr (fun i => dg i c') lo hi j = cnr f lo hi j := by
    intro lo hi j
    induction j with
    | zero => intro _; rfl
    | succ j ih =>
      intro hj
      rw [cnr_s, cnr_s, ih (by omega)]
      rw [← eq j (by omega), e]
  rw [cg _ _ k (Nat.le_refl _)] at l b'
  rw [← ef] at l b
  obtain ⟨-, v2, v3⟩ := V
  simp only [e] at v2 v3 l b lt eq
  have inj : ∀ i j, i < k → j < k → f i = f j → i = j := fun i j hi hj => v3 i j (by omega) (by omega)
  have a1 := cnr_add f (lo := 0) (mi := f k) (hi := dg k c') (by omega) (by omega) k
  have a2 := cnr_add f (lo := f k) (mi := f k + 1) (hi := dg k c') (by omega) (by omega) k
  have a3 : cnr f (f k) (f k + 1) k = 0 := cnr_0 k (fun j hj q => by
    have := v3 j k (by omega) hk (by omega)
    omega)
  have a4 := cnr_le inj (f k + 1) (dg k c' - (f k + 1))
  rw [show f k + 1 + (dg k c' - (f k + 1)) = dg k c' by omega] at a4
  omega
theorem rkn_dg {n c c' : Nat} (V : vperm n c) (V' : vperm n c') (e : rkn n c n = rkn n c' n) : ∀ k, k < n → dg k c = dg k c' := by
  have p := rkn_peel V V' n (Nat.le_refl _) e
  intro k
  induction k using Nat.strongRecOn with
  | ind k ih =>
    intro hk
    have eq : ∀ j, j < k → dg j c = dg j c' := fun j hj => ih j hj (by omega)
    have l := p k hk
    have n1 := rkn_lt V V' hk eq l
    have n2 := rkn_lt V' V hk (fun j hj => (eq j hj).symm) l.symm
    omega
/-! ===== codes ===== -/
def encb (b : Nat) (f : Nat → Nat) : Nat → Nat
  | 0 => 0
  | n + 1 => encb b f n + f n * b ^ n
theorem enc_b (f : Nat → Nat) : ∀ n, enc f n = encb 6 f n
  | 0 => rfl
  | n + 1 => by simp only [enc, encb]; rw [enc_b f n]
theorem pk3_b (f : Nat → Nat) : ∀ n, pk3 f n = encb 8 f n
  | 0 => rfl
  | n + 1 => by simp only [pk3, encb]; rw [pk3_b f n]
theorem encb_lt {b : Nat} {f : Nat → Nat} : ∀ n, (∀ i, i < n → f i < b) → encb b f n < b ^ n
  | 0, _ => by simp [encb]
  | n + 1, h => by
    have ih := encb_lt n (fun i hi => h i (by omega))
    have := h n (by omega)
    simp only [encb]
    rw [Nat.pow_succ]
    have : (f n + 1) * b ^ n ≤ b * b ^ n := Nat.mul_le_mul_right _ this
    rw [Nat.add_mul, Nat.one_mul, Nat.mul_comm b] at this
    omega
theorem encb_dg {b : Nat} {f : Nat → Nat} (hb : 0 < b) : ∀ n, (∀ i, i < n → f i < b) → ∀ i, i < n → encb b f n / b ^ i % b = f i
  | 0, _ => fun i hi => by omega
  | n + 1, h => by
    intro i hi
    have ih := encb_dg hb n (fun i hi => h i (by omega))
    have lt := encb_lt n (fun i hi => h i (by omega))
    have fn := h n (by omega)
    simp only [encb]
    by_cases y : i = n
    · rw [y, Nat.add_mul_div_right _ _ (Nat.pow_pos hb), Nat.div_eq_of_lt lt, Nat.zero_add, Nat.mod_eq_of_lt fn]
    · obtain ⟨d, rfl⟩ : ∃ d, n = i + (d + 1) := ⟨n - i - 1, by omega⟩
      rw [← ih i (by omega), Nat.pow_add, Nat.mul_comm (f _), Nat.mul_assoc (b ^ i), Nat.add_mul_div_left _ _ (Nat.pow_pos hb), Nat.pow_succ, Nat.mul_right_comm, Nat.add_mul_mod_self_right]
theorem encb_cg {b : Nat} {f g : Nat → Nat} : ∀ n, (∀ i, i < n → f i = g i) → encb b f n = encb b g n
  | 0, _ => rfl
  | n + 1, h => by simp only [encb]; rw [encb_cg n (fun i hi => h i (by omega)), h n (by omega)]
theorem encb_of {b : Nat} (hb : 0 < b) : ∀ n c, c < b ^ n → encb b (fun i => c / b ^ i % b) n = c
  | 0, c, h => by simp at h; simp [encb, h]
  | n + 1, c, h => by
    have : ∀ i, i < n → c / b ^ i % b = c % b ^ n / b ^ i % b := fun i hi => by
      obtain ⟨d, rfl⟩ : ∃ d, n = i + (d + 1) := ⟨n - i - 1, by omega⟩
      rw [Nat.pow_add, Nat.mod_mul_right_div_self, Nat.pow_succ, Nat.mul_comm (b ^ d), Nat.mod_mul_right_mod]
    simp only [encb]
    rw [encb_cg n this, encb_of hb n (c % b ^ n) (Nat.mod_lt _ (Nat.pow_pos hb))]
    have l : c / b ^ n < b := Nat.div_lt_of_lt_mul (by rw [← Nat.pow_succ]; exact h)
    rw [Nat.mod_eq_of_lt l, Nat.mul_comm]
    exact Nat.mod_add_div c (b ^ n)
theorem dg_enc {f : Nat → Nat} {n i : Nat} (h : ∀ i, i < n → f i < 6) (hi : i < n) : dg i (enc f n) = f i := by
  unfold dg
  rw [enc_b]
  exact encb_dg (by decide) n h i hi
theorem enc_lt {f : Nat → Nat} {n : Nat} (h : ∀ i, i < n → f i < 6) : enc f n < 6 ^ n := by rw [enc_b]; exact encb_lt n h
theorem enc_of {n c : Nat} (h : c < 6 ^ n) : enc (fun i => dg i c) n = c := by
  rw [enc_b]
  exact encb_of (by decide) n c h
theorem enc_cg {f g : Nat → Nat} {n : Nat} (h : ∀ i, i < n → f i = g i) : enc f n = enc g n := by rw [enc_b, enc_b]; exact encb_cg n h
theorem code_ext {n c c' : Nat} (h : c < 6 ^ n) (h' : c' < 6 ^ n) (e : ∀ i, i < n → dg i c = dg i c') : c = c' := by
  rw [← enc_of h, ← enc_of h']
  exact enc_cg e
theorem rkn_inj {n c c' : Nat} (V : vperm n c) (V' : vperm n c') (e : rkn n c n = rkn n c' n) : c = c' := code_ext V.1 V'.1 (rkn_dg V V' e)
theorem vperm_enc {n : Nat} {f : Nat → Nat} (hn : n ≤ 6) (h : ∀ i, i < n → f i < n) (inj : ∀ i j, i < n → j < n → f i = f j → i = j) : vperm n (enc f n) := by
  have h6 : ∀ i, i < n → f i < 6 := fun i hi => by have := h i hi; omega
  refine ⟨enc_lt h6, fun i hi => by rw [dg_enc h6 hi]; exact h i hi, fun i j hi hj e => ?_⟩
  rw [dg_enc h6 hi, dg_enc h6 hj] at e
  exact inj i j hi hj e
def trp (a b t : Nat) : Nat := if t = a then b else if t = b then a else t
theorem trp_lt {a b t n : Nat} (ha : a < n) (hb : b < n) (ht : t < n) : trp a b t < n := by unfold trp; split; exact hb; split <;> omega
theorem trp_inj {a b t u : Nat} (e : trp a b t = trp a b u) : t = u := by
  unfold trp at e
  split at e <;> split at e <;> (try split at e) <;> (try split at e) <;> omega
theorem dg_lt (i c : Nat) : dg i c < 6 := Nat.mod_lt _ (by decide)
theorem swp_eq (n a b c : Nat) : swp n a b c = enc (fun t => dg (trp a b t) c) n := by
  unfold swp
  refine enc_cg (fun i _ => ?_)
  unfold trp
  by_cases y : i = a
  · rw [if_pos y, if_pos y]
  · rw [if_neg y, if_neg y]
    by_cases z : i = b
    · rw [if_pos z, if_pos z]
    · rw [if_neg z, if_neg z]
theorem dg_swp {n a b c t : Nat} (ht : t < n) : dg t (swp n a b c) = dg (trp a b t) c := by
  rw [swp_eq]
  exact dg_enc (fun _ _ => dg_lt _ _) ht
theorem swp_lt (n a b c : Nat) : swp n a b c < 6 ^ n := by rw [swp_eq]; exact enc_lt (fun _ _ => dg_lt _ _)
theorem swp_vperm {n a b c : Nat} (ha : a < n) (hb : b < n) (V : vperm n c) : vperm n (swp n a b c) := by
  refine ⟨swp_lt _ _ _ _, fun i hi => ?_, fun i j hi hj e => ?_⟩
  · rw [dg_swp hi]; exact V.2.1 _ (trp_lt ha hb hi)
  · rw [dg_swp hi, dg_swp hj] at e
    exact trp_inj (V.2.2 _ _ (trp_lt ha hb hi) (trp_lt ha hb hj) e)
theorem fct_720 {n : Nat} (hn : n ≤ 6) : fct n ≤ 720 := by
  have : n = 0 ∨ n = 1 ∨ n = 2 ∨ n = 3 ∨ n = 4 ∨ n = 5 ∨ n = 6 := by omega
  rcases this with rfl | rfl | rfl | rfl | rfl | rfl | rfl <;> decide
/-! ===== searches in breadth ===== -/
section
variable {S nb : Nat → Nat → Prop} {Q L : Nat → Nat} {hd tl : Nat}
/-- all that is near lies in the row -/
theorem bf_in (B : BF S nb Q L hd tl) (hS : ∀ k c, S (k + 1) c → S k c ∨ ∃ c0, S k c0 ∧ nb c0 c) (hl : hd ≤ tl) : ∀ k, (hd < tl → k ≤ L hd) → ∀ c, S k c → ∃ j, j < tl ∧ Q j = c
  | 0, _ => B.2.2.2.2.2
  | k + 1, hk => by
    intro c h
    have ih := bf_in B hS hl k (fun y => by have := hk y; omega)
    rcases hS k c h with h | ⟨c0, h0, hn⟩
    · exact ih c h
    · obtain ⟨i, hi, rfl⟩ := ih c0 h0
      by_cases y : i < hd
      · exact B.2.2.1 i y c hn
      · exfalso
        have lt : hd < tl := by omega
        have := hk lt
        have := B.2.2.2.1 hd i (by omega) hi
        exact (B.2.1 i hi).2 k (by omega) h0
theorem bf_add (B : BF S nb Q L hd tl) (hS : ∀ k c, S (k + 1) c → S k c ∨ ∃ c0, S k c0 ∧ nb c0 c) (hS' : ∀ k c c0, S k c0 → nb c0 c → S (k + 1) c) (hl : hd < tl) {c : Nat} (hn : nb (Q hd) c) (new : ∀ j, j < tl → Q j ≠ c) :
    BF S nb (fun i => if i = tl then c else Q i) (fun i => if i = tl then L hd + 1 else L i) hd (tl + 1) := by
  have bi := bf_in B hS (by omega)
  obtain ⟨b1, b2, b3, b4, b5, b6⟩ := B
  refine ⟨fun i j hi hj e => ?_, fun i hi => ?_, fun i hi d hd' => ?_, fun i j hij hj => ?_, fun _ j hj => ?_, fun d h0 => ?_⟩
  · simp only at e
    split at e <;> split at e
    · omega
    · exact absurd e.symm (new j (by omega))
    · exact absurd e (new i (by omega))
    · exact b1 i j (by omega) (by omega) e
  · by_cases y : i = tl
    · simp only [if_pos y]
      refine ⟨hS' _ _ _ (b2 hd hl).1 hn, fun k hk h => ?_⟩
      obtain ⟨j, hj, e⟩ := bi k (fun _ => by omega) c h
      exact new j hj e
    · simp only [if_neg y]
      exact b2 i (by omega)
  · simp only [if_neg (show ¬ i = tl by omega)] at hd'
    obtain ⟨j, hj, e⟩ := b3 i hi d hd'
    exact ⟨j, by omega, by simp only [if_neg (show ¬ j = tl by omega)]; exact e⟩
  · by_cases y : j = tl
    · by_cases z : i = tl
      · simp only [if_pos y, if_pos z]; omega
      · simp only [if_pos y, if_neg z]
        exact b5 hl i (by omega)
    · simp only [if_neg y, if_neg (show ¬ i = tl by omega)]
      exact b4 i j hij (by omega)
  · simp only [if_neg (show ¬ hd = tl by omega)]
    by_cases y : j = tl
    · rw [if_pos y]; omega
    · rw [if_neg y]; exact b5 hl j (by omega)
  · obtain ⟨j, hj, e⟩ := b6 d h0
    exact ⟨j, by omega, by simp only [if_neg (show ¬ j = tl by omega)]; exact e⟩
theorem bf_next (B : BF S nb Q L hd tl) (hl : hd < tl) (all : ∀ c, nb (Q hd) c → ∃ j, j < tl ∧ Q j = c) : BF S nb Q L (hd + 1) tl := by
  obtain ⟨b1, b2, b3, b4, b5, b6⟩ := B
  refine ⟨b1, b2, fun i hi c h => ?_, b4, fun y j hj => ?_, b6⟩
  · by_cases y : i = hd
    · rw [y] at h; exact all c h
    · exact b3 i (by omega) c h
  · have := b5 hl j hj
    have := b4 hd (hd + 1) (by omega) y
    omega
theorem bf_init {e : Nat} (hS : ∀ c, S 0 c ↔ c = e) : BF S nb (fun _ => e) (fun _ => 0) 0 1 := by
  refine ⟨fun i j hi hj _ => by omega, fun i _ => ⟨(hS e).2 rfl, fun k hk => absurd hk (Nat.not_lt_zero k)⟩, fun i hi => by omega, fun _ _ _ _ => Nat.le_refl _, fun _ _ _ => Nat.zero_le _, fun c h => ⟨0, by omega, ((hS c).1 h).symm⟩⟩
/-- how far it is -/
def ansB (S : Nat → Nat → Prop) (c : Nat) (v : Int) : Prop := (v = -1 ∧ ∀ k, ¬ S k c) ∨ ∃ k : Nat, v = (k : Int) ∧ S k c ∧ ∀ j, j < k → ¬ S j c
theorem ansB_one {c : Nat} {v w : Int} (a : ansB S c v) (b : ansB S c w) : v = w := by
  rcases a with ⟨rfl, a⟩ | ⟨k, rfl, a, a'⟩
  · rcases b with ⟨rfl, b⟩ | ⟨l, rfl, b, b'⟩
    · rfl
    · exact absurd b (a l)
  · rcases b with ⟨rfl, b⟩ | ⟨l, rfl, b, b'⟩
    · exact absurd a (b k)
    · have : ¬ k < l := fun h => b' k h a
      have : ¬ l < k := fun h => a' l h b
      omega
theorem bf_ans (B : BF S nb Q L hd tl) {i : Nat} (hi : i < tl) : ansB S (Q i) (L i : Int) := Or.inr ⟨L i, rfl, (B.2.1 i hi).1, (B.2.1 i hi).2⟩
theorem bf_none (B : BF S nb Q L hd tl) (hS : ∀ k c, S (k + 1) c → S k c ∨ ∃ c0, S k c0 ∧ nb c0 c) (he : hd = tl) {c : Nat} (no : ∀ j, j < tl → Q j ≠ c) : ansB S c (-1) := by
  refine Or.inl ⟨rfl, fun k h => ?_⟩
  obtain ⟨j, hj, e⟩ := bf_in B hS (by omega) k (fun y => by omega) c h
  exact no j hj e
end
