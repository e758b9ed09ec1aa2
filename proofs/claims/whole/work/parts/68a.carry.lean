/-! ===== a ring comes about ===== -/
theorem rs_has {H G : xa_H} (R : RSt2 H G 20 212 0) {i : Nat} {v : Int} (hi : i < 6) : RSt2 (xset H 21 i v) (xset G 212 (1 + 9 * i) v) 20 212 0 := by
  obtain ⟨r1, r2, r3, r4, r5, r6, r7⟩ := R
  refine ⟨?_, fun j hj => ?_, fun j hj => ?_, fun j hj => ?_, fun a j ha hj => ?_, ?_, fun k hk => ?_⟩
  · rw [xm_xset, xm_xset, if_neg (by omega), if_neg (by omega)]; exact r1
  · rw [xm_xset, xm_xset]
    by_cases y : j = i
    · rw [if_pos (by omega), if_pos (by omega)]
    · rw [if_neg (by omega), if_neg (by omega)]; exact r2 j hj
  · rw [xm_xset, xm_xset, if_neg (by omega), if_neg (by omega)]; exact r3 j hj
  · rw [xm_xset, xm_xset, if_neg (by omega), if_neg (by omega)]; exact r4 j hj
  · rw [xm_xset, xm_xset, if_neg (by omega), if_neg (by omega)]; exact r5 a j ha hj
  · rw [xm_xset, xm_xset, if_neg (by omega), if_neg (by omega)]; exact r6
  · rw [xm_xset, if_neg (by omega)] at hk
    rw [xm_xset, xm_xset, xm_xset, xm_xset, xm_xset, if_neg (by omega), if_neg (by omega), if_neg (by omega), if_neg (by omega), if_neg (by omega)]; exact r7 k hk
theorem rs_purse {H G : xa_H} (R : RSt2 H G 20 212 0) {i : Nat} {v : Int} (hi : i < 6) : RSt2 (xset H 23 i v) (xset G 212 (1 + 9 * i + 2) v) 20 212 0 := by
  obtain ⟨r1, r2, r3, r4, r5, r6, r7⟩ := R
  refine ⟨?_, fun j hj => ?_, fun j hj => ?_, fun j hj => ?_, fun a j ha hj => ?_, ?_, fun k hk => ?_⟩
  · rw [xm_xset, xm_xset, if_neg (by omega), if_neg (by omega)]; exact r1
  · rw [xm_xset, xm_xset, if_neg (by omega), if_neg (by omega)]; exact r2 j hj
  · rw [xm_xset, xm_xset, if_neg (by omega), if_neg (by omega)]; exact r3 j hj
  · rw [xm_xset, xm_xset]
    by_cases y : j = i
    · rw [if_pos (by omega), if_pos (by omega)]
    · rw [if_neg (by omega), if_neg (by omega)]; exact r4 j hj
  · rw [xm_xset, xm_xset, if_neg (by omega), if_neg (by omega)]; exact r5 a j ha hj
  · rw [xm_xset, xm_xset, if_neg (by omega), if_neg (by omega)]; exact r6
  · rw [xm_xset, if_neg (by omega)] at hk
    rw [xm_xset, xm_xset, xm_xset, xm_xset, xm_xset, if_neg (by omega), if_neg (by omega), if_neg (by omega), if_neg (by omega), if_neg (by omega)]; exact r7 k hk
theorem rs_met {H G : xa_H} (R : RSt2 H G 20 212 0) {i b : Nat} {v : Int} (hi : i < 6) (hb : b < 6) : RSt2 (xset H 24 (i * 6 + b) v) (xset G 212 (1 + 9 * i + 3 + b) v) 20 212 0 := by
  obtain ⟨r1, r2, r3, r4, r5, r6, r7⟩ := R
  refine ⟨?_, fun j hj => ?_, fun j hj => ?_, fun j hj => ?_, fun a j ha hj => ?_, ?_, fun k hk => ?_⟩
  · rw [xm_xset, xm_xset, if_neg (by omega), if_neg (by omega)]; exact r1
  · rw [xm_xset, xm_xset, if_neg (by omega), if_neg (by omega)]; exact r2 j hj
  · rw [xm_xset, xm_xset, if_neg (by omega), if_neg (by omega)]; exact r3 j hj
  · rw [xm_xset, xm_xset, if_neg (by omega), if_neg (by omega)]; exact r4 j hj
  · rw [xm_xset, xm_xset]
    by_cases y : a = i ∧ j = b
    · rw [if_pos (by omega), if_pos (by omega)]
    · rw [if_neg (by omega), if_neg (by omega)]; exact r5 a j ha hj
  · rw [xm_xset, xm_xset, if_neg (by omega), if_neg (by omega)]; exact r6
  · rw [xm_xset, if_neg (by omega)] at hk
    rw [xm_xset, xm_xset, xm_xset, xm_xset, xm_xset, if_neg (by omega), if_neg (by omega), if_neg (by omega), if_neg (by omega), if_neg (by omega)]; exact r7 k hk
def npu (p a b : Int) : Int := min 9999 (w32 (w32 (p - a) + b))
def nme (p : Int) : Int := min 99 (w32 (p + 1))
def cHs (K : xa_H) (r : Nat) (ρ : Nat → Nat) (th py : Nat → Int) (i : Nat) : xa_H :=
  xset (xset (xset K 21 (ρ i) (th i)) 23 (ρ i) (npu (xm K 23 (ρ i)) (py i) (py (nxt r i)))) 24 (ρ i * 6 + ρ (prv r i)) (nme (xm K 24 (ρ i * 6 + ρ (prv r i))))
def cH (H : xa_H) (r : Nat) (ρ : Nat → Nat) (th py : Nat → Int) : Nat → xa_H
  | 0 => H
  | i + 1 => cHs (cH H r ρ th py i) r ρ th py i
def gGs (K : xa_H) (r : Nat) (ρ : Nat → Nat) (th py : Nat → Int) (i : Nat) : xa_H :=
  xset (xset (xset K 212 (1 + 9 * ρ i) (th i)) 212 (1 + 9 * ρ i + 2) (npu (xm K 212 (1 + 9 * ρ i + 2)) (py i) (py (nxt r i)))) 212 (1 + 9 * ρ i + 3 + ρ (prv r i)) (nme (xm K 212 (1 + 9 * ρ i + 3 + ρ (prv r i))))
def gG (G : xa_H) (r : Nat) (ρ : Nat → Nat) (th py : Nat → Int) : Nat → xa_H
  | 0 => G
  | i + 1 => gGs (gG G r ρ th py i) r ρ th py i
theorem cH_n {H : xa_H} {r : Nat} {ρ : Nat → Nat} {th py : Nat → Int} : ∀ i, xn (cH H r ρ th py i) = xn H ∧ xz (cH H r ρ th py i) = xz H ∧ xk (cH H r ρ th py i) = xk H
  | 0 => ⟨rfl, rfl, rfl⟩
  | i + 1 => cH_n (H := H) i
theorem gG_n {H : xa_H} {r : Nat} {ρ : Nat → Nat} {th py : Nat → Int} : ∀ i, xn (gG H r ρ th py i) = xn H ∧ xz (gG H r ρ th py i) = xz H ∧ xk (gG H r ρ th py i) = xk H
  | 0 => ⟨rfl, rfl, rfl⟩
  | i + 1 => gG_n (H := H) i
theorem cH_o {H : xa_H} {r : Nat} {ρ : Nat → Nat} {th py : Nat → Int} {a k : Nat} (ha : a ≠ 21 ∧ a ≠ 23 ∧ a ≠ 24) : ∀ i, xm (cH H r ρ th py i) a k = xm H a k
  | 0 => rfl
  | i + 1 => by
    show xm (cHs (cH H r ρ th py i) r ρ th py i) a k = _
    unfold cHs
    rw [xm_xset, if_neg (by omega), xm_xset, if_neg (by omega), xm_xset, if_neg (by omega)]
    exact cH_o ha i
theorem gG_o {H : xa_H} {r : Nat} {ρ : Nat → Nat} {th py : Nat → Int} {a k : Nat} (ha : a ≠ 212) : ∀ i, xm (gG H r ρ th py i) a k = xm H a k
  | 0 => rfl
  | i + 1 => by
    show xm (gGs (gG H r ρ th py i) r ρ th py i) a k = _
    unfold gGs
    rw [xm_xset, if_neg (by omega), xm_xset, if_neg (by omega), xm_xset, if_neg (by omega)]
    exact gG_o ha i
theorem cH_S {H : xa_H} {r : Nat} {ρ : Nat → Nat} {th py : Nat → Int} (S : SH H) : ∀ i, SH (cH H r ρ th py i)
  | 0 => S
  | i + 1 => (((cH_S S i).set (fixd_of (by decide +kernel))).set (fixd_of (by decide +kernel))).set (fixd_of (by decide +kernel))
theorem gG_S {H : xa_H} {r : Nat} {ρ : Nat → Nat} {th py : Nat → Int} (S : SH H) : ∀ i, SH (gG H r ρ th py i)
  | 0 => S
  | i + 1 => (((gG_S S i).set (fixd_of (by decide +kernel))).set (fixd_of (by decide +kernel))).set (fixd_of (by decide +kernel))
theorem carry_rs {H G : xa_H} {r n : Nat} {ρ : Nat → Nat} {th py : Nat → Int} (R : RSt2 H G 20 212 0) (hn : n ≤ 6) (hρ : ∀ i, i < r → ρ i < n) : ∀ i, i ≤ r → RSt2 (cH H r ρ th py i) (gG G r ρ th py i) 20 212 0
  | 0, _ => R
  | i + 1, hi => by
    have ih := carry_rs R hn hρ (th := th) (py := py) i (by omega)
    have hA := hρ i (by omega)
    have hB := hρ _ (prv_lt (show i < r by omega))
    obtain ⟨r1, r2, r3, r4, r5, r6, r7⟩ := ih
    have e23 : xm (cH H r ρ th py i) 23 (ρ i) = xm (gG G r ρ th py i) 212 (1 + 9 * ρ i + 2) := by simpa only [Nat.zero_add] using r4 (ρ i) (by omega)
    have e24 : xm (cH H r ρ th py i) 24 (ρ i * 6 + ρ (prv r i)) = xm (gG G r ρ th py i) 212 (1 + 9 * ρ i + 3 + ρ (prv r i)) := by simpa only [Nat.zero_add] using r5 (ρ i) (ρ (prv r i)) (by omega) (by omega)
    show RSt2 (cHs (cH H r ρ th py i) r ρ th py i) (gGs (gG G r ρ th py i) r ρ th py i) 20 212 0
    unfold cHs gGs
    rw [e23, e24]
    exact rs_met (rs_purse (rs_has ⟨r1, r2, r3, r4, r5, r6, r7⟩ (by omega)) (by omega)) (by omega) (by omega)
/-- what a ring's coming about leaves of the reference's state -/
theorem gG_c {G : xa_H} {r n : Nat} {ρ : Nat → Nat} {th py : Nat → Int} (hn : n ≤ 6) (hρ : ∀ i, i < r → ρ i < n) (inj : ∀ a b, a < r → b < r → ρ a = ρ b → a = b) (hm : ∀ i j, i < n → j < n → 0 ≤ xm G 212 (1 + 9 * i + 3 + j) ∧ xm G 212 (1 + 9 * i + 3 + j) ≤ 99) : ∀ i, i ≤ r →
    (∀ j, j < i → xm (gG G r ρ th py i) 212 (1 + 9 * ρ j) = th j ∧ xm (gG G r ρ th py i) 212 (1 + 9 * ρ j + 2) = npu (xm G 212 (1 + 9 * ρ j + 2)) (py j) (py (nxt r j))) ∧
    (∀ X, X < 6 → (∀ j, j < i → ρ j ≠ X) → xm (gG G r ρ th py i) 212 (1 + 9 * X) = xm G 212 (1 + 9 * X) ∧ xm (gG G r ρ th py i) 212 (1 + 9 * X + 2) = xm G 212 (1 + 9 * X + 2)) ∧
    (∀ a j, a < n → j < n → 0 ≤ xm (gG G r ρ th py i) 212 (1 + 9 * a + 3 + j) ∧ xm (gG G r ρ th py i) 212 (1 + 9 * a + 3 + j) ≤ 99) ∧ (∀ X, X < 6 → xm (gG G r ρ th py i) 212 (1 + 9 * X + 1) = xm G 212 (1 + 9 * X + 1)) ∧ ∀ k, (k = 0 ∨ 55 ≤ k) → xm (gG G r ρ th py i) 212 k = xm G 212 k
  | 0, _ => ⟨fun j hj => by omega, fun X _ _ => ⟨rfl, rfl⟩, hm, fun X _ => rfl, fun k _ => rfl⟩
  | i + 1, hi => by
    obtain ⟨c1, c2, c3, c4, c5⟩ := gG_c hn hρ inj hm (th := th) (py := py) i (by omega)
    have hA := hρ i (by omega)
    have hB := hρ _ (prv_lt (show i < r by omega))
    have fresh := c2 (ρ i) (by omega) (fun j hj e => by have := inj j i (by omega) (by omega) e; omega)
    have me := c3 (ρ i) (ρ (prv r i)) hA hB
    have nm : 0 ≤ nme (xm (gG G r ρ th py i) 212 (1 + 9 * ρ i + 3 + ρ (prv r i))) ∧ nme (xm (gG G r ρ th py i) 212 (1 + 9 * ρ i + 3 + ρ (prv r i))) ≤ 99 := by
      unfold nme
      rw [w32_id (by omega) (by omega)]
      omega
    refine ⟨fun j hj => ?_, fun X hX hne => ?_, fun a j ha hj => ?_, fun X hX => ?_, fun k hk => ?_⟩
    · have hJ := hρ j (by omega)
      show xm (gGs (gG G r ρ th py i) r ρ th py i) _ _ = _ ∧ xm (gGs (gG G r ρ th py i) r ρ th py i) _ _ = _
      unfold gGs
      by_cases y : j = i
      · subst y
        rw [xm_xset, if_neg (by omega), xm_xset, if_neg (by omega), xm_xset, if_pos ⟨rfl, rfl⟩, xm_xset, if_neg (by omega), xm_xset, if_pos ⟨rfl, rfl⟩, fresh.2]
        exact ⟨rfl, rfl⟩
      · have ne : ρ j ≠ ρ i := fun e => y (inj j i (by omega) (by omega) e)
        rw [xm_xset, if_neg (by omega), xm_xset, if_neg (by omega), xm_xset, if_neg (by omega), xm_xset, if_neg (by omega), xm_xset, if_neg (by omega), xm_xset, if_neg (by omega)]
        exact c1 j (by omega)
    · have ne := hne i (by omega)
      show xm (gGs (gG G r ρ th py i) r ρ th py i) _ _ = _ ∧ xm (gGs (gG G r ρ th py i) r ρ th py i) _ _ = _
      unfold gGs
      rw [xm_xset, if_neg (by omega), xm_xset, if_neg (by omega), xm_xset, if_neg (by omega), xm_xset, if_neg (by omega), xm_xset, if_neg (by omega), xm_xset, if_neg (by omega)]
      exact c2 X hX (fun j hj => hne j (by omega))
    · show 0 ≤ xm (gGs (gG G r ρ th py i) r ρ th py i) _ _ ∧ xm (gGs (gG G r ρ th py i) r ρ th py i) _ _ ≤ 99
      unfold gGs
      rw [xm_xset]
      by_cases y : a = ρ i ∧ j = ρ (prv r i)
      · rw [if_pos (by omega)]; exact nm
      · rw [if_neg (by omega), xm_xset, if_neg (by omega), xm_xset, if_neg (by omega)]
        exact c3 a j ha hj
    · show xm (gGs (gG G r ρ th py i) r ρ th py i) _ _ = _
      unfold gGs
      rw [xm_xset, if_neg (by omega), xm_xset, if_neg (by omega), xm_xset, if_neg (by omega)]
      exact c4 X hX
    · show xm (gGs (gG G r ρ th py i) r ρ th py i) _ _ = _
      unfold gGs
      rw [xm_xset, if_neg (by omega), xm_xset, if_neg (by omega), xm_xset, if_neg (by omega)]
      exact c5 k hk
theorem fsm_none {ρ : Nat → Nat} {p : Nat → Bool} {r : Nat} (h : fsm ρ p r = -1) {j : Nat} (hj : j < r) : ¬ p j = true := by
  intro hp
  by_cases y : fsm ρ p j = -1
  · have := fsm_hit hj y hp
    omega
  · have := fsm_stay y (r - j)
    rw [show j + (r - j) = r by omega] at this
    exact y (this ▸ h)
/-- both come about alike -/
theorem carry_ST {h H G : xa_H} {s F1 F2 n m r : Nat} {ρ : Nat → Nat} (K : KX h s F1 F2 n m) (R : ST H G n m) (hr : 2 ≤ r) (hρ : ∀ i, i < r → ρ i < n) (inj : ∀ a b, a < r → b < r → ρ a = ρ b → a = b) (v0 : rV h G r ρ = 0) :
    ST (cH H r ρ (fun i => xm G 212 (1 + 9 * ρ (prv r i))) (rPy h G r ρ) r) (gG G r ρ (fun i => xm G 212 (1 + 9 * ρ (prv r i))) (rPy h G r ρ) r) n m := by
  have n6 := rc_n K.1
  have en := K.2.2.2.2.1
  have hn : n ≤ 6 := by omega
  obtain ⟨c1, c2, c3, c4, c5⟩ := gG_c hn hρ inj (fun i j hi hj => sv_met R hi hj) (th := fun i => xm G 212 (1 + 9 * ρ (prv r i))) (py := rPy h G r ρ) r (Nat.le_refl _)
  have pay : ∀ j, j < r → rPy h G r ρ j ≤ xm G 212 (1 + 9 * ρ j + 2) := by
    intro j hj
    unfold rV at v0
    by_cases a : fsm ρ (rFe h r ρ) r = -1
    · rw [if_pos a] at v0
      by_cases b : fsm ρ (rSw h G r ρ) r = -1
      · rw [if_pos b] at v0
        by_cases c : fsm ρ (rPo h G r ρ) r = -1
        · have := fsm_none c hj
          unfold rPo at this
          simp only [decide_eq_true_eq] at this
          omega
        · rw [if_neg c] at v0; cases v0
      · rw [if_neg b] at v0; cases v0
    · rw [if_neg a] at v0; cases v0
  have cas : ∀ X, X < n → (∃ j, j < r ∧ ρ j = X) ∨ ∀ j, j < r → ρ j ≠ X := by
    intro X _
    by_cases y : ∃ j, j < r ∧ ρ j = X
    · exact Or.inl y
    · exact Or.inr (fun j hj e => y ⟨j, hj, e⟩)
  refine ⟨carry_rs R.1 hn hρ r (Nat.le_refl _), ?_⟩
  unfold VS
  simp only [Nat.zero_add]
  have z0 := c5 0 (Or.inl rfl)
  have z55 := c5 55 (Or.inr (by omega))
  refine ⟨by rw [z0]; exact sv_night R, fun i hi => ?_, fun i hi => ?_, fun i hi => ?_, fun i j hi hj => c3 i j (by omega) (by omega), fun i j hi hj e => ?_, by rw [z55]; exact sv_kc R, fun k hk => ?_⟩
  · rcases cas i (by omega) with ⟨j, hj, rfl⟩ | y
    · rw [(c1 j hj).1]
      exact sv_has R (hρ _ (prv_lt hj))
    · rw [(c2 i (by omega) y).1]
      exact sv_has R (by omega)
  · rw [c4 i (by omega)]
    exact sv_wants R (by omega)
  · rcases cas i (by omega) with ⟨j, hj, rfl⟩ | y
    · rw [(c1 j hj).2]
      have p1 := sv_purse R (hρ j hj)
      have p2 := pay j hj
      have p3 := rPy_b h G r ρ j
      have p4 := rPy_b h G r ρ (nxt r j)
      unfold npu
      rw [w32_id (z := xm G 212 (1 + 9 * ρ j + 2) - rPy h G r ρ j) (by omega) (by omega), w32_id (by omega) (by omega)]
      omega
    · rw [(c2 i (by omega) y).2]
      exact sv_purse R (by omega)
  · have pinj : ∀ a b, a < r → b < r → prv r a = prv r b → a = b := fun a b ha hb e => by
      unfold prv at e
      split at e <;> split at e <;> omega
    rcases cas i (by omega) with ⟨a, ha, rfl⟩ | y
    · rcases cas j (by omega) with ⟨b, hb, rfl⟩ | z
      · rw [(c1 a ha).1, (c1 b hb).1] at e
        have e1 := sv_inj R (hρ _ (prv_lt ha)) (hρ _ (prv_lt hb)) e
        rw [pinj a b ha hb (inj _ _ (prv_lt ha) (prv_lt hb) e1)]
      · rw [(c1 a ha).1, (c2 j (by omega) z).1] at e
        have e1 := sv_inj R (hρ _ (prv_lt ha)) (by omega) e
        exact absurd e1 (z _ (prv_lt ha))
    · rcases cas j (by omega) with ⟨b, hb, rfl⟩ | z
      · rw [(c1 b hb).1, (c2 i (by omega) y).1] at e
        have e1 := sv_inj R (by omega) (hρ _ (prv_lt hb)) e
        exact absurd e1.symm (y _ (prv_lt hb))
      · rw [(c2 i (by omega) y).1, (c2 j (by omega) z).1] at e
        exact sv_inj R (by omega) (by omega) e
  · rw [z55] at hk
    rw [c5 _ (Or.inr (by omega)), c5 _ (Or.inr (by omega)), c5 _ (Or.inr (by omega)), c5 _ (Or.inr (by omega))]
    have := R.2.2.2.2.2.2.2.2 k (by simpa only [Nat.zero_add] using hk)
    simpa only [Nat.zero_add] using this
