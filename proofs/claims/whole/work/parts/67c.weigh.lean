/-! ===== a ring weighed by the class ===== -/
def fsm (ρ : Nat → Nat) (p : Nat → Bool) : Nat → Int
  | 0 => -1
  | i + 1 => if fsm ρ p i = -1 then (if p i = true then (ρ i : Int) else -1) else fsm ρ p i
def rFe (h : xa_H) (r : Nat) (ρ : Nat → Nat) (i : Nat) : Bool := decide (xand (xshr (xm h 207 (6 + ρ i)) ((ρ (nxt r i) : Nat) : Int)) 1 = 1)
def rFr (h G : xa_H) (r : Nat) (ρ : Nat → Nat) (i : Nat) : Nat → Int := fr h G (ρ i) (ρ (prv r i))
def rSw (h G : xa_H) (r : Nat) (ρ : Nat → Nat) (i : Nat) : Bool := decide (fv h 0 (rFr h G r ρ i) = 0)
def rPy (h G : xa_H) (r : Nat) (ρ : Nat → Nat) (i : Nat) : Int := max 0 (min 999 (fv h 1 (rFr h G r ρ i)))
def rPo (h G : xa_H) (r : Nat) (ρ : Nat → Nat) (i : Nat) : Bool := decide (xm G 212 (1 + 9 * ρ i + 2) < rPy h G r ρ i)
theorem rPy_b (h G : xa_H) (r : Nat) (ρ : Nat → Nat) (i : Nat) : 0 ≤ rPy h G r ρ i ∧ rPy h G r ρ i ≤ 999 := by unfold rPy; omega
theorem rFr_ok {h G H : xa_H} {s F1 F2 n m q r : Nat} {ρ : Nat → Nat} (K : KX h s F1 F2 n m) (R : RG h G H s F1 F2 n m q r ρ) {i : Nat} (hi : i < r) : fok (rFr h G r ρ i) := fr_ok K.1 K.2.2.2.2.1 K.2.2.2.2.2 R.2.1 (R.2.2.2.2.2 i hi).2 (R.2.2.2.2.2 _ (prv_lt hi)).2
theorem w_118 {h G H : xa_H} {s F1 F2 n m q r : Nat} {ρ : Nat → Nat} (K : KX h s F1 F2 n m) (R : RG h G H s F1 F2 n m q r ρ) {i : Nat} (hi : i < r) (c1 c3 v4 : Int) (v5 : Int) {z : Int} (hz : z = fv h 1 (rFr h G r ρ i)) :
    f_X7_weigh_J118L11 (q : Int) c1 20 c3 v4 v5 (i : Int) (ρ i : Int) z H = some (.inl (c3, v4, (if v5 = -1 then (if rPo h G r ρ i = true then (ρ i : Int) else -1) else v5), ((i + 1 : Nat) : Int), xset H (q + 2) i (rPy h G r ρ i))) := by
  have hq := R.2.2.1
  have hq' : q = 148 ∨ q = 153 := hq
  have S := R.1.1
  have r6 := R.2.2.2.1
  have n6 := rc_n K.1
  have en := K.2.2.2.2.1
  have hA := (R.2.2.2.2.2 i hi).2
  obtain ⟨H1, e1⟩ : ∃ z, z = xset H (q + 2) i (rPy h G r ρ i) := ⟨_, rfl⟩
  have c : CG q F1 F2 H H1 := by rw [e1]; exact (CG.refl _ _ _ _).set (by unfold DG7; omega)
  have R1 := R.cg K c
  have S1 := R1.1.1
  unfold f_X7_weigh_J118L11
  rw [gQ S hq, q_4 S hq, hz]
  refine (bnd (xas_eq (q_i2 S hq (by omega)))).trans ?_
  rw [show max 0 (min 999 (fv h 1 (rFr h G r ρ i))) = rPy h G r ρ i from rfl, ← e1, wS (by omega)]
  by_cases y : v5 = -1
  · rw [if_pos y, if_pos y, gQ S1 hq, q_4 S1 hq]
    refine (bnd (xal_eq (v := rPy h G r ρ i) (q_i2 S1 hq (by omega)) (by rw [e1, xm_xset, if_pos ⟨rfl, rfl⟩]))).trans ?_
    refine (bnd (xgf_eq (a := 20) (ok_20 S1) (pt_20_3 S1))).trans ?_
    refine (bnd (xal_eq (a := 23) (v := xm G 212 (1 + 9 * ρ i + 2)) (ia_23 S1 (by omega) (by omega)) (st_purse R1.2.1 (by omega)))).trans ?_
    unfold rPo
    by_cases z2 : xm G 212 (1 + 9 * ρ i + 2) < rPy h G r ρ i
    · rw [if_pos z2, decide_eq_true z2, if_pos rfl]
    · rw [if_neg z2, decide_eq_false z2, if_neg (by decide), y]
  · rw [if_neg y, if_neg y]
/-- what is told of a ring so far -/
def wI (h G : xa_H) (q r : Nat) (ρ : Nat → Nat) (i : Nat) (H : xa_H) : Prop := (∀ j, j < i → xm H (q + 2) j = rPy h G r ρ j) ∧ ∀ j, j < i → xm H (q + 3) j = xm G 212 (1 + 9 * ρ (prv r j))
theorem w_96 {h G H : xa_H} {s F1 F2 n m q r : Nat} {ρ : Nat → Nat} (K : KX h s F1 F2 n m) (R : RG h G H s F1 F2 n m q r ρ) {i : Nat} (hi : i < r) (ef : ∀ k, k < 7 → xm H (q + 4) k = rFr h G r ρ i k) (c3 v4 v5 : Int) :
    ∃ H', f_X7_weigh_J96L11 (q : Int) (s : Int) 20 c3 v4 v5 (i : Int) (ρ i : Int) H = some (.inl (c3, v4, (if v5 = -1 then (if rPo h G r ρ i = true then (ρ i : Int) else -1) else v5), ((i + 1 : Nat) : Int), H')) ∧ CG q F1 F2 H H' ∧ xm H' (q + 2) i = rPy h G r ρ i ∧ (∀ j, j ≠ i → xm H' (q + 2) j = xm H (q + 2) j) ∧ ∀ j, xm H' (q + 3) j = xm H (q + 3) j := by
  have hq := R.2.2.1
  have hq' : q = 148 ∨ q = 153 := hq
  have S := R.1.1
  have fa := K.2.1.far
  have ct := R.1.cs K.1.2.1
  have cs := K.1.2.1.1
  have k14 : xk H (q + 4) = (0, 14) := by
    rw [kd_xk S (by omega)]
    rcases hq' with rfl | rfl <;> decide +kernel
  have S12 : xm H s 12 = xm h s 12 := R.1.2.2.2 _ _ (Or.inl ⟨by omega, by omega⟩)
  unfold f_X7_weigh_J96L11
  rw [gCS ct, S12]
  rcases c_fw R.1 K.2.1 (w := 1) (F := F2) (by omega) (by rw [if_neg (by omega)]) (A := q + 4) (by omega) k14 (rFr_ok K R hi) ef K.1.2.1 with ⟨x1, x2⟩ | ⟨x1, x2, H', x3, x4, x5, x6, x7⟩
  · rw [show xm h s 12 = -1 from x1, xn5_ok (by decide), if_pos rfl, w_118 K R hi _ _ _ _ (by rw [x2, if_neg (by omega)])]
    exact ⟨_, rfl, (CG.refl _ _ _ _).set (by unfold DG7; omega), by rw [xm_xset, if_pos ⟨rfl, rfl⟩], fun j hj => by rw [xm_xset, if_neg (by omega)], fun j => by rw [xm_xset, if_neg (by omega)]⟩
  · have c : CG q F1 F2 H H' := ⟨x4, x5, x6, fun a k hd => x7 a k (by unfold DG7 at hd; omega)⟩
    have R' := R.cg K c
    rw [show xm h s 12 = (F2 : Int) from x1, xn5_ok (show ((F2 : Nat) : Int) ≠ -5 by omega), if_neg (show ¬ ((F2 : Nat) : Int) = -1 by omega), gCS ct, S12, show xm h s 12 = (F2 : Int) from x1, gQ S hq, q_6 S hq, show xrc H 2 (F2 : Int) (f_X2_worth (F2 : Int) ((q + 4 : Nat) : Int) H) = f_X2_worth (F2 : Int) ((q + 4 : Nat) : Int) H from if_pos x2, x3, bbind, w_118 K R' hi _ _ _ _ rfl]
    exact ⟨_, rfl, c.set (by unfold DG7; omega), by rw [xm_xset, if_pos ⟨rfl, rfl⟩], fun j hj => by rw [xm_xset, if_neg (by omega), x7 _ _ (by omega)], fun j => by rw [xm_xset, if_neg (by omega), x7 _ _ (by omega)]⟩
theorem w_65 {h G H : xa_H} {s F1 F2 n m q r : Nat} {ρ : Nat → Nat} (K : KX h s F1 F2 n m) (R : RG h G H s F1 F2 n m q r ρ) {i : Nat} (hi : i < r) (ef : ∀ k, k < 7 → xm H (q + 4) k = rFr h G r ρ i k) (c3 v4 v5 : Int) :
    ∃ H', f_X7_weigh_J65L11 (q : Int) (s : Int) 20 c3 v4 v5 (i : Int) (ρ i : Int) H = some (.inl (c3, (if v4 = -1 then (if rSw h G r ρ i = true then (ρ i : Int) else -1) else v4), (if v5 = -1 then (if rPo h G r ρ i = true then (ρ i : Int) else -1) else v5), ((i + 1 : Nat) : Int), H')) ∧ CG q F1 F2 H H' ∧ xm H' (q + 2) i = rPy h G r ρ i ∧ (∀ j, j ≠ i → xm H' (q + 2) j = xm H (q + 2) j) ∧ ∀ j, xm H' (q + 3) j = xm H (q + 3) j := by
  have hq := R.2.2.1
  have hq' : q = 148 ∨ q = 153 := hq
  have S := R.1.1
  have fa := K.2.1.far
  have ct := R.1.cs K.1.2.1
  have cs := K.1.2.1.1
  have k14 : xk H (q + 4) = (0, 14) := by
    rw [kd_xk S (by omega)]
    rcases hq' with rfl | rfl <;> decide +kernel
  have S11 : xm H s 11 = xm h s 11 := R.1.2.2.2 _ _ (Or.inl ⟨by omega, by omega⟩)
  unfold f_X7_weigh_J65L11
  by_cases y : v4 = -1
  · rw [if_pos y, if_pos y, gCS ct, S11]
    rcases c_fw R.1 K.2.1 (w := 0) (F := F1) (by omega) (by rw [if_pos rfl]) (A := q + 4) (by omega) k14 (rFr_ok K R hi) ef K.1.2.1 with ⟨x1, x2⟩ | ⟨x1, x2, H', x3, x4, x5, x6, x7⟩
    · obtain ⟨H', z1, z2⟩ := w_96 K R hi ef c3 v4 v5
      refine ⟨H', ?_, z2⟩
      have : rSw h G r ρ i = false := by
        unfold rSw
        rw [x2, if_pos rfl]
        rfl
      rw [show xm h s 11 = -1 from x1, xn5_ok (by decide), if_pos rfl, z1, this, if_neg (show ¬ (false = true) by decide), y]
    · have c : CG q F1 F2 H H' := ⟨x4, x5, x6, fun a k hd => x7 a k (by unfold DG7 at hd; omega)⟩
      have R' := R.cg K c
      have ef' : ∀ k, k < 7 → xm H' (q + 4) k = rFr h G r ρ i k := fun k hk => by rw [x7 _ _ (by omega)]; exact ef k hk
      rw [show xm h s 11 = (F1 : Int) from x1, xn5_ok (show ((F1 : Nat) : Int) ≠ -5 by omega), if_neg (show ¬ ((F1 : Nat) : Int) = -1 by omega), gCS ct, S11, show xm h s 11 = (F1 : Int) from x1, gQ S hq, q_6 S hq, show xrc H 2 (F1 : Int) (f_X2_worth (F1 : Int) ((q + 4 : Nat) : Int) H) = f_X2_worth (F1 : Int) ((q + 4 : Nat) : Int) H from if_pos x2, x3, bbind]
      by_cases z : fv h 0 (rFr h G r ρ i) = 0
      · obtain ⟨H2, z1, z2, z3, z4, z5⟩ := w_96 K R' hi ef' c3 (ρ i : Int) v5
        refine ⟨H2, ?_, c.tr z2, z3, fun j hj => by rw [z4 j hj, x7 _ _ (by omega)], fun j => by rw [z5 j, x7 _ _ (by omega)]⟩
        rw [if_pos z, z1]
        unfold rSw
        rw [decide_eq_true z, if_pos rfl]
      · obtain ⟨H2, z1, z2, z3, z4, z5⟩ := w_96 K R' hi ef' c3 v4 v5
        refine ⟨H2, ?_, c.tr z2, z3, fun j hj => by rw [z4 j hj, x7 _ _ (by omega)], fun j => by rw [z5 j, x7 _ _ (by omega)]⟩
        rw [if_neg z, z1]
        unfold rSw
        rw [decide_eq_false z, if_neg (show ¬ (false = true) by decide), y]
  · rw [if_neg y, if_neg y]
    exact w_96 K R hi ef c3 v4 v5
theorem fsm_r {ρ : Nat → Nat} {p : Nat → Bool} : ∀ i, fsm ρ p i = -1 ∨ 0 ≤ fsm ρ p i
  | 0 => Or.inl rfl
  | i + 1 => by
    show (if fsm ρ p i = -1 then (if p i = true then (ρ i : Int) else -1) else fsm ρ p i) = -1 ∨ 0 ≤ (if fsm ρ p i = -1 then (if p i = true then (ρ i : Int) else -1) else fsm ρ p i)
    have := fsm_r (ρ := ρ) (p := p) i
    split
    · split
      · omega
      · omega
    · omega
theorem w_loop {h G H0 : xa_H} {s F1 F2 n m q r : Nat} {ρ : Nat → Nat} (K : KX h s F1 F2 n m) (R0 : RG h G H0 s F1 F2 n m q r ρ) : ∀ t i, i + t = r → ∀ H, CG q F1 F2 H0 H → wI h G q r ρ i H → ∀ fu, t < fu →
    ∃ H', xit (fun s_1 => f_X7_weigh_L11 (q : Int) (s : Int) 20 s_1.1 s_1.2.1 s_1.2.2.1 s_1.2.2.2.1 s_1.2.2.2.2) fu (fsm ρ (rFe h r ρ) i, fsm ρ (rSw h G r ρ) i, fsm ρ (rPo h G r ρ) i, (i : Int), H) = some (fsm ρ (rFe h r ρ) r, fsm ρ (rSw h G r ρ) r, fsm ρ (rPo h G r ρ) r, H') ∧ CG q F1 F2 H0 H' ∧ wI h G q r ρ r H' := by
  intro t
  induction t with
  | zero =>
    intro i hit H Z I fu hf
    have R := R0.cg K Z
    have hq := R.2.2.1
    have : i = r := by omega
    subst this
    refine ⟨H, xit_end ?_ hf, Z, I⟩
    show f_X7_weigh_L11 (q : Int) (s : Int) 20 _ _ _ (i : Int) H = _
    unfold f_X7_weigh_L11
    rw [gQ R.1.1 hq, R.2.2.2.2.1, if_neg (by omega)]
  | succ t ih =>
    intro i hit H Z I fu hf
    have R := R0.cg K Z
    have hq := R.2.2.1
    have hq' : q = 148 ∨ q = 153 := hq
    have S := R.1.1
    have r6 := R.2.2.2.1
    have n6 := rc_n K.1
    have en := K.2.2.2.2.1
    obtain ⟨fu, rfl⟩ : ∃ z, fu = z + 1 := ⟨fu - 1, by omega⟩
    have hi : i < r := by omega
    obtain ⟨H1, e1, c1, k1, k2, k3, k4⟩ := q_facts K R hi
    have R1 := R.cg K c1
    have S1 := R1.1.1
    obtain ⟨H2, e2, c2, l1, l2, l3⟩ := w_65 K R1 hi k1 (fsm ρ (rFe h r ρ) (i + 1)) (fsm ρ (rSw h G r ρ) i) (fsm ρ (rPo h G r ρ) i)
    have I2 : wI h G q r ρ (i + 1) H2 := by
      refine ⟨fun j hj => ?_, fun j hj => ?_⟩
      · by_cases y : j = i
        · rw [y]; exact l1
        · rw [l2 j y, k4 j]; exact I.1 j (by omega)
      · by_cases y : j = i
        · rw [y, l3 i, k2]
        · rw [l3 j, k3 j y]; exact I.2 j (by omega)
    obtain ⟨H', x1, x2, x3⟩ := ih (i + 1) (by omega) H2 (Z.tr (c1.tr c2)) I2 fu (by omega)
    refine ⟨H', ?_, x2, x3⟩
    rw [← x1]
    refine xit_go ?_
    show f_X7_weigh_L11 (q : Int) (s : Int) 20 _ _ _ (i : Int) H = _
    unfold f_X7_weigh_L11
    rw [gQ S hq, R.2.2.2.2.1, if_pos (by omega), gQ S hq, q_0 S hq]
    refine (bnd (xal_eq (q_i1 S hq (by omega)) (R.2.2.2.2.2 i hi).1)).trans ?_
    rw [xQ S hq, e1, bbind]
    have nl := nxt_lt hi
    have hA := (R.2.2.2.2.2 i hi).2
    have hB := (R.2.2.2.2.2 _ nl).2
    have f1 : fsm ρ (rFe h r ρ) (i + 1) = if fsm ρ (rFe h r ρ) i = -1 then (if rFe h r ρ i = true then (ρ i : Int) else -1) else fsm ρ (rFe h r ρ) i := rfl
    by_cases y : fsm ρ (rFe h r ρ) i = -1
    · have ct := R1.1.cs K.1.2.1
      have fq : f_X0_areFeuding (s : Int) (ρ i : Int) (ρ (nxt r i) : Int) H1 = some (if rFe h r ρ i = true then 1 else 0) := by
        unfold f_X0_areFeuding
        rw [gCS ct, cs_p10 ct]
        refine (bnd (xal_eq (v := xm h 207 (6 + ρ i)) (cs_ia6 ct (by omega) (by omega)) (by rw [R1.1.2.2.2 _ _ (Or.inl ⟨by omega, by omega⟩)]; exact rc_feud K.1 (by omega)))).trans ?_
        unfold rFe
        by_cases z : xand (xshr (xm h 207 (6 + ρ i)) ((ρ (nxt r i) : Nat) : Int)) 1 = 1
        · rw [if_pos z, decide_eq_true z, if_pos rfl]
        · rw [if_neg z, decide_eq_false z, if_neg (by decide)]
      rw [if_pos y, gQ S1 hq, q_0 S1 hq, xQ S1 hq, s_behind S1 hq R1.2.2.2.2.1 hi (by omega), bbind]
      refine (bnd (xal_eq (q_i1 S1 hq (by omega)) (R1.2.2.2.2.2 _ nl).1)).trans ?_
      rw [x0S ct, fq, bbind]
      rw [if_pos y] at f1
      by_cases z : rFe h r ρ i = true
      · rw [if_pos z] at f1
        rw [f1] at e2
        rw [if_pos z, if_neg one_ne, f1]
        exact e2
      · rw [if_neg z] at f1
        rw [if_neg z, if_pos rfl, y, ← f1, e2]
        rfl
    · rw [if_neg y] at f1
      rw [if_neg y, ← f1, e2]
      rfl
/-- what it comes to -/
def rV (h G : xa_H) (r : Nat) (ρ : Nat → Nat) : Int := if fsm ρ (rFe h r ρ) r = -1 then (if fsm ρ (rSw h G r ρ) r = -1 then (if fsm ρ (rPo h G r ρ) r = -1 then 0 else 3) else 2) else 1
def rW (h G : xa_H) (r : Nat) (ρ : Nat → Nat) : Int := if fsm ρ (rFe h r ρ) r = -1 then (if fsm ρ (rSw h G r ρ) r = -1 then fsm ρ (rPo h G r ρ) r else fsm ρ (rSw h G r ρ) r) else fsm ρ (rFe h r ρ) r
theorem c_weigh {h G H : xa_H} {s F1 F2 n m q r : Nat} {ρ : Nat → Nat} (K : KX h s F1 F2 n m) (R : RG h G H s F1 F2 n m q r ρ) : ∃ H', f_X7_weigh (q : Int) (s : Int) 20 H = some H' ∧ CG q F1 F2 H H' ∧ wI h G q r ρ r H' ∧ xm H' q 2 = rV h G r ρ ∧ xm H' q 3 = rW h G r ρ := by
  have hq := R.2.2.1
  have hq' : q = 148 ∨ q = 153 := hq
  have fa := K.2.1.far
  obtain ⟨H1, x1, x2, x3⟩ := w_loop K R r 0 (by omega) H (CG.refl _ _ _ _) ⟨fun j hj => by omega, fun j hj => by omega⟩ xFU (by have := R.2.2.2.1; unfold xFU; omega)
  have R1 := R.cg K x2
  have S1 := R1.1.1
  have dec : f_X7_decide (q : Int) (fsm ρ (rFe h r ρ) r) (fsm ρ (rSw h G r ρ) r) (fsm ρ (rPo h G r ρ) r) H1 = some (xset (xset H1 q 2 (rV h G r ρ)) q 3 (rW h G r ρ)) := by
    have S2 : ∀ v, SH (xset H1 q 2 v) := fun v => S1.set (q_nf hq (Or.inl ⟨rfl, by omega⟩))
    have put : ∀ v w, ((xpf H1 7 2 (q : Int) v).bind fun h4 => (xpf h4 7 3 (q : Int) w).bind fun h5 => some h5) = some (xset (xset H1 q 2 v) q 3 w) := fun v w => by
      refine (bnd (xpf_eq (q_ok S1 hq))).trans ?_
      exact (bnd (xpf_eq (q_ok (S2 v) hq))).trans rfl
    unfold f_X7_decide rV rW
    by_cases a : fsm ρ (rFe h r ρ) r = -1
    · rw [if_pos a, if_pos a, if_pos a]
      by_cases b : fsm ρ (rSw h G r ρ) r = -1
      · rw [if_pos b, if_pos b, if_pos b]
        by_cases c : fsm ρ (rPo h G r ρ) r = -1
        · rw [if_pos c, if_pos c, put]
        · rw [if_neg c, if_neg c, put]
      · rw [if_neg b, if_neg b, if_neg b, put]
    · rw [if_neg a, if_neg a, if_neg a, put]
  refine ⟨_, ?_, (x2.set (a := q) (k := 2) (v := rV h G r ρ) (by unfold DG7; omega)).set (a := q) (k := 3) (v := rW h G r ρ) (by unfold DG7; omega), ⟨fun j hj => ?_, fun j hj => ?_⟩, ?_, ?_⟩
  · unfold f_X7_weigh
    refine (bnd x1).trans ?_
    rw [xQ S1 hq, dec]
    rfl
  · rw [xm_xset, if_neg (by omega), xm_xset, if_neg (by omega)]; exact x3.1 j hj
  · rw [xm_xset, if_neg (by omega), xm_xset, if_neg (by omega)]; exact x3.2 j hj
  · rw [xm_xset, if_neg (by omega), xm_xset, if_pos ⟨rfl, rfl⟩]
  · rw [xm_xset, if_pos ⟨rfl, rfl⟩]
