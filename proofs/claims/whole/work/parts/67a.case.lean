/-! ===== rings: what stands on both sides ===== -/
/-- the class's heap keeps the case of h -/
def CV (h H : xa_H) (s F1 F2 : Nat) : Prop := SH H ∧ xn H = xn h ∧ xk H = xk h ∧ ∀ a k, (s ≤ a ∧ a < s + 13) ∨ (a = 0 ∧ k = 5) ∨ a = F1 ∨ a = F1 + 1 ∨ a = F2 ∨ a = F2 + 1 → xm H a k = xm h a k
/-- the reference's does -/
def MV (h G : xa_H) : Prop := SH G ∧ ∀ a k, (a = 199 ∧ 3 ≤ k) ∨ (a = 201 ∧ 6 ≤ k) ∨ (a = 206 ∧ 36 ≤ k) ∨ (a = 207 ∧ 6 ≤ k) ∨ (a = 208 ∧ k = 1) ∨ (a = 209 ∧ 2 ≤ k) ∨ (a = 210 ∧ 2 ≤ k) ∨ (a = 211 ∧ 1600 ≤ k) → xm G a k = xm h a k
/-- and both have the same state -/
def ST (H G : xa_H) (n m : Nat) : Prop := RSt2 H G 20 212 0 ∧ VS G 212 0 (n : Int) (m : Int)
theorem st_night {H G : xa_H} {n m : Nat} (R : ST H G n m) : xm H 20 0 = xm G 212 0 := R.1.1
theorem st_has {H G : xa_H} {n m : Nat} (R : ST H G n m) {i : Nat} (hi : i < 6) : xm H 21 i = xm G 212 (1 + 9 * i) := by simpa only [Nat.zero_add] using R.1.2.1 i hi
theorem st_wants {H G : xa_H} {n m : Nat} (R : ST H G n m) {i : Nat} (hi : i < 6) : xm H 22 i = xm G 212 (1 + 9 * i + 1) := by simpa only [Nat.zero_add] using R.1.2.2.1 i hi
theorem st_purse {H G : xa_H} {n m : Nat} (R : ST H G n m) {i : Nat} (hi : i < 6) : xm H 23 i = xm G 212 (1 + 9 * i + 2) := by simpa only [Nat.zero_add] using R.1.2.2.2.1 i hi
theorem st_met {H G : xa_H} {n m : Nat} (R : ST H G n m) {i j : Nat} (hi : i < 6) (hj : j < 6) : xm H 24 (i * 6 + j) = xm G 212 (1 + 9 * i + 3 + j) := by simpa only [Nat.zero_add] using R.1.2.2.2.2.1 i j hi hj
theorem st_kc {H G : xa_H} {n m : Nat} (R : ST H G n m) : xm H 20 6 = xm G 212 55 := R.1.2.2.2.2.2.1
theorem st_kept {H G : xa_H} {n m : Nat} (R : ST H G n m) {k : Nat} (hk : (k : Int) < xm G 212 55) : xm H 25 k = xm G 212 (56 + 4 * k) * 1000 + xm G 212 (56 + 4 * k + 1) * 100 + xm G 212 (56 + 4 * k + 2) * 10 + xm G 212 (56 + 4 * k + 3) := by simpa only [Nat.zero_add] using R.1.2.2.2.2.2.2 k hk
theorem sv_night {H G : xa_H} {n m : Nat} (R : ST H G n m) : 0 ≤ xm G 212 0 ∧ xm G 212 0 ≤ 9999 := R.2.1
theorem sv_has {H G : xa_H} {n m : Nat} (R : ST H G n m) {i : Nat} (hi : i < n) : 0 ≤ xm G 212 (1 + 9 * i) ∧ xm G 212 (1 + 9 * i) < m := by simpa only [Nat.zero_add] using R.2.2.1 i (by omega)
theorem sv_wants {H G : xa_H} {n m : Nat} (R : ST H G n m) {i : Nat} (hi : i < n) : 0 ≤ xm G 212 (1 + 9 * i + 1) ∧ xm G 212 (1 + 9 * i + 1) < m := by simpa only [Nat.zero_add] using R.2.2.2.1 i (by omega)
theorem sv_purse {H G : xa_H} {n m : Nat} (R : ST H G n m) {i : Nat} (hi : i < n) : 0 ≤ xm G 212 (1 + 9 * i + 2) ∧ xm G 212 (1 + 9 * i + 2) ≤ 9999 := by simpa only [Nat.zero_add] using R.2.2.2.2.1 i (by omega)
theorem sv_met {H G : xa_H} {n m : Nat} (R : ST H G n m) {i j : Nat} (hi : i < n) (hj : j < n) : 0 ≤ xm G 212 (1 + 9 * i + 3 + j) ∧ xm G 212 (1 + 9 * i + 3 + j) ≤ 99 := by simpa only [Nat.zero_add] using R.2.2.2.2.2.1 i j (by omega) (by omega)
theorem sv_inj {H G : xa_H} {n m : Nat} (R : ST H G n m) {i j : Nat} (hi : i < n) (hj : j < n) (e : xm G 212 (1 + 9 * i) = xm G 212 (1 + 9 * j)) : i = j := R.2.2.2.2.2.2.1 i j (by omega) (by omega) (by simpa only [Nat.zero_add] using e)
theorem sv_kc {H G : xa_H} {n m : Nat} (R : ST H G n m) : 0 ≤ xm G 212 55 ∧ xm G 212 55 ≤ 30 := by simpa only [Nat.zero_add] using R.2.2.2.2.2.2.2.1
theorem CV.cs {h H : xa_H} {s F1 F2 : Nat} (Q : CV h H s F1 F2) (C : CS h s) : CS H s := C.mv (by rw [Q.2.1]; exact Nat.le_refl _) (fun a _ => by rw [Q.2.2.1]) (fun a k q1 q2 => Q.2.2.2 a k (Or.inl ⟨q1, q2⟩))
theorem CV.s05 {h H : xa_H} {s F1 F2 : Nat} (Q : CV h H s F1 F2) (C : Rc h s) : xm H 0 5 = (s : Int) := (Q.2.2.2 0 5 (Or.inr (Or.inl ⟨rfl, rfl⟩))).trans C.1
/-- cells that a class's ring writes -/
def DG7 (q F1 F2 a k : Nat) : Prop := (a = q ∧ (k = 2 ∨ k = 3)) ∨ (q + 2 ≤ a ∧ a ≤ q + 4) ∨ a = F1 + 2 ∨ a = F2 + 2
/-- the facts of a ring: one who gets, of one who gives -/
def fr (h G : xa_H) (A B k : Nat) : Int :=
  if k = 0 then xm h 206 (36 + (A * 6 + (xm G 212 (1 + 9 * B)).toNat)) else if k = 1 then xm h 206 (36 + (A * 6 + (xm G 212 (1 + 9 * A)).toNat)) else if k = 2 then (if xm G 212 (1 + 9 * A + 1) = xm G 212 (1 + 9 * B) then 1 else 0) else if k = 3 then xm h 201 (6 + (xm G 212 (1 + 9 * B)).toNat) else if k = 4 then xm G 212 (1 + 9 * A + 3 + B) else if k = 5 then xm G 212 (1 + 9 * A + 2) else if k = 6 then xm G 212 0 else 0
theorem fr_0 {h G : xa_H} {A B b : Nat} (eb : xm G 212 (1 + 9 * B) = (b : Int)) : fr h G A B 0 = xm h 206 (36 + (A * 6 + b)) := by unfold fr; rw [if_pos rfl, eb, Int.toNat_natCast]
theorem fr_1 {h G : xa_H} {A B a : Nat} (ea : xm G 212 (1 + 9 * A) = (a : Int)) : fr h G A B 1 = xm h 206 (36 + (A * 6 + a)) := by unfold fr; rw [if_neg (by decide), if_pos rfl, ea, Int.toNat_natCast]
theorem fr_2 {h G : xa_H} {A B b : Nat} (eb : xm G 212 (1 + 9 * B) = (b : Int)) : fr h G A B 2 = if xm G 212 (1 + 9 * A + 1) = (b : Int) then 1 else 0 := by unfold fr; rw [if_neg (by decide), if_neg (by decide), if_pos rfl, eb]
theorem fr_3 {h G : xa_H} {A B b : Nat} (eb : xm G 212 (1 + 9 * B) = (b : Int)) : fr h G A B 3 = xm h 201 (6 + b) := by unfold fr; rw [if_neg (by decide), if_neg (by decide), if_neg (by decide), if_pos rfl, eb, Int.toNat_natCast]
theorem fr_4 {h G : xa_H} {A B : Nat} : fr h G A B 4 = xm G 212 (1 + 9 * A + 3 + B) := by unfold fr; rw [if_neg (by decide), if_neg (by decide), if_neg (by decide), if_neg (by decide), if_pos rfl]
theorem fr_5 {h G : xa_H} {A B : Nat} : fr h G A B 5 = xm G 212 (1 + 9 * A + 2) := by unfold fr; rw [if_neg (by decide), if_neg (by decide), if_neg (by decide), if_neg (by decide), if_neg (by decide), if_pos rfl]
theorem fr_6 {h G : xa_H} {A B : Nat} : fr h G A B 6 = xm G 212 0 := by unfold fr; rw [if_neg (by decide), if_neg (by decide), if_neg (by decide), if_neg (by decide), if_neg (by decide), if_neg (by decide), if_pos rfl]
theorem fr_ok {h H G : xa_H} {s n m : Nat} (C : Rc h s) (en : xm h 199 4 = (n : Int)) (em : xm h 199 3 = (m : Int)) (R : ST H G n m) {A B : Nat} (hA : A < n) (hB : B < n) : fok (fr h G A B) := by
  intro k hk
  have n6 := rc_n C
  have m6 := rc_m C
  have vA := sv_has R hA
  have vB := sv_has R hB
  have v5 := sv_purse R hA
  have v4 := sv_met R hA hB
  have v0 := sv_night R
  unfold fr
  split
  · have := (C.2.2.2.2.2.2.2.2.2.2.2.1 (A * 6 + (xm G 212 (1 + 9 * B)).toNat) (by omega)).2
    omega
  split
  · have := (C.2.2.2.2.2.2.2.2.2.2.2.1 (A * 6 + (xm G 212 (1 + 9 * A)).toNat) (by omega)).2
    omega
  split
  · split <;> omega
  split
  · have := (C.2.2.2.2.2.2.2.2.2.1 ((xm G 212 (1 + 9 * B)).toNat) (by omega)).2
    omega
  split
  · omega
  split
  · omega
  split
  · omega
  · omega
/-- what a formula of the case comes to -/
def fv (h : xa_H) (w : Nat) (fa : Nat → Int) : Int := if xm h 209 (2 + w) = -1 then (if w = 0 then 1 else 0) else (vrun fa (fun i => xm h 211 (1600 + (xm h 209 (2 + w)).toNat + i)) (xm h 210 (2 + w) - xm h 209 (2 + w)).toNat).headD 0
theorem fv_ok {h : xa_H} {s w F : Nat} (hw : w < 2) (o : RFo h s w F) {fa : Nat → Int} (hf : fok fa) : okv1 (decide (w = 0)) (fv h w fa) := by
  unfold fv
  rcases o with ⟨o1, o2⟩ | ⟨o1, o2, L, a, o3, o4, o5, o6, o7, o8⟩
  · rw [if_pos o2]
    have : w = 0 ∨ w = 1 := by omega
    rcases this with rfl | rfl
    · exact Or.inr rfl
    · unfold okv1
      rw [if_neg (by decide), if_neg (by decide)]
      omega
  · rw [if_neg (by omega), o4, o5, Int.toNat_natCast, show (((a + L : Nat) : Int) - (a : Int)).toNat = L by omega]
    have ok := vrun_ok (q := false) hf L (fun i hi => (o7 i hi).2) o8
    match e : vrun fa (fun i => xm h 211 (1600 + a + i)) L, ok with
    | [v], ok => exact ok.1
    | _ :: _ :: _, ok => exact ok.2.elim
/-- in the class -/
theorem c_fw {h H : xa_H} {s F1 F2 : Nat} (Q : CV h H s F1 F2) (FF : RFs h s F1 F2) {w F : Nat} (hw : w < 2) (hF : F = if w = 0 then F1 else F2) {A : Nat} (kA : A < 249) (k14 : xk H A = (0, 14)) {fa : Nat → Int} (hf : fok fa) (eA : ∀ k, k < 7 → xm H A k = fa k) (C : CS h s) :
    (xm h s (11 + w) = -1 ∧ fv h w fa = if w = 0 then 1 else 0) ∨ (xm h s (11 + w) = (F : Int) ∧ xok H 2 (F : Int) = true ∧ ∃ H', f_X2_worth (F : Int) (A : Int) H = some (fv h w fa, H') ∧ xn H' = xn H ∧ xz H' = xz H ∧ xk H' = xk H ∧ ∀ a k, a ≠ F + 2 → xm H' a k = xm H a k) := by
  have o : RFo h s w F := by
    have : w = 0 ∨ w = 1 := by omega
    rcases this with rfl | rfl
    · rw [hF]; exact FF.1
    · rw [hF]; exact FF.2.1
  have e0 := FF.2.2.2.1
  have e1 := FF.2.2.2.2
  have fF : F = F1 ∨ F = F2 := by
    rw [hF]
    by_cases z : w = 0
    · rw [if_pos z]; exact Or.inl rfl
    · rw [if_neg z]; exact Or.inr rfl
  have eF : ∀ k, xm H F k = xm h F k := fun k => Q.2.2.2 F k (by omega)
  have eF1 : ∀ k, xm H (F + 1) k = xm h (F + 1) k := fun k => Q.2.2.2 (F + 1) k (by omega)
  have FV : fv h w fa = if xm h 209 (2 + w) = -1 then (if w = 0 then 1 else 0) else (vrun fa (fun i => xm h 211 (1600 + (xm h 209 (2 + w)).toNat + i)) (xm h 210 (2 + w) - xm h 209 (2 + w)).toNat).headD 0 := rfl
  rcases o with ⟨o1, o2⟩ | ⟨o1, o2, L, a, o3, o4, o5, o6, o7, o8⟩
  · refine Or.inl ⟨o1, ?_⟩
    rw [FV, if_pos o2]
  · have F' : FS H F L := o3.mv (by rw [Q.2.1]; exact Nat.le_refl _) (fun a _ => by rw [Q.2.2.1]) eF
    obtain ⟨v, ev, ov, wv⟩ := c_worth (q := false) (c := fun i => xm h 211 (1600 + a + i)) (N := 14) F' ⟨by have := Q.1.1; omega, k14⟩ ⟨by omega, fun y => by cases y⟩ hf (fun k _ _ y => eA k (y rfl)) (by omega) (by omega) (fun i hi => by rw [eF1]; exact o7 i hi) o8
    refine Or.inr ⟨o1, fs_ok F', wH H (F + 2) fa (fun i => xm h 211 (1600 + a + i)) L, ?_, ?_⟩
    · rw [wv, FV, if_neg (by omega), o4, o5, Int.toNat_natCast, show (((a + L : Nat) : Int) - (a : Int)).toNat = L by omega, ev]
      rfl
    · obtain ⟨w1, w2, w3⟩ := wH_n H (F + 2) fa (fun i => xm h 211 (1600 + a + i)) L
      exact ⟨w1, w2, w3, fun a k y => wH_o y L⟩
