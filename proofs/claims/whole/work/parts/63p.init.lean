/-! ===== new objects, side by side ===== -/
def Bl (h0 H : xa_H) (m Z : Nat) (K : Nat → Nat × Nat) (V : Nat → Nat → Int) : Prop := xn H = xn h0 + m ∧ xz H = xz h0 + Z ∧ (∀ a, a < xn h0 → xk H a = xk h0 a) ∧ (∀ a k, a < xn h0 → xm H a k = xm h0 a k) ∧ (∀ j, j < m → xk H (xn h0 + j) = K j) ∧ ∀ j k, j < m → xm H (xn h0 + j) k = V j k
theorem bl_0 (h : xa_H) : Bl h h 0 0 (fun _ => (0, 0)) (fun _ _ => 0) := ⟨rfl, rfl, fun _ _ => rfl, fun _ _ _ => rfl, fun j hj => absurd hj (by omega), fun j k hj => absurd hj (by omega)⟩
theorem bl_set {h0 H : xa_H} {m Z : Nat} {K : Nat → Nat × Nat} {V : Nat → Nat → Int} (B : Bl h0 H m Z K V) (j k : Nat) (v : Int) : Bl h0 (xset H (xn h0 + j) k v) m Z K (fun a b => if a = j ∧ b = k then v else V a b) := by
  obtain ⟨b1, b2, b3, b4, b5, b6⟩ := B
  refine ⟨b1, b2, b3, fun a q ha => ?_, b5, fun a q ha => ?_⟩
  · rw [xm_xset, if_neg (by omega)]; exact b4 a q ha
  · rw [xm_xset]
    by_cases z : a = j ∧ q = k
    · rw [if_pos (by omega)]
      show v = if a = j ∧ q = k then v else V a q
      rw [if_pos z]
    · rw [if_neg (by omega)]
      show _ = if a = j ∧ q = k then v else V a q
      rw [if_neg z]
      exact b6 a q ha
theorem bl_new {h0 H : xa_H} {m Z : Nat} {K : Nat → Nat × Nat} {V : Nat → Nat → Int} (B : Bl h0 H m Z K V) (kd n : Nat) (d : Nat → Int) : Bl h0 (xnew H kd n d) (m + 1) (Z + n) (fun a => if a = m then (kd, n) else K a) (fun a b => if a = m then d b else V a b) := by
  obtain ⟨b1, b2, b3, b4, b5, b6⟩ := B
  refine ⟨?_, ?_, fun a ha => ?_, fun a q ha => ?_, fun a ha => ?_, fun a q ha => ?_⟩
  · show xn H + 1 = _; omega
  · show xz H + n = _; omega
  · rw [xk_xnew, if_neg (by omega)]; exact b3 a ha
  · rw [xm_xnew, if_neg (by omega)]; exact b4 a q ha
  · rw [xk_xnew]
    show _ = if a = m then (kd, n) else K a
    by_cases z : a = m
    · rw [if_pos (by omega), if_pos z]
    · rw [if_neg (by omega), if_neg z]; exact b5 a (by omega)
  · rw [xm_xnew]
    show _ = if a = m then d q else V a q
    by_cases z : a = m
    · rw [if_pos (by omega), if_pos z]
    · rw [if_neg (by omega), if_neg z]; exact b6 a q (by omega)
theorem bl_ok {h0 H : xa_H} {m Z : Nat} {K : Nat → Nat × Nat} {V : Nat → Nat → Int} (B : Bl h0 H m Z K V) {ci j N : Nat} (hj : j < m) (hk : K j = (10 + ci, N)) : xok H ci ((xn h0 + j : Nat) : Int) = true := by
  unfold xok
  rw [Int.toNat_natCast, B.2.2.2.2.1 j hj, hk, B.1]
  simp
  omega
theorem bl_xpf {β : Type} {h0 H : xa_H} {m Z : Nat} {K : Nat → Nat × Nat} {V : Nat → Nat → Int} (B : Bl h0 H m Z K V) {ci j N k : Nat} {v : Int} {f : xa_H → Option β} (hj : j < m) (hk : K j = (10 + ci, N)) : (xpf H ci k ((xn h0 + j : Nat) : Int) v).bind f = f (xset H (xn h0 + j) k v) := bnd (xpf_eq (bl_ok B hj hk))
theorem bl_xna {β : Type} {H : xa_H} {v : Int} {f : xa_H → Option β} (hv : 0 ≤ v ∧ v ≤ 1000000) : (xna H 0 v).bind f = f (xnew H 0 v.toNat (fun _ => 0)) := bnd (show xna H 0 v = some (xnew H 0 v.toNat (fun _ => xda 0)) from if_pos hv)
