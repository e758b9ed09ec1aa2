/-! ===== states copied ===== -/
theorem bnd {α β : Type} {E : Option α} {v : α} {f : α → Option β} (e : E = some v) : E.bind f = f v := by rw [e]; rfl
theorem xgf_eq {h : xa_H} {ci k a : Nat} {v : Int} (hk : xok h ci (a : Int) = true) (hv : xm h a k = v) : xgf h ci k (a : Int) = some v := by
  unfold xgf
  rw [if_pos hk, ← hv]
  rfl
theorem xpf_eq {h : xa_H} {ci k a : Nat} {v : Int} (hk : xok h ci (a : Int) = true) : xpf h ci k (a : Int) v = some (xset h a k v) := by
  unfold xpf
  rw [if_pos hk]
  rfl
theorem xm_xcpy (h : xa_H) (s sp dd dp n a k : Nat) : xm (xcpy h s sp dd dp n) a k = if a = dd ∧ dp ≤ k ∧ k < dp + n then xm h s (sp + (k - dp)) else xm h a k := rfl
theorem xcp_eq {h : xa_H} {s d m1 m2 : Nat} (n : Nat) (ks : xk h s = (0, m1)) (kd : xk h d = (0, m2)) (hs : s < xn h) (hd : d < xn h) (sp dp : Nat) (h1 : sp + n ≤ m1) (h2 : dp + n ≤ m2) : xcp h (s : Int) (sp : Int) (d : Int) (dp : Int) (n : Int) = some (xcpy h s sp d dp n) := by
  unfold xcp
  simp only [Int.toNat_natCast, ks, kd]
  rw [if_pos]
  refine ⟨by omega, hs, trivial, by omega, hd, trivial, by omega, by omega, by omega, by omega, by omega⟩
/-- a state's cells -/
def StO (h : xa_H) (a : Nat) : Prop := a + 6 ≤ xn h ∧ xk h a = (19, 7) ∧ xk h (a + 1) = (0, 6) ∧ xk h (a + 2) = (0, 6) ∧ xk h (a + 3) = (0, 6) ∧ xk h (a + 4) = (0, 36) ∧ xk h (a + 5) = (0, 30) ∧ xm h a 1 = ((a + 1 : Nat) : Int) ∧ xm h a 2 = ((a + 2 : Nat) : Int) ∧ xm h a 3 = ((a + 3 : Nat) : Int) ∧ xm h a 4 = ((a + 4 : Nat) : Int) ∧ xm h a 5 = ((a + 5 : Nat) : Int)
theorem StO.ok {h : xa_H} {a : Nat} (S : StO h a) : xok h 9 (a : Int) = true := by
  obtain ⟨h1, h2, -⟩ := S
  simp only [xok, Int.toNat_natCast, h2]
  simp
  omega
def slen (j : Nat) : Nat := if j ≤ 3 then 6 else if j = 4 then 36 else 30
/-- the state at b copied to a -/
def xcst (h : xa_H) (a b : Nat) : xa_H := (h.1, h.2.1, h.2.2.1, fun x k => if x = a then (if k = 0 ∨ k = 6 then xm h b k else xm h a k) else if (a < x ∧ x < a + 6) ∧ k < slen (x - a) then xm h (b + (x - a)) k else xm h x k)
theorem xn_xcst (h : xa_H) (a b : Nat) : xn (xcst h a b) = xn h := rfl
theorem xk_xcst (h : xa_H) (a b : Nat) : xk (xcst h a b) = xk h := rfl
theorem xm_xcst (h : xa_H) (a b x k : Nat) : xm (xcst h a b) x k = if x = a then (if k = 0 ∨ k = 6 then xm h b k else xm h a k) else if (a < x ∧ x < a + 6) ∧ k < slen (x - a) then xm h (b + (x - a)) k else xm h x k := rfl
theorem s_copyFrom {h : xa_H} {a b : Nat} (A : StO h a) (B : StO h b) (hab : a + 6 ≤ b ∨ b + 6 ≤ a) : f_X9_copyFrom (a : Int) (b : Int) h = some (xcst h a b) := by
  have oa := A.ok
  have ob := B.ok
  obtain ⟨an, ak, ak1, ak2, ak3, ak4, ak5, ap1, ap2, ap3, ap4, ap5⟩ := A
  obtain ⟨bn, bk, bk1, bk2, bk3, bk4, bk5, bp1, bp2, bp3, bp4, bp5⟩ := B
  unfold f_X9_copyFrom
  obtain ⟨H1, e1⟩ : ∃ H, H = xset h a 0 (xm h b 0) := ⟨_, rfl⟩
  have n1 : xn H1 = xn h := by rw [e1]; rfl
  have k1 : xk H1 = xk h := by rw [e1]; rfl
  obtain ⟨H2, e2⟩ : ∃ H, H = xcpy H1 (b + 1) 0 (a + 1) 0 6 := ⟨_, rfl⟩
  have n2 : xn H2 = xn h := by rw [e2]; exact n1
  have k2 : xk H2 = xk h := by rw [e2]; exact k1
  obtain ⟨H3, e3⟩ : ∃ H, H = xcpy H2 (b + 2) 0 (a + 2) 0 6 := ⟨_, rfl⟩
  have n3 : xn H3 = xn h := by rw [e3]; exact n2
  have k3 : xk H3 = xk h := by rw [e3]; exact k2
  obtain ⟨H4, e4⟩ : ∃ H, H = xcpy H3 (b + 3) 0 (a + 3) 0 6 := ⟨_, rfl⟩
  have n4 : xn H4 = xn h := by rw [e4]; exact n3
  have k4 : xk H4 = xk h := by rw [e4]; exact k3
  obtain ⟨H5, e5⟩ : ∃ H, H = xcpy H4 (b + 4) 0 (a + 4) 0 36 := ⟨_, rfl⟩
  have n5 : xn H5 = xn h := by rw [e5]; exact n4
  have k5 : xk H5 = xk h := by rw [e5]; exact k4
  obtain ⟨H6, e6⟩ : ∃ H, H = xcpy H5 (b + 5) 0 (a + 5) 0 30 := ⟨_, rfl⟩
  have n6 : xn H6 = xn h := by rw [e6]; exact n5
  have k6 : xk H6 = xk h := by rw [e6]; exact k5
  have ok : ∀ H, xn H = xn h → xk H = xk h → xok H 9 (a : Int) = true ∧ xok H 9 (b : Int) = true := by
    intro H q1 q2
    constructor
    · rw [← oa]; simp only [xok, q1, q2]
    · rw [← ob]; simp only [xok, q1, q2]
  have m1 : ∀ x k, xm H1 x k = if x = a ∧ k = 0 then xm h b 0 else xm h x k := fun x k => by rw [e1, xm_xset]
  have m2 : ∀ x k, xm H2 x k = if x = a + 1 ∧ 0 ≤ k ∧ k < 0 + 6 then xm H1 (b + 1) (0 + (k - 0)) else xm H1 x k := fun x k => by rw [e2, xm_xcpy]
  have m3 : ∀ x k, xm H3 x k = if x = a + 2 ∧ 0 ≤ k ∧ k < 0 + 6 then xm H2 (b + 2) (0 + (k - 0)) else xm H2 x k := fun x k => by rw [e3, xm_xcpy]
  have m4 : ∀ x k, xm H4 x k = if x = a + 3 ∧ 0 ≤ k ∧ k < 0 + 6 then xm H3 (b + 3) (0 + (k - 0)) else xm H3 x k := fun x k => by rw [e4, xm_xcpy]
  have m5 : ∀ x k, xm H5 x k = if x = a + 4 ∧ 0 ≤ k ∧ k < 0 + 36 then xm H4 (b + 4) (0 + (k - 0)) else xm H4 x k := fun x k => by rw [e5, xm_xcpy]
  have m6 : ∀ x k, xm H6 x k = if x = a + 5 ∧ 0 ≤ k ∧ k < 0 + 30 then xm H5 (b + 5) (0 + (k - 0)) else xm H5 x k := fun x k => by rw [e6, xm_xcpy]
  have f1 : ∀ x k, x = a ∧ 1 ≤ k ∨ x = b → xm H1 x k = xm h x k := fun x k q => by rw [m1, if_neg (by omega)]
  have f2 : ∀ x k, x = a ∧ 1 ≤ k ∨ x = b → xm H2 x k = xm h x k := fun x k q => by rw [m2, if_neg (by omega), f1 x k q]
  have f3 : ∀ x k, x = a ∧ 1 ≤ k ∨ x = b → xm H3 x k = xm h x k := fun x k q => by rw [m3, if_neg (by omega), f2 x k q]
  have f4 : ∀ x k, x = a ∧ 1 ≤ k ∨ x = b → xm H4 x k = xm h x k := fun x k q => by rw [m4, if_neg (by omega), f3 x k q]
  have f5 : ∀ x k, x = a ∧ 1 ≤ k ∨ x = b → xm H5 x k = xm h x k := fun x k q => by rw [m5, if_neg (by omega), f4 x k q]
  have f6 : ∀ x k, x = a ∧ 1 ≤ k ∨ x = b → xm H6 x k = xm h x k := fun x k q => by rw [m6, if_neg (by omega), f5 x k q]
  refine (bnd (xgf_eq ob rfl)).trans ?_
  refine (bnd (xpf_eq oa)).trans ?_
  rw [← e1]
  refine (bnd (xgf_eq (ok H1 n1 k1).2 ((f1 b 1 (by omega)).trans bp1))).trans ?_
  refine (bnd (xgf_eq (ok H1 n1 k1).1 ((f1 a 1 (by omega)).trans ap1))).trans ?_
  refine (bnd (xcp_eq 6 (by rw [k1]; exact bk1) (by rw [k1]; exact ak1) (by omega) (by omega) 0 0 (by omega) (by omega))).trans ?_
  rw [← e2]
  refine (bnd (xgf_eq (ok H2 n2 k2).2 ((f2 b 2 (by omega)).trans bp2))).trans ?_
  refine (bnd (xgf_eq (ok H2 n2 k2).1 ((f2 a 2 (by omega)).trans ap2))).trans ?_
  refine (bnd (xcp_eq 6 (by rw [k2]; exact bk2) (by rw [k2]; exact ak2) (by omega) (by omega) 0 0 (by omega) (by omega))).trans ?_
  rw [← e3]
  refine (bnd (xgf_eq (ok H3 n3 k3).2 ((f3 b 3 (by omega)).trans bp3))).trans ?_
  refine (bnd (xgf_eq (ok H3 n3 k3).1 ((f3 a 3 (by omega)).trans ap3))).trans ?_
  refine (bnd (xcp_eq 6 (by rw [k3]; exact bk3) (by rw [k3]; exact ak3) (by omega) (by omega) 0 0 (by omega) (by omega))).trans ?_
  rw [← e4]
  refine (bnd (xgf_eq (ok H4 n4 k4).2 ((f4 b 4 (by omega)).trans bp4))).trans ?_
  refine (bnd (xgf_eq (ok H4 n4 k4).1 ((f4 a 4 (by omega)).trans ap4))).trans ?_
  refine (bnd (xcp_eq 36 (by rw [k4]; exact bk4) (by rw [k4]; exact ak4) (by omega) (by omega) 0 0 (by omega) (by omega))).trans ?_
  rw [← e5]
  refine (bnd (xgf_eq (ok H5 n5 k5).2 ((f5 b 5 (by omega)).trans bp5))).trans ?_
  refine (bnd (xgf_eq (ok H5 n5 k5).1 ((f5 a 5 (by omega)).trans ap5))).trans ?_
  refine (bnd (xcp_eq 30 (by rw [k5]; exact bk5) (by rw [k5]; exact ak5) (by omega) (by omega) 0 0 (by omega) (by omega))).trans ?_
  rw [← e6]
  refine (bnd (xgf_eq (ok H6 n6 k6).2 (f6 b 6 (by omega)))).trans ?_
  refine (bnd (xpf_eq (ok H6 n6 k6).1)).trans ?_
  refine congrArg some (xheq n6 ?_ k6 (fun x k => ?_))
  · rw [xz_xset, e6, e5, e4, e3, e2, e1]; rfl
  rw [xm_xset, xm_xcst]
  by_cases p : x = a
  · subst p
    rw [if_pos rfl]
    by_cases q : k = 6
    · rw [if_pos ⟨rfl, q⟩, if_pos (Or.inr q), q]
    · rw [if_neg (by omega)]
      by_cases q0 : k = 0
      · rw [if_pos (Or.inl q0), q0, m6, if_neg (by omega), m5, if_neg (by omega), m4, if_neg (by omega), m3, if_neg (by omega), m2, if_neg (by omega), m1, if_pos ⟨rfl, rfl⟩]
      · rw [if_neg (by omega), f6 x k (by omega)]
  · rw [if_neg (by omega), if_neg p]
    have b1 : ∀ j k, 1 ≤ j → j ≤ 5 → xm H1 (b + j) k = xm h (b + j) k := fun j k _ _ => by rw [m1, if_neg (by omega)]
    have b2 : ∀ j k, 1 ≤ j → j ≤ 5 → xm H2 (b + j) k = xm h (b + j) k := fun j k q1 q2 => by rw [m2, if_neg (by omega), b1 j k q1 q2]
    have b3 : ∀ j k, 1 ≤ j → j ≤ 5 → xm H3 (b + j) k = xm h (b + j) k := fun j k q1 q2 => by rw [m3, if_neg (by omega), b2 j k q1 q2]
    have b4 : ∀ j k, 1 ≤ j → j ≤ 5 → xm H4 (b + j) k = xm h (b + j) k := fun j k q1 q2 => by rw [m4, if_neg (by omega), b3 j k q1 q2]
    have b5 : ∀ j k, 1 ≤ j → j ≤ 5 → xm H5 (b + j) k = xm h (b + j) k := fun j k q1 q2 => by rw [m5, if_neg (by omega), b4 j k q1 q2]
    by_cases r : a < x ∧ x < a + 6
    · obtain ⟨j, rfl⟩ : ∃ j, x = a + j := ⟨x - a, by omega⟩
      rw [show a + j - a = j by omega]
      unfold slen
      have hj : j = 1 ∨ j = 2 ∨ j = 3 ∨ j = 4 ∨ j = 5 := by omega
      rcases hj with rfl | rfl | rfl | rfl | rfl
      · simp only [show (1 : Nat) ≤ 3 from by decide, if_true]
        rw [m6, if_neg (by omega), m5, if_neg (by omega), m4, if_neg (by omega), m3, if_neg (by omega), m2]
        by_cases t : k < 6
        · rw [if_pos (by omega), if_pos ⟨r, t⟩, b1 1 _ (by omega) (by omega)]; simp
        · rw [if_neg (by omega), if_neg (by omega), m1, if_neg (by omega)]
      · simp only [show (2 : Nat) ≤ 3 from by decide, if_true]
        rw [m6, if_neg (by omega), m5, if_neg (by omega), m4, if_neg (by omega), m3]
        by_cases t : k < 6
        · rw [if_pos (by omega), if_pos ⟨r, t⟩, b2 2 _ (by omega) (by omega)]; simp
        · rw [if_neg (by omega), if_neg (by omega), m2, if_neg (by omega), m1, if_neg (by omega)]
      · simp only [show (3 : Nat) ≤ 3 from by decide, if_true]
        rw [m6, if_neg (by omega), m5, if_neg (by omega), m4]
        by_cases t : k < 6
        · rw [if_pos (by omega), if_pos ⟨r, t⟩, b3 3 _ (by omega) (by omega)]; simp
        · rw [if_neg (by omega), if_neg (by omega), m3, if_neg (by omega), m2, if_neg (by omega), m1, if_neg (by omega)]
      · simp only [show ¬((4 : Nat) ≤ 3) from by decide, if_true, if_false]
        rw [m6, if_neg (by omega), m5]
        by_cases t : k < 36
        · rw [if_pos (by omega), if_pos ⟨r, t⟩, b4 4 _ (by omega) (by omega)]; simp
        · rw [if_neg (by omega), if_neg (by omega), m4, if_neg (by omega), m3, if_neg (by omega), m2, if_neg (by omega), m1, if_neg (by omega)]
      · simp only [show ¬((5 : Nat) ≤ 3) from by decide, show ¬((5 : Nat) = 4) from by decide, if_false]
        rw [m6]
        by_cases t : k < 30
        · rw [if_pos (by omega), if_pos ⟨r, t⟩, b5 5 _ (by omega) (by omega)]; simp
        · rw [if_neg (by omega), if_neg (by omega), m5, if_neg (by omega), m4, if_neg (by omega), m3, if_neg (by omega), m2, if_neg (by omega), m1, if_neg (by omega)]
    · rw [if_neg (by omega), m6, if_neg (by omega), m5, if_neg (by omega), m4, if_neg (by omega), m3, if_neg (by omega), m2, if_neg (by omega), m1, if_neg (by omega)]
