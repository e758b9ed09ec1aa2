/-! ===== a formula of the case, read by the class ===== -/
theorem xm_xnew {h : xa_H} {kd n : Nat} {d : Nat → Int} {a k : Nat} : xm (xnew h kd n d) a k = if a = xn h then d k else xm h a k := rfl
theorem xk_xnew {h : xa_H} {kd n : Nat} {d : Nat → Int} {a : Nat} : xk (xnew h kd n d) a = if a = xn h then (kd, n) else xk h a := rfl
theorem xm_xcpq {h : xa_H} {s sp dd dp n a k : Nat} : xm (xcpy h s sp dd dp n) a k = if a = dd ∧ dp ≤ k ∧ k < dp + n then xm h s (sp + (k - dp)) else xm h a k := rfl
theorem fix_lt {a k : Nat} (hf : fixd a k = true) : a < 249 := by
  have : ∀ t ∈ pl0, t.1 < 249 := by decide +kernel
  obtain ⟨t, ht, h2⟩ := List.any_eq_true.mp hf
  simp at h2
  have := this t ht
  omega
theorem sh_new {h : xa_H} (S : SH h) {kd n : Nat} {d : Nat → Int} : SH (xnew h kd n d) := S.mv (Nat.le_succ _) (fun a ha => by rw [xk_xnew, if_neg (by omega)]) (fun a k hf => by
  have := fix_lt hf
  have := S.1
  rw [xm_xnew, if_neg (by omega)])
/-- what is read becomes a formula -/
def DR (a k : Nat) : Bool := DP a k || (a == 4 && k == 3)
theorem DR_nf : nofix DR := by unfold nofix; decide +kernel
theorem DP_DR {h h' : xa_H} (e : Fx DP h h') : Fx DR h h' := e.mono fun x k q => by
  unfold DR at q
  simp only [Bool.or_eq_false_iff] at q
  exact q.1
def newF (h h' : xa_H) (l : Nat) : Prop := xn h' = xn h + 3 ∧ xz h' = xz h + (66 + l) ∧ (∀ a, a < xn h → xk h' a = xk h a) ∧ (∀ a k, a < xn h → xm h' a k = xm h a k) ∧ FS h' (xn h) l ∧ ∀ i, i < l → xm h' (xn h + 1) i = xm h 5 i
theorem c_tail {h : xa_H} (S : SH h) {l : Nat} (hl : xm h 4 2 = (l : Int)) (h16 : l < 1600) :
    ∃ h', ((xnO h 2 2).bind fun h8 => (xgf h8 3 1 4).bind fun x9 => (xgf h8 3 2 4).bind fun x10 => (f_J7_copyOf_59c91 x9 x10 h8).bind fun r11 => (f_X2_init ((xn h : Int)) r11.1 r11.2).bind fun r12 => some ((xn h : Int), r12)) = some ((xn h : Int), h') ∧ newF h h' l := by
  have n0 := S.1
  obtain ⟨A1, e1⟩ : ∃ z, z = xno h 2 2 := ⟨_, rfl⟩
  obtain ⟨A2, e2⟩ : ∃ z, z = xnew A1 0 l (fun _ => xda 0) := ⟨_, rfl⟩
  obtain ⟨A3, e3⟩ : ∃ z, z = xcpy A2 5 0 (xn h + 1) 0 l := ⟨_, rfl⟩
  obtain ⟨A4, e4⟩ : ∃ z, z = xnew A3 0 64 (fun _ => xda 0) := ⟨_, rfl⟩
  obtain ⟨A5, e5⟩ : ∃ z, z = xset A4 (xn h) 1 ((xn h + 2 : Nat) : Int) := ⟨_, rfl⟩
  obtain ⟨A6, e6⟩ : ∃ z, z = xset A5 (xn h) 0 ((xn h + 1 : Nat) : Int) := ⟨_, rfl⟩
  have n1 : xn A1 = xn h + 1 := by rw [e1]; rfl
  have n2 : xn A2 = xn h + 2 := by rw [e2]; show xn A1 + 1 = _; omega
  have n3 : xn A3 = xn h + 2 := by rw [e3]; exact n2
  have n4 : xn A4 = xn h + 3 := by rw [e4]; show xn A3 + 1 = _; omega
  have z1 : xz A1 = xz h + 2 := by rw [e1]; rfl
  have z2 : xz A2 = xz h + 2 + l := by rw [e2]; show xz A1 + l = _; omega
  have z3 : xz A3 = xz h + 2 + l := by rw [e3]; exact z2
  have z4 : xz A4 = xz h + (66 + l) := by rw [e4]; show xz A3 + 64 = _; omega
  have k1 : ∀ a, xk A1 a = if a = xn h then (12, 2) else xk h a := fun a => by rw [e1]; rfl
  have k2 : ∀ a, xk A2 a = if a = xn h + 1 then (0, l) else xk A1 a := fun a => by rw [e2, xk_xnew, n1]
  have k3 : ∀ a, xk A3 a = xk A2 a := fun a => by rw [e3]; rfl
  have k4 : ∀ a, xk A4 a = if a = xn h + 2 then (0, 64) else xk A3 a := fun a => by rw [e4, xk_xnew, n3]
  have m1 : ∀ a k, a < xn h → xm A1 a k = xm h a k := fun a k q => by rw [e1]; show xm (xnew h _ _ _) a k = _; rw [xm_xnew, if_neg (by omega)]
  have m2 : ∀ a k, a < xn h → xm A2 a k = xm h a k := fun a k q => by rw [e2, xm_xnew, if_neg (by omega)]; exact m1 a k q
  have m3 : ∀ a k, a < xn h → xm A3 a k = xm h a k := fun a k q => by rw [e3, xm_xcpq, if_neg (by omega)]; exact m2 a k q
  have m4 : ∀ a k, a < xn h → xm A4 a k = xm h a k := fun a k q => by rw [e4, xm_xnew, if_neg (by omega)]; exact m3 a k q
  have c3 : ∀ i, i < l → xm A3 (xn h + 1) i = xm h 5 i := fun i hi => by
    rw [e3, xm_xcpq, if_pos ⟨rfl, by omega, by omega⟩, m2 5 _ (by omega)]
    congr 1
    omega
  have S1 : SH A1 := by rw [e1]; exact sh_new S
  have kk5 : ∀ z : xa_H, (∀ a, a < 249 → xk z a = xk h a) → xk z 5 = kd0 5 := fun z e => (e 5 (by omega)).trans (S.2.1 5 (by omega))
  have a5 : kd0 5 = (0, 1600) := by decide +kernel
  have ln1 : xln A1 5 = some 1600 := by
    have := kk5 A1 (fun a ha => by rw [k1, if_neg (by omega)])
    unfold xln
    rw [if_pos (by simp [this, a5, n1]; omega)]
    show some ((xk A1 5).2 : Int) = _
    rw [this, a5]
    rfl
  have ln2 : xln A2 5 = some 1600 := by
    have := kk5 A2 (fun a ha => by rw [k2, if_neg (by omega), k1, if_neg (by omega)])
    unfold xln
    rw [if_pos (by simp [this, a5, n2]; omega)]
    show some ((xk A2 5).2 : Int) = _
    rw [this, a5]
    rfl
  have cp : xcp A2 5 0 ((xn A1 : Nat) : Int) 0 (min 1600 (l : Int)) = some A3 := by
    have := kk5 A2 (fun a ha => by rw [k2, if_neg (by omega), k1, if_neg (by omega)])
    have d := k2 (xn h + 1)
    rw [if_pos rfl] at d
    have mn : min 1600 (l : Int) = (l : Int) := by omega
    unfold xcp
    rw [mn, n1, if_pos]
    · rw [e3]; rfl
    · have t5 : ((5 : Int)).toNat = 5 := rfl
      rw [t5, this, a5, Int.toNat_natCast, d, n2]
      refine ⟨by omega, by omega, rfl, by omega, by omega, rfl, by omega, by omega, by omega, ?_, ?_⟩
      · show (0 : Int) + l ≤ (1600 : Nat)
        omega
      · show (0 : Int) + l ≤ (l : Nat)
        omega
  have okF : ∀ z : xa_H, xn h < xn z → xk z (xn h) = (12, 2) → xok z 2 ((xn h : Nat) : Int) = true := fun z q1 q2 => by
    unfold xok
    rw [Int.toNat_natCast, q2]
    simp
    omega
  have ok3 : xok A3 2 ((xn h : Nat) : Int) = true := okF A3 (by omega) (by rw [k3, k2, if_neg (by omega), k1, if_pos rfl])
  have ok4 : xok A4 2 ((xn h : Nat) : Int) = true := okF A4 (by omega) (by rw [k4, if_neg (by omega), k3, k2, if_neg (by omega), k1, if_pos rfl])
  have ok5 : xok A5 2 ((xn h : Nat) : Int) = true := by rw [e5]; exact ok4
  have in_ : f_X2_init ((xn h : Nat) : Int) ((xn A1 : Nat) : Int) A3 = some A6 := by
    unfold f_X2_init
    rw [exrc, if_pos ok3]
    have na : xna A3 0 64 = some A4 := by unfold xna; rw [if_pos (by omega), e4]; rfl
    refine (bnd na).trans ?_
    have p1 : xpf A4 2 1 ((xn h : Nat) : Int) ((xn A3 : Nat) : Int) = some A5 := by rw [xpf_eq ok4, e5, n3]
    have p2 : xpf A5 2 0 ((xn h : Nat) : Int) ((xn A1 : Nat) : Int) = some A6 := by rw [xpf_eq ok5, e6, n1]
    refine (bnd p1).trans ?_
    exact (bnd p2).trans rfl
  refine ⟨A6, ?_, ?_⟩
  · have f1 : xm A1 4 1 = 5 := (m1 4 1 (by omega)).trans (pt_4_1 S)
    have f2 : xm A1 4 2 = (l : Int) := (m1 4 2 (by omega)).trans hl
    have o4 : xok A1 3 4 = true := ok_4 S1
    have cpy : f_J7_copyOf_59c91 5 (l : Int) A1 = some (((xn A1 : Nat) : Int), A3) := by
      have na : xna A1 0 (l : Int) = some A2 := by unfold xna; rw [if_pos (by omega), e2]; rfl
      unfold f_J7_copyOf_59c91
      refine (bnd ln1).trans ?_
      rw [if_neg (by omega)]
      refine (bnd na).trans ?_
      refine (bnd ln2).trans ?_
      exact (bnd cp).trans rfl
    unfold xnO
    rw [bbind, ← e1]
    refine (bnd (xgf_eq (a := 4) o4 f1)).trans ?_
    refine (bnd (xgf_eq (a := 4) o4 f2)).trans ?_
    refine (bnd cpy).trans ?_
    exact (bnd in_).trans rfl
  · have m6 : ∀ a k, a ≠ xn h → xm A6 a k = xm A4 a k := fun a k q => by rw [e6, xm_xset, if_neg (by omega), e5, xm_xset, if_neg (by omega)]
    have k6 : ∀ a, xk A6 a = xk A4 a := fun a => by rw [e6, e5]; rfl
    refine ⟨by rw [e6, e5]; exact n4, by rw [e6, e5]; exact z4, fun a ha => ?_, fun a k ha => ?_, ⟨n0, ?_, ?_, ?_, ?_, ?_, ?_⟩, fun i hi => ?_⟩
    · rw [k6, k4, if_neg (by omega), k3, k2, if_neg (by omega), k1, if_neg (by omega)]
    · rw [m6 _ _ (by omega)]; exact m4 a k ha
    · rw [e6, e5]; exact Nat.le_of_eq n4.symm
    · rw [k6, k4, if_neg (by omega), k3, k2, if_neg (by omega), k1, if_pos rfl]
    · rw [k6, k4, if_neg (by omega), k3, k2, if_pos rfl]
    · rw [k6, k4, if_pos rfl]
    · rw [e6, xm_xset, if_pos ⟨rfl, rfl⟩]
    · rw [e6, xm_xset, if_neg (by omega), e5, xm_xset, if_pos ⟨rfl, rfl⟩]
    · rw [m6 _ _ (by omega), e4, xm_xnew, if_neg (by omega)]
      exact c3 i hi
