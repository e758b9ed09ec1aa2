/-- the case's cells, and all that is made later -/
def DK (a k : Nat) : Bool := (Nat.ble 7 a && Nat.ble a 19) || Nat.ble 249 a || (a == 0 && k == 5) || (a == 199 && Nat.ble 3 k) || a == 200 || a == 201 || a == 202 || a == 206 || a == 207 || a == 208 || (a == 209 && Nat.ble 2 k) || (a == 210 && Nat.ble 2 k) || (a == 211 && Nat.ble 1600 k) || a == 168
theorem rr_S {h : xa_H} {s F1 F2 T2 T3 : Nat} (R : RR h s F1 F2 T2 T3) : SH h := R.1
theorem rr_t {h : xa_H} {s F1 F2 T2 T3 : Nat} (R : RR h s F1 F2 T2 T3) : Rt h := R.2.1
theorem rr_r {h : xa_H} {s F1 F2 T2 T3 : Nat} (R : RR h s F1 F2 T2 T3) : Rr h := R.2.2.1
theorem rr_f {h : xa_H} {s F1 F2 T2 T3 : Nat} (R : RR h s F1 F2 T2 T3) : Rf h := R.2.2.2.1
theorem rr_c {h : xa_H} {s F1 F2 T2 T3 : Nat} (R : RR h s F1 F2 T2 T3) : Rc h s := R.2.2.2.2.1
theorem rr_F {h : xa_H} {s F1 F2 T2 T3 : Nat} (R : RR h s F1 F2 T2 T3) : RFs h s F1 F2 := R.2.2.2.2.2.1
theorem rr_n {h : xa_H} {s F1 F2 T2 T3 : Nat} (R : RR h s F1 F2 T2 T3) : Rn h := R.2.2.2.2.2.2.1
theorem rr_h {h : xa_H} {s F1 F2 T2 T3 : Nat} (R : RR h s F1 F2 T2 T3) : Rh h := R.2.2.2.2.2.2.2.1
theorem rr_j {h : xa_H} {s F1 F2 T2 T3 : Nat} (R : RR h s F1 F2 T2 T3) : Rj h := R.2.2.2.2.2.2.2.2.1
theorem rr_i {h : xa_H} {s F1 F2 T2 T3 : Nat} (R : RR h s F1 F2 T2 T3) : Ri h := R.2.2.2.2.2.2.2.2.2.1
theorem rr_s {h : xa_H} {s F1 F2 T2 T3 : Nat} (R : RR h s F1 F2 T2 T3) : Rs h := R.2.2.2.2.2.2.2.2.2.2.1
theorem rr_o {h : xa_H} {s F1 F2 T2 T3 : Nat} (R : RR h s F1 F2 T2 T3) : RSs h s F1 F2 T2 T3 := R.2.2.2.2.2.2.2.2.2.2.2.1
theorem rr_2 {h : xa_H} {s F1 F2 T2 T3 : Nat} (R : RR h s F1 F2 T2 T3) : Ro h := R.2.2.2.2.2.2.2.2.2.2.2.2
theorem RR.mvL {h h' : xa_H} {s F1 F2 T2 T3 : Nat} (R : RR h s F1 F2 T2 T3) (S' : SH h') (hn : xn h ≤ xn h') (hk : ∀ a, a < xn h → xk h' a = xk h a) (eK : agr DK h h') (gt : Rt h') (gr : Rr h') (gf : Rf h')
    (gn : Rn h') (gh : Rh h') (gj : Rj h') (gi : Ri h') (gs : Rs h') (g2 : Ro h') : RR h' s F1 F2 T2 T3 := by
  have hs := (rr_c R).2.1.1
  have hF := (rr_F R).2.2.2
  have hT := (rr_o R).2.2.2
  refine R.mv S' hn hk gt gr gf (fun a k hd => eK a k ?_) (fun a k hd => eK a k ?_) gn gh gj gi gs ((rr_o R).mv hn hk (fun a k hd => eK a k ?_) (fun _ a k q1 q2 => eK a k ?_) (fun _ a k q1 q2 => eK a k ?_)) g2
  · unfold DRc at hd; simp [DK]; omega
  · unfold DRF at hd; simp [DK]; omega
  · simp [DK]; omega
  · simp [DK]; omega
  · simp [DK]; omega
/-- a call that keeps all -/
def CallOK (h : xa_H) (fc : Option (Int × xa_H)) (fr : xa_H → Option (Int × xa_H)) : Prop := ∃ v h1 h2, fc = some (v, h1) ∧ fr h1 = some (v, h2) ∧ (∃ s F1 F2 T2 T3, RR h2 s F1 F2 T2 T3) ∧ (xn h ≤ xn h2 ∧ xn h2 ≤ xn h + 40) ∧ (xz h ≤ xz h2 ∧ xz h2 ≤ xz h + 8000)
theorem CallOK.same {h h1 h2 : xa_H} {v : Int} {fc : Option (Int × xa_H)} {fr : xa_H → Option (Int × xa_H)} (e1 : fc = some (v, h1)) (e2 : fr h1 = some (v, h2)) (R : ∃ s F1 F2 T2 T3, RR h2 s F1 F2 T2 T3) (hn : xn h2 = xn h) (hz : xz h2 = xz h) : CallOK h fc fr :=
  ⟨v, h1, h2, e1, e2, R, by omega, by omega⟩
/-- both refuse -/
theorem rr_refuse {h : xa_H} {s F1 F2 T2 T3 : Nat} (R : RR h s F1 F2 T2 T3) {w : Nat} (hw : w < 6) : RR (xset (xset h 172 w (w32 (xm h 172 w + 1))) 175 w (w32 (xm (xset h 172 w (w32 (xm h 172 w + 1))) 175 w + 1))) s F1 F2 T2 T3 := by
  refine R.mvL (((rr_S R).set (fixd_of (by decide +kernel))).set (fixd_of (by decide +kernel))) (Nat.le_refl _) (fun _ _ => rfl) (by repeat (first | exact agr_refl _ _ | refine agr_set rfl ?_ | refine agr_arr (fun _ => rfl) ?_)) ((rr_t R).mv (by repeat (first | exact agr_refl _ _ | refine agr_set rfl ?_ | refine agr_arr (fun _ => rfl) ?_))) ?_ ((rr_f R).mv (by repeat (first | exact agr_refl _ _ | refine agr_set rfl ?_ | refine agr_arr (fun _ => rfl) ?_))) ((rr_n R).mv (by repeat (first | exact agr_refl _ _ | refine agr_set rfl ?_ | refine agr_arr (fun _ => rfl) ?_))) ((rr_h R).mv (by repeat (first | exact agr_refl _ _ | refine agr_set rfl ?_ | refine agr_arr (fun _ => rfl) ?_))) ((rr_j R).mv (by repeat (first | exact agr_refl _ _ | refine agr_set rfl ?_ | refine agr_arr (fun _ => rfl) ?_))) ((rr_i R).mv (by repeat (first | exact agr_refl _ _ | refine agr_set rfl ?_ | refine agr_arr (fun _ => rfl) ?_))) ((rr_s R).mv (by repeat (first | exact agr_refl _ _ | refine agr_set rfl ?_ | refine agr_arr (fun _ => rfl) ?_))) ((rr_2 R).mv (by repeat (first | exact agr_refl _ _ | refine agr_set rfl ?_ | refine agr_arr (fun _ => rfl) ?_)))
  intro k hk
  have e := rr_r R
  simp only [xm_xset]
  by_cases q : k = w
  · subst q
    simp [e k hk]
  · simp [q, e k hk]
