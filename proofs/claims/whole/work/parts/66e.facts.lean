/-! ===== what a question may name, of a holder ===== -/
def fq (h : xa_H) (n i k : Nat) : Int :=
  if k = 1 then xm h 206 (36 + (i * 6 + (xm h 212 (1 + 9 * i)).toNat)) else if k = 2 then (if xm h 212 (1 + 9 * i + 1) = xm h 212 (1 + 9 * i) then 1 else 0) else if k = 3 then xm h 201 (6 + (xm h 212 (1 + 9 * i)).toNat) else if k = 5 then xm h 212 (1 + 9 * i + 2) else if k = 6 then xm h 212 0 else if k = 7 then (i : Int) else if 8 ≤ k then (if k - 8 < n then xm h 212 (1 + 9 * i + 3 + (k - 8)) else 0) else 0
theorem wS {t : Nat} (h : t < 2000000000) : w32 ((t : Int) + 1) = ((t + 1 : Nat) : Int) := by rw [w32_id (by omega) (by omega)]; omega
theorem wP8 {t : Nat} (h : t < 2000000000) : w32 (8 + (t : Int)) = ((8 + t : Nat) : Int) := by rw [w32_id (by omega) (by omega)]; omega
theorem wX6 {i t : Nat} (h : i < 100000000) (h2 : t < 100000000) : w32 (w32 ((i : Int) * 6) + (t : Int)) = ((i * 6 + t : Nat) : Int) := by rw [w32_id (z := (i : Int) * 6) (by omega) (by omega), w32_id (by omega) (by omega)]; omega
theorem fq_1 {h : xa_H} {n i a : Nat} (ea : xm h 212 (1 + 9 * i) = (a : Int)) : fq h n i 1 = xm h 206 (36 + (i * 6 + a)) := by unfold fq; rw [if_pos rfl, ea, Int.toNat_natCast]
theorem fq_2 {h : xa_H} {n i a : Nat} (ea : xm h 212 (1 + 9 * i) = (a : Int)) : fq h n i 2 = if xm h 212 (1 + 9 * i + 1) = (a : Int) then 1 else 0 := by unfold fq; rw [if_neg (by decide), if_pos rfl, ea]
theorem fq_3 {h : xa_H} {n i a : Nat} (ea : xm h 212 (1 + 9 * i) = (a : Int)) : fq h n i 3 = xm h 201 (6 + a) := by unfold fq; rw [if_neg (by decide), if_neg (by decide), if_pos rfl, ea, Int.toNat_natCast]
theorem fq_5 {h : xa_H} {n i : Nat} : fq h n i 5 = xm h 212 (1 + 9 * i + 2) := by unfold fq; rw [if_neg (by decide), if_neg (by decide), if_neg (by decide), if_pos rfl]
theorem fq_6 {h : xa_H} {n i : Nat} : fq h n i 6 = xm h 212 0 := by unfold fq; rw [if_neg (by decide), if_neg (by decide), if_neg (by decide), if_neg (by decide), if_pos rfl]
theorem fq_7 {h : xa_H} {n i : Nat} : fq h n i 7 = (i : Int) := by unfold fq; rw [if_neg (by decide), if_neg (by decide), if_neg (by decide), if_neg (by decide), if_neg (by decide), if_pos rfl]
theorem fq_m {h : xa_H} {n i t : Nat} (ht : t < n) : fq h n i (8 + t) = xm h 212 (1 + 9 * i + 3 + t) := by
  unfold fq
  rw [if_neg (by omega), if_neg (by omega), if_neg (by omega), if_neg (by omega), if_neg (by omega), if_neg (by omega), if_pos (by omega), if_pos (by omega), show 8 + t - 8 = t by omega]
theorem fq_o {h : xa_H} {n i t : Nat} (ht : ¬ t < n) : fq h n i (8 + t) = 0 := by
  unfold fq
  rw [if_neg (by omega), if_neg (by omega), if_neg (by omega), if_neg (by omega), if_neg (by omega), if_neg (by omega), if_pos (by omega), if_neg (by omega)]
theorem fq_ok {h : xa_H} {s F1 F2 T2 T3 : Nat} (R : RR h s F1 F2 T2 T3) {n i : Nat} (en : xm h 199 4 = (n : Int)) (hi : i < n) : fok (fq h n i) := by
  intro k hk
  have C := rr_c R
  have N := rr_n R
  have n6 := rc_n C
  have m6 := rc_m C
  have v1 := rv_has N (i := i) (by omega)
  have v3 := rv_purse N (i := i) (by omega)
  have v0 := rv_night N
  unfold fq
  split
  · have := (C.2.2.2.2.2.2.2.2.2.2.2.1 (i * 6 + (xm h 212 (1 + 9 * i)).toNat) (by omega)).2
    omega
  split
  · split <;> omega
  split
  · have := (C.2.2.2.2.2.2.2.2.2.1 ((xm h 212 (1 + 9 * i)).toNat) (by omega)).2
    omega
  split
  · omega
  split
  · omega
  split
  · omega
  split
  · split
    · have := rv_met N (i := i) (j := k - 8) (by omega) (by omega)
      omega
    · omega
  · omega
/-- the class's cells that such facts come from -/
def QC (h H : xa_H) (s : Nat) : Prop := SH H ∧ xn h ≤ xn H ∧ (∀ a, a < xn h → xk H a = xk h a) ∧ ∀ a k, ((s ≤ a ∧ a < s + 13) ∨ (20 ≤ a ∧ a ≤ 25) ∨ (a = 0 ∧ k = 5)) → xm H a k = xm h a k
theorem QC.cs {h H : xa_H} {s : Nat} (Q : QC h H s) (C : CS h s) : CS H s := C.mv Q.2.1 Q.2.2.1 (fun a k q1 q2 => Q.2.2.2 a k (Or.inl ⟨q1, q2⟩))
def fl170 (H : xa_H) (V : Nat → Int) : Nat → xa_H
  | 0 => H
  | n + 1 => xset (fl170 H V n) 170 (8 + n) (V (8 + n))
theorem fl170_n (H : xa_H) (V : Nat → Int) : ∀ n, xn (fl170 H V n) = xn H ∧ xz (fl170 H V n) = xz H ∧ xk (fl170 H V n) = xk H
  | 0 => ⟨rfl, rfl, rfl⟩
  | n + 1 => fl170_n H V n
theorem fl170_m {H : xa_H} {V : Nat → Int} {a k : Nat} : ∀ n, xm (fl170 H V n) a k = if a = 170 ∧ 8 ≤ k ∧ k < 8 + n then V k else xm H a k
  | 0 => by rw [if_neg (by omega)]; rfl
  | n + 1 => by
    show xm (xset (fl170 H V n) 170 (8 + n) (V (8 + n))) a k = _
    rw [xm_xset]
    by_cases y : a = 170 ∧ k = 8 + n
    · rw [if_pos y, if_pos (by omega), y.2]
    · rw [if_neg y, fl170_m n]
      by_cases z : a = 170 ∧ 8 ≤ k ∧ k < 8 + n
      · rw [if_pos z, if_pos (by omega)]
      · rw [if_neg z, if_neg (by omega)]
theorem QC.set {h H : xa_H} {s : Nat} (Q : QC h H s) (hs : s < 170 ∧ s + 13 ≤ 170 ∨ 170 < s) {k : Nat} {v : Int} : QC h (xset H 170 k v) s := by
  obtain ⟨q1, q2, q3, q4⟩ := Q
  exact ⟨q1.set (fixd_of (by decide +kernel)), q2, q3, fun a j hd => by rw [xm_xset, if_neg (by omega)]; exact q4 a j hd⟩
theorem s_findFacts {h H : xa_H} {s F1 F2 T2 T3 : Nat} (R : RR h s F1 F2 T2 T3) (Q : QC h H s) {n i : Nat} (en : xm h 199 4 = (n : Int)) (hi : i < n) :
    ∃ H', f_X11_findFacts 0 (i : Int) H = some H' ∧ (∀ a k, a ≠ 170 → xm H' a k = xm H a k) ∧ (xn H' = xn H ∧ xz H' = xz H ∧ xk H' = xk H) ∧ SH H' ∧ ∀ k, k < 14 → k ≠ 0 → k ≠ 4 → xm H' 170 k = fq h n i k := by
  have C := rr_c R
  have N := rr_n R
  have n6 := rc_n C
  have m6 := rc_m C
  have cs := C.2.1
  have hs : s < 170 ∧ s + 13 ≤ 170 ∨ 170 < s := by have := cs.1; omega
  obtain ⟨a, ea⟩ : ∃ a : Nat, xm h 212 (1 + 9 * i) = (a : Int) := ⟨(xm h 212 (1 + 9 * i)).toNat, by have := rv_has N (i := i) (by omega); omega⟩
  have a6 : a < 6 := by have := rv_has N (i := i) (by omega); omega
  have am : (a : Int) < xm h 199 3 := by have := rv_has N (i := i) (by omega); omega
  have S0 := Q.1
  have x21 : ∀ {H}, QC h H s → xm H 21 i = (a : Int) := fun Q => by rw [Q.2.2.2 _ _ (by omega), rn_has N (by omega), ea]
  have x22 : ∀ {H}, QC h H s → xm H 22 i = xm h 212 (1 + 9 * i + 1) := fun Q => by rw [Q.2.2.2 _ _ (by omega), rn_wants N (by omega)]
  have x05 : ∀ {H}, QC h H s → xm H 0 5 = (s : Int) := fun Q => by rw [Q.2.2.2 _ _ (by omega)]; exact C.1
  have i21 : ∀ {H}, SH H → xia H 0 21 (i : Int) = true := fun S => ia_21 S (by omega) (by omega)
  have i22 : ∀ {H}, SH H → xia H 0 22 (i : Int) = true := fun S => ia_22 S (by omega) (by omega)
  have i23 : ∀ {H}, SH H → xia H 0 23 (i : Int) = true := fun S => ia_23 S (by omega) (by omega)
  have i170 : ∀ {H}, SH H → ∀ k : Nat, k < 14 → xia H 0 170 (k : Int) = true := fun S k hk => ia_170 S (by omega) (by omega)
  obtain ⟨B1, e1⟩ : ∃ z, z = xset H 170 7 (i : Int) := ⟨_, rfl⟩
  have Q1 : QC h B1 s := by rw [e1]; exact Q.set hs
  obtain ⟨B2, e2⟩ : ∃ z, z = xset B1 170 1 (xm h 206 (36 + (i * 6 + a))) := ⟨_, rfl⟩
  have Q2 : QC h B2 s := by rw [e2]; exact Q1.set hs
  obtain ⟨B3, e3⟩ : ∃ z, z = xset B2 170 2 (if xm h 212 (1 + 9 * i + 1) = (a : Int) then 1 else 0) := ⟨_, rfl⟩
  have Q3 : QC h B3 s := by rw [e3]; exact Q2.set hs
  obtain ⟨B4, e4⟩ : ∃ z, z = xset B3 170 3 (xm h 201 (6 + a)) := ⟨_, rfl⟩
  have Q4 : QC h B4 s := by rw [e4]; exact Q3.set hs
  obtain ⟨B5, e5⟩ : ∃ z, z = xset B4 170 5 (xm h 212 (1 + 9 * i + 2)) := ⟨_, rfl⟩
  have Q5 : QC h B5 s := by rw [e5]; exact Q4.set hs
  obtain ⟨B6, e6⟩ : ∃ z, z = xset B5 170 6 (xm h 212 0) := ⟨_, rfl⟩
  have Q6 : QC h B6 s := by rw [e6]; exact Q5.set hs
  have QF : ∀ t, QC h (fl170 B6 (fq h n i) t) s := by
    intro t
    induction t with
    | zero => exact Q6
    | succ t ih => exact ih.set hs
  have c1 := Q1.cs cs
  have c3 := Q3.cs cs
  have lp := xit_seq (f := fun u : Int × xa_H => f_X11_findFacts_L98 0 (i : Int) u.1 u.2) (fun t => ((t : Int), fl170 B6 (fq h n i) t)) 6 (fl170 B6 (fq h n i) 6) (fun t ht => by
    have Qt := QF t
    have St := Qt.1
    have ct := Qt.cs cs
    have s2 : xm (fl170 B6 (fq h n i) t) s 2 = (n : Int) := by rw [Qt.2.2.2 _ _ (by omega), C.2.2.2.2.2.2.1, en]
    show f_X11_findFacts_L98 0 (i : Int) (t : Int) _ = _
    unfold f_X11_findFacts_L98
    rw [if_pos (by omega), g0k St, pt_0_14 St, g0k St, x05 Qt, gCS ct, s2]
    by_cases y : t < n
    · have v24 : xm (fl170 B6 (fq h n i) t) 24 (i * 6 + t) = fq h n i (8 + t) := by
        rw [Qt.2.2.2 _ _ (by omega), rn_met N (by omega) (by omega), fq_m y]
      rw [if_pos (by omega), g0k St, pt_0_6 St]
      refine (bnd (xgf_eq (a := 20) (ok_20 St) (pt_20_4 St))).trans ?_
      rw [wX6 (by omega) (by omega)]
      refine (bnd (xal_eq (a := 24) (ia_24 St (by omega) (by omega)) v24)).trans ?_
      rw [wP8 (by omega)]
      refine (bnd (xas_eq (a := 170) (i170 St (8 + t) (by omega)))).trans ?_
      rw [wS (by omega)]
      rfl
    · have v0 : fq h n i (8 + t) = 0 := fq_o y
      rw [if_neg (by omega), wP8 (by omega)]
      refine (bnd (xas_eq (a := 170) (i170 St (8 + t) (by omega)))).trans ?_
      rw [wS (by omega), ← v0]
      rfl) (by
    show f_X11_findFacts_L98 0 (i : Int) ((6 : Nat) : Int) _ = _
    unfold f_X11_findFacts_L98
    rw [if_neg (by decide)]) (by omega)
  have J : ∀ z, z = (if xm h 212 (1 + 9 * i + 1) = (a : Int) then (1 : Int) else 0) → f_X11_findFacts_J51 0 (i : Int) (a : Int) 170 2 z B2 = some (fl170 B6 (fq h n i) 6) := by
    intro z hz
    unfold f_X11_findFacts_J51
    refine (bnd (xas_eq (a := 170) (i := 2) (i170 Q2.1 2 (by omega)))).trans ?_
    rw [hz, ← e3, g0k Q3.1, pt_0_14 Q3.1, g0k Q3.1, x05 Q3, gCS c3, cs_p7 c3]
    refine (bnd (xal_eq (v := xm h 201 (6 + a)) (cs_ia3 c3 (by omega) (by omega)) (by rw [Q3.2.2.2 _ _ (by omega)]; exact rc_salt C am))).trans ?_
    refine (bnd (xas_eq (a := 170) (i := 3) (i170 Q3.1 3 (by omega)))).trans ?_
    rw [← e4, g0k Q4.1, pt_0_14 Q4.1, g0k Q4.1, pt_0_6 Q4.1]
    refine (bnd (xgf_eq (a := 20) (ok_20 Q4.1) (pt_20_3 Q4.1))).trans ?_
    refine (bnd (xal_eq (a := 23) (v := xm h 212 (1 + 9 * i + 2)) (i23 Q4.1) (by rw [Q4.2.2.2 _ _ (by omega), rn_purse N (by omega)]))).trans ?_
    refine (bnd (xas_eq (a := 170) (i := 5) (i170 Q4.1 5 (by omega)))).trans ?_
    rw [← e5, g0k Q5.1, pt_0_14 Q5.1, g0k Q5.1, pt_0_6 Q5.1]
    refine (bnd (xgf_eq (a := 20) (v := xm h 212 0) (ok_20 Q5.1) (by rw [Q5.2.2.2 _ _ (by omega), rn_night N]))).trans ?_
    refine (bnd (xas_eq (a := 170) (i := 6) (i170 Q5.1 6 (by omega)))).trans ?_
    rw [← e6]
    exact (bnd lp).trans rfl
  have mF : ∀ a k, a ≠ 170 → xm (fl170 B6 (fq h n i) 6) a k = xm H a k := fun a k y => by
    rw [fl170_m, if_neg (by omega), e6, xm_xset, if_neg (by omega), e5, xm_xset, if_neg (by omega), e4, xm_xset, if_neg (by omega), e3, xm_xset, if_neg (by omega), e2, xm_xset, if_neg (by omega), e1, xm_xset, if_neg (by omega)]
  refine ⟨fl170 B6 (fq h n i) 6, ?_, mF, ?_, (QF 6).1, fun k hk k0 k4 => ?_⟩
  · unfold f_X11_findFacts
    rw [g0k S0, pt_0_6 S0]
    refine (bnd (xgf_eq (a := 20) (ok_20 S0) (pt_20_1 S0))).trans ?_
    refine (bnd (xal_eq (a := 21) (i21 S0) (x21 Q))).trans ?_
    rw [g0k S0, pt_0_14 S0]
    refine (bnd (xas_eq (a := 170) (i := 7) (i170 S0 7 (by omega)))).trans ?_
    rw [← e1, g0k Q1.1, pt_0_14 Q1.1, g0k Q1.1, x05 Q1]
    refine (bnd (v := xm h 206 (36 + (i * 6 + a))) ?_).trans ?_
    · rw [show xrc B1 0 (s : Int) (f_X0_valueOf (s : Int) (i : Int) (a : Int) B1) = f_X0_valueOf (s : Int) (i : Int) (a : Int) B1 from if_pos c1.ok]
      unfold f_X0_valueOf
      rw [gCS c1, cs_p9 c1, wX6 (by omega) (by omega)]
      refine (bnd (xal_eq (v := xm h 206 (36 + (i * 6 + a))) (cs_ia5 c1 (by omega) (by omega)) ?_)).trans rfl
      rw [Q1.2.2.2 _ _ (by omega)]
      exact rc_value C (by omega)
    refine (bnd (xas_eq (a := 170) (i := 1) (i170 Q1.1 1 (by omega)))).trans ?_
    rw [← e2, g0k Q2.1, pt_0_14 Q2.1, x0o Q2.1]
    have st : f_X11_isSettled 0 (i : Int) B2 = some (if (a : Int) = xm h 212 (1 + 9 * i + 1) then 1 else 0) := by
      unfold f_X11_isSettled
      rw [g0k Q2.1, pt_0_6 Q2.1]
      refine (bnd (xgf_eq (a := 20) (ok_20 Q2.1) (pt_20_1 Q2.1))).trans ?_
      refine (bnd (xal_eq (a := 21) (i21 Q2.1) (x21 Q2))).trans ?_
      rw [g0k Q2.1, pt_0_6 Q2.1]
      refine (bnd (xgf_eq (a := 20) (ok_20 Q2.1) (pt_20_2 Q2.1))).trans ?_
      refine (bnd (xal_eq (a := 22) (i22 Q2.1) (x22 Q2))).trans ?_
      split <;> rfl
    rw [st, bbind, iff01]
    by_cases y : (a : Int) = xm h 212 (1 + 9 * i + 1)
    · rw [if_pos y]
      exact J 1 (by rw [if_pos y.symm])
    · rw [if_neg y]
      exact J 0 (by rw [if_neg (fun z => y z.symm)])
  · obtain ⟨f1, f2, f3⟩ := fl170_n B6 (fq h n i) 6
    exact ⟨by rw [f1, e6, e5, e4, e3, e2, e1]; rfl, by rw [f2, e6, e5, e4, e3, e2, e1]; rfl, by rw [f3, e6, e5, e4, e3, e2, e1]; rfl⟩
  · rw [fl170_m]
    by_cases y : 8 ≤ k
    · rw [if_pos (by omega)]
    · rw [if_neg (by omega)]
      have : k = 1 ∨ k = 2 ∨ k = 3 ∨ k = 5 ∨ k = 6 ∨ k = 7 := by omega
      rcases this with rfl | rfl | rfl | rfl | rfl | rfl
      · rw [fq_1 ea, e6, xm_xset, if_neg (by omega), e5, xm_xset, if_neg (by omega), e4, xm_xset, if_neg (by omega), e3, xm_xset, if_neg (by omega), e2, xm_xset, if_pos ⟨rfl, rfl⟩]
      · rw [fq_2 ea, e6, xm_xset, if_neg (by omega), e5, xm_xset, if_neg (by omega), e4, xm_xset, if_neg (by omega), e3, xm_xset, if_pos ⟨rfl, rfl⟩]
      · rw [fq_3 ea, e6, xm_xset, if_neg (by omega), e5, xm_xset, if_neg (by omega), e4, xm_xset, if_pos ⟨rfl, rfl⟩]
      · rw [fq_5, e6, xm_xset, if_neg (by omega), e5, xm_xset, if_pos ⟨rfl, rfl⟩]
      · rw [fq_6, e6, xm_xset, if_pos ⟨rfl, rfl⟩]
      · rw [fq_7, e6, xm_xset, if_neg (by omega), e5, xm_xset, if_neg (by omega), e4, xm_xset, if_neg (by omega), e3, xm_xset, if_neg (by omega), e2, xm_xset, if_neg (by omega), e1, xm_xset, if_pos ⟨rfl, rfl⟩]
