/-! ===== the whole relation ===== -/
/-- the class's code of a code of the reference -/
def cof (r : Int) : Int := if 1000 ≤ r then r - 1000 else if r = 60 then -10 else if 40 ≤ r then 39 - r else if r = 13 then 1 else if r = 12 then -9 else -10 - r
/-- codes that there are, in a ring (false) or in a question (true) -/
def vcode (q : Bool) (r : Int) : Prop := (1000 ≤ r ∧ r ≤ 10999) ∨ (40 ≤ r ∧ r ≤ 47 ∧ (if q then r ≠ 40 ∧ r ≠ 44 else r ≠ 47)) ∨ (1 ≤ r ∧ r ≤ 13) ∨ (q = true ∧ r = 60)
/-- what kinds of worth lie on the pile: true for a test's -/
def tstep (st : List Bool) (r : Int) : Option (List Bool) :=
  if 1000 ≤ r then (if st.length < 60 then some (false :: st) else none)
  else if r = 60 then (match st with | false :: t => some (false :: t) | _ => none)
  else if 40 ≤ r then (if st.length < 60 then some (false :: st) else none)
  else if r = 13 then (if st.length < 60 then some (true :: st) else none)
  else if r = 12 then (match st with | true :: t => some (true :: t) | _ => none)
  else if 10 ≤ r then (match st with | true :: true :: t => some (true :: t) | _ => none)
  else if 7 ≤ r then (match st with | false :: false :: t => some (true :: t) | _ => none)
  else (match st with | false :: false :: t => some (false :: t) | _ => none)
def trun (c : Nat → Int) : Nat → List Bool → Option (List Bool)
  | 0, st => some st
  | n + 1, st => (trun c n st).bind fun s => tstep s (c n)
/-- a formula of the class -/
def FS (h : xa_H) (F L : Nat) : Prop := 249 ≤ F ∧ F + 3 ≤ xn h ∧ xk h F = (12, 2) ∧ xk h (F + 1) = (0, L) ∧ xk h (F + 2) = (0, 64) ∧ xm h F 0 = ((F + 1 : Nat) : Int) ∧ xm h F 1 = ((F + 2 : Nat) : Int)
/-- a formula of the case: none in both, or the same codes -/
def RFo (h : xa_H) (s w F : Nat) : Prop := (xm h s (11 + w) = -1 ∧ xm h 209 (2 + w) = -1) ∨
  (xm h s (11 + w) = (F : Int) ∧ s + 13 ≤ F ∧ ∃ L a : Nat, FS h F L ∧ xm h 209 (2 + w) = (a : Int) ∧ xm h 210 (2 + w) = ((a + L : Nat) : Int) ∧ a + L ≤ 1600 ∧
    (∀ i, i < L → xm h (F + 1) i = cof (xm h 211 (1600 + a + i)) ∧ vcode false (xm h 211 (1600 + a + i))) ∧ trun (fun i => xm h 211 (1600 + a + i)) L [] = some [decide (w = 0)])
def RFs (h : xa_H) (s F1 F2 : Nat) : Prop := RFo h s 0 F1 ∧ RFo h s 1 F2 ∧ (F1 + 3 ≤ F2 ∨ F2 + 3 ≤ F1) ∧ 249 ≤ F1 ∧ 249 ≤ F2
def DRt (a k : Nat) : Bool := a == 1 || a == 174 || (a == 0 && k == 1) || (a == 173 && k == 1)
def DRr (a _k : Nat) : Bool := a == 172 || a == 175
def DRf (a k : Nat) : Bool := (a == 2 && (k == 9 || k == 10)) || (a == 173 && (k == 7 || k == 8))
def DRc (s a k : Nat) : Prop := (a = 0 ∧ k = 5) ∨ (a = 199 ∧ 3 ≤ k) ∨ a = 208 ∨ a = 201 ∨ a = 202 ∨ a = 206 ∨ a = 207 ∨ a = 200 ∨ (s ≤ a ∧ a < s + 13)
def DRF (s F1 F2 a k : Nat) : Prop := (a = s ∧ 11 ≤ k) ∨ (a = 209 ∧ 2 ≤ k) ∨ (a = 210 ∧ 2 ≤ k) ∨ (a = 211 ∧ 1600 ≤ k) ∨ a = F1 ∨ a = F1 + 1 ∨ a = F2 ∨ a = F2 + 1
def DRn (a k : Nat) : Bool := (Nat.ble 20 a && Nat.ble a 25) || a == 212 || (a == 199 && Nat.ble 3 k)
def DRh (a k : Nat) : Bool := (a == 26 && (k == 1 || k == 2)) || (Nat.ble 28 a && Nat.ble a 147) || a == 224 || (a == 199 && Nat.ble 3 k) || (a == 173 && (k == 74 || k == 75))
def DRj (a k : Nat) : Bool := (a == 148 && (k == 1 || k == 3)) || a == 150 || (a == 173 && (k == 60 || k == 61 || k == 62))
def DRi (a k : Nat) : Bool := (a == 0 && k == 16) || a == 171 || a == 248 || (a == 173 && k == 108)
def DRs (a k : Nat) : Bool := (a == 0 && k == 18) || (a == 173 && k == 76)
theorem Rt.mv {h h' : xa_H} (R : Rt h) (e : agr DRt h h') : Rt h' := by
  obtain ⟨h1, h2, h3, h4⟩ := R
  have e1 := e 0 1 rfl
  have e2 := e 173 1 rfl
  refine ⟨fun k hk => ?_, by rw [e1, e2]; exact h2, by rw [e2]; exact h3, by rw [e2]; exact h4⟩
  rw [e 1 k rfl, e 174 k rfl]
  exact h1 k hk
theorem Rr.mv {h h' : xa_H} (R : Rr h) (e : agr DRr h h') : Rr h' := fun k hk => by
  rw [e 172 k rfl, e 175 k rfl]
  exact R k hk
theorem Rf.mv {h h' : xa_H} (R : Rf h) (e : agr DRf h h') : Rf h' := by
  unfold Rf
  rw [e 2 9 rfl, e 2 10 rfl, e 173 7 rfl, e 173 8 rfl]
  exact R
theorem CS.mv {h h' : xa_H} {s : Nat} (R : CS h s) (hn : xn h ≤ xn h') (hk : ∀ a, a < xn h → xk h' a = xk h a) (e : ∀ a k, s ≤ a → a < s + 13 → xm h' a k = xm h a k) : CS h' s := by
  obtain ⟨h1, h2, h3, h4, h5, h6⟩ := R
  refine ⟨h1, by omega, fun j hj => ?_, fun j hj => ?_, ?_, fun j hj => ?_⟩
  · rw [hk _ (by omega)]; exact h3 j hj
  · rw [e _ _ (by omega) (by omega)]; exact h4 j hj
  · rw [e _ _ (by omega) (by omega)]; exact h5
  · rw [e _ _ (by omega) (by omega)]; exact h6 j hj
theorem Rc.mv {h h' : xa_H} {s : Nat} (R : Rc h s) (hn : xn h ≤ xn h') (hk : ∀ a, a < xn h → xk h' a = xk h a) (e : ∀ a k, DRc s a k → xm h' a k = xm h a k) : Rc h' s := by
  obtain ⟨h1, h2, h3, h4, h5, h6, h7, h8, h9, h10, h11, h12, h13, h14, h15, h16⟩ := R
  have n3 := e 199 3 (by unfold DRc; omega)
  have n4 := e 199 4 (by unfold DRc; omega)
  have n5 := e 199 5 (by unfold DRc; omega)
  have f1 := e 208 1 (by unfold DRc; omega)
  have ee : ∀ a k, s ≤ a → a < s + 13 → xm h' a k = xm h a k := fun a k q1 q2 => e a k (by unfold DRc; omega)
  refine ⟨by rw [e 0 5 (by unfold DRc; omega)]; exact h1, h2.mv hn hk ee, by rw [n3]; exact h3, by rw [n4]; exact h4, by rw [f1]; exact h5, ?_, ?_, ?_, ?_, ?_, ?_, ?_, ?_, ?_, ?_, ?_⟩
  · rw [ee _ _ (by omega) (by omega), n3]; exact h6
  · rw [ee _ _ (by omega) (by omega), n4]; exact h7
  · rw [ee _ _ (by omega) (by omega), n5]; exact h8
  · rw [ee _ _ (by omega) (by omega), f1]; exact h9
  · rw [n3]; intro i hi; rw [ee _ _ (by omega) (by omega), e 201 _ (by unfold DRc; omega)]; exact h10 i hi
  · rw [n3]; intro i hi; rw [ee _ _ (by omega) (by omega), e 202 _ (by unfold DRc; omega)]; exact h11 i hi
  · intro i hi; rw [ee _ _ (by omega) (by omega), e 206 _ (by unfold DRc; omega)]; exact h12 i hi
  · intro i hi; rw [ee _ _ (by omega) (by omega), e 207 _ (by unfold DRc; omega)]; exact h13 i hi
  · intro i j hi hj; rw [e 207 _ (by unfold DRc; omega), e 207 _ (by unfold DRc; omega)]; exact h14 i j hi hj
  · rw [n3]; intro i hi; rw [ee _ _ (by omega) (by omega), e 200 _ (by unfold DRc; omega)]; exact h15 i hi
  · rw [n4]; intro i hi; rw [ee _ _ (by omega) (by omega), e 200 _ (by unfold DRc; omega)]; exact h16 i hi
theorem trun_congr {c c' : Nat → Int} : ∀ (n : Nat) (st : List Bool), (∀ i, i < n → c i = c' i) → trun c n st = trun c' n st
  | 0, _, _ => rfl
  | n + 1, st, h => by
    simp only [trun]
    rw [trun_congr n st (fun i hi => h i (by omega)), h n (by omega)]
theorem FS.mv {h h' : xa_H} {F L : Nat} (R : FS h F L) (hn : xn h ≤ xn h') (hk : ∀ a, a < xn h → xk h' a = xk h a) (e : ∀ k, xm h' F k = xm h F k) : FS h' F L := by
  obtain ⟨h1, h2, h3, h4, h5, h6, h7⟩ := R
  refine ⟨h1, by omega, by rw [hk _ (by omega)]; exact h3, by rw [hk _ (by omega)]; exact h4, by rw [hk _ (by omega)]; exact h5, by rw [e]; exact h6, by rw [e]; exact h7⟩
theorem RFo.mv {h h' : xa_H} {s w F : Nat} (R : RFo h s w F) (hn : xn h ≤ xn h') (hk : ∀ a, a < xn h → xk h' a = xk h a) (e : ∀ a k, (a = s ∧ 11 ≤ k) ∨ (a = 209 ∧ 2 ≤ k) ∨ (a = 210 ∧ 2 ≤ k) ∨ (a = 211 ∧ 1600 ≤ k) ∨ a = F ∨ a = F + 1 → xm h' a k = xm h a k) : RFo h' s w F := by
  have e1 := e s (11 + w) (by omega)
  have e2 := e 209 (2 + w) (by omega)
  have e3 := e 210 (2 + w) (by omega)
  rcases R with ⟨h1, h2⟩ | ⟨h1, h2, L, a, h3, h4, h5, h6, h7, h8⟩
  · exact Or.inl ⟨by rw [e1]; exact h1, by rw [e2]; exact h2⟩
  · refine Or.inr ⟨by rw [e1]; exact h1, h2, L, a, h3.mv hn hk (fun k => e F k (by omega)), by rw [e2]; exact h4, by rw [e3]; exact h5, h6, fun i hi => ?_, ?_⟩
    · rw [e _ _ (by omega), e 211 _ (by omega)]; exact h7 i hi
    · rw [← h8]; exact trun_congr _ _ (fun i hi => e 211 _ (by omega))
theorem RFs.mv {h h' : xa_H} {s F1 F2 : Nat} (R : RFs h s F1 F2) (hn : xn h ≤ xn h') (hk : ∀ a, a < xn h → xk h' a = xk h a) (e : ∀ a k, DRF s F1 F2 a k → xm h' a k = xm h a k) : RFs h' s F1 F2 :=
  ⟨R.1.mv hn hk (fun a k q => e a k (by unfold DRF; omega)), R.2.1.mv hn hk (fun a k q => e a k (by unfold DRF; omega)), R.2.2⟩
theorem RSt.mv {h h' : xa_H} {sa ra ro : Nat} (R : RSt h sa ra ro) (e1 : ∀ a k, sa ≤ a → a < sa + 6 → xm h' a k = xm h a k) (e2 : ∀ k, xm h' ra k = xm h ra k) : RSt h' sa ra ro := by
  obtain ⟨h1, h2, h3, h4, h5, h6, h7⟩ := R
  refine ⟨?_, fun i hi => ?_, fun i hi => ?_, fun i hi => ?_, fun i j hi hj => ?_, ?_, ?_⟩
  · rw [e1 _ _ (by omega) (by omega), e2]; exact h1
  · rw [e1 _ _ (by omega) (by omega), e2]; exact h2 i hi
  · rw [e1 _ _ (by omega) (by omega), e2]; exact h3 i hi
  · rw [e1 _ _ (by omega) (by omega), e2]; exact h4 i hi
  · rw [e1 _ _ (by omega) (by omega), e2]; exact h5 i j hi hj
  · rw [e1 _ _ (by omega) (by omega), e2]; exact h6
  · simp only [e2]; intro k hk; rw [e1 _ _ (by omega) (by omega)]; exact h7 k hk
theorem VS.mv {h h' : xa_H} {ra ro : Nat} {n m : Int} (R : VS h ra ro n m) (e2 : ∀ k, xm h' ra k = xm h ra k) : VS h' ra ro n m := by
  unfold VS
  simp only [e2]
  exact R
theorem Rn.mv {h h' : xa_H} (R : Rn h) (e : agr DRn h h') : Rn h' := by
  refine ⟨R.1.mv (fun a k q1 q2 => e a k (by simp [DRn]; omega)) (fun k => e 212 k rfl), ?_⟩
  rw [e 199 3 rfl, e 199 4 rfl]
  exact R.2.mv (fun k => e 212 k rfl)
theorem Rh.mv {h h' : xa_H} (R : Rh h) (e : agr DRh h h') : Rh h' := by
  unfold Rh
  rw [e 26 1 rfl, e 26 2 rfl, e 173 75 rfl, e 173 74 rfl, e 199 3 rfl, e 199 4 rfl]
  obtain ⟨h1, h2, h3, h4, h5⟩ := R
  refine ⟨h1, h2, h3, h4, fun q hq hl => ?_⟩
  obtain ⟨g1, g2⟩ := h5 q hq hl
  exact ⟨g1.mv (fun a k q1 q2 => e a k (by simp [DRh]; omega)) (fun k => e 224 k rfl), g2.mv (fun k => e 224 k rfl)⟩
theorem Rj.mv {h h' : xa_H} (R : Rj h) (e : agr DRj h h') : Rj h' := by
  unfold Rj
  rw [e 173 60 rfl, e 173 61 rfl, e 173 62 rfl, e 148 1 rfl, e 148 3 rfl, xsum_congr (F := fun k => xm h' 150 k) (F' := fun k => xm h 150 k) _ (fun j _ => e 150 j rfl)]
  exact R
theorem Ri.mv {h h' : xa_H} (R : Ri h) (e : agr DRi h h') : Ri h' := by
  unfold Ri
  rw [e 0 16 rfl, e 173 108 rfl]
  refine ⟨R.1, R.2.1, fun k hk => ?_⟩
  rw [e 171 k rfl, e 248 k rfl]
  exact R.2.2 k hk
theorem Rs.mv {h h' : xa_H} (R : Rs h) (e : agr DRs h h') : Rs h' := by
  unfold Rs
  rw [e 0 18 rfl, e 173 76 rfl]
  exact R
