/-! ===== a ring of the class ===== -/
def isQ (q : Nat) : Prop := q = 148 ∨ q = 153
theorem q_ok {h : xa_H} (S : SH h) {q : Nat} (hq : isQ q) : xok h 7 (q : Int) = true := by
  rcases hq with rfl | rfl
  · exact ok_148 S
  · exact ok_153 S
theorem gQ {β : Type} {h : xa_H} (S : SH h) {q : Nat} (hq : isQ q) (k : Nat) (f : Int → Option β) : (xgf h 7 k (q : Int)).bind f = f (xm h q k) := bnd (xgf_eq (q_ok S hq) rfl)
theorem q_0 {h : xa_H} (S : SH h) {q : Nat} (hq : isQ q) : xm h q 0 = ((q + 1 : Nat) : Int) := by
  rcases hq with rfl | rfl
  · exact pt_148_0 S
  · exact pt_153_0 S
theorem q_4 {h : xa_H} (S : SH h) {q : Nat} (hq : isQ q) : xm h q 4 = ((q + 2 : Nat) : Int) := by
  rcases hq with rfl | rfl
  · exact pt_148_4 S
  · exact pt_153_4 S
theorem q_5 {h : xa_H} (S : SH h) {q : Nat} (hq : isQ q) : xm h q 5 = ((q + 3 : Nat) : Int) := by
  rcases hq with rfl | rfl
  · exact pt_148_5 S
  · exact pt_153_5 S
theorem q_6 {h : xa_H} (S : SH h) {q : Nat} (hq : isQ q) : xm h q 6 = ((q + 4 : Nat) : Int) := by
  rcases hq with rfl | rfl
  · exact pt_148_6 S
  · exact pt_153_6 S
theorem q_i1 {h : xa_H} (S : SH h) {q : Nat} (hq : isQ q) {i : Nat} (hi : i < 6) : xia h 0 ((q + 1 : Nat) : Int) (i : Int) = true := by
  rcases hq with rfl | rfl
  · exact ia_149 S (by omega) (by omega)
  · exact ia_154 S (by omega) (by omega)
theorem q_i2 {h : xa_H} (S : SH h) {q : Nat} (hq : isQ q) {i : Nat} (hi : i < 6) : xia h 0 ((q + 2 : Nat) : Int) (i : Int) = true := by
  rcases hq with rfl | rfl
  · exact ia_150 S (by omega) (by omega)
  · exact ia_155 S (by omega) (by omega)
theorem q_i3 {h : xa_H} (S : SH h) {q : Nat} (hq : isQ q) {i : Nat} (hi : i < 6) : xia h 0 ((q + 3 : Nat) : Int) (i : Int) = true := by
  rcases hq with rfl | rfl
  · exact ia_151 S (by omega) (by omega)
  · exact ia_156 S (by omega) (by omega)
theorem q_i4 {h : xa_H} (S : SH h) {q : Nat} (hq : isQ q) {i : Nat} (hi : i < 14) : xia h 0 ((q + 4 : Nat) : Int) (i : Int) = true := by
  rcases hq with rfl | rfl
  · exact ia_152 S (by omega) (by omega)
  · exact ia_157 S (by omega) (by omega)
theorem xQ {α β : Type} {h : xa_H} (S : SH h) {q : Nat} (hq : isQ q) (E : Option α) (f : α → Option β) : (xrc h 7 (q : Int) E).bind f = E.bind f := by rw [show xrc h 7 (q : Int) E = E from if_pos (q_ok S hq)]
theorem q_nf {q a k : Nat} (hq : isQ q) (ha : (a = q ∧ (k = 1 ∨ k = 2 ∨ k = 3)) ∨ (q + 1 ≤ a ∧ a ≤ q + 4)) : fixd a k = false := by
  rcases hq with rfl | rfl
  · rcases ha with ⟨rfl, rfl | rfl | rfl⟩ | ⟨a1, a2⟩
    · decide +kernel
    · decide +kernel
    · decide +kernel
    · have : a = 149 ∨ a = 150 ∨ a = 151 ∨ a = 152 := by omega
      rcases this with rfl | rfl | rfl | rfl <;> exact fixd_of (by decide +kernel)
  · rcases ha with ⟨rfl, rfl | rfl | rfl⟩ | ⟨a1, a2⟩
    · decide +kernel
    · decide +kernel
    · decide +kernel
    · have : a = 154 ∨ a = 155 ∨ a = 156 ∨ a = 157 := by omega
      rcases this with rfl | rfl | rfl | rfl <;> exact fixd_of (by decide +kernel)
/-- nothing but the ring's cells changes -/
def CG (q F1 F2 : Nat) (H H' : xa_H) : Prop := xn H' = xn H ∧ xz H' = xz H ∧ xk H' = xk H ∧ ∀ a k, ¬ DG7 q F1 F2 a k → xm H' a k = xm H a k
theorem CG.refl (q F1 F2 : Nat) (H : xa_H) : CG q F1 F2 H H := ⟨rfl, rfl, rfl, fun _ _ _ => rfl⟩
theorem CG.tr {q F1 F2 : Nat} {H H' H'' : xa_H} (a : CG q F1 F2 H H') (b : CG q F1 F2 H' H'') : CG q F1 F2 H H'' := ⟨b.1.trans a.1, b.2.1.trans a.2.1, b.2.2.1.trans a.2.2.1, fun x k hd => (b.2.2.2 x k hd).trans (a.2.2.2 x k hd)⟩
theorem CG.set {q F1 F2 : Nat} {H H' : xa_H} (e : CG q F1 F2 H H') {a k : Nat} {v : Int} (hd : DG7 q F1 F2 a k) : CG q F1 F2 H (xset H' a k v) := ⟨e.1, e.2.1, e.2.2.1, fun x j y => by
  rw [xm_xset, if_neg]
  · exact e.2.2.2 x j y
  · rintro ⟨rfl, rfl⟩
    exact y hd⟩
/-- what stands while a ring is judged -/
def RG (h G H : xa_H) (s F1 F2 n m q r : Nat) (ρ : Nat → Nat) : Prop := CV h H s F1 F2 ∧ ST H G n m ∧ isQ q ∧ (2 ≤ r ∧ r ≤ 6) ∧ xm H q 1 = (r : Int) ∧ ∀ i, i < r → xm H (q + 1) i = (ρ i : Int) ∧ ρ i < n
theorem RFs.far {h : xa_H} {s F1 F2 : Nat} (FF : RFs h s F1 F2) : 249 ≤ F1 ∧ 249 ≤ F2 ∧ (F1 + 3 ≤ F2 ∨ F2 + 3 ≤ F1) := ⟨FF.2.2.2.1, FF.2.2.2.2, FF.2.2.1⟩
/-- the case -/
def KX (h : xa_H) (s F1 F2 n m : Nat) : Prop := Rc h s ∧ RFs h s F1 F2 ∧ s + 13 ≤ F1 ∧ s + 13 ≤ F2 ∧ xm h 199 4 = (n : Int) ∧ xm h 199 3 = (m : Int)
theorem CG.sh {q F1 F2 : Nat} {H H' : xa_H} (e : CG q F1 F2 H H') (hq : isQ q) (f1 : 249 ≤ F1) (f2 : 249 ≤ F2) (S : SH H) : SH H' := by
  refine S.fixed (by rw [e.1]; exact S.1) (fun a _ => by rw [e.2.2.1]) (fun a k hf => e.2.2.2 a k (fun hd => ?_))
  have lt := fix_lt hf
  unfold DG7 at hd
  have : fixd a k = false := q_nf hq (by omega)
  rw [this] at hf
  cases hf
theorem CV.cg {h H H' : xa_H} {s F1 F2 n m q : Nat} (K : KX h s F1 F2 n m) (Q : CV h H s F1 F2) (hq : isQ q) (e : CG q F1 F2 H H') : CV h H' s F1 F2 := by
  obtain ⟨C, FF, f1, f2, -⟩ := K
  obtain ⟨g1, g2, g3⟩ := FF.far
  have cs := C.2.1.1
  have hq' : q = 148 ∨ q = 153 := hq
  refine ⟨e.sh hq g1 g2 Q.1, e.1.trans Q.2.1, e.2.2.1.trans Q.2.2.1, fun a k hd => ?_⟩
  rw [e.2.2.2 a k (by unfold DG7; omega)]
  exact Q.2.2.2 a k hd
theorem ST.cg {h H H' G : xa_H} {s F1 F2 n m q : Nat} (K : KX h s F1 F2 n m) (R : ST H G n m) (hq : isQ q) (e : CG q F1 F2 H H') : ST H' G n m := by
  obtain ⟨g1, g2, g3⟩ := K.2.1.far
  have hq' : q = 148 ∨ q = 153 := hq
  have ec : ∀ a k, 20 ≤ a → a < 26 → xm H' a k = xm H a k := fun a k y1 y2 => e.2.2.2 a k (by unfold DG7; omega)
  obtain ⟨⟨r1, r2, r3, r4, r5, r6, r7⟩, v⟩ := R
  refine ⟨⟨?_, fun i hi => ?_, fun i hi => ?_, fun i hi => ?_, fun i j hi hj => ?_, ?_, fun k hk => ?_⟩, v⟩
  · rw [ec _ _ (by omega) (by omega)]; exact r1
  · rw [ec _ _ (by omega) (by omega)]; exact r2 i hi
  · rw [ec _ _ (by omega) (by omega)]; exact r3 i hi
  · rw [ec _ _ (by omega) (by omega)]; exact r4 i hi
  · rw [ec _ _ (by omega) (by omega)]; exact r5 i j hi hj
  · rw [ec _ _ (by omega) (by omega)]; exact r6
  · rw [ec _ _ (by omega) (by omega)]; exact r7 k hk
theorem RG.cg {h H H' G : xa_H} {s F1 F2 n m q r : Nat} {ρ : Nat → Nat} (K : KX h s F1 F2 n m) (R : RG h G H s F1 F2 n m q r ρ) (e : CG q F1 F2 H H') : RG h G H' s F1 F2 n m q r ρ := by
  obtain ⟨r1, r2, hq, r4, r5, r6⟩ := R
  obtain ⟨g1, g2, g3⟩ := K.2.1.far
  have hq' : q = 148 ∨ q = 153 := hq
  refine ⟨r1.cg K hq e, r2.cg K hq e, hq, r4, ?_, fun i hi => ?_⟩
  · rw [e.2.2.2 _ _ (by unfold DG7; omega)]; exact r5
  · rw [e.2.2.2 _ _ (by unfold DG7; omega)]; exact r6 i hi
def prv (r i : Nat) : Nat := if i = 0 then r - 1 else i - 1
def nxt (r i : Nat) : Nat := if i + 1 < r then i + 1 else 0
theorem prv_lt {r i : Nat} (h : i < r) : prv r i < r := by unfold prv; split <;> omega
theorem nxt_lt {r i : Nat} (h : i < r) : nxt r i < r := by unfold nxt; split <;> omega
theorem s_ahead {h : xa_H} (S : SH h) {q r i : Nat} (hq : isQ q) (er : xm h q 1 = (r : Int)) (hi : i < r) (h6 : r ≤ 6) : f_X7_ahead (q : Int) (i : Int) h = some ((prv r i : Nat) : Int) := by
  unfold f_X7_ahead prv
  by_cases y : i = 0
  · rw [if_neg (by omega), gQ S hq, er, if_pos y, wM1 (by omega), show (r : Int) - 1 = ((r - 1 : Nat) : Int) by omega]
  · rw [if_pos (by omega), if_neg y, wM1 (by omega), show (i : Int) - 1 = ((i - 1 : Nat) : Int) by omega]
theorem s_behind {h : xa_H} (S : SH h) {q r i : Nat} (hq : isQ q) (er : xm h q 1 = (r : Int)) (hi : i < r) (h6 : r ≤ 6) : f_X7_behind (q : Int) (i : Int) h = some ((nxt r i : Nat) : Int) := by
  unfold f_X7_behind nxt
  rw [gQ S hq, er, wS (by omega)]
  by_cases y : i + 1 < r
  · rw [if_pos (by omega), if_pos y]
  · rw [if_neg (by omega), if_neg y]
    rfl
theorem c_value {h H : xa_H} {s F1 F2 n m : Nat} (K : KX h s F1 F2 n m) (Q : CV h H s F1 F2) {i a : Nat} (hi : i < 6) (ha : a < 6) : f_X0_valueOf (s : Int) (i : Int) (a : Int) H = some (xm h 206 (36 + (i * 6 + a))) := by
  have c1 := Q.cs K.1.2.1
  unfold f_X0_valueOf
  rw [gCS c1, cs_p9 c1, wX6 (by omega) (by omega)]
  refine (bnd (xal_eq (v := xm h 206 (36 + (i * 6 + a))) (cs_ia5 c1 (by omega) (by omega)) ?_)).trans rfl
  rw [Q.2.2.2 _ _ (Or.inl ⟨by omega, by omega⟩)]
  exact rc_value K.1 (by omega)
theorem q_facts {h G H : xa_H} {s F1 F2 n m q r : Nat} {ρ : Nat → Nat} (K : KX h s F1 F2 n m) (R : RG h G H s F1 F2 n m q r ρ) {i : Nat} (hi : i < r) :
    ∃ H', f_X7_findFacts (q : Int) (i : Int) (s : Int) 20 H = some H' ∧ CG q F1 F2 H H' ∧ (∀ k, k < 7 → xm H' (q + 4) k = fr h G (ρ i) (ρ (prv r i)) k) ∧ xm H' (q + 3) i = xm G 212 (1 + 9 * ρ (prv r i)) ∧ (∀ k, k ≠ i → xm H' (q + 3) k = xm H (q + 3) k) ∧ ∀ k, xm H' (q + 2) k = xm H (q + 2) k := by
  have hq := R.2.2.1
  have hq' : q = 148 ∨ q = 153 := hq
  have C := K.1
  have n6 := rc_n C
  have m6 := rc_m C
  have en := K.2.2.2.2.1
  have em := K.2.2.2.2.2
  have r6 := R.2.2.2.1
  have pl := prv_lt hi
  obtain ⟨A, eA⟩ : ∃ A, A = ρ i := ⟨_, rfl⟩
  obtain ⟨B, eB⟩ : ∃ B, B = ρ (prv r i) := ⟨_, rfl⟩
  rw [← eA, ← eB]
  have hA : A < n := by rw [eA]; exact (R.2.2.2.2.2 i hi).2
  have hB : B < n := by rw [eB]; exact (R.2.2.2.2.2 _ pl).2
  have vA := sv_has R.2.1 hA
  have vB := sv_has R.2.1 hB
  obtain ⟨a, ea⟩ : ∃ a : Nat, xm G 212 (1 + 9 * A) = (a : Int) := ⟨(xm G 212 (1 + 9 * A)).toNat, by omega⟩
  obtain ⟨b, eb⟩ : ∃ b : Nat, xm G 212 (1 + 9 * B) = (b : Int) := ⟨(xm G 212 (1 + 9 * B)).toNat, by omega⟩
  obtain ⟨B1, f1⟩ : ∃ z, z = xset H (q + 3) i (b : Int) := ⟨_, rfl⟩
  obtain ⟨B2, f2⟩ : ∃ z, z = xset B1 (q + 4) 0 (xm h 206 (36 + (A * 6 + b))) := ⟨_, rfl⟩
  obtain ⟨B3, f3⟩ : ∃ z, z = xset B2 (q + 4) 1 (xm h 206 (36 + (A * 6 + a))) := ⟨_, rfl⟩
  obtain ⟨B4, f4⟩ : ∃ z, z = xset B3 (q + 4) 2 (if xm G 212 (1 + 9 * A + 1) = (b : Int) then 1 else 0) := ⟨_, rfl⟩
  obtain ⟨B5, f5⟩ : ∃ z, z = xset B4 (q + 4) 3 (xm h 201 (6 + b)) := ⟨_, rfl⟩
  obtain ⟨B6, f6⟩ : ∃ z, z = xset B5 (q + 4) 4 (xm G 212 (1 + 9 * A + 3 + B)) := ⟨_, rfl⟩
  obtain ⟨B7, f7⟩ : ∃ z, z = xset B6 (q + 4) 5 (xm G 212 (1 + 9 * A + 2)) := ⟨_, rfl⟩
  obtain ⟨B8, f8⟩ : ∃ z, z = xset B7 (q + 4) 6 (xm G 212 0) := ⟨_, rfl⟩
  have c1 : CG q F1 F2 H B1 := by rw [f1]; exact (CG.refl _ _ _ _).set (by unfold DG7; omega)
  have c2 : CG q F1 F2 H B2 := by rw [f2]; exact c1.set (by unfold DG7; omega)
  have c3 : CG q F1 F2 H B3 := by rw [f3]; exact c2.set (by unfold DG7; omega)
  have c4 : CG q F1 F2 H B4 := by rw [f4]; exact c3.set (by unfold DG7; omega)
  have c5 : CG q F1 F2 H B5 := by rw [f5]; exact c4.set (by unfold DG7; omega)
  have c6 : CG q F1 F2 H B6 := by rw [f6]; exact c5.set (by unfold DG7; omega)
  have c7 : CG q F1 F2 H B7 := by rw [f7]; exact c6.set (by unfold DG7; omega)
  have c8 : CG q F1 F2 H B8 := by rw [f8]; exact c7.set (by unfold DG7; omega)
  have S0 := R.1.1
  have R1 := R.cg K c1
  have R2 := R.cg K c2
  have R3 := R.cg K c3
  have R4 := R.cg K c4
  have R5 := R.cg K c5
  have R6 := R.cg K c6
  have R7 := R.cg K c7
  have i21 : ∀ {H} (X : Nat), SH H → X < 6 → xia H 0 21 (X : Int) = true := fun X S hX => ia_21 S (by omega) (by omega)
  have i22 : ∀ {H} (X : Nat), SH H → X < 6 → xia H 0 22 (X : Int) = true := fun X S hX => ia_22 S (by omega) (by omega)
  have i23 : ∀ {H} (X : Nat), SH H → X < 6 → xia H 0 23 (X : Int) = true := fun X S hX => ia_23 S (by omega) (by omega)
  have t3 : ∀ {X}, X = B1 ∨ X = B2 ∨ X = B3 ∨ X = B4 → xm X (q + 3) i = (b : Int) := by
    have t1 : xm B1 (q + 3) i = (b : Int) := by rw [f1, xm_xset, if_pos ⟨rfl, rfl⟩]
    have t2 : xm B2 (q + 3) i = (b : Int) := by rw [f2, xm_xset, if_neg (by omega)]; exact t1
    have t3 : xm B3 (q + 3) i = (b : Int) := by rw [f3, xm_xset, if_neg (by omega)]; exact t2
    have t4 : xm B4 (q + 3) i = (b : Int) := by rw [f4, xm_xset, if_neg (by omega)]; exact t3
    rintro X (rfl | rfl | rfl | rfl)
    · exact t1
    · exact t2
    · exact t3
    · exact t4
  have J : ∀ z, z = (if xm G 212 (1 + 9 * A + 1) = (b : Int) then (1 : Int) else 0) → f_X7_findFacts_J96 (q : Int) (i : Int) (s : Int) 20 (A : Int) (B : Int) ((q + 4 : Nat) : Int) 2 z B3 = some B8 := by
    intro z hz
    have k4 := R4.1.cs C.2.1
    unfold f_X7_findFacts_J96
    refine (bnd (xas_eq (i := 2) (q_i4 R3.1.1 hq (by omega)))).trans ?_
    rw [hz, ← f4, gQ R4.1.1 hq, q_6 R4.1.1 hq, gCS k4, cs_p7 k4, gQ R4.1.1 hq, q_5 R4.1.1 hq]
    refine (bnd (xal_eq (q_i3 R4.1.1 hq (by omega)) (t3 (Or.inr (Or.inr (Or.inr rfl)))))).trans ?_
    refine (bnd (xal_eq (v := xm h 201 (6 + b)) (cs_ia3 k4 (by omega) (by omega)) (by rw [R4.1.2.2.2 _ _ (Or.inl ⟨by omega, by omega⟩)]; exact rc_salt C (by omega)))).trans ?_
    refine (bnd (xas_eq (i := 3) (q_i4 R4.1.1 hq (by omega)))).trans ?_
    rw [← f5, gQ R5.1.1 hq, q_6 R5.1.1 hq]
    refine (bnd (xgf_eq (a := 20) (ok_20 R5.1.1) (pt_20_4 R5.1.1))).trans ?_
    rw [wX6 (by omega) (by omega)]
    refine (bnd (xal_eq (a := 24) (v := xm G 212 (1 + 9 * A + 3 + B)) (ia_24 R5.1.1 (by omega) (by omega)) (st_met R5.2.1 (by omega) (by omega)))).trans ?_
    refine (bnd (xas_eq (i := 4) (q_i4 R5.1.1 hq (by omega)))).trans ?_
    rw [← f6, gQ R6.1.1 hq, q_6 R6.1.1 hq]
    refine (bnd (xgf_eq (a := 20) (ok_20 R6.1.1) (pt_20_3 R6.1.1))).trans ?_
    refine (bnd (xal_eq (a := 23) (v := xm G 212 (1 + 9 * A + 2)) (i23 A R6.1.1 (by omega)) (st_purse R6.2.1 (by omega)))).trans ?_
    refine (bnd (xas_eq (i := 5) (q_i4 R6.1.1 hq (by omega)))).trans ?_
    rw [← f7, gQ R7.1.1 hq, q_6 R7.1.1 hq]
    refine (bnd (xgf_eq (a := 20) (ok_20 R7.1.1) (st_night R7.2.1))).trans ?_
    refine (bnd (xas_eq (i := 6) (q_i4 R7.1.1 hq (by omega)))).trans ?_
    rw [← f8]
  refine ⟨B8, ?_, c8, fun k hk => ?_, ?_, fun k hk => ?_, fun k => ?_⟩
  · unfold f_X7_findFacts
    rw [gQ S0 hq, q_0 S0 hq]
    refine (bnd (xal_eq (q_i1 S0 hq (by omega)) (R.2.2.2.2.2 i hi).1)).trans ?_
    rw [← eA, gQ S0 hq, q_0 S0 hq, xQ S0 hq, s_ahead S0 hq R.2.2.2.2.1 hi (by omega), bbind]
    refine (bnd (xal_eq (q_i1 S0 hq (by omega)) (R.2.2.2.2.2 _ pl).1)).trans ?_
    rw [← eB, gQ S0 hq, q_5 S0 hq]
    refine (bnd (xgf_eq (a := 20) (ok_20 S0) (pt_20_1 S0))).trans ?_
    refine (bnd (xal_eq (a := 21) (v := (b : Int)) (i21 B S0 (by omega)) ((st_has R.2.1 (by omega)).trans eb))).trans ?_
    refine (bnd (xas_eq (q_i3 S0 hq (by omega)))).trans ?_
    rw [← f1, gQ R1.1.1 hq, q_6 R1.1.1 hq, gQ R1.1.1 hq, q_5 R1.1.1 hq]
    refine (bnd (xal_eq (q_i3 R1.1.1 hq (by omega)) (t3 (Or.inl rfl)))).trans ?_
    rw [x0S (R1.1.cs C.2.1), c_value K R1.1 (by omega) (by omega), bbind]
    refine (bnd (xas_eq (i := 0) (q_i4 R1.1.1 hq (by omega)))).trans ?_
    rw [← f2, gQ R2.1.1 hq, q_6 R2.1.1 hq]
    refine (bnd (xgf_eq (a := 20) (ok_20 R2.1.1) (pt_20_1 R2.1.1))).trans ?_
    refine (bnd (xal_eq (a := 21) (v := (a : Int)) (i21 A R2.1.1 (by omega)) ((st_has R2.2.1 (by omega)).trans ea))).trans ?_
    rw [x0S (R2.1.cs C.2.1), c_value K R2.1 (by omega) (by omega), bbind]
    refine (bnd (xas_eq (i := 1) (q_i4 R2.1.1 hq (by omega)))).trans ?_
    rw [← f3, gQ R3.1.1 hq, q_6 R3.1.1 hq]
    refine (bnd (xgf_eq (a := 20) (ok_20 R3.1.1) (pt_20_2 R3.1.1))).trans ?_
    refine (bnd (xal_eq (a := 22) (v := xm G 212 (1 + 9 * A + 1)) (i22 A R3.1.1 (by omega)) (st_wants R3.2.1 (by omega)))).trans ?_
    rw [gQ R3.1.1 hq, q_5 R3.1.1 hq]
    refine (bnd (xal_eq (q_i3 R3.1.1 hq (by omega)) (t3 (Or.inr (Or.inr (Or.inl rfl)))))).trans ?_
    by_cases y : xm G 212 (1 + 9 * A + 1) = (b : Int)
    · rw [if_pos y]
      exact J 1 (by rw [if_pos y])
    · rw [if_neg y]
      exact J 0 (by rw [if_neg y])
  · have : k = 0 ∨ k = 1 ∨ k = 2 ∨ k = 3 ∨ k = 4 ∨ k = 5 ∨ k = 6 := by omega
    rcases this with rfl | rfl | rfl | rfl | rfl | rfl | rfl
    · rw [fr_0 eb, f8, xm_xset, if_neg (by omega), f7, xm_xset, if_neg (by omega), f6, xm_xset, if_neg (by omega), f5, xm_xset, if_neg (by omega), f4, xm_xset, if_neg (by omega), f3, xm_xset, if_neg (by omega), f2, xm_xset, if_pos ⟨rfl, rfl⟩]
    · rw [fr_1 ea, f8, xm_xset, if_neg (by omega), f7, xm_xset, if_neg (by omega), f6, xm_xset, if_neg (by omega), f5, xm_xset, if_neg (by omega), f4, xm_xset, if_neg (by omega), f3, xm_xset, if_pos ⟨rfl, rfl⟩]
    · rw [fr_2 eb, f8, xm_xset, if_neg (by omega), f7, xm_xset, if_neg (by omega), f6, xm_xset, if_neg (by omega), f5, xm_xset, if_neg (by omega), f4, xm_xset, if_pos ⟨rfl, rfl⟩]
    · rw [fr_3 eb, f8, xm_xset, if_neg (by omega), f7, xm_xset, if_neg (by omega), f6, xm_xset, if_neg (by omega), f5, xm_xset, if_pos ⟨rfl, rfl⟩]
    · rw [fr_4, f8, xm_xset, if_neg (by omega), f7, xm_xset, if_neg (by omega), f6, xm_xset, if_pos ⟨rfl, rfl⟩]
    · rw [fr_5, f8, xm_xset, if_neg (by omega), f7, xm_xset, if_pos ⟨rfl, rfl⟩]
    · rw [fr_6, f8, xm_xset, if_pos ⟨rfl, rfl⟩]
  · rw [f8, xm_xset, if_neg (by omega), f7, xm_xset, if_neg (by omega), f6, xm_xset, if_neg (by omega), f5, xm_xset, if_neg (by omega), t3 (Or.inr (Or.inr (Or.inr rfl))), eb]
  · rw [f8, xm_xset, if_neg (by omega), f7, xm_xset, if_neg (by omega), f6, xm_xset, if_neg (by omega), f5, xm_xset, if_neg (by omega), f4, xm_xset, if_neg (by omega), f3, xm_xset, if_neg (by omega), f2, xm_xset, if_neg (by omega), f1, xm_xset, if_neg (by omega)]
  · rw [f8, xm_xset, if_neg (by omega), f7, xm_xset, if_neg (by omega), f6, xm_xset, if_neg (by omega), f5, xm_xset, if_neg (by omega), f4, xm_xset, if_neg (by omega), f3, xm_xset, if_neg (by omega), f2, xm_xset, if_neg (by omega), f1, xm_xset, if_neg (by omega)]
