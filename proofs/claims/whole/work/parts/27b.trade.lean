/-! ===== trade ===== -/
def hlo (h : xa_H) (x : Nat) : Int := xfind (fun i => decide (xm h 212 (1 + 9 * i) = (x : Int))) (xm h 199 4).toNat
def vlu (h : xa_H) (i x : Nat) : Int := xm h 206 (36 + 6 * i + x)
def hsn (h : xa_H) (i : Nat) : Nat := (xm h 212 (1 + 9 * i)).toNat
/-- at whom one points, of the first so many held -/
def bst (h : xa_H) (L i : Nat) : Nat → Nat
  | 0 => i
  | x + 1 => if hlo h x ≠ -1 ∧ L.testBit (hlo h x).toNat = true ∧ vlu h i (hsn h (bst h L i x)) < vlu h i x then (hlo h x).toNat else bst h L i x
def pnt (h : xa_H) (L i : Nat) : Nat := bst h L i (xm h 199 3).toNat
def rts (f : Nat → Nat) (x : Nat) : Nat → Nat → Nat
  | 0, _ => 0
  | d + 1, k => if itr f x k = x then k else rts f x d (k + 1)
def rgs (h : xa_H) (L i : Nat) : Nat := rts (pnt h L) i 6 1
def lvb (h : xa_H) (L : Nat) : Nat → Nat
  | 0 => 0
  | k + 1 => if L.testBit k = true ∧ 0 < rgs h L k then lvb h L k ||| 2 ^ k else lvb h L k
def nxl (h : xa_H) (L : Nat) : Nat := L &&& (63 ^^^ lvb h L (xm h 199 4).toNat)
def Lsq (h : xa_H) : Nat → Nat
  | 0 => 2 ^ (xm h 199 4).toNat - 1
  | t + 1 => nxl h (Lsq h t)
theorem hlo_lt {h : xa_H} {x : Nat} (hp : hlo h x ≠ -1) : ∃ o : Nat, hlo h x = (o : Int) ∧ o < (xm h 199 4).toNat ∧ xm h 212 (1 + 9 * o) = (x : Int) := by
  rcases xfind_spec (fun i => decide (xm h 212 (1 + 9 * i) = (x : Int))) (xm h 199 4).toNat with ⟨e, -⟩ | ⟨j, e1, e2, e3, -⟩
  · exact absurd e hp
  · exact ⟨j, e1, e2, by simpa using e3⟩
theorem bst_lt {h : xa_H} {L i : Nat} (hi : i < (xm h 199 4).toNat) : ∀ x, bst h L i x < (xm h 199 4).toNat
  | 0 => hi
  | x + 1 => by
    simp only [bst]
    split
    · rename_i q
      obtain ⟨o, o1, o2, -⟩ := hlo_lt q.1
      rw [o1]
      simpa using o2
    · exact bst_lt hi x
theorem bst_in {h : xa_H} {L i : Nat} (hi : L.testBit i = true) : ∀ x, L.testBit (bst h L i x) = true
  | 0 => hi
  | x + 1 => by
    simp only [bst]
    split
    · rename_i q
      exact q.2.1
    · exact bst_in hi x
theorem rts_spec (f : Nat → Nat) (x : Nat) : ∀ d k, (rts f x d k = 0 ∧ ∀ j, k ≤ j → j < k + d → itr f x j ≠ x) ∨ (k ≤ rts f x d k ∧ rts f x d k < k + d ∧ itr f x (rts f x d k) = x ∧ ∀ j, k ≤ j → j < rts f x d k → itr f x j ≠ x)
  | 0, k => Or.inl ⟨rfl, fun j h1 h2 => by omega⟩
  | d + 1, k => by
    simp only [rts]
    by_cases q : itr f x k = x
    · rw [if_pos q]
      exact Or.inr ⟨Nat.le_refl _, by omega, q, fun j h1 h2 => by omega⟩
    · rw [if_neg q]
      rcases rts_spec f x d (k + 1) with ⟨e1, e2⟩ | ⟨e1, e2, e3, e4⟩
      · refine Or.inl ⟨e1, fun j h1 h2 => ?_⟩
        by_cases z : j = k
        · rw [z]; exact q
        · exact e2 j (by omega) (by omega)
      · refine Or.inr ⟨by omega, by omega, e3, fun j h1 h2 => ?_⟩
        by_cases z : j = k
        · rw [z]; exact q
        · exact e4 j (by omega) h2
theorem rgs_spec (h : xa_H) (L i : Nat) : (rgs h L i = 0 ∧ ∀ j, 1 ≤ j → j < 7 → itr (pnt h L) i j ≠ i) ∨ (1 ≤ rgs h L i ∧ rgs h L i < 7 ∧ itr (pnt h L) i (rgs h L i) = i ∧ ∀ j, 1 ≤ j → j < rgs h L i → itr (pnt h L) i j ≠ i) := rts_spec (pnt h L) i 6 1
/-- what a call of trade leaves -/
def TGs (h H : xa_H) : Prop := xn H = xn h ∧ xz H = xz h ∧ xk H = xk h ∧ ∀ a k, ¬ (164 ≤ a ∧ a ≤ 167) → ¬ (219 ≤ a ∧ a ≤ 221) → xm H a k = xm h a k
theorem TGs.refl (h : xa_H) : TGs h h := ⟨rfl, rfl, rfl, fun _ _ _ _ => rfl⟩
theorem TGs.arr {h H : xa_H} (T : TGs h H) {a : Nat} (F : Nat → Int) (ha : (164 ≤ a ∧ a ≤ 167) ∨ (219 ≤ a ∧ a ≤ 221)) : TGs h (xarr H a F) := by
  obtain ⟨t1, t2, t3, t4⟩ := T
  refine ⟨t1, t2, t3, fun b k h1 h2 => ?_⟩
  rw [xm_xarr, if_neg (by omega), t4 b k h1 h2]
theorem TGs.set {h H : xa_H} (T : TGs h H) {a k : Nat} (v : Int) (ha : (164 ≤ a ∧ a ≤ 167) ∨ (219 ≤ a ∧ a ≤ 221)) : TGs h (xset H a k v) := by
  obtain ⟨t1, t2, t3, t4⟩ := T
  refine ⟨t1, t2, t3, fun b k h1 h2 => ?_⟩
  rw [xm_xset, if_neg (by omega), t4 b k h1 h2]
theorem TGs.S {h H : xa_H} (T : TGs h H) (S : SH h) : SH H := by
  have hs : ∀ t ∈ pl0, ¬ (164 ≤ t.1 ∧ t.1 ≤ 167) ∧ ¬ (219 ≤ t.1 ∧ t.1 ≤ 221) := by decide +kernel
  obtain ⟨t1, t2, t3, t4⟩ := T
  refine S.fixed (by rw [t1]; exact S.1) (fun _ _ => by rw [t3]) (fun a k hf => ?_)
  obtain ⟨t, ht, h2⟩ := List.any_eq_true.mp hf
  simp at h2
  have := hs t ht
  rw [h2.1] at this
  exact t4 a k this.1 this.2
theorem TGs.C {h H : xa_H} {s : Nat} (T : TGs h H) (C : Rc h s) : Rc H s := by
  have hs := C.2.1.1
  obtain ⟨t1, t2, t3, t4⟩ := T
  refine C.mv (by omega) (fun _ _ => by rw [t3]) (fun a k hd => ?_)
  unfold DRc at hd
  exact t4 a k (by omega) (by omega)
theorem TGs.N {h H : xa_H} (T : TGs h H) (N : Rn h) : Rn H := by
  refine N.mv (fun a k hd => T.2.2.2 a k ?_ ?_)
  · intro q
    unfold DRn at hd
    rw [ble_ff (a := a) (b := 25) (by omega)] at hd
    simp at hd
    omega
  · intro q
    unfold DRn at hd
    rw [ble_ff (a := a) (b := 25) (by omega)] at hd
    simp at hd
    omega
theorem tg_hlo {h H : xa_H} (T : TGs h H) (x : Nat) : hlo H x = hlo h x := by
  unfold hlo
  rw [T.2.2.2 199 4 (by omega) (by omega)]
  exact xfind_congr (fun j _ => by rw [T.2.2.2 212 _ (by omega) (by omega)])
theorem s_X10_point {h H : xa_H} {s : Nat} (T : TGs h H) (S : SH h) (C : Rc h s) (N : Rn h) (L : Nat) (hL : L < 64) : f_X10_point 163 (s : Int) 20 (L : Int) H = some (xarr H 167 (fun k => if k < (xm h 199 4).toNat then ((pnt h L k : Nat) : Int) else xm H 167 k)) := by
  have hn := rc_n C
  have hm := rc_m C
  have hl := xit_seq (f := fun t => f_X10_point_L3 163 (s : Int) 20 (L : Int) t.1 t.2) (fun i => ((i : Int), xarr H 167 (fun k => if k < i then ((pnt h L k : Nat) : Int) else xm H 167 k))) (xm h 199 4).toNat (xarr H 167 (fun k => if k < (xm h 199 4).toNat then ((pnt h L k : Nat) : Int) else xm H 167 k)) (fun i hi => by
    obtain ⟨H0, e0⟩ : ∃ H0, H0 = xarr H 167 (fun k => if k < i then ((pnt h L k : Nat) : Int) else xm H 167 k) := ⟨_, rfl⟩
    have T0 : TGs h H0 := by rw [e0]; exact T.arr _ (by omega)
    have S0 := T0.S S
    have C0 := T0.C C
    have q : (i : Int) < xm H0 199 4 := by rw [T0.2.2.2 199 4 (by omega) (by omega)]; omega
    have T1 : TGs h (xset H0 167 i (i : Int)) := T0.set _ (by omega)
    have S1 := T1.S S
    have C1 := T1.C C
    have N1 := T1.N N
    obtain ⟨a, ea, ha, -⟩ := rv_has' N (i := i) (by omega) hm.2
    have ea1 : xm (xset H0 167 i (i : Int)) 212 (1 + 9 * i) = (a : Int) := by rw [T1.2.2.2 _ _ (by omega) (by omega), ea]
    have ev : vlu h i (hsn h i) = xm (xset H0 167 i (i : Int)) 206 (36 + 6 * i + a) := by
      unfold vlu hsn
      rw [ea, T1.2.2.2 _ _ (by omega) (by omega)]
      rfl
    have inner := xit_seq (f := fun t => f_X10_point_L39 163 (s : Int) 20 (L : Int) (i : Int) t.1 t.2.1 t.2.2) (fun x => (vlu h i (hsn h (bst h L i x)), (x : Int), xset H0 167 i ((bst h L i x : Nat) : Int))) (xm h 199 3).toNat (xset H0 167 i ((pnt h L i : Nat) : Int)) (fun x hx => by
      have T2 : TGs h (xset H0 167 i ((bst h L i x : Nat) : Int)) := T0.set _ (by omega)
      obtain ⟨H2, e2⟩ : ∃ H2, H2 = xset H0 167 i ((bst h L i x : Nat) : Int) := ⟨_, rfl⟩
      dsimp only
      rw [← e2] at T2 ⊢
      have S2 := T2.S S
      have C2 := T2.C C
      have N2 := T2.N N
      have q2 : (x : Int) < xm H2 199 3 := by rw [T2.2.2.2 199 3 (by omega) (by omega)]; omega
      have eh : f_X9_holderOf 20 (x : Int) (xm H2 199 4) H2 = some (hlo h x) := by
        rw [s_X9_holderOf S2 C2 N2]
        exact congrArg some (tg_hlo T2 x)
      have ev2 : xm H2 206 (36 + 6 * i + x) = vlu h i x := T2.2.2.2 _ _ (by omega) (by omega)
      unfold f_X10_point_L39
      simp (disch := omega) only [↓reduceIte, ↓bbind, ↓bxgf, ↓bxpf, ↓bxal, ↓bxas, ↓bxrc, ↓exrc, Int.reduceEq, Int.reduceLT, Int.reduceNeg, Int.reduceToNat, Int.toNat_natCast, Option.bind_some, if_true, if_false, reduceIte, ok_0 S2, ok_2 S2, ok_4 S2, ok_6 S2, ok_20 S2, ok_26 S2, ok_148 S2, ok_153 S2, ok_158 S2, ok_163 S2, ia_1 S2, ia_3 S2, ia_5 S2, ia_21 S2, ia_22 S2, ia_23 S2, ia_24 S2, ia_25 S2, ia_27 S2, ia_149 S2, ia_150 S2, ia_151 S2, ia_152 S2, ia_154 S2, ia_155 S2, ia_156 S2, ia_157 S2, ia_159 S2, ia_160 S2, ia_161 S2, ia_162 S2, ia_164 S2, ia_165 S2, ia_166 S2, ia_167 S2, ia_168 S2, ia_169 S2, ia_170 S2, ia_171 S2, ia_172 S2, pt_0_0 S2, pt_2_0 S2, pt_2_1 S2, pt_0_2 S2, pt_4_0 S2, pt_4_1 S2, pt_0_3 S2, pt_6_0 S2, pt_6_1 S2, pt_0_4 S2, pt_20_1 S2, pt_20_2 S2, pt_20_3 S2, pt_20_4 S2, pt_20_5 S2, pt_0_6 S2, pt_26_0 S2, pt_0_7 S2, pt_148_0 S2, pt_148_4 S2, pt_148_5 S2, pt_148_6 S2, pt_0_8 S2, pt_153_0 S2, pt_153_4 S2, pt_153_5 S2, pt_153_6 S2, pt_0_9 S2, pt_158_4 S2, pt_158_5 S2, pt_158_6 S2, pt_158_7 S2, pt_0_10 S2, pt_163_0 S2, pt_163_1 S2, pt_163_2 S2, pt_163_3 S2, pt_0_11 S2, pt_0_12 S2, pt_0_13 S2, pt_0_14 S2, pt_0_15 S2, pt_0_17 S2, rc_s C2, rc_1 C2, rc_2 C2, rc_3 C2, rc_4 C2, rc_salt C2, rc_sister C2, rc_value C2, rc_feud C2, CS.ok (C2.2.1), CS.okS (C2.2.1), cs_ia1 (C2.2.1), cs_ia2 (C2.2.1), cs_ia3 (C2.2.1), cs_ia4 (C2.2.1), cs_ia5 (C2.2.1), cs_ia6 (C2.2.1), cs_p5 (C2.2.1), cs_p6 (C2.2.1), cs_p7 (C2.2.1), cs_p8 (C2.2.1), cs_p9 (C2.2.1), cs_p10 (C2.2.1), cs_p13 (C2.2.1), if_pos q2, eh]
      by_cases z1 : hlo h x = -1
      · rw [if_pos z1]
        unfold f_X10_point_J80L39 f_X10_point_J81L39
        rw [if_pos rfl, w32_id (by omega) (by omega)]
        have eb : bst h L i (x + 1) = bst h L i x := by
          simp only [bst]
          rw [if_neg (fun o => o.1 z1)]
        rw [eb, e2]
        rfl
      · obtain ⟨o, o1, o2, o3⟩ := hlo_lt z1
        rw [if_neg z1, o1, b_bit L hL o (by omega)]
        by_cases z2 : L.testBit o = true
        · rw [z2]
          simp only [if_true]
          unfold f_X10_point_J81L39
          simp (disch := omega) only [↓reduceIte, ↓bbind, ↓bxgf, ↓bxpf, ↓bxal, ↓bxas, ↓bxrc, ↓exrc, Int.reduceEq, Int.reduceLT, Int.reduceNeg, Int.reduceToNat, Int.toNat_natCast, Option.bind_some, if_true, if_false, reduceIte, rc_s C2, rc_1 C2, rc_2 C2, rc_3 C2, rc_4 C2, rc_salt C2, rc_sister C2, rc_value C2, rc_feud C2, CS.ok (C2.2.1), CS.okS (C2.2.1), cs_ia1 (C2.2.1), cs_ia2 (C2.2.1), cs_ia3 (C2.2.1), cs_ia4 (C2.2.1), cs_ia5 (C2.2.1), cs_ia6 (C2.2.1), cs_p5 (C2.2.1), cs_p6 (C2.2.1), cs_p7 (C2.2.1), cs_p8 (C2.2.1), cs_p9 (C2.2.1), cs_p10 (C2.2.1), cs_p13 (C2.2.1), s_X0_valueOf C2, ev2]
          by_cases z3 : vlu h i (hsn h (bst h L i x)) < vlu h i x
          · rw [if_pos z3]
            have eb : bst h L i (x + 1) = o := by
              simp only [bst]
              rw [if_pos ⟨z1, by rw [o1]; exact z2, z3⟩, o1]
              rfl
            have hx2 : hsn h o = x := by unfold hsn; rw [o3]; rfl
            simp (disch := omega) only [↓reduceIte, ↓bbind, ↓bxgf, ↓bxpf, ↓bxal, ↓bxas, ↓bxrc, ↓exrc, Int.reduceEq, Int.reduceLT, Int.reduceNeg, Int.reduceToNat, Int.toNat_natCast, Option.bind_some, if_true, if_false, reduceIte, ok_0 S2, ok_2 S2, ok_4 S2, ok_6 S2, ok_20 S2, ok_26 S2, ok_148 S2, ok_153 S2, ok_158 S2, ok_163 S2, ia_1 S2, ia_3 S2, ia_5 S2, ia_21 S2, ia_22 S2, ia_23 S2, ia_24 S2, ia_25 S2, ia_27 S2, ia_149 S2, ia_150 S2, ia_151 S2, ia_152 S2, ia_154 S2, ia_155 S2, ia_156 S2, ia_157 S2, ia_159 S2, ia_160 S2, ia_161 S2, ia_162 S2, ia_164 S2, ia_165 S2, ia_166 S2, ia_167 S2, ia_168 S2, ia_169 S2, ia_170 S2, ia_171 S2, ia_172 S2, pt_0_0 S2, pt_2_0 S2, pt_2_1 S2, pt_0_2 S2, pt_4_0 S2, pt_4_1 S2, pt_0_3 S2, pt_6_0 S2, pt_6_1 S2, pt_0_4 S2, pt_20_1 S2, pt_20_2 S2, pt_20_3 S2, pt_20_4 S2, pt_20_5 S2, pt_0_6 S2, pt_26_0 S2, pt_0_7 S2, pt_148_0 S2, pt_148_4 S2, pt_148_5 S2, pt_148_6 S2, pt_0_8 S2, pt_153_0 S2, pt_153_4 S2, pt_153_5 S2, pt_153_6 S2, pt_0_9 S2, pt_158_4 S2, pt_158_5 S2, pt_158_6 S2, pt_158_7 S2, pt_0_10 S2, pt_163_0 S2, pt_163_1 S2, pt_163_2 S2, pt_163_3 S2, pt_0_11 S2, pt_0_12 S2, pt_0_13 S2, pt_0_14 S2, pt_0_15 S2, pt_0_17 S2, w32_id]
            rw [eb, hx2, e2, xset_xset]
            rfl
          · rw [if_neg z3, w32_id (by omega) (by omega)]
            have eb : bst h L i (x + 1) = bst h L i x := by
              simp only [bst]
              rw [if_neg (fun w => z3 w.2.2)]
            rw [eb, e2]
            rfl
        · have z2' : L.testBit o = false := by simpa using z2
          rw [z2']
          simp only [Bool.false_eq_true, if_false]
          rw [if_neg (by decide)]
          unfold f_X10_point_J80L39 f_X10_point_J81L39
          rw [if_pos rfl, w32_id (by omega) (by omega)]
          have eb : bst h L i (x + 1) = bst h L i x := by
            simp only [bst]
            rw [if_neg (fun w => z2 (by have := w.2.1; rw [o1] at this; exact this))]
          rw [eb, e2]
          rfl) (by
      have T2 : TGs h (xset H0 167 i ((bst h L i (xm h 199 3).toNat : Nat) : Int)) := T0.set _ (by omega)
      have S2 := T2.S S
      have C2 := T2.C C
      have q2 : ¬ (((xm h 199 3).toNat : Nat) : Int) < xm (xset H0 167 i ((bst h L i (xm h 199 3).toNat : Nat) : Int)) 199 3 := by rw [T2.2.2.2 199 3 (by omega) (by omega)]; omega
      unfold f_X10_point_L39
      refine (bnd (xgf_eq C2.2.1.ok (rc_1 C2))).trans ?_
      rw [if_neg q2]
      rfl) (by omega)
    unfold f_X10_point_L3
    dsimp only
    rw [← e0]
    refine (bnd (xgf_eq C0.2.1.ok (rc_2 C0))).trans ?_
    rw [if_pos q]
    simp (disch := omega) only [↓reduceIte, ↓bbind, ↓bxgf, ↓bxpf, ↓bxal, ↓bxas, ↓bxrc, ↓exrc, Int.reduceEq, Int.reduceLT, Int.reduceNeg, Int.reduceToNat, Int.toNat_natCast, Option.bind_some, if_true, if_false, reduceIte, ok_0 S0, ok_2 S0, ok_4 S0, ok_6 S0, ok_20 S0, ok_26 S0, ok_148 S0, ok_153 S0, ok_158 S0, ok_163 S0, ia_1 S0, ia_3 S0, ia_5 S0, ia_21 S0, ia_22 S0, ia_23 S0, ia_24 S0, ia_25 S0, ia_27 S0, ia_149 S0, ia_150 S0, ia_151 S0, ia_152 S0, ia_154 S0, ia_155 S0, ia_156 S0, ia_157 S0, ia_159 S0, ia_160 S0, ia_161 S0, ia_162 S0, ia_164 S0, ia_165 S0, ia_166 S0, ia_167 S0, ia_168 S0, ia_169 S0, ia_170 S0, ia_171 S0, ia_172 S0, pt_0_0 S0, pt_2_0 S0, pt_2_1 S0, pt_0_2 S0, pt_4_0 S0, pt_4_1 S0, pt_0_3 S0, pt_6_0 S0, pt_6_1 S0, pt_0_4 S0, pt_20_1 S0, pt_20_2 S0, pt_20_3 S0, pt_20_4 S0, pt_20_5 S0, pt_0_6 S0, pt_26_0 S0, pt_0_7 S0, pt_148_0 S0, pt_148_4 S0, pt_148_5 S0, pt_148_6 S0, pt_0_8 S0, pt_153_0 S0, pt_153_4 S0, pt_153_5 S0, pt_153_6 S0, pt_0_9 S0, pt_158_4 S0, pt_158_5 S0, pt_158_6 S0, pt_158_7 S0, pt_0_10 S0, pt_163_0 S0, pt_163_1 S0, pt_163_2 S0, pt_163_3 S0, pt_0_11 S0, pt_0_12 S0, pt_0_13 S0, pt_0_14 S0, pt_0_15 S0, pt_0_17 S0]
    simp (disch := omega) only [↓reduceIte, ↓bbind, ↓bxgf, ↓bxpf, ↓bxal, ↓bxas, ↓bxrc, ↓exrc, Int.reduceEq, Int.reduceLT, Int.reduceNeg, Int.reduceToNat, Int.toNat_natCast, Option.bind_some, if_true, if_false, reduceIte, ok_0 S1, ok_2 S1, ok_4 S1, ok_6 S1, ok_20 S1, ok_26 S1, ok_148 S1, ok_153 S1, ok_158 S1, ok_163 S1, ia_1 S1, ia_3 S1, ia_5 S1, ia_21 S1, ia_22 S1, ia_23 S1, ia_24 S1, ia_25 S1, ia_27 S1, ia_149 S1, ia_150 S1, ia_151 S1, ia_152 S1, ia_154 S1, ia_155 S1, ia_156 S1, ia_157 S1, ia_159 S1, ia_160 S1, ia_161 S1, ia_162 S1, ia_164 S1, ia_165 S1, ia_166 S1, ia_167 S1, ia_168 S1, ia_169 S1, ia_170 S1, ia_171 S1, ia_172 S1, pt_0_0 S1, pt_2_0 S1, pt_2_1 S1, pt_0_2 S1, pt_4_0 S1, pt_4_1 S1, pt_0_3 S1, pt_6_0 S1, pt_6_1 S1, pt_0_4 S1, pt_20_1 S1, pt_20_2 S1, pt_20_3 S1, pt_20_4 S1, pt_20_5 S1, pt_0_6 S1, pt_26_0 S1, pt_0_7 S1, pt_148_0 S1, pt_148_4 S1, pt_148_5 S1, pt_148_6 S1, pt_0_8 S1, pt_153_0 S1, pt_153_4 S1, pt_153_5 S1, pt_153_6 S1, pt_0_9 S1, pt_158_4 S1, pt_158_5 S1, pt_158_6 S1, pt_158_7 S1, pt_0_10 S1, pt_163_0 S1, pt_163_1 S1, pt_163_2 S1, pt_163_3 S1, pt_0_11 S1, pt_0_12 S1, pt_0_13 S1, pt_0_14 S1, pt_0_15 S1, pt_0_17 S1, rn_night N1, rn_has N1, rn_wants N1, rn_purse N1, rn_met N1, rn_kc N1, rn_kept N1, ea1, s_X0_valueOf C1, C1.2.1.ok]
    rw [← ev]
    refine (bnd inner).trans ?_
    rw [w32_id (by omega) (by omega)]
    refine congrArg some (congrArg Sum.inl (Prod.ext rfl ?_))
    dsimp only
    rw [e0]
    refine xheq rfl rfl rfl (fun b k => ?_)
    rw [xm_xset, xm_xarr, xm_xarr]
    by_cases p1 : b = 167
    · subst p1
      simp only [true_and, if_true]
      by_cases p2 : k = i
      · subst p2
        rw [if_pos rfl, if_pos (by omega)]
      · rw [if_neg p2]
        by_cases p3 : k < i
        · rw [if_pos p3, if_pos (by omega)]
        · rw [if_neg p3, if_neg (by omega)]
    · rw [if_neg (by omega), if_neg p1, if_neg p1]) (by
    have T0 : TGs h (xarr H 167 (fun k => if k < (xm h 199 4).toNat then ((pnt h L k : Nat) : Int) else xm H 167 k)) := T.arr _ (by omega)
    have C0 := T0.C C
    have q : ¬ (((xm h 199 4).toNat : Nat) : Int) < xm (xarr H 167 (fun k => if k < (xm h 199 4).toNat then ((pnt h L k : Nat) : Int) else xm H 167 k)) 199 4 := by rw [T0.2.2.2 199 4 (by omega) (by omega)]; omega
    unfold f_X10_point_L3
    refine (bnd (xgf_eq C0.2.1.ok (rc_2 C0))).trans ?_
    rw [if_neg q]) (by omega)
  unfold f_X10_point
  have hz : ((0 : Int), H) = (((0 : Nat) : Int), xarr H 167 (fun k => if k < 0 then ((pnt h L k : Nat) : Int) else xm H 167 k)) := by
    refine Prod.ext rfl ?_
    dsimp only
    rw [show (fun k => if k < 0 then ((pnt h L k : Nat) : Int) else xm H 167 k) = xm H 167 from funext fun k => if_neg (by omega)]
    exact (xarr_self H 167).symm
  rw [hz]
  exact (bnd hl).trans rfl
