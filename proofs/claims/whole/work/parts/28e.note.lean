/-! ===== the notes of the class ===== -/
/-- what the first so many rows let a holder have -/
def okc (ρ : Nat → Int) : Nat → Nat → Nat → Bool
  | 0, _, _ => true
  | k + 1, i, x => okc ρ k i x && (decide (ρ (3 * k) ≠ (i : Int)) || decide ((if (x : Int) = ρ (3 * k + 1) then (1 : Int) else 0) = ρ (3 * k + 2)))
theorem okc_congr {ρ ρ' : Nat → Int} : ∀ r, (∀ k, k < 3 * r → ρ k = ρ' k) → okc ρ r = okc ρ' r
  | 0, _ => rfl
  | r + 1, h => by
    funext i x
    simp only [okc]
    rw [okc_congr r (fun k hk => h k (by omega)), h (3 * r) (by omega), h (3 * r + 1) (by omega), h (3 * r + 2) (by omega)]
/-- what a note changes -/
def NF (h H : xa_H) : Prop := xn H = xn h ∧ xz H = xz h ∧ xk H = xk h ∧ ∀ a k, ¬ (158 ≤ a ∧ a ≤ 162) → xm H a k = xm h a k
theorem NF.refl (h : xa_H) : NF h h := ⟨rfl, rfl, rfl, fun _ _ _ => rfl⟩
theorem NF.set {h H : xa_H} (T : NF h H) {a k : Nat} (v : Int) (ha : 158 ≤ a ∧ a ≤ 162) : NF h (xset H a k v) := by
  obtain ⟨t1, t2, t3, t4⟩ := T
  exact ⟨t1, t2, t3, fun b j hb => by rw [xm_xset, if_neg (by omega), t4 b j hb]⟩
theorem NF.arr {h H : xa_H} (T : NF h H) {a : Nat} (F : Nat → Int) (ha : 158 ≤ a ∧ a ≤ 162) : NF h (xarr H a F) := by
  obtain ⟨t1, t2, t3, t4⟩ := T
  exact ⟨t1, t2, t3, fun b j hb => by rw [xm_xarr, if_neg (by omega), t4 b j hb]⟩
theorem NS.set1 {H : xa_H} {ok : Nat → Nat → Bool} {n m : Nat} (N : NS H ok n m) {k : Nat} (v : Int) (hk : k = 0 ∨ k = 1) : NS (xset H 158 k v) ok n m := by
  obtain ⟨S, h1, h2, h3, h4, h5, h6⟩ := N
  refine ⟨?_, h1, h2, h3, ?_, ?_, fun i hi => ?_⟩
  · rcases hk with rfl | rfl <;> exact S.set (by decide +kernel)
  · rw [xm_xset, if_neg (by omega)]; exact h4
  · rw [xm_xset, if_neg (by omega)]; exact h5
  · rw [xm_xset, if_neg (by omega)]; exact h6 i hi
theorem s_forget {h : xa_H} (S : SH h) {n m : Nat} (hn : n ≤ 6) (hm : m ≤ 6) (hm0 : 0 < m ∨ n = 0) (ρ : Nat → Int) : ∃ H, f_X5_forget 158 (n : Int) (m : Int) h = some H ∧ NF h H ∧ NS H (okc ρ 0) n m ∧ xm H 158 0 = 0 ∧ xm H 158 1 = ((frd (okc ρ 0) m n n 0 : Nat) : Int) ∧ ∀ i x, i < n → x < m → xm H 162 (i * 6 + x) = ((sumN (cti (okc ρ 0) m n i x) (2 ^ m) : Nat) : Int) := by
  obtain ⟨H3, e3⟩ : ∃ H3, H3 = xset (xset (xset h 158 0 0) 158 2 (n : Int)) 158 3 (m : Int) := ⟨_, rfl⟩
  have S3 : SH H3 := by rw [e3]; exact ((S.set (by decide +kernel)).set (by decide +kernel)).set (by decide +kernel)
  obtain ⟨H4, e4⟩ : ∃ H4, H4 = xarr H3 159 (fun k => if k < 6 then ((2 ^ m - 1 : Nat) : Int) else xm H3 159 k) := ⟨_, rfl⟩
  have S4 : SH H4 := by rw [e4]; exact S3.arr (by decide +kernel)
  have F4 : NF h H4 := by
    rw [e4, e3]
    exact ((((NF.refl h).set _ (by omega)).set _ (by omega)).set _ (by omega)).arr _ (by omega)
  have h64 := p2_64 m (by omega)
  have hp0 : 0 < 2 ^ m := Nat.pow_pos (by decide)
  have N4 : NS H4 (okc ρ 0) n m := by
    refine ⟨S4, hn, hm, hm0, ?_, ?_, fun i hi => ⟨2 ^ m - 1, by omega, ?_, fun x hx => ?_⟩⟩
    · rw [e4, xm_xarr, if_neg (by omega), e3, xm_xset, if_neg (by omega), xm_xset, if_pos ⟨rfl, rfl⟩]
    · rw [e4, xm_xarr, if_neg (by omega), e3, xm_xset, if_pos ⟨rfl, rfl⟩]
    · rw [e4, xm_xarr, if_pos rfl, if_pos (by omega)]
    · rw [tb_all m (by omega) x hx]
      exact ⟨fun a => ⟨a, rfl⟩, fun a => a.1⟩
  obtain ⟨X, Y, Z, er, ez⟩ := s_reckon N4
  refine ⟨xset (xarr (xarr (xarr H4 160 X) 161 Y) 162 Z) 158 1 ((frd (okc ρ 0) m n n 0 : Nat) : Int), ?_, ?_, ?_, ?_, ?_, ?_⟩
  · have o158 := ok_158 S
    unfold f_X5_forget
    refine (bnd (xpf_eq (a := 158) (ok_158 S))).trans ?_
    refine (bnd (xpf_eq (a := 158) (by exact o158))).trans ?_
    refine (bnd (xpf_eq (a := 158) (by exact o158))).trans ?_
    rw [← e3]
    refine (bnd (xgf_eq (a := 158) (ok_158 S3) (pt_158_4 S3))).trans ?_
    rw [all_bits m (by omega)]
    refine (bnd (s_fill (a := 159) (n := 6) _ ((kd_xk S3 (by omega)).trans (by decide +kernel)) (by have := S3.1; omega) (by omega))).trans ?_
    rw [← e4]
    refine (bnd (v := xset (xarr (xarr (xarr H4 160 X) 161 Y) 162 Z) 158 1 ((frd (okc ρ 0) m n n 0 : Nat) : Int)) ?_).trans rfl
    rw [er]
    exact if_pos (ok_158 S4)
  · exact (((F4.arr _ (by omega)).arr _ (by omega)).arr _ (by omega)).set _ (by omega)
  · exact (((N4.arr _ (by omega)).arr _ (by omega)).arr _ (by omega)).set1 _ (by omega)
  · rw [xm_xset, if_neg (by omega), xm_xarr, if_neg (by omega), xm_xarr, if_neg (by omega), xm_xarr, if_neg (by omega), e4, xm_xarr, if_neg (by omega), e3, xm_xset, if_neg (by omega), xm_xset, if_neg (by omega), xm_xset, if_pos ⟨rfl, rfl⟩]
  · rw [xm_xset, if_pos ⟨rfl, rfl⟩]
  · intro i x hi hx
    rw [xm_xset, if_neg (by omega), xm_xarr, if_pos rfl]
    exact ez i x hi hx
theorem tb_and : ∀ a, a < 64 → ∀ x, x < 6 → xand ((a : Nat) : Int) (xshl 1 ((x : Nat) : Int)) = ((a &&& 2 ^ x : Nat) : Int) ∧ (∀ y, y < 6 → ((a &&& 2 ^ x).testBit y = true ↔ a.testBit y = true ∧ y = x)) := by decide +kernel
theorem s_addRow {H : xa_H} {ρ : Nat → Int} {n m t : Nat} (N : NS H (okc ρ t) n m) (ht : xm H 158 0 = (t : Int)) (ht2 : t < 20) {i x : Nat} (hi : i < n) (hx : x < m) (e0 : ρ (3 * t) = (i : Int)) (e1 : ρ (3 * t + 1) = (x : Int)) (b : Int) (hb : (b = 1 ∧ ρ (3 * t + 2) = 1) ∨ (b = 0 ∧ ρ (3 * t + 2) = 0)) : ∃ H', f_X5_addRow 158 (i : Int) (x : Int) b H = some H' ∧ NF H H' ∧ NS H' (okc ρ (t + 1)) n m ∧ xm H' 158 0 = ((t + 1 : Nat) : Int) := by
  obtain ⟨S, h1, h2, h3, h4, h5, h6⟩ := N
  obtain ⟨al, al1, al2, al3⟩ := h6 i hi
  have key : ∀ al' : Nat, al' < 64 → (∀ y, y < 6 → (al'.testBit y = true ↔ al.testBit y = true ∧ (if (y : Int) = (x : Int) then (1 : Int) else 0) = ρ (3 * t + 2))) → NF H (xset (xset H 159 i (al' : Int)) 158 0 ((t + 1 : Nat) : Int)) ∧ NS (xset (xset H 159 i (al' : Int)) 158 0 ((t + 1 : Nat) : Int)) (okc ρ (t + 1)) n m ∧ xm (xset (xset H 159 i (al' : Int)) 158 0 ((t + 1 : Nat) : Int)) 158 0 = ((t + 1 : Nat) : Int) := by
    intro al' ha hy
    refine ⟨((NF.refl H).set _ (by omega)).set _ (by omega), ⟨(S.set (fixd_of (by decide +kernel))).set (by decide +kernel), h1, h2, h3, ?_, ?_, fun j hj => ?_⟩, by rw [xm_xset, if_pos ⟨rfl, rfl⟩]⟩
    · rw [xm_xset, if_neg (by omega), xm_xset, if_neg (by omega)]; exact h4
    · rw [xm_xset, if_neg (by omega), xm_xset, if_neg (by omega)]; exact h5
    · by_cases p : j = i
      · subst p
        refine ⟨al', ha, by rw [xm_xset, if_neg (by omega), xm_xset, if_pos ⟨rfl, rfl⟩], fun y hy2 => ?_⟩
        rw [hy y hy2, al3 y hy2]
        simp only [okc, e0, e1, Bool.and_eq_true, Bool.or_eq_true, decide_eq_true_eq]
        constructor
        · rintro ⟨⟨a, b⟩, c⟩
          exact ⟨a, b, Or.inr c⟩
        · rintro ⟨a, b, c⟩
          refine ⟨⟨a, b⟩, ?_⟩
          rcases c with c | c
          · exact absurd rfl c
          · exact c
      · obtain ⟨aj, aj1, aj2, aj3⟩ := h6 j hj
        refine ⟨aj, aj1, by rw [xm_xset, if_neg (by omega), xm_xset, if_neg (by omega)]; exact aj2, fun y hy2 => ?_⟩
        rw [aj3 y hy2]
        simp only [okc, e0, Bool.and_eq_true, Bool.or_eq_true, decide_eq_true_eq]
        constructor
        · rintro ⟨a, b⟩
          exact ⟨a, b, Or.inl (by omega)⟩
        · rintro ⟨a, b, c⟩
          exact ⟨a, b⟩
  have ea : xal H 0 159 (i : Int) = some (al : Int) := by
    unfold xal
    rw [if_pos (ia_159 S (by omega) (by omega))]
    exact congrArg some al2
  have p2 : 2 ^ x < 64 := by
    show 2 ^ x < 2 ^ 6
    exact Nat.pow_lt_pow_right (by decide) (by omega)
  have o158 := ok_158 S
  unfold f_X5_addRow
  rcases hb with ⟨rfl, hb⟩ | ⟨rfl, hb⟩
  · obtain ⟨a1, a2⟩ := tb_and al al1 x (by omega)
    have k := key (al &&& 2 ^ x) (Nat.lt_of_le_of_lt Nat.and_le_left al1) (fun y hy => by
      rw [a2 y hy, hb]
      by_cases z : y = x
      · subst z; simp
      · have : ¬ (y : Int) = (x : Int) := by omega
        simp [z, this])
    refine ⟨_, ?_, k⟩
    refine (bnd (xgf_eq (a := 158) (ok_158 S) (pt_158_4 S))).trans ?_
    refine (bnd ea).trans ?_
    rw [if_neg (by decide), a1]
    refine (bnd (v := xset H 159 i ((al &&& 2 ^ x : Nat) : Int)) (by unfold xas; rw [if_pos (ia_159 S (by omega) (by omega))]; rfl)).trans ?_
    refine (bnd (xgf_eq (a := 158) (v := (t : Int)) (by exact o158) (by rw [xm_xset, if_neg (by omega)]; exact ht))).trans ?_
    refine (bnd (xpf_eq (a := 158) (by exact o158))).trans ?_
    rw [w32_id (by omega) (by omega)]
    rfl
  · have a1 := tb_and63 al al1 (2 ^ x) p2
    have k := key (al &&& (63 ^^^ 2 ^ x)) (Nat.lt_of_le_of_lt Nat.and_le_left al1) (fun y hy => by
      rw [Nat.testBit_and, Bool.and_eq_true, tb_63 _ p2 y hy, Nat.testBit_two_pow, hb]
      by_cases z : y = x
      · subst z; simp
      · have : ¬ (y : Int) = (x : Int) := by omega
        have z' : ¬ x = y := fun w => z w.symm
        simp [z', this])
    refine ⟨_, ?_, k⟩
    refine (bnd (xgf_eq (a := 158) (ok_158 S) (pt_158_4 S))).trans ?_
    refine (bnd ea).trans ?_
    rw [if_pos rfl, x_shl1 x (by omega), a1]
    refine (bnd (v := xset H 159 i ((al &&& (63 ^^^ 2 ^ x) : Nat) : Int)) (by unfold xas; rw [if_pos (ia_159 S (by omega) (by omega))]; rfl)).trans ?_
    refine (bnd (xgf_eq (a := 158) (v := (t : Int)) (by exact o158) (by rw [xm_xset, if_neg (by omega)]; exact ht))).trans ?_
    refine (bnd (xpf_eq (a := 158) (by exact o158))).trans ?_
    rw [w32_id (by omega) (by omega)]
    rfl
theorem by_255 : ∀ v, v < 256 → xand (sx8 ((v : Nat) : Int)) 255 = ((v : Nat) : Int) := by decide +kernel
/-- the bytes of the tape -/
def RtB (h : xa_H) : Prop := ∀ k, k < 1600 → 0 ≤ xm h 174 k ∧ xm h 174 k < 256 ∧ xm h 1 k = sx8 (xm h 174 k)
theorem s_tapeByte {h : xa_H} (S : SH h) (T : RtB h) {k : Nat} (hk : k < 1600) : f_X11_tapeByte 0 (k : Int) h = some (xm h 174 k) := by
  obtain ⟨t1, t2, t3⟩ := T k hk
  unfold f_X11_tapeByte
  rw [if_neg (by omega), if_pos (by omega)]
  obtain ⟨v, ev⟩ : ∃ v : Nat, xm h 174 k = (v : Int) := ⟨(xm h 174 k).toNat, by omega⟩
  simp (disch := omega) only [↓reduceIte, ↓bbind, ↓bxgf, ↓bxpf, ↓bxal, ↓bxas, ↓bxrc, ↓exrc, Int.reduceEq, Int.reduceLT, Int.reduceNeg, Int.reduceToNat, Int.toNat_natCast, Option.bind_some, if_true, if_false, reduceIte, ok_0 S, ok_2 S, ok_4 S, ok_6 S, ok_20 S, ok_26 S, ok_148 S, ok_153 S, ok_158 S, ok_163 S, ia_1 S, ia_3 S, ia_5 S, ia_21 S, ia_22 S, ia_23 S, ia_24 S, ia_25 S, ia_27 S, ia_149 S, ia_150 S, ia_151 S, ia_152 S, ia_154 S, ia_155 S, ia_156 S, ia_157 S, ia_159 S, ia_160 S, ia_161 S, ia_162 S, ia_164 S, ia_165 S, ia_166 S, ia_167 S, ia_168 S, ia_169 S, ia_170 S, ia_171 S, ia_172 S, pt_0_0 S, pt_2_0 S, pt_2_1 S, pt_0_2 S, pt_4_0 S, pt_4_1 S, pt_0_3 S, pt_6_0 S, pt_6_1 S, pt_0_4 S, pt_20_1 S, pt_20_2 S, pt_20_3 S, pt_20_4 S, pt_20_5 S, pt_0_6 S, pt_26_0 S, pt_0_7 S, pt_148_0 S, pt_148_4 S, pt_148_5 S, pt_148_6 S, pt_0_8 S, pt_153_0 S, pt_153_4 S, pt_153_5 S, pt_153_6 S, pt_0_9 S, pt_158_4 S, pt_158_5 S, pt_158_6 S, pt_158_7 S, pt_0_10 S, pt_163_0 S, pt_163_1 S, pt_163_2 S, pt_163_3 S, pt_0_11 S, pt_0_12 S, pt_0_13 S, pt_0_14 S, pt_0_15 S, pt_0_17 S, t3]
  rw [ev, by_255 v (by omega)]
theorem s_takeTape {h : xa_H} (S : SH h) : f_X11_takeTape 0 h = some (xm h 0 1, xset h 0 1 0) := by
  unfold f_X11_takeTape
  simp (disch := omega) only [↓reduceIte, ↓bbind, ↓bxgf, ↓bxpf, ↓bxal, ↓bxas, ↓bxrc, ↓exrc, Int.reduceEq, Int.reduceLT, Int.reduceNeg, Int.reduceToNat, Int.toNat_natCast, Option.bind_some, if_true, if_false, reduceIte, ok_0 S, ok_2 S, ok_4 S, ok_6 S, ok_20 S, ok_26 S, ok_148 S, ok_153 S, ok_158 S, ok_163 S, ia_1 S, ia_3 S, ia_5 S, ia_21 S, ia_22 S, ia_23 S, ia_24 S, ia_25 S, ia_27 S, ia_149 S, ia_150 S, ia_151 S, ia_152 S, ia_154 S, ia_155 S, ia_156 S, ia_157 S, ia_159 S, ia_160 S, ia_161 S, ia_162 S, ia_164 S, ia_165 S, ia_166 S, ia_167 S, ia_168 S, ia_169 S, ia_170 S, ia_171 S, ia_172 S, pt_0_0 S, pt_2_0 S, pt_2_1 S, pt_0_2 S, pt_4_0 S, pt_4_1 S, pt_0_3 S, pt_6_0 S, pt_6_1 S, pt_0_4 S, pt_20_1 S, pt_20_2 S, pt_20_3 S, pt_20_4 S, pt_20_5 S, pt_0_6 S, pt_26_0 S, pt_0_7 S, pt_148_0 S, pt_148_4 S, pt_148_5 S, pt_148_6 S, pt_0_8 S, pt_153_0 S, pt_153_4 S, pt_153_5 S, pt_153_6 S, pt_0_9 S, pt_158_4 S, pt_158_5 S, pt_158_6 S, pt_158_7 S, pt_0_10 S, pt_163_0 S, pt_163_1 S, pt_163_2 S, pt_163_3 S, pt_0_11 S, pt_0_12 S, pt_0_13 S, pt_0_14 S, pt_0_15 S, pt_0_17 S]
/-- the tape tells notes -/
def isNt (h : xa_H) (n m k : Nat) : Prop := 0 < k ∧ k % 3 = 0 ∧ k ≤ 60 ∧ ∀ t, 3 * t < k → (0 ≤ xm h 174 (3 * t) ∧ xm h 174 (3 * t) < (n : Int)) ∧ (0 ≤ xm h 174 (3 * t + 1) ∧ xm h 174 (3 * t + 1) < (m : Int)) ∧ (0 ≤ xm h 174 (3 * t + 2) ∧ xm h 174 (3 * t + 2) < 2)
theorem s_areNotes {h : xa_H} {s : Nat} (S : SH h) (C : Rc h s) (T : RtB h) {k n m : Nat} (hk : k ≤ 1600) (en : xm h 199 4 = (n : Int)) (em : xm h 199 3 = (m : Int)) : ∃ r, f_X11_areNotes 0 (k : Int) h = some r ∧ ((r = 1 ∧ isNt h n m k) ∨ (r = 0 ∧ ¬ isNt h n m k)) := by
  unfold f_X11_areNotes isNt
  by_cases q1 : (k : Int) < 3
  · rw [if_pos q1]; exact ⟨0, rfl, Or.inr ⟨rfl, fun o => by omega⟩⟩
  rw [if_neg q1]
  by_cases q2 : (60 : Int) < (k : Int)
  · rw [if_pos q2]; exact ⟨0, rfl, Or.inr ⟨rfl, fun o => by omega⟩⟩
  rw [if_neg q2, Int.tmod_eq_emod_of_nonneg (by omega)]
  by_cases q3 : (k : Int) % 3 = 0
  · rw [if_pos q3]
    obtain ⟨e, he, hq⟩ := xit_inv (f := fun s => f_X11_areNotes_L21 0 (k : Int) h s) (fun u => ∃ t : Nat, 3 * t ≤ k ∧ u = ((3 * t : Nat) : Int) ∧ ∀ t', t' < t → (0 ≤ xm h 174 (3 * t') ∧ xm h 174 (3 * t') < (n : Int)) ∧ (0 ≤ xm h 174 (3 * t' + 1) ∧ xm h 174 (3 * t' + 1) < (m : Int)) ∧ (0 ≤ xm h 174 (3 * t' + 2) ∧ xm h 174 (3 * t' + 2) < 2)) (fun u => k - u.toNat)
      (fun e => (e = .inr () ∧ ∀ t, 3 * t < k → (0 ≤ xm h 174 (3 * t) ∧ xm h 174 (3 * t) < (n : Int)) ∧ (0 ≤ xm h 174 (3 * t + 1) ∧ xm h 174 (3 * t + 1) < (m : Int)) ∧ (0 ≤ xm h 174 (3 * t + 2) ∧ xm h 174 (3 * t + 2) < 2)) ∨ (e = .inl 0 ∧ ¬ ∀ t, 3 * t < k → (0 ≤ xm h 174 (3 * t) ∧ xm h 174 (3 * t) < (n : Int)) ∧ (0 ≤ xm h 174 (3 * t + 1) ∧ xm h 174 (3 * t + 1) < (m : Int)) ∧ (0 ≤ xm h 174 (3 * t + 2) ∧ xm h 174 (3 * t + 2) < 2))) 0 ⟨0, by omega, rfl, fun t' h' => by omega⟩ (by show k - (0 : Int).toNat < 1000000; omega) (by
      rintro u ⟨t, h1, rfl, h2⟩
      by_cases z : 3 * t < k
      · have z' : ((3 * t : Nat) : Int) < (k : Int) := by omega
        have b0 := s_tapeByte S T (k := 3 * t) (by omega)
        have b1 := s_tapeByte S T (k := 3 * t + 1) (by omega)
        have b2 := s_tapeByte S T (k := 3 * t + 2) (by omega)
        have g0 := T (3 * t) (by omega)
        have g1 := T (3 * t + 1) (by omega)
        have g2 := T (3 * t + 2) (by omega)
        have E : f_X11_areNotes_L21 0 (k : Int) h ((3 * t : Nat) : Int) = if (0 ≤ xm h 174 (3 * t) ∧ xm h 174 (3 * t) < (n : Int)) then (if (0 ≤ xm h 174 (3 * t + 1) ∧ xm h 174 (3 * t + 1) < (m : Int)) then (if 1 < xm h 174 (3 * t + 2) then some (.inr (.inl 0)) else some (.inl ((3 * (t + 1) : Nat) : Int))) else some (.inr (.inl 0))) else some (.inr (.inl 0)) := by
          unfold f_X11_areNotes_L21
          rw [if_pos z']
          refine (bnd (v := xm h 174 (3 * t)) (by rw [b0]; exact if_pos (ok_0 S))).trans ?_
          refine (bnd (v := if (0 ≤ xm h 174 (3 * t) ∧ xm h 174 (3 * t) < (n : Int)) then 1 else 0) (by rw [s_X11_isHolder S C, en]; exact if_pos (ok_0 S))).trans ?_
          by_cases y0 : (0 ≤ xm h 174 (3 * t) ∧ xm h 174 (3 * t) < (n : Int))
          · rw [if_pos y0, if_neg (by decide), if_pos y0]
            rw [w32_id (z := ((3 * t : Nat) : Int) + 1) (by omega) (by omega), w32_id (z := ((3 * t : Nat) : Int) + 2) (by omega) (by omega), w32_id (z := ((3 * t : Nat) : Int) + 3) (by omega) (by omega)]
            refine (bnd (v := xm h 174 (3 * t + 1)) (by rw [show ((3 * t : Nat) : Int) + 1 = ((3 * t + 1 : Nat) : Int) by omega, b1]; exact if_pos (ok_0 S))).trans ?_
            refine (bnd (v := if (0 ≤ xm h 174 (3 * t + 1) ∧ xm h 174 (3 * t + 1) < (m : Int)) then 1 else 0) (by rw [s_X11_isHeld S C, em]; exact if_pos (ok_0 S))).trans ?_
            by_cases y1 : (0 ≤ xm h 174 (3 * t + 1) ∧ xm h 174 (3 * t + 1) < (m : Int))
            · rw [if_pos y1, if_neg (by decide), if_pos y1]
              refine (bnd (v := xm h 174 (3 * t + 2)) (by rw [show ((3 * t : Nat) : Int) + 2 = ((3 * t + 2 : Nat) : Int) by omega, b2]; exact if_pos (ok_0 S))).trans ?_
              rfl
            · rw [if_neg y1, if_pos rfl, if_neg y1]
          · rw [if_neg y0, if_pos rfl, if_neg y0]
        rw [E]
        by_cases y0 : (0 ≤ xm h 174 (3 * t) ∧ xm h 174 (3 * t) < (n : Int))
        · rw [if_pos y0]
          by_cases y1 : (0 ≤ xm h 174 (3 * t + 1) ∧ xm h 174 (3 * t + 1) < (m : Int))
          · rw [if_pos y1]
            by_cases y2 : 1 < xm h 174 (3 * t + 2)
            · exact Or.inr ⟨_, if_pos y2, Or.inr ⟨rfl, fun o => by have := (o t z).2.2; omega⟩⟩
            · refine Or.inl ⟨_, if_neg y2, ⟨t + 1, by omega, rfl, fun t' ht' => ?_⟩, by omega⟩
              by_cases y : t' = t
              · subst y; exact ⟨y0, y1, by omega⟩
              · exact h2 t' (by omega)
          · exact Or.inr ⟨_, if_neg y1, Or.inr ⟨rfl, fun o => y1 (o t z).2.1⟩⟩
        · exact Or.inr ⟨_, if_neg y0, Or.inr ⟨rfl, fun o => y0 (o t z).1⟩⟩
      · refine Or.inr ⟨.inr (), ?_, Or.inl ⟨rfl, fun t' ht' => h2 t' (by omega)⟩⟩
        unfold f_X11_areNotes_L21
        rw [if_neg (by omega)])
    rw [he]
    rcases hq with ⟨rfl, o⟩ | ⟨rfl, o⟩
    · exact ⟨1, rfl, Or.inl ⟨rfl, by omega, by omega, by omega, o⟩⟩
    · exact ⟨0, rfl, Or.inr ⟨rfl, fun w => o w.2.2.2⟩⟩
  · rw [if_neg q3]
    exact ⟨0, rfl, Or.inr ⟨rfl, fun o => by omega⟩⟩
