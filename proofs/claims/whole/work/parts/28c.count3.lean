/-! ===== ways from, how often each ===== -/
theorem frd_le {ok : Nat → Nat → Bool} {m n : Nat} : ∀ d B, frd ok m n d B ≤ m ^ d
  | 0, _ => by simp [frd]
  | d + 1, B => by
    simp only [frd, opx]
    refine Nat.le_trans (sumN_le (g := fun _ => m ^ d) m (fun x _ => ?_)) ?_
    · split
      · exact frd_le d _
      · exact Nat.zero_le _
    · rw [sumN_const, Nat.pow_succ']
      exact Nat.le_refl _
def frv (ok : Nat → Nat → Bool) (m n B : Nat) : Nat := if pcn B ≤ n then frd ok m n (n - pcn B) B else 0
/-- how often i has x by way of B -/
def cti (ok : Nat → Nat → Bool) (m n i x B : Nat) : Nat := if pcn B = i ∧ ok i x = true ∧ B.testBit x = false then toB ok m B * frd ok m n (n - i - 1) (B ||| 2 ^ x) else 0
theorem cti_tot {ok : Nat → Nat → Bool} {m n i x : Nat} (hm : m ≤ 6) (hi : i < n) (hx : x < m) : sumN (cti ok m n i x) (2 ^ m) = sumN (fun N => if (wvb m N n = true ∧ okp ok m N n = true) ∧ dgm m i N = x then 1 else 0) (m ^ n) := by
  rw [Wk_given hi hx, Wk_group hm (Or.inl (by omega))]
  refine sumN_congr _ (fun B _ => ?_)
  rw [Wk_at hm (Or.inl (by omega))]
  unfold cti
  by_cases a : pcn B = i
  · by_cases c : ok i x = true ∧ B.testBit x = false
    · simp only [a, c, and_self, if_true]
    · rw [if_neg (fun w => c w.2), if_neg c, Nat.mul_zero]
  · rw [if_neg (fun w => a w.1), if_neg a, Nat.zero_mul]
theorem cti_le {ok : Nat → Nat → Bool} {m n i x : Nat} (hm : m ≤ 6) (hn : n ≤ 6) (hi : i < n) (hx : x < m) : sumN (cti ok m n i x) (2 ^ m) ≤ 46656 := by
  rw [cti_tot hm hi hx]
  refine Nat.le_trans (sumN_le (g := fun _ => 1) _ (fun N _ => by split <;> omega)) ?_
  rw [sumN_const, Nat.mul_one]
  exact pow6 m (by omega) n (by omega)
/-- behind all from b on -/
def frA (ok : Nat → Nat → Bool) (m n b k : Nat) : Int := if b ≤ k ∧ k < 2 ^ m then ((frv ok m n k : Nat) : Int) else 0
def cvA (ok : Nat → Nat → Bool) (m n b k : Nat) : Int := if k / 6 < n ∧ k % 6 < m then ((sumN (cti ok m n (k / 6) (k % 6)) (2 ^ m) - sumN (cti ok m n (k / 6) (k % 6)) b : Nat) : Int) else 0
def frX (ok : Nat → Nat → Bool) (m n b x k : Nat) : Int := if k = b then ((sumN (fun y => if ok (pcn b) y = true ∧ b.testBit y = false then frd ok m n (n - pcn b - 1) (b ||| 2 ^ y) else 0) x : Nat) : Int) else frA ok m n (b + 1) k
def cvX (ok : Nat → Nat → Bool) (m n b x k : Nat) : Int := if k / 6 = pcn b ∧ k % 6 < x then cvA ok m n b k else cvA ok m n (b + 1) k
theorem cvA_same {ok : Nat → Nat → Bool} {m n b k : Nat} (hb : b < 2 ^ m) (h : k / 6 ≠ pcn b ∨ ¬ (ok (pcn b) (k % 6) = true ∧ b.testBit (k % 6) = false)) : cvA ok m n (b + 1) k = cvA ok m n b k := by
  unfold cvA
  by_cases q : k / 6 < n ∧ k % 6 < m
  · rw [if_pos q, if_pos q]
    simp only [sumN]
    rw [show cti ok m n (k / 6) (k % 6) b = 0 from if_neg (fun w => by
      rcases h with h | h
      · exact h w.1.symm
      · rw [w.1] at h
        exact h w.2), Nat.add_zero]
  · rw [if_neg q, if_neg q]
theorem s_reckonFrom {H : xa_H} {ok : Nat → Nat → Bool} {n m b : Nat} (N : NS H ok n m) (hb : b < 2 ^ m) (hT : ∀ k, k < 2 ^ m → pcn k < n → xm H 160 k = ((toB ok m k : Nat) : Int)) (F G : Nat → Int) : f_X5_reckonFrom 158 (b : Int) (xarr (xarr H 161 (fun k => if k < 64 then frA ok m n (b + 1) k else F k)) 162 (fun k => if k < 36 then cvA ok m n (b + 1) k else G k)) = some (xarr (xarr H 161 (fun k => if k < 64 then frA ok m n b k else F k)) 162 (fun k => if k < 36 then cvA ok m n b k else G k)) := by
  have h64 := p2_64 m (by have := N.2.2.1; omega)
  have hb6 : b < 64 := by omega
  have hn6 := N.2.1
  have hm6 := N.2.2.1
  have hal := N.2.2.2.2.2.2
  obtain ⟨H0, e0⟩ : ∃ H0, H0 = xarr (xarr H 161 (fun k => if k < 64 then frA ok m n (b + 1) k else F k)) 162 (fun k => if k < 36 then cvA ok m n (b + 1) k else G k) := ⟨_, rfl⟩
  have N0 : NS H0 ok n m := by rw [e0]; exact (N.arr _ (by omega)).arr _ (by omega)
  have S := N0.1
  rw [← e0]
  unfold f_X5_reckonFrom
  refine (bnd (s_bitCount hb6 _)).trans ?_
  refine (bnd (xgf_eq (a := 158) (ok_158 S) N0.2.2.2.2.1)).trans ?_
  by_cases q : pcn b < n
  · obtain ⟨al, al1, al2, al3⟩ := hal (pcn b) q
    obtain ⟨o1, o2, o3⟩ := open_bits al1 hb6
    rw [if_pos (by omega)]
    refine (bnd (xgf_eq (a := 158) (ok_158 S) (pt_158_4 S))).trans ?_
    refine (bnd (v := (al : Int)) ?_).trans ?_
    · unfold xal
      rw [if_pos (ia_159 S (by omega) (by omega))]
      refine congrArg some ?_
      rw [e0, Int.toNat_natCast]
      show xm (xarr (xarr H 161 _) 162 _) 159 (pcn b) = _
      rw [xm_xarr, if_neg (by omega), xm_xarr, if_neg (by omega)]
      exact al2
    rw [o1]
    have hl := xit_seq (f := fun s => f_X5_reckonFrom_L47 158 (b : Int) ((pcn b : Nat) : Int) ((al &&& (63 ^^^ b) : Nat) : Int) s.1 s.2) (fun x => ((x : Int), xarr (xarr H 161 (fun k => if k < 64 then frX ok m n b x k else F k)) 162 (fun k => if k < 36 then cvX ok m n b x k else G k))) m (xarr (xarr H 161 (fun k => if k < 64 then frX ok m n b m k else F k)) 162 (fun k => if k < 36 then cvX ok m n b m k else G k)) (fun x hx => by
      obtain ⟨H1, e1⟩ : ∃ H1, H1 = xarr (xarr H 161 (fun k => if k < 64 then frX ok m n b x k else F k)) 162 (fun k => if k < 36 then cvX ok m n b x k else G k) := ⟨_, rfl⟩
      have N1 : NS H1 ok n m := by rw [e1]; exact (N.arr _ (by omega)).arr _ (by omega)
      have S1 := N1.1
      have qx : (x : Int) < (m : Int) := by omega
      have hor := pc_or64 hb6 (x := x) (by omega)
      have em1 := N1.2.2.2.2.2.1
      dsimp only
      rw [← e1]
      unfold f_X5_reckonFrom_L47
      refine (bnd (xgf_eq (a := 158) (ok_158 S1) em1)).trans ?_
      rw [if_pos qx, b_bit _ o2 x (by omega)]
      by_cases z : (al &&& (63 ^^^ b)).testBit x = true
      · rw [z]
        have zz := (o3 x (by omega)).mp z
        have okx := ((al3 x (by omega)).mp zz.1).2
        have hpa := pcn_add b hb6 x (by omega) zz.2
        have hgt := or_gt b hb6 x (by omega) zz.2
        have hlt : b ||| 2 ^ x < 2 ^ m := Nat.or_lt_two_pow hb (Nat.pow_lt_pow_right (by decide) hx)
        have v10 : xm H1 161 (b ||| 2 ^ x) = ((frd ok m n (n - pcn b - 1) (b ||| 2 ^ x) : Nat) : Int) := by
          rw [e1, xm_xarr, if_neg (by omega), xm_xarr, if_pos rfl, if_pos hor]
          unfold frX frA frv
          rw [if_neg (by omega), if_pos ⟨by omega, hlt⟩, if_pos (by omega), hpa, show n - (pcn b + 1) = n - pcn b - 1 by omega]
        have v12 : xm H1 161 b = ((sumN (fun y => if ok (pcn b) y = true ∧ b.testBit y = false then frd ok m n (n - pcn b - 1) (b ||| 2 ^ y) else 0) x : Nat) : Int) := by
          rw [e1, xm_xarr, if_neg (by omega), xm_xarr, if_pos rfl, if_pos hb6]
          unfold frX
          rw [if_pos rfl]
        have v17 : xm H1 160 b = ((toB ok m b : Nat) : Int) := by
          rw [e1, xm_xarr, if_neg (by omega), xm_xarr, if_neg (by omega)]
          exact hT b hb q
        have dm : (pcn b * 6 + x) / 6 = pcn b ∧ (pcn b * 6 + x) % 6 = x := by omega
        have v15 : xm H1 162 (pcn b * 6 + x) = cvA ok m n (b + 1) (pcn b * 6 + x) := by
          rw [e1, xm_xarr, if_pos rfl, if_pos (by omega)]
          unfold cvX
          rw [if_neg (by omega)]
        have ctb : cti ok m n (pcn b) x b = toB ok m b * frd ok m n (n - pcn b - 1) (b ||| 2 ^ x) := if_pos ⟨rfl, okx, zz.2⟩
        have tot := cti_le (ok := ok) hm6 hn6 q hx
        have part : sumN (cti ok m n (pcn b) x) b + cti ok m n (pcn b) x b ≤ sumN (cti ok m n (pcn b) x) (2 ^ m) := sumN_mono (a := b + 1) _ (by omega)
        have c15 : cvA ok m n (b + 1) (pcn b * 6 + x) = ((sumN (cti ok m n (pcn b) x) (2 ^ m) - sumN (cti ok m n (pcn b) x) (b + 1) : Nat) : Int) := by
          unfold cvA
          rw [dm.1, dm.2, if_pos ⟨q, hx⟩]
        have c15' : cvA ok m n b (pcn b * 6 + x) = ((sumN (cti ok m n (pcn b) x) (2 ^ m) - sumN (cti ok m n (pcn b) x) b : Nat) : Int) := by
          unfold cvA
          rw [dm.1, dm.2, if_pos ⟨q, hx⟩]
        have fsum : sumN (fun y => if ok (pcn b) y = true ∧ b.testBit y = false then frd ok m n (n - pcn b - 1) (b ||| 2 ^ y) else 0) (x + 1) ≤ 46656 := by
          refine Nat.le_trans (sumN_mono m (by omega)) ?_
          have f1 : opx ok m (pcn b) (frd ok m n (n - pcn b - 1)) b ≤ m * m ^ (n - pcn b - 1) := by
            unfold opx
            refine Nat.le_trans (sumN_le (g := fun _ => m ^ (n - pcn b - 1)) m (fun y _ => ?_)) (by rw [sumN_const]; exact Nat.le_refl _)
            split
            · exact frd_le _ _
            · exact Nat.zero_le _
          have f2 : m * m ^ (n - pcn b - 1) ≤ 46656 := by
            rw [← Nat.pow_succ']
            exact pow6 m (by omega) _ (by omega)
          exact Nat.le_trans f1 f2
        simp only [sumN] at fsum
        rw [if_pos ⟨okx, zz.2⟩] at fsum
        have emul : ((toB ok m b : Nat) : Int) * ((frd ok m n (n - pcn b - 1) (b ||| 2 ^ x) : Nat) : Int) = ((cti ok m n (pcn b) x b : Nat) : Int) := by
          rw [ctb]; exact (Int.natCast_mul _ _).symm
        have p6 := pcn_6 b hb6
        simp only [if_true]
        simp (disch := omega) only [↓reduceIte, ↓bbind, ↓bxgf, ↓bxpf, ↓bxal, ↓bxas, ↓bxrc, ↓exrc, Int.reduceEq, Int.reduceLT, Int.reduceNeg, Int.reduceToNat, Int.toNat_natCast, Option.bind_some, if_true, if_false, reduceIte, ok_158 S1, pt_158_6 S1, pt_158_7 S1, pt_158_5 S1, (b_set b hb6 x (by omega)).1, ia_161 S1, ia_160 S1, ia_162 S1, xok_xset, xia_xset, xm_xset, Nat.reduceEqDiff, false_and, v10, v12, v15, v17, w32_id, Int.toNat_add, Int.toNat_mul, emul]
        rw [c15]
        refine congrArg some (congrArg Sum.inl (Prod.ext rfl ?_))
        dsimp only
        rw [e1]
        refine xheq rfl rfl rfl (fun y k => ?_)
        simp only [xm_xset, xm_xarr]
        by_cases p1 : y = 162
        · subst p1
          simp only [true_and, if_true]
          by_cases p2 : k = pcn b * 6 + x
          · subst p2
            rw [if_pos rfl, if_pos (by omega)]
            unfold cvX
            rw [if_pos ⟨dm.1, by omega⟩, c15']
            simp only [sumN]
            omega
          · rw [if_neg p2]
            by_cases p3 : k < 36
            · simp only [Nat.reduceEqDiff, false_and, if_false]
              rw [if_pos p3, if_pos p3]
              unfold cvX
              by_cases p4 : k / 6 = pcn b ∧ k % 6 < x
              · rw [if_pos p4, if_pos ⟨p4.1, by omega⟩]
              · rw [if_neg p4, if_neg (by omega)]
            · simp only [Nat.reduceEqDiff, false_and, if_false]
              rw [if_neg p3, if_neg p3]
        · simp only [p1, false_and, if_false]
          by_cases p5 : y = 161
          · subst p5
            simp only [true_and, if_true]
            by_cases p2 : k = b
            · subst p2
              rw [if_pos rfl, if_pos hb6]
              unfold frX
              rw [if_pos rfl]
              simp only [sumN]
              rw [if_pos ⟨okx, zz.2⟩]
              omega
            · rw [if_neg p2]
              by_cases p3 : k < 64
              · rw [if_pos p3, if_pos p3]
                unfold frX
                rw [if_neg p2, if_neg p2]
              · rw [if_neg p3, if_neg p3]
          · simp only [p5, false_and, if_false]
      · have z' : (al &&& (63 ^^^ b)).testBit x = false := by simpa using z
        have no : ¬ (ok (pcn b) x = true ∧ b.testBit x = false) := fun w => z ((o3 x (by omega)).mpr ⟨(al3 x (by omega)).mpr ⟨hx, w.1⟩, w.2⟩)
        rw [z']
        simp only [Bool.false_eq_true, if_false]
        rw [if_neg (by decide), w32_id (by omega) (by omega)]
        refine congrArg some (congrArg Sum.inl (Prod.ext rfl ?_))
        dsimp only
        rw [e1]
        refine xheq rfl rfl rfl (fun y k => ?_)
        simp only [xm_xarr]
        by_cases p1 : y = 162
        · subst p1
          simp only [if_true]
          by_cases p3 : k < 36
          · rw [if_pos p3, if_pos p3]
            unfold cvX
            by_cases p4 : k / 6 = pcn b ∧ k % 6 < x
            · rw [if_pos p4, if_pos ⟨p4.1, by omega⟩]
            · rw [if_neg p4]
              by_cases p5 : k / 6 = pcn b ∧ k % 6 < x + 1
              · rw [if_pos p5]
                have : k % 6 = x := by omega
                exact cvA_same hb (Or.inr (by rw [this]; exact no))
              · rw [if_neg p5]
          · rw [if_neg p3, if_neg p3]
        · simp only [p1, if_false]
          by_cases p5 : y = 161
          · subst p5
            simp only [if_true]
            by_cases p3 : k < 64
            · rw [if_pos p3, if_pos p3]
              unfold frX
              simp only [sumN, if_neg no, Nat.add_zero]
            · rw [if_neg p3, if_neg p3]
          · simp only [p5, if_false]) (by
      obtain ⟨H1, e1⟩ : ∃ H1, H1 = xarr (xarr H 161 (fun k => if k < 64 then frX ok m n b m k else F k)) 162 (fun k => if k < 36 then cvX ok m n b m k else G k) := ⟨_, rfl⟩
      have N1 : NS H1 ok n m := by rw [e1]; exact (N.arr _ (by omega)).arr _ (by omega)
      dsimp only
      rw [← e1]
      unfold f_X5_reckonFrom_L47
      refine (bnd (xgf_eq (a := 158) (ok_158 N1.1) N1.2.2.2.2.2.1)).trans ?_
      rw [if_neg (by omega)]) (by omega)
    have hz : ((0 : Int), H0) = (((0 : Nat) : Int), xarr (xarr H 161 (fun k => if k < 64 then frX ok m n b 0 k else F k)) 162 (fun k => if k < 36 then cvX ok m n b 0 k else G k)) := by
      refine Prod.ext rfl ?_
      dsimp only
      rw [e0]
      refine xheq rfl rfl rfl (fun y k => ?_)
      simp only [xm_xarr]
      by_cases p1 : y = 162
      · subst p1
        simp only [if_true]
        unfold cvX
        rw [if_neg (fun w : k / 6 = pcn b ∧ k % 6 < 0 => by omega)]
      · simp only [p1, if_false]
        by_cases p5 : y = 161
        · subst p5
          simp only [if_true]
          unfold frX
          by_cases p2 : k = b
          · subst p2
            rw [if_pos rfl, if_pos hb6, if_pos hb6]
            unfold frA
            rw [if_neg (by omega)]
            rfl
          · rw [if_neg p2]
        · simp only [p5, if_false]
    rw [hz]
    refine (bnd hl).trans (congrArg some ?_)
    refine xheq rfl rfl rfl (fun y k => ?_)
    simp only [xm_xarr]
    by_cases p1 : y = 162
    · subst p1
      simp only [if_true]
      by_cases p3 : k < 36
      · rw [if_pos p3, if_pos p3]
        unfold cvX
        by_cases p4 : k / 6 = pcn b ∧ k % 6 < m
        · rw [if_pos p4]
        · rw [if_neg p4]
          by_cases p5 : k / 6 = pcn b
          · unfold cvA
            rw [if_neg (by omega), if_neg (by omega)]
          · exact cvA_same hb (Or.inl p5)
      · rw [if_neg p3, if_neg p3]
    · simp only [p1, if_false]
      by_cases p5 : y = 161
      · subst p5
        simp only [if_true]
        by_cases p3 : k < 64
        · rw [if_pos p3, if_pos p3]
          unfold frX
          by_cases p2 : k = b
          · subst p2
            rw [if_pos rfl]
            unfold frA frv
            rw [if_pos ⟨Nat.le_refl _, hb⟩, if_pos (by omega)]
            obtain ⟨d, ed⟩ : ∃ d, n - pcn k = d + 1 := ⟨n - pcn k - 1, by omega⟩
            rw [ed]
            simp only [frd, opx]
            rw [show n - (d + 1) = pcn k by omega, show d + 1 - 1 = d by omega]
          · rw [if_neg p2]
            unfold frA
            by_cases p6 : b + 1 ≤ k ∧ k < 2 ^ m
            · rw [if_pos p6, if_pos ⟨by omega, p6.2⟩]
            · rw [if_neg p6, if_neg (by omega)]
        · rw [if_neg p3, if_neg p3]
      · simp only [p5, if_false]
  · rw [if_neg (by omega)]
    have fin : ∀ v : Int, v = ((frv ok m n b : Nat) : Int) → xset H0 161 b v = xarr (xarr H 161 (fun k => if k < 64 then frA ok m n b k else F k)) 162 (fun k => if k < 36 then cvA ok m n b k else G k) := by
      intro v hv
      rw [e0]
      refine xheq rfl rfl rfl (fun y k => ?_)
      simp only [xm_xset, xm_xarr]
      by_cases p1 : y = 162
      · subst p1
        simp only [if_true, Nat.reduceEqDiff, false_and, if_false]
        by_cases p3 : k < 36
        · rw [if_pos p3, if_pos p3]
          by_cases p4 : k / 6 = pcn b
          · unfold cvA
            rw [if_neg (by omega), if_neg (by omega)]
          · exact cvA_same hb (Or.inl p4)
        · rw [if_neg p3, if_neg p3]
      · simp only [p1, if_false]
        by_cases p5 : y = 161
        · subst p5
          simp only [true_and, if_true]
          by_cases p2 : k = b
          · subst p2
            rw [if_pos rfl, if_pos hb6]
            unfold frA
            rw [if_pos ⟨Nat.le_refl _, hb⟩, hv]
          · rw [if_neg p2]
            by_cases p3 : k < 64
            · rw [if_pos p3, if_pos p3]
              unfold frA
              by_cases p6 : b + 1 ≤ k ∧ k < 2 ^ m
              · rw [if_pos p6, if_pos ⟨by omega, p6.2⟩]
              · rw [if_neg p6, if_neg (by omega)]
            · rw [if_neg p3, if_neg p3]
        · simp only [p5, false_and, if_false]
    refine (bnd (xgf_eq (a := 158) (ok_158 S) (pt_158_6 S))).trans ?_
    refine (bnd (xgf_eq (a := 158) (ok_158 S) N0.2.2.2.2.1)).trans ?_
    by_cases z : pcn b = n
    · rw [if_pos (by omega)]
      refine (bnd (v := xset H0 161 b 1) ?_).trans (congrArg some (fin 1 ?_))
      · unfold xas
        rw [if_pos (ia_161 S (by omega) (by omega))]
        rfl
      · unfold frv
        rw [if_pos (by omega), show n - pcn b = 0 by omega]
        rfl
    · rw [if_neg (by omega)]
      refine (bnd (v := xset H0 161 b 0) ?_).trans (congrArg some (fin 0 ?_))
      · unfold xas
        rw [if_pos (ia_161 S (by omega) (by omega))]
        rfl
      · unfold frv
        rw [if_neg (by omega)]
        rfl
