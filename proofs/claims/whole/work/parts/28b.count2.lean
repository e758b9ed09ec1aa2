/-! ===== ways, as the class makes them ===== -/
theorem pow6 : ∀ m, m < 7 → ∀ k, k < 7 → m ^ k ≤ 46656 := by decide +kernel
theorem toB_le {ok : Nat → Nat → Bool} {m B : Nat} (hm : m ≤ 6) (hB : pcn B ≤ 6) : toB ok m B ≤ 46656 := by
  unfold toB Wk
  refine Nat.le_trans (sumN_le (g := fun _ => 1) _ (fun N _ => ?_)) ?_
  · split
    · dsimp only
      split <;> omega
    · omega
  · rw [sumN_const, Nat.mul_one]
    exact pow6 m (by omega) _ (by omega)
theorem toB_0 (ok : Nat → Nat → Bool) (m : Nat) : toB ok m 0 = 1 := by
  unfold toB
  rw [show pcn 0 = 0 from rfl]
  unfold Wk
  simp [sumN, wvb, okp, stb]
/-- what goes from B to B' -/
def cto (ok : Nat → Nat → Bool) (n : Nat) (B' B x : Nat) : Bool := decide (pcn B < n) && ok (pcn B) x && !B.testBit x && decide (B ||| 2 ^ x = B')
def arB (ok : Nat → Nat → Bool) (n m b B' : Nat) : Nat := (if B' = 0 then 1 else 0) + sumN (fun B => sumN (fun x => if cto ok n B' B x = true then toB ok m B else 0) m) b
theorem or_gt : ∀ B, B < 64 → ∀ x, x < 6 → B.testBit x = false → B < B ||| 2 ^ x := by decide +kernel
theorem cto_lt {ok : Nat → Nat → Bool} {n B' B x : Nat} (hB : B < 64) (hx : x < 6) (h : cto ok n B' B x = true) : B < B' ∧ pcn B' = pcn B + 1 ∧ pcn B' ≤ n := by
  unfold cto at h
  simp only [Bool.and_eq_true, decide_eq_true_eq, Bool.not_eq_true'] at h
  obtain ⟨⟨⟨h1, h2⟩, h3⟩, h4⟩ := h
  have := pcn_add B hB x hx h3
  rw [← h4]
  exact ⟨or_gt B hB x hx h3, this, by omega⟩
theorem p2_64 : ∀ m, m < 7 → 2 ^ m ≤ 64 := by decide
theorem toB_arB {ok : Nat → Nat → Bool} {n m B' : Nat} (hm : m ≤ 6) (hm0 : 0 < m ∨ n = 0) (hB : B' < 2 ^ m) (hp : pcn B' ≤ n) : arB ok n m (2 ^ m) B' = toB ok m B' := by
  have h64 := p2_64 m (by omega)
  unfold arB
  by_cases z : B' = 0
  · subst z
    rw [toB_0, if_pos rfl, sumN_congr (g := fun _ => 0) _ (fun B hB2 => ?_), sumN_zero]
    rw [sumN_congr (g := fun _ => 0) _ (fun x hx => if_neg (fun c => ?_)), sumN_zero]
    have := cto_lt (by omega) (by omega) c
    omega
  · have hpos : pcn B' ≠ 0 := fun e => z ((pcn_0 B' (by omega)).mp e)
    obtain ⟨k, ek⟩ : ∃ k, pcn B' = k + 1 := ⟨pcn B' - 1, by omega⟩
    have hm1 : 0 < m := by omega
    rw [if_neg z, Nat.zero_add]
    conv => rhs; unfold toB
    rw [ek, Wk_succ, Wk_group hm (Or.inl hm1)]
    refine sumN_congr _ (fun B hB2 => ?_)
    rw [Wk_at hm (Or.inl hm1)]
    unfold opx
    rw [Nat.mul_comm, ← sumN_mul]
    refine sumN_congr _ (fun x hx => ?_)
    unfold cto
    simp only [Bool.and_eq_true, decide_eq_true_eq, Bool.not_eq_true']
    by_cases a : pcn B = k
    · rw [if_pos a, a]
      by_cases c : ok k x = true <;> by_cases d : B.testBit x = false <;> by_cases e : B ||| 2 ^ x = B' <;> simp [c, d, e] <;> omega
    · rw [if_neg a, Nat.mul_zero, if_neg]
      rintro ⟨⟨⟨h1, h2⟩, h3⟩, h4⟩
      have := pcn_add B (by omega) x (by omega) h3
      rw [h4] at this
      omega
theorem sumN_stop {f : Nat → Nat} {a : Nat} : ∀ b, a ≤ b → (∀ i, a ≤ i → i < b → f i = 0) → sumN f b = sumN f a
  | 0, h, _ => by rw [Nat.le_zero.mp h]
  | b + 1, h, h0 => by
    by_cases q : a = b + 1
    · rw [q]
    · simp only [sumN]
      rw [h0 b (by omega) (by omega), Nat.add_zero, sumN_stop b (by omega) (fun i h1 h2 => h0 i h1 (by omega))]
theorem arB_at {ok : Nat → Nat → Bool} {n m B' b : Nat} (hm : m ≤ 6) (hm0 : 0 < m ∨ n = 0) (hB : B' < 2 ^ m) (hp : pcn B' ≤ n) (hb : B' ≤ b) (hb2 : b ≤ 2 ^ m) : arB ok n m b B' = toB ok m B' := by
  have h64 := p2_64 m (by omega)
  rw [← toB_arB hm hm0 hB hp]
  unfold arB
  congr 1
  refine (sumN_stop _ hb2 (fun B h1 h2 => ?_)).symm
  rw [sumN_congr (g := fun _ => 0) _ (fun x hx => if_neg (fun c => ?_)), sumN_zero]
  have := cto_lt (by omega) (by omega) c
  omega
theorem s_fill {H : xa_H} {a n : Nat} (v : Int) (hk : xk H a = (0, n)) (ha : a < xn H) (hn : n < 1000000) : f_J7_fill_53178 (a : Int) v H = some (xarr H a (fun k => if k < n then v else xm H a k)) := by
  have ia : ∀ (F : Nat → Int) (i : Int), 0 ≤ i → i < (n : Int) → xia (xarr H a F) 0 (a : Int) i = true := by
    intro F i h0 h1
    rw [xia_xarr]
    simp only [xia, Int.toNat_natCast, hk]
    simp
    omega
  have hl := xit_seq (f := fun s => f_J7_fill_53178_L5 (a : Int) v (n : Int) s.1 s.2) (fun i => ((i : Int), xarr H a (fun k => if k < i then v else xm H a k))) n (xarr H a (fun k => if k < n then v else xm H a k)) (fun i hi => by
    have q : (i : Int) < (n : Int) := by omega
    unfold f_J7_fill_53178_L5
    rw [if_pos q]
    refine (bnd (v := xset (xarr H a (fun k => if k < i then v else xm H a k)) a i v) ?_).trans ?_
    · unfold xas
      rw [if_pos (ia _ _ (by omega) q)]
      rfl
    rw [w32_id (by omega) (by omega)]
    refine congrArg some (congrArg Sum.inl (Prod.ext rfl ?_))
    dsimp only
    rw [xset_xarr]
    refine xarr_congr _ _ (fun k => ?_)
    by_cases p : k = i
    · rw [if_pos p, if_pos (by omega)]
    · rw [if_neg p]
      by_cases p2 : k < i
      · rw [if_pos p2, if_pos (by omega)]
      · rw [if_neg p2, if_neg (by omega)]) (by
    unfold f_J7_fill_53178_L5
    dsimp only
    rw [if_neg (by omega)]) (by omega)
  unfold f_J7_fill_53178
  refine (bnd (v := (n : Int)) ?_).trans ?_
  · unfold xln
    simp only [Int.toNat_natCast, hk]
    rw [if_pos]
    simp
    omega
  rw [show ((0 : Int), H) = (((0 : Nat) : Int), xarr H a (fun k => if k < 0 then v else xm H a k)) from Prod.ext rfl (by
    dsimp only
    rw [show (fun k => if k < 0 then v else xm H a k) = xm H a from funext fun k => if_neg (by omega)]
    exact (xarr_self H a).symm)]
  exact (bnd hl).trans rfl
/-- what the notes rest on -/
def NS (H : xa_H) (ok : Nat → Nat → Bool) (n m : Nat) : Prop := SH H ∧ n ≤ 6 ∧ m ≤ 6 ∧ (0 < m ∨ n = 0) ∧ xm H 158 2 = (n : Int) ∧ xm H 158 3 = (m : Int) ∧ ∀ i, i < n → ∃ al : Nat, al < 64 ∧ xm H 159 i = (al : Int) ∧ ∀ x, x < 6 → (al.testBit x = true ↔ x < m ∧ ok i x = true)
theorem NS.arr {H : xa_H} {ok : Nat → Nat → Bool} {n m : Nat} (N : NS H ok n m) {a : Nat} (F : Nat → Int) (ha : a = 160 ∨ a = 161 ∨ a = 162) : NS (xarr H a F) ok n m := by
  obtain ⟨S, h1, h2, h3, h4, h5, h6⟩ := N
  refine ⟨?_, h1, h2, h3, ?_, ?_, fun i hi => ?_⟩
  · rcases ha with rfl | rfl | rfl <;> exact S.arr (by decide +kernel)
  · rw [xm_xarr, if_neg (by omega)]; exact h4
  · rw [xm_xarr, if_neg (by omega)]; exact h5
  · rw [xm_xarr, if_neg (by omega)]; exact h6 i hi
theorem pc_or64 {B x : Nat} (hB : B < 64) (hx : x < 6) : B ||| 2 ^ x < 64 := (b_set B hB x hx).2
/-- the open ones of a holder, as bits -/
theorem open_bits {al B : Nat} (h1 : al < 64) (h2 : B < 64) : xand (al : Int) (xxor (B : Int) (-1)) = ((al &&& (63 ^^^ B) : Nat) : Int) ∧ al &&& (63 ^^^ B) < 64 ∧ ∀ x, x < 6 → ((al &&& (63 ^^^ B)).testBit x = true ↔ al.testBit x = true ∧ B.testBit x = false) := by
  refine ⟨tb_and63 al h1 B h2, Nat.lt_of_le_of_lt Nat.and_le_left h1, fun x hx => ?_⟩
  rw [Nat.testBit_and, Bool.and_eq_true, tb_63 B h2 x hx]
  simp
/-- the array of ways to, while the held x of B are gone through -/
def arX (ok : Nat → Nat → Bool) (n m b x : Nat) (k : Nat) : Int := ((arB ok n m b k + sumN (fun y => if cto ok n k b y = true then toB ok m b else 0) x : Nat) : Int)
theorem arX_0 (ok : Nat → Nat → Bool) (n m b k : Nat) : arX ok n m b 0 k = ((arB ok n m b k : Nat) : Int) := rfl
theorem arX_m (ok : Nat → Nat → Bool) (n m b k : Nat) : arX ok n m b m k = arX ok n m (b + 1) 0 k := by
  unfold arX arB
  simp only [sumN]
  congr 1
  omega
theorem s_reckonTo {H : xa_H} {ok : Nat → Nat → Bool} {n m b : Nat} (N : NS H ok n m) (hb : b < 2 ^ m) (F : Nat → Int) : f_X5_reckonTo 158 (b : Int) (xarr H 160 (fun k => if k < 64 then arX ok n m b 0 k else F k)) = some (xarr H 160 (fun k => if k < 64 then arX ok n m (b + 1) 0 k else F k)) := by
  have N0 := N.arr (a := 160) (fun k => if k < 64 then arX ok n m b 0 k else F k) (by omega)
  obtain ⟨S, hn6, hm6, hm0, en, em, hal⟩ := N0
  have h64 := p2_64 m (by omega)
  have hb6 : b < 64 := by omega
  have hbs : f_J6_bitCount_0f7a4 (b : Int) (xarr H 160 (fun k => if k < 64 then arX ok n m b 0 k else F k)) = some ((pcn b : Nat) : Int) := s_bitCount hb6 _
  unfold f_X5_reckonTo
  refine (bnd hbs).trans ?_
  refine (bnd (xgf_eq (a := 158) (ok_158 S) en)).trans ?_
  by_cases q : pcn b < n
  · obtain ⟨al, al1, al2, al3⟩ := hal (pcn b) q
    obtain ⟨o1, o2, o3⟩ := open_bits al1 hb6
    rw [if_pos (by omega)]
    refine (bnd (xgf_eq (a := 158) (ok_158 S) (pt_158_4 S))).trans ?_
    refine (bnd (v := (al : Int)) ?_).trans ?_
    · unfold xal
      rw [if_pos (ia_159 S (by omega) (by omega))]
      exact congrArg some al2
    rw [o1]
    have hl := xit_seq (f := fun s => f_X5_reckonTo_L28 158 (b : Int) ((al &&& (63 ^^^ b) : Nat) : Int) s.1 s.2) (fun x => ((x : Int), xarr H 160 (fun k => if k < 64 then arX ok n m b x k else F k))) m (xarr H 160 (fun k => if k < 64 then arX ok n m b m k else F k)) (fun x hx => by
      have N1 := N.arr (a := 160) (fun k => if k < 64 then arX ok n m b x k else F k) (by omega)
      have S1 := N1.1
      have em1 := N1.2.2.2.2.2.1
      have qx : (x : Int) < (m : Int) := by omega
      have hor := pc_or64 hb6 (x := x) (by omega)
      unfold f_X5_reckonTo_L28
      refine (bnd (xgf_eq (a := 158) (ok_158 S1) em1)).trans ?_
      rw [if_pos qx, b_bit _ o2 x (by omega)]
      have eb : xm (xarr H 160 (fun k => if k < 64 then arX ok n m b x k else F k)) 160 b = ((toB ok m b : Nat) : Int) := by
        rw [xm_xarr, if_pos rfl, if_pos hb6]
        unfold arX
        rw [arB_at hm6 hm0 hb (by omega) (Nat.le_refl _) (by omega), sumN_congr (g := fun _ => 0) x (fun y hy => if_neg (fun c => ?_)), sumN_zero, Nat.add_zero]
        have := cto_lt hb6 (by omega) c
        omega
      by_cases z : (al &&& (63 ^^^ b)).testBit x = true
      · rw [z]
        have zz := (o3 x (by omega)).mp z
        have okx := ((al3 x (by omega)).mp zz.1).2
        have hc : cto ok n (b ||| 2 ^ x) b x = true := by
          unfold cto
          simp [q, okx, zz.2]
        have hpc := cto_lt hb6 (by omega) hc
        have hlt : b ||| 2 ^ x < 2 ^ m := Nat.or_lt_two_pow hb (Nat.pow_lt_pow_right (by decide) hx)
        simp only [if_true]
        have en' : xm (xarr H 160 (fun k => if k < 64 then arX ok n m b x k else F k)) 160 (b ||| 2 ^ x) = arX ok n m b x (b ||| 2 ^ x) := by
          rw [xm_xarr, if_pos rfl, if_pos hor]
        have bound : arX ok n m b x (b ||| 2 ^ x) + ((toB ok m b : Nat) : Int) ≤ 46656 ∧ 0 ≤ arX ok n m b x (b ||| 2 ^ x) := by
          have b1 : toB ok m (b ||| 2 ^ x) ≤ 46656 := toB_le hm6 (pcn_6 _ hor)
          rw [← arB_at (b := b ||| 2 ^ x) hm6 hm0 hlt hpc.2.2 (Nat.le_refl _) (by omega)] at b1
          have b2 : arB ok n m b (b ||| 2 ^ x) + sumN (fun y => if cto ok n (b ||| 2 ^ x) b y = true then toB ok m b else 0) (x + 1) ≤ arB ok n m (b ||| 2 ^ x) (b ||| 2 ^ x) := by
            have c1 : sumN (fun y => if cto ok n (b ||| 2 ^ x) b y = true then toB ok m b else 0) (x + 1) ≤ sumN (fun y => if cto ok n (b ||| 2 ^ x) b y = true then toB ok m b else 0) m := sumN_mono _ (by omega)
            have c2 : sumN (fun B => sumN (fun x' => if cto ok n (b ||| 2 ^ x) B x' = true then toB ok m B else 0) m) (b + 1) ≤ sumN (fun B => sumN (fun x' => if cto ok n (b ||| 2 ^ x) B x' = true then toB ok m B else 0) m) (b ||| 2 ^ x) := sumN_mono _ (by omega)
            unfold arB
            simp only [sumN] at c2
            omega
          simp only [sumN] at b2
          rw [if_pos hc] at b2
          unfold arX
          omega
        simp (disch := omega) only [↓reduceIte, ↓bbind, ↓bxgf, ↓bxpf, ↓bxal, ↓bxas, ↓bxrc, ↓exrc, Int.reduceEq, Int.reduceLT, Int.reduceNeg, Int.reduceToNat, Int.toNat_natCast, Option.bind_some, if_true, if_false, reduceIte, ok_158 S1, pt_158_5 S1, (b_set b hb6 x (by omega)).1, ia_160 S1, en', eb]
        rw [w32_id (z := arX ok n m b x (b ||| 2 ^ x) + ((toB ok m b : Nat) : Int)) (by omega) (by omega), w32_id (by omega) (by omega), xset_xarr]
        refine congrArg some (congrArg Sum.inl (Prod.ext rfl ?_))
        dsimp only
        refine xarr_congr _ _ (fun k => ?_)
        by_cases p : k = b ||| 2 ^ x
        · subst p
          rw [if_pos rfl, if_pos hor]
          unfold arX
          simp only [sumN]
          rw [if_pos hc]
          omega
        · rw [if_neg p]
          by_cases p2 : k < 64
          · rw [if_pos p2, if_pos p2]
            unfold arX
            simp only [sumN]
            rw [if_neg (fun c => p ?_)]
            · omega
            · unfold cto at c
              simp only [Bool.and_eq_true, decide_eq_true_eq] at c
              exact c.2.symm
          · rw [if_neg p2, if_neg p2]
      · have z' : (al &&& (63 ^^^ b)).testBit x = false := by simpa using z
        rw [z']
        simp only [Bool.false_eq_true, if_false]
        rw [if_neg (by decide), w32_id (by omega) (by omega)]
        refine congrArg some (congrArg Sum.inl (Prod.ext rfl ?_))
        dsimp only
        refine xarr_congr _ _ (fun k => ?_)
        by_cases p2 : k < 64
        · rw [if_pos p2, if_pos p2]
          unfold arX
          simp only [sumN]
          rw [if_neg (fun c => z ?_)]
          · omega
          · unfold cto at c
            simp only [Bool.and_eq_true, decide_eq_true_eq, Bool.not_eq_true'] at c
            exact (o3 x (by omega)).mpr ⟨(al3 x (by omega)).mpr ⟨hx, c.1.1.2⟩, c.1.2⟩
        · rw [if_neg p2, if_neg p2]) (by
      have N1 := N.arr (a := 160) (fun k => if k < 64 then arX ok n m b m k else F k) (by omega)
      unfold f_X5_reckonTo_L28
      dsimp only
      refine (bnd (xgf_eq (a := 158) (ok_158 N1.1) N1.2.2.2.2.2.1)).trans ?_
      rw [if_neg (by omega)]) (by omega)
    refine (bnd hl).trans ?_
    exact congrArg some (xarr_congr _ _ (fun k => by simp only [arX_m]))
  · rw [if_neg (by omega)]
    refine congrArg some (xarr_congr _ _ (fun k => ?_))
    by_cases p2 : k < 64
    · rw [if_pos p2, if_pos p2, ← arX_m]
      unfold arX
      rw [sumN_congr (g := fun _ => 0) m (fun y hy => if_neg (fun c => ?_)), sumN_zero]
      · rfl
      · unfold cto at c
        simp only [Bool.and_eq_true, decide_eq_true_eq] at c
        omega
    · rw [if_neg p2, if_neg p2]
