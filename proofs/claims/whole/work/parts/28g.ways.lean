/-! ===== ways of the reference ===== -/
theorem dgm_lt {m i N : Nat} (hm : 0 < m) : dgm m i N < m := Nat.mod_lt _ hm
theorem s_isWay {g : xa_H} {s : Nat} (S : SH g) (C : Rc g s) {n m r N : Nat} (en : xm g 199 4 = (n : Int)) (em : xm g 199 3 = (m : Int)) (er : xm g 173 70 = (r : Int)) (hr : r ≤ 20) (hm0 : 0 < m ∨ n = 0) (hN : N < 46656) (hb : ∀ k, k < r → (0 ≤ xm g 222 (3 * k) ∧ xm g 222 (3 * k) < (n : Int))) : ∃ b F, f_X12_isWay 173 (N : Int) g = some (b, xarr g 218 F) ∧ ((b = 1 ∧ wayb n m (xm g 222) r N = true ∧ ∀ i, i < n → F i = ((dgm m i N : Nat) : Int)) ∨ (b = 0 ∧ wayb n m (xm g 222) r N = false)) := by
  have hn := rc_n C
  have hm := rc_m C
  have hn6 : n ≤ 6 := by omega
  have hm6 : m ≤ 6 := by omega
  obtain ⟨e, he, hq⟩ := xit_inv (f := fun s => f_X12_isWay_L7 173 s.1 s.2.1 s.2.2.1 s.2.2.2) (fun u => ∃ i : Nat, i ≤ n ∧ u = (((N / m ^ i : Nat) : Int), ((stb m N i : Nat) : Int), (i : Int), xarr g 218 (fun k => if k < i then ((dgm m k N : Nat) : Int) else xm g 218 k)) ∧ wvb m N i = true) (fun u => 6 - u.2.2.1.toNat)
    (fun e => (e = .inr (xarr g 218 (fun k => if k < n then ((dgm m k N : Nat) : Int) else xm g 218 k)) ∧ wvb m N n = true) ∨ (∃ F, e = .inl (0, xarr g 218 F) ∧ wvb m N n = false)) ((N : Int), 0, 0, g) ⟨0, by omega, by
      refine Prod.ext (by simp) (Prod.ext rfl (Prod.ext rfl ?_))
      dsimp only
      rw [show (fun k => if k < 0 then ((dgm m k N : Nat) : Int) else xm g 218 k) = xm g 218 from funext fun k => if_neg (by omega)]
      exact (xarr_self g 218).symm, rfl⟩ (by show 6 - (0 : Int).toNat < 1000000; omega) (by
    rintro u ⟨i, h1, rfl, h2⟩
    obtain ⟨H, eH⟩ : ∃ H, H = xarr g 218 (fun k => if k < i then ((dgm m k N : Nat) : Int) else xm g 218 k) := ⟨_, rfl⟩
    have SH' : SH H := by rw [eH]; exact S.arr (by decide +kernel)
    have hH : ∀ a k, a ≠ 218 → xm H a k = xm g a k := fun a k z => by rw [eH, xm_xarr, if_neg z]
    dsimp only
    rw [← eH]
    by_cases z : i < n
    · have m0 : 0 < m := by omega
      have dlt := dgm_lt (i := i) (N := N) m0
      have slt : stb m N i < 2 ^ m := stb_lt hm6 i (Or.inl m0)
      have s64 : stb m N i < 64 := Nat.lt_of_lt_of_le slt (p2_64 m (by omega))
      have ed : Int.tmod ((N / m ^ i : Nat) : Int) (m : Int) = ((dgm m i N : Nat) : Int) := by
        rw [Int.tmod_eq_emod_of_nonneg (Int.natCast_nonneg _)]
        exact (Int.natCast_emod _ _).symm
      have et : w32 (Int.tdiv ((N / m ^ i : Nat) : Int) (m : Int)) = ((N / m ^ (i + 1) : Nat) : Int) := by
        have h0 : Int.tdiv ((N / m ^ i : Nat) : Int) (m : Int) = ((N / m ^ (i + 1) : Nat) : Int) := by
          rw [Int.tdiv_eq_ediv_of_nonneg (Int.natCast_nonneg _), ← Int.natCast_ediv, Nat.div_div_eq_div_mul, ← Nat.pow_succ]
        rw [h0]
        have h1 := Nat.div_le_self N (m ^ (i + 1))
        generalize N / m ^ (i + 1) = q at h1 ⊢
        exact w32_id (by omega) (by omega)
      obtain ⟨H6, e6⟩ : ∃ H6, H6 = xset H 218 i ((dgm m i N : Nat) : Int) := ⟨_, rfl⟩
      have S6 : SH H6 := by rw [e6]; exact SH'.set (fixd_of (by decide +kernel))
      have hm6' : xm H6 199 3 = (m : Int) := by rw [e6, xm_xset, if_neg (by omega), hH 199 3 (by omega), em]
      have E : f_X12_isWay_L7 173 ((N / m ^ i : Nat) : Int) ((stb m N i : Nat) : Int) (i : Int) H = if (stb m N i).testBit (dgm m i N) = true then some (.inr (.inl (0, H6))) else some (.inl (((N / m ^ (i + 1) : Nat) : Int), ((stb m N (i + 1) : Nat) : Int), ((i + 1 : Nat) : Int), H6)) := by
        unfold f_X12_isWay_L7
        refine (bnd (v := (n : Int)) (by rw [s_X12_holderMany SH', hH 199 4 (by omega), en]; exact if_pos (ok_173 SH'))).trans ?_
        rw [if_pos (by omega)]
        refine (bnd (xgf_eq (a := 173) (ok_173 SH') (pt_173_66 SH'))).trans ?_
        refine (bnd (v := (m : Int)) (by rw [s_X12_heldMany SH', hH 199 3 (by omega), em]; exact if_pos (ok_173 SH'))).trans ?_
        rw [exnz, if_neg (by omega), ed]
        refine (bnd (v := H6) (by unfold xas; rw [if_pos (ia_218 SH' (by omega) (by omega)), e6]; rfl)).trans ?_
        refine (bnd (v := (m : Int)) (by rw [s_X12_heldMany S6, hm6']; exact if_pos (ok_173 S6))).trans ?_
        rw [exnz, if_neg (by omega), et]
        have v6 : xm H6 218 i = ((dgm m i N : Nat) : Int) := by rw [e6, xm_xset, if_pos ⟨rfl, rfl⟩]
        refine (bnd (xgf_eq (a := 173) (ok_173 S6) (pt_173_66 S6))).trans ?_
        refine (bnd (v := ((dgm m i N : Nat) : Int)) (by unfold xal; rw [if_pos (ia_218 S6 (by omega) (by omega))]; exact congrArg some v6)).trans ?_
        rw [b_bit _ s64 _ (by omega)]
        by_cases y : (stb m N i).testBit (dgm m i N) = true
        · rw [y]; rfl
        · have y' : (stb m N i).testBit (dgm m i N) = false := by simpa using y
          rw [y']
          refine (bnd (xgf_eq (a := 173) (ok_173 S6) (pt_173_66 S6))).trans ?_
          refine (bnd (v := ((dgm m i N : Nat) : Int)) (by unfold xal; rw [if_pos (ia_218 S6 (by omega) (by omega))]; exact congrArg some v6)).trans ?_
          rw [(b_set _ s64 _ (by omega)).1, w32_id (by omega) (by omega)]
          rfl
      have e6' : H6 = xarr g 218 (fun k => if k < i + 1 then ((dgm m k N : Nat) : Int) else xm g 218 k) := by
        rw [e6, eH, xset_xarr]
        refine xarr_congr _ _ (fun k => ?_)
        by_cases p : k = i
        · subst p; rw [if_pos rfl, if_pos (by omega)]
        · rw [if_neg p]
          by_cases p2 : k < i
          · rw [if_pos p2, if_pos (by omega)]
          · rw [if_neg p2, if_neg (by omega)]
      rw [E]
      by_cases y : (stb m N i).testBit (dgm m i N) = true
      · refine Or.inr ⟨_, if_pos y, Or.inr ⟨_, by rw [e6'], ?_⟩⟩
        have w1 : wvb m N (i + 1) = false := by simp only [wvb, h2, y]; rfl
        have mono : ∀ d, wvb m N (i + 1 + d) = false := by
          intro d
          induction d with
          | zero => exact w1
          | succ d ih =>
            show (wvb m N (i + 1 + d) && _) = false
            rw [ih]; rfl
        have := mono (n - (i + 1))
        rwa [show i + 1 + (n - (i + 1)) = n by omega] at this
      · refine Or.inl ⟨_, if_neg y, ⟨i + 1, by omega, by rw [e6'], ?_⟩, by show 6 - ((i + 1 : Nat) : Int).toNat < 6 - (i : Int).toNat; omega⟩
        have y' : (stb m N i).testBit (dgm m i N) = false := by simpa using y
        simp only [wvb, h2, y']
        rfl
    · have ei : i = n := by omega
      subst ei
      refine Or.inr ⟨_, ?_, Or.inl ⟨rfl, h2⟩⟩
      unfold f_X12_isWay_L7
      refine (bnd (v := (i : Int)) (by rw [s_X12_holderMany SH', hH 199 4 (by omega), en]; exact if_pos (ok_173 SH'))).trans ?_
      rw [if_neg (by omega), eH])
  have st : f_X12_isWay 173 (N : Int) g = (xel e (fun r => some r) (fun y15 =>
    (xit (fun s => f_X12_isWay_L74 173 y15 s) xFU 0).bind fun e28 =>
    xel e28 (fun r => some r) (fun _ =>
      some ((1, y15))))) := (bnd he).trans rfl
  rw [st]
  rcases hq with ⟨rfl, w⟩ | ⟨F, rfl, w⟩
  · obtain ⟨H, eH⟩ : ∃ H, H = xarr g 218 (fun k => if k < n then ((dgm m k N : Nat) : Int) else xm g 218 k) := ⟨_, rfl⟩
    have SH' : SH H := by rw [eH]; exact S.arr (by decide +kernel)
    have hH : ∀ a k, a ≠ 218 → xm H a k = xm g a k := fun a k z => by rw [eH, xm_xarr, if_neg z]
    rw [← eH]
    obtain ⟨e2, he2, hq2⟩ := xit_inv (f := fun s => f_X12_isWay_L74 173 H s) (fun u => ∃ k : Nat, k ≤ r ∧ u = (k : Int) ∧ rwb m (xm g 222) N k = true) (fun u => r - u.toNat) (fun e => (e = .inr () ∧ rwb m (xm g 222) N r = true) ∨ (e = .inl (0, H) ∧ rwb m (xm g 222) N r = false)) 0 ⟨0, by omega, rfl, rfl⟩ (by show r - (0 : Int).toNat < 1000000; omega) (by
      rintro u ⟨k, h1, rfl, h2⟩
      by_cases z : k < r
      · obtain ⟨i, ei⟩ : ∃ i : Nat, xm g 222 (3 * k) = (i : Int) := ⟨(xm g 222 (3 * k)).toNat, by have := hb k z; omega⟩
        have hi : i < n := by have := hb k z; omega
        have vd : xm H 218 i = ((dgm m i N : Nat) : Int) := by rw [eH, xm_xarr, if_pos rfl, if_pos hi]
        have E : f_X12_isWay_L74 173 H (k : Int) = if (if ((dgm m (xm g 222 (3 * k)).toNat N : Nat) : Int) = xm g 222 (3 * k + 1) then (1 : Int) else 0) = xm g 222 (3 * k + 2) then some (.inl ((k + 1 : Nat) : Int)) else some (.inr (.inl (0, H))) := by
          unfold f_X12_isWay_L74 f_X12_isWay_J116L74
          refine (bnd (xgf_eq (a := 173) (v := (r : Int)) (ok_173 SH') (by rw [hH 173 70 (by omega)]; exact er))).trans ?_
          rw [if_pos (by omega)]
          rw [w32_id (z := 3 * (k : Int)) (by omega) (by omega), w32_id (z := 3 * (k : Int) + 1) (by omega) (by omega), w32_id (z := 3 * (k : Int) + 2) (by omega) (by omega), w32_id (z := (k : Int) + 1) (by omega) (by omega)]
          refine (bnd (xgf_eq (a := 173) (ok_173 SH') (pt_173_66 SH'))).trans ?_
          refine (bnd (xgf_eq (a := 173) (ok_173 SH') (pt_173_71 SH'))).trans ?_
          refine (bnd (v := (i : Int)) (by unfold xal; rw [if_pos (ia_222 SH' (by omega) (by omega)), ← ei, ← hH 222 (3 * k) (by omega)]; congr 2)).trans ?_
          refine (bnd (v := ((dgm m i N : Nat) : Int)) (by unfold xal; rw [if_pos (ia_218 SH' (by omega) (by omega))]; exact congrArg some vd)).trans ?_
          refine (bnd (xgf_eq (a := 173) (ok_173 SH') (pt_173_71 SH'))).trans ?_
          refine (bnd (v := xm g 222 (3 * k + 1)) (by unfold xal; rw [if_pos (ia_222 SH' (by omega) (by omega)), ← hH 222 (3 * k + 1) (by omega)]; congr 2)).trans ?_
          rw [ei, Int.toNat_natCast]
          have rd : ∀ v : Int, ((xgf H 12 71 173).bind fun x25 => (xal H 0 x25 (3 * (k : Int) + 2)).bind fun x26 => if v = x26 then (some (Sum.inl ((k : Int) + 1)) : Option (Int ⊕ ((Int × xa_H) ⊕ Unit))) else some (Sum.inr (Sum.inl ((0, H))))) = if v = xm g 222 (3 * k + 2) then some (.inl ((k + 1 : Nat) : Int)) else some (.inr (.inl (0, H))) := by
            intro v
            refine (bnd (xgf_eq (a := 173) (ok_173 SH') (pt_173_71 SH'))).trans ?_
            refine (bnd (v := xm g 222 (3 * k + 2)) (by unfold xal; rw [if_pos (ia_222 SH' (by omega) (by omega)), ← hH 222 (3 * k + 2) (by omega)]; congr 2)).trans ?_
            rfl
          by_cases y : ((dgm m i N : Nat) : Int) = xm g 222 (3 * k + 1)
          · rw [if_pos y, if_pos y]; exact rd 1
          · rw [if_neg y, if_neg y]; exact rd 0
        rw [E]
        by_cases y : (if ((dgm m (xm g 222 (3 * k)).toNat N : Nat) : Int) = xm g 222 (3 * k + 1) then (1 : Int) else 0) = xm g 222 (3 * k + 2)
        · refine Or.inl ⟨_, if_pos y, ⟨k + 1, by omega, rfl, ?_⟩, by omega⟩
          simp only [rwb, h2, Bool.true_and, decide_eq_true_eq]
          exact y
        · refine Or.inr ⟨_, if_neg y, Or.inr ⟨rfl, ?_⟩⟩
          have := (rwb_all (m := m) (N := N) (ρ := xm g 222) r)
          rw [← Bool.not_eq_true]
          intro c
          exact y (this.mp c k z)
      · have ek : k = r := by omega
        subst ek
        refine Or.inr ⟨.inr (), ?_, Or.inl ⟨rfl, h2⟩⟩
        unfold f_X12_isWay_L74
        refine (bnd (xgf_eq (a := 173) (v := (k : Int)) (ok_173 SH') (by rw [hH 173 70 (by omega)]; exact er))).trans ?_
        rw [if_neg (by omega)])
    show ∃ b F, ((xit (fun s => f_X12_isWay_L74 173 H s) xFU 0).bind fun e28 => xel e28 (fun r => some r) (fun _ => some ((1, H)))) = some (b, xarr g 218 F) ∧ _
    rw [he2]
    rcases hq2 with ⟨rfl, w2⟩ | ⟨rfl, w2⟩
    · refine ⟨1, _, by rw [eH]; rfl, Or.inl ⟨rfl, by unfold wayb; rw [w, w2]; rfl, fun i hi => if_pos hi⟩⟩
    · refine ⟨0, _, by rw [eH]; rfl, Or.inr ⟨rfl, by unfold wayb; rw [w, w2]; rfl⟩⟩
  · exact ⟨0, F, rfl, Or.inr ⟨rfl, by unfold wayb; rw [w]; rfl⟩⟩
def wyA (n m : Nat) (ρ : Nat → Int) (r N : Nat) (F : Nat → Int) (k : Nat) : Int := if k < 36 then ((sumN (fun N' => if (wayb n m ρ r N' = true ∧ dgm m (k / 6) N' = k % 6) ∧ k / 6 < n then 1 else 0) N : Nat) : Int) else F k
theorem sum_le_n {f : Nat → Nat} (h : ∀ i, f i ≤ 1) : ∀ n, sumN f n ≤ n
  | 0 => Nat.le_refl _
  | n + 1 => Nat.add_le_add (sum_le_n h n) (h n)
theorem s_laysWays {g : xa_H} {s : Nat} (S : SH g) (C : Rc g s) {n m r : Nat} (en : xm g 199 4 = (n : Int)) (em : xm g 199 3 = (m : Int)) (er : xm g 173 70 = (r : Int)) (hr : r ≤ 20) (hm0 : 0 < m ∨ n = 0) (hb : ∀ k, k < r → (0 ≤ xm g 222 (3 * k) ∧ xm g 222 (3 * k) < (n : Int))) : ∃ F, f_X12_laysWays 173 g = some (((nW n m (xm g 222) r : Nat) : Int), xarr (xarr g 223 (wyA n m (xm g 222) r (m ^ n) (xm g 223))) 218 F) := by
  have hn := rc_n C
  have hm := rc_m C
  have hs := C.2.1.1
  have hn6 : n ≤ 6 := by omega
  have hm6 : m ≤ 6 := by omega
  have mn := pow6 m (by omega) n (by omega)
  obtain ⟨ρ, eρ⟩ : ∃ ρ, ρ = xm g 222 := ⟨_, rfl⟩
  rw [← eρ] at hb ⊢
  -- nought first
  have l0 := xit_seq (f := fun u => f_X12_laysWays_L2 173 u.1 u.2) (fun i => ((i : Int), xarr g 223 (fun k => if k < i then 0 else xm g 223 k))) 36 (xarr g 223 (wyA n m ρ r 0 (xm g 223))) (fun i hi => by
    have S1 : SH (xarr g 223 (fun k => if k < i then 0 else xm g 223 k)) := S.arr (by decide +kernel)
    have q : (i : Int) < 36 := by omega
    unfold f_X12_laysWays_L2
    simp (disch := omega) only [↓reduceIte, ↓bbind, ↓bxgf, ↓bxpf, ↓bxal, ↓bxas, ↓bxrc, ↓exrc, Int.reduceEq, Int.reduceLT, Int.reduceNeg, Int.reduceToNat, Int.toNat_natCast, Option.bind_some, if_true, if_false, reduceIte, if_pos q, ok_173 S1, pt_173_72 S1, ia_223 S1, w32_id]
    refine congrArg some (congrArg Sum.inl (Prod.ext rfl ?_))
    dsimp only
    rw [xset_xarr]
    refine xarr_congr _ _ (fun k => ?_)
    by_cases p : k = i
    · rw [if_pos p, if_pos (by omega)]
    · rw [if_neg p]
      by_cases p2 : k < i
      · rw [if_pos p2, if_pos (by omega)]
      · rw [if_neg p2, if_neg (by omega)]) (by
    unfold f_X12_laysWays_L2
    dsimp only
    rw [if_neg (by omega)]
    refine congrArg some (congrArg Sum.inr (xarr_congr _ _ (fun k => ?_)))
    unfold wyA
    simp only [sumN]
    rfl) (by omega)
  obtain ⟨g1, e1⟩ : ∃ g1, g1 = xarr g 223 (wyA n m ρ r 0 (xm g 223)) := ⟨_, rfl⟩
  rw [← e1] at l0
  have S1 : SH g1 := by rw [e1]; exact S.arr (by decide +kernel)
  have k1 : ∀ a k, a ≠ 223 → xm g1 a k = xm g a k := fun a k z => by rw [e1, xm_xarr, if_neg z]
  -- how many numbers
  have l1 := xit_seq (f := fun u => f_X12_laysWays_L25 173 g1 u.1 u.2) (fun i => (((m ^ i : Nat) : Int), (i : Int))) n ((m ^ n : Nat) : Int) (fun i hi => by
    have q : (i : Int) < xm g1 199 4 := by rw [k1 199 4 (by omega)]; omega
    have b1 := pow6 m (by omega) (i + 1) (by omega)
    unfold f_X12_laysWays_L25
    simp (disch := omega) only [↓reduceIte, ↓bbind, ↓bxgf, ↓bxpf, ↓bxal, ↓bxas, ↓bxrc, ↓exrc, Int.reduceEq, Int.reduceLT, Int.reduceNeg, Int.reduceToNat, Int.toNat_natCast, Option.bind_some, if_true, if_false, reduceIte, ok_173 S1, s_X12_holderMany S1, if_pos q, s_X12_heldMany S1, k1 199 3 (by omega), em, w32_id]
    have e : ((m ^ i : Nat) : Int) * (m : Int) = ((m ^ (i + 1) : Nat) : Int) := by rw [Nat.pow_succ]; exact (Int.natCast_mul _ _).symm
    rw [e, w32_id (by omega) (by omega)]
    rfl) (by
    unfold f_X12_laysWays_L25
    have q : ¬ (n : Int) < xm g1 199 4 := by rw [k1 199 4 (by omega)]; omega
    simp (disch := omega) only [↓reduceIte, ↓bbind, ↓bxgf, ↓bxpf, ↓bxal, ↓bxas, ↓bxrc, ↓exrc, Int.reduceEq, Int.reduceLT, Int.reduceNeg, Int.reduceToNat, Int.toNat_natCast, Option.bind_some, if_true, if_false, reduceIte, ok_173 S1, s_X12_holderMany S1, if_neg q]) (by omega)
  have l2 : ∃ e, xit (fun u => f_X12_laysWays_L50 173 ((m ^ n : Nat) : Int) u.1 u.2.1 u.2.2) xFU (0, 0, g1) = some e ∧ ∃ F, e = (((nW n m ρ r : Nat) : Int), xarr (xarr g 223 (wyA n m ρ r (m ^ n) (xm g 223))) 218 F) := by
    refine xit_inv (f := fun u => f_X12_laysWays_L50 173 ((m ^ n : Nat) : Int) u.1 u.2.1 u.2.2) (fun u => ∃ (N : Nat) (F : Nat → Int), N ≤ m ^ n ∧ u = (((sumN (fun N' => if wayb n m ρ r N' = true then 1 else 0) N : Nat) : Int), (N : Int), xarr (xarr g 223 (wyA n m ρ r N (xm g 223))) 218 F)) (fun u => m ^ n - u.2.1.toNat) (fun e => ∃ F, e = (((nW n m ρ r : Nat) : Int), xarr (xarr g 223 (wyA n m ρ r (m ^ n) (xm g 223))) 218 F)) (0, 0, g1) ⟨0, xm g 218, by omega, by
      refine Prod.ext rfl (Prod.ext rfl ?_)
      dsimp only
      rw [e1]
      refine xheq rfl rfl rfl (fun y k => ?_)
      simp only [xm_xarr]
      by_cases p : y = 218
      · subst p; simp
      · rw [if_neg p]⟩ (by show m ^ n - (0 : Int).toNat < 1000000; omega) ?_
    rintro u ⟨N, F, h1, rfl⟩
    obtain ⟨G, eG⟩ : ∃ G, G = xarr (xarr g 223 (wyA n m ρ r N (xm g 223))) 218 F := ⟨_, rfl⟩
    have SG : SH G := by rw [eG]; exact (S.arr (by decide +kernel)).arr (by decide +kernel)
    have kG : ∀ a k, a ≠ 223 → a ≠ 218 → xm G a k = xm g a k := fun a k z1 z2 => by rw [eG, xm_xarr, if_neg z2, xm_xarr, if_neg z1]
    have CG : Rc G s := by rw [eG]; exact C.mv (Nat.le_refl _) (fun _ _ => rfl) (fun a k hd => by unfold DRc at hd; rw [xm_xarr, if_neg (by omega), xm_xarr, if_neg (by omega)])
    have rG : xm G 222 = ρ := by rw [eρ]; exact funext fun k => kG 222 k (by omega) (by omega)
    dsimp only
    rw [← eG]
    have cnt : sumN (fun N' => if wayb n m ρ r N' = true then 1 else 0) N ≤ N := sum_le_n (fun i => by split <;> omega) N
    by_cases z : N < m ^ n
    · obtain ⟨b, F', i1, i2⟩ := s_isWay SG CG (n := n) (m := m) (r := r) (N := N) (by rw [kG 199 4 (by omega) (by omega)]; exact en) (by rw [kG 199 3 (by omega) (by omega)]; exact em) (by rw [kG 173 70 (by omega) (by omega)]; exact er) hr hm0 (by omega) (by rw [rG]; exact hb)
      rw [rG] at i2
      have step0 : f_X12_laysWays_L50 173 ((m ^ n : Nat) : Int) ((sumN (fun N' => if wayb n m ρ r N' = true then 1 else 0) N : Nat) : Int) (N : Int) G = (if b = 0 then some (.inl ((((sumN (fun N' => if wayb n m ρ r N' = true then 1 else 0) N : Nat) : Int), ((N + 1 : Nat) : Int), xarr G 218 F'))) else (xit (fun s => f_X12_laysWays_L72 173 ((m ^ n : Nat) : Int) (w32 (((sumN (fun N' => if wayb n m ρ r N' = true then 1 else 0) N : Nat) : Int) + 1)) (N : Int) s.1 s.2) xFU ((0, xarr G 218 F'))).bind fun e19 => some (.inl (w32 (((sumN (fun N' => if wayb n m ρ r N' = true then 1 else 0) N : Nat) : Int) + 1), ((N + 1 : Nat) : Int), e19))) := by
        unfold f_X12_laysWays_L50
        rw [if_pos (by omega)]
        refine (bnd (v := (b, xarr G 218 F')) (by rw [i1]; exact if_pos (ok_173 SG))).trans ?_
        dsimp only
        rw [w32_id (z := (N : Int) + 1) (by omega) (by omega)]
        rfl
      rw [step0]
      rcases i2 with ⟨rfl, w, dF⟩ | ⟨rfl, w⟩
      · rw [if_neg (by decide)]
        have l3 := xit_seq (f := fun u => f_X12_laysWays_L72 173 ((m ^ n : Nat) : Int) (w32 (((sumN (fun N' => if wayb n m ρ r N' = true then 1 else 0) N : Nat) : Int) + 1)) (N : Int) u.1 u.2) (fun i => ((i : Int), xarr (xarr g 223 (fun k => wyA n m ρ r N (xm g 223) k + if k < 36 ∧ k / 6 < i ∧ dgm m (k / 6) N = k % 6 then 1 else 0)) 218 F')) n (xarr (xarr g 223 (fun k => wyA n m ρ r N (xm g 223) k + if k < 36 ∧ k / 6 < n ∧ dgm m (k / 6) N = k % 6 then 1 else 0)) 218 F') (fun i hi => by
          obtain ⟨K, eK⟩ : ∃ K, K = xarr (xarr g 223 (fun k => wyA n m ρ r N (xm g 223) k + if k < 36 ∧ k / 6 < i ∧ dgm m (k / 6) N = k % 6 then 1 else 0)) 218 F' := ⟨_, rfl⟩
          have SK : SH K := by rw [eK]; exact (S.arr (by decide +kernel)).arr (by decide +kernel)
          have q : (i : Int) < xm K 199 4 := by rw [eK, xm_xarr, if_neg (by omega), xm_xarr, if_neg (by omega)]; omega
          have m0 : 0 < m := by omega
          have dlt := dgm_lt (i := i) (N := N) m0
          have vK : xm K 218 i = ((dgm m i N : Nat) : Int) := by rw [eK, xm_xarr, if_pos rfl, dF i hi]
          have dm : (6 * i + dgm m i N) / 6 = i ∧ (6 * i + dgm m i N) % 6 = dgm m i N := by omega
          have vW : xm K 223 (6 * i + dgm m i N) = wyA n m ρ r N (xm g 223) (6 * i + dgm m i N) := by
            rw [eK, xm_xarr, if_neg (by omega), xm_xarr, if_pos rfl, if_neg (by omega)]
            omega
          have bW : 0 ≤ wyA n m ρ r N (xm g 223) (6 * i + dgm m i N) ∧ wyA n m ρ r N (xm g 223) (6 * i + dgm m i N) ≤ (N : Int) := by
            unfold wyA
            rw [if_pos (by omega)]
            have := sum_le_n (f := fun N' => if (wayb n m ρ r N' = true ∧ dgm m ((6 * i + dgm m i N) / 6) N' = (6 * i + dgm m i N) % 6) ∧ (6 * i + dgm m i N) / 6 < n then 1 else 0) (fun i => by split <;> omega) N
            omega
          dsimp only
          rw [← eK]
          unfold f_X12_laysWays_L72
          simp (disch := omega) only [↓reduceIte, ↓bbind, ↓bxgf, ↓bxpf, ↓bxal, ↓bxas, ↓bxrc, ↓exrc, Int.reduceEq, Int.reduceLT, Int.reduceNeg, Int.reduceToNat, Int.toNat_natCast, Option.bind_some, if_true, if_false, reduceIte, ok_173 SK, s_X12_holderMany SK, if_pos q, pt_173_72 SK, pt_173_66 SK, ia_218 SK, ia_223 SK, vK, w32_id, Int.toNat_add, Int.toNat_mul, vW]
          refine congrArg some (congrArg Sum.inl (Prod.ext rfl ?_))
          dsimp only
          rw [eK]
          refine xheq rfl rfl rfl (fun y k => ?_)
          simp only [xm_xset, xm_xarr]
          by_cases p1 : y = 218
          · subst p1; simp
          · simp only [p1, if_false]
            by_cases p2 : y = 223
            · subst p2
              simp only [true_and, if_true]
              by_cases p3 : k = 6 * i + dgm m i N
              · subst p3
                rw [if_pos rfl, if_pos ⟨by omega, by omega, by rw [dm.1, dm.2]⟩]
              · rw [if_neg p3]
                congr 1
                by_cases p4 : k < 36 ∧ k / 6 < i ∧ dgm m (k / 6) N = k % 6
                · rw [if_pos p4, if_pos ⟨p4.1, by omega, p4.2.2⟩]
                · rw [if_neg p4, if_neg]
                  rintro ⟨x1, x2, x3⟩
                  refine p4 ⟨x1, ?_, x3⟩
                  by_cases x4 : k / 6 = i
                  · rw [x4] at x3; omega
                  · omega
            · simp only [p2, false_and, if_false]) (by
          obtain ⟨K, eK⟩ : ∃ K, K = xarr (xarr g 223 (fun k => wyA n m ρ r N (xm g 223) k + if k < 36 ∧ k / 6 < n ∧ dgm m (k / 6) N = k % 6 then 1 else 0)) 218 F' := ⟨_, rfl⟩
          have SK : SH K := by rw [eK]; exact (S.arr (by decide +kernel)).arr (by decide +kernel)
          have q : ¬ (n : Int) < xm K 199 4 := by rw [eK, xm_xarr, if_neg (by omega), xm_xarr, if_neg (by omega)]; omega
          dsimp only
          rw [← eK]
          unfold f_X12_laysWays_L72
          simp (disch := omega) only [↓reduceIte, ↓bbind, ↓bxgf, ↓bxpf, ↓bxal, ↓bxas, ↓bxrc, ↓exrc, Int.reduceEq, Int.reduceLT, Int.reduceNeg, Int.reduceToNat, Int.toNat_natCast, Option.bind_some, if_true, if_false, reduceIte, ok_173 SK, s_X12_holderMany SK, if_neg q]) (by omega)
        have hz : ((0 : Int), xarr G 218 F') = (((0 : Nat) : Int), xarr (xarr g 223 (fun k => wyA n m ρ r N (xm g 223) k + if k < 36 ∧ k / 6 < 0 ∧ dgm m (k / 6) N = k % 6 then 1 else 0)) 218 F') := by
          refine Prod.ext rfl ?_
          dsimp only
          rw [eG]
          refine xheq rfl rfl rfl (fun y k => ?_)
          simp only [xm_xarr, Nat.not_lt_zero, false_and, and_false, if_false, Int.add_zero]
          by_cases p1 : y = 218
          · subst p1; simp
          · simp only [p1, if_false]
        rw [hz, l3]
        refine Or.inl ⟨_, rfl, ⟨N + 1, F', by omega, ?_⟩, by show m ^ n - ((N + 1 : Nat) : Int).toNat < m ^ n - (N : Int).toNat; omega⟩
        refine Prod.ext ?_ (Prod.ext rfl ?_)
        · dsimp only
          simp only [sumN, w, if_true]
          rw [w32_id (by omega) (by omega)]
          omega
        · dsimp only
          refine congrArg (fun q => xarr q 218 F') (xarr_congr _ _ (fun k => ?_))
          unfold wyA
          by_cases p : k < 36
          · rw [if_pos p, if_pos p]
            simp only [sumN, w]
            by_cases p2 : k / 6 < n ∧ dgm m (k / 6) N = k % 6
            · rw [if_pos ⟨p, p2⟩, if_pos ⟨⟨trivial, p2.2⟩, p2.1⟩]
              omega
            · rw [if_neg (fun x => p2 x.2), if_neg (fun x => p2 ⟨x.2, x.1.2⟩)]
              omega
          · rw [if_neg p, if_neg p, if_neg (fun x => p x.1)]
            omega
      · rw [if_pos rfl]
        refine Or.inl ⟨_, rfl, ⟨N + 1, F', by omega, ?_⟩, by show m ^ n - ((N + 1 : Nat) : Int).toNat < m ^ n - (N : Int).toNat; omega⟩
        refine Prod.ext ?_ (Prod.ext rfl ?_)
        · dsimp only
          simp only [sumN, w]
          rfl
        · dsimp only
          rw [eG]
          refine xheq rfl rfl rfl (fun y k => ?_)
          simp only [xm_xarr]
          by_cases p1 : y = 218
          · subst p1; simp
          · simp only [p1, if_false]
            by_cases p2 : y = 223
            · subst p2
              simp only [if_true]
              unfold wyA
              simp only [sumN, w]
              simp
            · simp only [p2, if_false]
    · have eN : N = m ^ n := by omega
      subst eN
      refine Or.inr ⟨_, ?_, F, rfl⟩
      unfold f_X12_laysWays_L50
      rw [if_neg (by omega), eG]
      rfl
  obtain ⟨e, l2a, F, rfl⟩ := l2
  refine ⟨F, ?_⟩
  have hz0 : ((0 : Int), g) = (((0 : Nat) : Int), xarr g 223 (fun k => if k < 0 then 0 else xm g 223 k)) := by
    refine Prod.ext rfl ?_
    dsimp only
    rw [show (fun k => if k < 0 then 0 else xm g 223 k) = xm g 223 from funext fun k => if_neg (by omega)]
    exact (xarr_self g 223).symm
  unfold f_X12_laysWays
  rw [hz0]
  refine (bnd l0).trans ?_
  refine (bnd (v := ((m ^ n : Nat) : Int)) ?_).trans ?_
  · rw [show ((1 : Int), (0 : Int)) = (((m ^ 0 : Nat) : Int), ((0 : Nat) : Int)) by rw [Nat.pow_zero]; rfl]
    exact l1
  exact (bnd l2a).trans rfl
