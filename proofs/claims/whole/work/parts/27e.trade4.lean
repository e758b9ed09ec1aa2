/-! ===== trade, the reference ===== -/
theorem pcn_diff : ∀ L, L < 64 → ∀ e, e < 64 → e &&& L = e → pcn (L &&& (63 ^^^ e)) = pcn L - pcn e ∧ pcn e ≤ pcn L := by decide +kernel
theorem pcn_add : ∀ e, e < 64 → ∀ i, i < 6 → e.testBit i = false → pcn (e ||| 2 ^ i) = pcn e + 1 := by decide +kernel
theorem pcn_full : ∀ n, n < 7 → pcn (2 ^ n - 1) = n := by decide +kernel
theorem pcn_0 : ∀ L, L < 64 → (pcn L = 0 ↔ L = 0) := by decide +kernel
theorem pcn_6 : ∀ L, L < 64 → pcn L ≤ 6 := by decide +kernel
theorem s_pointed {h H : xa_H} {s : Nat} (T : TGs h H) (S : SH h) (C : Rc h s) (N : Rn h) (L : Nat) (hr : ∀ k, k < (xm h 199 4).toNat → (xm H 220 k = 0 ↔ L.testBit k = true)) {i : Nat} (hi : i < (xm h 199 4).toNat) : f_X12_pointed 173 (i : Int) H = some ((pnt h L i : Nat) : Int) := by
  have hn := rc_n C
  have hm := rc_m C
  have S' := T.S S
  have C' := T.C C
  have hl := xit_seq (f := fun t => f_X12_pointed_L4 173 (i : Int) H t.1 t.2) (fun x => (((bst h L i x : Nat) : Int), (x : Int))) (xm h 199 3).toNat ((pnt h L i : Nat) : Int) (fun x hx => by
    have q : (x : Int) < xm H 199 3 := by rw [T.2.2.2 199 3 (by omega) (by omega)]; omega
    have eh : f_X12_holderOf 173 (x : Int) H = some (hlo h x) := by
      rw [s_X12_holderOf S' C']
      exact congrArg some (tg_hlo T x)
    unfold f_X12_pointed_L4
    simp (disch := omega) only [↓reduceIte, ↓bbind, ↓bxgf, ↓bxpf, ↓bxal, ↓bxas, ↓bxrc, ↓exrc, Int.reduceEq, Int.reduceLT, Int.reduceNeg, Int.reduceToNat, Int.toNat_natCast, Option.bind_some, if_true, if_false, reduceIte, ok_173 S', s_X12_heldMany S', if_pos q, eh]
    by_cases z1 : hlo h x = -1
    · rw [if_pos z1, w32_id (by omega) (by omega), show bst h L i (x + 1) = bst h L i x from if_neg (fun o => o.1 z1)]
      rfl
    · obtain ⟨o, o1, o2, o3⟩ := hlo_lt z1
      rw [if_neg z1, o1]
      simp (disch := omega) only [↓reduceIte, ↓bbind, ↓bxgf, ↓bxpf, ↓bxal, ↓bxas, ↓bxrc, ↓exrc, Int.reduceEq, Int.reduceLT, Int.reduceNeg, Int.reduceToNat, Int.toNat_natCast, Option.bind_some, if_true, if_false, reduceIte, ok_173 S', pt_173_68 S', ia_220 S']
      by_cases z2 : L.testBit o = true
      · rw [if_pos ((hr o o2).mpr z2)]
        have hb : bst h L i x < (xm h 199 4).toNat := bst_lt hi x
        obtain ⟨a, ea, ha, -⟩ := rv_has' N (i := bst h L i x) (by omega) hm.2
        have e1 : f_X12_valueOf 173 (i : Int) (x : Int) H = some (vlu h i x) := by
          rw [s_X12_valueOf S' (by omega) (by omega), T.2.2.2 _ _ (by omega) (by omega)]
          rfl
        have e2 : f_X12_hadBy 173 ((bst h L i x : Nat) : Int) H = some (a : Int) := by
          rw [s_X12_hadBy S' (by omega), T.2.2.2 _ _ (by omega) (by omega), ea]
        have e3 : f_X12_valueOf 173 (i : Int) (a : Int) H = some (vlu h i (hsn h (bst h L i x))) := by
          rw [s_X12_valueOf S' (by omega) (by omega), T.2.2.2 _ _ (by omega) (by omega)]
          unfold vlu hsn
          rw [ea]
          rfl
        simp (disch := omega) only [↓reduceIte, ↓bbind, ↓bxgf, ↓bxpf, ↓bxal, ↓bxas, ↓bxrc, ↓exrc, Int.reduceEq, Int.reduceLT, Int.reduceNeg, Int.reduceToNat, Int.toNat_natCast, Option.bind_some, if_true, if_false, reduceIte, ok_173 S', e1, e2, e3]
        by_cases z3 : vlu h i (hsn h (bst h L i x)) < vlu h i x
        · rw [if_pos z3, w32_id (by omega) (by omega)]
          have eb : bst h L i (x + 1) = o := by
            simp only [bst]
            rw [if_pos ⟨z1, by rw [o1]; exact z2, z3⟩, o1]
            rfl
          rw [eb]
          rfl
        · rw [if_neg z3, w32_id (by omega) (by omega), show bst h L i (x + 1) = bst h L i x from if_neg (fun w => z3 w.2.2)]
          rfl
      · rw [if_neg (fun w => z2 ((hr o o2).mp w)), w32_id (by omega) (by omega), show bst h L i (x + 1) = bst h L i x from if_neg (fun w => z2 (by have := w.2.1; rw [o1] at this; exact this))]
        rfl) (by
    have q : ¬ (((xm h 199 3).toNat : Nat) : Int) < xm H 199 3 := by rw [T.2.2.2 199 3 (by omega) (by omega)]; omega
    unfold f_X12_pointed_L4
    simp (disch := omega) only [↓reduceIte, ↓bbind, ↓bxgf, ↓bxpf, ↓bxal, ↓bxas, ↓bxrc, ↓exrc, Int.reduceEq, Int.reduceLT, Int.reduceNeg, Int.reduceToNat, Int.toNat_natCast, Option.bind_some, if_true, if_false, reduceIte, ok_173 S', s_X12_heldMany S', if_neg q]
    rfl) (by omega)
  unfold f_X12_pointed
  exact (bnd hl).trans rfl
def z6 (F : Nat → Int) (k : Nat) : Int := if k < 6 then 0 else F k
/-- the reference's heap behind t rounds -/
def tM (h g : xa_H) (t : Nat) : xa_H := xarr (xarr (xarr g 219 (pM h (xm g 219) t)) 220 (rA h (z6 (xm g 220)) t)) 221 (zM h (xm g 221) t)
theorem rA_bit {h : xa_H} {F : Nat → Int} (hn6 : xm h 199 4 ≤ 6) : ∀ t k, k < (xm h 199 4).toNat → (rA h (z6 F) t k = 0 ↔ (Lsq h t).testBit k = true)
  | 0, k, hk => by
    have : (Lsq h 0).testBit k = true := (tb_all _ (by omega) k (by omega)).mpr hk
    simp only [rA, this, iff_true]
    exact if_pos (by omega)
  | t + 1, k, hk => by
    simp only [rA]
    have ih := rA_bit (F := F) hn6 t k hk
    have nb := nxl_bit (L := Lsq h t) hn6 (by omega) hk
    show _ ↔ (nxl h (Lsq h t)).testBit k = true
    rw [nb]
    split
    · rename_i q
      constructor
      · intro a; omega
      · rintro ⟨-, a⟩; omega
    · rename_i q
      rw [ih]
      constructor
      · intro a
        refine ⟨a, ?_⟩
        by_cases z : 0 < rgs h (Lsq h t) k
        · exact absurd ⟨hk, a, z⟩ q
        · omega
      · exact fun a => a.1
theorem s_trades {h g : xa_H} {s : Nat} (Tg : TGs h g) (S : SH h) (C : Rc h s) (N : Rn h) {T : Nat} (hT : Lsq h T = 0) (hT6 : T ≤ 6) (hTl : ∀ t, t < T → Lsq h t ≠ 0) : f_X12_trades 173 g = some (tM h g T) := by
  have hn := rc_n C
  have Tt : ∀ t, TGs h (tM h g t) := fun t => ((Tg.arr _ (by omega)).arr _ (by omega)).arr _ (by omega)
  have round : ∀ t, t < T → f_X12_trades_L28 173 ((pcn (Lsq h t) : Nat) : Int) ((t + 1 : Nat) : Int) (tM h g t) = some (.inl (((pcn (Lsq h (t + 1)) : Nat) : Int), ((t + 1 + 1 : Nat) : Int), tM h g (t + 1))) := by
    intro t ht
    obtain ⟨L, eL⟩ : ∃ L, L = Lsq h t := ⟨_, rfl⟩
    have hL : L < 64 := by rw [eL]; exact Lsq_lt hn.2 t
    have hin : ∀ j, j < 6 → L.testBit j = true → j < (xm h 199 4).toNat := by rw [eL]; exact Lsq_n hn.2 t
    have hr : ∀ k, k < (xm h 199 4).toNat → (rA h (z6 (xm g 220)) t k = 0 ↔ L.testBit k = true) := by rw [eL]; exact rA_bit hn.2 t
    obtain ⟨H0, e0⟩ : ∃ H0, H0 = tM h g t := ⟨_, rfl⟩
    have T0 : TGs h H0 := by rw [e0]; exact Tt t
    have m0 : ∀ k, xm H0 220 k = rA h (z6 (xm g 220)) t k := fun k => by rw [e0]; unfold tM; rw [xm_xarr, if_neg (by omega), xm_xarr, if_pos rfl]
    -- points
    have l1 := xit_seq (f := fun u => f_X12_trades_L34 173 ((pcn L : Nat) : Int) ((t + 1 : Nat) : Int) u.1 u.2) (fun i => ((i : Int), xarr H0 219 (fun k => if k < i ∧ L.testBit k = true then ((pnt h L k : Nat) : Int) else xm H0 219 k))) (xm h 199 4).toNat (xarr H0 219 (fun k => if k < (xm h 199 4).toNat ∧ L.testBit k = true then ((pnt h L k : Nat) : Int) else xm H0 219 k)) (fun i hi => by
      obtain ⟨H1, e1⟩ : ∃ H1, H1 = xarr H0 219 (fun k => if k < i ∧ L.testBit k = true then ((pnt h L k : Nat) : Int) else xm H0 219 k) := ⟨_, rfl⟩
      have T1 : TGs h H1 := by rw [e1]; exact T0.arr _ (by omega)
      have S1 := T1.S S
      have q : (i : Int) < xm H1 199 4 := by rw [T1.2.2.2 199 4 (by omega) (by omega)]; omega
      have m1 : ∀ k, xm H1 220 k = rA h (z6 (xm g 220)) t k := fun k => by rw [e1, xm_xarr, if_neg (by omega), m0]
      have ep := s_pointed T1 S C N L (fun k hk => by rw [m1]; exact hr k hk) hi
      dsimp only
      rw [← e1]
      unfold f_X12_trades_L34
      simp (disch := omega) only [↓reduceIte, ↓bbind, ↓bxgf, ↓bxpf, ↓bxal, ↓bxas, ↓bxrc, ↓exrc, Int.reduceEq, Int.reduceLT, Int.reduceNeg, Int.reduceToNat, Int.toNat_natCast, Option.bind_some, if_true, if_false, reduceIte, ok_173 S1, s_X12_holderMany S1, if_pos q, pt_173_68 S1, pt_173_67 S1, ia_220 S1, ia_219 S1, m1, ep, w32_id]
      by_cases z : L.testBit i = true
      · rw [if_pos ((hr i hi).mpr z)]
        refine congrArg some (congrArg Sum.inl (Prod.ext rfl ?_))
        dsimp only
        rw [e1]
        refine xheq rfl rfl rfl (fun b k => ?_)
        rw [xm_xset, xm_xarr, xm_xarr]
        by_cases p1 : b = 219
        · subst p1
          simp only [true_and, if_true]
          by_cases p2 : k = i
          · subst p2; rw [if_pos rfl, if_pos ⟨by omega, z⟩]
          · rw [if_neg p2]
            by_cases p3 : k < i ∧ L.testBit k = true
            · rw [if_pos p3, if_pos ⟨by omega, p3.2⟩]
            · rw [if_neg p3, if_neg (fun w => p3 ⟨by omega, w.2⟩)]
        · rw [if_neg (by omega), if_neg p1, if_neg p1]
      · rw [if_neg (fun w => z ((hr i hi).mp w))]
        refine congrArg some (congrArg Sum.inl (Prod.ext rfl ?_))
        dsimp only
        rw [e1]
        refine xarr_congr _ _ (fun k => ?_)
        by_cases p3 : k < i ∧ L.testBit k = true
        · rw [if_pos p3, if_pos ⟨by omega, p3.2⟩]
        · rw [if_neg p3, if_neg (fun w => p3 ⟨by
            by_cases y : k = i
            · subst y; exact absurd w.2 z
            · omega, w.2⟩)]) (by
      have T1 : TGs h (xarr H0 219 (fun k => if k < (xm h 199 4).toNat ∧ L.testBit k = true then ((pnt h L k : Nat) : Int) else xm H0 219 k)) := T0.arr _ (by omega)
      have S1 := T1.S S
      unfold f_X12_trades_L34
      dsimp only
      refine (bnd (v := xm h 199 4) ?_).trans ?_
      · rw [s_X12_holderMany S1, T1.2.2.2 199 4 (by omega) (by omega)]; exact if_pos (ok_173 S1)
      · rw [if_neg (by omega)]) (by omega)
    obtain ⟨H1, e1⟩ : ∃ H1, H1 = xarr H0 219 (fun k => if k < (xm h 199 4).toNat ∧ L.testBit k = true then ((pnt h L k : Nat) : Int) else xm H0 219 k) := ⟨_, rfl⟩
    rw [← e1] at l1
    have T1 : TGs h H1 := by rw [e1]; exact T0.arr _ (by omega)
    have m1 : ∀ k, xm H1 220 k = rA h (z6 (xm g 220)) t k := fun k => by rw [e1, xm_xarr, if_neg (by omega), m0]
    have p1 : ∀ k, k < (xm h 199 4).toNat → L.testBit k = true → xm H1 219 k = ((pnt h L k : Nat) : Int) := fun k h1 h2 => by rw [e1, xm_xarr, if_pos rfl, if_pos ⟨h1, h2⟩]
    -- rings
    have l2 := xit_seq (f := fun u => f_X12_trades_L70 173 ((pcn L : Nat) : Int) ((t + 1 : Nat) : Int) u.1 u.2) (fun i => ((i : Int), xarr H1 221 (fun k => if k < i ∧ L.testBit k = true then ((rgs h L k : Nat) : Int) else xm H1 221 k))) (xm h 199 4).toNat (xarr H1 221 (fun k => if k < (xm h 199 4).toNat ∧ L.testBit k = true then ((rgs h L k : Nat) : Int) else xm H1 221 k)) (fun i hi => by
      obtain ⟨H2, e2⟩ : ∃ H2, H2 = xarr H1 221 (fun k => if k < i ∧ L.testBit k = true then ((rgs h L k : Nat) : Int) else xm H1 221 k) := ⟨_, rfl⟩
      have T2 : TGs h H2 := by rw [e2]; exact T1.arr _ (by omega)
      have S2 := T2.S S
      have q : (i : Int) < xm H2 199 4 := by rw [T2.2.2.2 199 4 (by omega) (by omega)]; omega
      have m2 : ∀ k, xm H2 220 k = rA h (z6 (xm g 220)) t k := fun k => by rw [e2, xm_xarr, if_neg (by omega), m1]
      dsimp only
      rw [← e2]
      unfold f_X12_trades_L70
      by_cases z : L.testBit i = true
      · have er := s_roundOf S2 L hn.2 hi z (fun k h1 h2 => by rw [e2, xm_xarr, if_neg (by omega)]; exact p1 k h1 h2)
        have zz := (hr i hi).mpr z
        simp (disch := omega) only [↓reduceIte, ↓bbind, ↓bxgf, ↓bxpf, ↓bxal, ↓bxas, ↓bxrc, ↓exrc, Int.reduceEq, Int.reduceLT, Int.reduceNeg, Int.reduceToNat, Int.toNat_natCast, Option.bind_some, if_true, if_false, reduceIte, ok_173 S2, s_X12_holderMany S2, if_pos q, pt_173_68 S2, pt_173_69 S2, ia_220 S2, ia_221 S2, m2, zz, er, w32_id]
        refine congrArg some (congrArg Sum.inl (Prod.ext rfl ?_))
        dsimp only
        rw [e2]
        refine xheq rfl rfl rfl (fun b k => ?_)
        rw [xm_xset, xm_xarr, xm_xarr]
        by_cases p1 : b = 221
        · subst p1
          simp only [true_and, if_true]
          by_cases p2 : k = i
          · subst p2; rw [if_pos rfl, if_pos ⟨by omega, z⟩]
          · rw [if_neg p2]
            by_cases p3 : k < i ∧ L.testBit k = true
            · rw [if_pos p3, if_pos ⟨by omega, p3.2⟩]
            · rw [if_neg p3, if_neg (fun w => p3 ⟨by omega, w.2⟩)]
        · rw [if_neg (by omega), if_neg p1, if_neg p1]
      · have zz : ¬ rA h (z6 (xm g 220)) t i = 0 := fun w => z ((hr i hi).mp w)
        simp (disch := omega) only [↓reduceIte, ↓bbind, ↓bxgf, ↓bxpf, ↓bxal, ↓bxas, ↓bxrc, ↓exrc, Int.reduceEq, Int.reduceLT, Int.reduceNeg, Int.reduceToNat, Int.toNat_natCast, Option.bind_some, if_true, if_false, reduceIte, ok_173 S2, s_X12_holderMany S2, if_pos q, pt_173_68 S2, ia_220 S2, m2, if_neg zz, w32_id]
        refine congrArg some (congrArg Sum.inl (Prod.ext rfl ?_))
        dsimp only
        rw [e2]
        refine xarr_congr _ _ (fun k => ?_)
        by_cases p3 : k < i ∧ L.testBit k = true
        · rw [if_pos p3, if_pos ⟨by omega, p3.2⟩]
        · rw [if_neg p3, if_neg (fun w => p3 ⟨by
            by_cases y : k = i
            · subst y; exact absurd w.2 z
            · omega, w.2⟩)]) (by
      have T2 : TGs h (xarr H1 221 (fun k => if k < (xm h 199 4).toNat ∧ L.testBit k = true then ((rgs h L k : Nat) : Int) else xm H1 221 k)) := T1.arr _ (by omega)
      have S2 := T2.S S
      unfold f_X12_trades_L70
      dsimp only
      refine (bnd (v := xm h 199 4) ?_).trans ?_
      · rw [s_X12_holderMany S2, T2.2.2.2 199 4 (by omega) (by omega)]; exact if_pos (ok_173 S2)
      · rw [if_neg (by omega)]) (by omega)
    obtain ⟨H2, e2⟩ : ∃ H2, H2 = xarr H1 221 (fun k => if k < (xm h 199 4).toNat ∧ L.testBit k = true then ((rgs h L k : Nat) : Int) else xm H1 221 k) := ⟨_, rfl⟩
    rw [← e2] at l2
    have T2 : TGs h H2 := by rw [e2]; exact T1.arr _ (by omega)
    have m2 : ∀ k, xm H2 220 k = rA h (z6 (xm g 220)) t k := fun k => by rw [e2, xm_xarr, if_neg (by omega), m1]
    have r2 : ∀ k, k < (xm h 199 4).toNat → L.testBit k = true → xm H2 221 k = ((rgs h L k : Nat) : Int) := fun k h1 h2 => by rw [e2, xm_xarr, if_pos rfl, if_pos ⟨h1, h2⟩]
    have hsub : ∀ i, i ≤ 6 → lvb h L i &&& L = lvb h L i := fun i hi => tb_sub (lvb_lt h L i hi) (fun j hj hb => ((lvb_bit h L i hi j hj).mp hb).2.1)
    -- who leaves
    have l3 := xit_seq (f := fun u => f_X12_trades_L106 173 ((t + 1 : Nat) : Int) u.1 u.2.1 u.2.2) (fun i => (((pcn L - pcn (lvb h L i) : Nat) : Int), (i : Int), xarr H2 220 (fun k => if k < i ∧ L.testBit k = true ∧ 0 < rgs h L k then ((t + 1 : Nat) : Int) else xm H2 220 k))) (xm h 199 4).toNat (((pcn L - pcn (lvb h L (xm h 199 4).toNat) : Nat) : Int), xarr H2 220 (fun k => if k < (xm h 199 4).toNat ∧ L.testBit k = true ∧ 0 < rgs h L k then ((t + 1 : Nat) : Int) else xm H2 220 k)) (fun i hi => by
      obtain ⟨H3, e3⟩ : ∃ H3, H3 = xarr H2 220 (fun k => if k < i ∧ L.testBit k = true ∧ 0 < rgs h L k then ((t + 1 : Nat) : Int) else xm H2 220 k) := ⟨_, rfl⟩
      have T3 : TGs h H3 := by rw [e3]; exact T2.arr _ (by omega)
      have S3 := T3.S S
      have q : (i : Int) < xm H3 199 4 := by rw [T3.2.2.2 199 4 (by omega) (by omega)]; omega
      have m3 : xm H3 220 i = rA h (z6 (xm g 220)) t i := by rw [e3, xm_xarr, if_pos rfl, if_neg (by omega), m2]
      have d1 := pcn_diff L hL _ (lvb_lt h L i (by omega)) (hsub i (by omega))
      have d2 := pcn_diff L hL _ (lvb_lt h L (i + 1) (by omega)) (hsub (i + 1) (by omega))
      have pl6 := pcn_6 L hL
      dsimp only
      rw [← e3]
      unfold f_X12_trades_L106
      by_cases z : L.testBit i = true
      · have zz := (hr i hi).mpr z
        have r3 : xm H3 221 i = ((rgs h L i : Nat) : Int) := by rw [e3, xm_xarr, if_neg (by omega), r2 i hi z]
        simp (disch := omega) only [↓reduceIte, ↓bbind, ↓bxgf, ↓bxpf, ↓bxal, ↓bxas, ↓bxrc, ↓exrc, Int.reduceEq, Int.reduceLT, Int.reduceNeg, Int.reduceToNat, Int.toNat_natCast, Option.bind_some, if_true, if_false, reduceIte, ok_173 S3, s_X12_holderMany S3, if_pos q, pt_173_68 S3, pt_173_69 S3, ia_220 S3, ia_221 S3, m3, zz, r3]
        by_cases y : rgs h L i = 0
        · rw [if_pos (by omega), w32_id (by omega) (by omega), show lvb h L (i + 1) = lvb h L i from if_neg (by omega)]
          refine congrArg some (congrArg Sum.inl (Prod.ext rfl (Prod.ext rfl ?_)))
          dsimp only
          rw [e3]
          refine xarr_congr _ _ (fun k => ?_)
          by_cases p3 : k < i ∧ L.testBit k = true ∧ 0 < rgs h L k
          · rw [if_pos p3, if_pos ⟨by omega, p3.2⟩]
          · rw [if_neg p3, if_neg (fun w => p3 ⟨by
              by_cases y2 : k = i
              · subst y2; omega
              · omega, w.2⟩)]
        · have eb : lvb h L (i + 1) = lvb h L i ||| 2 ^ i := if_pos ⟨z, by omega⟩
          have fr : (lvb h L i).testBit i = false := by
            cases w : (lvb h L i).testBit i
            · rfl
            · have := (lvb_bit h L i (by omega) i (by omega)).mp w
              omega
          have ad := pcn_add _ (lvb_lt h L i (by omega)) i (by omega) fr
          rw [← eb] at ad
          rw [if_neg (by omega), w32_id (by omega) (by omega), w32_id (by omega) (by omega)]
          refine congrArg some (congrArg Sum.inl (Prod.ext ?_ (Prod.ext rfl ?_)))
          · dsimp only
            omega
          · dsimp only
            rw [e3]
            refine xheq rfl rfl rfl (fun b k => ?_)
            rw [xm_xset, xm_xarr, xm_xarr]
            by_cases p1 : b = 220
            · subst p1
              simp only [true_and, if_true]
              by_cases p2 : k = i
              · subst p2; rw [if_pos rfl, if_pos ⟨by omega, z, by omega⟩]
              · rw [if_neg p2]
                by_cases p3 : k < i ∧ L.testBit k = true ∧ 0 < rgs h L k
                · rw [if_pos p3, if_pos ⟨by omega, p3.2⟩]
                · rw [if_neg p3, if_neg (fun w => p3 ⟨by omega, w.2⟩)]
            · rw [if_neg (by omega), if_neg p1, if_neg p1]
      · have zz : ¬ rA h (z6 (xm g 220)) t i = 0 := fun w => z ((hr i hi).mp w)
        simp (disch := omega) only [↓reduceIte, ↓bbind, ↓bxgf, ↓bxpf, ↓bxal, ↓bxas, ↓bxrc, ↓exrc, Int.reduceEq, Int.reduceLT, Int.reduceNeg, Int.reduceToNat, Int.toNat_natCast, Option.bind_some, if_true, if_false, reduceIte, ok_173 S3, s_X12_holderMany S3, if_pos q, pt_173_68 S3, ia_220 S3, m3, if_neg zz, w32_id]
        rw [show lvb h L (i + 1) = lvb h L i from if_neg (fun w => z w.1)]
        refine congrArg some (congrArg Sum.inl (Prod.ext rfl (Prod.ext rfl ?_)))
        dsimp only
        rw [e3]
        refine xarr_congr _ _ (fun k => ?_)
        by_cases p3 : k < i ∧ L.testBit k = true ∧ 0 < rgs h L k
        · rw [if_pos p3, if_pos ⟨by omega, p3.2⟩]
        · rw [if_neg p3, if_neg (fun w => p3 ⟨by
            by_cases y : k = i
            · subst y; exact absurd w.2.1 z
            · omega, w.2⟩)]) (by
      have T3 : TGs h (xarr H2 220 (fun k => if k < (xm h 199 4).toNat ∧ L.testBit k = true ∧ 0 < rgs h L k then ((t + 1 : Nat) : Int) else xm H2 220 k)) := T2.arr _ (by omega)
      have S3 := T3.S S
      unfold f_X12_trades_L106
      dsimp only
      refine (bnd (v := xm h 199 4) ?_).trans ?_
      · rw [s_X12_holderMany S3, T3.2.2.2 199 4 (by omega) (by omega)]; exact if_pos (ok_173 S3)
      · rw [if_neg (by omega)]) (by omega)
    have hpos : 0 < pcn L := by
      have h1 := hTl t ht
      rw [← eL] at h1
      have h2 := (pcn_0 L hL)
      omega
    have dn := pcn_diff L hL _ (lvb_lt h L (xm h 199 4).toNat (by omega)) (hsub _ (by omega))
    rw [← e0, ← eL]
    unfold f_X12_trades_L28
    rw [if_pos (by omega)]
    have hz1 : ((0 : Int), H0) = (((0 : Nat) : Int), xarr H0 219 (fun k => if k < 0 ∧ L.testBit k = true then ((pnt h L k : Nat) : Int) else xm H0 219 k)) := by
      refine Prod.ext rfl ?_
      dsimp only
      rw [show (fun k => if k < 0 ∧ L.testBit k = true then ((pnt h L k : Nat) : Int) else xm H0 219 k) = xm H0 219 from funext fun k => if_neg (by omega)]
      exact (xarr_self H0 219).symm
    rw [hz1]
    refine (bnd l1).trans ?_
    have hz2 : ((0 : Int), H1) = (((0 : Nat) : Int), xarr H1 221 (fun k => if k < 0 ∧ L.testBit k = true then ((rgs h L k : Nat) : Int) else xm H1 221 k)) := by
      refine Prod.ext rfl ?_
      dsimp only
      rw [show (fun k => if k < 0 ∧ L.testBit k = true then ((rgs h L k : Nat) : Int) else xm H1 221 k) = xm H1 221 from funext fun k => if_neg (by omega)]
      exact (xarr_self H1 221).symm
    rw [hz2]
    refine (bnd l2).trans ?_
    have hz3 : (((pcn L : Nat) : Int), (0 : Int), H2) = (((pcn L - pcn (lvb h L 0) : Nat) : Int), ((0 : Nat) : Int), xarr H2 220 (fun k => if k < 0 ∧ L.testBit k = true ∧ 0 < rgs h L k then ((t + 1 : Nat) : Int) else xm H2 220 k)) := by
      refine Prod.ext (by show ((pcn L : Nat) : Int) = ((pcn L - pcn 0 : Nat) : Int); rw [show pcn 0 = 0 from rfl, Nat.sub_zero]) (Prod.ext rfl ?_)
      dsimp only
      rw [show (fun k => if k < 0 ∧ L.testBit k = true ∧ 0 < rgs h L k then ((t + 1 : Nat) : Int) else xm H2 220 k) = xm H2 220 from funext fun k => if_neg (by omega)]
      exact (xarr_self H2 220).symm
    rw [hz3]
    refine (bnd l3).trans ?_
    rw [w32_id (by omega) (by omega), ← dn.1, show L &&& (63 ^^^ lvb h L (xm h 199 4).toNat) = Lsq h (t + 1) by rw [eL]; rfl]
    refine congrArg some (congrArg Sum.inl (Prod.ext rfl (Prod.ext rfl ?_)))
    dsimp only
    rw [e2, e1, e0]
    unfold tM
    refine xheq rfl rfl rfl (fun b k => ?_)
    simp only [xm_xarr, pM, rA, zM, ← eL]
    by_cases p1 : b = 221
    · subst p1; simp
    · by_cases p2 : b = 220
      · subst p2; simp
      · by_cases p3 : b = 219
        · subst p3; simp
        · simp only [p1, p2, p3, if_false]
  have hl := xit_seq (f := fun u => f_X12_trades_L28 173 u.1 u.2.1 u.2.2) (fun t => (((pcn (Lsq h t) : Nat) : Int), ((t + 1 : Nat) : Int), tM h g t)) T (tM h g T) round (by
    unfold f_X12_trades_L28
    dsimp only
    rw [hT]
    exact if_neg (by decide)) (by omega)
  -- the rounds at nought
  have l0 := xit_seq (f := fun u => f_X12_trades_L2 173 u.1 u.2) (fun i => ((i : Int), xarr g 220 (fun k => if k < i then 0 else xm g 220 k))) 6 (xarr g 220 (z6 (xm g 220))) (fun i hi => by
    have T1 : TGs h (xarr g 220 (fun k => if k < i then 0 else xm g 220 k)) := Tg.arr _ (by omega)
    have S1 := T1.S S
    have q : (i : Int) < 6 := by omega
    unfold f_X12_trades_L2
    simp (disch := omega) only [↓reduceIte, ↓bbind, ↓bxgf, ↓bxpf, ↓bxal, ↓bxas, ↓bxrc, ↓exrc, Int.reduceEq, Int.reduceLT, Int.reduceNeg, Int.reduceToNat, Int.toNat_natCast, Option.bind_some, if_true, if_false, reduceIte, if_pos q, ok_173 S1, pt_173_68 S1, ia_220 S1, w32_id]
    refine congrArg some (congrArg Sum.inl (Prod.ext rfl ?_))
    dsimp only
    refine xheq rfl rfl rfl (fun b k => ?_)
    rw [xm_xset, xm_xarr, xm_xarr]
    by_cases p1 : b = 220
    · subst p1
      simp only [true_and, if_true]
      by_cases p2 : k = i
      · subst p2; rw [if_pos rfl, if_pos (by omega)]
      · rw [if_neg p2]
        by_cases p3 : k < i
        · rw [if_pos p3, if_pos (by omega)]
        · rw [if_neg p3, if_neg (by omega)]
    · rw [if_neg (by omega), if_neg p1, if_neg p1]) (by
    unfold f_X12_trades_L2
    rw [if_neg (by omega)]
    rfl) (by omega)
  have T1 : TGs h (xarr g 220 (z6 (xm g 220))) := Tg.arr _ (by omega)
  have S1 := T1.S S
  have hz0 : ((0 : Int), g) = (((0 : Nat) : Int), xarr g 220 (fun k => if k < 0 then 0 else xm g 220 k)) := by
    refine Prod.ext rfl ?_
    dsimp only
    rw [show (fun k => if k < 0 then 0 else xm g 220 k) = xm g 220 from funext fun k => if_neg (by omega)]
    exact (xarr_self g 220).symm
  unfold f_X12_trades
  rw [hz0]
  refine (bnd l0).trans ?_
  refine (bnd (v := xm h 199 4) ?_).trans ?_
  · rw [s_X12_holderMany S1, T1.2.2.2 199 4 (by omega) (by omega)]; exact if_pos (ok_173 S1)
  have hz : (xm h 199 4, (1 : Int), xarr g 220 (z6 (xm g 220))) = (((pcn (Lsq h 0) : Nat) : Int), ((0 + 1 : Nat) : Int), tM h g 0) := by
    refine Prod.ext ?_ (Prod.ext rfl ?_)
    · show xm h 199 4 = ((pcn (2 ^ (xm h 199 4).toNat - 1) : Nat) : Int)
      rw [pcn_full _ (by omega)]
      omega
    · dsimp only
      unfold tM
      refine xheq rfl rfl rfl (fun b k => ?_)
      simp only [xm_xarr, pM, rA, zM]
      by_cases p1 : b = 221
      · subst p1; simp
      · by_cases p2 : b = 220
        · subst p2; simp
        · by_cases p3 : b = 219
          · subst p3; simp
          · simp only [p1, p2, p3, if_false]
  rw [hz]
  exact (bnd hl).trans rfl
