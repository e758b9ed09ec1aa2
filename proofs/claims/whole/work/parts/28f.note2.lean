/-! ===== note ===== -/
theorem Rt.b {h : xa_H} (T : Rt h) : RtB h := T.1
theorem rr_take {h : xa_H} {s F1 F2 T2 T3 : Nat} (R : RR h s F1 F2 T2 T3) : RR (xset (xset h 0 1 0) 173 1 0) s F1 F2 T2 T3 := by
  refine R.mvL (((rr_S R).set (by decide +kernel)).set (by decide +kernel)) (Nat.le_refl _) (fun _ _ => rfl) (by repeat (first | exact agr_refl _ _ | refine agr_set rfl ?_ | refine agr_arr (fun _ => rfl) ?_)) ?_ ((rr_r R).mv (by repeat (first | exact agr_refl _ _ | refine agr_set rfl ?_ | refine agr_arr (fun _ => rfl) ?_))) ((rr_f R).mv (by repeat (first | exact agr_refl _ _ | refine agr_set rfl ?_ | refine agr_arr (fun _ => rfl) ?_))) ((rr_n R).mv (by repeat (first | exact agr_refl _ _ | refine agr_set rfl ?_ | refine agr_arr (fun _ => rfl) ?_))) ((rr_h R).mv (by repeat (first | exact agr_refl _ _ | refine agr_set rfl ?_ | refine agr_arr (fun _ => rfl) ?_))) ((rr_j R).mv (by repeat (first | exact agr_refl _ _ | refine agr_set rfl ?_ | refine agr_arr (fun _ => rfl) ?_))) ((rr_i R).mv (by repeat (first | exact agr_refl _ _ | refine agr_set rfl ?_ | refine agr_arr (fun _ => rfl) ?_))) ((rr_s R).mv (by repeat (first | exact agr_refl _ _ | refine agr_set rfl ?_ | refine agr_arr (fun _ => rfl) ?_))) ((rr_2 R).mv (by repeat (first | exact agr_refl _ _ | refine agr_set rfl ?_ | refine agr_arr (fun _ => rfl) ?_)))
  obtain ⟨t1, t2, t3, t4⟩ := rr_t R
  refine ⟨fun k hk => ?_, ?_, ?_, ?_⟩
  · simpa [xm_xset] using t1 k hk
  · simp [xm_xset]
  · simp [xm_xset]
  · simp [xm_xset]
theorem rr_takeRef {h : xa_H} {s F1 F2 T2 T3 : Nat} (R : RR h s F1 F2 T2 T3) {w : Nat} (hw : w < 6) : RR (xset (xset (xset (xset h 0 1 0) 172 w (w32 (xm h 172 w + 1))) 173 1 0) 175 w (w32 (xm h 175 w + 1))) s F1 F2 T2 T3 := by
  have := rr_refuse (rr_take R) hw
  rw [xset_comm (xset h 0 1 0) 173 1 0 172 w _ (by omega)] at this
  simp only [xm_xset] at this
  simpa using this
def rowsOK (h : xa_H) (n m k : Nat) : Prop := ∀ t, 3 * t < k → (0 ≤ xm h 174 (3 * t) ∧ xm h 174 (3 * t) < (n : Int)) ∧ (0 ≤ xm h 174 (3 * t + 1) ∧ xm h 174 (3 * t + 1) < (m : Int)) ∧ (0 ≤ xm h 174 (3 * t + 2) ∧ xm h 174 (3 * t + 2) < 2)
theorem l_note36 {g : xa_H} {s : Nat} (S : SH g) (C : Rc g s) (T : ∀ k, k < 1600 → 0 ≤ xm g 174 k ∧ xm g 174 k < 256) {k n m : Nat} (hk : k ≤ 60) (hk3 : k % 3 = 0) (en : xm g 199 4 = (n : Int)) (em : xm g 199 3 = (m : Int)) : ∃ r, xit (fun s => f_X12_note_L36 173 (k : Int) g s.1 s.2) xFU (1, 0) = some r ∧ ((r = 1 ∧ rowsOK g n m k) ∨ (r = 0 ∧ ¬ rowsOK g n m k)) := by
  refine xit_inv (f := fun s => f_X12_note_L36 173 (k : Int) g s.1 s.2) (fun u => ∃ t : Nat, 3 * t ≤ k ∧ u.2 = ((3 * t : Nat) : Int) ∧ ((u.1 = 1 ∧ rowsOK g n m (3 * t)) ∨ (u.1 = 0 ∧ ¬ rowsOK g n m k))) (fun u => k - u.2.toNat) (fun r => (r = 1 ∧ rowsOK g n m k) ∨ (r = 0 ∧ ¬ rowsOK g n m k)) (1, 0) ⟨0, by omega, rfl, Or.inl ⟨rfl, fun t ht => by omega⟩⟩ (by show k - (0 : Int).toNat < 1000000; omega) ?_
  rintro ⟨f, v⟩ ⟨t, h1, h2, h3⟩
  dsimp only at h2 h3
  subst h2
  by_cases z : 3 * t < k
  · have z' : ((3 * t : Nat) : Int) < (k : Int) := by omega
    rcases h3 with ⟨rfl, h3⟩ | ⟨rfl, h3⟩
    · have g2 := T (3 * t + 2) (by omega)
      have E : f_X12_note_L36 173 (k : Int) g 1 ((3 * t : Nat) : Int) = if (0 ≤ xm g 174 (3 * t) ∧ xm g 174 (3 * t) < (n : Int)) ∧ (0 ≤ xm g 174 (3 * t + 1) ∧ xm g 174 (3 * t + 1) < (m : Int)) ∧ xm g 174 (3 * t + 2) < 2 then some (.inl (1, ((3 * (t + 1) : Nat) : Int))) else some (.inl (0, ((3 * (t + 1) : Nat) : Int))) := by
        unfold f_X12_note_L36
        rw [if_pos z', if_neg (by decide)]
        rw [w32_id (z := ((3 * t : Nat) : Int) + 1) (by omega) (by omega), w32_id (z := ((3 * t : Nat) : Int) + 2) (by omega) (by omega), w32_id (z := ((3 * t : Nat) : Int) + 3) (by omega) (by omega)]
        refine (bnd (xgf_eq (a := 173) (ok_173 S) (pt_173_0 S))).trans ?_
        refine (bnd (v := xm g 174 (3 * t)) (by unfold xal; rw [if_pos (ia_174 S (by omega) (by omega))]; rfl)).trans ?_
        refine (bnd (v := if (0 ≤ xm g 174 (3 * t) ∧ xm g 174 (3 * t) < (n : Int)) then 1 else 0) (by rw [s_X12_isHolder S C, en]; exact if_pos (ok_173 S))).trans ?_
        by_cases y0 : (0 ≤ xm g 174 (3 * t) ∧ xm g 174 (3 * t) < (n : Int))
        · rw [if_pos y0, if_neg (by decide)]
          refine (bnd (xgf_eq (a := 173) (ok_173 S) (pt_173_0 S))).trans ?_
          refine (bnd (v := xm g 174 (3 * t + 1)) (by unfold xal; rw [if_pos (ia_174 S (by omega) (by omega))]; rfl)).trans ?_
          refine (bnd (v := if (0 ≤ xm g 174 (3 * t + 1) ∧ xm g 174 (3 * t + 1) < (m : Int)) then 1 else 0) (by rw [s_X12_isHeldThere S C, em]; exact if_pos (ok_173 S))).trans ?_
          by_cases y1 : (0 ≤ xm g 174 (3 * t + 1) ∧ xm g 174 (3 * t + 1) < (m : Int))
          · rw [if_pos y1, if_neg (by decide)]
            refine (bnd (xgf_eq (a := 173) (ok_173 S) (pt_173_0 S))).trans ?_
            refine (bnd (v := xm g 174 (3 * t + 2)) (by unfold xal; rw [if_pos (ia_174 S (by omega) (by omega))]; rfl)).trans ?_
            by_cases y2 : xm g 174 (3 * t + 2) < 2
            · rw [if_pos y2, if_pos ⟨y0, y1, y2⟩]; rfl
            · rw [if_neg y2, if_neg (fun w => y2 w.2.2)]; rfl
          · rw [if_neg y1, if_pos rfl, if_neg (fun w => y1 w.2.1)]; rfl
        · rw [if_neg y0, if_pos rfl, if_neg (fun w => y0 w.1)]; rfl
      dsimp only
      rw [E]
      by_cases y : (0 ≤ xm g 174 (3 * t) ∧ xm g 174 (3 * t) < (n : Int)) ∧ (0 ≤ xm g 174 (3 * t + 1) ∧ xm g 174 (3 * t + 1) < (m : Int)) ∧ xm g 174 (3 * t + 2) < 2
      · refine Or.inl ⟨_, if_pos y, ⟨t + 1, by omega, rfl, Or.inl ⟨rfl, fun t' ht' => ?_⟩⟩, ?_⟩
        · by_cases w : t' = t
          · subst w; exact ⟨y.1, y.2.1, g2.1, y.2.2⟩
          · exact h3 t' (by omega)
        · show k - ((3 * (t + 1) : Nat) : Int).toNat < k - ((3 * t : Nat) : Int).toNat
          omega
      · refine Or.inl ⟨_, if_neg y, ⟨t + 1, by omega, rfl, Or.inr ⟨rfl, fun o => y ?_⟩⟩, ?_⟩
        · have := o t z
          exact ⟨this.1, this.2.1, this.2.2.2⟩
        · show k - ((3 * (t + 1) : Nat) : Int).toNat < k - ((3 * t : Nat) : Int).toNat
          omega
    · refine Or.inr ⟨0, ?_, Or.inr ⟨rfl, h3⟩⟩
      unfold f_X12_note_L36
      dsimp only
      rw [if_pos z', if_pos rfl]
  · have ek : 3 * t = k := by omega
    refine Or.inr ⟨f, ?_, ?_⟩
    · unfold f_X12_note_L36
      dsimp only
      rw [if_neg (by omega)]
    · rw [← ek]
      rw [← ek] at h3
      exact h3
theorem s_noteM {g : xa_H} {s : Nat} (S : SH g) (C : Rc g s) (T : ∀ k, k < 1600 → 0 ≤ xm g 174 k ∧ xm g 174 k < 256) {k n m : Nat} (ek : xm g 173 1 = (k : Int)) (hk : k ≤ 1600) (en : xm g 199 4 = (n : Int)) (em : xm g 199 3 = (m : Int)) :
    (isNt g n m k → f_X12_note 173 g = some (((k / 3 : Nat) : Int), xset (xarr (xset g 173 1 0) 222 (fun j => if j < k then xm g 174 j else xm g 222 j)) 173 70 ((k / 3 : Nat) : Int))) ∧ (¬ isNt g n m k → f_X12_note 173 g = some (-1, xset (xset g 173 1 0) 175 1 (w32 (xm g 175 1 + 1)))) := by
  have S1 : SH (xset g 173 1 0) := S.set (by decide +kernel)
  have hs := C.2.1.1
  have C1 : Rc (xset g 173 1 0) s := C.mv (Nat.le_refl _) (fun _ _ => rfl) (fun a k hd => by unfold DRc at hd; rw [xm_xset, if_neg (by omega)])
  have ref : f_X12_note_J97 173 (k : Int) 0 (xset g 173 1 0) = some (-1, xset (xset g 173 1 0) 175 1 (w32 (xm g 175 1 + 1))) := by
    unfold f_X12_note_J97
    rw [if_pos rfl]
    refine (bnd (v := (-1, xset (xset g 173 1 0) 175 1 (w32 (xm g 175 1 + 1)))) ?_).trans rfl
    rw [s_X12_refuses S1 (k := 1) (by omega) (by omega)]
    exact if_pos (ok_173 S1)
  have j32 : f_X12_note_J32 173 (k : Int) (xset g 173 1 0) = some (-1, xset (xset g 173 1 0) 175 1 (w32 (xm g 175 1 + 1))) := by
    unfold f_X12_note_J32 f_X12_note_J33
    refine (bnd (v := (0 : Int)) ?_).trans ref
    refine xit_end ?_ (by decide)
    unfold f_X12_note_L36
    dsimp only
    split <;> rfl
  have st : f_X12_note 173 g = if 0 < k ∧ k % 3 = 0 ∧ k ≤ 60 then f_X12_note_J33 173 (k : Int) 1 (xset g 173 1 0) else f_X12_note_J32 173 (k : Int) (xset g 173 1 0) := by
    unfold f_X12_note
    refine (bnd (xgf_eq (a := 173) (ok_173 S) ek)).trans ?_
    refine (bnd (xpf_eq (a := 173) (ok_173 S))).trans ?_
    rw [Int.tmod_eq_emod_of_nonneg (by omega), Int.tdiv_eq_ediv_of_nonneg (by omega)]
    by_cases a : 0 < k
    · rw [if_pos (by omega)]
      by_cases b : k % 3 = 0
      · rw [if_pos (by omega), w32_id (by omega) (by omega)]
        by_cases c : k ≤ 60
        · rw [if_neg (by omega), if_pos ⟨a, b, c⟩]
        · rw [if_pos (by omega), if_neg (fun w => c w.2.2)]
      · rw [if_neg (by omega), if_neg (fun w => b w.2.1)]
    · rw [if_neg (by omega), if_neg (fun w => a w.1)]
  have rows : ∀ k', rowsOK (xset g 173 1 0) n m k' ↔ rowsOK g n m k' := by
    intro k'
    unfold rowsOK
    simp [xm_xset]
  constructor
  · rintro ⟨a, b, c, d⟩
    rw [st, if_pos ⟨a, b, c⟩]
    obtain ⟨r, r1, r2⟩ := l_note36 S1 C1 (fun j hj => by simpa [xm_xset] using T j hj) c b (by simpa [xm_xset] using en) (by simpa [xm_xset] using em)
    have : r = 1 := by
      rcases r2 with ⟨e, -⟩ | ⟨-, e⟩
      · exact e
      · exact absurd ((rows k).mpr d) e
    subst this
    unfold f_X12_note_J33
    refine (bnd r1).trans ?_
    unfold f_X12_note_J97
    rw [if_neg (by decide)]
    have hl := xit_seq (f := fun s => f_X12_note_L109 173 (k : Int) s.1 s.2) (fun i => ((i : Int), xarr (xset g 173 1 0) 222 (fun j => if j < i then xm g 174 j else xm g 222 j))) k (xarr (xset g 173 1 0) 222 (fun j => if j < k then xm g 174 j else xm g 222 j)) (fun i hi => by
      have S2 : SH (xarr (xset g 173 1 0) 222 (fun j => if j < i then xm g 174 j else xm g 222 j)) := S1.arr (by decide +kernel)
      have q : (i : Int) < (k : Int) := by omega
      unfold f_X12_note_L109
      simp (disch := omega) only [↓reduceIte, ↓bbind, ↓bxgf, ↓bxpf, ↓bxal, ↓bxas, ↓bxrc, ↓exrc, Int.reduceEq, Int.reduceLT, Int.reduceNeg, Int.reduceToNat, Int.toNat_natCast, Option.bind_some, if_true, if_false, reduceIte, if_pos q, ok_173 S2, pt_173_71 S2, pt_173_0 S2, ia_222 S2, ia_174 S2, w32_id]
      refine congrArg some (congrArg Sum.inl (Prod.ext rfl ?_))
      dsimp only
      rw [xset_xarr]
      refine xarr_congr _ _ (fun j => ?_)
      by_cases p : j = i
      · subst p
        rw [if_pos rfl, if_pos (by omega)]
        rw [xm_xarr, if_neg (by omega), xm_xset, if_neg (by omega)]
      · rw [if_neg p]
        by_cases p2 : j < i
        · rw [if_pos p2, if_pos (by omega)]
        · rw [if_neg p2, if_neg (by omega)]) (by
      unfold f_X12_note_L109
      dsimp only
      rw [if_neg (by omega)]) (by omega)
    have hz : ((0 : Int), xset g 173 1 0) = (((0 : Nat) : Int), xarr (xset g 173 1 0) 222 (fun j => if j < 0 then xm g 174 j else xm g 222 j)) := by
      refine Prod.ext rfl ?_
      dsimp only
      refine xheq rfl rfl rfl (fun y j => ?_)
      rw [xm_xarr]
      by_cases p : y = 222
      · subst p
        rw [if_pos rfl, if_neg (by omega), xm_xset, if_neg (by omega)]
      · rw [if_neg p]
    rw [hz]
    refine (bnd hl).trans ?_
    have S2 : SH (xarr (xset g 173 1 0) 222 (fun j => if j < k then xm g 174 j else xm g 222 j)) := S1.arr (by decide +kernel)
    refine (bnd (xpf_eq (a := 173) (ok_173 S2))).trans ?_
    have S3 : SH (xset (xarr (xset g 173 1 0) 222 (fun j => if j < k then xm g 174 j else xm g 222 j)) 173 70 (w32 (Int.tdiv (k : Int) 3))) := S2.set (by decide +kernel)
    refine (bnd (xgf_eq (a := 173) (ok_173 S3) (by rw [xm_xset, if_pos ⟨rfl, rfl⟩]))).trans ?_
    rw [Int.tdiv_eq_ediv_of_nonneg (by omega), w32_id (by omega) (by omega)]
    rfl
  · intro no
    rw [st]
    by_cases a : 0 < k ∧ k % 3 = 0 ∧ k ≤ 60
    · rw [if_pos a]
      obtain ⟨r, r1, r2⟩ := l_note36 S1 C1 (fun j hj => by simpa [xm_xset] using T j hj) a.2.2 a.2.1 (by simpa [xm_xset] using en) (by simpa [xm_xset] using em)
      have : r = 0 := by
        rcases r2 with ⟨-, e⟩ | ⟨e, -⟩
        · exact absurd ⟨a.1, a.2.1, a.2.2, (rows k).mp e⟩ no
        · exact e
      subst this
      unfold f_X12_note_J33
      exact (bnd r1).trans ref
    · rw [if_neg a]
      exact j32
theorem okp_all {ok : Nat → Nat → Bool} {m N : Nat} : ∀ n, (okp ok m N n = true ↔ ∀ i, i < n → ok i (dgm m i N) = true)
  | 0 => by simp [okp]
  | n + 1 => by
    simp only [okp, Bool.and_eq_true, okp_all n]
    constructor
    · rintro ⟨a, b⟩ i hi
      by_cases q : i = n
      · rw [q]; exact b
      · exact a i (by omega)
    · intro a
      exact ⟨fun i hi => a i (by omega), a n (by omega)⟩
theorem okc_all {ρ : Nat → Int} {i x : Nat} : ∀ r, (okc ρ r i x = true ↔ ∀ k, k < r → ρ (3 * k) = (i : Int) → (if (x : Int) = ρ (3 * k + 1) then (1 : Int) else 0) = ρ (3 * k + 2))
  | 0 => by simp [okc]
  | r + 1 => by
    simp only [okc, Bool.and_eq_true, Bool.or_eq_true, decide_eq_true_eq, okc_all r]
    constructor
    · rintro ⟨a, b⟩ k hk e
      by_cases q : k = r
      · subst q
        rcases b with b | b
        · exact absurd e b
        · exact b
      · exact a k (by omega) e
    · intro a
      refine ⟨fun k hk e => a k (by omega) e, ?_⟩
      by_cases q : ρ (3 * r) = (i : Int)
      · exact Or.inr (a r (by omega) q)
      · exact Or.inl q
theorem rwb_all {m N : Nat} {ρ : Nat → Int} : ∀ r, (rwb m ρ N r = true ↔ ∀ k, k < r → (if ((dgm m (ρ (3 * k)).toNat N : Nat) : Int) = ρ (3 * k + 1) then (1 : Int) else 0) = ρ (3 * k + 2))
  | 0 => by simp [rwb]
  | r + 1 => by
    simp only [rwb, Bool.and_eq_true, decide_eq_true_eq, rwb_all r]
    constructor
    · rintro ⟨a, b⟩ k hk
      by_cases q : k = r
      · rw [q]; exact b
      · exact a k (by omega)
    · intro a
      exact ⟨fun k hk => a k (by omega), a r (by omega)⟩
theorem rwb_okp {n m N r : Nat} {ρ : Nat → Int} (h : ∀ k, k < r → 0 ≤ ρ (3 * k) ∧ ρ (3 * k) < (n : Int)) : rwb m ρ N r = true ↔ okp (okc ρ r) m N n = true := by
  rw [rwb_all, okp_all]
  constructor
  · intro a i hi
    rw [okc_all]
    intro k hk e
    have := a k hk
    rw [e] at this
    exact this
  · intro a k hk
    have hb := h k hk
    have := a (ρ (3 * k)).toNat (by omega)
    rw [okc_all] at this
    exact this k hk (by omega)
theorem nW_frd {n m r : Nat} {ρ : Nat → Int} (h : ∀ k, k < r → 0 ≤ ρ (3 * k) ∧ ρ (3 * k) < (n : Int)) : nW n m ρ r = frd (okc ρ r) m n n 0 := by
  have e := Wk_frd (okc ρ r) m n n (Nat.le_refl _)
  rw [Nat.sub_self] at e
  have e0 : Wk (okc ρ r) m 0 (frd (okc ρ r) m n n) = frd (okc ρ r) m n n 0 := by
    unfold Wk
    simp [sumN, wvb, okp, stb]
  rw [← e0, ← e]
  unfold nW Wk
  refine sumN_congr _ (fun N _ => ?_)
  unfold wayb
  simp only [Bool.and_eq_true, rwb_okp h]
theorem nC_cti {n m r i j : Nat} {ρ : Nat → Int} (hm : m ≤ 6) (hi : i < n) (hj : j < m) (h : ∀ k, k < r → 0 ≤ ρ (3 * k) ∧ ρ (3 * k) < (n : Int)) : nC n m ρ r i j = sumN (cti (okc ρ r) m n i j) (2 ^ m) := by
  rw [cti_tot hm hi hj]
  unfold nC
  refine sumN_congr _ (fun N _ => ?_)
  unfold wayb
  simp only [Bool.and_eq_true, rwb_okp h]
theorem c_note {h : xa_H} {s F1 F2 T2 T3 : Nat} (R : RR h s F1 F2 T2 T3) : CallOK h (f_X11_note 0 h) (f_X12_note 173) := by
  have S := rr_S R
  have C := rr_c R
  have T := rr_t R
  have hn := rc_n C
  have hm := rc_m C
  have hs := C.2.1.1
  obtain ⟨k, ek⟩ : ∃ k : Nat, xm h 173 1 = (k : Int) := ⟨(xm h 173 1).toNat, by have := T.2.2.1; omega⟩
  have hk : k ≤ 1600 := by have := T.2.2.2; omega
  have ekc : xm h 0 1 = (k : Int) := T.2.1.trans ek
  obtain ⟨n, en⟩ : ∃ n : Nat, xm h 199 4 = (n : Int) := ⟨(xm h 199 4).toNat, by omega⟩
  obtain ⟨m, em⟩ : ∃ m : Nat, xm h 199 3 = (m : Int) := ⟨(xm h 199 3).toNat, by omega⟩
  obtain ⟨H1, e1⟩ : ∃ H1, H1 = xset h 0 1 0 := ⟨_, rfl⟩
  have S1 : SH H1 := by rw [e1]; exact S.set (by decide +kernel)
  have m1 : ∀ a j, a ≠ 0 → xm H1 a j = xm h a j := fun a j z => by rw [e1, xm_xset, if_neg (by omega)]
  have C1 : Rc H1 s := by rw [e1]; exact C.mv (Nat.le_refl _) (fun _ _ => rfl) (fun a k hd => by unfold DRc at hd; rw [xm_xset, if_neg (by omega)])
  have T1 : RtB H1 := fun j hj => by rw [m1 _ _ (by omega), m1 _ _ (by omega)]; exact T.1 j hj
  obtain ⟨r, r1, r2⟩ := s_areNotes S1 C1 T1 hk ((m1 199 4 (by omega)).trans en) ((m1 199 3 (by omega)).trans em)
  have ni : isNt H1 n m k ↔ isNt h n m k := by
    unfold isNt
    simp only [m1 174 _ (by omega)]
  have st : f_X11_note 0 h = if r = 0 then some (-1, xset H1 172 1 (w32 (xm H1 172 1 + 1))) else (xgf H1 11 10 0).bind fun x5 =>
    (xgf H1 11 5 0).bind fun x6 =>
    (xgf H1 0 2 x6).bind fun x7 =>
    (xgf H1 11 5 0).bind fun x8 =>
    (xgf H1 0 1 x8).bind fun x9 =>
    (xrc H1 5 x5 (f_X5_forget x5 x7 x9 H1)).bind fun r10 =>
    (xit (fun s => f_X11_note_L42 0 (k : Int) s.1 s.2) xFU ((0, r10))).bind fun e19 =>
    (xgf e19 11 10 0).bind fun x20 =>
    (xrc e19 5 x20 (f_X5_reckon x20 e19)).bind fun r21 =>
    (xgf r21 11 10 0).bind fun x22 =>
    (xgf r21 5 0 x22).bind fun x23 =>
    some ((x23, r21)) := by
    unfold f_X11_note
    refine (bnd (v := ((k : Int), H1)) ?_).trans ?_
    · rw [s_takeTape S, ekc, ← e1]; exact if_pos (ok_0 S)
    refine (bnd (v := r) ?_).trans ?_
    · dsimp only; rw [r1]; exact if_pos (ok_0 S1)
    dsimp only
    by_cases z : r = 0
    · rw [if_pos z, if_pos z]
      refine (bnd (v := (-1, xset H1 172 1 (w32 (xm H1 172 1 + 1)))) ?_).trans rfl
      rw [s_X11_refuse S1 (k := 1) (by omega) (by omega)]
      exact if_pos (ok_0 S1)
    · rw [if_neg z, if_neg z]
  rcases r2 with ⟨rfl, ok⟩ | ⟨rfl, no⟩
  · have hnt := ni.mp ok
    obtain ⟨a1, a2, a3, a4⟩ := hnt
    have hm0 : 0 < m ∨ n = 0 := by
      by_cases z : n = 0
      · exact Or.inr z
      · have := rv_has (rr_n R) (i := 0) (by omega)
        exact Or.inl (by omega)
    obtain ⟨ρ, eρ⟩ : ∃ ρ, ρ = xm h 174 := ⟨_, rfl⟩
    obtain ⟨H2, f1, f2, f3, f4, -, -⟩ := s_forget S1 (n := n) (m := m) (by omega) (by omega) hm0 ρ
    have hloop : ∃ H3, xit (fun s => f_X11_note_L42 0 (k : Int) s.1 s.2) xFU (0, H2) = some H3 ∧ NF H1 H3 ∧ NS H3 (okc ρ (k / 3)) n m ∧ xm H3 158 0 = ((k / 3 : Nat) : Int) := by
      refine xit_inv (f := fun s => f_X11_note_L42 0 (k : Int) s.1 s.2) (fun u => ∃ (t : Nat) (H : xa_H), 3 * t ≤ k ∧ u = (((3 * t : Nat) : Int), H) ∧ NF H1 H ∧ NS H (okc ρ t) n m ∧ xm H 158 0 = (t : Int)) (fun u => k - u.1.toNat) (fun H3 => NF H1 H3 ∧ NS H3 (okc ρ (k / 3)) n m ∧ xm H3 158 0 = ((k / 3 : Nat) : Int)) (0, H2) ⟨0, H2, by omega, rfl, f2, f3, f4⟩ (by show k - (0 : Int).toNat < 1000000; omega) ?_
      rintro u ⟨t, H, g1, rfl, g2, g3, g4⟩
      dsimp only
      by_cases z : 3 * t < k
      · have SH' := g3.1
        have TB : RtB H := fun j hj => by rw [g2.2.2.2 174 j (by omega), g2.2.2.2 1 j (by omega)]; exact T1 j hj
        have bt : ∀ j : Nat, j < 1600 → f_X11_tapeByte 0 (j : Int) H = some (ρ j) := fun j hj => by
          rw [s_tapeByte SH' TB hj, g2.2.2.2 174 j (by omega), m1 174 j (by omega), eρ]
        obtain ⟨b0, b1, b2⟩ := a4 t z
        rw [← eρ] at b0 b1 b2
        have i0 : ρ (3 * t) = (((ρ (3 * t)).toNat : Nat) : Int) := by omega
        have i1 : ρ (3 * t + 1) = (((ρ (3 * t + 1)).toNat : Nat) : Int) := by omega
        have add : ∀ b : Int, ((b = 1 ∧ ρ (3 * t + 2) = 1) ∨ (b = 0 ∧ ρ (3 * t + 2) = 0)) → ∃ H', f_X5_addRow 158 (ρ (3 * t)) (ρ (3 * t + 1)) b H = some H' ∧ NF H H' ∧ NS H' (okc ρ (t + 1)) n m ∧ xm H' 158 0 = ((t + 1 : Nat) : Int) := fun b hb => by
          have := s_addRow g3 g4 (by omega) (i := (ρ (3 * t)).toNat) (x := (ρ (3 * t + 1)).toNat) (by omega) (by omega) i0 i1 b hb
          rw [← i0, ← i1] at this
          exact this
        have trans : ∀ H', NF H H' → NF H1 H' := fun H' q => ⟨q.1.trans g2.1, q.2.1.trans g2.2.1, q.2.2.1.trans g2.2.2.1, fun a j ha => (q.2.2.2 a j ha).trans (g2.2.2.2 a j ha)⟩
        have st2 : f_X11_note_L42 0 (k : Int) ((3 * t : Nat) : Int) H = if ρ (3 * t + 2) = 1 then (f_X5_addRow 158 (ρ (3 * t)) (ρ (3 * t + 1)) 1 H).bind fun r17 => some (.inl (((3 * (t + 1) : Nat) : Int), r17)) else (f_X5_addRow 158 (ρ (3 * t)) (ρ (3 * t + 1)) 0 H).bind fun r17 => some (.inl (((3 * (t + 1) : Nat) : Int), r17)) := by
          unfold f_X11_note_L42
          rw [if_pos (by omega), w32_id (z := ((3 * t : Nat) : Int) + 1) (by omega) (by omega), w32_id (z := ((3 * t : Nat) : Int) + 2) (by omega) (by omega), w32_id (z := ((3 * t : Nat) : Int) + 3) (by omega) (by omega)]
          refine (bnd (xgf_eq (a := 0) (ok_0 SH') (pt_0_10 SH'))).trans ?_
          refine (bnd (v := ρ (3 * t)) (by rw [bt _ (by omega)]; exact if_pos (ok_0 SH'))).trans ?_
          refine (bnd (v := ρ (3 * t + 1)) (by rw [show ((3 * t : Nat) : Int) + 1 = ((3 * t + 1 : Nat) : Int) by omega, bt _ (by omega)]; exact if_pos (ok_0 SH'))).trans ?_
          refine (bnd (v := ρ (3 * t + 2)) (by rw [show ((3 * t : Nat) : Int) + 2 = ((3 * t + 2 : Nat) : Int) by omega, bt _ (by omega)]; exact if_pos (ok_0 SH'))).trans ?_
          rw [show ∀ b, xrc H 5 158 (f_X5_addRow 158 (ρ (3 * t)) (ρ (3 * t + 1)) b H) = f_X5_addRow 158 (ρ (3 * t)) (ρ (3 * t + 1)) b H from fun b => if_pos (ok_158 SH'), show ∀ b, xrc H 5 158 (f_X5_addRow 158 (ρ (3 * t)) (ρ (3 * t + 1)) b H) = f_X5_addRow 158 (ρ (3 * t)) (ρ (3 * t + 1)) b H from fun b => if_pos (ok_158 SH')]
          rfl
        rw [st2]
        by_cases y : ρ (3 * t + 2) = 1
        · obtain ⟨H', w1, w2, w3, w4⟩ := add 1 (Or.inl ⟨rfl, y⟩)
          rw [if_pos y, w1]
          refine Or.inl ⟨_, rfl, ⟨t + 1, H', by omega, rfl, trans H' w2, w3, w4⟩, ?_⟩
          show k - ((3 * (t + 1) : Nat) : Int).toNat < k - ((3 * t : Nat) : Int).toNat
          omega
        · obtain ⟨H', w1, w2, w3, w4⟩ := add 0 (Or.inr ⟨rfl, by omega⟩)
          rw [if_neg y, w1]
          refine Or.inl ⟨_, rfl, ⟨t + 1, H', by omega, rfl, trans H' w2, w3, w4⟩, ?_⟩
          show k - ((3 * (t + 1) : Nat) : Int).toNat < k - ((3 * t : Nat) : Int).toNat
          omega
      · have et : t = k / 3 := by omega
        subst et
        refine Or.inr ⟨H, ?_, g2, g3, g4⟩
        unfold f_X11_note_L42
        rw [if_neg (by omega)]
    obtain ⟨H3, l1, l2, l3, l4⟩ := hloop
    obtain ⟨X, Y, Z, q1, q2⟩ := s_reckon l3
    obtain ⟨H4, e4⟩ : ∃ H4, H4 = xset (xarr (xarr (xarr H3 160 X) 161 Y) 162 Z) 158 1 ((frd (okc ρ (k / 3)) m n n 0 : Nat) : Int) := ⟨_, rfl⟩
    rw [← e4] at q1
    have NF4 : NF H1 H4 := by rw [e4]; exact (((l2.arr _ (by omega)).arr _ (by omega)).arr _ (by omega)).set _ (by omega)
    have NS4 : NS H4 (okc ρ (k / 3)) n m := by rw [e4]; exact (((l3.arr _ (by omega)).arr _ (by omega)).arr _ (by omega)).set1 _ (by omega)
    have S4 := NS4.1
    have v0 : xm H4 158 0 = ((k / 3 : Nat) : Int) := by rw [e4, xm_xset, if_neg (by omega), xm_xarr, if_neg (by omega), xm_xarr, if_neg (by omega), xm_xarr, if_neg (by omega), l4]
    have C4 : Rc H4 s := C1.mv (by rw [NF4.1]; exact Nat.le_refl _) (fun _ _ => by rw [NF4.2.2.1]) (fun a j hd => by unfold DRc at hd; exact NF4.2.2.2 a j (by omega))
    have m4 : ∀ a j, a ≠ 0 → ¬ (158 ≤ a ∧ a ≤ 162) → xm H4 a j = xm h a j := fun a j z1 z2 => (NF4.2.2.2 a j z2).trans (m1 a j z1)
    have ref := (s_noteM S4 C4 (k := k) (n := n) (m := m) (fun j hj => by rw [m4 174 j (by omega) (by omega)]; exact ⟨(T.1 j hj).1, (T.1 j hj).2.1⟩) (by rw [m4 173 1 (by omega) (by omega)]; exact ek) hk (by rw [m4 199 4 (by omega) (by omega)]; exact en) (by rw [m4 199 3 (by omega) (by omega)]; exact em)).1 ⟨a1, a2, a3, fun t ht => by rw [m4 174 _ (by omega) (by omega), m4 174 _ (by omega) (by omega), m4 174 _ (by omega) (by omega)]; exact a4 t ht⟩
    obtain ⟨H5, e5⟩ : ∃ H5, H5 = xset (xarr (xset H4 173 1 0) 222 (fun j => if j < k then xm H4 174 j else xm H4 222 j)) 173 70 ((k / 3 : Nat) : Int) := ⟨_, rfl⟩
    rw [← e5] at ref
    refine CallOK.same (v := ((k / 3 : Nat) : Int)) (h1 := H4) (h2 := H5) ?_ ref ⟨s, F1, F2, T2, T3, ?_⟩ (by rw [e5]; show xn H4 = xn h; rw [NF4.1, e1]; rfl) (by rw [e5]; show xz H4 = xz h; rw [NF4.2.1, e1]; rfl)
    · rw [st, if_neg (by decide)]
      refine (bnd (xgf_eq (a := 0) (ok_0 S1) (pt_0_10 S1))).trans ?_
      refine (bnd (xgf_eq (a := 0) (ok_0 S1) (rc_s C1))).trans ?_
      refine (bnd (xgf_eq C1.2.1.ok ((rc_2 C1).trans ((m1 199 4 (by omega)).trans en)))).trans ?_
      refine (bnd (xgf_eq (a := 0) (ok_0 S1) (rc_s C1))).trans ?_
      refine (bnd (xgf_eq C1.2.1.ok ((rc_1 C1).trans ((m1 199 3 (by omega)).trans em)))).trans ?_
      refine (bnd (v := H2) (by rw [f1]; exact if_pos (ok_158 S1))).trans ?_
      refine (bnd l1).trans ?_
      refine (bnd (xgf_eq (a := 0) (ok_0 l3.1) (pt_0_10 l3.1))).trans ?_
      refine (bnd (v := H4) (by rw [q1]; exact if_pos (ok_158 l3.1))).trans ?_
      refine (bnd (xgf_eq (a := 0) (ok_0 S4) (pt_0_10 S4))).trans ?_
      exact (bnd (xgf_eq (a := 158) (ok_158 S4) v0)).trans rfl
    · have S5 : SH H5 := by rw [e5]; exact ((S4.set (by decide +kernel)).arr (by decide +kernel)).set (by decide +kernel)
      have m5 : ∀ a j, a ≠ 0 → ¬ (158 ≤ a ∧ a ≤ 162) → a ≠ 173 → a ≠ 222 → xm H5 a j = xm h a j := fun a j z1 z2 z3 z4 => by
        rw [e5, xm_xset, if_neg (by omega), xm_xarr, if_neg (by omega), xm_xset, if_neg (by omega), m4 a j z1 z2]
      have mo0 : ∀ j, j ≠ 1 → xm H5 0 j = xm h 0 j := fun j z => by
        rw [e5, xm_xset, if_neg (by omega), xm_xarr, if_neg (by omega), xm_xset, if_neg (by omega), NF4.2.2.2 0 j (by omega), e1, xm_xset, if_neg (by omega)]
      have mo3 : ∀ j, j ≠ 1 → j ≠ 70 → xm H5 173 j = xm h 173 j := fun j z z2 => by
        rw [e5, xm_xset, if_neg (by omega), xm_xarr, if_neg (by omega), xm_xset, if_neg (by omega), m4 173 j (by omega) (by omega)]
      have A : ∀ D : Nat → Nat → Bool, (∀ a j, 158 ≤ a → a ≤ 162 → D a j = false) → D 0 1 = false → D 173 1 = false → D 173 70 = false → (∀ j, D 222 j = false) → agr D h H5 := by
        intro D d1 d2 d3 d4 d5 a j hd
        by_cases z1 : a = 0
        · subst z1
          by_cases z : j = 1
          · subst z; rw [d2] at hd; simp at hd
          · exact mo0 j z
        · by_cases z2 : 158 ≤ a ∧ a ≤ 162
          · rw [d1 a j z2.1 z2.2] at hd; simp at hd
          · by_cases z3 : a = 173
            · subst z3
              by_cases z : j = 1
              · subst z; rw [d3] at hd; simp at hd
              · by_cases z' : j = 70
                · subst z'; rw [d4] at hd; simp at hd
                · exact mo3 j z z'
            · by_cases z4 : a = 222
              · subst z4; rw [d5 j] at hd; simp at hd
              · exact m5 a j z1 z2 z3 z4
      have d5 : ∀ D : Nat → Nat → Bool, (∀ j, D 158 j = false) → (∀ j, D 159 j = false) → (∀ j, D 160 j = false) → (∀ j, D 161 j = false) → (∀ j, D 162 j = false) → ∀ a j, 158 ≤ a → a ≤ 162 → D a j = false := by
        intro D x1 x2 x3 x4 x5 a j y1 y2
        have : a = 158 ∨ a = 159 ∨ a = 160 ∨ a = 161 ∨ a = 162 := by omega
        rcases this with rfl | rfl | rfl | rfl | rfl
        · exact x1 j
        · exact x2 j
        · exact x3 j
        · exact x4 j
        · exact x5 j
      have AA : ∀ D : Nat → Nat → Bool, (∀ j, D 158 j = false) → (∀ j, D 159 j = false) → (∀ j, D 160 j = false) → (∀ j, D 161 j = false) → (∀ j, D 162 j = false) → D 0 1 = false → D 173 1 = false → D 173 70 = false → (∀ j, D 222 j = false) → agr D h H5 := fun D x1 x2 x3 x4 x5 => A D (d5 D x1 x2 x3 x4 x5)
      refine R.mvL S5 (by rw [e5]; show xn h ≤ xn H4; rw [NF4.1, e1]; exact Nat.le_refl _) (fun a _ => by rw [e5]; show xk H4 a = xk h a; rw [NF4.2.2.1, e1]; rfl) (AA _ (fun _ => rfl) (fun _ => rfl) (fun _ => rfl) (fun _ => rfl) (fun _ => rfl) rfl rfl rfl (fun _ => rfl)) ?_ ((rr_r R).mv (AA _ (fun _ => rfl) (fun _ => rfl) (fun _ => rfl) (fun _ => rfl) (fun _ => rfl) rfl rfl rfl (fun _ => rfl))) ((rr_f R).mv (AA _ (fun _ => rfl) (fun _ => rfl) (fun _ => rfl) (fun _ => rfl) (fun _ => rfl) rfl rfl rfl (fun _ => rfl))) ((rr_n R).mv (AA _ (fun _ => rfl) (fun _ => rfl) (fun _ => rfl) (fun _ => rfl) (fun _ => rfl) rfl rfl rfl (fun _ => rfl))) ((rr_h R).mv (AA _ (fun _ => rfl) (fun _ => rfl) (fun _ => rfl) (fun _ => rfl) (fun _ => rfl) rfl rfl rfl (fun _ => rfl))) ((rr_j R).mv (AA _ (fun _ => rfl) (fun _ => rfl) (fun _ => rfl) (fun _ => rfl) (fun _ => rfl) rfl rfl rfl (fun _ => rfl))) ((rr_i R).mv (AA _ (fun _ => rfl) (fun _ => rfl) (fun _ => rfl) (fun _ => rfl) (fun _ => rfl) rfl rfl rfl (fun _ => rfl))) ((rr_s R).mv (AA _ (fun _ => rfl) (fun _ => rfl) (fun _ => rfl) (fun _ => rfl) (fun _ => rfl) rfl rfl rfl (fun _ => rfl))) ?_
      · have x1 : xm H5 0 1 = 0 := by rw [e5, xm_xset, if_neg (by omega), xm_xarr, if_neg (by omega), xm_xset, if_neg (by omega), NF4.2.2.2 0 1 (by omega), e1, xm_xset, if_pos ⟨rfl, rfl⟩]
        have x2 : xm H5 173 1 = 0 := by rw [e5, xm_xset, if_neg (by omega), xm_xarr, if_neg (by omega), xm_xset, if_pos ⟨rfl, rfl⟩]
        refine ⟨fun j hj => ?_, by rw [x1, x2], by rw [x2]; decide, by rw [x2]; decide⟩
        rw [m5 174 j (by omega) (by omega) (by omega) (by omega), m5 1 j (by omega) (by omega) (by omega) (by omega)]
        exact T.1 j hj
      · have hr : ∀ j, j < k → xm H5 222 j = ρ j := fun j hj => by
          rw [e5, xm_xset, if_neg (by omega), xm_xarr, if_pos rfl, if_pos hj, m4 174 j (by omega) (by omega), eρ]
        have eok : okc ρ (k / 3) = okc (xm H5 222) (k / 3) := okc_congr _ (fun j hj => (hr j (by omega)).symm)
        have hb : ∀ t, t < k / 3 → (0 ≤ xm H5 222 (3 * t) ∧ xm H5 222 (3 * t) < (n : Int)) ∧ (0 ≤ xm H5 222 (3 * t + 1) ∧ xm H5 222 (3 * t + 1) < (m : Int)) ∧ (xm H5 222 (3 * t + 2) = 0 ∨ xm H5 222 (3 * t + 2) = 1) := fun t ht => by
          rw [hr _ (by omega), hr _ (by omega), hr _ (by omega), eρ]
          have := a4 t (by omega)
          refine ⟨this.1, this.2.1, by omega⟩
        have hb1 : ∀ t, t < k / 3 → 0 ≤ xm H5 222 (3 * t) ∧ xm H5 222 (3 * t) < (n : Int) := fun t ht => (hb t ht).1
        have k4 : ∀ a j, 158 ≤ a → a ≤ 162 → xm H5 a j = xm H4 a j := fun a j y1 y2 => by rw [e5, xm_xset, if_neg (by omega), xm_xarr, if_neg (by omega), xm_xset, if_neg (by omega)]
        refine ⟨k / 3, n, m, by omega, ?_, ?_, ?_, ?_, ?_, ?_, hb, ?_, fun i j hi hj => ?_⟩
        · rw [e5, xm_xset, if_pos ⟨rfl, rfl⟩]
        · rw [k4 158 0 (by omega) (by omega)]; exact v0
        · rw [m5 199 4 (by omega) (by omega) (by omega) (by omega)]; exact en
        · rw [m5 199 3 (by omega) (by omega) (by omega) (by omega)]; exact em
        · rw [k4 158 2 (by omega) (by omega)]; exact NS4.2.2.2.2.1
        · rw [k4 158 3 (by omega) (by omega)]; exact NS4.2.2.2.2.2.1
        · rw [k4 158 1 (by omega) (by omega), nW_frd hb1, ← eok, e4, xm_xset, if_pos ⟨rfl, rfl⟩]
        · rw [k4 162 _ (by omega) (by omega), nC_cti (by omega) hi hj hb1, ← eok, e4, xm_xset, if_neg (by omega), xm_xarr, if_pos rfl]
          exact q2 i j hi hj
  · have no' : ¬ isNt h n m k := fun o => no (ni.mpr o)
    obtain ⟨H2, e2⟩ : ∃ H2, H2 = xset H1 172 1 (w32 (xm H1 172 1 + 1)) := ⟨_, rfl⟩
    have S2 : SH H2 := by rw [e2]; exact S1.set (by decide +kernel)
    have m2 : ∀ a j, a ≠ 0 → a ≠ 172 → xm H2 a j = xm h a j := fun a j z1 z2 => by rw [e2, xm_xset, if_neg (by omega), m1 a j z1]
    have C2 : Rc H2 s := by rw [e2]; exact C1.mv (Nat.le_refl _) (fun _ _ => rfl) (fun a k hd => by unfold DRc at hd; rw [xm_xset, if_neg (by omega)])
    have ref := (s_noteM S2 C2 (k := k) (n := n) (m := m) (fun j hj => by rw [m2 174 j (by omega) (by omega)]; exact ⟨(T.1 j hj).1, (T.1 j hj).2.1⟩) (by rw [m2 173 1 (by omega) (by omega)]; exact ek) hk (by rw [m2 199 4 (by omega) (by omega)]; exact en) (by rw [m2 199 3 (by omega) (by omega)]; exact em)).2 (fun o => no' (by
      unfold isNt at o ⊢
      simpa only [m2 174 _ (by omega) (by omega)] using o))
    refine CallOK.same (v := -1) (h1 := H2) ?_ ref ⟨s, F1, F2, T2, T3, ?_⟩ (by rw [e2, e1]; rfl) (by rw [e2, e1]; rfl)
    · rw [st, if_pos rfl, e2]
    · have := rr_takeRef R (w := 1) (by omega)
      rw [e2, e1]
      simpa [xm_xset] using this
