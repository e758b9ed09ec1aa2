/-! ===== facts, and all ranks together ===== -/
theorem q_cmp {T : Nat → Int} {L : Nat} (s : pS) : (if pG T L s 61 = true then (-19 : Int) else if pG T L s 60 = true then -17 else if pG T L s 62 = true then -18 else -22) = oC (pC T L) s := by
  unfold oC pC
  by_cases g : pG T L s 61 = true
  · rw [if_pos g, if_pos g]; rfl
  · rw [if_neg g, if_neg g]
    by_cases g2 : pG T L s 60 = true
    · rw [if_pos g2, if_pos g2]; rfl
    · rw [if_neg g2, if_neg g2]
      by_cases g3 : pG T L s 62 = true
      · rw [if_pos g3, if_pos g3]; rfl
      · rw [if_neg g3, if_neg g3]
theorem c_fact {T : Nat → Int} {L : Nat} {q : Bool} {rc : Nat → Int → Int → xa_H → Option (Int × xa_H)} {d m m2 : Nat} {f su : pS → pR} (hd : d ≤ 6) (hf : 0 < d → pOK L q true m f) (hsu : pOK L q false m2 su) (h0 : 0 < d → cF T L q rc 0 (d - 1) (l2 T L f (pA1 T L) (pA2 T L))) (h2 : 0 < d → cF T L q rc 2 (d - 1) f) (h3 : cF T L q rc 3 d su) (h : xa_H) (s : pS) (P : Px T L q h s) (hl : s.2.2.length ≤ s.1) : cR T L q h (f_X3_fact rc 4 ((6 - d : Nat) : Int) h) (fcB T L (decide (0 < d)) f su s) := by
  have S := px_S P
  have pl := px_le P
  have c8 : xm h 2 7 = pW T L s := P.1.2.2.2.2.2.2.2
  unfold f_X3_fact fcB
  by_cases w19 : pW T L s = 19
  · have sl : s.1 < L := pW_lt (T := T) (L := L) (by omega)
    obtain ⟨v, h1, e, F1, o⟩ := q_stepInto P d hd
    rw [if_pos w19, g40 S, g2k S, c8, if_pos w19, x34 S, e, bbind]
    rcases o with ⟨o1, rfl, P1⟩ | ⟨o1, rfl, E1⟩
    · have S1 := px_S P1
      have n1 := pN_lt (T := T) sl
      have n2 := pN_sl (T := T) sl hl
      rw [if_pos (show decide (0 < d) = true by simp [o1]), if_neg one_ne, x34 S1, op_w o1 hd]
      refine cR_tr (DC_DP F1) (cR_bd (h2 o1 h1 _ P1 (by omega)) (fun h' => if_pos rfl) (fun h2 s2 F2 e2 P2 => ?_))
      have z := (hf o1).sl e2 n1.2.1
      rw [if_neg one_ne, x34 (px_S P2)]
      exact fin_put P2 rfl (by omega)
    · rw [if_pos rfl, if_neg (show ¬ decide (0 < d) = true by simp [o1])]
      exact cR_inr (DC_DP F1) E1
  · rw [if_neg w19, g40 S, g2k S, c8, if_neg w19, g40 S, x62 S, q_isSign P.1, bbind, iff01]
    by_cases g : pG T L s 91 = true
    · obtain ⟨v, h1, e, F1, o⟩ := q_stepInto P d hd
      rw [if_pos g, if_pos g, x34 S, e, bbind]
      rcases o with ⟨o1, rfl, P1⟩ | ⟨o1, rfl, E1⟩
      · have S1 := px_S P1
        have n1 := pN_lt (T := T) (pG_lt g)
        have n2 := pN_sl (T := T) (pG_lt g) hl
        rw [if_pos (show decide (0 < d) = true by simp [o1]), if_neg one_ne, x34 S1, op_w o1 hd]
        refine cR_tr (DC_DP F1) (cR_bd (h0 o1 h1 _ P1 (by omega)) (fun h' => if_pos rfl) (fun h2 s2 F2 e2 P2 => ?_))
        have S2 := px_S P2
        rw [if_neg one_ne, g40 S2, x62 S2]
        have := cR_bd (g := fun r17 => if r17.1 = 0 then some (0, r17.2) else some (1, r17.2)) (k := fun s => .inl s) (q_needSign P2 93) (fun h' => if_pos rfl) (fun h5 s5 F5 e5 P5 => cR_inl (Fx.refl _ _) P5)
        rw [bd_i] at this
        exact this
      · rw [if_pos rfl, if_neg (show ¬ decide (0 < d) = true by simp [o1])]
        exact cR_inr (DC_DP F1) E1
    · rw [if_neg g, if_neg g, g40 S, g2k S, c8]
      by_cases w20 : pW T L s = 20
      · have sl : s.1 < L := pW_lt (T := T) (L := L) (by omega)
        have n1 := pN_lt (T := T) sl
        have n2 := pN_sl (T := T) sl hl
        obtain ⟨h1, e1, P1, F1⟩ := q_step P
        rw [if_pos w20, if_pos w20, g40 S, x62 S, e1, bbind, x34 (px_S P1)]
        exact cR_tr (DC_DP F1) (fin_put2 P1 rfl (by omega))
      · rw [if_neg w20, if_neg w20, x34 S]
        unfold fcC
        refine cR_bd (h3 h s P hl) (fun h' => if_pos rfl) (fun h1 s1 F1 e1 P1 => ?_)
        have S1 := px_S P1
        have z1 := hsu.sl' e1 pl.1 hl
        have J : ∀ v : Int, v = oC (pC T L) s1 → cR T L q h1 (f_X3_fact_J159 rc 4 ((6 - d : Nat) : Int) v h1) (match pC T L s1 with
            | none => .inr (1, s1.1)
            | some c => bd (su (pN T L s1)) (fun s2 => .inl (pU s2 c))) := by
          intro v hv
          unfold f_X3_fact_J159
          cases hc : pC T L s1 with
          | none =>
            have : v = -22 := by rw [hv]; unfold oC; rw [hc]
            obtain ⟨g1, a1, a2, a3⟩ := q_stray P1.1
            rw [if_pos this, g40 S1, x62 S1, a1, bbind, xbo_ok (Or.inl rfl)]
            exact cR_inr (DC_DP a3) a2
          | some c =>
            obtain ⟨f1, f2⟩ := pC_some hc
            have hv2 : v = cof c := by rw [hv]; unfold oC; rw [hc]
            have : ¬ v = -22 := by
              rw [hv2]
              rcases f2 with rfl | rfl | rfl <;> decide
            obtain ⟨g1, a1, P2, a3⟩ := q_step P1
            have S2 := px_S P2
            have n1 := pN_lt (T := T) f1
            have n2 := pN_sl (T := T) f1 z1.1
            rw [if_neg this, g40 S1, x62 S1, a1, bbind, x34 S2]
            refine cR_tr (DC_DP a3) (cR_bd (h3 g1 _ P2 (by omega)) (fun h' => if_pos rfl) (fun h2 s2 F2 e2 P2 => ?_))
            have z := hsu.sl e2 n1.2.1
            rw [if_neg one_ne, x34 (px_S P2)]
            exact fin_put P2 hv2 (by omega)
        rw [if_neg one_ne, x34 S1, q_signCode P1, bbind, g40 S1, x62 S1, q_isSign P1.1, bbind, iff01]
        by_cases g61 : pG T L s1 61 = true
        · rw [if_pos g61]
          refine J _ ?_
          rw [← q_cmp, if_pos g61]
        · rw [if_neg g61]
          refine J _ ?_
          rw [← q_cmp, if_neg g61]
/-- the ranks by how many more may be open -/
theorem rec_part {T : Nat → Int} {L : Nat} {q : Bool} : ∀ d, d ≤ 6 → ∀ n, 4 * d + 2 ≤ n → cF T L q (f_rec n) 5 d (part T L q d)
  | 0, hd, n, hn => fun h s P hl => by
    obtain ⟨n, rfl⟩ : ∃ z, n = z + 1 := ⟨n - 1, by omega⟩
    refine c_part (rc := f_rec n) (d := 0) (m := 0) (f := fun s => .inl s) hd (fun z => by omega) (fun z => by omega) (fun z => by omega) (fun h s P hl => ?_) h s P hl
    obtain ⟨n, rfl⟩ : ∃ z, n = z + 1 := ⟨n - 1, by omega⟩
    exact c_pair (rc := f_rec n) (d := 0) (m := 0) (f := fun s => .inl s) hd (fun z => by omega) (fun z => by omega) h s P hl
  | d + 1, hd, n, hn => fun h s P hl => by
    have ih := rec_part (T := T) (L := L) (q := q) d (by omega)
    have hs : ∀ n, 4 * d + 4 ≤ n → cF T L q (f_rec n) 3 d (sumP T L q d) := fun n hn h s P hl => by
      obtain ⟨n, rfl⟩ : ∃ z, n = z + 1 := ⟨n - 1, by omega⟩
      refine c_sum (rc := f_rec n) (l1_ok (part_ok d) pO1_ok) (fun h s P hl => ?_) h s P hl
      obtain ⟨n, rfl⟩ : ∃ z, n = z + 1 := ⟨n - 1, by omega⟩
      exact c_product (rc := f_rec n) (part_ok d) (ih n (by omega)) h s P hl
    obtain ⟨n, rfl⟩ : ∃ z, n = z + 1 := ⟨n - 1, by omega⟩
    refine c_part (rc := f_rec n) (d := d + 1) (m := 3 * d + 3) (f := part T L q d) hd (fun _ => part_ok d) (fun _ => hs n (by omega)) (fun _ => ih n (by omega)) (fun h s P hl => ?_) h s P hl
    obtain ⟨n, rfl⟩ : ∃ z, n = z + 1 := ⟨n - 1, by omega⟩
    exact c_pair (rc := f_rec n) (d := d + 1) (m := 3 * d + 3) (f := part T L q d) hd (fun _ => part_ok d) (fun _ => hs n (by omega)) h s P hl
theorem rec_sum {T : Nat → Int} {L : Nat} {q : Bool} (d : Nat) (hd : d ≤ 6) (n : Nat) (hn : 4 * d + 4 ≤ n) : cF T L q (f_rec n) 3 d (sumP T L q d) := fun h s P hl => by
  obtain ⟨n, rfl⟩ : ∃ z, n = z + 1 := ⟨n - 1, by omega⟩
  refine c_sum (rc := f_rec n) (l1_ok (part_ok d) pO1_ok) (fun h s P hl => ?_) h s P hl
  obtain ⟨n, rfl⟩ : ∃ z, n = z + 1 := ⟨n - 1, by omega⟩
  exact c_product (rc := f_rec n) (part_ok d) (rec_part d hd n (by omega)) h s P hl
theorem rec_fact {T : Nat → Int} {L : Nat} {q : Bool} : ∀ d, d ≤ 6 → ∀ n, 4 * d + 5 ≤ n → cF T L q (f_rec n) 2 d (fact T L q d)
  | 0, hd, n, hn => fun h s P hl => by
    obtain ⟨n, rfl⟩ : ∃ z, n = z + 1 := ⟨n - 1, by omega⟩
    exact c_fact (rc := f_rec n) (d := 0) (m := 0) (f := fun s => .inl s) hd (fun z => by omega) (sumP_ok 0) (fun z => by omega) (fun z => by omega) (rec_sum 0 hd n (by omega)) h s P hl
  | d + 1, hd, n, hn => fun h s P hl => by
    have ih := rec_fact (T := T) (L := L) (q := q) d (by omega)
    obtain ⟨n, rfl⟩ : ∃ z, n = z + 1 := ⟨n - 1, by omega⟩
    refine c_fact (rc := f_rec n) (d := d + 1) (m := 3 * d + 6) (f := fact T L q d) hd (fun _ => fact_ok d) (sumP_ok (d + 1)) (fun _ h s P hl => ?_) (fun _ => ih n (by omega)) (rec_sum (d + 1) hd n (by omega)) h s P hl
    obtain ⟨n, rfl⟩ : ∃ z, n = z + 1 := ⟨n - 1, by omega⟩
    refine c_test (rc := f_rec n) (l1_ok (fact_ok d) pA1_ok) (fun h s P hl => ?_) h s P hl
    obtain ⟨n, rfl⟩ : ∃ z, n = z + 1 := ⟨n - 1, by omega⟩
    exact c_both (rc := f_rec n) (fact_ok d) (ih n (by omega)) h s P hl
theorem rec_test {T : Nat → Int} {L : Nat} {q : Bool} (d : Nat) (hd : d ≤ 6) (n : Nat) (hn : 4 * d + 7 ≤ n) : cF T L q (f_rec n) 0 d (testP T L q d) := fun h s P hl => by
  obtain ⟨n, rfl⟩ : ∃ z, n = z + 1 := ⟨n - 1, by omega⟩
  refine c_test (rc := f_rec n) (l1_ok (fact_ok d) pA1_ok) (fun h s P hl => ?_) h s P hl
  obtain ⟨n, rfl⟩ : ∃ z, n = z + 1 := ⟨n - 1, by omega⟩
  exact c_both (rc := f_rec n) (fact_ok d) (rec_fact d hd n (by omega)) h s P hl
