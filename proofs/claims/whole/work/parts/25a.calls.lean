/-! ===== calls ===== -/
theorem c_end {h : xa_H} {s F1 F2 T2 T3 : Nat} (R : RR h s F1 F2 T2 T3) (n : Int) : CallOK h (f_X11_end 0 n h) (f_X12_end 173 n) := by
  have S := rr_S R
  have T := rr_t R
  by_cases q : n < 0 ∨ xm h 173 1 < n
  · have e1 := s_X11_end S n
    rw [T.2.1, if_pos q] at e1
    refine CallOK.same e1 ?_ ⟨s, F1, F2, T2, T3, rr_refuse R (w := 0) (by omega)⟩ rfl rfl
    rw [s_X12_end (S.set (fixd_of (by decide +kernel))) n, if_pos (by simpa [xm_xset] using q)]
  · have e1 := s_X11_end S n
    rw [T.2.1, if_neg q] at e1
    refine CallOK.same (h2 := xset (xset h 0 1 n) 173 1 n) e1 ?_ ⟨s, F1, F2, T2, T3, ?_⟩ rfl rfl
    · rw [s_X12_end (S.set (by decide +kernel)) n, if_neg (by simpa [xm_xset] using q)]
    · refine R.mvL ((S.set (by decide +kernel)).set (by decide +kernel)) (Nat.le_refl _) (fun _ _ => rfl) (by repeat (first | exact agr_refl _ _ | refine agr_set rfl ?_ | refine agr_arr (fun _ => rfl) ?_)) ?_ ((rr_r R).mv (by repeat (first | exact agr_refl _ _ | refine agr_set rfl ?_ | refine agr_arr (fun _ => rfl) ?_))) ((rr_f R).mv (by repeat (first | exact agr_refl _ _ | refine agr_set rfl ?_ | refine agr_arr (fun _ => rfl) ?_))) ((rr_n R).mv (by repeat (first | exact agr_refl _ _ | refine agr_set rfl ?_ | refine agr_arr (fun _ => rfl) ?_))) ((rr_h R).mv (by repeat (first | exact agr_refl _ _ | refine agr_set rfl ?_ | refine agr_arr (fun _ => rfl) ?_))) ((rr_j R).mv (by repeat (first | exact agr_refl _ _ | refine agr_set rfl ?_ | refine agr_arr (fun _ => rfl) ?_))) ((rr_i R).mv (by repeat (first | exact agr_refl _ _ | refine agr_set rfl ?_ | refine agr_arr (fun _ => rfl) ?_))) ((rr_s R).mv (by repeat (first | exact agr_refl _ _ | refine agr_set rfl ?_ | refine agr_arr (fun _ => rfl) ?_))) ((rr_2 R).mv (by repeat (first | exact agr_refl _ _ | refine agr_set rfl ?_ | refine agr_arr (fun _ => rfl) ?_)))
      obtain ⟨t1, t2, t3, t4⟩ := T
      refine ⟨fun k hk => ?_, ?_, ?_, ?_⟩
      · simpa [xm_xset] using t1 k hk
      · simp [xm_xset]
      · simp [xm_xset]; omega
      · simp [xm_xset]; omega
