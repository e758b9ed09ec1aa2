/-! ===== the reference's parser: loops over what waits ===== -/
def dw (P : Int → Bool) : List Int → pS → List Int × pS
  | [], s => ([], s)
  | w :: σ, s => if P w = true then dw P σ (pU s w) else (w :: σ, s)
theorem dropw {T : Nat → Int} {L : Nat} {q : Bool} {b : Nat} {F : xa_H → Option (xa_H ⊕ xa_H)} {P : Int → Bool} (h0 : ∀ h d s, Mx T L q b h [] d s → F h = some (.inr h)) (h1 : ∀ h w σ d s, Mx T L q b h (w :: σ) d s → F h = if P w = true then (f_X12_qDrops 173 h).bind (fun r => some (.inl r)) else some (.inr h)) :
    ∀ (σ : List Int) (h : xa_H) (d : Nat) (s : pS), Mx T L q b h σ d s → ∀ fu, σ.length < fu → ∃ h', xit F fu h = some h' ∧ Mx T L q b h' (dw P σ s).1 d (dw P σ s).2 ∧ Fm b h h'
  | [], h, d, s, M, fu, hf => ⟨h, xit_end (h0 h d s M) (by omega), M, Fm.refl _ _⟩
  | w :: σ, h, d, s, M, fu, hf => by
    have e := h1 h w σ d s M
    unfold dw
    by_cases z : P w = true
    · rw [if_pos z] at e ⊢
      obtain ⟨g, e1, e2, e3⟩ := mx_drop M
      rw [e1] at e
      simp only [List.length_cons] at hf
      obtain ⟨fu, rfl⟩ : ∃ y, fu = y + 1 := ⟨fu - 1, by omega⟩
      obtain ⟨h', a1, a2, a3⟩ := dropw h0 h1 σ g d (pU s w) e2 fu (by omega)
      exact ⟨h', by rw [xit_go e]; exact a1, a2, e3.tr a3⟩
    · rw [if_neg z] at e ⊢
      exact ⟨h, xit_end e (by omega), M, Fm.refl _ _⟩
theorem mx_len {T : Nat → Int} {L : Nat} {q : Bool} {b : Nat} {h : xa_H} {σ : List Int} {d : Nat} {s : pS} (M : Mx T L q b h σ d s) : b + σ.length ≤ 1601 := by
  have lL := mx_L M
  have := M.2.2.2.2.2.2.2.2.1
  omega
theorem dropw' {T : Nat → Int} {L : Nat} {q : Bool} {b : Nat} {F : xa_H → Option (xa_H ⊕ xa_H)} {P : Int → Bool} (h0 : ∀ h d s, Mx T L q b h [] d s → F h = some (.inr h)) (h1 : ∀ h w σ d s, Mx T L q b h (w :: σ) d s → F h = if P w = true then (f_X12_qDrops 173 h).bind (fun r => some (.inl r)) else some (.inr h))
    {σ : List Int} {h : xa_H} {d : Nat} {s : pS} (M : Mx T L q b h σ d s) : ∃ h', xit F xFU h = some h' ∧ Mx T L q b h' (dw P σ s).1 d (dw P σ s).2 ∧ Fm b h h' := by
  have := mx_len M
  exact dropw h0 h1 σ h d s M xFU (by unfold xFU; omega)
def b1 (w : Int) : Prop := w = 3 ∨ w = 4 ∨ w = 10
def b2 (w : Int) : Prop := w = 1 ∨ w = 2 ∨ w = 11
theorem dw_stop {P : Int → Bool} {σ : List Int} {s : pS} (h : ∀ w σ', σ = w :: σ' → P w = false) : dw P σ s = (σ, s) := by
  cases σ with
  | nil => rfl
  | cons w σ =>
    unfold dw
    rw [h w σ rfl]
    rfl
theorem dw_go {P : Int → Bool} {w : Int} {σ : List Int} {s : pS} (h : P w = true) : dw P (w :: σ) s = dw P σ (pU s w) := by
  conv => lhs; unfold dw
  rw [if_pos h]
theorem dr2_eq {P : Int → Bool} {σ : List Int} {s : pS} (h : wf σ 1) (h1 : ∀ w ∈ σ, b2 w → P w = true) (h2 : ∀ w ∈ σ, 20 ≤ w ∧ w ≤ 25 → P w = false) : dw P σ s = dr2 (σ, s) := by
  have h3 := wf_dr2 (s := s) h
  unfold dr2 at h3 ⊢
  cases σ with
  | nil => rfl
  | cons w σ =>
    dsimp only at h3 ⊢
    by_cases q : w = 1 ∨ w = 2 ∨ w = 11
    · rw [if_pos q] at h3 ⊢
      rw [dw_go (h1 w (List.mem_cons_self ..) q)]
      refine dw_stop fun v σ' e => ?_
      dsimp only at h3
      rw [e] at h3
      exact h2 v (by rw [e]; simp) (wf_2 h3).1
    · rw [if_neg q] at h3 ⊢
      refine dw_stop fun v σ' e => ?_
      dsimp only at h3
      rw [e] at h3
      exact h2 v (by rw [e]; simp) (wf_2 h3).1
theorem dw_12 {P : Int → Bool} {σ : List Int} {s : pS} (h : wf σ 0) (hu : noU σ) (h1 : ∀ w ∈ σ, b1 w ∨ b2 w → P w = true) (h2 : ∀ w ∈ σ, 20 ≤ w ∧ w ≤ 25 → P w = false) : dw P σ s = dr2 (dr1 (σ, s)) := by
  have h3 := wf_dr1 (s := s) h hu
  unfold dr1 at h3 ⊢
  cases σ with
  | nil => rfl
  | cons w σ =>
    dsimp only at h3 ⊢
    by_cases q : w = 3 ∨ w = 4 ∨ w = 10
    · rw [if_pos q] at h3 ⊢
      rw [dw_go (h1 w (List.mem_cons_self ..) (Or.inl q))]
      exact dr2_eq h3 (fun v hv z => h1 v (List.mem_cons_of_mem _ hv) (Or.inr z)) (fun v hv z => h2 v (List.mem_cons_of_mem _ hv) z)
    · rw [if_neg q] at h3 ⊢
      exact dr2_eq h3 (fun v hv z => h1 v hv (Or.inr z)) (fun v hv z => h2 v hv z)
theorem dw_1 {P : Int → Bool} {σ : List Int} {s : pS} (h : wf σ 0) (hu : noU σ) (h1 : ∀ w ∈ σ, b1 w → P w = true) (h2 : ∀ w ∈ σ, ¬ b1 w → P w = false) : dw P σ s = dr1 (σ, s) := by
  have h3 := wf_dr1 (s := s) h hu
  have nb : ∀ (w : Int) (σ : List Int), wf (w :: σ) 1 → ¬ b1 w := by
    intro w σ g
    unfold wf at g
    rw [if_neg (by simp), if_neg (by simp)] at g
    unfold b1
    by_cases z : w = 1 ∨ w = 2 ∨ w = 11
    · omega
    · rw [if_neg (by simp [z])] at g
      have := g.1
      omega
  unfold dr1 at h3 ⊢
  cases σ with
  | nil => rfl
  | cons w σ =>
    dsimp only at h3 ⊢
    by_cases q : w = 3 ∨ w = 4 ∨ w = 10
    · rw [if_pos q] at h3 ⊢
      rw [dw_go (h1 w (List.mem_cons_self ..) q)]
      refine dw_stop fun v σ' e => ?_
      dsimp only at h3
      rw [e] at h3
      exact h2 v (by rw [e]; simp) (nb v σ' h3)
    · rw [if_neg q] at h3 ⊢
      exact dw_stop fun v σ' e => by cases e; exact h2 w (List.mem_cons_self ..) q
/-! ===== brackets ===== -/
def brk : List Int → Int
  | [] => -1
  | w :: σ => if 20 ≤ w ∧ w ≤ 24 then w else brk σ
theorem s_isBr (v : Int) (h : xa_H) : f_X12_qIsBracket v h = some (if 20 ≤ v ∧ v ≤ 24 then 1 else 0) := by
  unfold f_X12_qIsBracket
  by_cases q : v < 20
  · rw [if_pos q, if_neg (by omega)]
  · rw [if_neg q]
    by_cases q2 : 24 < v
    · rw [if_pos q2, if_neg (by omega)]
    · rw [if_neg q2, if_pos (by omega)]
theorem mx_br {h : xa_H} (S : SH h) {b : Nat} (hb : xm h 173 102 = (b : Int)) : ∀ (σ : List Int) (fu : Nat), stk h b σ → b + σ.length < 1700 → σ.length < fu → (xit (fun s => f_X12_qBracket_L7 173 h s) fu (((b + σ.length : Nat) : Int) - 1)).bind (fun e8 => f_X12_qBracket_J33 173 e8 h) = some (brk σ)
  | [], fu, _, hl, hf => by
    simp only [List.length_nil, Nat.add_zero] at hf ⊢
    have e : f_X12_qBracket_L7 173 h ((b : Int) - 1) = some (.inr ((b : Int) - 1)) := by
      unfold f_X12_qBracket_L7
      rw [gM S, hb, if_pos (by omega)]
    rw [xit_end (f := fun s => f_X12_qBracket_L7 173 h s) e hf]
    simp only [Option.bind_some]
    unfold f_X12_qBracket_J33
    rw [gM S, hb, if_pos (by omega)]
    rfl
  | w :: σ, fu, g, hl, hf => by
    simp only [List.length_cons] at hl hf ⊢
    obtain ⟨fu, rfl⟩ : ∃ y, fu = y + 1 := ⟨fu - 1, by omega⟩
    have i1 : xia h 0 246 ((b + σ.length : Nat) : Int) = true := ia_246 S (by omega) (by omega)
    have rd : xal h 0 246 ((b + σ.length : Nat) : Int) = some w := by
      unfold xal
      rw [if_pos i1]
      exact congrArg some g.1
    have ev : ((b + (σ.length + 1) : Nat) : Int) - 1 = ((b + σ.length : Nat) : Int) := by omega
    rw [ev]
    unfold brk
    by_cases z : 20 ≤ w ∧ w ≤ 24
    · have e : f_X12_qBracket_L7 173 h ((b + σ.length : Nat) : Int) = some (.inr ((b + σ.length : Nat) : Int)) := by
        unfold f_X12_qBracket_L7
        rw [gM S, hb, if_neg (by omega), gM S, pt_173_99 S, rd, bbind, s_isBr, bbind, if_pos z, if_neg one_ne]
      rw [xit_end (f := fun s => f_X12_qBracket_L7 173 h s) e (by omega), if_pos z]
      simp only [Option.bind_some]
      unfold f_X12_qBracket_J33
      rw [gM S, hb, if_neg (by omega), gM S, pt_173_99 S, rd]
      rfl
    · have e : f_X12_qBracket_L7 173 h ((b + σ.length : Nat) : Int) = some (.inl (((b + σ.length : Nat) : Int) - 1)) := by
        unfold f_X12_qBracket_L7
        rw [gM S, hb, if_neg (by omega), gM S, pt_173_99 S, rd, bbind, s_isBr, bbind, if_neg z, if_pos rfl, w32_id (by omega) (by omega)]
        rfl
      rw [xit_go (f := fun s => f_X12_qBracket_L7 173 h s) e, if_neg z]
      exact mx_br S hb σ fu g.2 (by omega) (by omega)
theorem s_bracket {T : Nat → Int} {L : Nat} {q : Bool} {b : Nat} {h : xa_H} {σ : List Int} {d : Nat} {s : pS} (M : Mx T L q b h σ d s) : f_X12_qBracket 173 h = some (brk σ) := by
  have S := mx_S M
  have hl := mx_len M
  unfold f_X12_qBracket
  rw [gM S, M.2.2.1, w32_id (by omega) (by omega)]
  exact mx_br S M.2.2.2.2.1 σ xFU M.2.2.2.1 (by omega) (by unfold xFU; omega)
theorem brk_eq {σ : List Int} {s : pS} (h : wf σ 0) (hu : noU σ) (h25 : ∀ w ∈ σ, w ≠ 25) : brk σ = match (dr2 (dr1 (σ, s))).1 with
    | [] => -1
    | w :: _ => w := by
  have b2' : ∀ (σ : List Int) (s : pS), wf σ 1 → (∀ w ∈ σ, w ≠ 25) → brk σ = match (dr2 (σ, s)).1 with
    | [] => -1
    | w :: _ => w := by
    intro σ s g g5
    have g3 := wf_dr2 (s := s) g
    unfold dr2 at g3 ⊢
    cases σ with
    | nil => rfl
    | cons w σ =>
      dsimp only at g3 ⊢
      by_cases q : w = 1 ∨ w = 2 ∨ w = 11
      · rw [if_pos q] at g3 ⊢
        dsimp only at g3 ⊢
        unfold brk
        rw [if_neg (by omega)]
        cases σ with
        | nil => rfl
        | cons v σ =>
          have := (wf_2 g3).1
          have := g5 v (by simp)
          unfold brk
          rw [if_pos (by omega)]
      · rw [if_neg q] at g3 ⊢
        dsimp only at g3 ⊢
        have := (wf_2 g3).1
        have := g5 w (by simp)
        unfold brk
        rw [if_pos (by omega)]
  have h3 := wf_dr1 (s := s) h hu
  unfold dr1 at h3 ⊢
  cases σ with
  | nil => rfl
  | cons w σ =>
    dsimp only at h3 ⊢
    by_cases q : w = 3 ∨ w = 4 ∨ w = 10
    · rw [if_pos q] at h3 ⊢
      rw [show brk (w :: σ) = brk σ by conv => lhs; unfold brk; rw [if_neg (by omega)]]
      exact b2' σ _ h3 (fun v hv => h25 v (List.mem_cons_of_mem _ hv))
    · rw [if_neg q] at h3 ⊢
      exact b2' _ _ h3 h25
theorem s_dtb {T : Nat → Int} {L : Nat} {q : Bool} {b : Nat} {h : xa_H} {σ : List Int} {d : Nat} {s : pS} (M : Mx T L q b h σ d s) : ∃ h', f_X12_qDropsToBracket 173 h = some h' ∧ Mx T L q b h' (dw (fun w => ! decide (20 ≤ w ∧ w ≤ 24)) σ s).1 d (dw (fun w => ! decide (20 ≤ w ∧ w ≤ 24)) σ s).2 ∧ Fm b h h' := by
  obtain ⟨h', e1, e2, e3⟩ := dropw' (F := fun s => f_X12_qDropsToBracket_L0 173 s) (P := fun w => ! decide (20 ≤ w ∧ w ≤ 24)) (fun h d s M => by
    have S := mx_S M
    show f_X12_qDropsToBracket_L0 173 h = _
    unfold f_X12_qDropsToBracket_L0
    rw [gM S, gM S, M.2.2.1, M.2.2.2.2.1, if_neg (by simp)]) (fun h w σ d s M => by
    have S := mx_S M
    have hl := mx_len M
    simp only [List.length_cons] at hl
    have m4 := M.2.2.1
    have m5 := M.2.2.2.1.1
    simp only [List.length_cons] at m4
    have i1 : xia h 0 246 ((b + σ.length : Nat) : Int) = true := ia_246 S (by omega) (by omega)
    show f_X12_qDropsToBracket_L0 173 h = _
    unfold f_X12_qDropsToBracket_L0
    rw [gM S, gM S, m4, M.2.2.2.2.1, if_pos (by omega), gM S, gM S, m4, pt_173_99 S, w32_id (by omega) (by omega), show ((b + (σ.length + 1) : Nat) : Int) - 1 = ((b + σ.length : Nat) : Int) by omega, bxal, if_pos i1]
    show (f_X12_qIsBracket (xm h 246 (b + σ.length)) h).bind _ = _
    rw [m5, s_isBr, bbind, iff01, xM S]
    by_cases z : 20 ≤ w ∧ w ≤ 24
    · rw [if_pos z, if_neg (by simp [z])]
    · rw [if_neg z, if_pos (by simp only [decide_eq_false z, Bool.not_false])]) M
  refine ⟨h', ?_, e2, e3⟩
  unfold f_X12_qDropsToBracket
  rw [e1]
  rfl
