/-! ===== a sum goes on ===== -/
/-- a fault of the reference, its codes still in their cells -/
def Bq (h : xa_H) (e : Nat × Nat) (n : Int) : Prop := Bx h e ∧ (0 ≤ xm h 173 98 ∧ xm h 173 98 ≤ n)
theorem mx_look {T : Nat → Int} {L : Nat} {q : Bool} {b : Nat} {h : xa_H} {σ : List Int} {d : Nat} {s : pS} (M : Mx T L q b h σ d s) : f_X12_look 173 h = some (lkv T L s.1, xset h 173 2 (s.1 : Int)) ∧ Mx T L q b (xset h 173 2 (s.1 : Int)) σ d s ∧ xm (xset h 173 2 (s.1 : Int)) 173 2 = (s.1 : Int) ∧ Fm b h (xset h 173 2 (s.1 : Int)) :=
  ⟨s_look M.1, mx_lex M rx_fx (rx_at M.1) (Nat.le_refl _), by rw [xm_xset, if_pos ⟨rfl, rfl⟩], DB_DQ rx_fx⟩
theorem g41 : gsg 41 := by unfold gsg; omega
theorem g40s : gsg 40 := by unfold gsg; omega
theorem g42 : gsg 42 := by unfold gsg; omega
theorem g43s : gsg 43 := by unfold gsg; omega
theorem g44 : gsg 44 := by unfold gsg; omega
theorem g45 : gsg 45 := by unfold gsg; omega
theorem g47 : gsg 47 := by unfold gsg; omega
theorem g59 : gsg 59 := by unfold gsg; omega
theorem g60 : gsg 60 := by unfold gsg; omega
theorem g61 : gsg 61 := by unfold gsg; omega
theorem g62 : gsg 62 := by unfold gsg; omega
theorem g91 : gsg 91 := by unfold gsg; omega
theorem g93 : gsg 93 := by unfold gsg; omega
theorem s_goL {T : Nat → Int} {L : Nat} {q : Bool} {b D : Nat} (hD : D ≤ 6) : ∀ (n : Nat) (σ : List Int) (d : Nat) (s : pS) (h : xa_H), L - s.1 ≤ n → Mx T L q b h σ d s → Gd b D σ d s → noU σ → ∀ fu, n + 1 < fu → ∃ h' σ' d' s', xit (fun s => f_X12_qGoesOn_L0 173 s) fu h = some h' ∧ Mx T L q b h' σ' d' s' ∧ Fm b h h' ∧ KS T L q σ d s = KS T L q σ' d' s' ∧ noU σ' ∧ Gd b D σ' d' s' ∧ s.1 ≤ s'.1 ∧ ¬(pG T L s' 41 = true ∧ (brk σ' = 20 ∨ brk σ' = 23 ∨ brk σ' = 24)) ∧ xm h' 173 2 = (s'.1 : Int) := by
  intro n
  induction n with
  | zero =>
    intro σ d s h hn M G hu fu hf
    have S := mx_S M
    have lL := mx_L M
    obtain ⟨k1, k2, k3, k4⟩ := mx_look M
    have np : ¬ pG T L s 41 = true := fun g => by have := pG_lt g; omega
    have e : f_X12_qGoesOn_L0 173 h = some (.inr (xset h 173 2 (s.1 : Int))) := by
      unfold f_X12_qGoesOn_L0
      rw [gM S, mx_bad M, if_pos rfl, xM S, k1, bbind, if_neg (fun z => np ((lkv_pG g41).mp z))]
    exact ⟨_, σ, d, s, xit_end (f := fun s => f_X12_qGoesOn_L0 173 s) e (by omega), k2, k4, rfl, hu, G, Nat.le_refl _, fun z => np z.1, k3⟩
  | succ n ih =>
    intro σ d s h hn M G hu fu hf
    have S := mx_S M
    have lL := mx_L M
    obtain ⟨k1, k2, k3, k4⟩ := mx_look M
    have S2 := mx_S k2
    have br := s_bracket k2
    by_cases np : pG T L s 41 = true ∧ (brk σ = 20 ∨ brk σ = 23 ∨ brk σ = 24)
    · obtain ⟨h1, σ1, d1, s1, a1, a2, a3, a4, a5, a6, a7⟩ := s_closer k2 k3 G hD hu np.1 np.2
      have e : f_X12_qGoesOn_L0 173 h = some (.inl h1) := by
        unfold f_X12_qGoesOn_L0
        rw [gM S, mx_bad M, if_pos rfl, xM S, k1, bbind, if_pos ((lkv_pG g41).mpr np.1), xM S2, br, bbind]
        by_cases z : brk σ = 20
        · rw [if_pos z]; exact a1
        · rw [if_neg z, xM S2, bbind]
          by_cases z2 : brk σ = 23
          · rw [if_pos z2]; exact a1
          · rw [if_neg z2, xM S2, bbind, if_pos (by omega)]; exact a1
      obtain ⟨fu, rfl⟩ : ∃ y, fu = y + 1 := ⟨fu - 1, by omega⟩
      obtain ⟨h', σ', d', s', c1, c2, c3, c4, c5, c6, c7, c8, c9⟩ := ih σ1 d1 s1 h1 (by omega) a2 a6 a5 fu (by omega)
      exact ⟨h', σ', d', s', by rw [xit_go (f := fun s => f_X12_qGoesOn_L0 173 s) e]; exact c1, c2, (k4.tr a3).tr c3, a4.trans c4, c5, c6, by omega, c8, c9⟩
    · have e : f_X12_qGoesOn_L0 173 h = some (.inr (xset h 173 2 (s.1 : Int))) := by
        unfold f_X12_qGoesOn_L0
        rw [gM S, mx_bad M, if_pos rfl, xM S, k1, bbind]
        by_cases y : pG T L s 41 = true
        · have nb : ¬(brk σ = 20 ∨ brk σ = 23 ∨ brk σ = 24) := fun z => np ⟨y, z⟩
          rw [if_pos ((lkv_pG g41).mpr y), xM S2, br, bbind, if_neg (by omega), xM S2, bbind, if_neg (by omega), xM S2, bbind, if_neg (by omega)]
        · rw [if_neg (fun z => y ((lkv_pG g41).mp z))]
      exact ⟨_, σ, d, s, xit_end (f := fun s => f_X12_qGoesOn_L0 173 s) e (by omega), k2, k4, rfl, hu, G, Nat.le_refl _, np, k3⟩
theorem mx_takesSign {T : Nat → Int} {L : Nat} {q : Bool} {b : Nat} {h : xa_H} {σ : List Int} {d : Nat} {s : pS} (M : Mx T L q b h σ d s) (hat : xm h 173 2 = (s.1 : Int)) {c : Int} (hc : gsg c) :
    (pG T L s c = true ∧ ∃ h', f_X12_takesSign 173 c h = some (1, h') ∧ Mx T L q b h' σ d (pN T L s) ∧ Fm b h h' ∧ xm h' 173 2 = ((s.1 + 1 : Nat) : Int)) ∨ (¬ pG T L s c = true ∧ f_X12_takesSign 173 c h = some (0, h)) := by
  have e0 : xset h 173 2 (s.1 : Int) = h := by rw [← hat]; exact xset_self h 173 2
  rcases s_takesSign M.1 hc with ⟨z, e1, e2, e3⟩ | ⟨z, e1⟩
  · have n1 : s.1 ≤ (pN T L s).1 := tk_n_ge' (b := s.2.1)
    exact Or.inl ⟨pG_i.mpr z, _, e1, mx_lex M e3 e2 n1, DB_DQ e3, by rw [xm_xset, if_pos ⟨rfl, rfl⟩]⟩
  · rw [e0] at e1
    exact Or.inr ⟨fun y => z (pG_i.mp y), e1⟩
theorem top1_sm {T : Nat → Int} {L : Nat} {q : Bool} {b : Nat} {h : xa_H} {σ : List Int} {d : Nat} {s : pS} (M : Mx T L q b h σ d s) : σ = [] → ∀ c : Int, 1 ≤ c ∧ c ≤ 4 → top1 h b σ ≠ c := by
  intro e c hc
  have := M.2.2.2.2.2.2.2.2.2
  subst e
  unfold top1
  dsimp only
  split
  · omega
  · omega
/-- an operation is put on the row -/
theorem s_pushOp {T : Nat → Int} {L : Nat} {q : Bool} {b : Nat} {h : xa_H} {σ : List Int} {d : Nat} {s : pS} (M : Mx T L q b h σ d s) (hs : s.2.2.length + b + σ.length ≤ s.1) (c : Int) : ∃ h', ((xgf h 12 99 173).bind fun x84 => (xgf h 12 100 173).bind fun x85 => (xas h 0 x84 x85 c).bind fun h86 => (xgf h86 12 100 173).bind fun x87 => (xpf h86 12 100 173 (w32 (x87 + 1))).bind fun h88 => some ((1 : Int), h88)) = some (1, h') ∧ Mx T L q b h' (c :: σ) d s ∧ Fm b h h' := by
  obtain ⟨p1, p2, p3, p4⟩ := mx_push M hs c
  refine ⟨_, ?_, p1, p2⟩
  have S := mx_S M
  have S' : SH (xset h 246 (b + σ.length) c) := S.set fx246
  have m4 : xm (xset h 246 (b + σ.length) c) 173 100 = ((b + σ.length : Nat) : Int) := by rw [xm_xset, if_neg (by omega)]; exact M.2.2.1
  rw [gM S, gM S, M.2.2.1, pt_173_99 S, bxas, if_pos p3]
  show ((xgf (xset h 246 (b + σ.length) c) 12 100 173).bind fun x87 => (xpf (xset h 246 (b + σ.length) c) 12 100 173 (w32 (x87 + 1))).bind fun h88 => some ((1 : Int), h88)) = _
  rw [gM S', m4, p4, pMf S']
theorem mulP {T : Nat → Int} {L : Nat} {q : Bool} {b : Nat} {h : xa_H} {σ : List Int} {d : Nat} {s : pS} (M : Mx T L q b h σ d s) (c : Int) : ∃ h', xit (fun s => f_X12_qGoesOn_L162 173 c s) xFU h = some h' ∧ Mx T L q b h' (dw (fun w => decide (w = 3 ∨ w = 4)) σ s).1 d (dw (fun w => decide (w = 3 ∨ w = 4)) σ s).2 ∧ Fm b h h' := by
  refine dropw' (F := fun s => f_X12_qGoesOn_L162 173 c s) (P := fun w => decide (w = 3 ∨ w = 4)) (fun h d s M => ?_) (fun h w σ d s M => ?_) M
  · have S := mx_S M
    have t := top1_sm M rfl
    show f_X12_qGoesOn_L162 173 c h = _
    unfold f_X12_qGoesOn_L162
    rw [xM S, mx_isOn M (by decide), bbind, if_neg (t 3 (by omega)), if_pos rfl, xM S, mx_isOn M (by decide), bbind, if_neg (t 4 (by omega)), if_pos rfl]
  · have S := mx_S M
    have t : top1 h b (w :: σ) = w := rfl
    show f_X12_qGoesOn_L162 173 c h = _
    unfold f_X12_qGoesOn_L162 f_X12_qGoesOn_J178L162
    rw [xM S, mx_isOn M (by decide), bbind, t, iff01, xM S, xM S, mx_isOn M (by decide), bbind, t, iff01]
    by_cases z : w = 3
    · rw [if_pos z, if_pos (by simp [z])]
    · rw [if_neg z]
      by_cases z2 : w = 4
      · rw [if_pos z2, if_pos (by simp [z2])]
      · rw [if_neg z2, if_neg (by simp [z, z2])]
theorem addP {T : Nat → Int} {L : Nat} {q : Bool} {b : Nat} {h : xa_H} {σ : List Int} {d : Nat} {s : pS} (M : Mx T L q b h σ d s) (c : Int) : ∃ h', xit (fun s => f_X12_qGoesOn_L247 173 c s) xFU h = some h' ∧ Mx T L q b h' (dw (fun w => decide (1 ≤ w ∧ w ≤ 4)) σ s).1 d (dw (fun w => decide (1 ≤ w ∧ w ≤ 4)) σ s).2 ∧ Fm b h h' := by
  refine dropw' (F := fun s => f_X12_qGoesOn_L247 173 c s) (P := fun w => decide (1 ≤ w ∧ w ≤ 4)) (fun h d s M => ?_) (fun h w σ d s M => ?_) M
  · have S := mx_S M
    have t := top1_sm M rfl
    show f_X12_qGoesOn_L247 173 c h = _
    unfold f_X12_qGoesOn_L247
    rw [xM S, mx_isOn M (by decide), bbind, if_neg (t 3 (by omega)), if_pos rfl, xM S, mx_isOn M (by decide), bbind, if_neg (t 4 (by omega)), if_pos rfl, xM S, mx_isOn M (by decide), bbind, if_neg (t 1 (by omega)), if_pos rfl, xM S, mx_isOn M (by decide), bbind, if_neg (t 2 (by omega)), if_pos rfl]
  · have S := mx_S M
    have t : top1 h b (w :: σ) = w := rfl
    show f_X12_qGoesOn_L247 173 c h = _
    unfold f_X12_qGoesOn_L247 f_X12_qGoesOn_J279L247
    rw [xM S, mx_isOn M (by decide), bbind, t, iff01, xM S, xM S, mx_isOn M (by decide), bbind, t, iff01, xM S, mx_isOn M (by decide), bbind, t, iff01, xM S, mx_isOn M (by decide), bbind, t, iff01]
    by_cases z : w = 3
    · rw [if_pos z, if_pos (decide_eq_true (by omega))]
    · rw [if_neg z]
      by_cases z2 : w = 4
      · rw [if_pos z2, if_pos (decide_eq_true (by omega))]
      · rw [if_neg z2]
        by_cases z3 : w = 1
        · rw [if_pos z3, if_pos (decide_eq_true (by omega))]
        · rw [if_neg z3]
          by_cases z4 : w = 2
          · rw [if_pos z4, if_pos (decide_eq_true (by omega))]
          · rw [if_neg z4, if_neg (by rw [decide_eq_true_eq]; omega)]
