/-! ===== what is still to be read behind a part: by the row of what waits ===== -/
/-- a whole sum is read below the bracket w -/
def kC (T : Nat → Int) (L : Nat) (g : pS → pR) (w : Int) (k0 : pS → pR) (s : pS) : pR :=
  if w = 21 ∨ w = 22 then bd (pD T L 44 s) (fun s3 => bd (g s3) (fun s4 => bd (pD T L 41 s4) (fun s5 => k0 (pU s5 (if w = 21 then 5 else 6)))))
  else if w = 23 ∨ w = 24 then bd (pD T L 41 s) (fun s5 => k0 (pU s5 (if w = 23 then 5 else 6)))
  else if w = 25 then bd (pD T L 93 s) k0
  else bd (pD T L 41 s) k0
def KK (T : Nat → Int) (L : Nat) (lf : Nat → pS → pR) (o1 o2 : pS → Option Int) : List Int → Nat → Nat → pS → pR
  | [], d, m, s => if m = 0 then bd (lp T L (lf d) o1 1600 s) (lp T L (l1 T L (lf d) o1) o2 1600) else if m = 1 then lp T L (l1 T L (lf d) o1) o2 1600 s else .inl s
  | w :: σ, d, m, s =>
    if m = 0 then (if w = 60 ∨ w = 12 then KK T L lf o1 o2 σ (d + 1) 0 (pU s w) else if w = 3 ∨ w = 4 ∨ w = 10 then bd (lp T L (lf d) o1 1600 (pU s w)) (KK T L lf o1 o2 σ d 1)
      else bd (lp T L (lf d) o1 1600 s) (fun s => if w = 1 ∨ w = 2 ∨ w = 11 then bd (lp T L (l1 T L (lf d) o1) o2 1600 (pU s w)) (KK T L lf o1 o2 σ d 2) else bd (lp T L (l1 T L (lf d) o1) o2 1600 s) (kC T L (l2 T L (lf d) o1 o2) w (KK T L lf o1 o2 σ (d + 1) 0))))
    else if m = 1 then (if w = 1 ∨ w = 2 ∨ w = 11 then bd (lp T L (l1 T L (lf d) o1) o2 1600 (pU s w)) (KK T L lf o1 o2 σ d 2) else bd (lp T L (l1 T L (lf d) o1) o2 1600 s) (kC T L (l2 T L (lf d) o1 o2) w (KK T L lf o1 o2 σ (d + 1) 0)))
    else kC T L (l2 T L (lf d) o1 o2) w (KK T L lf o1 o2 σ (d + 1) 0) s
def wf : List Int → Nat → Prop
  | [], _ => True
  | w :: σ, m => if m = 0 ∧ (w = 60 ∨ w = 12) then wf σ 0 else if m = 0 ∧ (w = 3 ∨ w = 4 ∨ w = 10) then wf σ 1 else if m ≤ 1 ∧ (w = 1 ∨ w = 2 ∨ w = 11) then wf σ 2 else (20 ≤ w ∧ w ≤ 25) ∧ wf σ 0
/-- how many are open in a row -/
def nop : List Int → Nat
  | [] => 0
  | w :: σ => (if w = 60 ∨ w = 12 ∨ 20 ≤ w ∧ w ≤ 25 then 1 else 0) + nop σ
def dr1 (x : List Int × pS) : List Int × pS := match x.1 with
  | [] => x
  | w :: σ => if w = 3 ∨ w = 4 ∨ w = 10 then (σ, pU x.2 w) else x
def dr2 (x : List Int × pS) : List Int × pS := match x.1 with
  | [] => x
  | w :: σ => if w = 1 ∨ w = 2 ∨ w = 11 then (σ, pU x.2 w) else x
/-- no unary at the top -/
def noU (σ : List Int) : Prop := ∀ w σ', σ = w :: σ' → ¬(w = 60 ∨ w = 12)
theorem KK_un {T : Nat → Int} {L : Nat} {lf : Nat → pS → pR} {o1 o2 : pS → Option Int} {w : Int} {σ : List Int} {d : Nat} {s : pS} (h : w = 60 ∨ w = 12) : KK T L lf o1 o2 (w :: σ) d 0 s = KK T L lf o1 o2 σ (d + 1) 0 (pU s w) := by
  show (if (0 : Nat) = 0 then _ else _) = _
  rw [if_pos rfl, if_pos h]
theorem KK_01 {T : Nat → Int} {L : Nat} {lf : Nat → pS → pR} {o1 o2 : pS → Option Int} {σ : List Int} {d : Nat} {s : pS} (h : noU σ) : KK T L lf o1 o2 σ d 0 s = bd (lp T L (lf d) o1 1600 (dr1 (σ, s)).2) (KK T L lf o1 o2 (dr1 (σ, s)).1 d 1) := by
  cases σ with
  | nil => rfl
  | cons w σ =>
    have hu := h w σ rfl
    unfold dr1
    show (if (0 : Nat) = 0 then _ else _) = _
    rw [if_pos rfl, if_neg hu]
    by_cases q : w = 3 ∨ w = 4 ∨ w = 10
    · dsimp only
      rw [if_pos q, if_pos q]
    · dsimp only
      rw [if_neg q, if_neg q]
      refine bd_c fun s' _ => ?_
      show _ = (if (1 : Nat) = 0 then _ else if (1 : Nat) = 1 then _ else _)
      rw [if_neg (show ¬ (1 : Nat) = 0 by decide), if_pos rfl]
theorem KK_12 {T : Nat → Int} {L : Nat} {lf : Nat → pS → pR} {o1 o2 : pS → Option Int} {σ : List Int} {d : Nat} {s : pS} : KK T L lf o1 o2 σ d 1 s = bd (lp T L (l1 T L (lf d) o1) o2 1600 (dr2 (σ, s)).2) (KK T L lf o1 o2 (dr2 (σ, s)).1 d 2) := by
  cases σ with
  | nil => exact (bd_i _).symm
  | cons w σ =>
    unfold dr2
    show (if (1 : Nat) = 0 then _ else if (1 : Nat) = 1 then _ else _) = _
    rw [if_neg (show ¬ (1 : Nat) = 0 by decide), if_pos rfl]
    by_cases q : w = 1 ∨ w = 2 ∨ w = 11
    · dsimp only
      rw [if_pos q, if_pos q]
    · dsimp only
      rw [if_neg q, if_neg q]
      refine bd_c fun s' _ => ?_
      show _ = (if (2 : Nat) = 0 then _ else if (2 : Nat) = 1 then _ else _)
      rw [if_neg (by decide), if_neg (by decide)]
theorem KK_2 {T : Nat → Int} {L : Nat} {lf : Nat → pS → pR} {o1 o2 : pS → Option Int} {w : Int} {σ : List Int} {d : Nat} {s : pS} : KK T L lf o1 o2 (w :: σ) d 2 s = kC T L (l2 T L (lf d) o1 o2) w (KK T L lf o1 o2 σ (d + 1) 0) s := by
  show (if (2 : Nat) = 0 then _ else if (2 : Nat) = 1 then _ else _) = _
  rw [if_neg (by decide), if_neg (by decide)]
theorem KK_n2 {T : Nat → Int} {L : Nat} {lf : Nat → pS → pR} {o1 o2 : pS → Option Int} {d : Nat} {s : pS} : KK T L lf o1 o2 [] d 2 s = .inl s := rfl
theorem dr1_1 {x : List Int × pS} : (dr1 x).2.1 = x.2.1 ∧ (dr1 x).2.2.1 = x.2.2.1 := by
  unfold dr1
  split
  · exact ⟨rfl, rfl⟩
  · split <;> exact ⟨rfl, rfl⟩
theorem dr2_1 {x : List Int × pS} : (dr2 x).2.1 = x.2.1 ∧ (dr2 x).2.2.1 = x.2.2.1 := by
  unfold dr2
  split
  · exact ⟨rfl, rfl⟩
  · split <;> exact ⟨rfl, rfl⟩
/-- what an operation asks of: its place alone -/
def oPl (o : pS → Option Int) : Prop := ∀ s s' : pS, s.1 = s'.1 → s.2.1 = s'.2.1 → o s = o s'
theorem pO1_pl {T : Nat → Int} {L : Nat} : oPl (pO1 T L) := fun s s' h1 h2 => by
  unfold pO1 pG
  rw [h1, h2]
theorem pO2_pl {T : Nat → Int} {L : Nat} : oPl (pO2 T L) := fun s s' h1 h2 => by
  unfold pO2 pG
  rw [h1, h2]
theorem pA1_pl {T : Nat → Int} {L : Nat} : oPl (pA1 T L) := fun s s' h1 h2 => by
  unfold pA1 pW
  rw [h1, h2]
theorem pA2_pl {T : Nat → Int} {L : Nat} : oPl (pA2 T L) := fun s s' h1 h2 => by
  unfold pA2 pW
  rw [h1, h2]
theorem wf_dr1 {σ : List Int} {s : pS} (h : wf σ 0) (hu : noU σ) : wf (dr1 (σ, s)).1 1 := by
  cases σ with
  | nil => exact True.intro
  | cons w σ =>
    have hu' := hu w σ rfl
    unfold dr1
    dsimp only
    unfold wf at h
    rw [if_neg (by simp [hu'])] at h
    by_cases q : w = 3 ∨ w = 4 ∨ w = 10
    · rw [if_pos q]
      rw [if_pos ⟨rfl, q⟩] at h
      exact h
    · rw [if_neg q]
      rw [if_neg (by simp [q])] at h
      unfold wf
      rw [if_neg (by simp), if_neg (by simp)]
      by_cases p : w = 1 ∨ w = 2 ∨ w = 11
      · rw [if_pos ⟨by omega, p⟩] at h
        rw [if_pos ⟨by omega, p⟩]
        exact h
      · rw [if_neg (by simp [p])] at h
        rw [if_neg (by simp [p])]
        exact h
theorem wf_dr2 {σ : List Int} {s : pS} (h : wf σ 1) : wf (dr2 (σ, s)).1 2 := by
  cases σ with
  | nil => exact True.intro
  | cons w σ =>
    unfold dr2
    dsimp only
    unfold wf at h
    rw [if_neg (by simp), if_neg (by simp)] at h
    by_cases q : w = 1 ∨ w = 2 ∨ w = 11
    · rw [if_pos q]
      rw [if_pos ⟨by omega, q⟩] at h
      exact h
    · rw [if_neg q]
      rw [if_neg (by simp [q])] at h
      unfold wf
      rw [if_neg (by simp), if_neg (by simp), if_neg (by simp)]
      exact h
theorem wf_c1 {σ : List Int} {c : Int} (h : wf σ 1) (hc : c = 3 ∨ c = 4 ∨ c = 10) : wf (c :: σ) 0 := by
  unfold wf
  rw [if_neg (by omega), if_pos ⟨rfl, hc⟩]
  exact h
theorem wf_c2 {σ : List Int} {c : Int} (h : wf σ 2) (hc : c = 1 ∨ c = 2 ∨ c = 11) : wf (c :: σ) 0 := by
  unfold wf
  rw [if_neg (by omega), if_neg (by omega), if_pos ⟨by omega, hc⟩]
  exact h
theorem wf_br {σ : List Int} {c : Int} (h : wf σ 0) (hc : 20 ≤ c ∧ c ≤ 25) : wf (c :: σ) 0 := by
  unfold wf
  rw [if_neg (by omega), if_neg (by omega), if_neg (by omega)]
  exact ⟨hc, h⟩
theorem wf_un {σ : List Int} {c : Int} (h : wf σ 0) (hc : c = 60 ∨ c = 12) : wf (c :: σ) 0 := by
  unfold wf
  rw [if_pos ⟨rfl, hc⟩]
  exact h
theorem wf_un' {σ : List Int} {c : Int} (h : wf (c :: σ) 0) (hc : c = 60 ∨ c = 12) : wf σ 0 := by
  unfold wf at h
  rw [if_pos ⟨rfl, hc⟩] at h
  exact h
theorem wf_2 {σ : List Int} {c : Int} (h : wf (c :: σ) 2) : (20 ≤ c ∧ c ≤ 25) ∧ wf σ 0 := by
  unfold wf at h
  rw [if_neg (by simp), if_neg (by simp), if_neg (by simp)] at h
  exact h
/-- an operation of the first sort goes on -/
theorem KK_op1 {T : Nat → Int} {L : Nat} (hL : L ≤ 1600) {lf : Nat → pS → pR} {o1 o2 : pS → Option Int} {σ : List Int} {d : Nat} {s : pS} (hu : noU σ) (hf : pPr L (lf d)) (h1 : oPl o1) (hb : ∀ s c, o1 s = some c → s.1 < L ∧ (c = 3 ∨ c = 4 ∨ c = 10)) (hs : s.1 ≤ L) {c : Int} (hc : o1 s = some c) :
    KK T L lf o1 o2 σ d 0 s = bd (lf d (pN T L (dr1 (σ, s)).2)) (KK T L lf o1 o2 (c :: (dr1 (σ, s)).1) d 0) := by
  have e := dr1_1 (x := (σ, s))
  have hc' : o1 (dr1 (σ, s)).2 = some c := (h1 _ _ e.1 e.2).trans hc
  have hcc := (hb _ _ hc).2
  rw [KK_01 hu, lp_eq hL hf (fun s c h => (hb s c h).1) (s := (dr1 (σ, s)).2) (by rw [e.1]; exact hs), hc']
  dsimp only
  rw [bd_a]
  refine bd_c fun s' _ => ?_
  rw [KK_01 (σ := c :: (dr1 (σ, s)).1) (fun w σ' hw => by cases hw; omega)]
  show _ = bd (lp T L (lf d) o1 1600 (dr1 (c :: (dr1 (σ, s)).1, s')).2) (KK T L lf o1 o2 (dr1 (c :: (dr1 (σ, s)).1, s')).1 d 1)
  have e2 : dr1 (c :: (dr1 (σ, s)).1, s') = ((dr1 (σ, s)).1, pU s' c) := by
    show (if c = 3 ∨ c = 4 ∨ c = 10 then _ else _) = _
    rw [if_pos hcc]
  rw [e2]
theorem lp_none {T : Nat → Int} {L n : Nat} {f : pS → pR} {o : pS → Option Int} {s : pS} (h : o s = none) : lp T L f o n s = .inl s := by
  cases n with
  | zero => rfl
  | succ n =>
    rw [lp, h]
theorem l1_pr {T : Nat → Int} {L : Nat} {f : pS → pR} {o : pS → Option Int} (hf : pPr L f) (ho : ∀ s c, o s = some c → s.1 < L) : pPr L (l1 T L f o) := by
  have hp : ∀ (n : Nat) (s s' : pS), lp T L f o n s = .inl s' → s.1 ≤ L → s.1 ≤ s'.1 ∧ s'.1 ≤ L := by
    intro n
    induction n with
    | zero => intro s s' h hl; simp only [lp] at h; cases h; exact ⟨Nat.le_refl _, hl⟩
    | succ n ih =>
      intro s s' h hl
      simp only [lp] at h
      split at h
      · cases h; exact ⟨Nat.le_refl _, hl⟩
      · rename_i c hc
        obtain ⟨n1, n2, n3⟩ := pN_lt (T := T) (ho s c hc)
        cases e : f (pN T L s) with
        | inr e' => rw [e] at h; cases h
        | inl s1 =>
          rw [e, bd_l] at h
          obtain ⟨k1, k2⟩ := hf _ _ e n2
          obtain ⟨k3, k4⟩ := ih _ _ h k2
          change s1.1 ≤ s'.1 at k3
          omega
  intro s s' h hl
  unfold l1 at h
  cases e : f s with
  | inr e' => rw [e] at h; cases h
  | inl s1 =>
    rw [e, bd_l] at h
    obtain ⟨k1, k2⟩ := hf _ _ e hl
    obtain ⟨k3, k4⟩ := hp _ _ _ h k2
    omega
/-- an operation of the second sort goes on -/
theorem KK_op2 {T : Nat → Int} {L : Nat} (hL : L ≤ 1600) {lf : Nat → pS → pR} {o1 o2 : pS → Option Int} {σ : List Int} {d : Nat} {s : pS} (hu : noU σ) (hf : pPr L (lf d)) (h1 : oPl o1) (h2 : oPl o2) (hb1 : ∀ s c, o1 s = some c → s.1 < L) (hb : ∀ s c, o2 s = some c → s.1 < L ∧ (c = 1 ∨ c = 2 ∨ c = 11)) (hs : s.1 ≤ L) (hn : o1 s = none) {c : Int} (hc : o2 s = some c) :
    KK T L lf o1 o2 σ d 0 s = bd (lf d (pN T L (dr2 (dr1 (σ, s))).2)) (KK T L lf o1 o2 (c :: (dr2 (dr1 (σ, s))).1) d 0) := by
  have e := dr1_1 (x := (σ, s))
  obtain ⟨y, hy⟩ : ∃ y, y = dr1 (σ, s) := ⟨_, rfl⟩
  have e' := dr2_1 (x := y)
  rw [KK_01 hu, lp_none ((h1 _ _ e.1 e.2).trans hn), bd_l, KK_12]
  rw [← hy] at e ⊢
  have hc' : o2 (dr2 y).2 = some c := (h2 _ _ (e'.1.trans e.1) (e'.2.trans e.2)).trans hc
  have hcc := (hb _ _ hc).2
  show bd (lp T L (l1 T L (lf d) o1) o2 1600 (dr2 y).2) _ = _
  rw [lp_eq hL (l1_pr hf hb1) (fun s c h => (hb s c h).1) (s := (dr2 y).2) (by rw [e'.1, e.1]; exact hs), hc']
  dsimp only
  rw [bd_a]
  show bd (bd (lf d (pN T L (dr2 y).2)) (lp T L (lf d) o1 1600)) _ = _
  rw [bd_a]
  refine bd_c fun s' _ => ?_
  rw [KK_01 (σ := c :: (dr2 y).1) (fun w σ' hw => by cases hw; omega)]
  have e2 : dr1 (c :: (dr2 y).1, s') = (c :: (dr2 y).1, s') := by
    show (if c = 3 ∨ c = 4 ∨ c = 10 then _ else _) = _
    rw [if_neg (by omega)]
  rw [e2]
  refine bd_c fun s'' _ => ?_
  rw [KK_12]
  have e3 : dr2 (c :: (dr2 y).1, s'') = ((dr2 y).1, pU s'' c) := by
    show (if c = 1 ∨ c = 2 ∨ c = 11 then _ else _) = _
    rw [if_pos hcc]
  rw [e3]
/-- nothing goes on: the sum is read -/
theorem KK_end {T : Nat → Int} {L : Nat} {lf : Nat → pS → pR} {o1 o2 : pS → Option Int} {σ : List Int} {d : Nat} {s : pS} (hu : noU σ) (h1 : oPl o1) (h2 : oPl o2) (hn : o1 s = none) (hn2 : o2 s = none) :
    KK T L lf o1 o2 σ d 0 s = KK T L lf o1 o2 (dr2 (dr1 (σ, s))).1 d 2 (dr2 (dr1 (σ, s))).2 := by
  have e := dr1_1 (x := (σ, s))
  have e' := dr2_1 (x := dr1 (σ, s))
  rw [KK_01 hu, lp_none ((h1 _ _ e.1 e.2).trans hn), bd_l, KK_12]
  show bd (lp T L (l1 T L (lf d) o1) o2 1600 (dr2 (dr1 (σ, s))).2) _ = _
  rw [lp_none ((h2 _ _ (e'.1.trans e.1) (e'.2.trans e.2)).trans hn2), bd_l]
/-- a row's start: the whole sum -/
theorem KK_0 {T : Nat → Int} {L : Nat} {lf : Nat → pS → pR} {o1 o2 : pS → Option Int} {d : Nat} {s : pS} : bd (lf d s) (KK T L lf o1 o2 [] d 0) = l2 T L (lf d) o1 o2 s := by
  show _ = bd (bd (lf d s) (lp T L (lf d) o1 1600)) _
  rw [bd_a]
  rfl
/-- below a new bracket -/
theorem KK_in {T : Nat → Int} {L : Nat} {lf : Nat → pS → pR} {o1 o2 : pS → Option Int} {w : Int} {σ : List Int} {d : Nat} {s : pS} (hw : 20 ≤ w ∧ w ≤ 25) : bd (lf d s) (KK T L lf o1 o2 (w :: σ) d 0) = bd (l2 T L (lf d) o1 o2 s) (kC T L (l2 T L (lf d) o1 o2) w (KK T L lf o1 o2 σ (d + 1) 0)) := by
  show _ = bd (bd (bd (lf d s) (lp T L (lf d) o1 1600)) (lp T L (l1 T L (lf d) o1) o2 1600)) _
  rw [bd_a, bd_a]
  refine bd_c fun s' _ => ?_
  rw [KK_01 (fun w' σ' hw' => by cases hw'; omega)]
  have e1 : dr1 (w :: σ, s') = (w :: σ, s') := by
    show (if w = 3 ∨ w = 4 ∨ w = 10 then _ else _) = _
    rw [if_neg (by omega)]
  rw [e1]
  refine bd_c fun s'' _ => ?_
  rw [KK_12]
  have e2 : dr2 (w :: σ, s'') = (w :: σ, s'') := by
    show (if w = 1 ∨ w = 2 ∨ w = 11 then _ else _) = _
    rw [if_neg (by omega)]
  rw [e2]
  refine bd_c fun s3 _ => ?_
  rw [KK_2]
/-! ===== a PART opens something ===== -/
theorem pt_round {T : Nat → Int} {L : Nat} {q : Bool} {σ : List Int} {d : Nat} {s : pS} (g : pG T L s 40 = true) : bd (part T L q (d + 1) s) (KK T L (part T L q) (pO1 T L) (pO2 T L) σ (d + 1) 0) = bd (part T L q d (pN T L s)) (KK T L (part T L q) (pO1 T L) (pO2 T L) (20 :: σ) d 0) := by
  rw [KK_in (by decide)]
  show bd (ptB T L q true (part T L q d) s) _ = _
  unfold ptB
  rw [if_neg (pG_k g), if_pos g, if_pos rfl, bd_a]
  refine bd_c fun s' _ => ?_
  unfold kC
  rw [if_neg (by decide), if_neg (by decide), if_neg (by decide)]
theorem pt_round0 {T : Nat → Int} {L : Nat} {q : Bool} {s : pS} (g : pG T L s 40 = true) : part T L q 0 s = .inr (4, s.1) := by
  show ptB T L q false _ s = _
  unfold ptB
  rw [if_neg (pG_k g), if_pos g, if_neg (by decide)]
theorem pt_min {T : Nat → Int} {L : Nat} {q : Bool} {σ : List Int} {d : Nat} {s : pS} {w : Int} (hw : w = 21 ∨ w = 22) (e : pW T L s = w) (g : pG T L (pN T L s) 40 = true) : bd (part T L q (d + 1) s) (KK T L (part T L q) (pO1 T L) (pO2 T L) σ (d + 1) 0) = bd (part T L q d (pN T L (pN T L s))) (KK T L (part T L q) (pO1 T L) (pO2 T L) (w :: σ) d 0) := by
  rw [KK_in (by omega)]
  show bd (ptB T L q true (part T L q d) s) _ = _
  have hn : pW T L s ≠ -1 := by omega
  unfold ptB
  rw [if_neg (pW_k hn), if_neg (pW_G hn), if_pos (by omega), if_pos g, if_pos rfl, bd_a]
  refine bd_c fun s' _ => ?_
  unfold kC
  rw [if_pos hw, bd_a, e]
  refine bd_c fun s3 _ => ?_
  rw [bd_a]
  refine bd_c fun s4 _ => ?_
  rw [bd_a]
  exact bd_c fun s5 _ => rfl
theorem pt_min0 {T : Nat → Int} {L : Nat} {q : Bool} {s : pS} {w : Int} (hw : w = 21 ∨ w = 22) (e : pW T L s = w) (g : pG T L (pN T L s) 40 = true) : part T L q 0 s = .inr (4, (pN T L s).1) := by
  have hn : pW T L s ≠ -1 := by omega
  show ptB T L q false _ s = _
  unfold ptB
  rw [if_neg (pW_k hn), if_neg (pW_G hn), if_pos (by omega), if_pos g, if_neg (by decide)]
theorem pt_minx {T : Nat → Int} {L : Nat} {q : Bool} {d : Nat} {s : pS} {w : Int} (hw : w = 21 ∨ w = 22) (e : pW T L s = w) (g : ¬ pG T L (pN T L s) 40 = true) : part T L q d s = .inr (1, (pN T L s).1) := by
  have hn : pW T L s ≠ -1 := by omega
  cases d with
  | zero =>
    show ptB T L q false _ s = _
    unfold ptB
    rw [if_neg (pW_k hn), if_neg (pW_G hn), if_pos (by omega), if_neg g]
  | succ d =>
    show ptB T L q true _ s = _
    unfold ptB
    rw [if_neg (pW_k hn), if_neg (pW_G hn), if_pos (by omega), if_neg g]
theorem pt_met {T : Nat → Int} {L : Nat} {σ : List Int} {d : Nat} {s : pS} (e : pW T L s = 14) : bd (part T L true (d + 1) s) (KK T L (part T L true) (pO1 T L) (pO2 T L) σ (d + 1) 0) = bd (part T L true d (pN T L s)) (KK T L (part T L true) (pO1 T L) (pO2 T L) (60 :: σ) d 0) := by
  have hn : pW T L s ≠ -1 := by omega
  show bd (ptB T L true true (part T L true d) s) _ = _
  unfold ptB
  rw [if_neg (pW_k hn), if_neg (pW_G hn), if_neg (by omega), if_pos ⟨rfl, e⟩, if_pos rfl, bd_a]
  refine bd_c fun s' _ => ?_
  rw [KK_un (Or.inl rfl)]
  rfl
theorem pt_met0 {T : Nat → Int} {L : Nat} {s : pS} (e : pW T L s = 14) : part T L true 0 s = .inr (4, s.1) := by
  have hn : pW T L s ≠ -1 := by omega
  show ptB T L true false _ s = _
  unfold ptB
  rw [if_neg (pW_k hn), if_neg (pW_G hn), if_neg (by omega), if_pos ⟨rfl, e⟩, if_neg (by decide)]
/-- a number or a word -/
def prim (T : Nat → Int) (L : Nat) (q : Bool) (s : pS) : pR :=
  if tk_k T L s.1 s.2.1 = 2 then (if 4 < tk_de T L s.1 - s.1 then .inr (1, s.1 + 4) else .inl (pU (pN T L s) (1000 + tk_v T L s.1)))
  else match pF q (pW T L s) with
    | none => .inr (1, s.1)
    | some c => .inl (pU (pN T L s) c)
theorem pt_prim {T : Nat → Int} {L : Nat} {q : Bool} {d : Nat} {s : pS} (g : ¬ pG T L s 40 = true) (h : ¬(pW T L s = 21 ∨ pW T L s = 22)) (h2 : ¬(q = true ∧ pW T L s = 14)) : part T L q d s = prim T L q s := by
  have e : ∀ (op : Bool) (f : pS → pR), ptB T L q op f s = prim T L q s := by
    intro op f
    unfold ptB prim
    rw [if_neg g, if_neg h, if_neg h2]
    rfl
  cases d with
  | zero => exact e _ _
  | succ d => exact e _ _
/-! ===== a FACT opens something ===== -/
theorem fc_sq {T : Nat → Int} {L : Nat} {q : Bool} {σ : List Int} {d : Nat} {s : pS} (g : pG T L s 91 = true) : bd (fact T L q (d + 1) s) (KK T L (fact T L q) (pA1 T L) (pA2 T L) σ (d + 1) 0) = bd (fact T L q d (pN T L s)) (KK T L (fact T L q) (pA1 T L) (pA2 T L) (25 :: σ) d 0) := by
  have hw := pG_w g
  rw [KK_in (by decide)]
  show bd (fcB T L true (fact T L q d) _ s) _ = _
  unfold fcB
  rw [if_neg (by omega), if_pos g, if_pos rfl, bd_a]
  refine bd_c fun s' _ => ?_
  unfold kC
  rw [if_neg (by decide), if_neg (by decide), if_pos rfl]
theorem fc_sq0 {T : Nat → Int} {L : Nat} {q : Bool} {s : pS} (g : pG T L s 91 = true) : fact T L q 0 s = .inr (4, s.1) := by
  have hw := pG_w g
  show fcB T L false _ _ s = _
  unfold fcB
  rw [if_neg (by omega), if_pos g, if_neg (by decide)]
theorem fc_not {T : Nat → Int} {L : Nat} {q : Bool} {σ : List Int} {d : Nat} {s : pS} (e : pW T L s = 19) : bd (fact T L q (d + 1) s) (KK T L (fact T L q) (pA1 T L) (pA2 T L) σ (d + 1) 0) = bd (fact T L q d (pN T L s)) (KK T L (fact T L q) (pA1 T L) (pA2 T L) (12 :: σ) d 0) := by
  show bd (fcB T L true (fact T L q d) _ s) _ = _
  unfold fcB
  rw [if_pos e, if_pos rfl, bd_a]
  refine bd_c fun s' _ => ?_
  rw [KK_un (Or.inr rfl)]
  rfl
theorem fc_not0 {T : Nat → Int} {L : Nat} {q : Bool} {s : pS} (e : pW T L s = 19) : fact T L q 0 s = .inr (4, s.1) := by
  show fcB T L false _ _ s = _
  unfold fcB
  rw [if_pos e, if_neg (by decide)]
theorem fc_prim {T : Nat → Int} {L : Nat} {q : Bool} {d : Nat} {s : pS} (g : ¬ pG T L s 91 = true) (h : ¬ pW T L s = 19) : fact T L q d s = if pW T L s = 20 then .inl (pU (pN T L s) 13) else fcC T L (sumP T L q d) s := by
  cases d with
  | zero =>
    show fcB T L false _ _ s = _
    unfold fcB
    rw [if_neg h, if_neg g]
  | succ d =>
    show fcB T L true _ _ s = _
    unfold fcB
    rw [if_neg h, if_neg g]
