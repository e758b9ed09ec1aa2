/-! ===== the parser, by its meaning ===== -/
/-- place, touching, codes so far -/
abbrev pS : Type := Nat × Bool × List Int
/-- goes on, or a fault and its place -/
abbrev pR : Type := pS ⊕ (Nat × Nat)
def bd (r : pR) (f : pS → pR) : pR := match r with
  | .inl s => f s
  | .inr e => .inr e
theorem bd_l (s : pS) (f : pS → pR) : bd (.inl s) f = f s := rfl
theorem bd_r (e : Nat × Nat) (f : pS → pR) : bd (.inr e) f = .inr e := rfl
theorem bd_a (r : pR) (f g : pS → pR) : bd (bd r f) g = bd r (fun s => bd (f s) g) := by
  cases r <;> rfl
theorem bd_i (r : pR) : bd r (fun s => .inl s) = r := by
  cases r <;> rfl
theorem bd_c {r : pR} {f g : pS → pR} (h : ∀ s, r = .inl s → f s = g s) : bd r f = bd r g := by
  cases r with
  | inl s => exact h s rfl
  | inr e => rfl
def pN (T : Nat → Int) (L : Nat) (s : pS) : pS := ((tk_n T L s.1 s.2.1).1, (tk_n T L s.1 s.2.1).2, s.2.2)
def pU (s : pS) (c : Int) : pS := (s.1, s.2.1, s.2.2 ++ [c])
def pG (T : Nat → Int) (L : Nat) (s : pS) (c : Int) : Bool := decide (tk_k T L s.1 s.2.1 = 3) && decide (T s.1 = c)
def pW (T : Nat → Int) (L : Nat) (s : pS) : Int := tk_w T L s.1 s.2.1
def pD (T : Nat → Int) (L : Nat) (c : Int) (s : pS) : pR := if pG T L s c = true then .inl (pN T L s) else .inr (1, s.1)
def pO1 (T : Nat → Int) (L : Nat) (s : pS) : Option Int := if pG T L s 42 = true then some 3 else if pG T L s 47 = true then some 4 else none
def pO2 (T : Nat → Int) (L : Nat) (s : pS) : Option Int := if pG T L s 43 = true then some 1 else if pG T L s 45 = true then some 2 else none
def pA1 (T : Nat → Int) (L : Nat) (s : pS) : Option Int := if pW T L s = 18 then some 10 else none
def pA2 (T : Nat → Int) (L : Nat) (s : pS) : Option Int := if pW T L s = 17 then some 11 else none
def pC (T : Nat → Int) (L : Nat) (s : pS) : Option Int := if pG T L s 61 = true then some 9 else if pG T L s 60 = true then some 7 else if pG T L s 62 = true then some 8 else none
def lp (T : Nat → Int) (L : Nat) (f : pS → pR) (o : pS → Option Int) : Nat → pS → pR
  | 0, s => .inl s
  | n + 1, s => match o s with
    | none => .inl s
    | some c => bd (f (pN T L s)) (fun s' => lp T L f o n (pU s' c))
def l1 (T : Nat → Int) (L : Nat) (f : pS → pR) (o : pS → Option Int) (s : pS) : pR := bd (f s) (lp T L f o 1600)
def l2 (T : Nat → Int) (L : Nat) (f : pS → pR) (o1 o2 : pS → Option Int) (s : pS) : pR := bd (l1 T L f o1 s) (lp T L (l1 T L f o1) o2 1600)
/-- the code of a word of a PART -/
def pF (q : Bool) (w : Int) : Option Int := if w = 12 then (if q = true then none else some 40) else if w = 13 then some 41 else if w = 4 then some 42 else if w = 1 then some 43 else if w = 14 then (if q = true then none else some 44) else if w = 5 then some 45 else if w = 15 then some 46 else if w = 16 then (if q = true then some 47 else none) else none
/-- a PART, if what is inside is read by f; op: one more may be open -/
def ptB (T : Nat → Int) (L : Nat) (q op : Bool) (f : pS → pR) (s : pS) : pR :=
  if tk_k T L s.1 s.2.1 = 2 then (if 4 < tk_de T L s.1 - s.1 then .inr (1, s.1 + 4) else .inl (pU (pN T L s) (1000 + tk_v T L s.1)))
  else if pG T L s 40 = true then (if op = true then bd (l2 T L f (pO1 T L) (pO2 T L) (pN T L s)) (pD T L 41) else .inr (4, s.1))
  else if pW T L s = 21 ∨ pW T L s = 22 then
    (if pG T L (pN T L s) 40 = true then (if op = true then bd (l2 T L f (pO1 T L) (pO2 T L) (pN T L (pN T L s))) (fun s2 => bd (pD T L 44 s2) (fun s3 => bd (l2 T L f (pO1 T L) (pO2 T L) s3) (fun s4 => bd (pD T L 41 s4) (fun s5 => .inl (pU s5 (if pW T L s = 21 then 5 else 6)))))) else .inr (4, (pN T L s).1))
    else .inr (1, (pN T L s).1))
  else if q = true ∧ pW T L s = 14 then (if op = true then bd (f (pN T L s)) (fun s' => .inl (pU s' 60)) else .inr (4, s.1))
  else match pF q (pW T L s) with
    | none => .inr (1, s.1)
    | some c => .inl (pU (pN T L s) c)
def part (T : Nat → Int) (L : Nat) (q : Bool) : Nat → pS → pR
  | 0, s => ptB T L q false (fun s => .inl s) s
  | d + 1, s => ptB T L q true (part T L q d) s
def sumP (T : Nat → Int) (L : Nat) (q : Bool) (d : Nat) (s : pS) : pR := l2 T L (part T L q d) (pO1 T L) (pO2 T L) s
def fcC (T : Nat → Int) (L : Nat) (su : pS → pR) (s : pS) : pR := bd (su s) (fun s1 => match pC T L s1 with
    | none => .inr (1, s1.1)
    | some c => bd (su (pN T L s1)) (fun s2 => .inl (pU s2 c)))
def fcB (T : Nat → Int) (L : Nat) (op : Bool) (f su : pS → pR) (s : pS) : pR :=
  if pW T L s = 19 then (if op = true then bd (f (pN T L s)) (fun s' => .inl (pU s' 12)) else .inr (4, s.1))
  else if pG T L s 91 = true then (if op = true then bd (l2 T L f (pA1 T L) (pA2 T L) (pN T L s)) (pD T L 93) else .inr (4, s.1))
  else if pW T L s = 20 then .inl (pU (pN T L s) 13)
  else fcC T L su s
def fact (T : Nat → Int) (L : Nat) (q : Bool) : Nat → pS → pR
  | 0, s => fcB T L false (fun s => .inl s) (sumP T L q 0) s
  | d + 1, s => fcB T L true (fact T L q d) (sumP T L q (d + 1)) s
def testP (T : Nat → Int) (L : Nat) (q : Bool) (d : Nat) (s : pS) : pR := l2 T L (fact T L q d) (pA1 T L) (pA2 T L) s
/-! ===== what tokens there are ===== -/
theorem pG_i {T : Nat → Int} {L : Nat} {s : pS} {c : Int} : pG T L s c = true ↔ tk_k T L s.1 s.2.1 = 3 ∧ T s.1 = c := by simp [pG]
theorem pG_lt {T : Nat → Int} {L : Nat} {s : pS} {c : Int} (h : pG T L s c = true) : s.1 < L := (tk_k_s.mp (pG_i.mp h).1).1
theorem pG_w {T : Nat → Int} {L : Nat} {s : pS} {c : Int} (h : pG T L s c = true) : pW T L s = -1 := by
  have a := tk_k_s.mp (pG_i.mp h).1
  by_cases q : pW T L s = -1
  · exact q
  · exact absurd (tk_w_l q).2 a.2.1
theorem pG_k {T : Nat → Int} {L : Nat} {s : pS} {c : Int} (h : pG T L s c = true) : ¬ tk_k T L s.1 s.2.1 = 2 := by
  rw [(pG_i.mp h).1]
  decide
theorem pG_2 {T : Nat → Int} {L : Nat} {s : pS} {c d : Int} (h : pG T L s c = true) (hd : c ≠ d) : ¬ pG T L s d = true := fun g => hd ((pG_i.mp h).2.symm.trans (pG_i.mp g).2)
theorem pW_lt {T : Nat → Int} {L : Nat} {s : pS} (h : pW T L s ≠ -1) : s.1 < L := (tk_li.mp (tk_w_l h).2).1
theorem pW_G {T : Nat → Int} {L : Nat} {s : pS} {c : Int} (h : pW T L s ≠ -1) : ¬ pG T L s c = true := fun g => h (pG_w g)
theorem pW_k {T : Nat → Int} {L : Nat} {s : pS} (h : pW T L s ≠ -1) : ¬ tk_k T L s.1 s.2.1 = 2 := by
  rw [tk_k_w.mpr (tk_w_l h)]
  decide
theorem pO1_some {T : Nat → Int} {L : Nat} {s : pS} {c : Int} (h : pO1 T L s = some c) : s.1 < L ∧ (c = 3 ∨ c = 4) := by
  unfold pO1 at h
  split at h
  · rename_i g
    exact ⟨pG_lt g, by cases h; omega⟩
  · split at h
    · rename_i g
      exact ⟨pG_lt g, by cases h; omega⟩
    · cases h
theorem pO2_some {T : Nat → Int} {L : Nat} {s : pS} {c : Int} (h : pO2 T L s = some c) : s.1 < L ∧ (c = 1 ∨ c = 2) := by
  unfold pO2 at h
  split at h
  · rename_i g
    exact ⟨pG_lt g, by cases h; omega⟩
  · split at h
    · rename_i g
      exact ⟨pG_lt g, by cases h; omega⟩
    · cases h
theorem pA1_some {T : Nat → Int} {L : Nat} {s : pS} {c : Int} (h : pA1 T L s = some c) : s.1 < L ∧ c = 10 := by
  unfold pA1 at h
  split at h
  · rename_i g
    exact ⟨pW_lt (T := T) (L := L) (by omega), by cases h; omega⟩
  · cases h
theorem pA2_some {T : Nat → Int} {L : Nat} {s : pS} {c : Int} (h : pA2 T L s = some c) : s.1 < L ∧ c = 11 := by
  unfold pA2 at h
  split at h
  · rename_i g
    exact ⟨pW_lt (T := T) (L := L) (by omega), by cases h; omega⟩
  · cases h
theorem pC_some {T : Nat → Int} {L : Nat} {s : pS} {c : Int} (h : pC T L s = some c) : s.1 < L ∧ (c = 7 ∨ c = 8 ∨ c = 9) := by
  unfold pC at h
  split at h
  · rename_i g
    exact ⟨pG_lt g, by cases h; omega⟩
  · split at h
    · rename_i g
      exact ⟨pG_lt g, by cases h; omega⟩
    · split at h
      · rename_i g
        exact ⟨pG_lt g, by cases h; omega⟩
      · cases h
theorem pF_some {T : Nat → Int} {L : Nat} {q : Bool} {s : pS} {c : Int} (h : pF q (pW T L s) = some c) : s.1 < L ∧ vcode q c ∧ 40 ≤ c ∧ c ≤ 47 := by
  have hw : pW T L s ≠ -1 := by
    intro g
    rw [g] at h
    cases q <;> simp [pF] at h
  refine ⟨pW_lt hw, ?_⟩
  unfold pF at h
  unfold vcode
  cases q
  · simp only [Bool.false_eq_true, if_false, false_and, or_false] at h ⊢
    repeat' split at h
    all_goals (simp at h)
    all_goals omega
  · simp only [if_true, true_and] at h ⊢
    repeat' split at h
    all_goals (simp at h)
    all_goals omega
/-! ===== the kinds of what the codes leave ===== -/
def tl (c : List Int) (st : List Bool) : Option (List Bool) := match c with
  | [] => some st
  | r :: c => (tstep st r).bind (tl c)
theorem tl_app : ∀ (c c' : List Int) (st : List Bool), tl (c ++ c') st = (tl c st).bind (tl c')
  | [], _, _ => rfl
  | r :: c, c', st => by
    show (tstep st r).bind (tl (c ++ c')) = ((tstep st r).bind (tl c)).bind (tl c')
    rw [Option.bind_assoc]
    congr 1
    funext x
    exact tl_app c c' x
/-- what a reading does: it goes on, its codes are fit, and leave one of kind t -/
def pOK (L : Nat) (q t : Bool) (m : Nat) (f : pS → pR) : Prop := ∀ s s', f s = .inl s' → s.1 ≤ L → s.1 ≤ s'.1 ∧ s'.1 ≤ L ∧ ∃ c, s'.2.2 = s.2.2 ++ c ∧ c.length + s.1 ≤ s'.1 ∧ (∀ r ∈ c, vcode q r) ∧ ∀ st : List Bool, st.length + m < 60 → tl c st = some (t :: st)
def oOK (L : Nat) (q t : Bool) (o : pS → Option Int) : Prop := ∀ s c, o s = some c → s.1 < L ∧ vcode q c ∧ ∀ st, tstep (t :: t :: st) c = some (t :: st)
theorem tl_one {st : List Bool} {c : Int} {st' : List Bool} (h : tstep st c = some st') : tl [c] st = some st' := by
  show (tstep st c).bind (tl []) = _
  rw [h]
  rfl
theorem pN_lt {T : Nat → Int} {L : Nat} {s : pS} (h : s.1 < L) : s.1 + 1 ≤ (pN T L s).1 ∧ (pN T L s).1 ≤ L ∧ (pN T L s).2.2 = s.2.2 := ⟨tk_n_ge (b := s.2.1) h, tk_n_le (b := s.2.1) (by omega), rfl⟩
theorem pN_le {T : Nat → Int} {L : Nat} {s : pS} (h : s.1 ≤ L) : s.1 ≤ (pN T L s).1 ∧ (pN T L s).1 ≤ L ∧ (pN T L s).2.2 = s.2.2 := ⟨tk_n_ge' (b := s.2.1), tk_n_le (b := s.2.1) h, rfl⟩
theorem lp_ok {T : Nat → Int} {L m : Nat} {q t : Bool} {f : pS → pR} {o : pS → Option Int} (hf : pOK L q t m f) (ho : oOK L q t o) : ∀ (n : Nat) (s s' : pS), lp T L f o n s = .inl s' → s.1 ≤ L → s.1 ≤ s'.1 ∧ s'.1 ≤ L ∧ ∃ c, s'.2.2 = s.2.2 ++ c ∧ c.length + s.1 ≤ s'.1 ∧ (∀ r ∈ c, vcode q r) ∧ ∀ st : List Bool, st.length + (m + 1) < 60 → tl c (t :: st) = some (t :: st)
  | 0, s, s', h, hl => by
    simp only [lp] at h
    cases h
    exact ⟨Nat.le_refl _, hl, [], by simp, by simp, by simp, fun st _ => rfl⟩
  | n + 1, s, s', h, hl => by
    simp only [lp] at h
    split at h
    · cases h
      exact ⟨Nat.le_refl _, hl, [], by simp, by simp, by simp, fun st _ => rfl⟩
    · rename_i c hc
      obtain ⟨o1, o2, o3⟩ := ho s c hc
      obtain ⟨n1, n2, n3⟩ := pN_lt (T := T) o1
      cases hf1 : f (pN T L s) with
      | inr e => rw [hf1] at h; cases h
      | inl s1 =>
        rw [hf1, bd_l] at h
        obtain ⟨a1, a2, c1, a3, a4, a5, a6⟩ := hf _ _ hf1 n2
        obtain ⟨b1, b2, c2, b3, b4, b5, b6⟩ := lp_ok hf ho n _ _ h a2
        change s1.1 ≤ s'.1 at b1
        change c2.length + s1.1 ≤ s'.1 at b4
        refine ⟨by omega, b2, c1 ++ [c] ++ c2, ?_, ?_, ?_, ?_⟩
        · rw [b3]
          show s1.2.2 ++ [c] ++ c2 = _
          rw [a3, n3]
          simp
        · simp only [List.length_append, List.length_cons, List.length_nil]
          omega
        · intro r hr
          simp only [List.mem_append, List.mem_singleton] at hr
          rcases hr with (hr | hr) | hr
          · exact a5 r hr
          · rw [hr]; exact o2
          · exact b5 r hr
        · intro st hst
          rw [tl_app, tl_app, a6 (t :: st) (by simp only [List.length_cons]; omega)]
          simp only [Option.bind_some]
          rw [tl_one (o3 st)]
          exact b6 st hst
theorem l1_ok {T : Nat → Int} {L m : Nat} {q t : Bool} {f : pS → pR} {o : pS → Option Int} (hf : pOK L q t m f) (ho : oOK L q t o) : pOK L q t (m + 1) (l1 T L f o) := fun s s' h hl => by
  unfold l1 at h
  cases hf1 : f s with
  | inr e => rw [hf1] at h; cases h
  | inl s1 =>
    rw [hf1, bd_l] at h
    obtain ⟨a1, a2, c1, a3, a4, a5, a6⟩ := hf _ _ hf1 hl
    obtain ⟨b1, b2, c2, b3, b4, b5, b6⟩ := lp_ok hf ho 1600 _ _ h a2
    refine ⟨by omega, b2, c1 ++ c2, ?_, ?_, ?_, ?_⟩
    · rw [b3, a3]
      simp
    · simp only [List.length_append]
      omega
    · intro r hr
      simp only [List.mem_append] at hr
      rcases hr with hr | hr
      · exact a5 r hr
      · exact b5 r hr
    · intro st hst
      rw [tl_app, a6 st (by omega)]
      exact b6 st hst
theorem l2_ok {T : Nat → Int} {L m : Nat} {q t : Bool} {f : pS → pR} {o1 o2 : pS → Option Int} (hf : pOK L q t m f) (h1 : oOK L q t o1) (h2 : oOK L q t o2) : pOK L q t (m + 2) (l2 T L f o1 o2) := by
  have e : l2 T L f o1 o2 = l1 T L (l1 T L f o1) o2 := rfl
  rw [e]
  exact l1_ok (l1_ok hf h1) h2
theorem pO1_ok {T : Nat → Int} {L : Nat} {q : Bool} : oOK L q false (pO1 T L) := fun s c h => by
  obtain ⟨a, b⟩ := pO1_some h
  refine ⟨a, by unfold vcode; omega, fun st => ?_⟩
  rcases b with rfl | rfl <;> rfl
theorem pO2_ok {T : Nat → Int} {L : Nat} {q : Bool} : oOK L q false (pO2 T L) := fun s c h => by
  obtain ⟨a, b⟩ := pO2_some h
  refine ⟨a, by unfold vcode; omega, fun st => ?_⟩
  rcases b with rfl | rfl <;> rfl
theorem pA1_ok {T : Nat → Int} {L : Nat} {q : Bool} : oOK L q true (pA1 T L) := fun s c h => by
  obtain ⟨a, b⟩ := pA1_some h
  refine ⟨a, by unfold vcode; omega, fun st => ?_⟩
  subst b
  rfl
theorem pA2_ok {T : Nat → Int} {L : Nat} {q : Bool} : oOK L q true (pA2 T L) := fun s c h => by
  obtain ⟨a, b⟩ := pA2_some h
  refine ⟨a, by unfold vcode; omega, fun st => ?_⟩
  subst b
  rfl
theorem pD_inl {T : Nat → Int} {L : Nat} {c : Int} {s s' : pS} (h : pD T L c s = .inl s') : s' = pN T L s ∧ s.1 < L := by
  unfold pD at h
  split at h
  · rename_i g
    cases h
    exact ⟨rfl, pG_lt g⟩
  · cases h
theorem tstep_num {st : List Bool} {c : Int} (h : 1000 ≤ c) (hs : st.length < 60) : tstep st c = some (false :: st) := by
  unfold tstep
  rw [if_pos h, if_pos hs]
theorem tstep_part {st : List Bool} {c : Int} (h : 40 ≤ c ∧ c ≤ 47) (hs : st.length < 60) : tstep st c = some (false :: st) := by
  unfold tstep
  rw [if_neg (by omega), if_neg (by omega), if_pos (by omega), if_pos hs]
/-- one code of a token -/
theorem pOK_tok {T : Nat → Int} {L : Nat} {q t : Bool} {s s' : pS} {c : Int} (hs : s.1 < L) (h : s' = pU (pN T L s) c) (hv : vcode q c) (ht : ∀ st : List Bool, st.length < 60 → tstep st c = some (t :: st)) : s.1 ≤ s'.1 ∧ s'.1 ≤ L ∧ ∃ c, s'.2.2 = s.2.2 ++ c ∧ c.length + s.1 ≤ s'.1 ∧ (∀ r ∈ c, vcode q r) ∧ ∀ st : List Bool, st.length + 0 < 60 → tl c st = some (t :: st) := by
  obtain ⟨n1, n2, n3⟩ := pN_lt (T := T) hs
  subst h
  refine ⟨by show s.1 ≤ (pN T L s).1; omega, n2, [c], ?_, ?_, ?_, ?_⟩
  · show (pN T L s).2.2 ++ [c] = _
    rw [n3]
  · show 1 + s.1 ≤ (pN T L s).1
    omega
  · intro r hr
    rw [List.mem_singleton] at hr
    rw [hr]; exact hv
  · intro st hst
    exact tl_one (ht st (by omega))
theorem pOK_mono {L m m' : Nat} {q t : Bool} {f : pS → pR} (h : pOK L q t m f) (hm : m ≤ m') : pOK L q t m' f := fun s s' e hl => by
  obtain ⟨a1, a2, c, a3, a4, a5, a6⟩ := h s s' e hl
  exact ⟨a1, a2, c, a3, a4, a5, fun st hst => a6 st (by omega)⟩
theorem ptB_ok {T : Nat → Int} {L m : Nat} {q op : Bool} {f : pS → pR} (hf : op = true → pOK L q false m f) : pOK L q false (m + 3) (ptB T L q op f) := fun s s' h hl => by
  unfold ptB at h
  split at h
  · rename_i k
    have kd := (tk_k_n.mp k).2
    split at h
    · cases h
    · cases h
      have b := tk_v_b kd
      obtain ⟨a1, a2, c, a3, a4, a5, a6⟩ := pOK_tok (q := q) (t := false) (c := 1000 + tk_v T L s.1) (tk_di.mp kd).1 rfl (by unfold vcode; omega) (fun st hst => tstep_num (by omega) hst)
      exact ⟨a1, a2, c, a3, a4, a5, fun st hst => a6 st (by omega)⟩
  · split at h
    · rename_i g
      split at h
      · rename_i ho
        obtain ⟨n1, n2, n3⟩ := pN_lt (T := T) (pG_lt g)
        cases e1 : l2 T L f (pO1 T L) (pO2 T L) (pN T L s) with
        | inr e => rw [e1] at h; cases h
        | inl s1 =>
          rw [e1, bd_l] at h
          obtain ⟨a1, a2, c, a3, a4, a5, a6⟩ := l2_ok (T := T) (hf ho) pO1_ok pO2_ok _ _ e1 n2
          obtain ⟨h1, h2⟩ := pD_inl h
          obtain ⟨k1, k2, k3⟩ := pN_lt (T := T) h2
          subst h1
          refine ⟨by omega, k2, c, by rw [k3, a3, n3], by omega, a5, fun st hst => a6 st (by omega)⟩
      · cases h
    · split at h
      · rename_i w
        have sl : s.1 < L := pW_lt (T := T) (L := L) (by omega)
        obtain ⟨n1, n2, n3⟩ := pN_lt (T := T) sl
        split at h
        · rename_i g
          split at h
          · rename_i ho
            obtain ⟨u1, u2, u3⟩ := pN_lt (T := T) (pG_lt g)
            cases e1 : l2 T L f (pO1 T L) (pO2 T L) (pN T L (pN T L s)) with
            | inr e => rw [e1] at h; cases h
            | inl s2 =>
              rw [e1, bd_l] at h
              obtain ⟨a1, a2, c, a3, a4, a5, a6⟩ := l2_ok (T := T) (hf ho) pO1_ok pO2_ok _ _ e1 u2
              cases e2 : pD T L 44 s2 with
              | inr e => rw [e2] at h; cases h
              | inl s3 =>
                rw [e2, bd_l] at h
                obtain ⟨h1, h2⟩ := pD_inl e2
                obtain ⟨k1, k2, k3⟩ := pN_lt (T := T) h2
                subst h1
                cases e3 : l2 T L f (pO1 T L) (pO2 T L) (pN T L s2) with
                | inr e => rw [e3] at h; cases h
                | inl s4 =>
                  rw [e3, bd_l] at h
                  obtain ⟨a1', a2', c', a3', a4', a5', a6'⟩ := l2_ok (T := T) (hf ho) pO1_ok pO2_ok _ _ e3 k2
                  cases e4 : pD T L 41 s4 with
                  | inr e => rw [e4] at h; cases h
                  | inl s5 =>
                    rw [e4, bd_l] at h
                    obtain ⟨h1, h2⟩ := pD_inl e4
                    obtain ⟨y1, y2, y3⟩ := pN_lt (T := T) h2
                    subst h1
                    cases h
                    refine ⟨by show s.1 ≤ (pN T L s4).1; omega, y2, c ++ c' ++ [if pW T L s = 21 then 5 else 6], ?_, ?_, ?_, ?_⟩
                    · show (pN T L s4).2.2 ++ _ = _
                      rw [y3, a3', k3, a3, u3, n3]
                      simp
                    · simp only [List.length_append, List.length_cons, List.length_nil]
                      show _ ≤ (pN T L s4).1
                      omega
                    · intro r hr
                      simp only [List.mem_append, List.mem_singleton] at hr
                      rcases hr with (hr | hr) | hr
                      · exact a5 r hr
                      · exact a5' r hr
                      · rw [hr]; unfold vcode; split <;> omega
                    · intro st hst
                      rw [tl_app, tl_app, a6 st (by omega)]
                      simp only [Option.bind_some]
                      rw [a6' (false :: st) (by simp only [List.length_cons]; omega)]
                      simp only [Option.bind_some]
                      refine tl_one ?_
                      split <;> rfl
          · cases h
        · cases h
      · split at h
        · rename_i w
          have sl : s.1 < L := pW_lt (T := T) (L := L) (by omega)
          obtain ⟨n1, n2, n3⟩ := pN_lt (T := T) sl
          split at h
          · rename_i ho
            cases e1 : f (pN T L s) with
            | inr e => rw [e1] at h; cases h
            | inl s1 =>
              rw [e1, bd_l] at h
              cases h
              obtain ⟨a1, a2, c, a3, a4, a5, a6⟩ := hf ho _ _ e1 n2
              refine ⟨by show s.1 ≤ s1.1; omega, a2, c ++ [60], ?_, ?_, ?_, ?_⟩
              · show s1.2.2 ++ [60] = _
                rw [a3, n3]
                simp
              · simp only [List.length_append, List.length_cons, List.length_nil]
                show _ ≤ s1.1
                omega
              · intro r hr
                simp only [List.mem_append, List.mem_singleton] at hr
                rcases hr with hr | hr
                · exact a5 r hr
                · rw [hr]; unfold vcode; rw [w.1]; simp
              · intro st hst
                rw [tl_app, a6 st (by omega)]
                simp only [Option.bind_some]
                exact tl_one rfl
          · cases h
        · split at h
          · cases h
          · rename_i c hc
            cases h
            obtain ⟨p1, p2, p3⟩ := pF_some hc
            obtain ⟨a1, a2, c, a3, a4, a5, a6⟩ := pOK_tok (q := q) (t := false) p1 rfl p2 (fun st hst => tstep_part p3 hst)
            exact ⟨a1, a2, c, a3, a4, a5, fun st hst => a6 st (by omega)⟩
theorem part_ok {T : Nat → Int} {L : Nat} {q : Bool} : ∀ d, pOK L q false (3 * d + 3) (part T L q d)
  | 0 => ptB_ok (m := 0) (fun h => by cases h)
  | d + 1 => by
    have e := ptB_ok (T := T) (op := true) (fun _ => part_ok (T := T) (L := L) (q := q) d)
    exact e
theorem sumP_ok {T : Nat → Int} {L : Nat} {q : Bool} (d : Nat) : pOK L q false (3 * d + 5) (sumP T L q d) := l2_ok (part_ok d) pO1_ok pO2_ok
theorem fcC_ok {T : Nat → Int} {L m : Nat} {q : Bool} {su : pS → pR} (hs : pOK L q false m su) : pOK L q true (m + 1) (fcC T L su) := fun s s' h hl => by
  unfold fcC at h
  cases e1 : su s with
  | inr e => rw [e1] at h; cases h
  | inl s1 =>
    rw [e1, bd_l] at h
    obtain ⟨a1, a2, c, a3, a4, a5, a6⟩ := hs _ _ e1 hl
    split at h
    · cases h
    · rename_i cc hc
      obtain ⟨p1, p2⟩ := pC_some hc
      obtain ⟨n1, n2, n3⟩ := pN_lt (T := T) p1
      cases e2 : su (pN T L s1) with
      | inr e => rw [e2] at h; cases h
      | inl s2 =>
        rw [e2, bd_l] at h
        cases h
        obtain ⟨a1', a2', c', a3', a4', a5', a6'⟩ := hs _ _ e2 n2
        refine ⟨by show s.1 ≤ s2.1; omega, a2', c ++ c' ++ [cc], ?_, ?_, ?_, ?_⟩
        · show s2.2.2 ++ [cc] = _
          rw [a3', n3, a3]
          simp
        · simp only [List.length_append, List.length_cons, List.length_nil]
          show _ ≤ s2.1
          omega
        · intro r hr
          simp only [List.mem_append, List.mem_singleton] at hr
          rcases hr with (hr | hr) | hr
          · exact a5 r hr
          · exact a5' r hr
          · rw [hr]; unfold vcode; omega
        · intro st hst
          rw [tl_app, tl_app, a6 st (by omega)]
          simp only [Option.bind_some]
          rw [a6' (false :: st) (by simp only [List.length_cons]; omega)]
          simp only [Option.bind_some]
          refine tl_one ?_
          rcases p2 with rfl | rfl | rfl <;> rfl
theorem fcB_ok {T : Nat → Int} {L m : Nat} {q op : Bool} {f su : pS → pR} (hf : op = true → pOK L q true m f) (hs : pOK L q false (m + 1) su) : pOK L q true (m + 2) (fcB T L op f su) := fun s s' h hl => by
  unfold fcB at h
  split at h
  · rename_i w
    have sl : s.1 < L := pW_lt (T := T) (L := L) (by omega)
    obtain ⟨n1, n2, n3⟩ := pN_lt (T := T) sl
    split at h
    · rename_i ho
      cases e1 : f (pN T L s) with
      | inr e => rw [e1] at h; cases h
      | inl s1 =>
        rw [e1, bd_l] at h
        cases h
        obtain ⟨a1, a2, c, a3, a4, a5, a6⟩ := hf ho _ _ e1 n2
        refine ⟨by show s.1 ≤ s1.1; omega, a2, c ++ [12], ?_, ?_, ?_, ?_⟩
        · show s1.2.2 ++ [12] = _
          rw [a3, n3]
          simp
        · simp only [List.length_append, List.length_cons, List.length_nil]
          show _ ≤ s1.1
          omega
        · intro r hr
          simp only [List.mem_append, List.mem_singleton] at hr
          rcases hr with hr | hr
          · exact a5 r hr
          · rw [hr]; unfold vcode; omega
        · intro st hst
          rw [tl_app, a6 st (by omega)]
          simp only [Option.bind_some]
          exact tl_one rfl
    · cases h
  · split at h
    · rename_i g
      split at h
      · rename_i ho
        obtain ⟨n1, n2, n3⟩ := pN_lt (T := T) (pG_lt g)
        cases e1 : l2 T L f (pA1 T L) (pA2 T L) (pN T L s) with
        | inr e => rw [e1] at h; cases h
        | inl s1 =>
          rw [e1, bd_l] at h
          obtain ⟨a1, a2, c, a3, a4, a5, a6⟩ := l2_ok (T := T) (hf ho) pA1_ok pA2_ok _ _ e1 n2
          obtain ⟨h1, h2⟩ := pD_inl h
          obtain ⟨k1, k2, k3⟩ := pN_lt (T := T) h2
          subst h1
          refine ⟨by omega, k2, c, by rw [k3, a3, n3], by omega, a5, fun st hst => a6 st (by omega)⟩
      · cases h
    · split at h
      · rename_i w
        cases h
        obtain ⟨a1, a2, c, a3, a4, a5, a6⟩ := pOK_tok (T := T) (q := q) (t := true) (c := 13) (s := s) (pW_lt (T := T) (L := L) (by omega)) rfl (by unfold vcode; omega) (fun st hst => by unfold tstep; rw [if_neg (by omega), if_neg (by omega), if_neg (by omega), if_pos rfl, if_pos hst])
        exact ⟨a1, a2, c, a3, a4, a5, fun st hst => a6 st (by omega)⟩
      · exact fcC_ok hs s s' h hl
theorem fact_ok {T : Nat → Int} {L : Nat} {q : Bool} : ∀ d, pOK L q true (3 * d + 6) (fact T L q d)
  | 0 => fcB_ok (m := 4) (fun h => by cases h) (sumP_ok 0)
  | d + 1 => by
    have e := fcB_ok (T := T) (m := 3 * d + 7) (op := true) (fun _ => pOK_mono (fact_ok (T := T) (L := L) (q := q) d) (by omega)) (sumP_ok (T := T) (d + 1))
    exact e
theorem testP_ok {T : Nat → Int} {L : Nat} {q : Bool} (d : Nat) : pOK L q true (3 * d + 8) (testP T L q d) := l2_ok (fact_ok d) pA1_ok pA2_ok
/-! ===== loops end by themselves ===== -/
def pPr (L : Nat) (f : pS → pR) : Prop := ∀ s s', f s = .inl s' → s.1 ≤ L → s.1 ≤ s'.1 ∧ s'.1 ≤ L
theorem pOK.pr {L m : Nat} {q t : Bool} {f : pS → pR} (h : pOK L q t m f) : pPr L f := fun s s' e hl => ⟨(h s s' e hl).1, (h s s' e hl).2.1⟩
theorem lp_more {T : Nat → Int} {L : Nat} {f : pS → pR} {o : pS → Option Int} (hf : pPr L f) (ho : ∀ s c, o s = some c → s.1 < L) : ∀ (n : Nat) (s : pS), s.1 ≤ L → L ≤ s.1 + n → lp T L f o (n + 1) s = lp T L f o n s
  | 0, s, h1, h2 => by
    simp only [lp]
    split
    · rfl
    · rename_i c hc
      have := ho s c hc
      omega
  | n + 1, s, h1, h2 => by
    rw [lp, lp]
    split
    · rfl
    · rename_i c hc
      have hl := ho s c hc
      obtain ⟨n1, n2, n3⟩ := pN_lt (T := T) hl
      refine bd_c fun s' e => ?_
      obtain ⟨k1, k2⟩ := hf _ _ e n2
      exact lp_more hf ho n (pU s' c) k2 (by show L ≤ s'.1 + n; omega)
theorem lp_eq {T : Nat → Int} {L : Nat} (hL : L ≤ 1600) {f : pS → pR} {o : pS → Option Int} (hf : pPr L f) (ho : ∀ s c, o s = some c → s.1 < L) {s : pS} (hs : s.1 ≤ L) : lp T L f o 1600 s = match o s with
    | none => .inl s
    | some c => bd (f (pN T L s)) (fun s' => lp T L f o 1600 (pU s' c)) := by
  rw [← lp_more hf ho 1600 s hs (by omega)]
  rfl
