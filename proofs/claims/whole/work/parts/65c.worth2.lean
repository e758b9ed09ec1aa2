/-! ===== what codes come to, in the class: the whole ===== -/
theorem tstep_len {q : Bool} {st st' : List Bool} {r : Int} (hv : vcode q r) (h : tstep st r = some st') (hl : st.length ≤ 60) : st'.length ≤ 60 := by
  rcases tstep_cases hv h with ⟨a, b, rfl⟩ | ⟨rfl, b, rfl⟩ | ⟨rfl, hq, t, rfl, rfl⟩ | ⟨rfl, t, rfl, rfl⟩ | ⟨a, t, rfl, rfl⟩ | ⟨a, t, rfl, rfl⟩ | ⟨a, t, rfl, rfl⟩ <;> simp only [List.length_cons] at hl ⊢ <;> omega
theorem trun_len {q : Bool} {c : Nat → Int} : ∀ (n : Nat) {s : List Bool}, (∀ i, i < n → vcode q (c i)) → trun c n [] = some s → s.length ≤ 60
  | 0, s, _, h => by
    cases Option.some.inj h
    decide
  | n + 1, s, hv, h => by
    have h' : (trun c n []).bind (fun s => tstep s (c n)) = some s := h
    cases e : trun c n [] with
    | none => rw [e] at h'; cases h'
    | some s0 =>
      rw [e] at h'
      exact tstep_len (hv n (by omega)) h' (trun_len n (fun i hi => hv i (by omega)) e)
theorem vtop_pil {h : xa_H} {a : Nat} {fa : Nat → Int} {r : Int} : ∀ {vs : List Int}, pil h a vs → pil h a (vtop fa r vs).2 := by
  intro vs p
  unfold vtop
  split
  · match vs, p with
    | [], p => exact p
    | _ :: _, p => exact pil_tl p
  · split
    · exact p
    · match vs, p with
      | [], p => exact p
      | [_], p => exact pil_tl p
      | _ :: _ :: _, p => exact pil_tl (pil_tl p)
/-- the class's heap on the way -/
def wH (h : xa_H) (P : Nat) (fa : Nat → Int) (c : Nat → Int) : Nat → xa_H
  | 0 => h
  | n + 1 => xset (wH h P fa c n) P (vtop fa (c n) (vrun fa c n)).2.length (vtop fa (c n) (vrun fa c n)).1
theorem wH_n (h : xa_H) (P : Nat) (fa : Nat → Int) (c : Nat → Int) : ∀ n, xn (wH h P fa c n) = xn h ∧ xz (wH h P fa c n) = xz h ∧ xk (wH h P fa c n) = xk h
  | 0 => ⟨rfl, rfl, rfl⟩
  | n + 1 => wH_n h P fa c n
theorem wH_o {h : xa_H} {P : Nat} {fa : Nat → Int} {c : Nat → Int} {a k : Nat} (ha : a ≠ P) : ∀ n, xm (wH h P fa c n) a k = xm h a k
  | 0 => rfl
  | n + 1 => by
    show xm (xset (wH h P fa c n) P _ _) a k = _
    rw [xm_xset, if_neg (by omega)]
    exact wH_o ha n
theorem wH_p {h : xa_H} {P : Nat} {fa : Nat → Int} {c : Nat → Int} : ∀ n, pil (wH h P fa c n) P (vrun fa c n)
  | 0 => fun k hk => by simp [vrun] at hk
  | n + 1 => pil_put (vtop_pil (wH_p n))
theorem c_worth {q : Bool} {fa : Nat → Int} {h : xa_H} {F L A N : Nat} {c : Nat → Int} (hF : FS h F L) (kA : A < xn h ∧ xk h A = (0, N)) (hN : 7 ≤ N ∧ (q = true → 14 ≤ N)) (hf : fok fa) (eA : ∀ k, k < N → (q = true → k ≠ 0 ∧ k ≠ 4) → (q = false → k < 7) → xm h A k = fa k) (hA : A ≠ F + 2) (hL : L < 1602) (hc : ∀ i, i < L → xm h (F + 1) i = cof (c i) ∧ vcode q (c i)) {t : Bool} (ht : trun c L [] = some [t]) :
    ∃ v, vrun fa c L = [v] ∧ okv1 t v ∧ f_X2_worth (F : Int) (A : Int) h = some (v, wH h (F + 2) fa c L) := by
  have ok := vrun_ok (q := q) hf L (fun i hi => (hc i hi).2) ht
  obtain ⟨v, ev, o1⟩ : ∃ v, vrun fa c L = [v] ∧ okv1 t v := by
    match e : vrun fa c L, ok with
    | [v], ok => exact ⟨v, rfl, ok.1⟩
    | _ :: _ :: _, ok => exact ok.2.elim
  refine ⟨v, ev, o1, ?_⟩
  have F' : ∀ n, FS (wH h (F + 2) fa c n) F L := fun n => hF.mv (by rw [(wH_n h _ fa c n).1]; exact Nat.le_refl _) (fun a _ => by rw [(wH_n h _ fa c n).2.2]) (fun k => wH_o (by omega) n)
  have lp := xit_seq (f := fun s : Int × Int × xa_H => f_X2_worth_L14 (F : Int) (A : Int) ((F + 1 : Nat) : Int) (L : Int) s.1 s.2.1 s.2.2) (fun n => (((vrun fa c n).length : Int), (n : Int), wH h (F + 2) fa c n)) L (.inr (((vrun fa c L).length : Int), wH h (F + 2) fa c L)) (fun i hi => by
    obtain ⟨s, es⟩ := trun_pre c i (L - i) (st := []) (st' := [t]) (by rw [show i + (L - i) = L by omega]; exact ht)
    obtain ⟨s', e1, e2⟩ := trun_next hi ht es
    have hv : ∀ j, j < i → vcode q (c j) := fun j hj => (hc j (by omega)).2
    exact c_wstep (q := q) (F' i) ⟨by rw [(wH_n h _ fa c i).1]; exact kA.1, by rw [(wH_n h _ fa c i).2.2]; exact kA.2⟩ hN (fun k hk y1 y2 => by rw [wH_o hA i]; exact eA k hk y1 y2) hi hL (by rw [wH_o (by omega) i]; exact (hc i hi).1) (hc i hi).2 e1 (vrun_ok hf i hv es) (trun_len i hv es) (wH_p i)) (by
    show f_X2_worth_L14 _ _ _ _ _ (L : Int) _ = _
    unfold f_X2_worth_L14
    rw [if_neg (by omega)]) (by omega)
  unfold f_X2_worth
  rw [fs_0 hF]
  refine (bnd (v := (L : Int)) ?_).trans ?_
  · unfold xln
    rw [if_pos, Int.toNat_natCast, hF.2.2.2.1]
    have := hF.2.1
    simp only [Int.toNat_natCast, hF.2.2.2.1]
    simp
    omega
  refine (bnd lp).trans ?_
  show (if 0 < ((vrun fa c L).length : Int) then _ else _) = _
  rw [ev, if_pos (show (0 : Int) < ((([v] : List Int).length : Nat) : Int) from Int.ofNat_lt.mpr (Nat.zero_lt_succ 0)), fs_1 (F' L)]
  have p := wH_p (h := h) (P := F + 2) (fa := fa) (c := c) L
  rw [ev] at p
  have w0 : w32 ((([v] : List Int).length : Int) - 1) = ((0 : Nat) : Int) := by rw [show (([v] : List Int).length : Int) = 1 from rfl]; decide
  show (xal (wH h (F + 2) fa c L) 0 ((F + 2 : Nat) : Int) (w32 ((([v] : List Int).length : Int) - 1))).bind _ = _
  rw [w0]
  exact (bnd (xal_eq (i := 0) (fs_i2 (F' L) (by omega)) (pil_hd p))).trans rfl
