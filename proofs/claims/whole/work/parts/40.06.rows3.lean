section XR3
theorem xok_spec {h : xa_H} {ci : Nat} {a : Int} (hk : xok h ci a = true) : ∃ n : Nat, a = (n : Int) ∧ n < xn h ∧ (xk h n).1 = 10 + ci := by
  simp only [xok, Bool.and_eq_true, decide_eq_true_eq] at hk
  exact ⟨a.toNat, by omega, hk.1.2, hk.2⟩
theorem xia_spec {h : xa_H} {kd : Nat} {a i : Int} (hk : xia h kd a i = true) : ∃ n j : Nat, a = (n : Int) ∧ n < xn h ∧ (xk h n).1 = kd ∧ i = (j : Int) ∧ j < (xk h n).2 := by
  simp only [xia, Bool.and_eq_true, decide_eq_true_eq] at hk
  refine ⟨a.toNat, i.toNat, by omega, hk.1.1.1.2, hk.1.1.2, by omega, ?_⟩
  have := hk.2
  omega
variable {l : Launch} {G : xa_C} {d : Nat} {M : xa_M} {α β : Type} {F : α → Option xa_O} {pc pc' : Nat} {ls ls' : List (Option xa_V)} {st st' : List xa_V} {h : xa_H}
theorem xa_ref {n : Nat} {c : Value} (hr : xa_r G (n : Int) c) : c = .ref (gb G + n) := by
  rcases hr with ⟨e, -⟩ | ⟨m, e, rfl⟩ | ⟨e, -⟩ | ⟨e, -⟩ | ⟨e, -⟩ | ⟨e, -⟩
  · omega
  · have : n = m := by omega
    rw [this]
  · omega
  · omega
  · omega
  · omega
/-- what is known of a class of the table -/
def xa_cls (ci : Nat) (C : String) (T : u_T) (N : Nat) : Prop := vwCl[ci]? = some (C, T, N) ∧ (∀ w ∈ u_ws C T N, w ∈ xa_W) ∧ (∀ k, k < N → parseFieldDescriptor (T k).2.2.1 = some (xtyf ci k)) ∧ (∀ a, a < N → ∀ b, b < N → a ≠ b → (T a).2.1 ≠ (T b).2.1)
theorem xa_obj {n ci : Nat} {C : String} {T : u_T} {N : Nat} {H : Heap} (hc : vwCl[ci]? = some (C, T, N)) (hrel : xa_rel G h H) (hn : n < xn h) (hk : (xk h n).1 = 10 + ci) : (xk h n).2 = N ∧ ∃ F : Nat → Value, t_OB (gb G + n) (gC G ci) N (gI G ci) H F ∧ ∀ k, k < N → xa_v G (xvt (xtag (xtyf ci k)) (xm h n k)) (F k) := by
  rcases hrel.2.1 n hn with ⟨h1, -⟩ | ⟨ci', C', T', e1, e2, F, e3, e4⟩
  · omega
  · have : ci' = ci := by omega
    subst this
    rw [hc] at e2
    obtain ⟨-, -, e5⟩ : C = C' ∧ T = T' ∧ N = (xk h n).2 := by simpa using e2
    rw [← e5] at e3 e4
    exact ⟨e5.symm, F, e3, e4⟩
theorem xa_arr {n : Nat} {H : Heap} (hrel : xa_rel G h H) (hn : n < xn h) (hk : (xk h n).1 < 6) : ∃ F : Nat → Value, H[gb G + n]? = some (arrV (gAq G (xk h n).1) (xk h n).2 F) ∧ ∀ k, k < (xk h n).2 → xa_v G (xvt (xtag (xaty (xk h n).1)) (xm h n k)) (F k) := by
  rcases hrel.2.1 n hn with ⟨-, h1⟩ | ⟨ci', C', T', e1, -⟩
  · exact h1
  · omega
theorem xa_c_kept {h h' : xa_H} {H H' : Heap} {a : Nat} (hc : xa_c G h H a) (hH : H'[gb G + a]? = H[gb G + a]?) (hk : xk h' a = xk h a) (hm : ∀ k, xm h' a k = xm h a k) : xa_c G h' H' a := by
  rcases hc with ⟨h1, F, h2, h3⟩ | ⟨ci, C, T, e1, e2, F, e3, e4⟩
  · exact Or.inl ⟨by rw [hk]; exact h1, F, by rw [hk, hH]; exact h2, fun k hk' => by rw [hk, hm]; exact h3 k (by rw [← hk]; exact hk')⟩
  · exact Or.inr ⟨ci, C, T, by rw [hk]; exact e1, by rw [hk]; exact e2, F, by rw [hk]; exact e3.kept hH, fun k hk' => by rw [hm]; exact e4 k (by rw [← hk]; exact hk')⟩
theorem xa_rel_set {H H' : Heap} {n k : Nat} {v : Int} (hrel : xa_rel G h H) (hn : n < xn h) (hsz : H'.size = H.size) (ho : ∀ q, q ≠ gb G + n → H'[q]? = H[q]?) (hc : xa_c G (xset h n k v) H' n) : xa_rel G (xset h n k v) H' := by
  refine ⟨hsz.trans hrel.1, fun a ha => ?_, fun q hq => (ho q (by omega)).trans (hrel.2.2 q hq)⟩
  by_cases e : a = n
  · subst e; exact hc
  · exact xa_c_kept (hrel.2.1 a ha) (ho _ (by omega)) rfl (fun k' => by simp [xm, xset, e])
theorem xa_getf {a : Int} {E : Int → Option α} {ci k idx N : Nat} {C : String} {T : u_T} (tg : Int → xa_V) (xc : xa_cls ci C T N) (hk : k < N) (ht : ∀ v, xvt (xtag (xtyf ci k)) v = tg v) (hl : Cond.fieldLink M.2.2.2.1 idx C (T k).2.1 (T k).2.2.1 ∈ xa_W) (hs : (T k).1 = C) (hd : decode M.1 pc = .ok (.getfield idx, 3) ∧ pc + 3 = pc')
    (kk : ∀ v, xgf h ci k a = some v → xa_G l G d M (E v) F pc' ls (tg v :: st) h) : xa_G l G d M ((xgf h ci k a).bind E) F pc ls (xR a :: st) h := by
  intro o ho
  obtain ⟨hd, rfl⟩ := hd
  cases hv : xgf h ci k a with
  | none => rw [hv] at ho; simp at ho
  | some v =>
    rw [hv] at ho
    obtain ⟨h1, h2⟩ := kk v hv o ho
    refine ⟨h1, fun n0 z0 a' b' p e s m args below meth c H locs lc cs hf hll hvs hrel hq => ?_⟩
    have hok : xok h ci a = true := by
      unfold xgf at hv
      split at hv
      · assumption
      · cases hv
    have hv2 : xm h a.toNat k = v := by
      unfold xgf at hv
      rw [if_pos hok] at hv
      exact Option.some.inj hv
    obtain ⟨n, rfl, hn, hkd⟩ := xok_spec hok
    obtain ⟨c1, cs1, rfl, hr, hvs'⟩ := hvs
    obtain rfl := xa_ref hr
    obtain ⟨-, FF, hob, hvals⟩ := xa_obj xc.1 hrel hn hkd
    have hP : va_P (gC G, gI G) vwCl [(gb G + n, .inr (ci, (List.range N).map FF))] H := by
      intro j q hj
      have hj0 : j = 0 := by
        have := (List.getElem?_eq_some_iff.mp hj).1
        simp at this
        exact this
      subst hj0
      simp at hj
      subst hj
      exact ⟨_, xc.1, hob.to (fun i hi => by simp [vp_V, hi])⟩
    refine va_get (D := (gC G, gI G)) (ci := ci) (v := FF k) (C := C) (T := T) (N := N) (ref := C) hf.1 hf.2.1 hf.2.2.2.2.1 xc.2.1 hf.2.2.2.1 hf.2.2.2.2.2.1.1 hP 0 rfl xc.1 k hk (hf.2.2.2.2.1 _ hl) (fun _ h9 => by rw [hs] at h9; exact h9) (by simp [hk]) hd ?_
    exact h2 n0 z0 a' b' p e s m args below meth c H locs lc _ hf hll ⟨_, _, rfl, by have := hvals k hk; simp only [Int.toNat_natCast] at hv2; rw [hv2, ht] at this; exact this, hvs'⟩ hrel hq
theorem xa_putf {a v : Int} {E : xa_H → Option α} {ci k idx N : Nat} {C : String} {T : u_T} {tg : Int → xa_V} (xc : xa_cls ci C T N) (hk : k < N) (ht : ∀ v, xvt (xtag (xtyf ci k)) v = tg v) (hfin : (T k).2.2.2 = false) (hfit : ∀ c : Value, xa_v G (tg v) c → narrow (xtyf ci k) c = c ∧ fits (xtyf ci k) c = true) (hl : Cond.fieldLink M.2.2.2.1 idx C (T k).2.1 (T k).2.2.1 ∈ xa_W) (hs : (T k).1 = C) (hd : decode M.1 pc = .ok (.putfield idx, 3) ∧ pc + 3 = pc')
    (kk : xok h ci a = true → xa_G l G d M (E (xset h a.toNat k v)) F pc' ls st (xset h a.toNat k v)) : xa_G l G d M ((xpf h ci k a v).bind E) F pc ls (tg v :: xR a :: st) h := by
  intro o ho
  obtain ⟨hd, rfl⟩ := hd
  unfold xpf at ho
  by_cases hok : xok h ci a = true
  · rw [if_pos hok] at ho
    obtain ⟨h1, h2⟩ := kk hok o ho
    refine ⟨h1, fun n0 z0 a' b' p e s m args below meth c H locs lc cs hf hll hvs hrel hq => ?_⟩
    obtain ⟨n, rfl, hn, hkd⟩ := xok_spec hok
    simp only [Int.toNat_natCast] at h2
    obtain ⟨c0, cs0, rfl, hv0, c1, cs1, rfl, hr, hvs'⟩ := hvs
    obtain rfl := xa_ref hr
    obtain ⟨hN, FF, ⟨cell, q1, q2, q3, q4⟩, hvals⟩ := xa_obj xc.1 hrel hn hkd
    have hK := hf.2.2.2.2.2.1.1
    have hap := va_apart (own := C) (D := (gC G, gI G)) (args := args) hf.2.2.2.2.1 xc.2.1 (xtyf ci) xc.2.2.1 xc.2.2.2 hK xc.1
    obtain ⟨hS, hfc, kC, hkC, hkind⟩ := hK.1 ci _ xc.1
    obtain ⟨cf, kf, fi, f, hi, hsl⟩ := hS k hk
    have hlay := hf.2.2.2.2.1 _ (xc.2.1 _ (u_in_lay hk))
    unfold u_lay at hlay
    rw [if_neg (by rw [hfin]; decide)] at hlay
    have hst := (u_facts hfc hkC (u_lays hf.2.2.2.2.1 xc.2.1 hk) hi).1
    have h6 := u_store hfc hkC hkind hlay hi (xc.2.2.1 k hk) (hfit _ hv0).1 (hfit _ hv0).2
    refine W.putK hf.1 hf.2.1 (f := f) ⟨hf.2.2.2.1, hf.2.2.2.2.1 _ hl, ⟨_, _, _, by rw [hs] at hi; exact hi⟩, hst⟩ (by rw [q2]; exact h6) q1 q3 (by rw [hsl]; exact k2_hasslot (q4 k hk)) rfl rfl hd fun H' e1 e2 e3 => ?_
    rw [hsl] at e1 ⊢
    refine h2 n0 z0 a' b' p e s m args below meth c H' _ lc _ hf hll hvs' ?_ ?_
    · refine xa_rel_set hrel hn e2 e3 (Or.inr ⟨ci, C, T, hkd, by show vwCl[ci]? = some (C, T, (xk h n).2); rw [hN]; exact xc.1, updV FF k c0, ?_, ?_⟩)
      · show t_OB _ _ (xk h n).2 _ _ _
        rw [hN]
        exact ⟨_, e1, q2, q3, t_set q4 hap hk c0⟩
      · intro j hj
        have hj : j < N := by rw [← hN]; exact hj
        by_cases e : j = k
        · subst e
          simp only [updV, if_pos, xm, xset]
          simp only [and_self, if_true]
          rw [ht]
          exact hv0
        · simp only [updV, if_neg e]
          have : xm (xset h n k v) n j = xm h n j := by simp [xm, xset, e]
          rw [this]
          exact hvals j hj
    · intro q hq'
      rcases List.mem_append.mp hq' with hq' | hq'
      · exact hq q hq'
      · simp at hq'
        subst hq'
        exact Nat.le_add_right _ _
  · rw [if_neg hok] at ho
    simp at ho
theorem xa_putF {a v : Int} {E : xa_H → Option α} {ci k idx N : Nat} {C : String} {T : u_T} {tg : Int → xa_V} (xc : xa_cls ci C T N) (hk : k < N) (ht : ∀ v, xvt (xtag (xtyf ci k)) v = tg v) (hfin : (T k).2.2.2 = true) (hini : M.2.2.2.2 = true) (hdecl : (T k).1 = M.2.2.2.1) (hfit : ∀ c : Value, xa_v G (tg v) c → narrow (xtyf ci k) c = c ∧ fits (xtyf ci k) c = true) (hl : Cond.fieldLink M.2.2.2.1 idx C (T k).2.1 (T k).2.2.1 ∈ xa_W) (hs : (T k).1 = C) (hd : decode M.1 pc = .ok (.putfield idx, 3) ∧ pc + 3 = pc')
    (kk : xok h ci a = true → xa_G l G d M (E (xset h a.toNat k v)) F pc' ls st (xset h a.toNat k v)) : xa_G l G d M ((xpf h ci k a v).bind E) F pc ls (tg v :: xR a :: st) h := by
  intro o ho
  obtain ⟨hd, rfl⟩ := hd
  unfold xpf at ho
  by_cases hok : xok h ci a = true
  · rw [if_pos hok] at ho
    obtain ⟨h1, h2⟩ := kk hok o ho
    refine ⟨h1, fun n0 z0 a' b' p e s m args below meth c H locs lc cs hf hll hvs hrel hq => ?_⟩
    obtain ⟨n, rfl, hn, hkd⟩ := xok_spec hok
    simp only [Int.toNat_natCast] at h2
    obtain ⟨c0, cs0, rfl, hv0, c1, cs1, rfl, hr, hvs'⟩ := hvs
    obtain rfl := xa_ref hr
    obtain ⟨hN, FF, ⟨cell, q1, q2, q3, q4⟩, hvals⟩ := xa_obj xc.1 hrel hn hkd
    have hK := hf.2.2.2.2.2.1.1
    have hap := va_apart (own := C) (D := (gC G, gI G)) (args := args) hf.2.2.2.2.1 xc.2.1 (xtyf ci) xc.2.2.1 xc.2.2.2 hK xc.1
    obtain ⟨hS, hfc, kC, hkC, hkind⟩ := hK.1 ci _ xc.1
    obtain ⟨cf, kf, fi, f, hi, hsl⟩ := hS k hk
    have hlay := hf.2.2.2.2.1 _ (xc.2.1 _ (u_in_lay hk))
    unfold u_lay at hlay
    rw [if_pos hfin] at hlay
    have hst := (u_facts hfc hkC (u_lays hf.2.2.2.2.1 xc.2.1 hk) hi).1
    have hcf : m.cls = cf := by
      obtain ⟨_, _, c', _, _, _, -, -, hf', -, -, -, hown2, -⟩ := Cond.laysFinal_spec hlay
      have e1 : c' = cf := by have := hi.symm.trans hf'; simp at this; exact this.1.symm
      rw [hdecl] at hown2
      rw [← e1]; exact Option.some.inj (hf.2.2.2.1.symm.trans hown2)
    have h6 := u_fits hfc hkC hkind (Or.inr hlay) hi (xc.2.2.1 k hk) (hfit _ hv0).1 (hfit _ hv0).2
    refine W.putFinK hf.1 hf.2.1 hf.2.2.2.1 (hf.2.2.2.2.1 _ hl) (by rw [hs] at hi; exact hi) hst hcf (hf.2.2.2.2.2.2.2.2 hini) (by rw [q2]; exact h6) q1 q3 (by rw [hsl]; exact k2_hasslot (q4 k hk)) rfl rfl hd fun H' e1 e2 e3 => ?_
    rw [hsl] at e1 ⊢
    refine h2 n0 z0 a' b' p e s m args below meth c H' _ lc _ hf hll hvs' ?_ ?_
    · refine xa_rel_set hrel hn e2 e3 (Or.inr ⟨ci, C, T, hkd, by show vwCl[ci]? = some (C, T, (xk h n).2); rw [hN]; exact xc.1, updV FF k c0, ?_, ?_⟩)
      · show t_OB _ _ (xk h n).2 _ _ _
        rw [hN]
        exact ⟨_, e1, q2, q3, t_set q4 hap hk c0⟩
      · intro j hj
        have hj : j < N := by rw [← hN]; exact hj
        by_cases e : j = k
        · subst e
          simp only [updV, if_pos, xm, xset]
          simp only [and_self, if_true]
          rw [ht]
          exact hv0
        · simp only [updV, if_neg e]
          have : xm (xset h n k v) n j = xm h n j := by simp [xm, xset, e]
          rw [this]
          exact hvals j hj
    · intro q hq'
      rcases List.mem_append.mp hq' with hq' | hq'
      · exact hq q hq'
      · simp at hq'
        subst hq'
        exact Nat.le_add_right _ _
  · rw [if_neg hok] at ho
    simp at ho
theorem xa_fitI {v : Int} (c : Value) (hv : xa_v G (xI v) c) : narrow .int c = c ∧ fits .int c = true := by
  obtain ⟨x, rfl, -⟩ := hv
  exact ⟨rfl, rfl⟩
theorem xa_fitL {v : Int} (c : Value) (hv : xa_v G (xL v) c) : narrow .long c = c ∧ fits .long c = true := by
  obtain ⟨x, rfl, -⟩ := hv
  exact ⟨rfl, rfl⟩
theorem xa_fitZ {v : Int} (hz : v = 0 ∨ v = 1) (c : Value) (hv : xa_v G (xI v) c) : narrow .boolean c = c ∧ fits .boolean c = true := by
  obtain ⟨x, rfl, hx⟩ := hv
  rcases hz with e | e
  · have e2 : x = 0 := (xa_ieq x 0).mpr (by rw [← hx]; exact e)
    rw [e2]; exact ⟨rfl, rfl⟩
  · have e2 : x = 1 := (xa_ieq x 1).mpr (by rw [← hx]; exact e)
    rw [e2]; exact ⟨rfl, rfl⟩
theorem xa_fitO {v : Int} {n : String} (c : Value) (hv : xa_v G (xR v) c) : narrow (.object n) c = c ∧ fits (.object n) c = true := by
  rcases xa_rr hv with rfl | ⟨a, rfl⟩
  · exact ⟨rfl, rfl⟩
  · exact ⟨rfl, rfl⟩
theorem xa_fitA {v : Int} {t : FieldType} (c : Value) (hv : xa_v G (xR v) c) : narrow (.array t) c = c ∧ fits (.array t) c = true := by
  rcases xa_rr hv with rfl | ⟨a, rfl⟩
  · exact ⟨rfl, rfl⟩
  · exact ⟨rfl, rfl⟩
end XR3
