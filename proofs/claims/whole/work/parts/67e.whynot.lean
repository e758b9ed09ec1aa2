/-! ===== a ring judged by the reference ===== -/
def RMd (G : xa_H) (n r : Nat) (ρ : Nat → Nat) : Prop := (2 ≤ r ∧ r ≤ 6) ∧ xm G 173 56 = (r : Int) ∧ ∀ i, i < r → xm G 213 i = (ρ i : Int) ∧ ρ i < n
theorem RMd.fx {D : Nat → Nat → Bool} {G G' : xa_H} {n r : Nat} {ρ : Nat → Nat} (M : RMd G n r ρ) (e : Fx D G G') (d1 : D 173 56 = false) (d2 : ∀ k, D 213 k = false) : RMd G' n r ρ := ⟨M.1, (e.2.2.2 _ _ d1).trans M.2.1, fun i hi => ⟨(e.2.2.2 _ _ (d2 i)).trans (M.2.2 i hi).1, (M.2.2 i hi).2⟩⟩
theorem RMd.dm {G G' : xa_H} {n r : Nat} {ρ : Nat → Nat} (M : RMd G n r ρ) (e : Fx DM G G') : RMd G' n r ρ := M.fx e rfl (fun _ => rfl)
theorem tm_nxt {r i : Nat} (hi : i < r) (h6 : r ≤ 6) : Int.tmod (w32 ((i : Int) + 1)) (r : Int) = ((nxt r i : Nat) : Int) := by
  rw [wS (by omega), ← Int.ofNat_tmod]
  unfold nxt
  by_cases y : i + 1 < r
  · rw [if_pos y, Nat.mod_eq_of_lt y]
  · rw [if_neg y, show i + 1 = r by omega, Nat.mod_self]
theorem tm_prv {r i : Nat} (hi : i < r) (h6 : r ≤ 6) : Int.tmod (w32 (w32 ((i : Int) + (r : Int)) - 1)) (r : Int) = ((prv r i : Nat) : Int) := by
  rw [wAd (by omega), wM1 (by omega), show ((i + r : Nat) : Int) - 1 = ((i + r - 1 : Nat) : Int) by omega, ← Int.ofNat_tmod]
  unfold prv
  by_cases y : i = 0
  · rw [if_pos y, y, Nat.zero_add, Nat.mod_eq_of_lt (by omega)]
  · rw [if_neg y, show i + r - 1 = (i - 1) + r by omega, Nat.add_mod_right, Nat.mod_eq_of_lt (by omega)]
theorem m_mem {G : xa_H} {n r : Nat} {ρ : Nat → Nat} (S : SH G) (M : RMd G n r ρ) {i : Nat} (hi : i < r) : xal G 0 213 (i : Int) = some (ρ i : Int) := xal_eq (a := 213) (ia_213 S (by omega) (by have := M.1; omega)) (M.2.2 i hi).1
theorem m_giver {G : xa_H} {n r : Nat} {ρ : Nat → Nat} (S : SH G) (M : RMd G n r ρ) {i : Nat} (hi : i < r) : f_X12_giverOf 173 (i : Int) G = some (ρ (prv r i) : Int) := by
  have r6 := M.1
  unfold f_X12_giverOf
  rw [gM S, pt_173_55 S, gM S, M.2.1, gM S, M.2.1, exnz, if_neg (by omega), tm_prv hi (by omega), m_mem S M (prv_lt hi), bbind]
theorem m_feud {h G : xa_H} (Q : MV h G) {A B : Nat} (hA : A < 6) : f_X12_areFeud 173 (A : Int) (B : Int) G = some (if xand (xshr (xm h 207 (6 + A)) (B : Int)) 1 = 1 then 1 else 0) := by
  have S := Q.1
  unfold f_X12_areFeud
  rw [gM S, pt_173_42 S, wP6 (by omega)]
  refine (bnd (xal_eq (a := 207) (ia_207 S (by omega) (by omega)) (Q.2 207 _ (by omega)))).trans ?_
  split <;> rfl
theorem fsm_stay {ρ : Nat → Nat} {p : Nat → Bool} {i : Nat} (h : fsm ρ p i ≠ -1) : ∀ t, fsm ρ p (i + t) = fsm ρ p i
  | 0 => rfl
  | t + 1 => by
    show (if fsm ρ p (i + t) = -1 then (if p (i + t) = true then (ρ (i + t) : Int) else -1) else fsm ρ p (i + t)) = _
    rw [fsm_stay h t, if_neg h]
theorem fsm_hit {ρ : Nat → Nat} {p : Nat → Bool} {i r : Nat} (hi : i < r) (h : fsm ρ p i = -1) (hp : p i = true) : fsm ρ p r = (ρ i : Int) := by
  have e : fsm ρ p (i + 1) = (ρ i : Int) := by
    show (if fsm ρ p i = -1 then (if p i = true then (ρ i : Int) else -1) else fsm ρ p i) = _
    rw [if_pos h, if_pos hp]
  have := fsm_stay (ρ := ρ) (p := p) (i := i + 1) (by rw [e]; omega) (r - (i + 1))
  rw [show i + 1 + (r - (i + 1)) = r by omega, e] at this
  exact this
theorem fsm_miss {ρ : Nat → Nat} {p : Nat → Bool} {i : Nat} (h : fsm ρ p i = -1) (hp : ¬ p i = true) : fsm ρ p (i + 1) = -1 := by
  show (if fsm ρ p i = -1 then (if p i = true then (ρ i : Int) else -1) else fsm ρ p i) = _
  rw [if_pos h, if_neg hp]
theorem y_7 {h G : xa_H} {n r : Nat} {ρ : Nat → Nat} (Q : MV h G) (hn : n ≤ 6) (M : RMd G n r ρ) : ∀ t i, i + t = r → fsm ρ (rFe h r ρ) i = -1 → ∀ fu, t < fu →
    xit (fun s => f_X12_whyNot_L7 173 s.1 s.2) fu ((i : Int), G) = some (if fsm ρ (rFe h r ρ) r = -1 then .inr G else .inl (1, xset G 173 57 (fsm ρ (rFe h r ρ) r))) := by
  have S := Q.1
  have r6 := M.1
  intro t
  induction t with
  | zero =>
    intro i hit hi fu hf
    have : i = r := by omega
    subst this
    refine xit_end ?_ hf
    show f_X12_whyNot_L7 173 (i : Int) G = _
    unfold f_X12_whyNot_L7
    rw [gM S, M.2.1, if_neg (by omega), if_pos hi]
  | succ t ih =>
    intro i hit hi fu hf
    obtain ⟨fu, rfl⟩ : ∃ z, fu = z + 1 := ⟨fu - 1, by omega⟩
    have ir : i < r := by omega
    have nl := nxt_lt ir
    have hA := (M.2.2 i ir).2
    have st : f_X12_whyNot_L7 173 (i : Int) G = if rFe h r ρ i = true then some (.inr (.inl (1, xset G 173 57 (ρ i : Int)))) else some (.inl (((i + 1 : Nat) : Int), G)) := by
      unfold f_X12_whyNot_L7
      rw [gM S, M.2.1, if_pos (by omega), gM S, pt_173_55 S, m_mem S M ir, bbind, gM S, pt_173_55 S, gM S, M.2.1, exnz, if_neg (by omega), tm_nxt ir (by omega), m_mem S M nl, bbind, xM S, m_feud Q (by omega), bbind, iff01]
      unfold rFe
      by_cases z : xand (xshr (xm h 207 (6 + ρ i)) ((ρ (nxt r i) : Nat) : Int)) 1 = 1
      · rw [if_pos z, decide_eq_true z, if_pos rfl, gM S, pt_173_55 S, m_mem S M ir, bbind, pMf S]
      · rw [if_neg z, decide_eq_false z, if_neg (by decide), wS (by omega)]
    by_cases y : rFe h r ρ i = true
    · have fh := fsm_hit ir hi y
      rw [if_pos y] at st
      rw [fh, if_neg (by omega)]
      exact xit_end st (by omega)
    · rw [if_neg y] at st
      rw [← ih (i + 1) (by omega) (fsm_miss hi y) fu (by omega)]
      exact xit_go st
theorem y_61 {h H G0 : xa_H} {s F1 F2 n m r : Nat} {ρ : Nat → Nat} (K : KX h s F1 F2 n m) (Q : MV h G0) (R : ST H G0 n m) (M : RMd G0 n r ρ) : ∀ t i, i + t = r → fsm ρ (rSw h G0 r ρ) i = -1 → ∀ G, Fx DM G0 G → ∀ fu, t < fu →
    ∃ G', xit (fun s => f_X12_whyNot_L61 173 s.1 s.2) fu ((i : Int), G) = some (if fsm ρ (rSw h G0 r ρ) r = -1 then .inr G' else .inl (2, xset G' 173 57 (fsm ρ (rSw h G0 r ρ) r))) ∧ Fx DM G0 G' := by
  have r6 := M.1
  intro t
  induction t with
  | zero =>
    intro i hit hi G Z fu hf
    have S := (Q.dm Z).1
    have MG := M.dm Z
    have : i = r := by omega
    subst this
    refine ⟨G, xit_end ?_ hf, Z⟩
    show f_X12_whyNot_L61 173 (i : Int) G = _
    unfold f_X12_whyNot_L61
    rw [gM S, MG.2.1, if_neg (by omega), if_pos hi]
  | succ t ih =>
    intro i hit hi G Z fu hf
    have S := (Q.dm Z).1
    have MG := M.dm Z
    obtain ⟨fu, rfl⟩ : ∃ z, fu = z + 1 := ⟨fu - 1, by omega⟩
    have ir : i < r := by omega
    have pl := prv_lt ir
    have hA := (M.2.2 i ir).2
    have hB := (M.2.2 _ pl).2
    obtain ⟨G1, e1, e2⟩ := m_swap K Q R Z hA hB
    have S1 := (Q.dm e2).1
    have M1 := M.dm e2
    have st : f_X12_whyNot_L61 173 (i : Int) G = if rSw h G0 r ρ i = true then some (.inr (.inl (2, xset G1 173 57 (ρ i : Int)))) else some (.inl (((i + 1 : Nat) : Int), G1)) := by
      unfold f_X12_whyNot_L61
      rw [gM S, MG.2.1, if_pos (by omega), gM S, pt_173_55 S, m_mem S MG ir, bbind, xM S, m_giver S MG ir, bbind, xM S, e1, bbind]
      unfold rSw rFr
      by_cases z : fv h 0 (fr h G0 (ρ i) (ρ (prv r i))) = 0
      · rw [if_pos z, if_pos rfl, decide_eq_true z, if_pos rfl, gM S1, pt_173_55 S1, m_mem S1 M1 ir, bbind, pMf S1]
      · rw [if_neg z, if_neg one_ne, decide_eq_false z, if_neg (by decide), wS (by omega)]
    by_cases y : rSw h G0 r ρ i = true
    · have fh := fsm_hit ir hi y
      rw [if_pos y] at st
      refine ⟨G1, ?_, e2⟩
      rw [fh, if_neg (by omega)]
      exact xit_end st (by omega)
    · rw [if_neg y] at st
      obtain ⟨G', x1, x2⟩ := ih (i + 1) (by omega) (fsm_miss hi y) G1 e2 fu (by omega)
      exact ⟨G', by rw [← x1]; exact xit_go st, x2⟩
theorem y_107 {h H G0 : xa_H} {s F1 F2 n m r : Nat} {ρ : Nat → Nat} (K : KX h s F1 F2 n m) (Q : MV h G0) (R : ST H G0 n m) (M : RMd G0 n r ρ) : ∀ t i, i + t = r → fsm ρ (rPo h G0 r ρ) i = -1 → ∀ G, Fx DM G0 G → ∀ fu, t < fu →
    ∃ G', xit (fun s => f_X12_whyNot_L107 173 s.1 s.2) fu ((i : Int), G) = some (if fsm ρ (rPo h G0 r ρ) r = -1 then .inr G' else .inl (3, xset G' 173 57 (fsm ρ (rPo h G0 r ρ) r))) ∧ Fx DM G0 G' := by
  have r6 := M.1
  have n6 := rc_n K.1
  have en := K.2.2.2.2.1
  intro t
  induction t with
  | zero =>
    intro i hit hi G Z fu hf
    have S := (Q.dm Z).1
    have MG := M.dm Z
    have : i = r := by omega
    subst this
    refine ⟨G, xit_end ?_ hf, Z⟩
    show f_X12_whyNot_L107 173 (i : Int) G = _
    unfold f_X12_whyNot_L107
    rw [gM S, MG.2.1, if_neg (by omega), if_pos hi]
  | succ t ih =>
    intro i hit hi G Z fu hf
    have S := (Q.dm Z).1
    have MG := M.dm Z
    obtain ⟨fu, rfl⟩ : ∃ z, fu = z + 1 := ⟨fu - 1, by omega⟩
    have ir : i < r := by omega
    have pl := prv_lt ir
    have hA := (M.2.2 i ir).2
    have hB := (M.2.2 _ pl).2
    obtain ⟨G1, e1, e2⟩ := m_pays K Q R Z hA hB
    have S1 := (Q.dm e2).1
    have M1 := M.dm e2
    have st : f_X12_whyNot_L107 173 (i : Int) G = if rPo h G0 r ρ i = true then some (.inr (.inl (3, xset G1 173 57 (ρ i : Int)))) else some (.inl (((i + 1 : Nat) : Int), G1)) := by
      unfold f_X12_whyNot_L107
      rw [gM S, MG.2.1, if_pos (by omega), gM S, pt_173_55 S, m_mem S MG ir, bbind, xM S, m_giver S MG ir, bbind, xM S, e1, bbind, gM S1, pt_173_55 S1, m_mem S1 M1 ir, bbind, xM S1, m_purse S1 (fun k => e2.2.2.2 212 k (DM_ne (by omega) (by omega))) (by omega), bbind]
      unfold rPo rPy rFr
      by_cases z : xm G0 212 (1 + 9 * ρ i + 2) < max 0 (min 999 (fv h 1 (fr h G0 (ρ i) (ρ (prv r i)))))
      · rw [if_pos z, decide_eq_true z, if_pos rfl, gM S1, pt_173_55 S1, m_mem S1 M1 ir, bbind, pMf S1]
      · rw [if_neg z, decide_eq_false z, if_neg (by decide), wS (by omega)]
    by_cases y : rPo h G0 r ρ i = true
    · have fh := fsm_hit ir hi y
      rw [if_pos y] at st
      refine ⟨G1, ?_, e2⟩
      rw [fh, if_neg (by omega)]
      exact xit_end st (by omega)
    · rw [if_neg y] at st
      obtain ⟨G', x1, x2⟩ := ih (i + 1) (by omega) (fsm_miss hi y) G1 e2 fu (by omega)
      exact ⟨G', by rw [← x1]; exact xit_go st, x2⟩
theorem fr_57 {h G : xa_H} {r : Nat} {ρ : Nat → Nat} {v : Int} : rV h (xset G 173 57 v) r ρ = rV h G r ρ ∧ rW h (xset G 173 57 v) r ρ = rW h G r ρ ∧ rPy h (xset G 173 57 v) r ρ = rPy h G r ρ := by
  have e : ∀ k, xm (xset G 173 57 v) 212 k = xm G 212 k := fun k => by rw [xm_xset, if_neg (by omega)]
  have f : fr h (xset G 173 57 v) = fr h G := by
    funext A B k
    unfold fr
    simp only [e]
  have g1 : rSw h (xset G 173 57 v) r ρ = rSw h G r ρ := by funext i; unfold rSw rFr; rw [f]
  have g2 : rPy h (xset G 173 57 v) r ρ = rPy h G r ρ := by funext i; unfold rPy rFr; rw [f]
  have g3 : rPo h (xset G 173 57 v) r ρ = rPo h G r ρ := by funext i; unfold rPo; rw [g2, e]
  exact ⟨by unfold rV; rw [g1, g3], by unfold rW; rw [g1, g3], g2⟩
theorem m_whyNot {h H G : xa_H} {s F1 F2 n m r : Nat} {ρ : Nat → Nat} (K : KX h s F1 F2 n m) (Q : MV h G) (R : ST H G n m) (M : RMd G n r ρ) : ∃ G', f_X12_whyNot 173 G = some (rV h G r ρ, G') ∧ Fx DM7 G G' ∧ xm G' 173 57 = rW h G r ρ := by
  have S := Q.1
  have r6 := M.1
  have n6 := rc_n K.1
  have en := K.2.2.2.2.1
  obtain ⟨G0, e0⟩ : ∃ z, z = xset G 173 57 (-1) := ⟨_, rfl⟩
  have Z0 : Fx DM7 G G0 := by rw [e0]; exact (Fx.refl _ _).set rfl
  have Q0 : MV h G0 := Q.fx Z0 DM7_nf (fun a k _ _ => DM7_ne (by omega) (by omega))
  have R0 : ST H G0 n m := R.dm (fun k => by rw [e0, xm_xset, if_neg (by omega)])
  have M0 : RMd G0 n r ρ := M.fx Z0 rfl (fun _ => rfl)
  have S0 := Q0.1
  obtain ⟨x1, x2, -⟩ := fr_57 (h := h) (G := G) (r := r) (ρ := ρ) (v := -1)
  rw [← x1, ← x2, ← e0]
  have w57 : xm G0 173 57 = -1 := by rw [e0, xm_xset, if_pos ⟨rfl, rfl⟩]
  have l7 := y_7 (n := n) Q0 (by omega) M0 r 0 (by omega) rfl xFU (by unfold xFU; omega)
  unfold f_X12_whyNot
  rw [pMf S, ← e0]
  have hd : ∀ (E : xa_H → Option (Int × xa_H)), ((xit (fun s => f_X12_whyNot_L7 173 s.1 s.2) xFU (0, G0)).bind fun e15 => xel e15 (fun r => some r) E) = if fsm ρ (rFe h r ρ) r = -1 then E G0 else some (1, xset G0 173 57 (fsm ρ (rFe h r ρ) r)) := fun E => by
    refine (bnd l7).trans ?_
    split <;> rfl
  rw [hd]
  unfold rV rW
  by_cases a : fsm ρ (rFe h r ρ) r = -1
  · rw [if_pos a, if_pos a, if_pos a]
    obtain ⟨G1, l61, Z1⟩ := y_61 K Q0 R0 M0 r 0 (by omega) rfl G0 (Fx.refl _ _) xFU (by unfold xFU; omega)
    have hd2 : ∀ (E : xa_H → Option (Int × xa_H)), ((xit (fun s => f_X12_whyNot_L61 173 s.1 s.2) xFU (0, G0)).bind fun e15 => xel e15 (fun r => some r) E) = if fsm ρ (rSw h G0 r ρ) r = -1 then E G1 else some (2, xset G1 173 57 (fsm ρ (rSw h G0 r ρ) r)) := fun E => by
      refine (bnd l61).trans ?_
      split <;> rfl
    rw [hd2]
    by_cases b : fsm ρ (rSw h G0 r ρ) r = -1
    · rw [if_pos b, if_pos b, if_pos b]
      obtain ⟨G2, l107, Z2⟩ := y_107 K Q0 R0 M0 r 0 (by omega) rfl G1 Z1 xFU (by unfold xFU; omega)
      have hd3 : ∀ (E : xa_H → Option (Int × xa_H)), ((xit (fun s => f_X12_whyNot_L107 173 s.1 s.2) xFU (0, G1)).bind fun e15 => xel e15 (fun r => some r) E) = if fsm ρ (rPo h G0 r ρ) r = -1 then E G2 else some (3, xset G2 173 57 (fsm ρ (rPo h G0 r ρ) r)) := fun E => by
        refine (bnd l107).trans ?_
        split <;> rfl
      rw [hd3]
      by_cases c : fsm ρ (rPo h G0 r ρ) r = -1
      · rw [if_pos c, if_pos c]
        refine ⟨G2, rfl, Z0.tr (DM_DM7 Z2), ?_⟩
        rw [Z2.2.2.2 173 57 rfl, w57, c]
      · rw [if_neg c, if_neg c]
        exact ⟨_, rfl, (Z0.tr (DM_DM7 Z2)).set rfl, by rw [xm_xset, if_pos ⟨rfl, rfl⟩]⟩
    · rw [if_neg b, if_neg b, if_neg b]
      exact ⟨_, rfl, (Z0.tr (DM_DM7 Z1)).set rfl, by rw [xm_xset, if_pos ⟨rfl, rfl⟩]⟩
  · rw [if_neg a, if_neg a, if_neg a]
    exact ⟨_, rfl, Z0.set rfl, by rw [xm_xset, if_pos ⟨rfl, rfl⟩]⟩
