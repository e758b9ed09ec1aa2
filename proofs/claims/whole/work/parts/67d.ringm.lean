/-! ===== a ring of the reference ===== -/
def DM (a k : Nat) : Bool := a == 247 || (a == 173 && (k == 49 || k == 51 || k == 52 || k == 53 || k == 54 || k == 104))
def DM7 (a k : Nat) : Bool := DM a k || (a == 173 && k == 57)
theorem DM_nf : nofix DM := by unfold nofix; decide +kernel
theorem DM7_nf : nofix DM7 := by unfold nofix; decide +kernel
theorem DM_DM7 {g g' : xa_H} (e : Fx DM g g') : Fx DM7 g g' := e.mono fun x k q => by
  unfold DM7 at q
  simp only [Bool.or_eq_false_iff] at q
  exact q.1
theorem DW_DM {g g' : xa_H} (e : Fx DW g g') : Fx DM g g' := e.mono fun x k q => by
  unfold DM at q
  unfold DW
  simp at q ⊢
  omega
theorem MV.fx {D : Nat → Nat → Bool} {h G G' : xa_H} (Q : MV h G) (e : Fx D G G') (hd : nofix D) (d : ∀ a k, 199 ≤ a → a ≤ 211 → D a k = false) : MV h G' := by
  refine ⟨e.sh hd Q.1, fun a k q => ?_⟩
  rw [e.2.2.2 a k (d a k (by omega) (by omega))]
  exact Q.2 a k q
theorem DM_ne {a k : Nat} (h : a ≠ 173) (h2 : a ≠ 247) : DM a k = false := by
  unfold DM
  simp [h, h2]
theorem DM7_ne {a k : Nat} (h : a ≠ 173) (h2 : a ≠ 247) : DM7 a k = false := by
  unfold DM7 DM
  simp [h, h2]
theorem MV.dm {h G G' : xa_H} (Q : MV h G) (e : Fx DM G G') : MV h G' := Q.fx e DM_nf (fun a k _ _ => DM_ne (by omega) (by omega))
theorem ST.dm {H G G' : xa_H} {n m : Nat} (R : ST H G n m) (e : ∀ k, xm G' 212 k = xm G 212 k) : ST H G' n m := by
  obtain ⟨r, v⟩ := R
  unfold ST RSt2 VS at *
  simp only [e]
  exact ⟨r, v⟩
theorem mr_salt {h G : xa_H} (Q : MV h G) {b : Nat} (hb : b < 6) : xal G 0 201 ((6 + b : Nat) : Int) = some (xm h 201 (6 + b)) := xal_eq (a := 201) (ia_201 Q.1 (by omega) (by omega)) (Q.2 201 _ (by omega))
theorem m_asksOf {h H G0 G : xa_H} {s F1 F2 n m : Nat} (K : KX h s F1 F2 n m) (Q : MV h G0) (R : ST H G0 n m) (Z : Fx DM G0 G) {A B : Nat} (hA : A < n) (hB : B < n) :
    ∃ G', f_X12_asksOf 173 (A : Int) (B : Int) G = some G' ∧ Fx DM G0 G' ∧ xm G' 173 49 = 1 ∧ xm G' 173 51 = fr h G0 A B 0 ∧ xm G' 173 52 = fr h G0 A B 2 ∧ xm G' 173 53 = fr h G0 A B 3 ∧ xm G' 173 54 = fr h G0 A B 4 := by
  have C := K.1
  have n6 := rc_n C
  have m6 := rc_m C
  have en := K.2.2.2.2.1
  have em := K.2.2.2.2.2
  have vB := sv_has R hB
  obtain ⟨b, eb⟩ : ∃ b : Nat, xm G0 212 (1 + 9 * B) = (b : Int) := ⟨(xm G0 212 (1 + 9 * B)).toNat, by omega⟩
  have QG := Q.dm Z
  have S := QG.1
  have e12 : ∀ {X}, Fx DM G0 X → ∀ k, xm X 212 k = xm G0 212 k := fun e k => e.2.2.2 212 k (DM_ne (by omega) (by omega))
  obtain ⟨B1, f1⟩ : ∃ z, z = xset G 173 51 (xm h 206 (36 + (A * 6 + b))) := ⟨_, rfl⟩
  obtain ⟨B2, f2⟩ : ∃ z, z = xset B1 173 52 (if xm G0 212 (1 + 9 * A + 1) = (b : Int) then 1 else 0) := ⟨_, rfl⟩
  obtain ⟨B3, f3⟩ : ∃ z, z = xset B2 173 53 (xm h 201 (6 + b)) := ⟨_, rfl⟩
  obtain ⟨B4, f4⟩ : ∃ z, z = xset B3 173 54 (xm G0 212 (1 + 9 * A + 3 + B)) := ⟨_, rfl⟩
  obtain ⟨B5, f5⟩ : ∃ z, z = xset B4 173 49 1 := ⟨_, rfl⟩
  have z1 : Fx DM G0 B1 := by rw [f1]; exact Z.set rfl
  have z2 : Fx DM G0 B2 := by rw [f2]; exact z1.set rfl
  have z3 : Fx DM G0 B3 := by rw [f3]; exact z2.set rfl
  have z4 : Fx DM G0 B4 := by rw [f4]; exact z3.set rfl
  have z5 : Fx DM G0 B5 := by rw [f5]; exact z4.set rfl
  have q1 := Q.dm z1
  have q2 := Q.dm z2
  have q3 := Q.dm z3
  have q4 := Q.dm z4
  have J : ∀ z, z = (if xm G0 212 (1 + 9 * A + 1) = (b : Int) then (1 : Int) else 0) → f_X12_asksOf_J32 173 (A : Int) (B : Int) (b : Int) 173 z B1 = some B5 := by
    intro z hz
    unfold f_X12_asksOf_J32
    rw [pMf q1.1, hz, ← f2, gM q2.1, pt_173_36 q2.1, wP6 (by omega), mr_salt q2 (by omega), bbind, pMf q2.1, ← f3, xM q3.1, m_met q3.1 (e12 z3) (by omega) (by omega), bbind, pMf q3.1, ← f4, pMf q4.1, ← f5]
  refine ⟨B5, ?_, z5, ?_, ?_, ?_, ?_, ?_⟩
  · unfold f_X12_asksOf
    rw [xM S, m_had S (e12 Z) (by omega) eb, bbind, xM S, m_value S (fun k hk => QG.2 206 k (by omega)) (by omega) (by omega), bbind, pMf S, ← f1, xM q1.1, m_want q1.1 (e12 z1) (by omega), bbind]
    by_cases y : xm G0 212 (1 + 9 * A + 1) = (b : Int)
    · rw [if_pos y]
      exact J 1 (by rw [if_pos y])
    · rw [if_neg y]
      exact J 0 (by rw [if_neg y])
  · rw [f5, xm_xset, if_pos ⟨rfl, rfl⟩]
  · rw [fr_0 eb, f5, xm_xset, if_neg (by omega), f4, xm_xset, if_neg (by omega), f3, xm_xset, if_neg (by omega), f2, xm_xset, if_neg (by omega), f1, xm_xset, if_pos ⟨rfl, rfl⟩]
  · rw [fr_2 eb, f5, xm_xset, if_neg (by omega), f4, xm_xset, if_neg (by omega), f3, xm_xset, if_neg (by omega), f2, xm_xset, if_pos ⟨rfl, rfl⟩]
  · rw [fr_3 eb, f5, xm_xset, if_neg (by omega), f4, xm_xset, if_neg (by omega), f3, xm_xset, if_pos ⟨rfl, rfl⟩]
  · rw [fr_4, f5, xm_xset, if_neg (by omega), f4, xm_xset, if_pos ⟨rfl, rfl⟩]
theorem m_part2 {h H G0 G : xa_H} {s F1 F2 n m : Nat} (K : KX h s F1 F2 n m) (Q : MV h G0) (R : ST H G0 n m) (Z : Fx DM G0 G) {A B : Nat} (hA : A < n) (x49 : xm G 173 49 = 1) (x51 : xm G 173 51 = fr h G0 A B 0) (x52 : xm G 173 52 = fr h G0 A B 2) (x53 : xm G 173 53 = fr h G0 A B 3) (x54 : xm G 173 54 = fr h G0 A B 4) {j : Nat} (hj : j < 7) : f_X12_qPartOf 173 (j : Int) (A : Int) G = some (fr h G0 A B j) := by
  have C := K.1
  have n6 := rc_n C
  have m6 := rc_m C
  have en := K.2.2.2.2.1
  have em := K.2.2.2.2.2
  have QG := Q.dm Z
  have S := QG.1
  have e2 : ∀ k, xm G 212 k = xm G0 212 k := fun k => Z.2.2.2 212 k (DM_ne (by omega) (by omega))
  have vA := sv_has R hA
  obtain ⟨a, ea⟩ : ∃ a : Nat, xm G0 212 (1 + 9 * A) = (a : Int) := ⟨(xm G0 212 (1 + 9 * A)).toNat, by omega⟩
  have : j = 0 ∨ j = 1 ∨ j = 2 ∨ j = 3 ∨ j = 4 ∨ j = 5 ∨ j = 6 := by omega
  unfold f_X12_qPartOf
  rcases this with rfl | rfl | rfl | rfl | rfl | rfl | rfl
  · rw [if_pos (by decide), gM S, x51]
  · rw [if_neg (by decide), if_pos (by decide), xM S, m_had S e2 (by omega) ea, bbind, xM S, m_value S (fun k hk => QG.2 206 k (by omega)) (by omega) (by omega), bbind, fr_1 ea]
  · rw [if_neg (by decide), if_neg (by decide), if_pos (by decide), gM S, x49, if_neg (by decide), gM S, x52]
  · rw [if_neg (by decide), if_neg (by decide), if_neg (by decide), if_pos (by decide), gM S, x49, if_neg (by decide), gM S, x53]
  · rw [if_neg (by decide), if_neg (by decide), if_neg (by decide), if_neg (by decide), if_pos (by decide), gM S, x54]
  · rw [if_neg (by decide), if_neg (by decide), if_neg (by decide), if_neg (by decide), if_neg (by decide), if_pos (by decide), xM S, m_purse S e2 (by omega), bbind, fr_5]
  · have i1 : xia G 0 212 ((0 : Nat) : Int) = true := ia_212 S (by omega) (by omega)
    rw [if_neg (by decide), if_neg (by decide), if_neg (by decide), if_neg (by decide), if_neg (by decide), if_neg (by decide), if_pos (by decide), gM S, pt_173_50 S, fr_6]
    exact (bnd (xal_eq (a := 212) i1 (e2 0))).trans rfl
/-- in the reference: a formula of the case -/
theorem m_fw {h H G0 G : xa_H} {s F1 F2 n m w F : Nat} (K : KX h s F1 F2 n m) (Q : MV h G0) (R : ST H G0 n m) (Z : Fx DM G0 G) (hw : w < 2) (o : RFo h s w F) (h9 : xm h 209 (2 + w) ≠ -1) {A B : Nat} (hA : A < n) (hB : B < n) :
    ∃ G', ((xrc G 12 173 (f_X12_asksOf 173 (A : Int) (B : Int) G)).bind fun r4 => xrc r4 12 173 (f_X12_codesTell 173 (w : Int) (A : Int) r4)) = some (fv h w (fr h G0 A B), G') ∧ Fx DM G0 G' := by
  obtain ⟨G1, a1, a2, a3, a4, a5, a6, a7⟩ := m_asksOf K Q R Z hA hB
  have Q1 := Q.dm a2
  have S1 := Q1.1
  rcases o with ⟨o1, o2⟩ | ⟨o1, o2, L, a, o3, o4, o5, o6, o7, o8⟩
  · exact absurd o2 h9
  · have hf := fr_ok K.1 K.2.2.2.2.1 K.2.2.2.2.2 R hA hB
    have ok := vrun_ok (q := false) hf L (fun i hi => (o7 i hi).2) o8
    obtain ⟨v, ev⟩ : ∃ v, vrun (fr h G0 A B) (fun i => xm h 211 (1600 + a + i)) L = [v] := by
      match e : vrun (fr h G0 A B) (fun i => xm h 211 (1600 + a + i)) L, ok with
      | [v], ok => exact ⟨v, rfl⟩
      | _ :: _ :: _, ok => exact ok.2.elim
    have tell := m_codesTell (w := (A : Int)) (c := fun i => xm h 211 (1600 + a + i)) S1 hf hw ((Q1.2 209 _ (by omega)).trans o4) ((Q1.2 210 _ (by omega)).trans o5) o6 (fun i hi => ⟨Q1.2 211 _ (by omega), (o7 i hi).2⟩) o8 ev (fun H2 e2 j hj => m_part2 K Q R (a2.tr (DW_DM e2)) hA ((e2.2.2.2 173 49 rfl).trans a3) ((e2.2.2.2 173 51 rfl).trans a4) ((e2.2.2.2 173 52 rfl).trans a5) ((e2.2.2.2 173 53 rfl).trans a6) ((e2.2.2.2 173 54 rfl).trans a7) hj)
    refine ⟨_, ?_, a2.tr (DW_DM (rH_f G1 (fr h G0 A B) (fun i => xm h 211 (1600 + a + i)) L))⟩
    rw [xM (Q.dm Z).1, a1, bbind, show xrc G1 12 173 (f_X12_codesTell 173 (w : Int) (A : Int) G1) = f_X12_codesTell 173 (w : Int) (A : Int) G1 from if_pos (ok_173 S1), tell]
    have FV : fv h w (fr h G0 A B) = if xm h 209 (2 + w) = -1 then (if w = 0 then 1 else 0) else (vrun (fr h G0 A B) (fun i => xm h 211 (1600 + (xm h 209 (2 + w)).toNat + i)) (xm h 210 (2 + w) - xm h 209 (2 + w)).toNat).headD 0 := rfl
    rw [FV, if_neg (by omega), o4, o5, Int.toNat_natCast, show (((a + L : Nat) : Int) - (a : Int)).toNat = L by omega, ev]
    rfl
theorem m_swap {h H G0 G : xa_H} {s F1 F2 n m : Nat} (K : KX h s F1 F2 n m) (Q : MV h G0) (R : ST H G0 n m) (Z : Fx DM G0 G) {A B : Nat} (hA : A < n) (hB : B < n) :
    ∃ G', f_X12_doesSwap 173 (A : Int) (B : Int) G = some (if fv h 0 (fr h G0 A B) = 0 then 0 else 1, G') ∧ Fx DM G0 G' := by
  have QG := Q.dm Z
  have S := QG.1
  have i9 : xia G 0 209 ((2 : Nat) : Int) = true := ia_209 S (by omega) (by omega)
  have o := K.2.1.1
  have fo := fv_ok (by omega) o (fr_ok K.1 K.2.2.2.2.1 K.2.2.2.2.2 R hA hB)
  unfold okv1 at fo
  rw [if_pos (by decide)] at fo
  unfold f_X12_doesSwap
  by_cases y : xm h 209 2 = -1
  · have f0 : fv h 0 (fr h G0 A B) = 1 := by
      unfold fv
      rw [if_pos y, if_pos rfl]
    refine ⟨G, ?_, Z⟩
    rw [gM S, pt_173_44 S]
    refine (bnd (xal_eq (a := 209) (v := -1) i9 ((QG.2 209 2 (by omega)).trans y))).trans ?_
    rw [if_pos rfl, f0, if_neg (by decide)]
  · obtain ⟨G', e1, e2⟩ := m_fw K Q R Z (by omega) o y hA hB
    refine ⟨G', ?_, e2⟩
    rw [gM S, pt_173_44 S]
    refine (bnd (xal_eq (a := 209) i9 (QG.2 209 2 (by omega)))).trans ?_
    rw [if_neg y]
    have e1' : ((xrc G 12 173 (f_X12_asksOf 173 (A : Int) (B : Int) G)).bind fun r4 => (xrc r4 12 173 (f_X12_codesTell 173 0 (A : Int) r4)).bind fun r5 => if xcmp r5.1 1 = 0 then some ((1 : Int), r5.2) else some ((0 : Int), r5.2)) = (((xrc G 12 173 (f_X12_asksOf 173 (A : Int) (B : Int) G)).bind fun r4 => xrc r4 12 173 (f_X12_codesTell 173 ((0 : Nat) : Int) (A : Int) r4)).bind fun r5 => if xcmp r5.1 1 = 0 then some ((1 : Int), r5.2) else some ((0 : Int), r5.2)) := by
      cases xrc G 12 173 (f_X12_asksOf 173 (A : Int) (B : Int) G) <;> rfl
    rw [e1', e1, bbind]
    by_cases z : fv h 0 (fr h G0 A B) = 0
    · rw [if_pos z, if_neg (fun c => by have := cmp_eq.mp c; omega)]
    · rw [if_neg z, if_pos (cmp_eq.mpr (by omega))]
theorem m_pays {h H G0 G : xa_H} {s F1 F2 n m : Nat} (K : KX h s F1 F2 n m) (Q : MV h G0) (R : ST H G0 n m) (Z : Fx DM G0 G) {A B : Nat} (hA : A < n) (hB : B < n) :
    ∃ G', f_X12_paysOf 173 (A : Int) (B : Int) G = some (max 0 (min 999 (fv h 1 (fr h G0 A B))), G') ∧ Fx DM G0 G' := by
  have QG := Q.dm Z
  have S := QG.1
  have i9 : xia G 0 209 ((3 : Nat) : Int) = true := ia_209 S (by omega) (by omega)
  have o := K.2.1.2.1
  have fo := fv_ok (by omega) o (fr_ok K.1 K.2.2.2.2.1 K.2.2.2.2.2 R hA hB)
  unfold okv1 at fo
  rw [if_neg (by decide)] at fo
  unfold f_X12_paysOf
  by_cases y : xm h 209 3 = -1
  · have f0 : fv h 1 (fr h G0 A B) = 0 := by
      unfold fv
      rw [if_pos y, if_neg (by decide)]
    refine ⟨G, ?_, Z⟩
    rw [gM S, pt_173_44 S]
    refine (bnd (xal_eq (a := 209) (v := -1) i9 ((QG.2 209 3 (by omega)).trans y))).trans ?_
    rw [if_pos rfl, f0]
    rfl
  · obtain ⟨G', e1, e2⟩ := m_fw K Q R Z (by omega) o y hA hB
    refine ⟨G', ?_, e2⟩
    rw [gM S, pt_173_44 S]
    refine (bnd (xal_eq (a := 209) i9 (QG.2 209 3 (by omega)))).trans ?_
    rw [if_neg y]
    have e1' : ((xrc G 12 173 (f_X12_asksOf 173 (A : Int) (B : Int) G)).bind fun r4 => (xrc r4 12 173 (f_X12_codesTell 173 1 (A : Int) r4)).bind fun r5 => if xcmp r5.1 0 < 0 then some ((0 : Int), r5.2) else if 0 < xcmp r5.1 999 then some ((999 : Int), r5.2) else some (w32 r5.1, r5.2)) = (((xrc G 12 173 (f_X12_asksOf 173 (A : Int) (B : Int) G)).bind fun r4 => xrc r4 12 173 (f_X12_codesTell 173 ((1 : Nat) : Int) (A : Int) r4)).bind fun r5 => if xcmp r5.1 0 < 0 then some ((0 : Int), r5.2) else if 0 < xcmp r5.1 999 then some ((999 : Int), r5.2) else some (w32 r5.1, r5.2)) := by
      cases xrc G 12 173 (f_X12_asksOf 173 (A : Int) (B : Int) G) <;> rfl
    rw [e1', e1, bbind]
    by_cases z : fv h 1 (fr h G0 A B) < 0
    · rw [if_pos (cmp_lt.mpr z), show max 0 (min 999 (fv h 1 (fr h G0 A B))) = 0 by omega]
    · rw [if_neg (fun c => z (cmp_lt.mp c))]
      by_cases z2 : 999 < fv h 1 (fr h G0 A B)
      · rw [if_pos (cmp_gt.mpr z2), show max 0 (min 999 (fv h 1 (fr h G0 A B))) = 999 by omega]
      · rw [if_neg (fun c => z2 (cmp_gt.mp c)), w32_id (by omega) (by omega), show max 0 (min 999 (fv h 1 (fr h G0 A B))) = fv h 1 (fr h G0 A B) by omega]
