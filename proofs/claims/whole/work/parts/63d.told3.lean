/-! ===== both sides ask for a word, a number, a sign ===== -/
theorem k_word {T : Nat → Int} {L : Nat} {h g : xa_H} {p : Nat} {b : Bool} (P : PQ T L h g p b) {A w : Nat} (hm : (A, w) ∈ wtab) (hw : w < 29) : ∃ v h' g', f_X6_needWord 2 (w : Int) h = some (v, h') ∧ f_X12_asks 173 (A : Int) g = some g' ∧ Fx DC h h' ∧ Fx DN g g' ∧ ((v = 1 ∧ PQ T L h' g' (tk_n T L p b).1 (tk_n T L p b).2) ∨ (v = 0 ∧ PF h' g')) := by
  obtain ⟨P1, P2⟩ := P
  have S := P1.1.1
  have c8 : xm h 2 7 = tk_w T L p b := P1.2.2.2.2.2.2.2
  obtain ⟨g1, e2, F2, o⟩ := s_asks P2 hm hw
  by_cases z : tk_w T L p b = (w : Int)
  · rcases o with ⟨-, R1⟩ | ⟨o1, -⟩
    · obtain ⟨h1, e1, C1, F1⟩ := s_step P1
      refine ⟨1, h1, g1, ?_, e2, F1, DB_DN F2, Or.inl ⟨rfl, C1, R1⟩⟩
      unfold f_X6_needWord
      rw [g2k S, c8, if_pos z, x62 S, e1]
      rfl
    · exact absurd z o1
  · rcases o with ⟨o1, -⟩ | ⟨-, B1⟩
    · exact absurd o1 z
    · obtain ⟨h1, e1, E1, F1⟩ := q_stray P1
      refine ⟨0, h1, g1, ?_, e2, F1, DB_DN F2, Or.inr ⟨rfl, _, E1, B1⟩⟩
      unfold f_X6_needWord
      rw [g2k S, c8, if_neg z, x62 S, e1, bbind, xbo_ok (Or.inl rfl)]
theorem k_num {T : Nat → Int} {L : Nat} {h g : xa_H} {p : Nat} {b : Bool} (P : PQ T L h g p b) {most : Int} (h0 : 0 ≤ most) : ∃ v w h' g', f_X6_needNumber 2 most h = some (v, h') ∧ f_X12_number 173 0 most g = some (w, g') ∧ Fx DC h h' ∧ Fx DN g g' ∧ ((v = w ∧ v ≠ -1 ∧ 0 ≤ v ∧ v ≤ most ∧ PQ T L h' g' (tk_n T L p b).1 (tk_n T L p b).2) ∨ (v = -1 ∧ PF h' g')) := by
  obtain ⟨P1, P2⟩ := P
  obtain ⟨v, h1, e1, F1, o⟩ := q_needNumber P1 most (by omega)
  obtain ⟨w, g1, e2, F2, o2⟩ := s_number P2 most
  refine ⟨v, w, h1, g1, e1, e2, F1, DB_DN F2, ?_⟩
  rcases o with ⟨o1, k, o3, o4, o5⟩ | ⟨e, o1, o3, o4⟩
  · rcases o2 with ⟨-, -, p3, p4⟩ | ⟨e', p1, -⟩
    · have vb := tk_v_b (tk_k_n.mp k).2
      refine Or.inl ⟨by rw [o3, p3], o4, by omega, ?_, o5, p4⟩
      unfold nFt at o1
      rw [if_pos k] at o1
      split at o1
      · cases o1
      · split at o1
        · cases o1
        · omega
    · rw [o1] at p1
      cases p1
  · rcases o2 with ⟨p1, -⟩ | ⟨e', p1, p2⟩
    · rw [o1] at p1
      cases p1
    · rw [o1] at p1
      cases p1
      exact Or.inr ⟨o3, e, o4, p2⟩
theorem k_sign {T : Nat → Int} {L : Nat} {h g : xa_H} {p : Nat} {b : Bool} (P : PQ T L h g p b) {c : Int} (hc : gsg c) : ∃ v h' g', f_X6_needSign 2 c h = some (v, h') ∧ f_X12_asksSign 173 c g = some g' ∧ Fx DC h h' ∧ Fx DN g g' ∧ ((v = 1 ∧ PQ T L h' g' (tk_n T L p b).1 (tk_n T L p b).2 ∧ p < L) ∨ (v = 0 ∧ PF h' g')) := by
  obtain ⟨P1, P2⟩ := P
  have S := P1.1.1
  have c3 : xm h 2 3 = tk_k T L p b := P1.2.2.2.1
  have c6 : xm h 2 6 = tk_v T L p := P1.2.2.2.2.2.2.1
  obtain ⟨g1, e2, F2, o⟩ := s_asksSign P2 hc
  by_cases z : tk_k T L p b = 3 ∧ T p = c
  · rcases o with ⟨-, R1⟩ | ⟨o1, -⟩
    · obtain ⟨h1, e1, C1, F1⟩ := s_step P1
      refine ⟨1, h1, g1, ?_, e2, F1, DB_DN F2, Or.inl ⟨rfl, ⟨C1, R1⟩, (tk_k_s.mp z.1).1⟩⟩
      unfold f_X6_needSign
      rw [g2k S, c3, if_pos z.1, g2k S, c6, tk_v_s z.1, if_pos z.2, x62 S, e1]
      rfl
    · exact absurd z o1
  · rcases o with ⟨o1, -⟩ | ⟨-, B1⟩
    · exact absurd o1 z
    · obtain ⟨h1, e1, E1, F1⟩ := q_stray P1
      refine ⟨0, h1, g1, ?_, e2, F1, DB_DN F2, Or.inr ⟨rfl, _, E1, B1⟩⟩
      unfold f_X6_needSign f_X6_needSign_J16
      by_cases y : tk_k T L p b = 3
      · rw [g2k S, c3, if_pos y, g2k S, c6, tk_v_s y, if_neg (fun x => z ⟨y, x⟩), x62 S, e1, bbind, xbo_ok (Or.inl rfl)]
      · rw [g2k S, c3, if_neg y, x62 S, e1, bbind, xbo_ok (Or.inl rfl)]
/-! ===== what a statement leaves ===== -/
/-- cells of the class that a statement may change -/
def GX (S : Nat) (h h' : xa_H) : Prop := (xn h ≤ xn h' ∧ xz h ≤ xz h') ∧ (∀ a, a < xn h → xk h' a = xk h a) ∧ ∀ a k, a < xn h → ¬(a = 2 ∧ 3 ≤ k) → ¬(a = 4 ∧ 2 ≤ k) → a ≠ 5 → (a < S ∨ S + 13 ≤ a) → xm h' a k = xm h a k
/-- cells of the reference that a statement may change -/
def DG (a k : Nat) : Bool := DN a k || (a == 199 && Nat.blt k 3) || (a == 200 && Nat.blt k 12) || ((a == 201 || a == 202 || a == 207) && Nat.blt k 6) || a == 203 || a == 204 || a == 205 || (a == 206 && Nat.blt k 36) || (a == 208 && k == 0)
/-- cells that reading a formula may change -/
def DE (a k : Nat) : Bool := DN a k || (a == 173 && (k == 47 || k == 49 || k == 98 || k == 100 || k == 101 || k == 102)) || ((a == 209 || a == 210) && Nat.blt k 2) || (a == 211 && Nat.blt k 1600) || a == 245 || a == 246
def DF (a k : Nat) : Bool := DG a k || DE a k
theorem DG_nf : nofix DG := by unfold nofix; decide +kernel
theorem DF_nf : nofix DF := by unfold nofix; decide +kernel
theorem DG_DF {g g' : xa_H} (e : Fx DG g g') : Fx DF g g' := e.mono fun x k q => by
  unfold DF at q
  simp only [Bool.or_eq_false_iff] at q
  exact q.1
theorem DE_DF {g g' : xa_H} (e : Fx DE g g') : Fx DF g g' := e.mono fun x k q => by
  unfold DF at q
  simp only [Bool.or_eq_false_iff] at q
  exact q.2
theorem de_ne {a k : Nat} (h : 199 ≤ a ∧ a ≤ 208) : DE a k = false := by
  unfold DE DN DB
  simp
  omega
theorem DN_DG {g g' : xa_H} (e : Fx DN g g') : Fx DG g g' := e.mono fun x k q => by
  unfold DG at q
  simp only [Bool.or_eq_false_iff] at q
  simp only [q]
theorem DC_GX {S : Nat} {h h' : xa_H} (e : Fx DC h h') : GX S h h' := ⟨⟨by rw [e.1]; exact Nat.le_refl _, by rw [e.2.1]; exact Nat.le_refl _⟩, fun a _ => by rw [e.2.2.1], fun a k _ h1 _ _ _ => e.2.2.2 a k (by
  unfold DC
  by_cases z : a = 2
  · subst z
    have : ¬ 3 ≤ k := fun y => h1 ⟨rfl, y⟩
    rw [show Nat.ble 3 k = false from ble_ff (by omega)]
    rfl
  · rw [show (a == 2) = false by simp [z]]
    rfl)⟩
theorem GX.tr {S : Nat} {h h' h'' : xa_H} (a : GX S h h') (b : GX S h' h'') : GX S h h'' := ⟨⟨Nat.le_trans a.1.1 b.1.1, Nat.le_trans a.1.2 b.1.2⟩, fun x hx => (b.2.1 x (Nat.lt_of_lt_of_le hx a.1.1)).trans (a.2.1 x hx), fun x k hx h1 h2 h3 h4 => (b.2.2 x k (Nat.lt_of_lt_of_le hx a.1.1) h1 h2 h3 h4).trans (a.2.2 x k hx h1 h2 h3 h4)⟩
theorem GX.set {S : Nat} {h h' : xa_H} (a : GX S h h') {x k : Nat} {v : Int} (hx : S ≤ x ∧ x < S + 13) : GX S h (xset h' x k v) := ⟨a.1, a.2.1, fun y j hy h1 h2 h3 h4 => by rw [xm_xset, if_neg (by omega)]; exact a.2.2 y j hy h1 h2 h3 h4⟩
/-- both tell a statement: they go on alike, or have the same fault -/
def TR (T : Nat → Int) (L : Nat) (S : Nat) (h g : xa_H) (p : Nat) (fc : Option (Int × xa_H)) (fr : Option xa_H) (F1 F2 : Nat) : Prop := ∃ v h' g', fc = some (v, h') ∧ fr = some g' ∧ GX S h h' ∧ Fx DG g g' ∧ ((v = 1 ∧ ∃ p' b', PQ T L h' g' p' b' ∧ CD h' g' S ∧ CF h' g' S F1 F2 p' ∧ p ≤ p' ∧ xn h' = xn h ∧ xz h' = xz h) ∨ (v = 0 ∧ PF h' g' ∧ xn h' = xn h ∧ xz h' = xz h))
theorem cf_mv {h g h' g' : xa_H} {S F1 F2 p p' : Nat} (C : CF h g S F1 F2 p) (hp : p ≤ p') (hn : xn h ≤ xn h') (hk : ∀ a, a < xn h → xk h' a = xk h a) (e : ∀ a k, (a = S ∧ (k = 11 ∨ k = 12)) ∨ a = F1 ∨ a = F1 + 1 ∨ a = F2 ∨ a = F2 + 1 → a < xn h → xm h' a k = xm h a k) (hS : S < xn h) (e' : ∀ a k, (a = 209 ∨ a = 210 ∨ a = 211) ∨ (a = 173 ∧ k = 47) → xm g' a k = xm g a k) : CF h' g' S F1 F2 p' := by
  obtain ⟨c1, c2, c3, c4, c5, c6, c7, c8⟩ := C
  have f : ∀ w F, (w = 0 ∨ w = 1) → (F = F1 ∨ F = F2) → FOt h g S w F → FOt h' g' S w F := by
    intro w F hw hF o
    have es := e S (11 + w) (Or.inl ⟨rfl, by omega⟩) hS
    have e9 := e' 209 w (by omega)
    have e10 := e' 210 w (by omega)
    have e47 := e' 173 47 (by omega)
    rcases o with ⟨o1, o2⟩ | ⟨o1, o2, l, a, o3, o4, o5, o6, o7, o8⟩
    · exact Or.inl ⟨by rw [es]; exact o1, by rw [e9]; exact o2⟩
    · have hl := o3.2.1
      refine Or.inr ⟨by rw [es]; exact o1, o2, l, a, o3.mv hn hk (fun k => e F k (by omega) (by omega)), by rw [e9]; exact o4, by rw [e10]; exact o5, by rw [e47]; exact o6, fun i hi => ?_, ?_⟩
      · rw [e (F + 1) i (by omega) (by omega), e' 211 (a + i) (by omega)]
        exact o7 i hi
      · rw [← o8]
        exact trun_congr _ _ (fun i hi => e' 211 (a + i) (by omega))
  refine ⟨f 0 F1 (Or.inl rfl) (Or.inl rfl) c1, f 1 F2 (Or.inr rfl) (Or.inr rfl) c2, c3, c4, c5, ?_, ?_, ?_⟩
  · rw [e' 173 47 (by omega)]; omega
  · rw [e' 209 0 (by omega)]; exact c7
  · rw [e' 209 1 (by omega)]; exact c8
theorem cf_lex {h g h' g' : xa_H} {S F1 F2 p p' : Nat} (C : CF h g S F1 F2 p) (K : CS h S) (hs : 249 ≤ S) (hp : p ≤ p') (e : Fx DC h h') (e' : Fx DN g g') : CF h' g' S F1 F2 p' := by
  have f1 := C.2.2.2.1
  have f2 := C.2.2.2.2.1
  have hS := K.2.1
  exact cf_mv C hp (by rw [e.1]; exact Nat.le_refl _) (fun a _ => by rw [e.2.2.1]) (fun a k q _ => e.2.2.2 _ _ (dc_ne (by omega))) (by omega) (fun a k q => by
    rcases q with q | ⟨rfl, rfl⟩
    · exact e'.2.2.2 _ _ (dn_ne (by omega))
    · exact e'.2.2.2 _ _ rfl)
theorem n_ge {T : Nat → Int} {L p : Nat} {b : Bool} : p ≤ (tk_n T L p b).1 := tk_n_ge'
/-! ===== held ===== -/
theorem cd_held {h g : xa_H} {S n : Nat} (C : CD h g S) (hn : xm g 199 0 = (n : Int)) (h6 : n < 6) {v w sa : Int} (nr : nmr v w) (hs : 0 ≤ sa ∧ sa ≤ 99) : CD (xset (xset (xset h (S + 1) n v) (S + 3) n sa) S 1 ((n + 1 : Nat) : Int)) (xset (xset (xset g 200 n w) 201 n sa) 199 0 ((n + 1 : Nat) : Int)) S := by
  obtain ⟨h', eh⟩ : ∃ z, z = xset (xset (xset h (S + 1) n v) (S + 3) n sa) S 1 ((n + 1 : Nat) : Int) := ⟨_, rfl⟩
  obtain ⟨g', eg⟩ : ∃ z, z = xset (xset (xset g 200 n w) 201 n sa) 199 0 ((n + 1 : Nat) : Int) := ⟨_, rfl⟩
  rw [← eh, ← eg]
  have m : ∀ a k, ¬(a = S + 1 ∧ k = n) → ¬(a = S + 3 ∧ k = n) → ¬(a = S ∧ k = 1) → xm h' a k = xm h a k := fun a k q1 q2 q3 => by
    rw [eh, xm_xset, if_neg q3, xm_xset, if_neg q2, xm_xset, if_neg q1]
  have m1 : xm h' (S + 1) n = v := by rw [eh, xm_xset, if_neg (by omega), xm_xset, if_neg (by omega), xm_xset, if_pos ⟨rfl, rfl⟩]
  have m2 : xm h' (S + 3) n = sa := by rw [eh, xm_xset, if_neg (by omega), xm_xset, if_pos ⟨rfl, rfl⟩]
  have m3 : xm h' S 1 = ((n + 1 : Nat) : Int) := by rw [eh, xm_xset, if_pos ⟨rfl, rfl⟩]
  have k : ∀ a k, ¬(a = 200 ∧ k = n) → ¬(a = 201 ∧ k = n) → ¬(a = 199 ∧ k = 0) → xm g' a k = xm g a k := fun a k q1 q2 q3 => by
    rw [eg, xm_xset, if_neg q3, xm_xset, if_neg q2, xm_xset, if_neg q1]
  have k1 : xm g' 200 n = w := by rw [eg, xm_xset, if_neg (by omega), xm_xset, if_neg (by omega), xm_xset, if_pos ⟨rfl, rfl⟩]
  have k2 : xm g' 201 n = sa := by rw [eg, xm_xset, if_neg (by omega), xm_xset, if_pos ⟨rfl, rfl⟩]
  have k3 : xm g' 199 0 = ((n + 1 : Nat) : Int) := by rw [eg, xm_xset, if_pos ⟨rfl, rfl⟩]
  have xnn : xn h' = xn h := by rw [eh]; rfl
  have xkk : xk h' = xk h := by rw [eh]; rfl
  clear eh eg
  obtain ⟨⟨a1, a2, a3⟩, a4, a5, a6, a7, a8, a9, a10, a11, a12, a13, a14, a15, a16, a17, a18, a19, a20, a21, a22, a23, a24⟩ := C
  obtain ⟨s1, s2, s3, s4, s5, s6⟩ := a2
  refine ⟨⟨a1, ⟨s1, by omega, fun j hj => by rw [xkk]; exact s3 j hj, fun j hj => by rw [m _ _ (by omega) (by omega) (by omega)]; exact s4 j hj, by rw [m _ _ (by omega) (by omega) (by omega)]; exact s5, fun j hj => by rw [m _ _ (by omega) (by omega) (by omega)]; exact s6 j hj⟩, by rw [m _ _ (by omega) (by omega) (by omega)]; exact a3⟩, by rw [k3]; omega, by rw [k _ _ (by omega) (by omega) (by omega)]; exact a5, by rw [k _ _ (by omega) (by omega) (by omega)]; exact a6, by rw [k _ _ (by omega) (by omega) (by omega)]; exact a7, by rw [m3, k3], ?_, ?_, ?_, ?_, ?_, ?_, ?_, ?_, ?_, ?_, ?_, ?_, ?_, ?_⟩
  · rw [m _ _ (by omega) (by omega) (by omega), k _ _ (by omega) (by omega) (by omega)]; exact a9
  · rw [m _ _ (by omega) (by omega) (by omega), k _ _ (by omega) (by omega) (by omega)]; exact a10
  · rw [m _ _ (by omega) (by omega) (by omega), k _ _ (by omega) (by omega) (by omega)]; exact a11
  · intro i hi
    rw [k3] at hi
    by_cases z : i = n
    · subst z
      rw [m2, k2]
      exact ⟨rfl, hs⟩
    · rw [m _ _ (by omega) (by omega) (by omega), k _ _ (by omega) (by omega) (by omega)]
      exact a12 i (by omega)
  · intro i hi
    have := a13 i hi
    rw [m _ _ (by omega) (by omega) (by omega), k _ _ (by omega) (by omega) (by omega), k3]
    refine ⟨this.1, this.2.1, by omega, this.2.2.2⟩
  · intro i hi
    rw [m _ _ (by omega) (by omega) (by omega), k _ _ (by omega) (by omega) (by omega)]
    exact a14 i hi
  · intro i hi
    rw [m _ _ (by omega) (by omega) (by omega), k _ _ (by omega) (by omega) (by omega)]
    exact a15 i hi
  · intro i j hi hj
    rw [k _ _ (by omega) (by omega) (by omega), k _ _ (by omega) (by omega) (by omega)]
    exact a16 i j hi hj
  · intro i hi
    rw [k3] at hi
    by_cases z : i = n
    · subst z
      rw [m1, k1]
      exact nr
    · rw [m _ _ (by omega) (by omega) (by omega), k _ _ (by omega) (by omega) (by omega)]
      exact a17 i (by omega)
  · intro i hi
    rw [k 199 1 (by omega) (by omega) (by omega)] at hi
    rw [m _ _ (by omega) (by omega) (by omega), k _ _ (by omega) (by omega) (by omega)]
    exact a18 i hi
  · intro i hi
    rw [k 199 1 (by omega) (by omega) (by omega)] at hi
    have := a19 i hi
    rw [m _ _ (by omega) (by omega) (by omega), m _ _ (by omega) (by omega) (by omega), m _ _ (by omega) (by omega) (by omega), k 203 _ (by omega) (by omega) (by omega), k 204 _ (by omega) (by omega) (by omega), k 205 _ (by omega) (by omega) (by omega), k3]
    obtain ⟨⟨q1, q2, q3⟩, ⟨q4, q5, q6⟩, q7⟩ := this
    exact ⟨⟨q1, q2, by omega⟩, ⟨q4, q5, by omega⟩, q7⟩
  · intro i j hi hj hij
    rw [k 199 1 (by omega) (by omega) (by omega)] at hi hj
    rw [k 203 i (by omega) (by omega) (by omega), k 203 j (by omega) (by omega) (by omega)] at hij
    exact a20 i j hi hj hij
  · intro i hi h6
    rw [k 199 1 (by omega) (by omega) (by omega)] at hi
    rw [m _ _ (by omega) (by omega) (by omega), m _ _ (by omega) (by omega) (by omega), m _ _ (by omega) (by omega) (by omega)]
    exact a21 i hi h6
  · refine ⟨fun i hi => ?_, ?_, ?_⟩
    · rw [m _ _ (by omega) (by omega) (by omega)]; exact a22 i hi
    · rw [m _ _ (by omega) (by omega) (by omega)]; exact a23
    · rw [m _ _ (by omega) (by omega) (by omega)]; exact a24
