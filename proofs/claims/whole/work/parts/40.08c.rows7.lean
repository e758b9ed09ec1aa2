section XR7
def xa_sc (G : xa_C) (sL : Nat) (sc : Nat → Int) : Prop := gS G < gb G ∧ sL < 2147483648 ∧ ∀ scr : Cell, (gH G)[gS G]? = some scr → scr.slots.size = sL ∧ ∀ j, j < sL → ∃ x : Int32, scr.slots[j]? = some (.int x) ∧ sc j = x.toInt
variable {l : Launch} {G : xa_C} {d : Nat} {M : xa_M} {α β : Type} {E : Option α} {F : α → Option xa_O} {pc pc' : Nat} {ls ls' : List (Option xa_V)} {st st' : List xa_V} {h : xa_H}
theorem xa_stepH (hs : ∀ (p : Program) (l : Launch) (e : Env) (R : Room) (s : State) (m : MethodId) (args : Array Value) (below : List Frame) (meth : Method) (c : Code) (H : Heap) (locs : List Loc) (cells slots : Nat) (Q : State → Prop) (lc : Array Slot) (cs : List Value),
    xa_F G M p s m args meth c → xa_l G ls M.2.1 lc → xa_vs G st cs → (∀ q : Nat, q < gb G → H[q]? = (gH G)[q]?) → (∀ (lc' : Array Slot) (cs' : List Value), xa_l G ls' M.2.1 lc' → xa_vs G st' cs' → W p l e R s m args below meth c H locs cells slots Q (F0 m pc' lc' cs')) → W p l e R s m args below meth c H locs cells slots Q (F0 m pc lc cs))
    (k : xa_G l G d M E F pc' ls' st' h) : xa_G l G d M E F pc ls st h := by
  intro o ho
  obtain ⟨h1, h2⟩ := k o ho
  exact ⟨h1, fun n0 z0 a b p e s m args below meth c H locs lc cs hf hl hv hr hq => hs p l e _ s m args below meth c H locs _ _ _ lc cs hf hl hv hr.2.2 (fun lc' cs' hl' hv' => h2 n0 z0 a b p e s m args below meth c H locs lc' cs' hf hl' hv' hr hq)⟩
theorem xa_kt {H : Heap} (hq : ∀ q : Nat, q < gb G → H[q]? = (gH G)[q]?) : ∀ a : Nat, a < (gH G).size → ¬ (xa_A G) a → H[a]? = (gH G)[a]? := fun a _ hn => hq a (Nat.not_le.mp hn)
theorem xa_ldcS (hM : M.2.2.2.1 = "WrongCook$Reader") (hd : decode M.1 pc = .ok (.ldc 26, 2) ∧ pc + 2 = pc') : xa_S G M pc ls st pc' ls (xR (-3) :: st) := by
  intro p l e R s m args below meth c H locs cells slots Q lc cs hf hl hv k
  obtain ⟨hd, rfl⟩ := hd
  have hown := hf.2.2.2.1
  rw [hM] at hown
  exact va_ldcS hf.1 hf.2.1 hown hf.2.2.2.2.2.1.2.2.2.2.2.2.2.2.2.2.2.1 hd (k _ _ hl ⟨_, _, rfl, Or.inr (Or.inr (Or.inr (Or.inl ⟨rfl, rfl⟩))), hv⟩)
theorem xa_gsZ {idx : Nat} (hl0 : Cond.fieldLink M.2.2.2.1 idx "java/lang/String" "COMPACT_STRINGS" "Z" ∈ xa_W) (hd : decode M.1 pc = .ok (.getstatic idx, 3) ∧ pc + 3 = pc') (k : xa_G l G d M E F pc' ls (xI 1 :: st) h) : xa_G l G d M E F pc ls st h := by
  obtain ⟨hd, rfl⟩ := hd
  refine xa_stepH (fun p l e R s m args below meth c H locs cells slots Q lc cs hf hl hv hq k => ?_) k
  obtain ⟨cf, kf, fi, f, a, cell, g1, g2, g3, g4, g5, g6, g7, g8⟩ := va_Z.kept hf.2.2.2.2.2.1.2.2.2.2.2.2.2.2.1 (xa_kt hq)
  exact W.gets (v := .int 1) hf.1 hf.2.1 hf.2.2.2.1 (hf.2.2.2.2.1 _ hl0) g1 g2 g3 g4 g5 (fun q => by rw [q] at g6; cases g6) g7 rfl hd (k _ _ hl ⟨_, _, rfl, ⟨1, rfl, rfl⟩, hv⟩)
theorem xa_gsW {idx : Nat} (hl0 : Cond.fieldLink M.2.2.2.1 idx "jdk/internal/util/Preconditions" "SIOOBE_FORMATTER" "Ljava/util/function/BiFunction;" ∈ xa_W) (hd : decode M.1 pc = .ok (.getstatic idx, 3) ∧ pc + 3 = pc') (k : xa_G l G d M E F pc' ls (xR (-5) :: st) h) : xa_G l G d M E F pc ls st h := by
  obtain ⟨hd, rfl⟩ := hd
  refine xa_stepH (fun p l e R s m args below meth c H locs cells slots Q lc cs hf hl hv hq k => ?_) k
  obtain ⟨cf, kf, fi, f, a, cell, g1, g2, g3, g4, g5, g6, g7, g8⟩ := va_Z.kept hf.2.2.2.2.2.1.2.2.2.2.2.2.2.2.2.1 (xa_kt hq)
  exact W.gets (v := gW G) hf.1 hf.2.1 hf.2.2.2.1 (hf.2.2.2.2.1 _ hl0) g1 g2 g3 g4 g5 (fun q => by rw [q] at g6; cases g6) g7 rfl hd (k _ _ hl ⟨_, _, rfl, Or.inr (Or.inr (Or.inr (Or.inr (Or.inr ⟨rfl, rfl, hf.2.2.2.2.2.1.2.2.2.2.2.2.2.2.2.2.1⟩)))), hv⟩)
theorem xa_ext {v w : Int} {c : Value} (hr : xa_r G v c) (e : v = w) (hw : w = -2 ∨ w = -3 ∨ w = -4) : (w = -2 → c = .ref (gS G)) ∧ (w = -3 → c = .ref (gT G)) ∧ (w = -4 → c = .ref (gV G)) := by
  subst e
  rcases hr with ⟨e1, rfl⟩ | ⟨n, e1, rfl⟩ | ⟨e1, rfl⟩ | ⟨e1, rfl⟩ | ⟨e1, rfl⟩ | ⟨e1, -⟩
  · omega
  · omega
  · exact ⟨fun _ => rfl, fun q => by omega, fun q => by omega⟩
  · exact ⟨fun q => by omega, fun _ => rfl, fun q => by omega⟩
  · exact ⟨fun q => by omega, fun q => by omega, fun _ => rfl⟩
  · omega
theorem xa_getSv {a : Int} {E : Int → Option α} {idx : Nat} (hl0 : Cond.fieldLink M.2.2.2.1 idx "java/lang/String" "value" "[B" ∈ xa_W) (hd : decode M.1 pc = .ok (.getfield idx, 3) ∧ pc + 3 = pc') (kk : ∀ v, xsv a = some v → xa_G l G d M (E v) F pc' ls (xR v :: st) h) : xa_G l G d M ((xsv a).bind E) F pc ls (xR a :: st) h := by
  obtain ⟨hd, rfl⟩ := hd
  by_cases ha : a = -3
  · have e1 : xsv a = some (-4) := by simp [xsv, ha]
    have k := kk _ e1
    rw [e1]
    refine xa_stepH (fun p l e R s m args below meth c H locs cells slots Q lc cs hf hl hv hq k => ?_) k
    obtain ⟨c1, cs1, rfl, hr, hv'⟩ := hv
    obtain rfl := (xa_ext hr ha (by omega)).2.1 rfl
    obtain ⟨cf, k', fi, f, cell, g1, g2, g3, g4, g5, g6⟩ := va_OF.kept hf.2.2.2.2.2.1.2.2.2.2.2.2.1 (xa_kt hq)
    exact W.getf hf.1 hf.2.1 hf.2.2.2.1 (hf.2.2.2.2.1 _ hl0) g1 g2 g3 g4 g5 rfl rfl hd (k _ _ hl ⟨_, _, rfl, Or.inr (Or.inr (Or.inr (Or.inr (Or.inl ⟨rfl, rfl⟩)))), hv'⟩)
  · have e1 : xsv a = none := by simp [xsv, ha]
    rw [e1]; exact xa_none
theorem xa_getSc {a : Int} {E : Int → Option α} {idx : Nat} (hl0 : Cond.fieldLink M.2.2.2.1 idx "java/lang/String" "coder" "B" ∈ xa_W) (hd : decode M.1 pc = .ok (.getfield idx, 3) ∧ pc + 3 = pc') (kk : ∀ v, xsc a = some v → xa_G l G d M (E v) F pc' ls (xI v :: st) h) : xa_G l G d M ((xsc a).bind E) F pc ls (xR a :: st) h := by
  obtain ⟨hd, rfl⟩ := hd
  by_cases ha : a = -3
  · have e1 : xsc a = some 0 := by simp [xsc, ha]
    have k := kk _ e1
    rw [e1]
    refine xa_stepH (fun p l e R s m args below meth c H locs cells slots Q lc cs hf hl hv hq k => ?_) k
    obtain ⟨c1, cs1, rfl, hr, hv'⟩ := hv
    obtain rfl := (xa_ext hr ha (by omega)).2.1 rfl
    obtain ⟨cf, k', fi, f, cell, g1, g2, g3, g4, g5, g6⟩ := va_OF.kept hf.2.2.2.2.2.1.2.2.2.2.2.1 (xa_kt hq)
    exact W.getf hf.1 hf.2.1 hf.2.2.2.1 (hf.2.2.2.2.1 _ hl0) g1 g2 g3 g4 g5 rfl rfl hd (k _ _ hl ⟨_, _, rfl, ⟨0, rfl, rfl⟩, hv'⟩)
  · have e1 : xsc a = none := by simp [xsc, ha]
    rw [e1]; exact xa_none
theorem xa_lenS {a : Int} {E : Int → Option α} (hd : decode M.1 pc = .ok (.arraylength, 1) ∧ pc + 1 = pc') (kk : ∀ v, xtl a = some v → xa_G l G d M (E v) F pc' ls (xI v :: st) h) : xa_G l G d M ((xtl a).bind E) F pc ls (xR a :: st) h := by
  obtain ⟨hd, rfl⟩ := hd
  by_cases ha : a = -4
  · have e1 : xtl a = some 151 := by simp [xtl, ha]
    have k := kk _ e1
    rw [e1]
    refine xa_stepH (fun p l e R s m args below meth c H locs cells slots Q lc cs hf hl hv hq k => ?_) k
    obtain ⟨c1, cs1, rfl, hr, hv'⟩ := hv
    obtain rfl := (xa_ext hr ha (by omega)).2.2 rfl
    obtain ⟨cell, g1, g2, g3, g4, g5, g6, g7⟩ := va_T.kept hf.2.2.2.2.2.1.2.2.2.2.2.2.2.1 (xa_kt hq)
    exact W.alen (n := 151) hf.1 hf.2.1 g1 g2 g5 rfl rfl hd (k _ _ hl ⟨_, _, rfl, ⟨151, rfl, rfl⟩, hv'⟩)
  · have e1 : xtl a = none := by simp [xtl, ha]
    rw [e1]; exact xa_none
theorem xby_rng : ∀ j, j < 151 → (Int32.ofInt (xby j)).toInt = xby j := by decide +kernel
theorem xa_baldS {a i : Int} {E : Int → Option α} (hd : decode M.1 pc = .ok (.baload, 1) ∧ pc + 1 = pc') (kk : ∀ v, xtb a i = some v → xa_G l G d M (E v) F pc' ls (xI v :: st) h) : xa_G l G d M ((xtb a i).bind E) F pc ls (xI i :: xR a :: st) h := by
  obtain ⟨hd, rfl⟩ := hd
  by_cases ha : a = -4 ∧ 0 ≤ i ∧ i < 151
  · have e1 : xtb a i = some (xby i.toNat) := by unfold xtb; rw [if_pos ha]
    have k := kk _ e1
    rw [e1]
    refine xa_stepH (fun p l e R s m args below meth c H locs cells slots Q lc cs hf hl hv hq k => ?_) k
    obtain ⟨c0, cs0, rfl, ⟨x, rfl, hx⟩, c1, cs1, rfl, hr, hv'⟩ := hv
    obtain rfl := (xa_ext hr ha.1 (by omega)).2.2 rfl
    obtain ⟨cell, g1, g2, g3, g4, g5, g6, g7⟩ := va_T.kept hf.2.2.2.2.2.1.2.2.2.2.2.2.2.1 (xa_kt hq)
    have ej : x.toNatClampNeg = i.toNat := by rw [xa_clamp, ← hx]
    refine W.bald (v := .int (Int32.ofInt (xby i.toNat))) hf.1 hf.2.1 g1 g2 g3 ?_ (by rw [ej]; exact g6 _ (by omega)) rfl rfl hd (k _ _ hl ⟨_, _, rfl, ⟨_, rfl, (xby_rng _ (by omega)).symm⟩, hv'⟩)
    exact xa_inb (j := i.toNat) (by rw [← hx]; omega) (by omega)
  · have e1 : xtb a i = none := by unfold xtb; rw [if_neg ha]
    rw [e1]; exact xa_none
theorem xa_i2c {a : Int} (hd : decode M.1 pc = .ok (.i2c, 1) ∧ pc + 1 = pc') : xa_S G M pc ls (xI a :: st) pc' ls (xI (xi2c a) :: st) := by
  intro p l e R s m args below meth c H locs cells slots Q lc cs hf hl hv k
  obtain ⟨hd, rfl⟩ := hd
  obtain ⟨c1, cs1, rfl, ⟨x, rfl, rfl⟩, hv'⟩ := hv
  exact lv_i2c hf.1 hf.2.1 hd rfl (k _ _ hl ⟨_, _, rfl, ⟨_, rfl, by simp [xi2c]⟩, hv'⟩)
theorem xa_nret {v : Int} {x : α} {ty : FieldType} (hd : decode M.1 pc = .ok (.ireturn, 1)) (hr : M.2.2.1 = some ty) (hn : ∀ y : Int32, v = y.toInt → narrow ty (.int y) = .int y) (hF : F x = some (some (xI v), h)) : xa_G l G d M (some x) F pc ls [xI v] h := by
  intro o ho
  have ho : F x = some o := ho
  rw [hF] at ho
  obtain rfl := Option.some.inj ho
  refine ⟨⟨Nat.le_refl _, Nat.le_refl _⟩, fun n0 z0 a b p e s m args below meth c H locs lc cs hf hl hv hrel hq => ?_⟩
  obtain ⟨c1, cs1, rfl, ⟨y, rfl, rfl⟩, rfl⟩ := hv
  exact W.zret hf.1 hf.2.1 (hf.2.2.2.2.2.2.1.trans hr) (hn y rfl) (fun t ht _ => ⟨⟨_, rfl, _, rfl, _, rfl, rfl⟩, by rw [ht]; exact hrel⟩) hq hd (hlocks := hf.2.2.2.2.2.2.2.1)
theorem xa_cn {v : Int} (hv : 0 ≤ v ∧ v < 65536) (y : Int32) (e : v = y.toInt) : narrow .char (.int y) = .int y := by
  have hy2 : y = nI v.toNat := (xa_ieq _ _).mpr (by rw [← e, nI_toInt (by omega)]; omega)
  rw [hy2]
  exact (pk_charN (show v.toNat < 65536 by omega)).1
theorem xa_bn : ∀ (z : Int8), z.toInt32.toInt8.toInt32 = z.toInt32 := fun z => by simp
theorem xa_bty {v : Int} (hv : -128 ≤ v ∧ v < 128) (y : Int32) (e : v = y.toInt) : narrow .byte (.int y) = .int y := by
  rw [narrow_byte]
  have : y.toInt8.toInt32 = y := (xa_ieq _ _).mpr (by
    rw [Int8.toInt_toInt32, Int32.toInt_toInt8]
    exact Int.bmod_eq_of_le (by omega) (by omega))
  rw [this]
theorem xa_chg {E : Option α} {v : Int} (kk : (0 ≤ v ∧ v < 65536) → xa_G l G d M E F pc ls st h) : xa_G l G d M (xch v E) F pc ls st h := by
  unfold xch
  split
  · rename_i q; exact kk q
  · exact xa_none
theorem xa_btg {E : Option α} {v : Int} (kk : (-128 ≤ v ∧ v < 128) → xa_G l G d M E F pc ls st h) : xa_G l G d M (xbt v E) F pc ls st h := by
  unfold xbt
  split
  · rename_i q; exact kk q
  · exact xa_none
theorem xa_callTi {Ef : Option Int} {E : Int → Option α} {a : Int} {as st0 : List xa_V} {y : MethodName} {M' : xa_M} {d' idx n : Nat}
    (wl : Cond.methodLink M.2.2.2.1 idx y ∈ xa_W) (wi : Cond.instanceMethod y ∈ xa_W) (wse : Cond.selects "java/lang/String" y y ∈ xa_W) (wc : Cond.code y M'.1 M'.2.1 M'.2.2.1 ∈ xa_W) (wz : Cond.initialized y.cls ∈ xa_W)
    (hy : y.cls ≠ "java/lang/invoke/MethodHandle" ∧ y.cls ≠ "java/lang/invoke/VarHandle" ∧ (parseMethodDescriptor y.desc).map (fun d => d.parameters.length) = some n) (hn : as.length = n) (hd2 : d' + 1 ≤ d ∧ 8 + (M'.2.1 + 11) + 64 * d' ≤ 64 * d) (hst : xa_cs st ≤ 8) (hs0 : st0 = as.reverse ++ xR a :: st)
    (hd : decode M.1 pc = .ok (.invokevirtual idx, 3) ∧ pc + 3 = pc')
    (hct : ∀ r, Ef = some r → xa_CT l G d' M' y (xR a :: as) h (some (xI r), h))
    (kk : ∀ r, Ef = some r → xa_G l G d M (E r) F pc' ls (xI r :: st) h) : xa_G l G d M ((xrs a Ef).bind E) F pc ls st0 h := by
  subst hs0
  intro o ho
  obtain ⟨hd, rfl⟩ := hd
  unfold xrs at ho
  by_cases hok : a = -3
  case neg =>
    rw [if_neg hok] at ho
    simp at ho
  rw [if_pos hok] at ho
  cases hE : Ef with
  | none => rw [hE] at ho; simp at ho
  | some r =>
    rw [hE] at ho
    obtain ⟨h1, h2⟩ := kk r hE o ho
    obtain ⟨hm, hM⟩ := hct r hE
    refine ⟨⟨by omega, by omega⟩, fun n0 z0 a' b' p e s m args below meth c H locs lc cs hf hll hvs hrel hq => ?_⟩
    obtain ⟨ca, cr, rfl, hca, c1, cs1, rfl, hr, hvs'⟩ := xa_vs_app _ _ _ hvs
    obtain rfl := (xa_ext hr hok (by omega)).2.1 rfl
    obtain ⟨cell, q1, q2, q3, -⟩ := va_O.kept hf.2.2.2.2.2.1.2.2.2.2.1 (xa_kt hrel.2.2)
    have hcar := xa_vs_rev as ca hca
    refine xa_after (o' := (some (xI r), h)) (rest := cs1) (mc := xn h - xn h) (ms := xz h - xz h) (W.runV (As := ca.reverse) (rest := cs1) (cc := M.1) (nL := M.2.1) (Ts := xa_W) (own := M.2.2.2.1) (C := "java/lang/String") ⟨hf.1, hf.2.1, hf.2.2.1, hf.2.2.2.1, hf.2.2.2.2.1⟩ hM ⟨callB_of n hf.2.2.2.2.1 (xa_goodIn wc) rfl rfl rfl (hf.2.2.2.2.1 _ wz) (hf.2.2.2.2.1 _ wl) hy hd2, hf.2.2.2.2.1 _ wi, hf.2.2.2.2.1 _ wse⟩ ⟨xa_blind _ _, ⟨cell, q1, q2, q3⟩, fun U hU hW => ⟨⟨_, rfl, _, _, rfl, hr, hcar⟩, by rw [hU]; exact hrel, xa_Kn.mv hW hf.2.2.2.2.2.1⟩⟩ rfl (by rw [xa_vs_len _ _ hcar]; exact hn) hll.1 (by simp) (by show 2 * 0 + _ ≤ 8; rw [xa_cs_ok _ _ hvs']; omega) hd ⟨show xn h - n0 + (xn h - xn h) ≤ xn o.2 - n0 by omega, show xz h - z0 + (xz h - xz h) ≤ xz o.2 - z0 by omega⟩) hq hvs' (fun H' locs' cs' hrel' hq' hcs' => ?_)
    refine W.cs (cells' := xn h - n0) (slots' := xz h - z0) (by omega) (by omega) ?_
    exact h2 n0 z0 (by omega) (by omega) p e s m args below meth c H' locs' lc cs' hf hll hcs' hrel' hq'
theorem xa_slen {sL : Nat} {sc : Nat → Int} (hsc : xa_sc G sL sc) (hd : decode M.1 pc = .ok (.arraylength, 1) ∧ pc + 1 = pc') (k : xa_G l G d M E F pc' ls (xI (sL : Int) :: st) h) : xa_G l G d M E F pc ls (xR (-2) :: st) h := by
  obtain ⟨hd, rfl⟩ := hd
  refine xa_stepH (fun p l e R s m args below meth c H locs cells slots Q lc cs hf hl hv hq k => ?_) k
  obtain ⟨c1, cs1, rfl, hr, hv'⟩ := hv
  obtain rfl := (xa_ext hr rfl (by omega)).1 rfl
  obtain ⟨scr, g1, g2, g3⟩ := hf.2.2.2.2.2.1.2.2.2.2.2.2.2.2.2.2.2.2
  obtain ⟨b1, b2, b3⟩ := hsc
  obtain ⟨b4, -⟩ := b3 scr g1
  exact W.alen (n := nI sL) hf.1 hf.2.1 (by rw [hq _ b1]; exact g1) g2 (by rw [b4]; rfl) rfl rfl hd (k _ _ hl ⟨_, _, rfl, ⟨_, rfl, by rw [nI_toInt b2]⟩, hv'⟩)
theorem xa_sald {sL : Nat} {sc : Nat → Int} {i : Int} {E : Int → Option α} (hsc : xa_sc G sL sc) (hd : decode M.1 pc = .ok (.iaload, 1) ∧ pc + 1 = pc') (kk : ∀ v, xsl sL sc i = some v → xa_G l G d M (E v) F pc' ls (xI v :: st) h) : xa_G l G d M ((xsl sL sc i).bind E) F pc ls (xI i :: xR (-2) :: st) h := by
  obtain ⟨hd, rfl⟩ := hd
  by_cases ha : 0 ≤ i ∧ i < (sL : Int)
  · have e1 : xsl sL sc i = some (sc i.toNat) := by unfold xsl; rw [if_pos ha]
    have k := kk _ e1
    rw [e1]
    refine xa_stepH (fun p l e R s m args below meth c H locs cells slots Q lc cs hf hl hv hq k => ?_) k
    obtain ⟨c0, cs0, rfl, ⟨x, rfl, hx⟩, c1, cs1, rfl, hr, hv'⟩ := hv
    obtain rfl := (xa_ext hr rfl (by omega)).1 rfl
    obtain ⟨scr, g1, g2, g3⟩ := hf.2.2.2.2.2.1.2.2.2.2.2.2.2.2.2.2.2.2
    obtain ⟨b1, b2, b3⟩ := hsc
    obtain ⟨b4, b5⟩ := b3 scr g1
    obtain ⟨y, b6, b7⟩ := b5 i.toNat (by omega)
    have ej : x.toNatClampNeg = i.toNat := by rw [xa_clamp, ← hx]
    refine W.iald (v := .int y) hf.1 hf.2.1 (by rw [hq _ b1]; exact g1) g2 g3 ?_ (by rw [ej]; exact b6) rfl rfl hd (k _ _ hl ⟨_, _, rfl, ⟨_, rfl, b7⟩, hv'⟩)
    rw [b4]
    exact xa_inb (j := i.toNat) (by rw [← hx]; omega) (by omega)
  · have e1 : xsl sL sc i = none := by unfold xsl; rw [if_neg ha]
    rw [e1]; exact xa_none
end XR7
