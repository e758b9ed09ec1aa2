section XR2
variable {l : Launch} {G : xa_C} {d : Nat} {M : xa_M} {α β : Type} {E E1 E2 : Option α} {F : α → Option xa_O} {pc pc' : Nat} {ls ls' : List (Option xa_V)} {st st' : List xa_V} {h : xa_H}
/-- a fork -/
def xa_B (G : xa_C) (M : xa_M) (pc : Nat) (ls : List (Option xa_V)) (st : List xa_V) (q : Prop) (t f : Nat) (st' : List xa_V) : Prop :=
  ∀ (p : Program) (l : Launch) (e : Env) (R : Room) (s : State) (m : MethodId) (args : Array Value) (below : List Frame) (meth : Method) (c : Code) (H : Heap) (locs : List Loc) (cells slots : Nat) (Q : State → Prop) (lc : Array Slot) (cs : List Value),
    xa_F G M p s m args meth c → xa_l G ls M.2.1 lc → xa_vs G st cs → (q → ∀ cs' : List Value, xa_vs G st' cs' → W p l e R s m args below meth c H locs cells slots Q (F0 m t lc cs')) → (¬ q → ∀ cs' : List Value, xa_vs G st' cs' → W p l e R s m args below meth c H locs cells slots Q (F0 m f lc cs')) → W p l e R s m args below meth c H locs cells slots Q (F0 m pc lc cs)
theorem xa_if {q : Prop} [Decidable q] {t f : Nat} (hs : xa_B G M pc ls st q t f st') (k1 : q → xa_G l G d M E1 F t ls st' h) (k2 : ¬ q → xa_G l G d M E2 F f ls st' h) : xa_G l G d M (if q then E1 else E2) F pc ls st h := by
  by_cases hq : q
  · rw [if_pos hq]
    intro o ho
    obtain ⟨h1, h2⟩ := k1 hq o ho
    exact ⟨h1, fun n0 z0 a b p e s m args below meth c H locs lc cs hf hl hv hr hk => hs p l e _ s m args below meth c H locs _ _ _ lc cs hf hl hv (fun _ cs' hv' => h2 n0 z0 a b p e s m args below meth c H locs lc cs' hf hl hv' hr hk) (fun hn => absurd hq hn)⟩
  · rw [if_neg hq]
    intro o ho
    obtain ⟨h1, h2⟩ := k2 hq o ho
    exact ⟨h1, fun n0 z0 a b p e s m args below meth c H locs lc cs hf hl hv hr hk => hs p l e _ s m args below meth c H locs _ _ _ lc cs hf hl hv (fun hn => absurd hn hq) (fun _ cs' hv' => h2 n0 z0 a b p e s m args below meth c H locs lc cs' hf hl hv' hr hk)⟩
theorem xa_case {q : Prop} [Decidable q] (k1 : q → xa_G l G d M E1 F pc ls st h) (k2 : ¬ q → xa_G l G d M E2 F pc ls st h) : xa_G l G d M (if q then E1 else E2) F pc ls st h := by
  by_cases hq : q
  · rw [if_pos hq]; exact k1 hq
  · rw [if_neg hq]; exact k2 hq
theorem xa_ilt (x y : Int32) : x < y ↔ x.toInt < y.toInt := Int32.lt_iff_toInt_lt
theorem xa_ile (x y : Int32) : x ≤ y ↔ x.toInt ≤ y.toInt := Int32.le_iff_toInt_le
theorem xa_ieq (x y : Int32) : x = y ↔ x.toInt = y.toInt := ⟨fun e => by rw [e], fun e => Int32.toInt_inj.mp e⟩
theorem xa_icmplt {a b off : Int} {tgt : Nat} (hd : decode M.1 pc = .ok (.if_icmp .lt off, 3) ∧ pc + 3 = pc' ∧ (pc : Int) + off = (tgt : Int)) : xa_B G M pc ls (xI b :: xI a :: st) (a < b) tgt pc' st := by
  intro p l e R s m args below meth c H locs cells slots Q lc cs hf hl hv k1 k2
  obtain ⟨hd, rfl, ht⟩ := hd
  obtain ⟨c1, cs1, rfl, ⟨y, rfl, rfl⟩, c2, cs2, rfl, ⟨x, rfl, rfl⟩, hv'⟩ := hv
  exact lv_icmp_lt hf.1 hf.2.1 hd ht (fun q => k1 ((xa_ilt x y).mp q) _ hv') (fun q => k2 (fun q2 => q ((xa_ilt x y).mpr q2)) _ hv')
theorem xa_icmpge {a b off : Int} {tgt : Nat} (hd : decode M.1 pc = .ok (.if_icmp .ge off, 3) ∧ pc + 3 = pc' ∧ (pc : Int) + off = (tgt : Int)) : xa_B G M pc ls (xI b :: xI a :: st) (a < b) pc' tgt st := by
  intro p l e R s m args below meth c H locs cells slots Q lc cs hf hl hv k1 k2
  obtain ⟨hd, rfl, ht⟩ := hd
  obtain ⟨c1, cs1, rfl, ⟨y, rfl, rfl⟩, c2, cs2, rfl, ⟨x, rfl, rfl⟩, hv'⟩ := hv
  exact lv_icmp_ge hf.1 hf.2.1 hd ht (fun q => k2 (by have := (xa_ile y x).mp q; omega) _ hv') (fun q => k1 (by have h2 : ¬ y.toInt ≤ x.toInt := fun q2 => q ((xa_ile y x).mpr q2); omega) _ hv')
theorem xa_icmpgt {a b off : Int} {tgt : Nat} (hd : decode M.1 pc = .ok (.if_icmp .gt off, 3) ∧ pc + 3 = pc' ∧ (pc : Int) + off = (tgt : Int)) : xa_B G M pc ls (xI b :: xI a :: st) (b < a) tgt pc' st := by
  intro p l e R s m args below meth c H locs cells slots Q lc cs hf hl hv k1 k2
  obtain ⟨hd, rfl, ht⟩ := hd
  obtain ⟨c1, cs1, rfl, ⟨y, rfl, rfl⟩, c2, cs2, rfl, ⟨x, rfl, rfl⟩, hv'⟩ := hv
  exact lv_icmp_gt hf.1 hf.2.1 hd ht (fun q => k1 ((xa_ilt y x).mp q) _ hv') (fun q => k2 (fun q2 => q ((xa_ilt y x).mpr q2)) _ hv')
theorem xa_icmple {a b off : Int} {tgt : Nat} (hd : decode M.1 pc = .ok (.if_icmp .le off, 3) ∧ pc + 3 = pc' ∧ (pc : Int) + off = (tgt : Int)) : xa_B G M pc ls (xI b :: xI a :: st) (b < a) pc' tgt st := by
  intro p l e R s m args below meth c H locs cells slots Q lc cs hf hl hv k1 k2
  obtain ⟨hd, rfl, ht⟩ := hd
  obtain ⟨c1, cs1, rfl, ⟨y, rfl, rfl⟩, c2, cs2, rfl, ⟨x, rfl, rfl⟩, hv'⟩ := hv
  exact lv_icmp_le hf.1 hf.2.1 hd ht (fun q => k2 (by have := (xa_ile x y).mp q; omega) _ hv') (fun q => k1 (by have h2 : ¬ x.toInt ≤ y.toInt := fun q2 => q ((xa_ile x y).mpr q2); omega) _ hv')
theorem xa_icmpeq {a b off : Int} {tgt : Nat} (hd : decode M.1 pc = .ok (.if_icmp .eq off, 3) ∧ pc + 3 = pc' ∧ (pc : Int) + off = (tgt : Int)) : xa_B G M pc ls (xI b :: xI a :: st) (a = b) tgt pc' st := by
  intro p l e R s m args below meth c H locs cells slots Q lc cs hf hl hv k1 k2
  obtain ⟨hd, rfl, ht⟩ := hd
  obtain ⟨c1, cs1, rfl, ⟨y, rfl, rfl⟩, c2, cs2, rfl, ⟨x, rfl, rfl⟩, hv'⟩ := hv
  exact lv_icmp_eq hf.1 hf.2.1 hd ht (fun q => k1 ((xa_ieq x y).mp q) _ hv') (fun q => k2 (fun q2 => q ((xa_ieq x y).mpr q2)) _ hv')
theorem xa_icmpne {a b off : Int} {tgt : Nat} (hd : decode M.1 pc = .ok (.if_icmp .ne off, 3) ∧ pc + 3 = pc' ∧ (pc : Int) + off = (tgt : Int)) : xa_B G M pc ls (xI b :: xI a :: st) (a = b) pc' tgt st := by
  intro p l e R s m args below meth c H locs cells slots Q lc cs hf hl hv k1 k2
  obtain ⟨hd, rfl, ht⟩ := hd
  obtain ⟨c1, cs1, rfl, ⟨y, rfl, rfl⟩, c2, cs2, rfl, ⟨x, rfl, rfl⟩, hv'⟩ := hv
  exact lv_icmp_ne hf.1 hf.2.1 hd ht (fun q => k2 (fun q2 => q ((xa_ieq x y).mpr q2)) _ hv') (fun q => k1 ((xa_ieq x y).mp q) _ hv')
theorem xa_iflt {a off : Int} {tgt : Nat} (hd : decode M.1 pc = .ok (.ifCond .lt off, 3) ∧ pc + 3 = pc' ∧ (pc : Int) + off = (tgt : Int)) : xa_B G M pc ls (xI a :: st) (a < 0) tgt pc' st := by
  intro p l e R s m args below meth c H locs cells slots Q lc cs hf hl hv k1 k2
  obtain ⟨hd, rfl, ht⟩ := hd
  obtain ⟨c2, cs2, rfl, ⟨x, rfl, rfl⟩, hv'⟩ := hv
  exact lv_if_lt hf.1 hf.2.1 hd ht (fun q => k1 (by have := (xa_ilt x 0).mp q; simpa using this) _ hv') (fun q => k2 (fun q2 => q ((xa_ilt x 0).mpr (by simpa using q2))) _ hv')
theorem xa_ifge {a off : Int} {tgt : Nat} (hd : decode M.1 pc = .ok (.ifCond .ge off, 3) ∧ pc + 3 = pc' ∧ (pc : Int) + off = (tgt : Int)) : xa_B G M pc ls (xI a :: st) (a < 0) pc' tgt st := by
  intro p l e R s m args below meth c H locs cells slots Q lc cs hf hl hv k1 k2
  obtain ⟨hd, rfl, ht⟩ := hd
  obtain ⟨c2, cs2, rfl, ⟨x, rfl, rfl⟩, hv'⟩ := hv
  have e0 : (0 : Int32).toInt = 0 := rfl
  exact lv_if_ge hf.1 hf.2.1 hd ht (fun q => k2 (by have := (xa_ile 0 x).mp q; rw [e0] at this; omega) _ hv') (fun q => k1 (by have h2 : ¬ (0 : Int32).toInt ≤ x.toInt := fun q2 => q ((xa_ile 0 x).mpr q2); rw [e0] at h2; omega) _ hv')
theorem xa_ifgt {a off : Int} {tgt : Nat} (hd : decode M.1 pc = .ok (.ifCond .gt off, 3) ∧ pc + 3 = pc' ∧ (pc : Int) + off = (tgt : Int)) : xa_B G M pc ls (xI a :: st) (0 < a) tgt pc' st := by
  intro p l e R s m args below meth c H locs cells slots Q lc cs hf hl hv k1 k2
  obtain ⟨hd, rfl, ht⟩ := hd
  obtain ⟨c2, cs2, rfl, ⟨x, rfl, rfl⟩, hv'⟩ := hv
  exact lv_if_gt hf.1 hf.2.1 hd ht (fun q => k1 (by have := (xa_ilt 0 x).mp q; simpa using this) _ hv') (fun q => k2 (fun q2 => q ((xa_ilt 0 x).mpr (by simpa using q2))) _ hv')
theorem xa_ifle {a off : Int} {tgt : Nat} (hd : decode M.1 pc = .ok (.ifCond .le off, 3) ∧ pc + 3 = pc' ∧ (pc : Int) + off = (tgt : Int)) : xa_B G M pc ls (xI a :: st) (0 < a) pc' tgt st := by
  intro p l e R s m args below meth c H locs cells slots Q lc cs hf hl hv k1 k2
  obtain ⟨hd, rfl, ht⟩ := hd
  obtain ⟨c2, cs2, rfl, ⟨x, rfl, rfl⟩, hv'⟩ := hv
  have e0 : (0 : Int32).toInt = 0 := rfl
  exact lv_if_le hf.1 hf.2.1 hd ht (fun q => k2 (by have := (xa_ile x 0).mp q; rw [e0] at this; omega) _ hv') (fun q => k1 (by have h2 : ¬ x.toInt ≤ (0 : Int32).toInt := fun q2 => q ((xa_ile x 0).mpr q2); rw [e0] at h2; omega) _ hv')
theorem xa_ifeq {a off : Int} {tgt : Nat} (hd : decode M.1 pc = .ok (.ifCond .eq off, 3) ∧ pc + 3 = pc' ∧ (pc : Int) + off = (tgt : Int)) : xa_B G M pc ls (xI a :: st) (a = 0) tgt pc' st := by
  intro p l e R s m args below meth c H locs cells slots Q lc cs hf hl hv k1 k2
  obtain ⟨hd, rfl, ht⟩ := hd
  obtain ⟨c2, cs2, rfl, ⟨x, rfl, rfl⟩, hv'⟩ := hv
  exact lv_if_eq hf.1 hf.2.1 hd ht (fun q => k1 (by rw [q]; rfl) _ hv') (fun q => k2 (fun q2 => q ((xa_ieq x 0).mpr q2)) _ hv')
theorem xa_ifne {a off : Int} {tgt : Nat} (hd : decode M.1 pc = .ok (.ifCond .ne off, 3) ∧ pc + 3 = pc' ∧ (pc : Int) + off = (tgt : Int)) : xa_B G M pc ls (xI a :: st) (a = 0) pc' tgt st := by
  intro p l e R s m args below meth c H locs cells slots Q lc cs hf hl hv k1 k2
  obtain ⟨hd, rfl, ht⟩ := hd
  obtain ⟨c2, cs2, rfl, ⟨x, rfl, rfl⟩, hv'⟩ := hv
  exact lv_if_ne hf.1 hf.2.1 hd ht (fun q => k2 (fun q2 => q ((xa_ieq x 0).mpr q2)) _ hv') (fun q => k1 (by rw [q]; rfl) _ hv')
theorem xa_rnull {v : Int} {c : Value} (h5 : v ≠ -5) (hr : xa_r G v c) : (v = -1 ∧ c = .null) ∨ (v ≠ -1 ∧ ∃ a : Nat, c = .ref a) := by
  rcases hr with ⟨e, rfl⟩ | ⟨n, e, rfl⟩ | ⟨e, rfl⟩ | ⟨e, rfl⟩ | ⟨e, rfl⟩ | ⟨e, -⟩
  · exact Or.inl ⟨e, rfl⟩
  · exact Or.inr ⟨by omega, _, rfl⟩
  · exact Or.inr ⟨by omega, _, rfl⟩
  · exact Or.inr ⟨by omega, _, rfl⟩
  · exact Or.inr ⟨by omega, _, rfl⟩
  · exact absurd e h5
theorem xa_ifnull {a off : Int} {tgt : Nat} (h5 : a ≠ -5) (hd : decode M.1 pc = .ok (.ifnull off, 3) ∧ pc + 3 = pc' ∧ (pc : Int) + off = (tgt : Int)) : xa_B G M pc ls (xR a :: st) (a = -1) tgt pc' st := by
  intro p l e R s m args below meth c H locs cells slots Q lc cs hf hl hv k1 k2
  obtain ⟨hd, rfl, ht⟩ := hd
  obtain ⟨c2, cs2, rfl, hr, hv'⟩ := hv
  rcases xa_rnull h5 hr with ⟨e1, rfl⟩ | ⟨e1, x, rfl⟩
  · exact lv_ifnullN hf.1 hf.2.1 hd ht (k1 e1 _ hv')
  · exact lv_ifnull hf.1 hf.2.1 hd (k2 e1 _ hv')
theorem xa_ifnonnull {a off : Int} {tgt : Nat} (h5 : a ≠ -5) (hd : decode M.1 pc = .ok (.ifnonnull off, 3) ∧ pc + 3 = pc' ∧ (pc : Int) + off = (tgt : Int)) : xa_B G M pc ls (xR a :: st) (a = -1) pc' tgt st := by
  intro p l e R s m args below meth c H locs cells slots Q lc cs hf hl hv k1 k2
  obtain ⟨hd, rfl, ht⟩ := hd
  obtain ⟨c2, cs2, rfl, hr, hv'⟩ := hv
  rcases xa_rnull h5 hr with ⟨e1, rfl⟩ | ⟨e1, x, rfl⟩
  · exact lv_ifnonnullN hf.1 hf.2.1 hd (k1 e1 _ hv')
  · exact lv_ifnonnull hf.1 hf.2.1 hd ht (k2 e1 _ hv')
theorem xa_null (hd : decode M.1 pc = .ok (.aconst_null, 1) ∧ pc + 1 = pc') : xa_S G M pc ls st pc' ls (xR (-1) :: st) := by
  intro p l e R s m args below meth c H locs cells slots Q lc cs hf hl hv k
  obtain ⟨hd, rfl⟩ := hd
  exact lv_null hf.1 hf.2.1 hd (k _ _ hl ⟨_, _, rfl, Or.inl ⟨rfl, rfl⟩, hv⟩)
theorem xa_tabIn {dflt lo hi v k off : Int} {offs : Array Int} {len tgt : Nat} (hd : decode M.1 pc = .ok (.tableswitch dflt lo hi offs, len)) (hv : v = k) (h1 : ¬ k < lo) (h2 : ¬ hi < k) (ho : offs[(k - lo).toNat]? = some off) (ht : (pc : Int) + off = (tgt : Int)) : xa_S G M pc ls (xI v :: st) tgt ls st := by
  subst hv
  intro p l e R s m args below meth c H locs cells slots Q lc cs hf hl hv k
  obtain ⟨c2, cs2, rfl, ⟨x, rfl, rfl⟩, hv'⟩ := hv
  exact lv_tableIn hf.1 hf.2.1 hd h1 h2 ho ht (k _ _ hl hv')
theorem xa_tabOut {dflt lo hi v : Int} {offs : Array Int} {len tgt : Nat} (hd : decode M.1 pc = .ok (.tableswitch dflt lo hi offs, len)) (h1 : v < lo ∨ hi < v) (ht : (pc : Int) + dflt = (tgt : Int)) : xa_S G M pc ls (xI v :: st) tgt ls st := by
  intro p l e R s m args below meth c H locs cells slots Q lc cs hf hl hv k
  obtain ⟨c2, cs2, rfl, ⟨x, rfl, rfl⟩, hv'⟩ := hv
  exact lv_tableOut hf.1 hf.2.1 hd h1 ht (k _ _ hl hv')
theorem xa_lookup {dflt v off : Int} {ps : Array (Int × Int)} {len tgt : Nat} (hd : decode M.1 pc = .ok (.lookupswitch dflt ps, len)) (hp : (ps.toList.zip (ps.toList.drop 1)).all (fun (a, next) => a.1 < next.1) = true) (ho : Op.lookupswitch.offset ps.toList dflt v = off) (ht : (pc : Int) + off = (tgt : Int)) : xa_S G M pc ls (xI v :: st) tgt ls st := by
  intro p l e R s m args below meth c H locs cells slots Q lc cs hf hl hv k
  obtain ⟨c2, cs2, rfl, ⟨x, rfl, rfl⟩, hv'⟩ := hv
  exact lv_lookup hf.1 hf.2.1 hd hp ho ht (k _ _ hl hv')
theorem xa_iret {v : Int} {x : α} (hd : decode M.1 pc = .ok (.ireturn, 1)) (hr : M.2.2.1 = some .int) (hF : F x = some (some (xI v), h)) : xa_G l G d M (some x) F pc ls [xI v] h := by
  intro o ho
  have ho : F x = some o := ho
  rw [hF] at ho
  obtain rfl := Option.some.inj ho
  refine ⟨⟨Nat.le_refl _, Nat.le_refl _⟩, fun n0 z0 a b p e s m args below meth c H locs lc cs hf hl hv hrel hq => ?_⟩
  obtain ⟨c1, cs1, rfl, ⟨y, rfl, rfl⟩, rfl⟩ := hv
  exact W.iret hf.1 hf.2.1 (hf.2.2.2.2.2.2.1.trans hr) (fun t ht _ => ⟨⟨_, rfl, _, rfl, _, rfl, rfl⟩, by rw [ht]; exact hrel⟩) hq hd (hlocks := hf.2.2.2.2.2.2.2.1)
theorem xa_zret {v : Int} {x : α} (hd : decode M.1 pc = .ok (.ireturn, 1)) (hr : M.2.2.1 = some .boolean) (hz : v = 0 ∨ v = 1) (hF : F x = some (some (xI v), h)) : xa_G l G d M (some x) F pc ls [xI v] h := by
  intro o ho
  have ho : F x = some o := ho
  rw [hF] at ho
  obtain rfl := Option.some.inj ho
  refine ⟨⟨Nat.le_refl _, Nat.le_refl _⟩, fun n0 z0 a b p e s m args below meth c H locs lc cs hf hl hv hrel hq => ?_⟩
  obtain ⟨c1, cs1, rfl, ⟨y, rfl, rfl⟩, rfl⟩ := hv
  have hy : narrow .boolean (.int y) = .int y := by
    rcases hz with e | e
    · have e2 : y = 0 := (xa_ieq y 0).mpr e
      rw [e2]; rfl
    · have e2 : y = 1 := (xa_ieq y 1).mpr e
      rw [e2]; rfl
  exact W.zret hf.1 hf.2.1 (hf.2.2.2.2.2.2.1.trans hr) hy (fun t ht _ => ⟨⟨_, rfl, _, rfl, _, rfl, rfl⟩, by rw [ht]; exact hrel⟩) hq hd (hlocks := hf.2.2.2.2.2.2.2.1)
theorem xa_lret {v : Int} {x : α} (hd : decode M.1 pc = .ok (.lreturn, 1)) (hr : M.2.2.1 = some .long) (hF : F x = some (some (xL v), h)) : xa_G l G d M (some x) F pc ls [xL v] h := by
  intro o ho
  have ho : F x = some o := ho
  rw [hF] at ho
  obtain rfl := Option.some.inj ho
  refine ⟨⟨Nat.le_refl _, Nat.le_refl _⟩, fun n0 z0 a b p e s m args below meth c H locs lc cs hf hl hv hrel hq => ?_⟩
  obtain ⟨c1, cs1, rfl, ⟨y, rfl, rfl⟩, rfl⟩ := hv
  exact W.lret hf.1 hf.2.1 (hf.2.2.2.2.2.2.1.trans hr) (fun t ht _ => ⟨⟨_, rfl, _, rfl, _, rfl, rfl⟩, by rw [ht]; exact hrel⟩) hq hd (hlocks := hf.2.2.2.2.2.2.2.1)
theorem xa_aret {v : Int} {x : α} {rt : FieldType} (hd : decode M.1 pc = .ok (.areturn, 1)) (hr : M.2.2.1 = some rt) (hrt : (∃ n, rt = .object n) ∨ ∃ t, rt = .array t) (hF : F x = some (some (xR v), h)) : xa_G l G d M (some x) F pc ls [xR v] h := by
  intro o ho
  have ho : F x = some o := ho
  rw [hF] at ho
  obtain rfl := Option.some.inj ho
  refine ⟨⟨Nat.le_refl _, Nat.le_refl _⟩, fun n0 z0 a b p e s m args below meth c H locs lc cs hf hl hv hrel hq => ?_⟩
  obtain ⟨c1, cs1, rfl, hr1, rfl⟩ := hv
  exact W.aret hf.1 hf.2.1 (hf.2.2.2.2.2.2.1.trans hr) hrt (xa_rr hr1) (fun t ht _ => ⟨⟨_, rfl, _, rfl, hr1⟩, by rw [ht]; exact hrel⟩) hq hd (hlocks := hf.2.2.2.2.2.2.2.1)
theorem xa_vret {x : α} (hd : decode M.1 pc = .ok (.return_, 1)) (hr : M.2.2.1 = none) (hF : F x = some (none, h)) : xa_G l G d M (some x) F pc ls [] h := by
  intro o ho
  have ho : F x = some o := ho
  rw [hF] at ho
  obtain rfl := Option.some.inj ho
  refine ⟨⟨Nat.le_refl _, Nat.le_refl _⟩, fun n0 z0 a b p e s m args below meth c H locs lc cs hf hl hv hrel hq => ?_⟩
  obtain rfl := hv
  exact W.vret hf.1 hf.2.1 (hf.2.2.2.2.2.2.1.trans hr) (fun t ht _ => ⟨⟨_, rfl, rfl⟩, by rw [ht]; exact hrel⟩) hq hd (hlocks := hf.2.2.2.2.2.2.2.1)
/-- the locals at the entry -/
def xa_e0 : List xa_V → List (Option xa_V)
  | [] => []
  | .inl v :: t => some (.inl v) :: xa_e0 t
  | .inr (.inl v) :: t => some (.inr (.inl v)) :: none :: xa_e0 t
  | .inr (.inr v) :: t => some (.inr (.inr v)) :: xa_e0 t
def xa_en (as : List xa_V) (n : Nat) : List (Option xa_V) := xa_e0 as ++ List.replicate (n - (xa_e0 as).length) none
theorem xa_catL {u : Int} {c : Value} (h : xa_v G (.inr (.inl u)) c) : c.category = 2 := by
  obtain ⟨x, rfl, -⟩ := h
  rfl
theorem xa_e0_len : ∀ (as : List xa_V) (cs : List Value), xa_vs G as cs → (lg_sl cs).length = (xa_e0 as).length
  | [], cs, hv => by
    obtain rfl := hv
    rfl
  | .inl v :: t, cs, hv => by
    obtain ⟨c, cs', rfl, h1, h2⟩ := hv
    have := xa_e0_len t cs' h2
    have hc := xa_cat h1 (xa_tI v)
    simp [lg_sl, xa_e0, hc] at this ⊢
    exact this
  | .inr (.inl v) :: t, cs, hv => by
    obtain ⟨c, cs', rfl, h1, h2⟩ := hv
    have := xa_e0_len t cs' h2
    have hc := xa_catL h1
    simp [lg_sl, xa_e0, hc] at this ⊢
    omega
  | .inr (.inr v) :: t, cs, hv => by
    obtain ⟨c, cs', rfl, h1, h2⟩ := hv
    have := xa_e0_len t cs' h2
    have hc := xa_cat h1 (xa_tR v)
    simp [lg_sl, xa_e0, hc] at this ⊢
    exact this
theorem xa_e0_get : ∀ (as : List xa_V) (cs : List Value) (j : Nat), xa_vs G as cs → ∀ (i : Nat) (v : xa_V), (xa_e0 as)[i]? = some (some v) → ∃ c : Value, xa_v G v c ∧ (j + i, c) ∈ lv_args j cs
  | [], cs, j, hv, i, v, h => by simp [xa_e0] at h
  | .inl u :: t, cs, j, hv, 0, v, h => by
    obtain ⟨c, cs', rfl, h1, h2⟩ := hv
    simp [xa_e0] at h
    subst h
    exact ⟨c, h1, by simp [lv_args]⟩
  | .inl u :: t, cs, j, hv, i + 1, v, h => by
    obtain ⟨c, cs', rfl, h1, h2⟩ := hv
    obtain ⟨c2, e1, e2⟩ := xa_e0_get t cs' (j + 1) h2 i v (by simpa [xa_e0] using h)
    have hc := xa_cat h1 (xa_tI u)
    refine ⟨c2, e1, ?_⟩
    simp only [lv_args, hc]
    refine List.mem_cons_of_mem _ ?_
    rw [show j + (i + 1) = j + 1 + i by omega]
    exact e2
  | .inr (.inl u) :: t, cs, j, hv, 0, v, h => by
    obtain ⟨c, cs', rfl, h1, h2⟩ := hv
    simp [xa_e0] at h
    subst h
    exact ⟨c, h1, by simp [lv_args]⟩
  | .inr (.inl u) :: t, cs, j, hv, 1, v, h => by simp [xa_e0] at h
  | .inr (.inl u) :: t, cs, j, hv, i + 2, v, h => by
    obtain ⟨c, cs', rfl, h1, h2⟩ := hv
    obtain ⟨c2, e1, e2⟩ := xa_e0_get t cs' (j + 2) h2 i v (by simpa [xa_e0] using h)
    have hc := xa_catL h1
    refine ⟨c2, e1, ?_⟩
    simp only [lv_args, hc]
    refine List.mem_cons_of_mem _ ?_
    rw [show j + (i + 2) = j + 2 + i by omega]
    exact e2
  | .inr (.inr u) :: t, cs, j, hv, 0, v, h => by
    obtain ⟨c, cs', rfl, h1, h2⟩ := hv
    simp [xa_e0] at h
    subst h
    exact ⟨c, h1, by simp [lv_args]⟩
  | .inr (.inr u) :: t, cs, j, hv, i + 1, v, h => by
    obtain ⟨c, cs', rfl, h1, h2⟩ := hv
    obtain ⟨c2, e1, e2⟩ := xa_e0_get t cs' (j + 1) h2 i v (by simpa [xa_e0] using h)
    have hc := xa_cat h1 (xa_tR u)
    refine ⟨c2, e1, ?_⟩
    simp only [lv_args, hc]
    refine List.mem_cons_of_mem _ ?_
    rw [show j + (i + 1) = j + 1 + i by omega]
    exact e2
theorem xa_en_l {as : List xa_V} {cs : List Value} {n : Nat} (hv : xa_vs G as cs) (hn : (xa_e0 as).length ≤ n) : xa_l G (xa_en as n) n ((lg_sl cs ++ List.replicate (n - (lg_sl cs).length) Slot.unset).toArray) := by
  have hlen := xa_e0_len as cs hv
  have he := lv_entry cs (n := n) (by rw [hlen]; exact hn)
  refine ⟨he.1, he.2.1, fun i v hi => ?_⟩
  unfold xa_en at hi
  rw [List.getElem?_append] at hi
  split at hi
  · obtain ⟨c, e1, e2⟩ := xa_e0_get as cs 0 hv i v hi
    exact ⟨c, e1, he.2.2 (i, c) (by simpa using e2)⟩
  · rw [List.getElem?_replicate] at hi
    split at hi <;> simp at hi
/-- the contract out of the walk of the body -/
theorem xa_met {y : MethodName} {as : List xa_V} (hy : plainName y.cls = true) (hown : y.cls = M.2.2.2.1) (hin : M.2.2.2.2 = true → y.name = "<init>") (hn : (xa_e0 as).length ≤ M.2.1) (hls : xa_en as M.2.1 = ls) (k : xa_G l G d M E F 0 ls [] h) {o : xa_O} (ho : E.bind F = some o) : xa_CT l G d M y as h o := by
  obtain ⟨h1, h2⟩ := k o ho
  refine ⟨h1, ?_⟩
  refine Met.ofW (cc := M.1) (maxL := M.2.1) (ret := M.2.2.1) hy rfl ?_
  intro p e s m args below meth c s₁ B hml hP
  obtain ⟨⟨cs, rfl, hv⟩, hrel, hK⟩ := hP
  have hts := atoms_spec (ws := Cond.code y M.1 M.2.1 M.2.2.1 :: xa_W) B.pre
  have hw := h2 (xn h) (xz h) (Nat.le_refl _) (Nat.le_refl _) p e s m cs.toArray below meth c s.heap [] ((lg_sl cs ++ List.replicate (M.2.1 - (lg_sl cs).length) Slot.unset).toArray) []
    ⟨B.exec, B.bytes, hml, by rw [← hown]; exact findClass_of_methodNamed B.named, fun w hw => hts w (List.mem_cons_of_mem _ hw), hK, B.returns, B.notSynchronized, fun hi => (name_of_methodNamed B.named B.method).1.trans (hin hi)⟩
    (by rw [← hls]; exact xa_en_l hv hn) rfl hrel (fun q hq => by simp at hq)
  rw [Nat.sub_self, Nat.sub_self] at hw
  rw [lg_entry_eq]
  exact hw
end XR2
