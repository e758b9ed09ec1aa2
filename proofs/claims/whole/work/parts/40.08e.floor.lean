section XR9
variable {l : Launch} {G : xa_C} {d : Nat} {M : xa_M} {α β : Type} {F : α → Option xa_O} {pc pc' : Nat} {ls ls' : List (Option xa_V)} {st st' : List xa_V} {h : xa_H}
theorem xa_mfd {a b : Int} {E : Int → Option α} {idx : Nat} (wl : Cond.methodLink M.2.2.2.1 idx yJ9_floorDiv_7cf53 ∈ xa_W) (ws : Cond.static yJ9_floorDiv_7cf53 ∈ xa_W) (wz : Cond.initialized "java/lang/Math" ∈ xa_W) (wc : Cond.code yJ9_floorDiv_7cf53 cJ9_floorDiv_7cf53 3 (some .int) ∈ xa_W) (hd2 : 1 ≤ d) (hst : xa_cs st ≤ 8) (hd : decode M.1 pc = .ok (.invokestatic idx, 3) ∧ pc + 3 = pc') (kk : ∀ v, xfd a b = some v → xa_G l G d M (E v) F pc' ls (xI v :: st) h) : xa_G l G d M ((xfd a b).bind E) F pc ls (xI b :: xI a :: st) h := sorry
end XR9
