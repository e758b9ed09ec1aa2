/-! ===== reads and writes ahead of what follows ===== -/
theorem bxgf {β : Type} (h : xa_H) (ci k : Nat) (a : Int) (f : Int → Option β) : (xgf h ci k a).bind f = if xok h ci a = true then f (xm h a.toNat k) else none := by
  unfold xgf
  split <;> rfl
theorem bxpf {β : Type} (h : xa_H) (ci k : Nat) (a v : Int) (f : xa_H → Option β) : (xpf h ci k a v).bind f = if xok h ci a = true then f (xset h a.toNat k v) else none := by
  unfold xpf
  split <;> rfl
theorem bxal {β : Type} (h : xa_H) (kd : Nat) (a i : Int) (f : Int → Option β) : (xal h kd a i).bind f = if xia h kd a i = true then f (xm h a.toNat i.toNat) else none := by
  unfold xal
  split <;> rfl
theorem bxas {β : Type} (h : xa_H) (kd : Nat) (a i v : Int) (f : xa_H → Option β) : (xas h kd a i v).bind f = if xia h kd a i = true then f (xset h a.toNat i.toNat v) else none := by
  unfold xas
  split <;> rfl
theorem bxrc {α β : Type} (h : xa_H) (ci : Nat) (a : Int) (E : Option α) (f : α → Option β) : (xrc h ci a E).bind f = if xok h ci a = true then E.bind f else none := by
  unfold xrc
  split <;> rfl
theorem exrc {α : Type} (h : xa_H) (ci : Nat) (a : Int) (E : Option α) : xrc h ci a E = if xok h ci a = true then E else none := rfl
theorem exnz {α : Type} (v : Int) (E : Option α) : xnz v E = if v = 0 then none else E := rfl
theorem bbind {α β : Type} (v : α) (f : α → Option β) : (some v).bind f = f v := rfl
theorem bxif {α β : Type} (c : Prop) [Decidable c] (E E' : Option α) (f : α → Option β) : (if c then E else E').bind f = if c then E.bind f else E'.bind f := by
  split <;> rfl
