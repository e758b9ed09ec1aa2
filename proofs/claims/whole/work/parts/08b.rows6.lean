section XR6
variable {l : Launch} {G : xa_C} {d : Nat} {M : xa_M} {α β : Type} {F : α → Option xa_O} {pc pc' : Nat} {ls ls' : List (Option xa_V)} {st st' : List xa_V} {h : xa_H}
theorem xa_callVV {Ef : Option (xa_H)} {E : (xa_H) → Option α} {a : Int} {as st0 : List xa_V} {y : MethodName} {M' : xa_M} {d' idx n ci N : Nat} {C : String} {T : u_T} (xc : vwCl[ci]? = some (C, T, N))
    (wl : Cond.methodLink M.2.2.2.1 idx y ∈ xa_W) (wi : Cond.instanceMethod y ∈ xa_W) (wse : Cond.selects C y y ∈ xa_W) (wc : Cond.code y M'.1 M'.2.1 M'.2.2.1 ∈ xa_W) (wz : Cond.initialized y.cls ∈ xa_W)
    (hy : y.cls ≠ "java/lang/invoke/MethodHandle" ∧ y.cls ≠ "java/lang/invoke/VarHandle" ∧ (parseMethodDescriptor y.desc).map (fun d => d.parameters.length) = some n) (hn : as.length = n) (hd2 : d' + 1 ≤ d ∧ 8 + (M'.2.1 + 11) + 64 * d' ≤ 64 * d) (hst : xa_cs st ≤ 8) (hs0 : st0 = as.reverse ++ xR a :: st)
    (hd : decode M.1 pc = .ok (.invokevirtual idx, 3) ∧ pc + 3 = pc')
    (hct : ∀ r : xa_H, Ef = some r → xa_CT l G d' M' y (xR a :: as) h (none, r))
    (kk : ∀ r : xa_H, Ef = some r → xa_G l G d M (E r) F pc' ls st r) : xa_G l G d M ((xrc h ci a Ef).bind E) F pc ls st0 h := xa_callV (cv := fun (r : xa_H) => (none, r)) xc wl wi wse wc wz hy hn hd2 hst hs0 hd hct kk
theorem xa_callVI {Ef : Option (Int × xa_H)} {E : (Int × xa_H) → Option α} {a : Int} {as st0 : List xa_V} {y : MethodName} {M' : xa_M} {d' idx n ci N : Nat} {C : String} {T : u_T} (xc : vwCl[ci]? = some (C, T, N))
    (wl : Cond.methodLink M.2.2.2.1 idx y ∈ xa_W) (wi : Cond.instanceMethod y ∈ xa_W) (wse : Cond.selects C y y ∈ xa_W) (wc : Cond.code y M'.1 M'.2.1 M'.2.2.1 ∈ xa_W) (wz : Cond.initialized y.cls ∈ xa_W)
    (hy : y.cls ≠ "java/lang/invoke/MethodHandle" ∧ y.cls ≠ "java/lang/invoke/VarHandle" ∧ (parseMethodDescriptor y.desc).map (fun d => d.parameters.length) = some n) (hn : as.length = n) (hd2 : d' + 1 ≤ d ∧ 8 + (M'.2.1 + 11) + 64 * d' ≤ 64 * d) (hst : xa_cs st ≤ 8) (hs0 : st0 = as.reverse ++ xR a :: st)
    (hd : decode M.1 pc = .ok (.invokevirtual idx, 3) ∧ pc + 3 = pc')
    (hct : ∀ r : Int × xa_H, Ef = some r → xa_CT l G d' M' y (xR a :: as) h (some (xI r.1), r.2))
    (kk : ∀ r : Int × xa_H, Ef = some r → xa_G l G d M (E r) F pc' ls (xI r.1 :: st) r.2) : xa_G l G d M ((xrc h ci a Ef).bind E) F pc ls st0 h := xa_callV (cv := fun (r : Int × xa_H) => (some (xI r.1), r.2)) xc wl wi wse wc wz hy hn hd2 hst hs0 hd hct kk
theorem xa_callVi {Ef : Option (Int)} {E : (Int) → Option α} {a : Int} {as st0 : List xa_V} {y : MethodName} {M' : xa_M} {d' idx n ci N : Nat} {C : String} {T : u_T} (xc : vwCl[ci]? = some (C, T, N))
    (wl : Cond.methodLink M.2.2.2.1 idx y ∈ xa_W) (wi : Cond.instanceMethod y ∈ xa_W) (wse : Cond.selects C y y ∈ xa_W) (wc : Cond.code y M'.1 M'.2.1 M'.2.2.1 ∈ xa_W) (wz : Cond.initialized y.cls ∈ xa_W)
    (hy : y.cls ≠ "java/lang/invoke/MethodHandle" ∧ y.cls ≠ "java/lang/invoke/VarHandle" ∧ (parseMethodDescriptor y.desc).map (fun d => d.parameters.length) = some n) (hn : as.length = n) (hd2 : d' + 1 ≤ d ∧ 8 + (M'.2.1 + 11) + 64 * d' ≤ 64 * d) (hst : xa_cs st ≤ 8) (hs0 : st0 = as.reverse ++ xR a :: st)
    (hd : decode M.1 pc = .ok (.invokevirtual idx, 3) ∧ pc + 3 = pc')
    (hct : ∀ r : Int, Ef = some r → xa_CT l G d' M' y (xR a :: as) h (some (xI r), h))
    (kk : ∀ r : Int, Ef = some r → xa_G l G d M (E r) F pc' ls (xI r :: st) h) : xa_G l G d M ((xrc h ci a Ef).bind E) F pc ls st0 h := xa_callV (cv := fun (r : Int) => (some (xI r), h)) xc wl wi wse wc wz hy hn hd2 hst hs0 hd hct kk
theorem xa_callVL {Ef : Option (Int × xa_H)} {E : (Int × xa_H) → Option α} {a : Int} {as st0 : List xa_V} {y : MethodName} {M' : xa_M} {d' idx n ci N : Nat} {C : String} {T : u_T} (xc : vwCl[ci]? = some (C, T, N))
    (wl : Cond.methodLink M.2.2.2.1 idx y ∈ xa_W) (wi : Cond.instanceMethod y ∈ xa_W) (wse : Cond.selects C y y ∈ xa_W) (wc : Cond.code y M'.1 M'.2.1 M'.2.2.1 ∈ xa_W) (wz : Cond.initialized y.cls ∈ xa_W)
    (hy : y.cls ≠ "java/lang/invoke/MethodHandle" ∧ y.cls ≠ "java/lang/invoke/VarHandle" ∧ (parseMethodDescriptor y.desc).map (fun d => d.parameters.length) = some n) (hn : as.length = n) (hd2 : d' + 1 ≤ d ∧ 8 + (M'.2.1 + 11) + 64 * d' ≤ 64 * d) (hst : xa_cs st ≤ 8) (hs0 : st0 = as.reverse ++ xR a :: st)
    (hd : decode M.1 pc = .ok (.invokevirtual idx, 3) ∧ pc + 3 = pc')
    (hct : ∀ r : Int × xa_H, Ef = some r → xa_CT l G d' M' y (xR a :: as) h (some (xL r.1), r.2))
    (kk : ∀ r : Int × xa_H, Ef = some r → xa_G l G d M (E r) F pc' ls (xL r.1 :: st) r.2) : xa_G l G d M ((xrc h ci a Ef).bind E) F pc ls st0 h := xa_callV (cv := fun (r : Int × xa_H) => (some (xL r.1), r.2)) xc wl wi wse wc wz hy hn hd2 hst hs0 hd hct kk
theorem xa_callVl {Ef : Option (Int)} {E : (Int) → Option α} {a : Int} {as st0 : List xa_V} {y : MethodName} {M' : xa_M} {d' idx n ci N : Nat} {C : String} {T : u_T} (xc : vwCl[ci]? = some (C, T, N))
    (wl : Cond.methodLink M.2.2.2.1 idx y ∈ xa_W) (wi : Cond.instanceMethod y ∈ xa_W) (wse : Cond.selects C y y ∈ xa_W) (wc : Cond.code y M'.1 M'.2.1 M'.2.2.1 ∈ xa_W) (wz : Cond.initialized y.cls ∈ xa_W)
    (hy : y.cls ≠ "java/lang/invoke/MethodHandle" ∧ y.cls ≠ "java/lang/invoke/VarHandle" ∧ (parseMethodDescriptor y.desc).map (fun d => d.parameters.length) = some n) (hn : as.length = n) (hd2 : d' + 1 ≤ d ∧ 8 + (M'.2.1 + 11) + 64 * d' ≤ 64 * d) (hst : xa_cs st ≤ 8) (hs0 : st0 = as.reverse ++ xR a :: st)
    (hd : decode M.1 pc = .ok (.invokevirtual idx, 3) ∧ pc + 3 = pc')
    (hct : ∀ r : Int, Ef = some r → xa_CT l G d' M' y (xR a :: as) h (some (xL r), h))
    (kk : ∀ r : Int, Ef = some r → xa_G l G d M (E r) F pc' ls (xL r :: st) h) : xa_G l G d M ((xrc h ci a Ef).bind E) F pc ls st0 h := xa_callV (cv := fun (r : Int) => (some (xL r), h)) xc wl wi wse wc wz hy hn hd2 hst hs0 hd hct kk
theorem xa_callVR {Ef : Option (Int × xa_H)} {E : (Int × xa_H) → Option α} {a : Int} {as st0 : List xa_V} {y : MethodName} {M' : xa_M} {d' idx n ci N : Nat} {C : String} {T : u_T} (xc : vwCl[ci]? = some (C, T, N))
    (wl : Cond.methodLink M.2.2.2.1 idx y ∈ xa_W) (wi : Cond.instanceMethod y ∈ xa_W) (wse : Cond.selects C y y ∈ xa_W) (wc : Cond.code y M'.1 M'.2.1 M'.2.2.1 ∈ xa_W) (wz : Cond.initialized y.cls ∈ xa_W)
    (hy : y.cls ≠ "java/lang/invoke/MethodHandle" ∧ y.cls ≠ "java/lang/invoke/VarHandle" ∧ (parseMethodDescriptor y.desc).map (fun d => d.parameters.length) = some n) (hn : as.length = n) (hd2 : d' + 1 ≤ d ∧ 8 + (M'.2.1 + 11) + 64 * d' ≤ 64 * d) (hst : xa_cs st ≤ 8) (hs0 : st0 = as.reverse ++ xR a :: st)
    (hd : decode M.1 pc = .ok (.invokevirtual idx, 3) ∧ pc + 3 = pc')
    (hct : ∀ r : Int × xa_H, Ef = some r → xa_CT l G d' M' y (xR a :: as) h (some (xR r.1), r.2))
    (kk : ∀ r : Int × xa_H, Ef = some r → xa_G l G d M (E r) F pc' ls (xR r.1 :: st) r.2) : xa_G l G d M ((xrc h ci a Ef).bind E) F pc ls st0 h := xa_callV (cv := fun (r : Int × xa_H) => (some (xR r.1), r.2)) xc wl wi wse wc wz hy hn hd2 hst hs0 hd hct kk
theorem xa_callVr {Ef : Option (Int)} {E : (Int) → Option α} {a : Int} {as st0 : List xa_V} {y : MethodName} {M' : xa_M} {d' idx n ci N : Nat} {C : String} {T : u_T} (xc : vwCl[ci]? = some (C, T, N))
    (wl : Cond.methodLink M.2.2.2.1 idx y ∈ xa_W) (wi : Cond.instanceMethod y ∈ xa_W) (wse : Cond.selects C y y ∈ xa_W) (wc : Cond.code y M'.1 M'.2.1 M'.2.2.1 ∈ xa_W) (wz : Cond.initialized y.cls ∈ xa_W)
    (hy : y.cls ≠ "java/lang/invoke/MethodHandle" ∧ y.cls ≠ "java/lang/invoke/VarHandle" ∧ (parseMethodDescriptor y.desc).map (fun d => d.parameters.length) = some n) (hn : as.length = n) (hd2 : d' + 1 ≤ d ∧ 8 + (M'.2.1 + 11) + 64 * d' ≤ 64 * d) (hst : xa_cs st ≤ 8) (hs0 : st0 = as.reverse ++ xR a :: st)
    (hd : decode M.1 pc = .ok (.invokevirtual idx, 3) ∧ pc + 3 = pc')
    (hct : ∀ r : Int, Ef = some r → xa_CT l G d' M' y (xR a :: as) h (some (xR r), h))
    (kk : ∀ r : Int, Ef = some r → xa_G l G d M (E r) F pc' ls (xR r :: st) h) : xa_G l G d M ((xrc h ci a Ef).bind E) F pc ls st0 h := xa_callV (cv := fun (r : Int) => (some (xR r), h)) xc wl wi wse wc wz hy hn hd2 hst hs0 hd hct kk
theorem xa_callVv {Ef : Option (Unit)} {E : (Unit) → Option α} {a : Int} {as st0 : List xa_V} {y : MethodName} {M' : xa_M} {d' idx n ci N : Nat} {C : String} {T : u_T} (xc : vwCl[ci]? = some (C, T, N))
    (wl : Cond.methodLink M.2.2.2.1 idx y ∈ xa_W) (wi : Cond.instanceMethod y ∈ xa_W) (wse : Cond.selects C y y ∈ xa_W) (wc : Cond.code y M'.1 M'.2.1 M'.2.2.1 ∈ xa_W) (wz : Cond.initialized y.cls ∈ xa_W)
    (hy : y.cls ≠ "java/lang/invoke/MethodHandle" ∧ y.cls ≠ "java/lang/invoke/VarHandle" ∧ (parseMethodDescriptor y.desc).map (fun d => d.parameters.length) = some n) (hn : as.length = n) (hd2 : d' + 1 ≤ d ∧ 8 + (M'.2.1 + 11) + 64 * d' ≤ 64 * d) (hst : xa_cs st ≤ 8) (hs0 : st0 = as.reverse ++ xR a :: st)
    (hd : decode M.1 pc = .ok (.invokevirtual idx, 3) ∧ pc + 3 = pc')
    (hct : ∀ r : Unit, Ef = some r → xa_CT l G d' M' y (xR a :: as) h (none, h))
    (kk : ∀ r : Unit, Ef = some r → xa_G l G d M (E r) F pc' ls st h) : xa_G l G d M ((xrc h ci a Ef).bind E) F pc ls st0 h := xa_callV (cv := fun (r : Unit) => (none, h)) xc wl wi wse wc wz hy hn hd2 hst hs0 hd hct kk
theorem xa_callSV {Ef : Option (xa_H)} {E : (xa_H) → Option α} {as st0 : List xa_V} {y : MethodName} {M' : xa_M} {d' idx n : Nat}
    (wl : Cond.methodLink M.2.2.2.1 idx y ∈ xa_W) (wi : Cond.static y ∈ xa_W) (wc : Cond.code y M'.1 M'.2.1 M'.2.2.1 ∈ xa_W) (wz : Cond.initialized y.cls ∈ xa_W)
    (hy : y.cls ≠ "java/lang/invoke/MethodHandle" ∧ y.cls ≠ "java/lang/invoke/VarHandle" ∧ (parseMethodDescriptor y.desc).map (fun d => d.parameters.length) = some n) (hn : as.length = n) (hd2 : d' + 1 ≤ d ∧ 8 + (M'.2.1 + 11) + 64 * d' ≤ 64 * d) (hst : xa_cs st ≤ 8) (hs0 : st0 = as.reverse ++ st)
    (hd : decode M.1 pc = .ok (.invokestatic idx, 3) ∧ pc + 3 = pc')
    (hct : ∀ r : xa_H, Ef = some r → xa_CT l G d' M' y as h (none, r))
    (kk : ∀ r : xa_H, Ef = some r → xa_G l G d M (E r) F pc' ls st r) : xa_G l G d M (Ef.bind E) F pc ls st0 h := xa_callS (cv := fun (r : xa_H) => (none, r)) wl wi wc wz hy hn hd2 hst hs0 hd hct kk
theorem xa_callSI {Ef : Option (Int × xa_H)} {E : (Int × xa_H) → Option α} {as st0 : List xa_V} {y : MethodName} {M' : xa_M} {d' idx n : Nat}
    (wl : Cond.methodLink M.2.2.2.1 idx y ∈ xa_W) (wi : Cond.static y ∈ xa_W) (wc : Cond.code y M'.1 M'.2.1 M'.2.2.1 ∈ xa_W) (wz : Cond.initialized y.cls ∈ xa_W)
    (hy : y.cls ≠ "java/lang/invoke/MethodHandle" ∧ y.cls ≠ "java/lang/invoke/VarHandle" ∧ (parseMethodDescriptor y.desc).map (fun d => d.parameters.length) = some n) (hn : as.length = n) (hd2 : d' + 1 ≤ d ∧ 8 + (M'.2.1 + 11) + 64 * d' ≤ 64 * d) (hst : xa_cs st ≤ 8) (hs0 : st0 = as.reverse ++ st)
    (hd : decode M.1 pc = .ok (.invokestatic idx, 3) ∧ pc + 3 = pc')
    (hct : ∀ r : Int × xa_H, Ef = some r → xa_CT l G d' M' y as h (some (xI r.1), r.2))
    (kk : ∀ r : Int × xa_H, Ef = some r → xa_G l G d M (E r) F pc' ls (xI r.1 :: st) r.2) : xa_G l G d M (Ef.bind E) F pc ls st0 h := xa_callS (cv := fun (r : Int × xa_H) => (some (xI r.1), r.2)) wl wi wc wz hy hn hd2 hst hs0 hd hct kk
theorem xa_callSi {Ef : Option (Int)} {E : (Int) → Option α} {as st0 : List xa_V} {y : MethodName} {M' : xa_M} {d' idx n : Nat}
    (wl : Cond.methodLink M.2.2.2.1 idx y ∈ xa_W) (wi : Cond.static y ∈ xa_W) (wc : Cond.code y M'.1 M'.2.1 M'.2.2.1 ∈ xa_W) (wz : Cond.initialized y.cls ∈ xa_W)
    (hy : y.cls ≠ "java/lang/invoke/MethodHandle" ∧ y.cls ≠ "java/lang/invoke/VarHandle" ∧ (parseMethodDescriptor y.desc).map (fun d => d.parameters.length) = some n) (hn : as.length = n) (hd2 : d' + 1 ≤ d ∧ 8 + (M'.2.1 + 11) + 64 * d' ≤ 64 * d) (hst : xa_cs st ≤ 8) (hs0 : st0 = as.reverse ++ st)
    (hd : decode M.1 pc = .ok (.invokestatic idx, 3) ∧ pc + 3 = pc')
    (hct : ∀ r : Int, Ef = some r → xa_CT l G d' M' y as h (some (xI r), h))
    (kk : ∀ r : Int, Ef = some r → xa_G l G d M (E r) F pc' ls (xI r :: st) h) : xa_G l G d M (Ef.bind E) F pc ls st0 h := xa_callS (cv := fun (r : Int) => (some (xI r), h)) wl wi wc wz hy hn hd2 hst hs0 hd hct kk
theorem xa_callSL {Ef : Option (Int × xa_H)} {E : (Int × xa_H) → Option α} {as st0 : List xa_V} {y : MethodName} {M' : xa_M} {d' idx n : Nat}
    (wl : Cond.methodLink M.2.2.2.1 idx y ∈ xa_W) (wi : Cond.static y ∈ xa_W) (wc : Cond.code y M'.1 M'.2.1 M'.2.2.1 ∈ xa_W) (wz : Cond.initialized y.cls ∈ xa_W)
    (hy : y.cls ≠ "java/lang/invoke/MethodHandle" ∧ y.cls ≠ "java/lang/invoke/VarHandle" ∧ (parseMethodDescriptor y.desc).map (fun d => d.parameters.length) = some n) (hn : as.length = n) (hd2 : d' + 1 ≤ d ∧ 8 + (M'.2.1 + 11) + 64 * d' ≤ 64 * d) (hst : xa_cs st ≤ 8) (hs0 : st0 = as.reverse ++ st)
    (hd : decode M.1 pc = .ok (.invokestatic idx, 3) ∧ pc + 3 = pc')
    (hct : ∀ r : Int × xa_H, Ef = some r → xa_CT l G d' M' y as h (some (xL r.1), r.2))
    (kk : ∀ r : Int × xa_H, Ef = some r → xa_G l G d M (E r) F pc' ls (xL r.1 :: st) r.2) : xa_G l G d M (Ef.bind E) F pc ls st0 h := xa_callS (cv := fun (r : Int × xa_H) => (some (xL r.1), r.2)) wl wi wc wz hy hn hd2 hst hs0 hd hct kk
theorem xa_callSl {Ef : Option (Int)} {E : (Int) → Option α} {as st0 : List xa_V} {y : MethodName} {M' : xa_M} {d' idx n : Nat}
    (wl : Cond.methodLink M.2.2.2.1 idx y ∈ xa_W) (wi : Cond.static y ∈ xa_W) (wc : Cond.code y M'.1 M'.2.1 M'.2.2.1 ∈ xa_W) (wz : Cond.initialized y.cls ∈ xa_W)
    (hy : y.cls ≠ "java/lang/invoke/MethodHandle" ∧ y.cls ≠ "java/lang/invoke/VarHandle" ∧ (parseMethodDescriptor y.desc).map (fun d => d.parameters.length) = some n) (hn : as.length = n) (hd2 : d' + 1 ≤ d ∧ 8 + (M'.2.1 + 11) + 64 * d' ≤ 64 * d) (hst : xa_cs st ≤ 8) (hs0 : st0 = as.reverse ++ st)
    (hd : decode M.1 pc = .ok (.invokestatic idx, 3) ∧ pc + 3 = pc')
    (hct : ∀ r : Int, Ef = some r → xa_CT l G d' M' y as h (some (xL r), h))
    (kk : ∀ r : Int, Ef = some r → xa_G l G d M (E r) F pc' ls (xL r :: st) h) : xa_G l G d M (Ef.bind E) F pc ls st0 h := xa_callS (cv := fun (r : Int) => (some (xL r), h)) wl wi wc wz hy hn hd2 hst hs0 hd hct kk
theorem xa_callSR {Ef : Option (Int × xa_H)} {E : (Int × xa_H) → Option α} {as st0 : List xa_V} {y : MethodName} {M' : xa_M} {d' idx n : Nat}
    (wl : Cond.methodLink M.2.2.2.1 idx y ∈ xa_W) (wi : Cond.static y ∈ xa_W) (wc : Cond.code y M'.1 M'.2.1 M'.2.2.1 ∈ xa_W) (wz : Cond.initialized y.cls ∈ xa_W)
    (hy : y.cls ≠ "java/lang/invoke/MethodHandle" ∧ y.cls ≠ "java/lang/invoke/VarHandle" ∧ (parseMethodDescriptor y.desc).map (fun d => d.parameters.length) = some n) (hn : as.length = n) (hd2 : d' + 1 ≤ d ∧ 8 + (M'.2.1 + 11) + 64 * d' ≤ 64 * d) (hst : xa_cs st ≤ 8) (hs0 : st0 = as.reverse ++ st)
    (hd : decode M.1 pc = .ok (.invokestatic idx, 3) ∧ pc + 3 = pc')
    (hct : ∀ r : Int × xa_H, Ef = some r → xa_CT l G d' M' y as h (some (xR r.1), r.2))
    (kk : ∀ r : Int × xa_H, Ef = some r → xa_G l G d M (E r) F pc' ls (xR r.1 :: st) r.2) : xa_G l G d M (Ef.bind E) F pc ls st0 h := xa_callS (cv := fun (r : Int × xa_H) => (some (xR r.1), r.2)) wl wi wc wz hy hn hd2 hst hs0 hd hct kk
theorem xa_callSr {Ef : Option (Int)} {E : (Int) → Option α} {as st0 : List xa_V} {y : MethodName} {M' : xa_M} {d' idx n : Nat}
    (wl : Cond.methodLink M.2.2.2.1 idx y ∈ xa_W) (wi : Cond.static y ∈ xa_W) (wc : Cond.code y M'.1 M'.2.1 M'.2.2.1 ∈ xa_W) (wz : Cond.initialized y.cls ∈ xa_W)
    (hy : y.cls ≠ "java/lang/invoke/MethodHandle" ∧ y.cls ≠ "java/lang/invoke/VarHandle" ∧ (parseMethodDescriptor y.desc).map (fun d => d.parameters.length) = some n) (hn : as.length = n) (hd2 : d' + 1 ≤ d ∧ 8 + (M'.2.1 + 11) + 64 * d' ≤ 64 * d) (hst : xa_cs st ≤ 8) (hs0 : st0 = as.reverse ++ st)
    (hd : decode M.1 pc = .ok (.invokestatic idx, 3) ∧ pc + 3 = pc')
    (hct : ∀ r : Int, Ef = some r → xa_CT l G d' M' y as h (some (xR r), h))
    (kk : ∀ r : Int, Ef = some r → xa_G l G d M (E r) F pc' ls (xR r :: st) h) : xa_G l G d M (Ef.bind E) F pc ls st0 h := xa_callS (cv := fun (r : Int) => (some (xR r), h)) wl wi wc wz hy hn hd2 hst hs0 hd hct kk
theorem xa_callSv {Ef : Option (Unit)} {E : (Unit) → Option α} {as st0 : List xa_V} {y : MethodName} {M' : xa_M} {d' idx n : Nat}
    (wl : Cond.methodLink M.2.2.2.1 idx y ∈ xa_W) (wi : Cond.static y ∈ xa_W) (wc : Cond.code y M'.1 M'.2.1 M'.2.2.1 ∈ xa_W) (wz : Cond.initialized y.cls ∈ xa_W)
    (hy : y.cls ≠ "java/lang/invoke/MethodHandle" ∧ y.cls ≠ "java/lang/invoke/VarHandle" ∧ (parseMethodDescriptor y.desc).map (fun d => d.parameters.length) = some n) (hn : as.length = n) (hd2 : d' + 1 ≤ d ∧ 8 + (M'.2.1 + 11) + 64 * d' ≤ 64 * d) (hst : xa_cs st ≤ 8) (hs0 : st0 = as.reverse ++ st)
    (hd : decode M.1 pc = .ok (.invokestatic idx, 3) ∧ pc + 3 = pc')
    (hct : ∀ r : Unit, Ef = some r → xa_CT l G d' M' y as h (none, h))
    (kk : ∀ r : Unit, Ef = some r → xa_G l G d M (E r) F pc' ls st h) : xa_G l G d M (Ef.bind E) F pc ls st0 h := xa_callS (cv := fun (r : Unit) => (none, h)) wl wi wc wz hy hn hd2 hst hs0 hd hct kk
theorem xa_callIV {Ef : Option (xa_H)} {E : (xa_H) → Option α} {nn : Nat} {as st0 : List xa_V} {y : MethodName} {M' : xa_M} {d' idx n : Nat} (hr0 : M'.2.2.1 = none) (hyn : y.name = "<init>")
    (wl : Cond.methodLink M.2.2.2.1 idx y ∈ xa_W) (wi : Cond.instanceMethod y ∈ xa_W) (wc : Cond.code y M'.1 M'.2.1 M'.2.2.1 ∈ xa_W) (wz : Cond.initialized y.cls ∈ xa_W)
    (hy : y.cls ≠ "java/lang/invoke/MethodHandle" ∧ y.cls ≠ "java/lang/invoke/VarHandle" ∧ (parseMethodDescriptor y.desc).map (fun d => d.parameters.length) = some n) (hn : as.length = n) (hd2 : d' + 1 ≤ d ∧ 8 + (M'.2.1 + 11) + 64 * d' ≤ 64 * d) (hst : xa_cs st ≤ 8) (hs0 : st0 = as.reverse ++ xR (nn : Int) :: st)
    (hd : decode M.1 pc = .ok (.invokespecial idx, 3) ∧ pc + 3 = pc')
    (hct : ∀ r : xa_H, Ef = some r → xa_CT l G d' M' y (xR (nn : Int) :: as) h (none, r))
    (kk : ∀ r : xa_H, Ef = some r → xa_G l G d M (E r) F pc' ls st r) : xa_G l G d M (Ef.bind E) F pc ls st0 h := xa_callI (cv := fun (r : xa_H) => (none, r)) hr0 hyn wl wi wc wz hy hn hd2 hst hs0 hd hct kk
theorem xa_callINV {Ef : Option (xa_H)} {E : (xa_H) → Option α} {nn : Nat} {as st0 : List xa_V} {y : MethodName} {M' : xa_M} {d' idx n : Nat} {host : String} (hr0 : M'.2.2.1 = none) (hyn : y.name = "<init>")
    (wl : Cond.methodLinkNest M.2.2.2.1 idx y host ∈ xa_N) (wi : Cond.instanceMethod y ∈ xa_W) (wc : Cond.code y M'.1 M'.2.1 M'.2.2.1 ∈ xa_W) (wz : Cond.initialized y.cls ∈ xa_W)
    (hy : y.cls ≠ "java/lang/invoke/MethodHandle" ∧ y.cls ≠ "java/lang/invoke/VarHandle" ∧ (parseMethodDescriptor y.desc).map (fun d => d.parameters.length) = some n) (hn : as.length = n) (hd2 : d' + 1 ≤ d ∧ 8 + (M'.2.1 + 11) + 64 * d' ≤ 64 * d) (hst : xa_cs st ≤ 8) (hs0 : st0 = as.reverse ++ xR (nn : Int) :: st)
    (hd : decode M.1 pc = .ok (.invokespecial idx, 3) ∧ pc + 3 = pc')
    (hct : ∀ r : xa_H, Ef = some r → xa_CT l G d' M' y (xR (nn : Int) :: as) h (none, r))
    (kk : ∀ r : xa_H, Ef = some r → xa_G l G d M (E r) F pc' ls st r) : xa_G l G d M (Ef.bind E) F pc ls st0 h := xa_callIN (cv := fun (r : xa_H) => (none, r)) hr0 hyn wl wi wc wz hy hn hd2 hst hs0 hd hct kk
end XR6
