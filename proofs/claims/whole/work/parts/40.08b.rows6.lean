section XR6
variable {l : Launch} {G : xa_C} {d : Nat} {M : xa_M} {α β : Type} {F : α → Option xa_O} {pc pc' : Nat} {ls ls' : List (Option xa_V)} {st st' : List xa_V} {h : xa_H}
theorem xa_callVV {Ef : Option (xa_H)} {E : (xa_H) → Option α} {a : Int} {as st0 : List xa_V} {y : MethodName} {M' : xa_M} {d' idx n ci N : Nat} {C : String} {T : u_T} (xc : vwCl[ci]? = some (C, T, N))
    (wl : Cond.methodLink M.2.2.2.1 idx y ∈ xa_W) (wi : Cond.instanceMethod y ∈ xa_W) (wse : Cond.selects C y y ∈ xa_W) (wc : Cond.code y M'.1 M'.2.1 M'.2.2.1 ∈ xa_W) (wz : Cond.initialized y.cls ∈ xa_W)
    (hy : y.cls ≠ "java/lang/invoke/MethodHandle" ∧ y.cls ≠ "java/lang/invoke/VarHandle" ∧ (parseMethodDescriptor y.desc).map (fun d => d.parameters.length) = some n) (hn : as.length = n) (hd2 : d' + 1 ≤ d ∧ 8 + (M'.2.1 + 11) + 64 * d' ≤ 64 * d) (hst : xa_cs st ≤ 8) (hs0 : st0 = as.reverse ++ xR a :: st)
    (hd : decode M.1 pc = .ok (.invokevirtual idx, 3) ∧ pc + 3 = pc')
    (hct : ∀ r : xa_H, Ef = some r → xa_CT l G d' M' y (xR a :: as) h (none, r))
    (kk : ∀ r : xa_H, Ef = some r → xa_G l G d M (E r) F pc' ls st r) : xa_G l G d M ((xrc h ci a Ef).bind E) F pc ls st0 h := xa_callV (cv := fun (r : xa_H) => (none, r)) xc wl wi wse wc wz hy hn hd2 hst hs0 hd hct kk
theorem xa_callVI {Ef : Option (Int × xa_H)} {E : (Int × xa_H) → Option α} {a : Int} {as st0 : List xa_V} {y : MethodName} {M' : xa_M} {d' idx n ci N : Nat} {C : String} {T : u_T} (xc : vwCl[ci]? = some (C, T, N))
    (wl : Cond.methodLink M.2.2.2.1 idx y ∈ xa_W) (wi : Cond.instanceMethod y ∈ xa_W) (wse : Cond.selects C y y ∈ xa_W) (wc : Cond.code y M'.1 M'.2.1 M'.2.2.1 ∈ xa_W) (wz : Cond.initialized y.cls ∈ xa_W)
    (hy : y.cls ≠ "java/lang/invoke/MethodHandle" ∧ y.cls ≠ "java/lang/invoke/VarHandle" ∧ (parseMethodDescriptor y.desc).map (fun d => d.parameters.length) = some n) (hn : as.length = n) (hd2 : d' + 1 ≤ d ∧ 8 + (M'.2.1 + 11) + 64 * d' ≤ 64 * d) (hst : xa_cs st ≤ 8) (hs0 : st0 = as.reverse ++ xR a :: st)
    (hd : decode M.1 pc = .ok (.invokevirtual idx, 3) ∧ pc + 3 = pc')
    (hct : ∀ r : Int × xa_H, Ef = some r → xa_CT l G d' M' y (xR a :: as) h (some (xI r.1), r.2))
    (kk : ∀ r : Int × xa_H, Ef = some r → xa_G l G d M (E r) F pc' ls (xI r.1 :: st) r.2) : xa_G l G d M ((xrc h ci a Ef).bind E) F pc ls st0 h := xa_callV (cv := fun (r : Int × xa_H) => (some (xI r.1), r.2)) xc wl wi wse wc wz hy hn hd2 hst hs0 hd hct kk
theorem xa_callVi {Ef : Option (Int)} {E : (Int) → Option α} {a : Int} {as st0 : List xa_V} {y : MethodName} {M' : xa_M} {d' idx n ci N : Nat} {C : String} {T : u_T} (xc : vwCl[ci]? = some (C, T, N))
    (wl : Cond.methodLink M.2.2.2.1 idx y ∈ xa_W) (wi : Cond.instanceMethod y ∈ xa_W) (wse : Cond.selects C y y ∈ xa_W) (wc : Cond.code y M'.1 M'.2.1 M'.2.2.1 ∈ xa_W) (wz : Cond.initialized y.cls ∈ xa_W)
    (hy : y.cls ≠ "java/lang/invoke/MethodHandle" ∧ y.cls ≠ "java/lang/invoke/VarHandle" ∧ (parseMethodDescriptor y.desc).map (fun d => d.parameters.length) = some n) (hn : as.length = n) (hd2 : d' + 1 ≤ d ∧ 8 + (M'.2.1 + 11) + 64 * d' ≤ 64 * d) (hst : xa_cs st ≤ 8) (hs0 : st0 = as.reverse ++ xR a :: st)
    (hd : decode M.1 pc = .ok (.invokevirtual idx, 3) ∧ pc + 3 = pc')
    (hct : ∀ r : Int, Ef = some r → xa_CT l G d' M' y (xR a :: as) h (some (xI r), h))
    (kk : ∀ r : Int, Ef = some r → xa_G l G d M (E r) F pc' ls (xI r :: st) h) : xa_G l G d M ((xrc h ci a Ef).bind E) F pc ls st0 h := xa_callV (cv := fun (r : Int) => (some (xI r), h)) xc wl wi wse wc wz hy hn hd2 hst hs0 hd hct kk
theorem xa_callVL {Ef : Option (Int × xa_H)} {E : (Int × xa_H) → Option α} {a : Int} {as st0 : List xa_V} {y : MethodName} {M' : xa_M} {d' idx n ci N : Nat} {C : String} {T : u_T} (xc : vwCl[ci]? = some (C, T, N))
    (wl : Cond.methodLink M.2.2.2.1 idx y ∈ xa_W) (wi : Cond.instanceMethod y ∈ xa_W) (wse : Cond.selects C y y ∈ xa_W) (wc : Cond.code y M'.1 M'.2.1 M'.2.2.1 ∈ xa_W) (wz : Cond.initialized y.cls ∈ xa_W)
    (hy : y.cls ≠ "java/lang/invoke/MethodHandle" ∧ y.cls ≠ "java/lang/invoke/VarHandle" ∧ (parseMethodDescriptor y.desc).map (fun d => d.parameters.length) = some n) (hn : as.length = n) (hd2 : d' + 1 ≤ d ∧ 8 + (M'.2.1 + 11) + 64 * d' ≤ 64 * d) (hst : xa_cs st ≤ 8) (hs0 : st0 = as.reverse ++ xR a :: st)
    (hd : decode M.1 pc = .ok (.invokevirtual idx, 3) ∧ pc + 3 = pc')
    (hct : ∀ r : Int × xa_H, Ef = some r → xa_CT l G d' M' y (xR a :: as) h (some (xL r.1), r.2))
    (kk : ∀ r : Int × xa_H, Ef = some r → xa_G l G d M (E r) F pc' ls (xL r.1 :: st) r.2) : xa_G l G d M ((xrc h ci a Ef).bind E) F pc ls st0 h := xa_callV (cv := fun (r : Int × xa_H) => (some (xL r.1), r.2)) xc wl wi wse wc wz hy hn hd2 hst hs0 hd hct kk
theorem xa_callVl {Ef : Option (Int)} {E : (Int) → Option α} {a : Int} {as st0 : List xa_V} {y : MethodName} {M' : xa_M} {d' idx n ci N : Nat} {C : String} {T : u_T} (xc : vwCl[ci]? = some (C, T, N))
    (wl : Cond.methodLink M.2.2.2.1 idx y ∈ xa_W) (wi : Cond.instanceMethod y ∈ xa_W) (wse : Cond.selects C y y ∈ xa_W) (wc : Cond.code y M'.1 M'.2.1 M'.2.2.1 ∈ xa_W) (wz : Cond.initialized y.cls ∈ xa_W)
    (hy : y.cls ≠ "java/lang/invoke/MethodHandle" ∧ y.cls ≠ "java/lang/invoke/VarHandle" ∧ (parseMethodDescriptor y.desc).map (fun d => d.parameters.length) = some n) (hn : as.length = n) (hd2 : d' + 1 ≤ d ∧ 8 + (M'.2.1 + 11) + 64 * d' ≤ 64 * d) (hst : xa_cs st ≤ 8) (hs0 : st0 = as.reverse ++ xR a :: st)
    (hd : decode M.1 pc = .ok (.invokevirtual idx, 3) ∧ pc + 3 = pc')
    (hct : ∀ r : Int, Ef = some r → xa_CT l G d' M' y (xR a :: as) h (some (xL r), h))
    (kk : ∀ r : Int, Ef = some r → xa_G l G d M (E r) F pc' ls (xL r :: st) h) : xa_G l G d M ((xrc h ci a Ef).bind E) F pc ls st0 h := xa_callV (cv := fun (r : Int) => (some (xL r), h)) xc wl wi wse wc wz hy hn hd2 hst hs0 hd hct kk
theorem xa_callVR {Ef : Option (Int × xa_H)} {E : (Int × xa_H) → Option α} {a : Int} {as st0 : List xa_V} {y : MethodName} {M' : xa_M} {d' idx n ci N : Nat} {C : String} {T : u_T} (xc : vwCl[ci]? = some (C, T, N))
    (wl : Cond.methodLink M.2.2.2.1 idx y ∈ xa_W) (wi : Cond.instanceMethod y ∈ xa_W) (wse : Cond.selects C y y ∈ xa_W) (wc : Cond.code y M'.1 M'.2.1 M'.2.2.1 ∈ xa_W) (wz : Cond.initialized y.cls ∈ xa_W)
    (hy : y.cls ≠ "java/lang/invoke/MethodHandle" ∧ y.cls ≠ "java/lang/invoke/VarHandle" ∧ (parseMethodDescriptor y.desc).map (fun d => d.parameters.length) = some n) (hn : as.length = n) (hd2 : d' + 1 ≤ d ∧ 8 + (M'.2.1 + 11) + 64 * d' ≤ 64 * d) (hst : xa_cs st ≤ 8) (hs0 : st0 = as.reverse ++ xR a :: st)
    (hd : decode M.1 pc = .ok (.invokevirtual idx, 3) ∧ pc + 3 = pc')
    (hct : ∀ r : Int × xa_H, Ef = some r → xa_CT l G d' M' y (xR a :: as) h (some (xR r.1), r.2))
    (kk : ∀ r : Int × xa_H, Ef = some r → xa_G l G d M (E r) F pc' ls (xR r.1 :: st) r.2) : xa_G l G d M ((xrc h ci a Ef).bind E) F pc ls st0 h := xa_callV (cv := fun (r : Int × xa_H) => (some (xR r.1), r.2)) xc wl wi wse wc wz hy hn hd2 hst hs0 hd hct kk
theorem xa_callVr {Ef : Option (Int)} {E : (Int) → Option α} {a : Int} {as st0 : List xa_V} {y : MethodName} {M' : xa_M} {d' idx n ci N : Nat} {C : String} {T : u_T} (xc : vwCl[ci]? = some (C, T, N))
    (wl : Cond.methodLink M.2.2.2.1 idx y ∈ xa_W) (wi : Cond.instanceMethod y ∈ xa_W) (wse : Cond.selects C y y ∈ xa_W) (wc : Cond.code y M'.1 M'.2.1 M'.2.2.1 ∈ xa_W) (wz : Cond.initialized y.cls ∈ xa_W)
    (hy : y.cls ≠ "java/lang/invoke/MethodHandle" ∧ y.cls ≠ "java/lang/invoke/VarHandle" ∧ (parseMethodDescriptor y.desc).map (fun d => d.parameters.length) = some n) (hn : as.length = n) (hd2 : d' + 1 ≤ d ∧ 8 + (M'.2.1 + 11) + 64 * d' ≤ 64 * d) (hst : xa_cs st ≤ 8) (hs0 : st0 = as.reverse ++ xR a :: st)
    (hd : decode M.1 pc = .ok (.invokevirtual idx, 3) ∧ pc + 3 = pc')
    (hct : ∀ r : Int, Ef = some r → xa_CT l G d' M' y (xR a :: as) h (some (xR r), h))
    (kk : ∀ r : Int, Ef = some r → xa_G l G d M (E r) F pc' ls (xR r :: st) h) : xa_G l G d M ((xrc h ci a Ef).bind E) F pc ls st0 h := xa_callV (cv := fun (r : Int) => (some (xR r), h)) xc wl wi wse wc wz hy hn hd2 hst hs0 hd hct kk
theorem xa_callVv {Ef : Option (Unit)} {E : (Unit) → Option α} {a : Int} {as st0 : List xa_V} {y : MethodName} {M' : xa_M} {d' idx n ci N : Nat} {C : String} {T : u_T} (xc : vwCl[ci]? = some (C, T, N))
    (wl : Cond.methodLink M.2.2.2.1 idx y ∈ xa_W) (wi : Cond.instanceMethod y ∈ xa_W) (wse : Cond.selects C y y ∈ xa_W) (wc : Cond.code y M'.1 M'.2.1 M'.2.2.1 ∈ xa_W) (wz : Cond.initialized y.cls ∈ xa_W)
    (hy : y.cls ≠ "java/lang/invoke/MethodHandle" ∧ y.cls ≠ "java/lang/invoke/VarHandle" ∧ (parseMethodDescriptor y.desc).map (fun d => d.parameters.length) = some n) (hn : as.length = n) (hd2 : d' + 1 ≤ d ∧ 8 + (M'.2.1 + 11) + 64 * d' ≤ 64 * d) (hst : xa_cs st ≤ 8) (hs0 : st0 = as.reverse ++ xR a :: st)
    (hd : decode M.1 pc = .ok (.invokevirtual idx, 3) ∧ pc + 3 = pc')
    (hct : ∀ r : Unit, Ef = some r → xa_CT l G d' M' y (xR a :: as) h (none, h))
    (kk : ∀ r : Unit, Ef = some r → xa_G l G d M (E r) F pc' ls st h) : xa_G l G d M ((xrc h ci a Ef).bind E) F pc ls st0 h := xa_callV (cv := fun (r : Unit) => (none, h)) xc wl wi wse wc wz hy hn hd2 hst hs0 hd hct kk
theorem xa_callSV {Ef : Option (xa_H)} {E : (xa_H) → Option α} {as st0 : List xa_V} {y : MethodName} {M' : xa_M} {d' idx n : Nat}
    (wl : Cond.methodLink M.2.2.2.1 idx y ∈ xa_W) (wi : Cond.static y ∈ xa_W) (wc : Cond.code y M'.1 M'.2.1 M'.2.2.1 ∈ xa_W) (wz : Cond.initialized y.cls ∈ xa_W)
    (hy : y.cls ≠ "java/lang/invoke/MethodHandle" ∧ y.cls ≠ "java/lang/invoke/VarHandle" ∧ (parseMethodDescriptor y.desc).map (fun d => d.parameters.length) = some n) (hn : as.length = n) (hd2 : d' + 1 ≤ d ∧ 8 + (M'.2.1 + 11) + 64 * d' ≤ 64 * d) (hst : xa_cs st ≤ 8) (hs0 : st0 = as.reverse ++ st)
    (hd : decode M.1 pc = .ok (.invokestatic idx, 3) ∧ pc + 3 = pc')
    (hct : ∀ r : xa_H, Ef = some r → xa_CT l G d' M' y as h (none, r))
    (kk : ∀ r : xa_H, Ef = some r → xa_G l G d M (E r) F pc' ls st r) : xa_G l G d M (Ef.bind E) F pc ls st0 h := xa_callS (cv := fun (r : xa_H) => (none, r)) wl wi wc wz hy hn hd2 hst hs0 hd hct kk
theorem xa_callSI {Ef : Option (Int × xa_H)} {E : (Int × xa_H) → Option α} {as st0 : List xa_V} {y : MethodName} {M' : xa_M} {d' idx n : Nat}
    (wl : Cond.methodLink M.2.2.2.1 idx y ∈ xa_W) (wi : Cond.static y ∈ xa_W) (wc : Cond.code y M'.1 M'.2.1 M'.2.2.1 ∈ xa_W) (wz : Cond.initialized y.cls ∈ xa_W)
    (hy : y.cls ≠ "java/lang/invoke/MethodHandle" ∧ y.cls ≠ "java/lang/invoke/VarHandle" ∧ (parseMethodDescriptor y.desc).map (fun d => d.parameters.length) = some n) (hn : as.length = n) (hd2 : d' + 1 ≤ d ∧ 8 + (M'.2.1 + 11) + 64 * d' ≤ 64 * d) (hst : xa_cs st ≤ 8) (hs0 : st0 = as.reverse ++ st)
    (hd : decode M.1 pc = .ok (.invokestatic idx, 3) ∧ pc + 3 = pc')
    (hct : ∀ r : Int × xa_H, Ef = some r → xa_CT l G d' M' y as h (some (xI r.1), r.2))
    (kk : ∀ r : Int × xa_H, Ef = some r → xa_G l G d M (E r) F pc' ls (xI r.1 :: st) r.2) : xa_G l G d M (Ef.bind E) F pc ls st0 h := xa_callS (cv := fun (r : Int × xa_H) => (some (xI r.1), r.2)) wl wi wc wz hy hn hd2 hst hs0 hd hct kk
theorem xa_callSi {Ef : Option (Int)} {E : (Int) → Option α} {as st0 : List xa_V} {y : MethodName} {M' : xa_M} {d' idx n : Nat}
    (wl : Cond.methodLink M.2.2.2.1 idx y ∈ xa_W) (wi : Cond.static y ∈ xa_W) (wc : Cond.code y M'.1 M'.2.1 M'.2.2.1 ∈ xa_W) (wz : Cond.initialized y.cls ∈ xa_W)
    (hy : y.cls ≠ "java/lang/invoke/MethodHandle" ∧ y.cls ≠ "java/lang/invoke/VarHandle" ∧ (parseMethodDescriptor y.desc).map (fun d => d.parameters.length) = some n) (hn : as.length = n) (hd2 : d' + 1 ≤ d ∧ 8 + (M'.2.1 + 11) + 64 * d' ≤ 64 * d) (hst : xa_cs st ≤ 8) (hs0 : st0 = as.reverse ++ st)
    (hd : decode M.1 pc = .ok (.invokestatic idx, 3) ∧ pc + 3 = pc')
    (hct : ∀ r : Int, Ef = some r → xa_CT l G d' M' y as h (some (xI r), h))
    (kk : ∀ r : Int, Ef = some r → xa_G l G d M (E r) F pc' ls (xI r :: st) h) : xa_G l G d M (Ef.bind E) F pc ls st0 h := xa_callS (cv := fun (r : Int) => (some (xI r), h)) wl wi wc wz hy hn hd2 hst hs0 hd hct kk
theorem xa_callSL {Ef : Option (Int × xa_H)} {E : (Int × xa_H) → Option α} {as st0 : List xa_V} {y : MethodName} {M' : xa_M} {d' idx n : Nat}
    (wl : Cond.methodLink M.2.2.2.1 idx y ∈ xa_W) (wi : Cond.static y ∈ xa_W) (wc : Cond.code y M'.1 M'.2.1 M'.2.2.1 ∈ xa_W) (wz : Cond.initialized y.cls ∈ xa_W)
    (hy : y.cls ≠ "java/lang/invoke/MethodHandle" ∧ y.cls ≠ "java/lang/invoke/VarHandle" ∧ (parseMethodDescriptor y.desc).map (fun d => d.parameters.length) = some n) (hn : as.length = n) (hd2 : d' + 1 ≤ d ∧ 8 + (M'.2.1 + 11) + 64 * d' ≤ 64 * d) (hst : xa_cs st ≤ 8) (hs0 : st0 = as.reverse ++ st)
    (hd : decode M.1 pc = .ok (.invokestatic idx, 3) ∧ pc + 3 = pc')
    (hct : ∀ r : Int × xa_H, Ef = some r → xa_CT l G d' M' y as h (some (xL r.1), r.2))
    (kk : ∀ r : Int × xa_H, Ef = some r → xa_G l G d M (E r) F pc' ls (xL r.1 :: st) r.2) : xa_G l G d M (Ef.bind E) F pc ls st0 h := xa_callS (cv := fun (r : Int × xa_H) => (some (xL r.1), r.2)) wl wi wc wz hy hn hd2 hst hs0 hd hct kk
theorem xa_callSl {Ef : Option (Int)} {E : (Int) → Option α} {as st0 : List xa_V} {y : MethodName} {M' : xa_M} {d' idx n : Nat}
    (wl : Cond.methodLink M.2.2.2.1 idx y ∈ xa_W) (wi : Cond.static y ∈ xa_W) (wc : Cond.code y M'.1 M'.2.1 M'.2.2.1 ∈ xa_W) (wz : Cond.initialized y.cls ∈ xa_W)
    (hy : y.cls ≠ "java/lang/invoke/MethodHandle" ∧ y.cls ≠ "java/lang/invoke/VarHandle" ∧ (parseMethodDescriptor y.desc).map (fun d => d.parameters.length) = some n) (hn : as.length = n) (hd2 : d' + 1 ≤ d ∧ 8 + (M'.2.1 + 11) + 64 * d' ≤ 64 * d) (hst : xa_cs st ≤ 8) (hs0 : st0 = as.reverse ++ st)
    (hd : decode M.1 pc = .ok (.invokestatic idx, 3) ∧ pc + 3 = pc')
    (hct : ∀ r : Int, Ef = some r → xa_CT l G d' M' y as h (some (xL r), h))
    (kk : ∀ r : Int, Ef = some r → xa_G l G d M (E r) F pc' ls (xL r :: st) h) : xa_G l G d M (Ef.bind E) F pc ls st0 h := xa_callS (cv := fun (r : Int) => (some (xL r), h)) wl wi wc wz hy hn hd2 hst hs0 hd hct kk
theorem xa_callSR {Ef : Option (Int × xa_H)} {E : (Int × xa_H) → Option α} {as st0 : List xa_V} {y : MethodName} {M' : xa_M} {d' idx n : Nat}
    (wl : Cond.methodLink M.2.2.2.1 idx y ∈ xa_W) (wi : Cond.static y ∈ xa_W) (wc : Cond.code y M'.1 M'.2.1 M'.2.2.1 ∈ xa_W) (wz : Cond.initialized y.cls ∈ xa_W)
    (hy : y.cls ≠ "java/lang/invoke/MethodHandle" ∧ y.cls ≠ "java/lang/invoke/VarHandle" ∧ (parseMethodDescriptor y.desc).map (fun d => d.parameters.length) = some n) (hn : as.length = n) (hd2 : d' + 1 ≤ d ∧ 8 + (M'.2.1 + 11) + 64 * d' ≤ 64 * d) (hst : xa_cs st ≤ 8) (hs0 : st0 = as.reverse ++ st)
    (hd : decode M.1 pc = .ok (.invokestatic idx, 3) ∧ pc + 3 = pc')
    (hct : ∀ r : Int × xa_H, Ef = some r → xa_CT l G d' M' y as h (some (xR r.1), r.2))
    (kk : ∀ r : Int × xa_H, Ef = some r → xa_G l G d M (E r) F pc' ls (xR r.1 :: st) r.2) : xa_G l G d M (Ef.bind E) F pc ls st0 h := xa_callS (cv := fun (r : Int × xa_H) => (some (xR r.1), r.2)) wl wi wc wz hy hn hd2 hst hs0 hd hct kk
theorem xa_callSr {Ef : Option (Int)} {E : (Int) → Option α} {as st0 : List xa_V} {y : MethodName} {M' : xa_M} {d' idx n : Nat}
    (wl : Cond.methodLink M.2.2.2.1 idx y ∈ xa_W) (wi : Cond.static y ∈ xa_W) (wc : Cond.code y M'.1 M'.2.1 M'.2.2.1 ∈ xa_W) (wz : Cond.initialized y.cls ∈ xa_W)
    (hy : y.cls ≠ "java/lang/invoke/MethodHandle" ∧ y.cls ≠ "java/lang/invoke/VarHandle" ∧ (parseMethodDescriptor y.desc).map (fun d => d.parameters.length) = some n) (hn : as.length = n) (hd2 : d' + 1 ≤ d ∧ 8 + (M'.2.1 + 11) + 64 * d' ≤ 64 * d) (hst : xa_cs st ≤ 8) (hs0 : st0 = as.reverse ++ st)
    (hd : decode M.1 pc = .ok (.invokestatic idx, 3) ∧ pc + 3 = pc')
    (hct : ∀ r : Int, Ef = some r → xa_CT l G d' M' y as h (some (xR r), h))
    (kk : ∀ r : Int, Ef = some r → xa_G l G d M (E r) F pc' ls (xR r :: st) h) : xa_G l G d M (Ef.bind E) F pc ls st0 h := xa_callS (cv := fun (r : Int) => (some (xR r), h)) wl wi wc wz hy hn hd2 hst hs0 hd hct kk
theorem xa_callSv {Ef : Option (Unit)} {E : (Unit) → Option α} {as st0 : List xa_V} {y : MethodName} {M' : xa_M} {d' idx n : Nat}
    (wl : Cond.methodLink M.2.2.2.1 idx y ∈ xa_W) (wi : Cond.static y ∈ xa_W) (wc : Cond.code y M'.1 M'.2.1 M'.2.2.1 ∈ xa_W) (wz : Cond.initialized y.cls ∈ xa_W)
    (hy : y.cls ≠ "java/lang/invoke/MethodHandle" ∧ y.cls ≠ "java/lang/invoke/VarHandle" ∧ (parseMethodDescriptor y.desc).map (fun d => d.parameters.length) = some n) (hn : as.length = n) (hd2 : d' + 1 ≤ d ∧ 8 + (M'.2.1 + 11) + 64 * d' ≤ 64 * d) (hst : xa_cs st ≤ 8) (hs0 : st0 = as.reverse ++ st)
    (hd : decode M.1 pc = .ok (.invokestatic idx, 3) ∧ pc + 3 = pc')
    (hct : ∀ r : Unit, Ef = some r → xa_CT l G d' M' y as h (none, h))
    (kk : ∀ r : Unit, Ef = some r → xa_G l G d M (E r) F pc' ls st h) : xa_G l G d M (Ef.bind E) F pc ls st0 h := xa_callS (cv := fun (r : Unit) => (none, h)) wl wi wc wz hy hn hd2 hst hs0 hd hct kk
theorem xa_callIV {Ef : Option (xa_H)} {E : (xa_H) → Option α} {nn : Nat} {as st0 : List xa_V} {y : MethodName} {M' : xa_M} {d' idx n : Nat} (hr0 : M'.2.2.1 = none) (hyn : y.name = "<init>")
    (wl : Cond.methodLink M.2.2.2.1 idx y ∈ xa_W) (wi : Cond.instanceMethod y ∈ xa_W) (wc : Cond.code y M'.1 M'.2.1 M'.2.2.1 ∈ xa_W) (wz : Cond.initialized y.cls ∈ xa_W)
    (hy : y.cls ≠ "java/lang/invoke/MethodHandle" ∧ y.cls ≠ "java/lang/invoke/VarHandle" ∧ (parseMethodDescriptor y.desc).map (fun d => d.parameters.length) = some n) (hn : as.length = n) (hd2 : d' + 1 ≤ d ∧ 8 + (M'.2.1 + 11) + 64 * d' ≤ 64 * d) (hst : xa_cs st ≤ 8) (hs0 : st0 = as.reverse ++ xR (nn : Int) :: st)
    (hd : decode M.1 pc = .ok (.invokespecial idx, 3) ∧ pc + 3 = pc')
    (hct : ∀ r : xa_H, Ef = some r → xa_CT l G d' M' y (xR (nn : Int) :: as) h (none, r))
    (kk : ∀ r : xa_H, Ef = some r → xa_G l G d M (E r) F pc' ls st r) : xa_G l G d M (Ef.bind E) F pc ls st0 h := xa_callI (cv := fun (r : xa_H) => (none, r)) hr0 hyn wl wi wc wz hy hn hd2 hst hs0 hd hct kk
theorem xa_callINV {Ef : Option (xa_H)} {E : (xa_H) → Option α} {nn : Nat} {as st0 : List xa_V} {y : MethodName} {M' : xa_M} {d' idx n : Nat} {host : String} (hr0 : M'.2.2.1 = none) (hyn : y.name = "<init>")
    (wl : Cond.methodLinkNest M.2.2.2.1 idx y host ∈ xa_N) (wi : Cond.instanceMethod y ∈ xa_W) (wc : Cond.code y M'.1 M'.2.1 M'.2.2.1 ∈ xa_W) (wz : Cond.initialized y.cls ∈ xa_W)
    (hy : y.cls ≠ "java/lang/invoke/MethodHandle" ∧ y.cls ≠ "java/lang/invoke/VarHandle" ∧ (parseMethodDescriptor y.desc).map (fun d => d.parameters.length) = some n) (hn : as.length = n) (hd2 : d' + 1 ≤ d ∧ 8 + (M'.2.1 + 11) + 64 * d' ≤ 64 * d) (hst : xa_cs st ≤ 8) (hs0 : st0 = as.reverse ++ xR (nn : Int) :: st)
    (hd : decode M.1 pc = .ok (.invokespecial idx, 3) ∧ pc + 3 = pc')
    (hct : ∀ r : xa_H, Ef = some r → xa_CT l G d' M' y (xR (nn : Int) :: as) h (none, r))
    (kk : ∀ r : xa_H, Ef = some r → xa_G l G d M (E r) F pc' ls st r) : xa_G l G d M (Ef.bind E) F pc ls st0 h := xa_callIN (cv := fun (r : xa_H) => (none, r)) hr0 hyn wl wi wc wz hy hn hd2 hst hs0 hd hct kk
theorem xa_putf2 {a v : Int} {E : xa_H → Option α} {ci k idx N : Nat} {C : String} {T : u_T} {tg : Int → xa_V} (xc : xa_cls ci C T N) (hk : k < N) (ht : ∀ v, xvt (xtag (xtyf ci k)) v = tg v) (hfin : (T k).2.2.2 = false) (hfit : ∀ c : Value, xa_v G (tg v) c → narrow (xtyf ci k) c = c ∧ fits (xtyf ci k) c = true) (hl : Cond.fieldLink M.2.2.2.1 idx C (T k).2.1 (T k).2.2.1 ∈ xa_W) (hs : (T k).1 = C) (hd : decode M.1 pc = .ok (.putfield idx, 3) ∧ pc + 3 = pc')
    (kk : ∀ h1 : xa_H, xpf h ci k a v = some h1 → xa_G l G d M (E h1) F pc' ls st h1)  : xa_G l G d M ((xpf h ci k a v).bind E) F pc ls (tg v :: xR a :: st) h := xa_putf xc hk ht hfin hfit hl hs hd (fun q1 => kk _ (by unfold xpf; rw [if_pos q1]))
theorem xa_putF2 {a v : Int} {E : xa_H → Option α} {ci k idx N : Nat} {C : String} {T : u_T} {tg : Int → xa_V} (xc : xa_cls ci C T N) (hk : k < N) (ht : ∀ v, xvt (xtag (xtyf ci k)) v = tg v) (hfin : (T k).2.2.2 = true) (hini : M.2.2.2.2 = true) (hdecl : (T k).1 = M.2.2.2.1) (hfit : ∀ c : Value, xa_v G (tg v) c → narrow (xtyf ci k) c = c ∧ fits (xtyf ci k) c = true) (hl : Cond.fieldLink M.2.2.2.1 idx C (T k).2.1 (T k).2.2.1 ∈ xa_W) (hs : (T k).1 = C) (hd : decode M.1 pc = .ok (.putfield idx, 3) ∧ pc + 3 = pc')
    (kk : ∀ h1 : xa_H, xpf h ci k a v = some h1 → xa_G l G d M (E h1) F pc' ls st h1)  : xa_G l G d M ((xpf h ci k a v).bind E) F pc ls (tg v :: xR a :: st) h := xa_putF xc hk ht hfin hini hdecl hfit hl hs hd (fun q1 => kk _ (by unfold xpf; rw [if_pos q1]))
theorem xa_iastore2 {a i v : Int} {E : xa_H → Option α} (hd : decode M.1 pc = .ok (.iastore, 1) ∧ pc + 1 = pc') (kk : ∀ h1 : xa_H, xas h 0 a i (v) = some h1 → xa_G l G d M (E h1) F pc' ls st h1)  : xa_G l G d M ((xas h 0 a i (v)).bind E) F pc ls (xI v :: xI i :: xR a :: st) h := xa_iastore hd (fun q1 => kk _ (by unfold xas; rw [if_pos q1]))
theorem xa_lastore2 {a i v : Int} {E : xa_H → Option α} (hd : decode M.1 pc = .ok (.lastore, 1) ∧ pc + 1 = pc') (kk : ∀ h1 : xa_H, xas h 1 a i (v) = some h1 → xa_G l G d M (E h1) F pc' ls st h1)  : xa_G l G d M ((xas h 1 a i (v)).bind E) F pc ls (xL v :: xI i :: xR a :: st) h := xa_lastore hd (fun q1 => kk _ (by unfold xas; rw [if_pos q1]))
theorem xa_bastore2 {a i v : Int} {E : xa_H → Option α} (hd : decode M.1 pc = .ok (.bastore, 1) ∧ pc + 1 = pc') (kk : ∀ h1 : xa_H, xas h 2 a i (xi2b v) = some h1 → xa_G l G d M (E h1) F pc' ls st h1)  : xa_G l G d M ((xas h 2 a i (xi2b v)).bind E) F pc ls (xI v :: xI i :: xR a :: st) h := xa_bastore hd (fun q1 => kk _ (by unfold xas; rw [if_pos q1]))
theorem xa_castore2 {a i v : Int} {E : xa_H → Option α} (hz : 0 ≤ v ∧ v < 65536) (hd : decode M.1 pc = .ok (.castore, 1) ∧ pc + 1 = pc') (kk : ∀ h1 : xa_H, xas h 3 a i (v) = some h1 → xa_G l G d M (E h1) F pc' ls st h1)  : xa_G l G d M ((xas h 3 a i (v)).bind E) F pc ls (xI v :: xI i :: xR a :: st) h := xa_castore hz hd (fun q1 => kk _ (by unfold xas; rw [if_pos q1]))
theorem xa_aastoreN_42 {a i : Int} {E : xa_H → Option α} (hd : decode M.1 pc = .ok (.aastore, 1) ∧ pc + 1 = pc') (kk : ∀ h1 : xa_H, xas h 4 a i (-1) = some h1 → xa_G l G d M (E h1) F pc' ls st h1)  : xa_G l G d M ((xas h 4 a i (-1)).bind E) F pc ls (xR (-1) :: xI i :: xR a :: st) h := xa_aastoreN_4 hd (fun q1 => kk _ (by unfold xas; rw [if_pos q1]))
theorem xa_aastoreN_52 {a i : Int} {E : xa_H → Option α} (hd : decode M.1 pc = .ok (.aastore, 1) ∧ pc + 1 = pc') (kk : ∀ h1 : xa_H, xas h 5 a i (-1) = some h1 → xa_G l G d M (E h1) F pc' ls st h1)  : xa_G l G d M ((xas h 5 a i (-1)).bind E) F pc ls (xR (-1) :: xI i :: xR a :: st) h := xa_aastoreN_5 hd (fun q1 => kk _ (by unfold xas; rw [if_pos q1]))
theorem xa_aastore_42 {a i v : Int} {E : xa_H → Option α} (hd : decode M.1 pc = .ok (.aastore, 1) ∧ pc + 1 = pc') (kk : ∀ h1 : xa_H, xas h 4 a i v = some h1 → xa_G l G d M (E h1) F pc' ls st h1)  : xa_G l G d M (xrc h 9 v ((xas h 4 a i v).bind E)) F pc ls (xR v :: xI i :: xR a :: st) h := xa_aastore_4 hd (fun q1 q2 => kk _ (by unfold xas; rw [if_pos q1]))
theorem xa_aastore_52 {a i v : Int} {E : xa_H → Option α} (hd : decode M.1 pc = .ok (.aastore, 1) ∧ pc + 1 = pc') (kk : ∀ h1 : xa_H, xas h 5 a i v = some h1 → xa_G l G d M (E h1) F pc' ls st h1)  : xa_G l G d M (xrc h 8 v ((xas h 5 a i v).bind E)) F pc ls (xR v :: xI i :: xR a :: st) h := xa_aastore_5 hd (fun q1 q2 => kk _ (by unfold xas; rw [if_pos q1]))
theorem xa_newO {E : xa_H → Option α} {ci idx N : Nat} {C : String} {T : u_T} (xc : xa_cls ci C T N) (hty : ∀ k, k < N → xtag (xtyf ci k) = 2 ∨ xtyf ci k = .int ∨ xtyf ci k = .long ∨ xtyf ci k = .boolean ∨ xtyf ci k = .byte ∨ xtyf ci k = .char) (hl : Cond.classLink M.2.2.2.1 idx C ∈ xa_W) (hi : Cond.instantiable C N ∈ xa_W) (hz : Cond.initialized C ∈ xa_W) (hd : decode M.1 pc = .ok (.new idx, 3) ∧ pc + 3 = pc')
    (kk : ∀ h1 : xa_H, xnO h ci N = some h1 → xa_G l G d M (E h1) F pc' ls (xR (xn h : Int) :: st) h1) : xa_G l G d M ((xnO h ci N).bind E) F pc ls st h := xa_new (E := E) xc hty hl hi hz hd (kk _ rfl)
theorem xq_i_m8 : (Int32.ofInt (-8)).toInt = (-8 : Int) := by decide +kernel
theorem xq_i_m1 : (Int32.ofInt (-1)).toInt = (-1 : Int) := by decide +kernel
theorem xq_i_0 : (Int32.ofInt (0)).toInt = (0 : Int) := by decide +kernel
theorem xq_i_1 : (Int32.ofInt (1)).toInt = (1 : Int) := by decide +kernel
theorem xq_i_2 : (Int32.ofInt (2)).toInt = (2 : Int) := by decide +kernel
theorem xq_i_3 : (Int32.ofInt (3)).toInt = (3 : Int) := by decide +kernel
theorem xq_i_4 : (Int32.ofInt (4)).toInt = (4 : Int) := by decide +kernel
theorem xq_i_5 : (Int32.ofInt (5)).toInt = (5 : Int) := by decide +kernel
theorem xq_i_6 : (Int32.ofInt (6)).toInt = (6 : Int) := by decide +kernel
theorem xq_b_m22 : (Int8.ofInt (-22)).toInt32.toInt = (-22 : Int) := by decide +kernel
theorem xq_b_m21 : (Int8.ofInt (-21)).toInt32.toInt = (-21 : Int) := by decide +kernel
theorem xq_b_m20 : (Int8.ofInt (-20)).toInt32.toInt = (-20 : Int) := by decide +kernel
theorem xq_b_m19 : (Int8.ofInt (-19)).toInt32.toInt = (-19 : Int) := by decide +kernel
theorem xq_b_m18 : (Int8.ofInt (-18)).toInt32.toInt = (-18 : Int) := by decide +kernel
theorem xq_b_m17 : (Int8.ofInt (-17)).toInt32.toInt = (-17 : Int) := by decide +kernel
theorem xq_b_m16 : (Int8.ofInt (-16)).toInt32.toInt = (-16 : Int) := by decide +kernel
theorem xq_b_m15 : (Int8.ofInt (-15)).toInt32.toInt = (-15 : Int) := by decide +kernel
theorem xq_b_m14 : (Int8.ofInt (-14)).toInt32.toInt = (-14 : Int) := by decide +kernel
theorem xq_b_m13 : (Int8.ofInt (-13)).toInt32.toInt = (-13 : Int) := by decide +kernel
theorem xq_b_m12 : (Int8.ofInt (-12)).toInt32.toInt = (-12 : Int) := by decide +kernel
theorem xq_b_m11 : (Int8.ofInt (-11)).toInt32.toInt = (-11 : Int) := by decide +kernel
theorem xq_b_m10 : (Int8.ofInt (-10)).toInt32.toInt = (-10 : Int) := by decide +kernel
theorem xq_b_m9 : (Int8.ofInt (-9)).toInt32.toInt = (-9 : Int) := by decide +kernel
theorem xq_b_m8 : (Int8.ofInt (-8)).toInt32.toInt = (-8 : Int) := by decide +kernel
theorem xq_b_m7 : (Int8.ofInt (-7)).toInt32.toInt = (-7 : Int) := by decide +kernel
theorem xq_b_m6 : (Int8.ofInt (-6)).toInt32.toInt = (-6 : Int) := by decide +kernel
theorem xq_b_m5 : (Int8.ofInt (-5)).toInt32.toInt = (-5 : Int) := by decide +kernel
theorem xq_b_m4 : (Int8.ofInt (-4)).toInt32.toInt = (-4 : Int) := by decide +kernel
theorem xq_b_m3 : (Int8.ofInt (-3)).toInt32.toInt = (-3 : Int) := by decide +kernel
theorem xq_b_m2 : (Int8.ofInt (-2)).toInt32.toInt = (-2 : Int) := by decide +kernel
theorem xq_b_6 : (Int8.ofInt (6)).toInt32.toInt = (6 : Int) := by decide +kernel
theorem xq_b_7 : (Int8.ofInt (7)).toInt32.toInt = (7 : Int) := by decide +kernel
theorem xq_b_8 : (Int8.ofInt (8)).toInt32.toInt = (8 : Int) := by decide +kernel
theorem xq_b_9 : (Int8.ofInt (9)).toInt32.toInt = (9 : Int) := by decide +kernel
theorem xq_b_10 : (Int8.ofInt (10)).toInt32.toInt = (10 : Int) := by decide +kernel
theorem xq_b_11 : (Int8.ofInt (11)).toInt32.toInt = (11 : Int) := by decide +kernel
theorem xq_b_12 : (Int8.ofInt (12)).toInt32.toInt = (12 : Int) := by decide +kernel
theorem xq_b_13 : (Int8.ofInt (13)).toInt32.toInt = (13 : Int) := by decide +kernel
theorem xq_b_14 : (Int8.ofInt (14)).toInt32.toInt = (14 : Int) := by decide +kernel
theorem xq_b_16 : (Int8.ofInt (16)).toInt32.toInt = (16 : Int) := by decide +kernel
theorem xq_b_17 : (Int8.ofInt (17)).toInt32.toInt = (17 : Int) := by decide +kernel
theorem xq_b_18 : (Int8.ofInt (18)).toInt32.toInt = (18 : Int) := by decide +kernel
theorem xq_b_19 : (Int8.ofInt (19)).toInt32.toInt = (19 : Int) := by decide +kernel
theorem xq_b_20 : (Int8.ofInt (20)).toInt32.toInt = (20 : Int) := by decide +kernel
theorem xq_b_21 : (Int8.ofInt (21)).toInt32.toInt = (21 : Int) := by decide +kernel
theorem xq_b_22 : (Int8.ofInt (22)).toInt32.toInt = (22 : Int) := by decide +kernel
theorem xq_b_23 : (Int8.ofInt (23)).toInt32.toInt = (23 : Int) := by decide +kernel
theorem xq_b_24 : (Int8.ofInt (24)).toInt32.toInt = (24 : Int) := by decide +kernel
theorem xq_b_25 : (Int8.ofInt (25)).toInt32.toInt = (25 : Int) := by decide +kernel
theorem xq_b_26 : (Int8.ofInt (26)).toInt32.toInt = (26 : Int) := by decide +kernel
theorem xq_b_27 : (Int8.ofInt (27)).toInt32.toInt = (27 : Int) := by decide +kernel
theorem xq_b_28 : (Int8.ofInt (28)).toInt32.toInt = (28 : Int) := by decide +kernel
theorem xq_b_29 : (Int8.ofInt (29)).toInt32.toInt = (29 : Int) := by decide +kernel
theorem xq_b_30 : (Int8.ofInt (30)).toInt32.toInt = (30 : Int) := by decide +kernel
theorem xq_b_31 : (Int8.ofInt (31)).toInt32.toInt = (31 : Int) := by decide +kernel
theorem xq_b_32 : (Int8.ofInt (32)).toInt32.toInt = (32 : Int) := by decide +kernel
theorem xq_b_36 : (Int8.ofInt (36)).toInt32.toInt = (36 : Int) := by decide +kernel
theorem xq_b_40 : (Int8.ofInt (40)).toInt32.toInt = (40 : Int) := by decide +kernel
theorem xq_b_41 : (Int8.ofInt (41)).toInt32.toInt = (41 : Int) := by decide +kernel
theorem xq_b_42 : (Int8.ofInt (42)).toInt32.toInt = (42 : Int) := by decide +kernel
theorem xq_b_43 : (Int8.ofInt (43)).toInt32.toInt = (43 : Int) := by decide +kernel
theorem xq_b_44 : (Int8.ofInt (44)).toInt32.toInt = (44 : Int) := by decide +kernel
theorem xq_b_45 : (Int8.ofInt (45)).toInt32.toInt = (45 : Int) := by decide +kernel
theorem xq_b_47 : (Int8.ofInt (47)).toInt32.toInt = (47 : Int) := by decide +kernel
theorem xq_b_48 : (Int8.ofInt (48)).toInt32.toInt = (48 : Int) := by decide +kernel
theorem xq_b_55 : (Int8.ofInt (55)).toInt32.toInt = (55 : Int) := by decide +kernel
theorem xq_b_56 : (Int8.ofInt (56)).toInt32.toInt = (56 : Int) := by decide +kernel
theorem xq_b_57 : (Int8.ofInt (57)).toInt32.toInt = (57 : Int) := by decide +kernel
theorem xq_b_59 : (Int8.ofInt (59)).toInt32.toInt = (59 : Int) := by decide +kernel
theorem xq_b_60 : (Int8.ofInt (60)).toInt32.toInt = (60 : Int) := by decide +kernel
theorem xq_b_61 : (Int8.ofInt (61)).toInt32.toInt = (61 : Int) := by decide +kernel
theorem xq_b_62 : (Int8.ofInt (62)).toInt32.toInt = (62 : Int) := by decide +kernel
theorem xq_b_63 : (Int8.ofInt (63)).toInt32.toInt = (63 : Int) := by decide +kernel
theorem xq_b_64 : (Int8.ofInt (64)).toInt32.toInt = (64 : Int) := by decide +kernel
theorem xq_b_72 : (Int8.ofInt (72)).toInt32.toInt = (72 : Int) := by decide +kernel
theorem xq_b_80 : (Int8.ofInt (80)).toInt32.toInt = (80 : Int) := by decide +kernel
theorem xq_b_91 : (Int8.ofInt (91)).toInt32.toInt = (91 : Int) := by decide +kernel
theorem xq_b_93 : (Int8.ofInt (93)).toInt32.toInt = (93 : Int) := by decide +kernel
theorem xq_b_97 : (Int8.ofInt (97)).toInt32.toInt = (97 : Int) := by decide +kernel
theorem xq_b_98 : (Int8.ofInt (98)).toInt32.toInt = (98 : Int) := by decide +kernel
theorem xq_b_99 : (Int8.ofInt (99)).toInt32.toInt = (99 : Int) := by decide +kernel
theorem xq_b_100 : (Int8.ofInt (100)).toInt32.toInt = (100 : Int) := by decide +kernel
theorem xq_b_101 : (Int8.ofInt (101)).toInt32.toInt = (101 : Int) := by decide +kernel
theorem xq_b_102 : (Int8.ofInt (102)).toInt32.toInt = (102 : Int) := by decide +kernel
theorem xq_b_103 : (Int8.ofInt (103)).toInt32.toInt = (103 : Int) := by decide +kernel
theorem xq_b_104 : (Int8.ofInt (104)).toInt32.toInt = (104 : Int) := by decide +kernel
theorem xq_b_105 : (Int8.ofInt (105)).toInt32.toInt = (105 : Int) := by decide +kernel
theorem xq_b_108 : (Int8.ofInt (108)).toInt32.toInt = (108 : Int) := by decide +kernel
theorem xq_b_109 : (Int8.ofInt (109)).toInt32.toInt = (109 : Int) := by decide +kernel
theorem xq_b_110 : (Int8.ofInt (110)).toInt32.toInt = (110 : Int) := by decide +kernel
theorem xq_b_111 : (Int8.ofInt (111)).toInt32.toInt = (111 : Int) := by decide +kernel
theorem xq_b_112 : (Int8.ofInt (112)).toInt32.toInt = (112 : Int) := by decide +kernel
theorem xq_b_114 : (Int8.ofInt (114)).toInt32.toInt = (114 : Int) := by decide +kernel
theorem xq_b_115 : (Int8.ofInt (115)).toInt32.toInt = (115 : Int) := by decide +kernel
theorem xq_b_116 : (Int8.ofInt (116)).toInt32.toInt = (116 : Int) := by decide +kernel
theorem xq_b_117 : (Int8.ofInt (117)).toInt32.toInt = (117 : Int) := by decide +kernel
theorem xq_b_118 : (Int8.ofInt (118)).toInt32.toInt = (118 : Int) := by decide +kernel
theorem xq_b_119 : (Int8.ofInt (119)).toInt32.toInt = (119 : Int) := by decide +kernel
theorem xq_b_120 : (Int8.ofInt (120)).toInt32.toInt = (120 : Int) := by decide +kernel
theorem xq_b_121 : (Int8.ofInt (121)).toInt32.toInt = (121 : Int) := by decide +kernel
theorem xq_b_122 : (Int8.ofInt (122)).toInt32.toInt = (122 : Int) := by decide +kernel
theorem xq_s_165 : (Int16.ofInt (165)).toInt32.toInt = (165 : Int) := by decide +kernel
theorem xq_s_172 : (Int16.ofInt (172)).toInt32.toInt = (172 : Int) := by decide +kernel
theorem xq_s_176 : (Int16.ofInt (176)).toInt32.toInt = (176 : Int) := by decide +kernel
theorem xq_s_251 : (Int16.ofInt (251)).toInt32.toInt = (251 : Int) := by decide +kernel
theorem xq_s_255 : (Int16.ofInt (255)).toInt32.toInt = (255 : Int) := by decide +kernel
theorem xq_s_256 : (Int16.ofInt (256)).toInt32.toInt = (256 : Int) := by decide +kernel
theorem xq_s_720 : (Int16.ofInt (720)).toInt32.toInt = (720 : Int) := by decide +kernel
theorem xq_s_999 : (Int16.ofInt (999)).toInt32.toInt = (999 : Int) := by decide +kernel
theorem xq_s_1000 : (Int16.ofInt (1000)).toInt32.toInt = (1000 : Int) := by decide +kernel
theorem xq_s_1600 : (Int16.ofInt (1600)).toInt32.toInt = (1600 : Int) := by decide +kernel
theorem xq_s_1700 : (Int16.ofInt (1700)).toInt32.toInt = (1700 : Int) := by decide +kernel
theorem xq_s_3200 : (Int16.ofInt (3200)).toInt32.toInt = (3200 : Int) := by decide +kernel
theorem xq_s_3520 : (Int16.ofInt (3520)).toInt32.toInt = (3520 : Int) := by decide +kernel
theorem xq_s_9999 : (Int16.ofInt (9999)).toInt32.toInt = (9999 : Int) := by decide +kernel
theorem xq_s_12345 : (Int16.ofInt (12345)).toInt32.toInt = (12345 : Int) := by decide +kernel
end XR6
