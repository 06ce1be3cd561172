/-! calls by their kind of answer; rows of the String constants -/
theorem zr_some {v w : Int32} (h : zr v = some w) : (w = 0 ∨ w = 1) ∧ v = w := by
  unfold zr at h
  by_cases hv : v = 0 ∨ v = 1
  · rw [if_pos hv] at h
    cases h
    exact ⟨hv, rfl⟩
  · rw [if_neg hv] at h
    cases h
section RC
variable {p : Program} {l : Launch} {e : Env} {R : Room} {s : State} {m : MethodId} {args : Array Value} {below : List Frame} {meth : Method} {c : Code} {H : Heap} {locs : List Loc} {Q : State → Prop}
variable {own : String} {cc : ByteArray} {nL nf nl : Nat} {A : Nat → Prop} {G : GG} {rt : Option FieldType} {Y : LY} {S S1 : HS} {pc : Nat} {ls : Array Slot} {rest : List Value}
theorem rw_callVi (X : Cx p R s m args meth c own cc nL nf nl A G rt) {index cN : Nat} {y : MethodName} {b : ByteArray} {n f lo : Nat} {ret : Option FieldType} {r0 : Option Nat} {u : Unit} {As st0 : List Value} {v : Int32}
    (hdg : decode cc pc = .ok (.invokevirtual index, 3)) (hC : CLv own index y b n ret) (hy : PY y As.length) (hM : MM l y b n ret f lo G Y S (va_rf r0 :: As) S1 (some (.int v))) (hroom : f + 1 ≤ nf ∧ 8 + (n + 11) + lo ≤ nl) (hrc : rcv Y cN r0 = some u) (hcN : (vwCl[cN]?).map (fun q => q.1) = some y.cls) (hP : HP A G Y s S H locs)
    (hst : st0 = As.reverse ++ va_rf r0 :: rest) (hcat : (rest.map fun v => v.category).sum ≤ 8) (hsz : ls.size = nL)
    (kk : ∀ (H1 : Heap) (locs1 : List Loc), HP A G Y s S1 H1 locs1 → W p l e R s m args below meth c H1 locs1 0 0 Q (F0 m (pc + 3) ls (.int v :: rest))) : W p l e R s m args below meth c H locs 0 0 Q (F0 m pc ls st0) :=
  rw_callV X hdg hC hy hM hroom hrc hcN hP hst hcat hsz kk
theorem rw_callVr (X : Cx p R s m args meth c own cc nL nf nl A G rt) {index cN : Nat} {y : MethodName} {b : ByteArray} {n f lo : Nat} {ret : Option FieldType} {r0 : Option Nat} {u : Unit} {As st0 : List Value} {v : Option Nat}
    (hdg : decode cc pc = .ok (.invokevirtual index, 3)) (hC : CLv own index y b n ret) (hy : PY y As.length) (hM : MM l y b n ret f lo G Y S (va_rf r0 :: As) S1 (some (va_rf v))) (hroom : f + 1 ≤ nf ∧ 8 + (n + 11) + lo ≤ nl) (hrc : rcv Y cN r0 = some u) (hcN : (vwCl[cN]?).map (fun q => q.1) = some y.cls) (hP : HP A G Y s S H locs)
    (hst : st0 = As.reverse ++ va_rf r0 :: rest) (hcat : (rest.map fun v => v.category).sum ≤ 8) (hsz : ls.size = nL)
    (kk : ∀ (H1 : Heap) (locs1 : List Loc), HP A G Y s S1 H1 locs1 → W p l e R s m args below meth c H1 locs1 0 0 Q (F0 m (pc + 3) ls (va_rf v :: rest))) : W p l e R s m args below meth c H locs 0 0 Q (F0 m pc ls st0) :=
  rw_callV X hdg hC hy hM hroom hrc hcN hP hst hcat hsz kk
theorem rw_callVv (X : Cx p R s m args meth c own cc nL nf nl A G rt) {index cN : Nat} {y : MethodName} {b : ByteArray} {n f lo : Nat} {ret : Option FieldType} {r0 : Option Nat} {u : Unit} {As st0 : List Value}
    (hdg : decode cc pc = .ok (.invokevirtual index, 3)) (hC : CLv own index y b n ret) (hy : PY y As.length) (hM : MM l y b n ret f lo G Y S (va_rf r0 :: As) S1 none) (hroom : f + 1 ≤ nf ∧ 8 + (n + 11) + lo ≤ nl) (hrc : rcv Y cN r0 = some u) (hcN : (vwCl[cN]?).map (fun q => q.1) = some y.cls) (hP : HP A G Y s S H locs)
    (hst : st0 = As.reverse ++ va_rf r0 :: rest) (hcat : (rest.map fun v => v.category).sum ≤ 8) (hsz : ls.size = nL)
    (kk : ∀ (H1 : Heap) (locs1 : List Loc), HP A G Y s S1 H1 locs1 → W p l e R s m args below meth c H1 locs1 0 0 Q (F0 m (pc + 3) ls rest)) : W p l e R s m args below meth c H locs 0 0 Q (F0 m pc ls st0) :=
  rw_callV X hdg hC hy hM hroom hrc hcN hP hst hcat hsz kk
theorem rw_callSi (X : Cx p R s m args meth c own cc nL nf nl A G rt) {index : Nat} {y : MethodName} {b : ByteArray} {n f lo : Nat} {ret : Option FieldType} {As st0 : List Value} {v : Int32}
    (hdg : decode cc pc = .ok (.invokestatic index, 3)) (hC : CLs own index y b n ret) (hy : PY y As.length) (hM : MM l y b n ret f lo G Y S As S1 (some (.int v))) (hroom : f + 1 ≤ nf ∧ 8 + (n + 11) + lo ≤ nl) (hP : HP A G Y s S H locs)
    (hst : st0 = As.reverse ++ rest) (hcat : (rest.map fun v => v.category).sum ≤ 8) (hsz : ls.size = nL)
    (kk : ∀ (H1 : Heap) (locs1 : List Loc), HP A G Y s S1 H1 locs1 → W p l e R s m args below meth c H1 locs1 0 0 Q (F0 m (pc + 3) ls (.int v :: rest))) : W p l e R s m args below meth c H locs 0 0 Q (F0 m pc ls st0) :=
  rw_callS X hdg hC hy hM hroom hP hst hcat hsz kk
theorem rw_callSv (X : Cx p R s m args meth c own cc nL nf nl A G rt) {index : Nat} {y : MethodName} {b : ByteArray} {n f lo : Nat} {ret : Option FieldType} {As st0 : List Value}
    (hdg : decode cc pc = .ok (.invokestatic index, 3)) (hC : CLs own index y b n ret) (hy : PY y As.length) (hM : MM l y b n ret f lo G Y S As S1 none) (hroom : f + 1 ≤ nf ∧ 8 + (n + 11) + lo ≤ nl) (hP : HP A G Y s S H locs)
    (hst : st0 = As.reverse ++ rest) (hcat : (rest.map fun v => v.category).sum ≤ 8) (hsz : ls.size = nL)
    (kk : ∀ (H1 : Heap) (locs1 : List Loc), HP A G Y s S1 H1 locs1 → W p l e R s m args below meth c H1 locs1 0 0 Q (F0 m (pc + 3) ls rest)) : W p l e R s m args below meth c H locs 0 0 Q (F0 m pc ls st0) :=
  rw_callS X hdg hC hy hM hroom hP hst hcat hsz kk
end RC
