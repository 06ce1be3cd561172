/-! THE LAW: calls beside another pool -/
theorem WP_sub {G : GG} {Y Y1 : LY} {S S1 : HS} {H : Heap} (h : WP G Y1 S1 H) (hm : ∀ a ∈ Y.1, a ∈ Y1.1 ∧ ce G Y1 S1 a = ce G Y S a) : WP G Y S H := by
  intro k q hk
  simp only [va_pl, List.getElem?_map] at hk
  cases hb : Y.1[k]? with
  | none => rw [hb] at hk; cases hk
  | some a =>
    rw [hb] at hk
    cases hk
    obtain ⟨h1, h2⟩ := hm a (List.mem_of_getElem? hb)
    obtain ⟨i, hi⟩ := va_pl_get (X := []) (f := ce G Y1 S1) h1
    have h3 := h i _ hi
    rw [h2] at h3
    exact h3
theorem WP_keep {G : GG} {Y : LY} {S : HS} {H H1 : Heap} (h : WP G Y S H) (hk : ∀ q ∈ Y.1, H1[q]? = H[q]?) : WP G Y S H1 := by
  refine va_P.kept h (fun k q hq => ?_)
  simp only [va_pl, List.getElem?_map] at hq
  cases hb : Y.1[k]? with
  | none => rw [hb] at hq; cases hq
  | some a => rw [hb] at hq; cases hq; exact hk a (List.mem_of_getElem? hb)
theorem WD_of {G : GG} {Y : LY} {S : HS} {A : Nat → Prop} (hn : Y.1.Nodup) (hA : ∀ q ∈ Y.1, A q) : WD G Y S A := by
  have key : ∀ (k : Nat) (q : Nat × va_E), (va_pl Y.1 (ce G Y S))[k]? = some q → Y.1[k]? = some q.1 := by
    intro k q hk
    simp only [va_pl, List.getElem?_map] at hk
    cases hb : Y.1[k]? with
    | none => rw [hb] at hk; cases hk
    | some b => rw [hb] at hk; cases hk; rfl
  refine ⟨fun i j p q hi hj e => ?_, fun k q hk => hA _ (List.mem_of_getElem? (key k q hk))⟩
  have h1 := key i p hi
  have h2 := key j q hj
  rw [← e] at h2
  exact (List.getElem?_inj (List.getElem?_eq_some_iff.mp h1).1 hn).mp (h1.trans h2.symm)
section RQ
variable {p : Program} {l : Launch} {e : Env} {R : Room} {s : State} {m : MethodId} {args : Array Value} {below : List Frame} {meth : Method} {c : Code} {H : Heap} {locs : List Loc} {cells slots : Nat} {Q : State → Prop}
variable {own : String} {cc : ByteArray} {nL nf nl : Nat} {A : Nat → Prop} {G : GG} {rt : Option FieldType} {Y Y1 : LY} {S S1 : HS} {N N1 : Nat × Nat} {pc : Nat} {ls : Array Slot} {rest : List Value}
theorem rq_after {st0 : List Value} {a : Array Value} {rv : Option Value} (hr : va_Run p l e R s m args below meth c H locs cells slots 0 0 (F0 m pc ls st0) rest (QI G Y S1 rv a) (fun q => q ∈ Y.1)) (hS : va_S A s.heap H locs) (hA : ∀ q ∈ Y.1, A q)
    (kk : ∀ (H1 : Heap) (locs1 : List Loc), WP G Y S1 H1 → (∀ q, q < H.size → q ∉ Y.1 → H1[q]? = H[q]?) → va_S A s.heap H1 locs1 → W p l e R s m args below meth c H1 locs1 cells slots Q (F0 m (pc + 3) ls (rv.toList ++ rest))) : W p l e R s m args below meth c H locs cells slots Q (F0 m pc ls st0) := by
  intro T hT X
  obtain ⟨v, st₀, t, T', L, h0, X', hL, e1, e2, ⟨ho, hW, hz, hk⟩, st⟩ := hr T hT X
  cases ho
  rw [h0] at hz hk
  obtain ⟨t2, a1, b1⟩ := kk T'.heap (locs ++ L) (by rw [e1]; exact hW) (fun q h1 h2 => by rw [e1]; exact hk q h1 h2) ⟨Nat.le_trans hS.1 (by rw [e1]; exact hz), fun q h1 h2 => by rw [e1, hk q (Nat.lt_of_lt_of_le h1 hS.1) (fun z => h2 (hA q z))]; exact hS.2.1 q h1 h2, fun q hq => by
      rcases List.mem_append.mp hq with h | h
      · exact hS.2.2 q h
      · exact hA _ (hL q h)⟩ T' rfl X'
  exact ⟨t2, st t2 a1, b1⟩
theorem rq_recv (X : Cx p R s m args meth c own cc nL nf nl A G rt) {cN a : Nat} {C : String} (hc : chk Y cN a = true) (hcN : (vwCl[cN]?).map (fun q => q.1) = some C) (hP : WP G Y S H) : ∃ cell : Cell, H[a]? = some cell ∧ cell.vm.isStatics = false ∧ s.vm.findClass C = some cell.cls := by
  obtain ⟨ha, hk2⟩ := chk_in hc
  obtain ⟨q, hq, hq2⟩ := Option.map_eq_some_iff.mp hcN
  obtain ⟨h6, h7⟩ := vw_nfl hq
  obtain ⟨i, hi⟩ := va_pl_get (X := []) (f := ce G Y S) ha
  rw [ce_obj h6 hk2] at hi
  have hrecv := va_recv X.2.1.1 hP hq hi
  rw [hq2] at hrecv
  exact hrecv
theorem rq_good {index n : Nat} {y : MethodName} {b : ByteArray} {ret : Option FieldType} (hC : CLv own index y b n ret) : GoodIn TBL (wsV own index y.cls y (.code y b n ret :: TBL)) := by
  obtain ⟨c1, c2, c3, c4, c5⟩ := hC
  intro w hw
  have hm : w ∈ TBL := by
    simp only [wsV, List.cons_append, List.nil_append, List.mem_cons] at hw
    rcases hw with rfl | rfl | rfl | rfl | rfl | hw
    · exact c1
    · exact c4
    · exact c5
    · exact c3
    · exact c2
    · exact hw
  exact tbl_good w hm
theorem rq_callV (X : Cx p R s m args meth c own cc nL nf nl A G rt) {index cN a : Nat} {y : MethodName} {b : ByteArray} {n f lo : Nat} {ret : Option FieldType} {As st0 : List Value} {rv : Option Value}
    (hdg : decode cc pc = .ok (.invokevirtual index, 3)) (hC : CLv own index y b n ret) (hy : PY y As.length) (hM : MM l y b n ret f lo G Y S (.ref a :: As) S1 rv) (hroom : f + 1 ≤ nf ∧ 8 + (n + 11) + lo ≤ nl) (hc : chk Y cN a = true) (hcN : (vwCl[cN]?).map (fun q => q.1) = some y.cls) (hP : HP A G Y s S H locs) (hcs : cells ≤ R.cells ∧ slots ≤ R.slots)
    (hst : st0 = As.reverse ++ .ref a :: rest) (hcat : (rest.map fun v => v.category).sum ≤ 8) (hsz : ls.size = nL)
    (kk : ∀ (H1 : Heap) (locs1 : List Loc), WP G Y S1 H1 → (∀ q, q < H.size → q ∉ Y.1 → H1[q]? = H[q]?) → va_S A s.heap H1 locs1 → W p l e R s m args below meth c H1 locs1 cells slots Q (F0 m (pc + 3) ls (rv.toList ++ rest))) : W p l e R s m args below meth c H locs cells slots Q (F0 m pc ls st0) := by
  have hX := X
  have hrecv := rq_recv X hc hcN hP.1
  obtain ⟨hfix, hKK, hST, hlocks, hrt, hnf, hnl, hz1, hz2⟩ := X
  exact rq_after (va_runV (As := As) (rest := rest) hfix hM (cwV As.length hfix.2.2.2.2 (rq_good hC) rfl rfl rfl ⟨rfl, hy.1, hy.2.1, hy.2.2⟩ ⟨Nat.le_trans hroom.1 hnf, Nat.le_trans hroom.2 hnl⟩) ⟨preW_blind, hrecv, fun U hU hW => preW_of hX hP U hU hW⟩ rfl rfl hsz hst (lv_room hcat) hdg hcs) hP.2.2 (fun q h => WD_in hP.2.1 h) kk
theorem preQ_of (X : Cx p R s m args meth c own cc nL nf nl A G rt) (hP : HP A G Y s S H locs) (hA : ∀ q, s.heap.size ≤ q → A q) (hN : H.size = N.1) {av : List Value} (U : State) (hU : U.heap = H) (hW : s.WarmedH U.vm) : PreA G Y S N av av.toArray U := by
  obtain ⟨-, hKK, hST, -⟩ := X
  obtain ⟨hP, hD, hS⟩ := hP
  refine ⟨rfl, by rw [hU]; exact hP, ⟨hD.1, fun k q hk => ?_⟩, hKK.warm hW, ?_, by rw [hU]; exact hN, fun q hq => hN ▸ WP_lt hP hq⟩
  · simp only [va_pl, List.getElem?_map] at hk
    cases hb : Y.1[k]? with
    | none => rw [hb] at hk; cases hk
    | some b => rw [hb] at hk; cases hk; exact Or.inl (List.mem_of_getElem? hb)
  · rw [hU]
    refine ((hST.kept hS.2.1).narrow (fun q h => ?_)).warm hW
    rcases h with h | h
    · exact WD_in hD h
    · exact hA q (Nat.le_trans hS.1 (by omega))
theorem rq_afterA {st0 : List Value} {a : Array Value} {rv : Option Value} {mc ms : Nat} (hr : va_Run p l e R s m args below meth c H locs cells slots mc ms (F0 m pc ls st0) rest (QA G (AA Y N) Y1 S1 N1 rv a) (AA Y N)) (hP : HP A G Y s S H locs) (hA : ∀ q, s.heap.size ≤ q → A q) (hN : H.size = N.1)
    (kk : ∀ (H1 : Heap) (locs1 : List Loc), WP G Y1 S1 H1 → (∀ q, q < H.size → q ∉ Y.1 → H1[q]? = H[q]?) → H1.size = N1.1 → va_S A s.heap H1 locs1 → W p l e R s m args below meth c H1 locs1 (cells + mc) (slots + ms) Q (F0 m (pc + 3) ls (rv.toList ++ rest))) : W p l e R s m args below meth c H locs cells slots Q (F0 m pc ls st0) := by
  intro T hT X
  obtain ⟨v, st₀, t, T', L, h0, X', hL, e1, e2, ⟨ho, hW, hWD, hsz, h8', h10', hz, hk⟩, st⟩ := hr T hT X
  cases ho
  rw [h0] at hz hk
  obtain ⟨hP, hD, hS⟩ := hP
  have hAA : ∀ q, AA Y N q → A q := fun q h => by
    rcases h with h | h
    · exact WD_in hD h
    · exact hA q (Nat.le_trans hS.1 (by omega))
  obtain ⟨t2, a1, b1⟩ := kk T'.heap (locs ++ L) (by rw [e1]; exact hW) (fun q h1 h2 => by
      rw [e1]
      refine hk q h1 (fun h => ?_)
      rcases h with h | h
      · exact h2 h
      · omega) (by rw [e1]; exact hsz) ⟨Nat.le_trans hS.1 (by rw [e1]; exact hz), fun q h1 h2 => by rw [e1, hk q (Nat.lt_of_lt_of_le h1 hS.1) (fun z => h2 (hAA q z))]; exact hS.2.1 q h1 h2, fun q hq => by
      rcases List.mem_append.mp hq with h | h
      · exact hS.2.2 q h
      · exact hAA _ (hL q h)⟩ T' rfl X'
  exact ⟨t2, st t2 a1, b1⟩
theorem rq_callA (X : Cx p R s m args meth c own cc nL nf nl A G rt) {index cN a mc ms : Nat} {y : MethodName} {b : ByteArray} {n f lo : Nat} {ret : Option FieldType} {As st0 : List Value} {rv : Option Value}
    (hdg : decode cc pc = .ok (.invokevirtual index, 3)) (hC : CLv own index y b n ret) (hy : PY y As.length) (hM : MA l y b n ret f lo mc ms G Y S N (.ref a :: As) Y1 S1 N1 rv) (hroom : f + 1 ≤ nf ∧ 8 + (n + 11) + lo ≤ nl) (hc : chk Y cN a = true) (hcN : (vwCl[cN]?).map (fun q => q.1) = some y.cls) (hP : HP A G Y s S H locs) (hA : ∀ q, s.heap.size ≤ q → A q) (hN : H.size = N.1) (hcs : cells + mc ≤ R.cells ∧ slots + ms ≤ R.slots)
    (hst : st0 = As.reverse ++ .ref a :: rest) (hcat : (rest.map fun v => v.category).sum ≤ 8) (hsz : ls.size = nL)
    (kk : ∀ (H1 : Heap) (locs1 : List Loc), WP G Y1 S1 H1 → (∀ q, q < H.size → q ∉ Y.1 → H1[q]? = H[q]?) → H1.size = N1.1 → va_S A s.heap H1 locs1 → W p l e R s m args below meth c H1 locs1 (cells + mc) (slots + ms) Q (F0 m (pc + 3) ls (rv.toList ++ rest))) : W p l e R s m args below meth c H locs cells slots Q (F0 m pc ls st0) := by
  have hX := X
  have hrecv := rq_recv X hc hcN hP.1
  obtain ⟨hfix, hKK, hST, hlocks, hrt, hnf, hnl, hz1, hz2⟩ := X
  exact rq_afterA (va_runV (As := As) (rest := rest) hfix hM (cwV As.length hfix.2.2.2.2 (rq_good hC) rfl rfl rfl ⟨rfl, hy.1, hy.2.1, hy.2.2⟩ ⟨Nat.le_trans hroom.1 hnf, Nat.le_trans hroom.2 hnl⟩) ⟨preA_blind, hrecv, fun U hU hW => preQ_of hX hP hA hN U hU hW⟩ rfl rfl hsz hst (lv_room hcat) hdg hcs) hP hA hN kk
/-- a constructor -/
theorem rq_callI (X : Cx p R s m args meth c own cc nL nf nl A G rt) {index n f lo mc ms a : Nat} {y : MethodName} {b : ByteArray} {st0 : List Value} (hdg : decode cc pc = .ok (.invokespecial index, 3)) (hC : CLi own index y b n) (hl : Cond.methodLink own index y ∈ TBL) (hy : PY y 0) (hM : MA l y b n none f lo mc ms G Y S N [.ref a] Y1 S1 N1 none) (hroom : f + 1 ≤ nf ∧ 8 + (n + 11) + lo ≤ nl) (hP : HP A G Y s S H locs) (hA : ∀ q, s.heap.size ≤ q → A q) (hN : H.size = N.1) (hcs : cells + mc ≤ R.cells ∧ slots + ms ≤ R.slots)
    (hst : st0 = .ref a :: rest) (hcat : (rest.map fun v => v.category).sum ≤ 8) (hsz : ls.size = nL)
    (kk : ∀ (H1 : Heap) (locs1 : List Loc), WP G Y1 S1 H1 → (∀ q, q < H.size → q ∉ Y.1 → H1[q]? = H[q]?) → H1.size = N1.1 → va_S A s.heap H1 locs1 → W p l e R s m args below meth c H1 locs1 (cells + mc) (slots + ms) Q (F0 m (pc + 3) ls rest)) : W p l e R s m args below meth c H locs cells slots Q (F0 m pc ls st0) := by
  have hX := X
  obtain ⟨hfix, hKK, hST, hlocks, hrt, hnf, hnl, hz1, hz2⟩ := X
  obtain ⟨c1, c2, c3, c4, c5⟩ := hC
  have hts := hfix.2.2.2.2
  exact rq_afterA (va_runI (As := []) (rest := rest) hfix hM (cwI 0 hts (good_code c2) rfl rfl rfl (hts _ c3) (hts _ hl) (hts _ c4) c5 ⟨hy.1, hy.2.1, hy.2.2⟩ ⟨Nat.le_trans hroom.1 hnf, Nat.le_trans hroom.2 hnl⟩) ⟨preA_blind, fun U hU hW => preQ_of hX hP hA hN U hU hW⟩ rfl rfl hsz hst (lv_room hcat) hdg hcs) hP hA hN kk
/-- an object of its own -/
def YO (cN a : Nat) : LY := ([a], fun _ => cN, fun _ => 0)
def SO : HS := (fun _ _ => 0, fun _ _ => none, fun _ _ => 0, fun _ _ => none)
theorem rq_new (X : Cx p R s m args meth c own cc nL nf nl A G rt) {index cN a : Nat} (hdg : decode cc pc = .ok (.new index, 3)) (hC : NLk own index cN) (hz : H.size = a) (hS : va_S A s.heap H locs) (hcs : cells + 1 ≤ R.cells ∧ slots + nfl cN ≤ R.slots)
    (kk : ∀ (H1 : Heap), WP G (YO cN a) SO H1 → (∀ q, q < H.size → H1[q]? = H[q]?) → H1.size = a + 1 → va_S A s.heap H1 locs → W p l e R s m args below meth c H1 locs (cells + 1) (slots + nfl cN) Q (F0 m (pc + 3) ls (.ref a :: rest))) : W p l e R s m args below meth c H locs cells slots Q (F0 m pc ls rest) := by
  obtain ⟨⟨hx, hb, hml, hown, hts⟩, hKK, -⟩ := X
  obtain ⟨C, T0, n, ty, g1, g2, g3, g4, g5, g6, g7⟩ := hC
  obtain ⟨k1, k2⟩ := vw_nfl g1
  have k2' : n = nfl cN := k2
  have hKn := hKK.1.1 cN _ g1
  refine W.newcK hx hb hown (hts _ g5) (hts _ g6) (hts _ g7) rfl hdg hcs.1 (by rw [k2']; exact hcs.2) hKn.2.1 hz fun H1 kC hkC e1 z1 o1 => ?_
  rw [k2']
  refine kk H1 (fun k q hk => ?_) (fun q hq => o1 q (by omega)) (by omega) ⟨Nat.le_trans hS.1 (by omega), fun q h1 h2 => (o1 q (by have := hS.1; omega)).trans (hS.2.1 q h1 h2), hS.2.2⟩
  have hk0 : k < 1 := (List.getElem?_eq_some_iff.mp hk).1
  rw [show k = 0 by omega] at hk
  cases hk
  show va_at G.1 vwCl (a, ce G (YO cN a) SO a) H1
  rw [ce_obj (c := cN) k1 rfl]
  refine ⟨_, g1, (u_born (ty := ty) (o := a) hts g4 hKn hkC e1 g2).to (fun k hk => ?_)⟩
  show defaultValue (ty k) = vp_V (fv _ cN a) k
  rw [g3 k hk]
  unfold vp_V
  rw [List.getD_eq_getElem?_getD, fv_get (by rw [← k2']; exact hk)]
  unfold vl
  rfl
end RQ
