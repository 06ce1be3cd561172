/-! rows of the walks: an instruction, a row; reads and writes by the abstract heap's functions -/
theorem vw_nfl {c : Nat} {r : vw_C} (h : vwCl[c]? = some r) : c < 13 ∧ r.2.2 = nfl c := by
  match c, h with
  | 0, h => cases h; exact ⟨by decide, rfl⟩
  | 1, h => cases h; exact ⟨by decide, rfl⟩
  | 2, h => cases h; exact ⟨by decide, rfl⟩
  | 3, h => cases h; exact ⟨by decide, rfl⟩
  | 4, h => cases h; exact ⟨by decide, rfl⟩
  | 5, h => cases h; exact ⟨by decide, rfl⟩
  | 6, h => cases h; exact ⟨by decide, rfl⟩
  | 7, h => cases h; exact ⟨by decide, rfl⟩
  | 8, h => cases h; exact ⟨by decide, rfl⟩
  | 9, h => cases h; exact ⟨by decide, rfl⟩
  | 10, h => cases h; exact ⟨by decide, rfl⟩
  | 11, h => cases h; exact ⟨by decide, rfl⟩
  | 12, h => cases h; exact ⟨by decide, rfl⟩
  | n + 13, h => simp [vwCl] at h
abbrev RM (f lo : Nat) : Room := { frames := f, cells := 0, slots := 0, locals := lo }
def PY (y : MethodName) (k : Nat) : Prop := y.cls ≠ "java/lang/invoke/MethodHandle" ∧ y.cls ≠ "java/lang/invoke/VarHandle" ∧ (parseMethodDescriptor y.desc).map (fun d => d.parameters.length) = some k
def PreW (G : GG) (Y : LY) (S : HS) (av : List Value) : Array Value → State → Prop := va_Pc av (fun U => WP G Y S U.heap ∧ WD G Y S (fun q => q ∈ Y.1) ∧ KK G U ∧ STR G (fun q => q ∈ Y.1) U U.heap)
def QI (G : GG) (Y : LY) (S : HS) (r : Option Value) : Array Value → State → Outcome → State → Prop := fun _ st o t => o = .returned r ∧ WP G Y S t.heap ∧ va_F (fun q => q ∈ Y.1) st t
/-- a method's contract: from the heap S with these arguments it ends with S1 and the answer r; nothing new, nothing outside changed -/
def MM (l : Launch) (y : MethodName) (b : ByteArray) (n : Nat) (ret : Option FieldType) (f lo : Nat) (G : GG) (Y : LY) (S : HS) (av : List Value) (S1 : HS) (r : Option Value) : Prop :=
  Met l y (.code y b n ret :: TBL) (RM f lo) (PreW G Y S av) (QI G Y S1 r) 0 0 (fun q => q ∈ Y.1)
section RW
variable {p : Program} {l : Launch} {e : Env} {R : Room} {s : State} {m : MethodId} {args : Array Value} {below : List Frame} {meth : Method} {c : Code} {H : Heap} {locs : List Loc} {cells slots : Nat} {Q : State → Prop}
variable {own : String} {cc : ByteArray} {nL nf nl : Nat} {A : Nat → Prop} {G : GG} {rt : Option FieldType} {Y : LY} {S S1 : HS} {pc : Nat} {ls : Array Slot} {rest : List Value}
theorem rw_get (X : Cx p R s m args meth c own cc nL nf nl A G rt) {index cN k a : Nat} (hdg : decode cc pc = .ok (.getfield index, 3)) (hF : FLk own index cN k) (hc : chk Y cN a = true) (hP : HP A G Y s S H locs)
    (kk : W p l e R s m args below meth c H locs cells slots Q (F0 m (pc + 3) ls (vl S (100 * cN + k) a :: rest))) : W p l e R s m args below meth c H locs cells slots Q (F0 m pc ls (.ref a :: rest)) := by
  obtain ⟨⟨hx, hb, hml, hown, hts⟩, hKK, -⟩ := X
  obtain ⟨C, T, N, h1, h2, h3, h4, h5⟩ := hF
  obtain ⟨h6, h7⟩ := vw_nfl h1
  have hk : k < nfl cN := by rw [← h7]; exact h2
  obtain ⟨ha, hk2⟩ := chk_in hc
  obtain ⟨i, hi⟩ := va_pl_get (X := []) (f := ce G Y S) ha
  rw [ce_obj h6 hk2] at hi
  have hsame : ∀ x, s.fieldFound? (T k).1 (T k).2.1 (T k).2.2.1 = some x → s.fieldFound? C (T k).2.1 (T k).2.2.1 = some x := by rw [h4]; exact fun x h => h
  rcases h5 with h5 | ⟨host, h5⟩
  · exact va_get hx hb hts h3 hown hKK.1 hP.1 i hi h1 k h2 (hts _ h5) hsame (fv_get hk) hdg kk
  · exact va_getN hx hb hts h3 hown hKK.1 hP.1 i hi h1 k h2 (va_Nw.use rfl (hKK.2 _ h5 rfl)) hsame (fv_get hk) hdg kk
theorem rw_getI (X : Cx p R s m args meth c own cc nL nf nl A G rt) {index cN k f : Nat} {r : Option Nat} {v : Int32} (hdg : decode cc pc = .ok (.getfield index, 3)) (hF : FLk own index cN k) (h : gI Y cN f r S = some v) (hf : (f == 100 * cN + k && !isR f) = true) (hP : HP A G Y s S H locs)
    (kk : W p l e R s m args below meth c H locs cells slots Q (F0 m (pc + 3) ls (.int v :: rest))) : W p l e R s m args below meth c H locs cells slots Q (F0 m pc ls (va_rf r :: rest)) := by
  obtain ⟨a, rfl, hc, rfl⟩ := rc_some h
  simp only [Bool.and_eq_true, beq_iff_eq, Bool.not_eq_true'] at hf
  refine rw_get X hdg hF hc hP ?_
  rw [← hf.1]
  unfold vl
  rw [hf.2]
  exact kk
theorem rw_getR (X : Cx p R s m args meth c own cc nL nf nl A G rt) {index cN k f : Nat} {r v : Option Nat} (hdg : decode cc pc = .ok (.getfield index, 3)) (hF : FLk own index cN k) (h : gR Y cN f r S = some v) (hf : (f == 100 * cN + k && isR f) = true) (hP : HP A G Y s S H locs)
    (kk : W p l e R s m args below meth c H locs cells slots Q (F0 m (pc + 3) ls (va_rf v :: rest))) : W p l e R s m args below meth c H locs cells slots Q (F0 m pc ls (va_rf r :: rest)) := by
  obtain ⟨a, rfl, hc, rfl⟩ := rc_some h
  simp only [Bool.and_eq_true, beq_iff_eq] at hf
  refine rw_get X hdg hF hc hP ?_
  rw [← hf.1]
  unfold vl
  rw [hf.2]
  exact kk
theorem rw_put (X : Cx p R s m args meth c own cc nL nf nl A G rt) {index cN k a : Nat} {ty : FieldType} (hdg : decode cc pc = .ok (.putfield index, 3)) (hF : FLk own index cN k) (hW : FLw cN k ty) (hc : chk Y cN a = true) (hP : HP A G Y s S H locs)
    (hd : Diff1 S S1 (100 * cN + k) a) (hn : narrow ty (vl S1 (100 * cN + k) a) = vl S1 (100 * cN + k) a) (hfit : fits ty (vl S1 (100 * cN + k) a) = true)
    (kk : ∀ (H : Heap) (locs : List Loc), HP A G Y s S1 H locs → W p l e R s m args below meth c H locs cells slots Q (F0 m (pc + 3) ls rest)) : W p l e R s m args below meth c H locs cells slots Q (F0 m pc ls (vl S1 (100 * cN + k) a :: .ref a :: rest)) := by
  obtain ⟨⟨hx, hb, hml, hown, hts⟩, hKK, -⟩ := X
  obtain ⟨C, T, N, h1, h2, h3, h4, h5⟩ := hF
  obtain ⟨C', T', N', ty0, g1, g2, g3, g4, g5⟩ := hW
  rw [h1] at g1
  cases g1
  obtain ⟨h6, h7⟩ := vw_nfl h1
  have hk : k < nfl cN := by rw [← h7]; exact h2
  obtain ⟨ha, hk2⟩ := chk_in hc
  obtain ⟨i, hi⟩ := va_pl_get (X := []) (f := ce G Y S) ha
  have hi0 := hi
  rw [ce_obj h6 hk2] at hi
  have hsame : ∀ x, s.fieldFound? (T k).1 (T k).2.1 (T k).2.2.1 = some x → s.fieldFound? C (T k).2.1 (T k).2.2.1 = some x := by rw [h4]; exact fun x h => h
  obtain ⟨hP1, hP2, hP3⟩ := hP
  have hset : (va_pl Y.1 (ce G Y S)).set i (a, .inr (cN, (fv S cN a).set k (vl S1 (100 * cN + k) a))) = va_pl Y.1 (ce G Y S1) := by
    have e := va_pl_set (X := []) hP2 ha hi0 (e := .inr (cN, (fv S cN a).set k (vl S1 (100 * cN + k) a)))
    exact e.trans (va_pl_congr (ce_set h6 hk2 hk hd))
  have kk' : ∀ (H1 : Heap) (locs1 : List Loc), va_P G.1 vwCl ((va_pl Y.1 (ce G Y S)).set i (a, .inr (cN, (fv S cN a).set k (vl S1 (100 * cN + k) a)))) H1 → va_D A ((va_pl Y.1 (ce G Y S)).set i (a, .inr (cN, (fv S cN a).set k (vl S1 (100 * cN + k) a)))) → va_S A s.heap H1 locs1 → W p l e R s m args below meth c H1 locs1 cells slots Q (F0 m (pc + 3) ls rest) := by
    intro H1 locs1 q1 q2 q3
    rw [hset] at q1 q2
    exact kk H1 locs1 ⟨q1, q2, q3⟩
  rcases h5 with h5 | ⟨host, h5⟩
  · exact va_put hx hb hts h3 ty0 g2 g3 hown hKK.1 hP1 hP2 hP3 i hi h1 k h2 (hts _ h5) hsame g4 g5 hn hfit (by rw [fv_len]; exact hk) hdg kk'
  · exact va_putN hx hb hts h3 ty0 g2 g3 hown hKK.1 hP1 hP2 hP3 i hi h1 k h2 (va_Nw.use rfl (hKK.2 _ h5 rfl)) hsame g4 g5 hn hfit (by rw [fv_len]; exact hk) hdg kk'
theorem diff_I {f a : Nat} {v : Int32} (hR : isR f = false) : Diff1 S (upN S.1 f a v, S.2) f a ∧ vl (upN S.1 f a v, S.2) f a = .int v := by
  refine ⟨⟨fun g b h => ?_, rfl⟩, ?_⟩
  · unfold vl
    have e : upN S.1 f a v g b = S.1 g b := by
      unfold upN
      rw [if_neg]
      intro q
      rcases h with h | h
      · exact h q.1
      · exact h q.2
    show (if isR g = true then va_rf (S.2.1 g b) else .int (upN S.1 f a v g b)) = _
    rw [e]
  · unfold vl
    rw [hR]
    show Value.int (upN S.1 f a v f a) = _
    simp [upN]
theorem diff_R {f a : Nat} {v : Option Nat} (hR : isR f = true) : Diff1 S (S.1, upN S.2.1 f a v, S.2.2) f a ∧ vl (S.1, upN S.2.1 f a v, S.2.2) f a = va_rf v := by
  refine ⟨⟨fun g b h => ?_, rfl⟩, ?_⟩
  · unfold vl
    have e : upN S.2.1 f a v g b = S.2.1 g b := by
      unfold upN
      rw [if_neg]
      intro q
      rcases h with h | h
      · exact h q.1
      · exact h q.2
    show (if isR g = true then va_rf (upN S.2.1 f a v g b) else .int (S.1 g b)) = _
    rw [e]
  · unfold vl
    rw [hR]
    show va_rf (upN S.2.1 f a v f a) = _
    simp [upN]
theorem rw_putI (X : Cx p R s m args meth c own cc nL nf nl A G rt) {index cN k f : Nat} {r : Option Nat} {v : Int32} (hdg : decode cc pc = .ok (.putfield index, 3)) (hF : FLk own index cN k) (hW : FLw cN k .int) (h : pI Y cN f r v S = some S1) (hf : (f == 100 * cN + k && !isR f) = true) (hP : HP A G Y s S H locs)
    (kk : ∀ (H : Heap) (locs : List Loc), HP A G Y s S1 H locs → W p l e R s m args below meth c H locs cells slots Q (F0 m (pc + 3) ls rest)) : W p l e R s m args below meth c H locs cells slots Q (F0 m pc ls (.int v :: va_rf r :: rest)) := by
  obtain ⟨a, rfl, hc, rfl⟩ := rc_some h
  simp only [Bool.and_eq_true, beq_iff_eq, Bool.not_eq_true'] at hf
  obtain ⟨hf1, hf2⟩ := hf
  obtain ⟨d1, d2⟩ := diff_I (S := S) (a := a) (v := v) hf2
  rw [hf1] at d1 d2 kk
  have := rw_put X hdg hF hW hc hP d1 (by rw [d2]; rfl) (by rw [d2]; rfl) kk
  rw [d2] at this
  exact this
theorem rw_putZ (X : Cx p R s m args meth c own cc nL nf nl A G rt) {index cN k f : Nat} {r : Option Nat} {v : Int32} (hdg : decode cc pc = .ok (.putfield index, 3)) (hF : FLk own index cN k) (hW : FLw cN k .boolean) (h : pZ Y cN f r v S = some S1) (hf : (f == 100 * cN + k && !isR f) = true) (hP : HP A G Y s S H locs)
    (kk : ∀ (H : Heap) (locs : List Loc), HP A G Y s S1 H locs → W p l e R s m args below meth c H locs cells slots Q (F0 m (pc + 3) ls rest)) : W p l e R s m args below meth c H locs cells slots Q (F0 m pc ls (.int v :: va_rf r :: rest)) := by
  unfold pZ at h
  by_cases hv : v = 0 ∨ v = 1
  · rw [if_pos hv] at h
    obtain ⟨a, rfl, hc, rfl⟩ := rc_some h
    simp only [Bool.and_eq_true, beq_iff_eq, Bool.not_eq_true'] at hf
    obtain ⟨hf1, hf2⟩ := hf
    obtain ⟨d1, d2⟩ := diff_I (S := S) (a := a) (v := v) hf2
    rw [hf1] at d1 d2 kk
    have := rw_put X hdg hF hW hc hP d1 (by rw [d2]; rcases hv with rfl | rfl <;> decide +kernel) (by rw [d2]; rcases hv with rfl | rfl <;> decide +kernel) kk
    rw [d2] at this
    exact this
  · rw [if_neg hv] at h
    cases h
theorem rw_putC (X : Cx p R s m args meth c own cc nL nf nl A G rt) {index cN k f : Nat} {r : Option Nat} {v : Int32} (hdg : decode cc pc = .ok (.putfield index, 3)) (hF : FLk own index cN k) (hW : FLw cN k .char) (h : pC Y cN f r v S = some S1) (hf : (f == 100 * cN + k && !isR f) = true) (hP : HP A G Y s S H locs)
    (kk : ∀ (H : Heap) (locs : List Loc), HP A G Y s S1 H locs → W p l e R s m args below meth c H locs cells slots Q (F0 m (pc + 3) ls rest)) : W p l e R s m args below meth c H locs cells slots Q (F0 m pc ls (.int v :: va_rf r :: rest)) := by
  unfold pC at h
  by_cases hv : vp_nar .char v = v
  · rw [if_pos hv] at h
    obtain ⟨a, rfl, hc, rfl⟩ := rc_some h
    simp only [Bool.and_eq_true, beq_iff_eq, Bool.not_eq_true'] at hf
    obtain ⟨hf1, hf2⟩ := hf
    obtain ⟨d1, d2⟩ := diff_I (S := S) (a := a) (v := v) hf2
    rw [hf1] at d1 d2 kk
    rw [vp_nar_char] at hv
    have h2 : (v.toUInt32 % 65536).toInt32 = v.toUInt32.toUInt16.toUInt32.toInt32 := by
      congr 1
    have hv2 : (v.toUInt32 % 65536).toInt32 = v := h2.trans hv
    have := rw_put X hdg hF hW hc hP d1 (by rw [d2, ← hv2]; exact pk_nc v) (by rw [d2, ← hv2]; exact pk_fc v) kk
    rw [d2] at this
    exact this
  · rw [if_neg hv] at h
    cases h
theorem rw_putR (X : Cx p R s m args meth c own cc nL nf nl A G rt) {index cN k f : Nat} {r v : Option Nat} {C : String} (hdg : decode cc pc = .ok (.putfield index, 3)) (hF : FLk own index cN k) (hW : FLw cN k (.object C)) (h : pR Y cN f r v S = some S1) (hf : (f == 100 * cN + k && isR f) = true) (hP : HP A G Y s S H locs)
    (kk : ∀ (H : Heap) (locs : List Loc), HP A G Y s S1 H locs → W p l e R s m args below meth c H locs cells slots Q (F0 m (pc + 3) ls rest)) : W p l e R s m args below meth c H locs cells slots Q (F0 m pc ls (va_rf v :: va_rf r :: rest)) := by
  obtain ⟨a, rfl, hc, rfl⟩ := rc_some h
  simp only [Bool.and_eq_true, beq_iff_eq] at hf
  obtain ⟨hf1, hf2⟩ := hf
  obtain ⟨d1, d2⟩ := diff_R (S := S) (a := a) (v := v) hf2
  rw [hf1] at d1 d2 kk
  have := rw_put X hdg hF hW hc hP d1 (by rw [d2]; cases v <;> rfl) (by rw [d2]; cases v <;> rfl) kk
  rw [d2] at this
  exact this
theorem rw_iald (X : Cx p R s m args meth c own cc nL nf nl A G rt) {r : Option Nat} {i v : Int32} (hdg : decode cc pc = .ok (.iaload, 1)) (h : gA Y 14 r i S = some v) (hP : HP A G Y s S H locs)
    (kk : W p l e R s m args below meth c H locs cells slots Q (F0 m (pc + 1) ls (.int v :: rest))) : W p l e R s m args below meth c H locs cells slots Q (F0 m pc ls (.int i :: va_rf r :: rest)) := by
  obtain ⟨a, rfl, hc, hin, rfl⟩ := rc_some2 h
  obtain ⟨⟨hx, hb, hml, hown, hts⟩, hKK, -⟩ := X
  obtain ⟨ha, hk2⟩ := chk_in hc
  obtain ⟨j, hj⟩ := va_pl_get (X := []) (f := ce G Y S) ha
  rw [ce_14 hk2] at hj
  exact va_iald hx hb hKK.1 hP.1 j 1 hj rfl hin hdg kk
theorem rw_cald (X : Cx p R s m args meth c own cc nL nf nl A G rt) {r : Option Nat} {i v : Int32} (hdg : decode cc pc = .ok (.caload, 1)) (h : gA Y 13 r i S = some v) (hP : HP A G Y s S H locs)
    (kk : W p l e R s m args below meth c H locs cells slots Q (F0 m (pc + 1) ls (.int v :: rest))) : W p l e R s m args below meth c H locs cells slots Q (F0 m pc ls (.int i :: va_rf r :: rest)) := by
  obtain ⟨a, rfl, hc, hin, rfl⟩ := rc_some2 h
  obtain ⟨⟨hx, hb, hml, hown, hts⟩, hKK, -⟩ := X
  obtain ⟨ha, hk2⟩ := chk_in hc
  obtain ⟨j, hj⟩ := va_pl_get (X := []) (f := ce G Y S) ha
  rw [ce_13 hk2] at hj
  exact va_cald hx hb hKK.1 hP.1 j 0 hj rfl hin hdg kk
theorem rw_aald15 (X : Cx p R s m args meth c own cc nL nf nl A G rt) {r v : Option Nat} {i : Int32} (hdg : decode cc pc = .ok (.aaload, 1)) (h : gQ Y 15 r i S = some v) (hP : HP A G Y s S H locs)
    (kk : W p l e R s m args below meth c H locs cells slots Q (F0 m (pc + 1) ls (va_rf v :: rest))) : W p l e R s m args below meth c H locs cells slots Q (F0 m pc ls (.int i :: va_rf r :: rest)) := by
  obtain ⟨a, rfl, hc, hin, rfl⟩ := rc_some2 h
  obtain ⟨⟨hx, hb, hml, hown, hts⟩, hKK, -⟩ := X
  obtain ⟨ha, hk2⟩ := chk_in hc
  obtain ⟨j, hj⟩ := va_pl_get (X := []) (f := ce G Y S) ha
  rw [ce_15 hk2] at hj
  exact va_aldq hx hb hKK.1 hP.1 j 2 hj rfl hin hdg kk
theorem rw_aald16 (X : Cx p R s m args meth c own cc nL nf nl A G rt) {r v : Option Nat} {i : Int32} (hdg : decode cc pc = .ok (.aaload, 1)) (h : gQ Y 16 r i S = some v) (hP : HP A G Y s S H locs)
    (kk : W p l e R s m args below meth c H locs cells slots Q (F0 m (pc + 1) ls (va_rf v :: rest))) : W p l e R s m args below meth c H locs cells slots Q (F0 m pc ls (.int i :: va_rf r :: rest)) := by
  obtain ⟨a, rfl, hc, hin, rfl⟩ := rc_some2 h
  obtain ⟨⟨hx, hb, hml, hown, hts⟩, hKK, -⟩ := X
  obtain ⟨ha, hk2⟩ := chk_in hc
  obtain ⟨j, hj⟩ := va_pl_get (X := []) (f := ce G Y S) ha
  rw [ce_16 hk2] at hj
  exact va_aldq hx hb hKK.1 hP.1 j 3 hj rfl hin hdg kk
theorem rw_alen (X : Cx p R s m args meth c own cc nL nf nl A G rt) {k : Nat} {r : Option Nat} {v : Int32} (hk : k = 13 ∨ k = 14 ∨ k = 15 ∨ k = 16) (hdg : decode cc pc = .ok (.arraylength, 1)) (h : aL Y k r = some v) (hP : HP A G Y s S H locs)
    (kk : W p l e R s m args below meth c H locs cells slots Q (F0 m (pc + 1) ls (.int v :: rest))) : W p l e R s m args below meth c H locs cells slots Q (F0 m pc ls (va_rf r :: rest)) := by
  obtain ⟨a, rfl, hc, rfl⟩ := rc_some h
  obtain ⟨⟨hx, hb, hml, hown, hts⟩, hKK, -⟩ := X
  obtain ⟨ha, hk2⟩ := chk_in hc
  obtain ⟨j, hj⟩ := va_pl_get (X := []) (f := ce G Y S) ha
  rcases hk with rfl | rfl | rfl | rfl
  · rw [ce_13 hk2] at hj
    exact va_alen hx hb hKK.1 hP.1 j 0 hj rfl rfl hdg kk
  · rw [ce_14 hk2] at hj
    exact va_alen hx hb hKK.1 hP.1 j 1 hj rfl rfl hdg kk
  · rw [ce_15 hk2] at hj
    exact va_alen hx hb hKK.1 hP.1 j 2 hj rfl rfl hdg kk
  · rw [ce_16 hk2] at hj
    exact va_alen hx hb hKK.1 hP.1 j 3 hj rfl rfl hdg kk
theorem ce_row {a : Nat} (g : Nat → Int32) (hk : Y.2.1 a = 13 ∨ Y.2.1 a = 14) (b : Nat) : va_up (ce G Y S) a (.inl (G.2.1 (Y.2.1 a), Y.2.2 a, .inl g)) b = ce G Y (S.1, S.2.1, va_up S.2.2.1 a g, S.2.2.2) b := by
  by_cases hb : b = a
  · subst hb
    rw [va_up_self]
    rcases hk with hk | hk
    · rw [ce_13 hk, hk]
      show _ = (Sum.inl (_, _, Sum.inl (va_up S.2.2.1 b g b)) : va_E)
      rw [va_up_self]
    · rw [ce_14 hk, hk]
      show _ = (Sum.inl (_, _, Sum.inl (va_up S.2.2.1 b g b)) : va_E)
      rw [va_up_self]
  · rw [va_up_ne _ _ hb]
    have e : va_up S.2.2.1 a g b = S.2.2.1 b := va_up_ne _ _ hb
    unfold ce
    simp only [e]
    rfl
theorem rows_up {a j : Nat} {x : Int32} : upN S.2.2.1 a j x = va_up S.2.2.1 a (upd (S.2.2.1 a) j x) := by
  funext b i
  unfold upN va_up upd
  by_cases hb : b = a
  · subst hb
    by_cases hi : i = j
    · simp [hi]
    · simp [hi]
  · simp [hb]
theorem rw_iast (X : Cx p R s m args meth c own cc nL nf nl A G rt) {r : Option Nat} {i v : Int32} (hdg : decode cc pc = .ok (.iastore, 1)) (h : pA Y 14 r i v S = some S1) (hP : HP A G Y s S H locs)
    (kk : ∀ (H : Heap) (locs : List Loc), HP A G Y s S1 H locs → W p l e R s m args below meth c H locs cells slots Q (F0 m (pc + 1) ls rest)) : W p l e R s m args below meth c H locs cells slots Q (F0 m pc ls (.int v :: .int i :: va_rf r :: rest)) := by
  obtain ⟨a, rfl, hc, hin, rfl⟩ := rc_some2 h
  obtain ⟨⟨hx, hb, hml, hown, hts⟩, hKK, -⟩ := X
  obtain ⟨ha, hk2⟩ := chk_in hc
  obtain ⟨j, hj⟩ := va_pl_get (X := []) (f := ce G Y S) ha
  have hj0 := hj
  rw [ce_14 hk2] at hj
  obtain ⟨hP1, hP2, hP3⟩ := hP
  have hset : (va_pl Y.1 (ce G Y S)).set j (a, .inl (G.2.1 14, Y.2.2 a, .inl (upd (S.2.2.1 a) i.toNatClampNeg v))) = va_pl Y.1 (ce G Y (S.1, S.2.1, upN S.2.2.1 a i.toNatClampNeg v, S.2.2.2)) := by
    rw [rows_up]
    have e := va_pl_set (X := []) hP2 ha hj0 (e := .inl (G.2.1 14, Y.2.2 a, .inl (upd (S.2.2.1 a) i.toNatClampNeg v)))
    exact e.trans (va_pl_congr (fun b => by have := ce_row (G := G) (S := S) (upd (S.2.2.1 a) i.toNatClampNeg v) (Or.inr hk2) b; rw [hk2] at this; exact this))
  refine va_iast hx hb hKK.1 hP1 hP2 hP3 j 1 hj rfl hin hdg (fun H1 locs1 q1 q2 q3 => ?_)
  rw [hset] at q1 q2
  exact kk H1 locs1 ⟨q1, q2, q3⟩
theorem rw_cast (X : Cx p R s m args meth c own cc nL nf nl A G rt) {r : Option Nat} {i v : Int32} (hdg : decode cc pc = .ok (.castore, 1)) (h : pA Y 13 r i (vp_nar .char v) S = some S1) (hP : HP A G Y s S H locs)
    (kk : ∀ (H : Heap) (locs : List Loc), HP A G Y s S1 H locs → W p l e R s m args below meth c H locs cells slots Q (F0 m (pc + 1) ls rest)) : W p l e R s m args below meth c H locs cells slots Q (F0 m pc ls (.int v :: .int i :: va_rf r :: rest)) := by
  obtain ⟨a, rfl, hc, hin, rfl⟩ := rc_some2 h
  obtain ⟨⟨hx, hb, hml, hown, hts⟩, hKK, -⟩ := X
  obtain ⟨ha, hk2⟩ := chk_in hc
  obtain ⟨j, hj⟩ := va_pl_get (X := []) (f := ce G Y S) ha
  have hj0 := hj
  rw [ce_13 hk2] at hj
  obtain ⟨hP1, hP2, hP3⟩ := hP
  have hset : (va_pl Y.1 (ce G Y S)).set j (a, .inl (G.2.1 13, Y.2.2 a, .inl (upd (S.2.2.1 a) i.toNatClampNeg (vp_nar .char v)))) = va_pl Y.1 (ce G Y (S.1, S.2.1, upN S.2.2.1 a i.toNatClampNeg (vp_nar .char v), S.2.2.2)) := by
    rw [rows_up]
    have e := va_pl_set (X := []) hP2 ha hj0 (e := .inl (G.2.1 13, Y.2.2 a, .inl (upd (S.2.2.1 a) i.toNatClampNeg (vp_nar .char v))))
    exact e.trans (va_pl_congr (fun b => by have := ce_row (G := G) (S := S) (upd (S.2.2.1 a) i.toNatClampNeg (vp_nar .char v)) (Or.inl hk2) b; rw [hk2] at this; exact this))
  refine va_cast hx hb hKK.1 hP1 hP2 hP3 j 0 hj rfl hin hdg (fun H1 locs1 q1 q2 q3 => ?_)
  rw [hset] at q1 q2
  exact kk H1 locs1 ⟨q1, q2, q3⟩
theorem rw_ifnull (X : Cx p R s m args meth c own cc nL nf nl A G rt) {r : Option Nat} {off : Int} {tgt : Nat} (hdg : decode cc pc = .ok (.ifnull off, 3)) (ht : (pc : Int) + off = (tgt : Int))
    (kt : r = none → W p l e R s m args below meth c H locs cells slots Q (F0 m tgt ls rest)) (kf : ¬ r = none → W p l e R s m args below meth c H locs cells slots Q (F0 m (pc + 3) ls rest)) : W p l e R s m args below meth c H locs cells slots Q (F0 m pc ls (va_rf r :: rest)) := by
  cases r with
  | none => exact lv_ifnullN X.1.1 X.1.2.1 hdg ht (kt rfl)
  | some a => exact lv_ifnull X.1.1 X.1.2.1 hdg (kf (fun h => by cases h))
theorem rw_ifnonnull (X : Cx p R s m args meth c own cc nL nf nl A G rt) {r : Option Nat} {off : Int} {tgt : Nat} (hdg : decode cc pc = .ok (.ifnonnull off, 3)) (ht : (pc : Int) + off = (tgt : Int))
    (kt : ¬ r = none → W p l e R s m args below meth c H locs cells slots Q (F0 m tgt ls rest)) (kf : r = none → W p l e R s m args below meth c H locs cells slots Q (F0 m (pc + 3) ls rest)) : W p l e R s m args below meth c H locs cells slots Q (F0 m pc ls (va_rf r :: rest)) := by
  cases r with
  | none => exact lv_ifnonnullN X.1.1 X.1.2.1 hdg (kf rfl)
  | some a => exact lv_ifnonnull X.1.1 X.1.2.1 hdg ht (kt (fun h => by cases h))
theorem rw_aload_n (X : Cx p R s m args meth c own cc nL nf nl A G rt) {k : Fin 4} {i : Nat} {r : Option Nat} (hdg : decode cc pc = .ok (.aload_n k, 1)) (hi : (k : Nat) = i) (hl : ls[i]? = some (.val (va_rf r)))
    (kk : W p l e R s m args below meth c H locs cells slots Q (F0 m (pc + 1) ls (va_rf r :: rest))) : W p l e R s m args below meth c H locs cells slots Q (F0 m pc ls rest) := by
  cases r with
  | none => exact lv_aload_nN X.1.1 X.1.2.1 hdg hi hl kk
  | some a => exact lv_aload_n X.1.1 X.1.2.1 hdg hi hl kk
theorem rw_aload (X : Cx p R s m args meth c own cc nL nf nl A G rt) {i : Nat} {r : Option Nat} (hdg : decode cc pc = .ok (.aload i, 2)) (hl : ls[i]? = some (.val (va_rf r)))
    (kk : W p l e R s m args below meth c H locs cells slots Q (F0 m (pc + 2) ls (va_rf r :: rest))) : W p l e R s m args below meth c H locs cells slots Q (F0 m pc ls rest) := by
  cases r with
  | none => exact lv_aloadN X.1.1 X.1.2.1 hdg hl kk
  | some a => exact lv_aload X.1.1 X.1.2.1 hdg hl kk
theorem rw_astore_n (X : Cx p R s m args meth c own cc nL nf nl A G rt) {k : Fin 4} {i nL' : Nat} {r : Option Nat} {lv lv' : List (Nat × Value)} (hdg : decode cc pc = .ok (.astore_n k, 1)) (hi : (k : Nat) = i) (h : lv_has ls nL' lv) (hn : i < nL') (hl : (i, va_rf r) :: lv.filter (fun q => !(q.1 == i) && !(q.1 + 1 == i && q.2.category == 2)) = lv')
    (kk : ∀ ls' : Array Slot, lv_has ls' nL' lv' → W p l e R s m args below meth c H locs cells slots Q (F0 m (pc + 1) ls' rest)) : W p l e R s m args below meth c H locs cells slots Q (F0 m pc ls (va_rf r :: rest)) := by
  cases r with
  | none => exact lv_astore_nN X.1.1 X.1.2.1 hdg hi h hn hl kk
  | some a => exact lv_astore_n X.1.1 X.1.2.1 hdg hi h hn hl kk
theorem rw_astore (X : Cx p R s m args meth c own cc nL nf nl A G rt) {i nL' : Nat} {r : Option Nat} {lv lv' : List (Nat × Value)} (hdg : decode cc pc = .ok (.astore i, 2)) (h : lv_has ls nL' lv) (hn : i < nL') (hl : (i, va_rf r) :: lv.filter (fun q => !(q.1 == i) && !(q.1 + 1 == i && q.2.category == 2)) = lv')
    (kk : ∀ ls' : Array Slot, lv_has ls' nL' lv' → W p l e R s m args below meth c H locs cells slots Q (F0 m (pc + 2) ls' rest)) : W p l e R s m args below meth c H locs cells slots Q (F0 m pc ls (va_rf r :: rest)) := by
  cases r with
  | none => exact lv_astoreN X.1.1 X.1.2.1 hdg h hn hl kk
  | some a => exact lv_astore X.1.1 X.1.2.1 hdg h hn hl kk
theorem rw_iret (X : Cx p R s m args meth c own cc nL nf nl (fun q => q ∈ Y.1) G (some .int)) {v : Int32} (hdg : decode cc pc = .ok (.ireturn, 1)) (hP : HP (fun q => q ∈ Y.1) G Y s S H locs) : W p l e R s m args below meth c H locs 0 0 (MQ below (QI G Y S (some (.int v))) args s 0 0 (fun q => q ∈ Y.1)) (F0 m pc ls [.int v]) := by
  obtain ⟨⟨hx, hb, -⟩, -, -, hlocks, hr, -⟩ := X
  exact W.iret hx hb hr (fun t ht hW => ⟨rfl, by rw [ht]; exact hP.1, hP.2.2.F ht⟩) hP.2.2.2.2 hdg
theorem rw_zret (X : Cx p R s m args meth c own cc nL nf nl (fun q => q ∈ Y.1) G (some .boolean)) {v : Int32} (hv : v = 0 ∨ v = 1) (hdg : decode cc pc = .ok (.ireturn, 1)) (hP : HP (fun q => q ∈ Y.1) G Y s S H locs) : W p l e R s m args below meth c H locs 0 0 (MQ below (QI G Y S (some (.int v))) args s 0 0 (fun q => q ∈ Y.1)) (F0 m pc ls [.int v]) := by
  obtain ⟨⟨hx, hb, -⟩, -, -, hlocks, hr, -⟩ := X
  exact W.zret hx hb hr (by rcases hv with rfl | rfl <;> decide +kernel) (fun t ht hW => ⟨rfl, by rw [ht]; exact hP.1, hP.2.2.F ht⟩) hP.2.2.2.2 hdg
theorem rw_aret (X : Cx p R s m args meth c own cc nL nf nl (fun q => q ∈ Y.1) G (some (.object "BehaviorRunner$Node"))) {r : Option Nat} (hdg : decode cc pc = .ok (.areturn, 1)) (hP : HP (fun q => q ∈ Y.1) G Y s S H locs) : W p l e R s m args below meth c H locs 0 0 (MQ below (QI G Y S (some (va_rf r))) args s 0 0 (fun q => q ∈ Y.1)) (F0 m pc ls [va_rf r]) := by
  obtain ⟨⟨hx, hb, -⟩, -, -, hlocks, hr, -⟩ := X
  exact W.aret hx hb hr (Or.inl ⟨_, rfl⟩) (by cases r <;> first | exact Or.inl rfl | exact Or.inr ⟨_, rfl⟩) (fun t ht hW => ⟨rfl, by rw [ht]; exact hP.1, hP.2.2.F ht⟩) hP.2.2.2.2 hdg
theorem rw_vret (X : Cx p R s m args meth c own cc nL nf nl (fun q => q ∈ Y.1) G none) (hdg : decode cc pc = .ok (.return_, 1)) (hP : HP (fun q => q ∈ Y.1) G Y s S H locs) : W p l e R s m args below meth c H locs 0 0 (MQ below (QI G Y S none) args s 0 0 (fun q => q ∈ Y.1)) (F0 m pc ls []) := by
  obtain ⟨⟨hx, hb, -⟩, -, -, hlocks, hr, -⟩ := X
  exact W.vret hx hb hr (fun t ht hW => ⟨rfl, by rw [ht]; exact hP.1, hP.2.2.F ht⟩) hP.2.2.2.2 hdg
theorem rw_ldc (X : Cx p R s m args meth c own cc nL nf nl A G rt) {index : Nat} {v : Int32} (hc : Cond.constant own index v ∈ TBL) (hdg : decode cc pc = .ok (.ldc index, 2)) (kk : W p l e R s m args below meth c H locs cells slots Q (F0 m (pc + 2) ls (.int v :: rest))) : W p l e R s m args below meth c H locs cells slots Q (F0 m pc ls rest) :=
  lv_ldc X.1.1 X.1.2.1 X.1.2.2.2.1 (X.1.2.2.2.2 _ hc) hdg kk
/-- behind a call -/
theorem rw_after {st0 : List Value} {a : Array Value} {rv : Option Value} (hr : va_Run p l e R s m args below meth c H locs cells slots 0 0 (F0 m pc ls st0) rest (QI G Y S1 rv a) (fun q => q ∈ Y.1)) (hP : HP A G Y s S H locs)
    (kk : ∀ (H1 : Heap) (locs1 : List Loc), HP A G Y s S1 H1 locs1 → W p l e R s m args below meth c H1 locs1 cells slots Q (F0 m (pc + 3) ls (rv.toList ++ rest))) : W p l e R s m args below meth c H locs cells slots Q (F0 m pc ls st0) := by
  intro T hT X
  obtain ⟨v, st₀, t, T', L, h0, X', hL, e1, e2, ⟨ho, hW, hz, hk⟩, st⟩ := hr T hT X
  cases ho
  rw [h0] at hz hk
  obtain ⟨hP1, hP2, hS⟩ := hP
  have hA : ∀ q, q ∈ Y.1 → A q := fun q h => WD_in hP2 h
  obtain ⟨t2, a1, b1⟩ := kk T'.heap (locs ++ L) ⟨by rw [e1]; exact hW, WD_eq hP2, Nat.le_trans hS.1 (by rw [e1]; exact hz), fun q h1 h2 => by rw [e1, hk q (Nat.lt_of_lt_of_le h1 hS.1) (fun z => h2 (hA q z))]; exact hS.2.1 q h1 h2, fun q hq => by
      rcases List.mem_append.mp hq with h | h
      · exact hS.2.2 q h
      · exact hA _ (hL q h)⟩ T' rfl X'
  exact ⟨t2, st t2 a1, b1⟩
theorem preW_of (X : Cx p R s m args meth c own cc nL nf nl A G rt) (hP : HP A G Y s S H locs) {av : List Value} (U : State) (hU : U.heap = H) (hW : s.WarmedH U.vm) : PreW G Y S av av.toArray U := by
  obtain ⟨-, hKK, hST, -⟩ := X
  obtain ⟨hP1, hP2, hS⟩ := hP
  refine ⟨rfl, by rw [hU]; exact hP1, ⟨hP2.1, fun k q hk => ?_⟩, hKK.warm hW, ?_⟩
  · simp only [va_pl, List.getElem?_map] at hk
    cases hb : Y.1[k]? with
    | none => rw [hb] at hk; cases hk
    | some b => rw [hb] at hk; cases hk; exact List.mem_of_getElem? hb
  · rw [hU]
    exact ((hST.kept hS.2.1).narrow (fun q h => WD_in hP2 h)).warm hW
theorem preW_blind {av : List Value} : FrameBlind (PreW G Y S av) := by
  intro a U g mk h
  obtain ⟨h1, h2, h3, h4, h5⟩ := h
  exact ⟨h1, h2, h3, KK.same (s := U) (U := U.calling g mk a) rfl h4, STR.same (s := U) (U := U.calling g mk a) rfl h5⟩
theorem rw_callV (X : Cx p R s m args meth c own cc nL nf nl A G rt) {index cN : Nat} {y : MethodName} {b : ByteArray} {n f lo : Nat} {ret : Option FieldType} {r0 : Option Nat} {u : Unit} {As st0 : List Value} {rv : Option Value}
    (hdg : decode cc pc = .ok (.invokevirtual index, 3)) (hC : CLv own index y b n ret) (hy : PY y As.length) (hM : MM l y b n ret f lo G Y S (va_rf r0 :: As) S1 rv) (hroom : f + 1 ≤ nf ∧ 8 + (n + 11) + lo ≤ nl) (hrc : rcv Y cN r0 = some u) (hcN : (vwCl[cN]?).map (fun q => q.1) = some y.cls) (hP : HP A G Y s S H locs)
    (hst : st0 = As.reverse ++ va_rf r0 :: rest) (hcat : (rest.map fun v => v.category).sum ≤ 8) (hsz : ls.size = nL)
    (kk : ∀ (H1 : Heap) (locs1 : List Loc), HP A G Y s S1 H1 locs1 → W p l e R s m args below meth c H1 locs1 0 0 Q (F0 m (pc + 3) ls (rv.toList ++ rest))) : W p l e R s m args below meth c H locs 0 0 Q (F0 m pc ls st0) := by
  obtain ⟨a, rfl, hc, -⟩ := rc_some hrc
  have hX := X
  obtain ⟨hfix, hKK, hST, hlocks, hrt, hnf, hnl, hz1, hz2⟩ := X
  obtain ⟨c1, c2, c3, c4, c5⟩ := hC
  obtain ⟨ha, hk2⟩ := chk_in hc
  obtain ⟨q, hq, hq2⟩ := Option.map_eq_some_iff.mp hcN
  obtain ⟨h6, h7⟩ := vw_nfl hq
  obtain ⟨i, hi⟩ := va_pl_get (X := []) (f := ce G Y S) ha
  rw [ce_obj h6 hk2] at hi
  have hrecv := va_recv hKK.1 hP.1 hq hi
  rw [hq2] at hrecv
  have hG : GoodIn TBL (wsV own index y.cls y (.code y b n ret :: TBL)) := by
    intro w hw
    have hm : w ∈ TBL := by
      simp only [wsV, List.cons_append, List.nil_append, List.mem_cons] at hw
      rcases hw with rfl | rfl | rfl | rfl | rfl | hw
      · exact c1
      · exact c4
      · exact c5
      · exact c3
      · exact c2
      · exact hw
    exact tbl_good w hm
  refine rw_after (va_runV (As := As) (rest := rest) hfix hM (cwV As.length hfix.2.2.2.2 hG rfl rfl rfl ⟨rfl, hy.1, hy.2.1, hy.2.2⟩ ⟨Nat.le_trans hroom.1 hnf, Nat.le_trans hroom.2 hnl⟩) ⟨preW_blind, hrecv, fun U hU hW => preW_of hX hP U hU hW⟩ rfl rfl hsz hst (lv_room hcat) hdg ⟨hz1, hz2⟩) hP kk
theorem rw_callS (X : Cx p R s m args meth c own cc nL nf nl A G rt) {index : Nat} {y : MethodName} {b : ByteArray} {n f lo : Nat} {ret : Option FieldType} {As st0 : List Value} {rv : Option Value}
    (hdg : decode cc pc = .ok (.invokestatic index, 3)) (hC : CLs own index y b n ret) (hy : PY y As.length) (hM : MM l y b n ret f lo G Y S As S1 rv) (hroom : f + 1 ≤ nf ∧ 8 + (n + 11) + lo ≤ nl) (hP : HP A G Y s S H locs)
    (hst : st0 = As.reverse ++ rest) (hcat : (rest.map fun v => v.category).sum ≤ 8) (hsz : ls.size = nL)
    (kk : ∀ (H1 : Heap) (locs1 : List Loc), HP A G Y s S1 H1 locs1 → W p l e R s m args below meth c H1 locs1 0 0 Q (F0 m (pc + 3) ls (rv.toList ++ rest))) : W p l e R s m args below meth c H locs 0 0 Q (F0 m pc ls st0) := by
  have hX := X
  obtain ⟨hfix, hKK, hST, hlocks, hrt, hnf, hnl, hz1, hz2⟩ := X
  obtain ⟨c1, c2, c3, c4⟩ := hC
  have hts := hfix.2.2.2.2
  have hG : GoodIn TBL (.code y b n ret :: TBL) := by
    intro w hw
    have hm : w ∈ TBL := by
      rcases List.mem_cons.mp hw with rfl | hw
      · exact c2
      · exact hw
    exact tbl_good w hm
  have cb : CallB R s args own index y b n ret (.code y b n ret :: TBL) (RM f lo) 0 0 As.length := callB_of As.length hts hG rfl rfl rfl (hts _ c3) (hts _ c1) ⟨hy.1, hy.2.1, hy.2.2⟩ ⟨Nat.le_trans hroom.1 hnf, Nat.le_trans hroom.2 hnl⟩
  refine rw_after (va_runS (As := As) (rest := rest) hfix hM ⟨cb, hts _ c4⟩ ⟨preW_blind, fun U hU hW => preW_of hX hP U hU hW⟩ rfl rfl hsz hst (lv_room hcat) hdg ⟨hz1, hz2⟩) hP kk
/-- a method's entry -/
theorem mm_of {y : MethodName} {b : ByteArray} {n f lo : Nat} {ret : Option FieldType} {av : List Value} {rv : Option Value} (hy : plainFor y = true) (hlen : (lg_sl av).length ≤ n)
    (body : ∀ p e R s m args below meth c, Cx p R s m args meth c y.cls b n f lo (fun q => q ∈ Y.1) G ret → ∀ H locs ls, HP (fun q => q ∈ Y.1) G Y s S H locs → lv_has ls n (lv_args 0 av) → W p l e R s m args below meth c H locs 0 0 (MQ below (QI G Y S1 rv) args s 0 0 (fun q => q ∈ Y.1)) (F0 m 0 ls [])) : MM l y b n ret f lo G Y S av S1 rv := by
  refine va_MetF (cc := b) (maxL := n) (ret := ret) hy rfl ?_
  intro p e s m args below meth c s₁ B hml hv
  obtain ⟨rfl, hP, hD, hKK, hST⟩ := hv
  have hts := atoms_spec (ws := (.code y b n ret :: TBL)) B.pre
  have hown : s.vm.findClass y.cls = some m.cls := findClass_of_methodNamed B.named
  have hl := lv_entry av (n := n) hlen
  rw [lg_entry_eq]
  exact body p e _ s m _ below meth c ⟨⟨B.exec, B.bytes, hml, hown, fun w hw => hts w (List.mem_cons_of_mem _ hw)⟩, hKK, hST, B.notSynchronized, B.returns, Nat.le_refl _, Nat.le_refl _, Nat.le_refl _, Nat.le_refl _⟩ s.heap [] _ ⟨hP, hD, va_S.rf⟩ hl
end RW
