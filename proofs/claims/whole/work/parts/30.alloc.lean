/-! methods that make objects: the abstract heap grows; N = (the next address, slots made so far) -/
def newO (cp : Nat × Nat) (c : Nat) (Y : LY) (S : HS) (N : Nat × Nat) : Option (Nat × LY × HS × (Nat × Nat)) :=
  if N.1 + 1 ≤ cp.1 ∧ N.2 + nfl c ≤ cp.2 then
    some (N.1, (Y.1 ++ [N.1], va_up Y.2.1 N.1 c, Y.2.2), (fun f b => if b = N.1 then 0 else S.1 f b, fun f b => if b = N.1 then none else S.2.1 f b, S.2.2), (N.1 + 1, N.2 + nfl c))
  else none
def newA (cp : Nat × Nat) (k : Nat) (n : Int32) (Y : LY) (S : HS) (N : Nat × Nat) : Option (Nat × LY × HS × (Nat × Nat)) :=
  if ¬ n < 0 ∧ n.toNatClampNeg ≤ 10000 ∧ N.1 + 1 ≤ cp.1 ∧ N.2 + n.toNatClampNeg ≤ cp.2 then
    some (N.1, (Y.1 ++ [N.1], va_up Y.2.1 N.1 k, va_up Y.2.2 N.1 n.toNatClampNeg), (S.1, S.2.1, va_up S.2.2.1 N.1 (fun _ => 0), va_up S.2.2.2 N.1 (fun _ => none)), (N.1 + 1, N.2 + n.toNatClampNeg))
  else none
def pQ (Y : LY) (k cN : Nat) (r : Option Nat) (i : Int32) (v : Option Nat) (S : HS) : Option HS := r.bind fun a => v.bind fun b => if (chk Y k a && inr i (Y.2.2 a) && chk Y cN b) = true then some (S.1, S.2.1, S.2.2.1, upN S.2.2.2 a i.toNatClampNeg v) else none
/-- a class that is made: its link, its words, its fields' first values -/
def NLk (own : String) (idx c : Nat) : Prop := ∃ (C : String) (T : u_T) (n : Nat) (ty : Nat → FieldType), vwCl[c]? = some (C, T, n) ∧ (∀ k, k < n → parseFieldDescriptor (T k).2.2.1 = some (ty k)) ∧ (∀ k, k < n → defaultValue (ty k) = if isR (100 * c + k) = true then Value.null else .int 0) ∧ (∀ w ∈ u_ws C T n, w ∈ TBL) ∧ Cond.classLink own idx C ∈ TBL ∧ Cond.instantiable C n ∈ TBL ∧ Cond.initialized C ∈ TBL
/-- a final field, written by its own class' constructor -/
def FLf (own : String) (c k : Nat) (ty : FieldType) : Prop := ∃ (C : String) (T : u_T) (n : Nat) (ty0 : Nat → FieldType), vwCl[c]? = some (C, T, n) ∧ (∀ k, k < n → parseFieldDescriptor (T k).2.2.1 = some (ty0 k)) ∧ (∀ a, a < n → ∀ b, b < n → a ≠ b → (T a).2.1 ≠ (T b).2.1) ∧ (T k).2.2.2 = true ∧ (T k).1 = own ∧ parseFieldDescriptor (T k).2.2.1 = some ty
/-- a constructor's call -/
def CLi (own : String) (idx : Nat) (y : MethodName) (b : ByteArray) (n : Nat) : Prop := (Cond.methodLink own idx y ∈ TBL ∨ ∃ host, Cond.methodLinkNest own idx y host ∈ tables_1) ∧ Cond.code y b n none ∈ TBL ∧ Cond.initialized y.cls ∈ TBL ∧ Cond.instanceMethod y ∈ TBL ∧ y.name = "<init>"
def AA (Y : LY) (N : Nat × Nat) : Nat → Prop := fun q => q ∈ Y.1 ∨ N.1 ≤ q
/-- what a walk holds that makes objects: z = (size of the heap, slots) at its start, cp: what it may come to -/
def HA (R : Room) (z cp : Nat × Nat) (A : Nat → Prop) (G : GG) (s : State) (Y : LY) (S : HS) (N : Nat × Nat) (H : Heap) (locs : List Loc) : Prop :=
  HP A G Y s S H locs ∧ s.heap.size = z.1 ∧ z.1 ≤ N.1 ∧ z.2 ≤ N.2 ∧ N.1 ≤ cp.1 ∧ N.2 ≤ cp.2 ∧ cp.1 - z.1 ≤ R.cells ∧ cp.2 - z.2 ≤ R.slots ∧ (N.1 = z.1 ∨ (N.1 - 1) ∈ Y.1) ∧ (∀ q, z.1 ≤ q → A q) ∧ (∀ q ∈ Y.1, q < N.1)
abbrev RMA (f lo mc ms : Nat) : Room := { frames := f, cells := mc, slots := ms, locals := lo }
def PreA (G : GG) (Y : LY) (S : HS) (N : Nat × Nat) (av : List Value) : Array Value → State → Prop := va_Pc av (fun U => WP G Y S U.heap ∧ WD G Y S (AA Y N) ∧ KK G U ∧ STR G (AA Y N) U U.heap ∧ U.heap.size = N.1 ∧ ∀ q ∈ Y.1, q < N.1)
def QA (G : GG) (A : Nat → Prop) (Y1 : LY) (S1 : HS) (N1 : Nat × Nat) (r : Option Value) : Array Value → State → Outcome → State → Prop := fun _ st o t => o = .returned r ∧ WP G Y1 S1 t.heap ∧ WD G Y1 S1 A ∧ t.heap.size = N1.1 ∧ (N1.1 = st.heap.size ∨ (N1.1 - 1) ∈ Y1.1) ∧ (∀ q ∈ Y1.1, q < N1.1) ∧ va_F A st t
/-- a method that makes mc cells of ms slots -/
def MA (l : Launch) (y : MethodName) (b : ByteArray) (n : Nat) (ret : Option FieldType) (f lo mc ms : Nat) (G : GG) (Y : LY) (S : HS) (N : Nat × Nat) (av : List Value) (Y1 : LY) (S1 : HS) (N1 : Nat × Nat) (r : Option Value) : Prop :=
  Met l y (.code y b n ret :: TBL) (RMA f lo mc ms) (PreA G Y S N av) (QA G (AA Y N) Y1 S1 N1 r) mc ms (AA Y N)
theorem tb_ac : Cond.arrayClass .char ∈ TBL ∧ Cond.arrayClass .int ∈ TBL := ⟨tb_of (tb1 44 rfl) rfl, tb_of (tb1 61 rfl) rfl⟩
section RA
variable {p : Program} {l : Launch} {e : Env} {R : Room} {s : State} {m : MethodId} {args : Array Value} {below : List Frame} {meth : Method} {c : Code} {H : Heap} {locs : List Loc} {cells slots : Nat} {Q : State → Prop}
variable {own : String} {cc : ByteArray} {nL nf nl : Nat} {A : Nat → Prop} {G : GG} {rt : Option FieldType} {Y : LY} {S S1 : HS} {N z cp : Nat × Nat} {pc : Nat} {ls : Array Slot} {rest : List Value}
theorem WP_lt (h : WP G Y S H) {a : Nat} (ha : a ∈ Y.1) : a < H.size := va_pl_lt (X := []) h ha
theorem HA.size (hA : HA R z cp A G s Y S N H locs) {T : State} (hT : T.heap = H) (X : Stand p l e R s m args below meth c T locs (N.1 - z.1) (N.2 - z.2)) : H.size = N.1 := by
  obtain ⟨hP, h1, h2, h3, h4, h5, h6, h7, h8, h9⟩ := hA
  have hu : T.heap.size ≤ s.heap.size + (N.1 - z.1) := X.same.2.2.1
  have hlo : s.heap.size ≤ T.heap.size := X.same.2.1
  rw [hT] at hu hlo
  rcases h8 with h8 | h8
  · omega
  · have := WP_lt hP.1 h8
    omega
theorem HA.put {H1 : Heap} {locs1 : List Loc} (hA : HA R z cp A G s Y S N H locs) (hP : HP A G Y s S1 H1 locs1) : HA R z cp A G s Y S1 N H1 locs1 := ⟨hP, hA.2⟩
theorem HA.fits (hA : HA R z cp A G s Y S N H locs) : N.1 - z.1 ≤ R.cells ∧ N.2 - z.2 ≤ R.slots := by
  obtain ⟨-, -, h2, h3, h4, h5, h6, h7, -⟩ := hA
  omega
/-- one cell more -/
theorem HA.more {H1 : Heap} {a : Nat} {x : va_E} {Y1 : LY} {N1 : Nat × Nat} (hA : HA R z cp A G s Y S N H locs) (hz : H.size = N.1) (ha : a = N.1) (hY : Y1.1 = Y.1 ++ [a]) (hce : ∀ b, va_up (ce G Y S) a x b = ce G Y1 S1 b) (hx : va_at G.1 vwCl (a, x) H1) (z1 : H1.size = H.size + 1) (o1 : ∀ q : Nat, q < H.size → H1[q]? = H[q]?) (hN1 : N1.1 = N.1 + 1) (hc1 : N1.1 ≤ cp.1) (hc2 : N1.2 ≤ cp.2) (hN2 : N.2 ≤ N1.2) : HA R z cp A G s Y1 S1 N1 H1 locs := by
  obtain ⟨⟨hP, hD, hS⟩, h1, h2, h3, h4, h5, h6, h7, h8, h9, h10⟩ := hA
  have hfresh : a ∉ Y.1 := fun h => by have := h10 a h; omega
  have hpl : va_pl Y.1 (ce G Y S) ++ [(a, x)] = va_pl Y1.1 (ce G Y1 S1) := by
    rw [va_pl_push hfresh, hY]
    exact va_pl_congr hce
  have hk : ∀ (k : Nat) (q : Nat × va_E), (va_pl Y.1 (ce G Y S))[k]? = some q → H1[q.1]? = H[q.1]? := fun k q hq => o1 q.1 ((hP k q hq).lt)
  refine ⟨⟨?_, ?_, Nat.le_trans hS.1 (by omega), fun q g1 g2 => (o1 q (Nat.lt_of_lt_of_le g1 hS.1)).trans (hS.2.1 q g1 g2), hS.2.2⟩, h1, by omega, by omega, hc1, hc2, h6, h7, Or.inr (by rw [hY, hN1, ha]; simp), h9, fun q hq => ?_⟩
  · show va_P G.1 vwCl (va_pl Y1.1 (ce G Y1 S1)) H1
    rw [← hpl]
    refine (va_P.kept hP hk).app (fun k q hq => ?_)
    have hk0 : k < 1 := (List.getElem?_eq_some_iff.mp hq).1
    rw [show k = 0 by omega] at hq
    cases hq
    exact hx
  · show va_D A (va_pl Y1.1 (ce G Y1 S1))
    rw [← hpl]
    exact va_D.push hD hP (by rw [ha, hz]) (h9 a (by omega))
  · rw [hY] at hq
    rcases List.mem_append.mp hq with hq | hq
    · have := h10 q hq; omega
    · rw [List.mem_singleton.mp hq]; omega
theorem ra_new (X : Cx p R s m args meth c own cc nL nf nl A G rt) {index cN : Nat} {q : Nat × LY × HS × (Nat × Nat)} (hdg : decode cc pc = .ok (.new index, 3)) (hC : NLk own index cN) (h : newO cp cN Y S N = some q) (hA : HA R z cp A G s Y S N H locs)
    (kk : ∀ (H : Heap), HA R z cp A G s q.2.1 q.2.2.1 q.2.2.2 H locs → W p l e R s m args below meth c H locs (q.2.2.2.1 - z.1) (q.2.2.2.2 - z.2) Q (F0 m (pc + 3) ls (va_rf (some q.1) :: rest))) : W p l e R s m args below meth c H locs (N.1 - z.1) (N.2 - z.2) Q (F0 m pc ls rest) := by
  intro T hT XT
  have hz := hA.size hT XT
  refine (?_ : W p l e R s m args below meth c H locs (N.1 - z.1) (N.2 - z.2) Q (F0 m pc ls rest)) T hT XT
  unfold newO at h
  by_cases hc : N.1 + 1 ≤ cp.1 ∧ N.2 + nfl cN ≤ cp.2
  · rw [if_pos hc] at h
    cases h
    obtain ⟨⟨hx, hb, hml, hown, hts⟩, hKK, -⟩ := X
    obtain ⟨C, T0, n, ty, g1, g2, g3, g4, g5, g6, g7⟩ := hC
    obtain ⟨k1, k2⟩ := vw_nfl g1
    have k2' : n = nfl cN := k2
    have hKn := hKK.1.1 cN _ g1
    have hA0 := hA
    obtain ⟨⟨hP, hD, hS⟩, h1, h2, h3, h4, h5, h6, h7, h8, h9, h10⟩ := hA
    refine W.newcK hx hb hown (hts _ g5) (hts _ g6) (hts _ g7) rfl hdg (by omega) (by omega) hKn.2.1 hz fun H1 kC hkC e1 z1 o1 => ?_
    refine W.cs (by show N.1 - z.1 + 1 = N.1 + 1 - z.1; omega) (by show N.2 - z.2 + n = N.2 + nfl cN - z.2; omega) ?_
    refine kk H1 (hA0.more hz rfl rfl (x := .inr (cN, fv (fun f b => if b = N.1 then 0 else S.1 f b, fun f b => if b = N.1 then none else S.2.1 f b, S.2.2) cN N.1)) (fun b => ?_) ?_ (by omega) (fun q hq => o1 q (by omega)) rfl hc.1 hc.2 (Nat.le_add_right _ _))
    · by_cases hb : b = N.1
      · subst hb
        rw [va_up_self, ce_obj k1 (by show va_up _ _ _ _ = _; rw [va_up_self])]
      · rw [va_up_ne _ _ hb]
        unfold ce
        have e2 : va_up Y.2.1 N.1 cN b = Y.2.1 b := va_up_ne _ _ hb
        have e3 : ∀ d, fv (fun f b => if b = N.1 then 0 else S.1 f b, fun f b => if b = N.1 then none else S.2.1 f b, S.2.2) d b = fv S d b := by
          intro d
          unfold fv
          apply List.map_congr_left
          intro k _
          unfold vl
          show (if isR (100 * d + k) = true then va_rf (if b = N.1 then none else S.2.1 _ b) else .int (if b = N.1 then 0 else S.1 _ b)) = _
          rw [if_neg hb, if_neg hb]
        simp only [e2, e3]
    · refine ⟨_, g1, (u_born (ty := ty) (o := N.1) hts g4 hKn hkC e1 g2).to (fun k hk => ?_)⟩
      show defaultValue (ty k) = vp_V (fv _ cN N.1) k
      rw [g3 k hk]
      unfold vp_V
      rw [List.getD_eq_getElem?_getD, fv_get (by rw [← k2']; exact hk)]
      unfold vl
      show _ = (if isR (100 * cN + k) = true then va_rf (if N.1 = N.1 then none else S.2.1 _ N.1) else .int (if N.1 = N.1 then 0 else S.1 _ N.1))
      rw [if_pos rfl, if_pos rfl]
      rfl
  · rw [if_neg hc] at h
    cases h
theorem ra_ret (X : Cx p R s m args meth c own cc nL nf nl A G rt) {mc ms : Nat} {rv : Option Value} (hA : HA R z cp A G s Y S N H locs) (hc : cp.1 = z.1 + mc ∧ cp.2 = z.2 + ms) (hg : ∀ cells slots, (∀ t : State, t.heap = H → s.WarmedH t.vm → QA G A Y S N rv args s (.returned rv) t) → W p l e R s m args below meth c H locs cells slots (MQ below (QA G A Y S N rv) args s cells slots A) (F0 m pc ls rest)) : W p l e R s m args below meth c H locs (N.1 - z.1) (N.2 - z.2) (MQ below (QA G A Y S N rv) args s mc ms A) (F0 m pc ls rest) := by
  intro T hT XT
  have hz := hA.size hT XT
  obtain ⟨⟨hP, hD, hS⟩, h1, h2, h3, h4, h5, h6, h7, h8, h9, h10⟩ := hA
  refine (W.widen (k := mc) (n := ms) (by omega) (by omega) (hg mc ms (fun t ht hW => ?_))) T hT XT
  exact ⟨rfl, by rw [ht]; exact hP, hD, by rw [ht]; exact hz, by rw [h1]; exact h8, h10, hS.F ht⟩
theorem ra_vret (X : Cx p R s m args meth c own cc nL nf nl A G none) {mc ms : Nat} (hdg : decode cc pc = .ok (.return_, 1)) (hA : HA R z cp A G s Y S N H locs) (hc : cp.1 = z.1 + mc ∧ cp.2 = z.2 + ms) : W p l e R s m args below meth c H locs (N.1 - z.1) (N.2 - z.2) (MQ below (QA G A Y S N none) args s mc ms A) (F0 m pc ls []) :=
  ra_ret X hA hc (fun cells slots hq => by
    obtain ⟨⟨hx, hb, -⟩, -, -, hlocks, hr, -⟩ := X
    exact W.vret hx hb hr hq hA.1.2.2.2.2 hdg)
theorem ra_iret (X : Cx p R s m args meth c own cc nL nf nl A G (some .int)) {mc ms : Nat} {v : Int32} (hdg : decode cc pc = .ok (.ireturn, 1)) (hA : HA R z cp A G s Y S N H locs) (hc : cp.1 = z.1 + mc ∧ cp.2 = z.2 + ms) : W p l e R s m args below meth c H locs (N.1 - z.1) (N.2 - z.2) (MQ below (QA G A Y S N (some (.int v))) args s mc ms A) (F0 m pc ls [.int v]) :=
  ra_ret X hA hc (fun cells slots hq => by
    obtain ⟨⟨hx, hb, -⟩, -, -, hlocks, hr, -⟩ := X
    exact W.iret hx hb hr hq hA.1.2.2.2.2 hdg)
theorem ce_newA {k : Nat} {n : Nat} {x : va_E} (hx : ce G (Y.1 ++ [N.1], va_up Y.2.1 N.1 k, va_up Y.2.2 N.1 n) (S.1, S.2.1, va_up S.2.2.1 N.1 (fun _ => 0), va_up S.2.2.2 N.1 (fun _ => none)) N.1 = x) (b : Nat) : va_up (ce G Y S) N.1 x b = ce G (Y.1 ++ [N.1], va_up Y.2.1 N.1 k, va_up Y.2.2 N.1 n) (S.1, S.2.1, va_up S.2.2.1 N.1 (fun _ => 0), va_up S.2.2.2 N.1 (fun _ => none)) b := by
  by_cases hb : b = N.1
  · subst hb
    rw [va_up_self, hx]
  · rw [va_up_ne _ _ hb]
    unfold ce
    have e2 : va_up Y.2.1 N.1 k b = Y.2.1 b := va_up_ne _ _ hb
    have e4 : va_up Y.2.2 N.1 n b = Y.2.2 b := va_up_ne _ _ hb
    have e5 : va_up S.2.2.1 N.1 (fun _ => 0) b = S.2.2.1 b := va_up_ne _ _ hb
    have e6 : va_up S.2.2.2 N.1 (fun _ => none) b = S.2.2.2 b := va_up_ne _ _ hb
    simp only [e2, e4, e5, e6]
    rfl
theorem ra_newa (X : Cx p R s m args meth c own cc nL nf nl A G rt) {k : Nat} {n : Int32} {atype : ArrayType} {q : Nat × LY × HS × (Nat × Nat)} (hk : (k = 13 ∧ atype = .char) ∨ (k = 14 ∧ atype = .int)) (hdg : decode cc pc = .ok (.newarray atype, 2)) (h : newA cp k n Y S N = some q) (hA : HA R z cp A G s Y S N H locs)
    (kk : ∀ (H : Heap), HA R z cp A G s q.2.1 q.2.2.1 q.2.2.2 H locs → W p l e R s m args below meth c H locs (q.2.2.2.1 - z.1) (q.2.2.2.2 - z.2) Q (F0 m (pc + 2) ls (va_rf (some q.1) :: rest))) : W p l e R s m args below meth c H locs (N.1 - z.1) (N.2 - z.2) Q (F0 m pc ls (.int n :: rest)) := by
  intro T hT XT
  have hz := hA.size hT XT
  refine (?_ : W p l e R s m args below meth c H locs (N.1 - z.1) (N.2 - z.2) Q (F0 m pc ls (.int n :: rest))) T hT XT
  unfold newA at h
  by_cases hc : ¬ n < 0 ∧ n.toNatClampNeg ≤ 10000 ∧ N.1 + 1 ≤ cp.1 ∧ N.2 + n.toNatClampNeg ≤ cp.2
  · rw [if_pos hc] at h
    cases h
    obtain ⟨⟨hx, hb, hml, hown, hts⟩, hKK, -⟩ := X
    have hA0 := hA
    obtain ⟨⟨hP, hD, hS⟩, h1, h2, h3, h4, h5, h6, h7, h8, h9, h10⟩ := hA
    obtain ⟨n1, n2, n3, n4⟩ := hc
    have harr : (Cond.arrayClass (newarray.typeOf atype)).before args s = true := by
      rcases hk with ⟨-, rfl⟩ | ⟨-, rfl⟩
      · exact hts _ tb_ac.1
      · exact hts _ tb_ac.2
    have hcb : componentBytes (newarray.typeOf atype) ≤ 8 := by
      rcases hk with ⟨-, rfl⟩ | ⟨-, rfl⟩ <;> decide
    have hmul : n.toNatClampNeg * componentBytes (newarray.typeOf atype) ≤ 536870912 := by
      have : n.toNatClampNeg * componentBytes (newarray.typeOf atype) ≤ 10000 * 8 := Nat.mul_le_mul n2 hcb
      omega
    refine va_newaK hx hb harr rfl hdg rfl n1 rfl hmul (by omega) (by omega) hz fun H1 cA e1 z1 o1 hAr hNm => ?_
    refine W.cs (by show N.1 - z.1 + 1 = N.1 + 1 - z.1; omega) (by show N.2 - z.2 + n.toNatClampNeg = N.2 + n.toNatClampNeg - z.2; omega) ?_
    refine kk H1 (hA0.more hz rfl rfl (x := .inl (G.2.1 k, n.toNatClampNeg, .inl (fun _ => 0))) (ce_newA ?_) ?_ (by omega) (fun q hq => o1 q (by omega)) rfl n3 n4 (Nat.le_add_right _ _))
    · rcases hk with ⟨rfl, -⟩ | ⟨rfl, -⟩
      · rw [ce_13 (by show va_up _ _ _ _ = _; rw [va_up_self])]
        show (Sum.inl (_, va_up Y.2.2 N.1 _ N.1, Sum.inl (va_up S.2.2.1 N.1 _ N.1)) : va_E) = _
        rw [va_up_self, va_up_self]
      · rw [ce_14 (by show va_up _ _ _ _ = _; rw [va_up_self])]
        show (Sum.inl (_, va_up Y.2.2 N.1 _ N.1, Sum.inl (va_up S.2.2.1 N.1 _ N.1)) : va_E) = _
        rw [va_up_self, va_up_self]
    · rcases hk with ⟨rfl, rfl⟩ | ⟨rfl, rfl⟩
      · have g := (hKK.1.2 0 _ rfl).2
        have ec : G.2.1 13 = cA := Option.some.inj ((show s.vm.findClass ("[" ++ FieldType.char.toString) = some (G.2.1 13) from g).symm.trans hNm)
        rw [ec]
        exact e1
      · have g := (hKK.1.2 1 _ rfl).2
        have ec : G.2.1 14 = cA := Option.some.inj ((show s.vm.findClass ("[" ++ FieldType.int.toString) = some (G.2.1 14) from g).symm.trans hNm)
        rw [ec]
        exact e1
  · rw [if_neg hc] at h
    cases h
/-- a link to a class of which a row of references is made -/
def ALk (own : String) (idx k : Nat) : Prop := ∃ C : String, ((k = 15 ∧ C = "BehaviorRunner$Life") ∨ (k = 16 ∧ C = "BehaviorRunner$Node")) ∧ Cond.classLink own idx C ∈ TBL
theorem ra_anew (X : Cx p R s m args meth c own cc nL nf nl A G rt) {index k : Nat} {n : Int32} {q : Nat × LY × HS × (Nat × Nat)} (hover : (Cond.arrayOver (.object "BehaviorRunner$Life")).before args s = true ∧ (Cond.arrayOver (.object "BehaviorRunner$Node")).before args s = true) (hdg : decode cc pc = .ok (.anewarray index, 3)) (hC : ALk own index k) (h : newA cp k n Y S N = some q) (hA : HA R z cp A G s Y S N H locs)
    (kk : ∀ (H : Heap), HA R z cp A G s q.2.1 q.2.2.1 q.2.2.2 H locs → W p l e R s m args below meth c H locs (q.2.2.2.1 - z.1) (q.2.2.2.2 - z.2) Q (F0 m (pc + 3) ls (va_rf (some q.1) :: rest))) : W p l e R s m args below meth c H locs (N.1 - z.1) (N.2 - z.2) Q (F0 m pc ls (.int n :: rest)) := by
  intro T hT XT
  have hz := hA.size hT XT
  refine (?_ : W p l e R s m args below meth c H locs (N.1 - z.1) (N.2 - z.2) Q (F0 m pc ls (.int n :: rest))) T hT XT
  unfold newA at h
  by_cases hc : ¬ n < 0 ∧ n.toNatClampNeg ≤ 10000 ∧ N.1 + 1 ≤ cp.1 ∧ N.2 + n.toNatClampNeg ≤ cp.2
  · rw [if_pos hc] at h
    cases h
    obtain ⟨⟨hx, hb, hml, hown, hts⟩, hKK, -⟩ := X
    have hA0 := hA
    obtain ⟨⟨hP, hD, hS⟩, h1, h2, h3, h4, h5, h6, h7, h8, h9, h10⟩ := hA
    obtain ⟨n1, n2, n3, n4⟩ := hc
    obtain ⟨C, hk, hcl⟩ := hC
    have hov : (Cond.arrayOver (.object C)).before args s = true := by
      rcases hk with ⟨-, rfl⟩ | ⟨-, rfl⟩
      · exact hover.1
      · exact hover.2
    refine W.anew hx hb hown (hts _ hcl) hov rfl hdg rfl n1 (by omega) (by omega) (by omega) fun cA kA comp f1 f2 f3 f4 => ?_
    generalize hH1 : H.push ({ cls := cA, slots := Array.replicate n.toNatClampNeg .null, vm := .none } : Cell) = H1
    have z1 : H1.size = H.size + 1 := by rw [← hH1, Array.size_push]
    have e1 : H1[H.size]? = some (arrV cA n.toNatClampNeg (fun _ => .null)) := by rw [← hH1, Array.getElem?_push_size, ← arrV_new]
    have o1 : ∀ q : Nat, q < H.size → H1[q]? = H[q]? := fun q hq => by rw [← hH1, Array.getElem?_push, if_neg (Nat.ne_of_lt hq)]
    refine W.cs (by show N.1 - z.1 + 1 = N.1 + 1 - z.1; omega) (by show N.2 - z.2 + n.toNatClampNeg = N.2 + n.toNatClampNeg - z.2; omega) ?_
    rw [hz]
    refine kk H1 (hA0.more hz rfl rfl (x := .inl (G.2.1 k, n.toNatClampNeg, .inr (.inr (.inr (.inr (fun _ => none)))))) (ce_newA ?_) ?_ z1 o1 rfl n3 n4 (Nat.le_add_right _ _))
    · rcases hk with ⟨rfl, -⟩ | ⟨rfl, -⟩
      · rw [ce_15 (by show va_up _ _ _ _ = _; rw [va_up_self])]
        show (Sum.inl (_, va_up Y.2.2 N.1 _ N.1, Sum.inr (Sum.inr (Sum.inr (Sum.inr (va_up S.2.2.2 N.1 _ N.1))))) : va_E) = _
        rw [va_up_self, va_up_self]
      · rw [ce_16 (by show va_up _ _ _ _ = _; rw [va_up_self])]
        show (Sum.inl (_, va_up Y.2.2 N.1 _ N.1, Sum.inr (Sum.inr (Sum.inr (Sum.inr (va_up S.2.2.2 N.1 _ N.1))))) : va_E) = _
        rw [va_up_self, va_up_self]
    · have ec : G.2.1 k = cA := by
        rcases hk with ⟨rfl, rfl⟩ | ⟨rfl, rfl⟩
        · obtain ⟨-, -, -, -, -, g⟩ := (hKK.1.2 2 _ rfl).2
          exact Option.some.inj (g.symm.trans f1)
        · obtain ⟨-, -, -, -, -, g⟩ := (hKK.1.2 3 _ rfl).2
          exact Option.some.inj (g.symm.trans f1)
      rw [ec]
      show H1[N.1]? = some (vp_cell _ _)
      rw [← hz, vp_cell_q]
      exact e1
  · rw [if_neg hc] at h
    cases h
end RA
