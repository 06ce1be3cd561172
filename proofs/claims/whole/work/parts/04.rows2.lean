/-! locals of one-slot values; calls by their kind of answer; the JDK's members -/
theorem ci (x : Int32) : (Value.int x).category = 1 := rfl
theorem cr (r : Option Nat) : (va_rf r).category = 1 := by cases r <;> rfl
theorem ca (a : Nat) : (Value.ref a).category = 1 := rfl
theorem c1n : ∀ v ∈ ([] : List Value), v.category = 1 := fun _ h => absurd h List.not_mem_nil
theorem c1c {v : Value} {vs : List Value} (h : v.category = 1) (hs : ∀ v ∈ vs, v.category = 1) : ∀ w ∈ v :: vs, w.category = 1 := List.forall_mem_cons.mpr ⟨h, hs⟩
theorem catL {vs : List Value} (h : ∀ v ∈ vs, v.category = 1) (hl : vs.length ≤ 8) : (vs.map fun v => v.category).sum ≤ 8 := by
  have key : ∀ vs : List Value, (∀ v ∈ vs, v.category = 1) → (vs.map fun v => v.category).sum = vs.length := by
    intro vs
    induction vs with
    | nil => intro _; rfl
    | cons v vs ih =>
      intro h
      rw [List.map_cons, List.sum_cons, h v List.mem_cons_self, ih (fun w hw => h w (List.mem_cons_of_mem _ hw)), List.length_cons]
      omega
  rw [key vs h]
  exact hl
def LV (ls : Array Slot) (nL : Nat) (l : List (Nat × Value)) : Prop := lv_has ls nL l ∧ ∀ q ∈ l, q.2.category = 1
theorem LV.at {ls : Array Slot} {nL : Nat} {l : List (Nat × Value)} (h : LV ls nL l) (k : Nat) {i : Nat} {v : Value} (hk : l[k]? = some (i, v)) : ls[i]? = some (.val v) := lv_at h.1 k hk
theorem LV.sub {ls : Array Slot} {nL : Nat} {l l' : List (Nat × Value)} (h : LV ls nL l) (ks : List Nat) (hl : lv_pick l ks = l') : LV ls nL l' := by
  refine ⟨lv_sub h.1 ks hl, fun q hq => ?_⟩
  rw [← hl] at hq
  obtain ⟨k, -, hk⟩ := List.mem_filterMap.mp hq
  exact h.2 q (List.mem_of_getElem? hk)
theorem LV.st {ls ls' : Array Slot} {nL i : Nat} {v : Value} {lv lv' : List (Nat × Value)} (h0 : LV ls nL lv) (hv : v.category = 1) (hl : (i, v) :: lv.filter (fun q => !(q.1 == i)) = lv') (h : lv_has ls' nL ((i, v) :: lv.filter (fun q => !(q.1 == i) && !(q.1 + 1 == i && q.2.category == 2)))) : LV ls' nL lv' := by
  subst hl
  have e : lv.filter (fun q => !(q.1 == i) && !(q.1 + 1 == i && q.2.category == 2)) = lv.filter (fun q => !(q.1 == i)) := by
    apply List.filter_congr
    intro q hq
    have : (q.2.category == 2) = false := by rw [h0.2 q hq]; rfl
    rw [this, Bool.and_false, Bool.not_false, Bool.and_true]
  rw [e] at h
  refine ⟨h, fun q hq => ?_⟩
  rcases List.mem_cons.mp hq with rfl | hq
  · exact hv
  · exact h0.2 q (List.mem_filter.mp hq).1
def lvx : Nat → List Value → List (Nat × Value)
  | _, [] => []
  | i, v :: vs => (i, v) :: lvx (i + 1) vs
theorem lvx_eq : ∀ (vs : List Value) (i : Nat), (∀ v ∈ vs, v.category = 1) → lv_args i vs = lvx i vs
  | [], _, _ => rfl
  | v :: vs, i, h => by
    have h1 : ¬ v.category = 2 := by rw [h v List.mem_cons_self]; decide
    simp only [lv_args, h1, if_false, lvx]
    rw [lvx_eq vs (i + 1) (fun w hw => h w (List.mem_cons_of_mem _ hw))]
theorem lvx_cat : ∀ (vs : List Value) (i : Nat), (∀ v ∈ vs, v.category = 1) → ∀ q ∈ lvx i vs, q.2.category = 1
  | [], _, _ => fun q h => absurd h List.not_mem_nil
  | v :: vs, i, h => fun q hq => by
    rcases List.mem_cons.mp hq with rfl | hq
    · exact h v List.mem_cons_self
    · exact lvx_cat vs (i + 1) (fun w hw => h w (List.mem_cons_of_mem _ hw)) q hq
theorem lg_len : ∀ (vs : List Value), (∀ v ∈ vs, v.category = 1) → (lg_sl vs).length = vs.length
  | [], _ => rfl
  | v :: vs, h => by
    have h1 : ¬ v.category = 2 := by rw [h v List.mem_cons_self]; decide
    have e : lg_sl (v :: vs) = [Slot.val v] ++ lg_sl vs := by simp [lg_sl, h1]
    rw [e, List.length_append, lg_len vs (fun w hw => h w (List.mem_cons_of_mem _ hw)), List.length_cons]
    simp; omega
def jmax (x y : Int32) : Int32 := if x < y then y else x
def jmin (x y : Int32) : Int32 := if y < x then y else x
/-- a String constant's length, its char, where a char stands in it -/
def sLen (i : Nat) : Int32 := nI (lenJS.getD i 0)
def sCh (i : Nat) (k : Int32) : Option Int32 := if decide (i < 3) && inr k (lenJS.getD i 0) then some ((bytJS.getD i []).getD k.toNatClampNeg 0) else none
def sIxF (c : Int32) : List Int32 → Nat → Int32
  | [], _ => -1
  | b :: l, k => if b = c then nI k else sIxF c l (k + 1)
def sIx (i : Nat) (c : Int32) : Option Int32 := if i < 3 then some (sIxF c (bytJS.getD i []) 0) else none
def FU : Nat := 2000
theorem tb_max : Cond.static Lib.Math.max.name ∈ TBL ∧ Cond.initialized "java/lang/Math" ∈ TBL ∧ Cond.code Lib.Math.max.name Lib.Math.max.code 2 (some .int) ∈ TBL := ⟨tb_of (tb2 205 rfl) rfl, tb_of (tb1 15 rfl) rfl, tb_of (tb2 206 (by decide +kernel)) rfl⟩
theorem tb_min : Cond.static Lib.Math.min.name ∈ TBL ∧ Cond.initialized "java/lang/Math" ∈ TBL ∧ Cond.code Lib.Math.min.name Lib.Math.min.code 2 (some .int) ∈ TBL := ⟨tb_of (tb2 208 rfl) rfl, tb_of (tb1 15 rfl) rfl, tb_of (tb2 209 (by decide +kernel)) rfl⟩
theorem tb_copy : Cond.native arraycopyName ∈ TBL ∧ Cond.static arraycopyName ∈ TBL ∧ Cond.initialized "java/lang/System" ∈ TBL := ⟨tb_of (tb3 235 rfl) rfl, tb_of (tb3 234 rfl) rfl, tb_of (tb1 19 rfl) rfl⟩
theorem mlX0_53 : Cond.methodLink RX0 53 Lib.Math.min.name ∈ TBL := tb_of (tb3 153 rfl) rfl
theorem mlX0_59 : Cond.methodLink RX0 59 Lib.Math.max.name ∈ TBL := tb_of (tb3 154 rfl) rfl
theorem mlX2_64 : Cond.methodLink RX2 64 Lib.Math.min.name ∈ TBL := tb_of (tb4 38 rfl) rfl
theorem mlX0_15 : Cond.methodLink RX0 15 arraycopyName ∈ TBL := tb_of (tb3 233 rfl) rfl
theorem mlX2_47 : Cond.methodLink RX2 47 arraycopyName ∈ TBL := tb_of (tb4 0 rfl) rfl
theorem kX11_105 : Cond.constant RX11 105 1000000 ∈ TBL := tb_of (tb3 215 rfl) rfl
section RV
variable {p : Program} {l : Launch} {e : Env} {R : Room} {s : State} {m : MethodId} {args : Array Value} {below : List Frame} {meth : Method} {c : Code} {H : Heap} {locs : List Loc} {cells slots : Nat} {Q : State → Prop}
variable {own : String} {cc : ByteArray} {nL nf nl : Nat} {A : Nat → Prop} {G : GG} {rt : Option FieldType} {Y : LY} {S S1 : HS} {pc : Nat} {ls : Array Slot} {rest : List Value}
theorem rv_istore_n (X : Cx p R s m args meth c own cc nL nf nl A G rt) {k : Fin 4} {i nL' : Nat} {x : Int32} {lv lv' : List (Nat × Value)} (hdg : decode cc pc = .ok (.istore_n k, 1)) (hi : (k : Nat) = i) (h : LV ls nL' lv) (hn : i < nL') (hl : (i, Value.int x) :: lv.filter (fun q => !(q.1 == i)) = lv')
    (kk : ∀ ls' : Array Slot, LV ls' nL' lv' → W p l e R s m args below meth c H locs cells slots Q (F0 m (pc + 1) ls' rest)) : W p l e R s m args below meth c H locs cells slots Q (F0 m pc ls (.int x :: rest)) :=
  lv_istore_n X.1.1 X.1.2.1 hdg hi h.1 hn rfl (fun ls' h' => kk ls' (h.st rfl hl h'))
theorem rv_istore (X : Cx p R s m args meth c own cc nL nf nl A G rt) {i nL' : Nat} {x : Int32} {lv lv' : List (Nat × Value)} (hdg : decode cc pc = .ok (.istore i, 2)) (h : LV ls nL' lv) (hn : i < nL') (hl : (i, Value.int x) :: lv.filter (fun q => !(q.1 == i)) = lv')
    (kk : ∀ ls' : Array Slot, LV ls' nL' lv' → W p l e R s m args below meth c H locs cells slots Q (F0 m (pc + 2) ls' rest)) : W p l e R s m args below meth c H locs cells slots Q (F0 m pc ls (.int x :: rest)) :=
  lv_istore X.1.1 X.1.2.1 hdg h.1 hn rfl (fun ls' h' => kk ls' (h.st rfl hl h'))
theorem rv_astore_n (X : Cx p R s m args meth c own cc nL nf nl A G rt) {k : Fin 4} {i nL' : Nat} {r : Option Nat} {lv lv' : List (Nat × Value)} (hdg : decode cc pc = .ok (.astore_n k, 1)) (hi : (k : Nat) = i) (h : LV ls nL' lv) (hn : i < nL') (hl : (i, va_rf r) :: lv.filter (fun q => !(q.1 == i)) = lv')
    (kk : ∀ ls' : Array Slot, LV ls' nL' lv' → W p l e R s m args below meth c H locs cells slots Q (F0 m (pc + 1) ls' rest)) : W p l e R s m args below meth c H locs cells slots Q (F0 m pc ls (va_rf r :: rest)) :=
  rw_astore_n X hdg hi h.1 hn rfl (fun ls' h' => kk ls' (h.st (cr r) hl h'))
theorem rv_astore (X : Cx p R s m args meth c own cc nL nf nl A G rt) {i nL' : Nat} {r : Option Nat} {lv lv' : List (Nat × Value)} (hdg : decode cc pc = .ok (.astore i, 2)) (h : LV ls nL' lv) (hn : i < nL') (hl : (i, va_rf r) :: lv.filter (fun q => !(q.1 == i)) = lv')
    (kk : ∀ ls' : Array Slot, LV ls' nL' lv' → W p l e R s m args below meth c H locs cells slots Q (F0 m (pc + 2) ls' rest)) : W p l e R s m args below meth c H locs cells slots Q (F0 m pc ls (va_rf r :: rest)) :=
  rw_astore X hdg h.1 hn rfl (fun ls' h' => kk ls' (h.st (cr r) hl h'))
theorem rv_iinc (X : Cx p R s m args meth c own cc nL nf nl A G rt) {i nL' k : Nat} {n : Int} {x d : Int32} {lv lv' : List (Nat × Value)} (hdg : decode cc pc = .ok (.iinc i n, 3)) (h : LV ls nL' lv) (hk : lv[k]? = some (i, .int x)) (hv : Int32.ofInt n = d) (hn : i < nL') (hl : (i, Value.int (x + d)) :: lv.filter (fun q => !(q.1 == i)) = lv')
    (kk : ∀ ls' : Array Slot, LV ls' nL' lv' → W p l e R s m args below meth c H locs cells slots Q (F0 m (pc + 3) ls' rest)) : W p l e R s m args below meth c H locs cells slots Q (F0 m pc ls rest) :=
  lv_iinc X.1.1 X.1.2.1 hdg h.1 hk (by rw [hv]) hn rfl (fun ls' h' => kk ls' (h.st rfl hl h'))
theorem rv_max (X : Cx p R s m args meth c own cc nL nf nl A G rt) {index : Nat} {x y : Int32} (hl : Cond.methodLink own index Lib.Math.max.name ∈ TBL) (hr : 1 ≤ nf ∧ rest.length + 13 ≤ nl) (hc : ∀ v ∈ rest, v.category = 1) (hsz : ls.size = nL) (hdg : decode cc pc = .ok (.invokestatic index, 3))
    (kk : W p l e R s m args below meth c H locs 0 0 Q (F0 m (pc + 3) ls (.int (jmax x y) :: rest))) : W p l e R s m args below meth c H locs 0 0 Q (F0 m pc ls (.int y :: .int x :: rest)) := by
  obtain ⟨⟨hx, hb, hml, hown, hts⟩, -, -, -, -, hnf, hnl, hz1, hz2⟩ := X
  have hsum : (rest.map fun v => v.category).sum + 13 ≤ R.locals := by
    have key : ∀ vs : List Value, (∀ v ∈ vs, v.category = 1) → (vs.map fun v => v.category).sum = vs.length := by
      intro vs
      induction vs with
      | nil => intro _; rfl
      | cons v vs ih =>
        intro h
        rw [List.map_cons, List.sum_cons, h v List.mem_cons_self, ih (fun w hw => h w (List.mem_cons_of_mem _ hw)), List.length_cons]
        omega
    rw [key rest hc]
    omega
  exact va_mmax hx hb (hml.trans hsz.symm) hown (hts _ hl) (hts _ tb_max.1) (hts _ tb_max.2.1) (hts _ tb_max.2.2) (by omega) hsum hz1 hz2 hdg kk
theorem rv_min (X : Cx p R s m args meth c own cc nL nf nl A G rt) {index : Nat} {x y : Int32} (hl : Cond.methodLink own index Lib.Math.min.name ∈ TBL) (hr : 1 ≤ nf ∧ rest.length + 13 ≤ nl) (hc : ∀ v ∈ rest, v.category = 1) (hsz : ls.size = nL) (hdg : decode cc pc = .ok (.invokestatic index, 3))
    (kk : W p l e R s m args below meth c H locs 0 0 Q (F0 m (pc + 3) ls (.int (jmin x y) :: rest))) : W p l e R s m args below meth c H locs 0 0 Q (F0 m pc ls (.int y :: .int x :: rest)) := by
  obtain ⟨⟨hx, hb, hml, hown, hts⟩, -, -, -, -, hnf, hnl, hz1, hz2⟩ := X
  have hsum : (rest.map fun v => v.category).sum + 13 ≤ R.locals := by
    have key : ∀ vs : List Value, (∀ v ∈ vs, v.category = 1) → (vs.map fun v => v.category).sum = vs.length := by
      intro vs
      induction vs with
      | nil => intro _; rfl
      | cons v vs ih =>
        intro h
        rw [List.map_cons, List.sum_cons, h v List.mem_cons_self, ih (fun w hw => h w (List.mem_cons_of_mem _ hw)), List.length_cons]
        omega
    rw [key rest hc]
    omega
  exact va_mmin hx hb (hml.trans hsz.symm) hown (hts _ hl) (hts _ tb_min.1) (hts _ tb_min.2.1) (hts _ tb_min.2.2) (by omega) hsum hz1 hz2 hdg kk
theorem ce_row2 {a : Nat} (g : Nat → Int32) (hk : Y.2.1 a = 14) (b : Nat) : va_up (ce G Y S) a (.inl (G.2.1 14, Y.2.2 a, .inl g)) b = ce G Y (S.1, S.2.1, va_up S.2.2.1 a g, S.2.2.2) b := by
  have := ce_row (G := G) (S := S) g (Or.inr hk) b
  rw [hk] at this
  exact this
theorem rv_copy (X : Cx p R s m args meth c own cc nL nf nl A G rt) {index : Nat} {r0 r1 : Option Nat} {sp dp n : Int32} (hlk : Cond.methodLink own index arraycopyName ∈ TBL) (h : cpA Y r0 sp r1 dp n S = some S1) (hr : 1 ≤ nf ∧ nativeFrameWords "java/lang/System" "arraycopy" 5 + 11 ≤ nl) (hsz : ls.size = nL) (hdg : decode cc pc = .ok (.invokestatic index, 3)) (hP : HP A G Y s S H locs)
    (kk : ∀ (H : Heap) (locs : List Loc), HP A G Y s S1 H locs → W p l e R s m args below meth c H locs cells slots Q (F0 m (pc + 3) ls [])) : W p l e R s m args below meth c H locs cells slots Q (F0 m pc ls (.int n :: .int dp :: va_rf r1 :: .int sp :: va_rf r0 :: [])) := by
  obtain ⟨⟨hx, hb, hml, hown, hts⟩, hKK, -, -, -, hnf, hnl, hz1, hz2⟩ := X
  unfold cpA at h
  cases r0 with
  | none => cases h
  | some a =>
    cases r1 with
    | none => cases h
    | some b =>
      have h' : (if (chk Y 14 a && chk Y 14 b) = true ∧ ¬ sp < 0 ∧ ¬ dp < 0 ∧ ¬ n < 0 ∧ sp.toNatClampNeg + n.toNatClampNeg ≤ Y.2.2 a ∧ dp.toNatClampNeg + n.toNatClampNeg ≤ Y.2.2 b then some (S.1, S.2.1, va_up S.2.2.1 b (va_cpy (S.2.2.1 a) (S.2.2.1 b) sp.toNatClampNeg dp.toNatClampNeg n.toNatClampNeg), S.2.2.2) else none) = some S1 := h
      by_cases hc : (chk Y 14 a && chk Y 14 b) = true ∧ ¬ sp < 0 ∧ ¬ dp < 0 ∧ ¬ n < 0 ∧ sp.toNatClampNeg + n.toNatClampNeg ≤ Y.2.2 a ∧ dp.toNatClampNeg + n.toNatClampNeg ≤ Y.2.2 b
      · rw [if_pos hc] at h'
        cases h'
        obtain ⟨g0, g1, g2, g3, g4, g5⟩ := hc
        rw [Bool.and_eq_true] at g0
        obtain ⟨ha, hka⟩ := chk_in g0.1
        obtain ⟨hb2, hkb⟩ := chk_in g0.2
        obtain ⟨i, hi⟩ := va_pl_get (X := []) (f := ce G Y S) ha
        obtain ⟨j, hj⟩ := va_pl_get (X := []) (f := ce G Y S) hb2
        have hj0 := hj
        rw [ce_14 hka] at hi
        rw [ce_14 hkb] at hj
        obtain ⟨hP1, hP2, hP3⟩ := hP
        have hset : (va_pl Y.1 (ce G Y S)).set j (b, .inl (G.2.1 14, Y.2.2 b, .inl (va_cpy (S.2.2.1 a) (S.2.2.1 b) sp.toNatClampNeg dp.toNatClampNeg n.toNatClampNeg))) = va_pl Y.1 (ce G Y (S.1, S.2.1, va_up S.2.2.1 b (va_cpy (S.2.2.1 a) (S.2.2.1 b) sp.toNatClampNeg dp.toNatClampNeg n.toNatClampNeg), S.2.2.2)) := by
          have e := va_pl_set (X := []) hP2 hb2 hj0 (e := .inl (G.2.1 14, Y.2.2 b, .inl (va_cpy (S.2.2.1 a) (S.2.2.1 b) sp.toNatClampNeg dp.toNatClampNeg n.toNatClampNeg)))
          exact e.trans (va_pl_congr (fun q => ce_row2 _ hkb q))
        refine va_copyi (ty := .int) hx hb (hml.trans hsz.symm) hown (hts _ hlk) (hts _ tb_copy.1) (hts _ tb_copy.2.1) (hts _ tb_copy.2.2) hKK.1 hP1 hP2 hP3 i j 1 1 hi hj rfl rfl rfl g1 g2 g3 g4 g5 (fun _ _ => rfl) (by omega) (by show 0 + _ ≤ _; omega) hdg (fun H1 locs1 q1 q2 q3 => ?_)
        rw [hset] at q1 q2
        exact kk H1 locs1 ⟨q1, q2, q3⟩
      · rw [if_neg hc] at h'
        cases h'
theorem tsw {x : Int32} {k : Int} {v : Int32} (hv : v.toInt = k) (h : ¬ x = v) : x.toInt ≠ k := fun h1 => h (Int32.toInt_inj.mp (h1.trans hv.symm))
theorem mm_of2 {y : MethodName} {b : ByteArray} {n f lo : Nat} {ret : Option FieldType} {av : List Value} {rv : Option Value} (hy : plainFor y = true) (hlen : av.length ≤ n) (hc : ∀ v ∈ av, v.category = 1)
    (body : ∀ p e R s m args below meth c, Cx p R s m args meth c y.cls b n f lo (fun q => q ∈ Y.1) G ret → ∀ H locs ls, HP (fun q => q ∈ Y.1) G Y s S H locs → LV ls n (lvx 0 av) → W p l e R s m args below meth c H locs 0 0 (MQ below (QI G Y S1 rv) args s 0 0 (fun q => q ∈ Y.1)) (F0 m 0 ls [])) : MM l y b n ret f lo G Y S av S1 rv :=
  mm_of hy (by rw [lg_len av hc]; exact hlen) (fun p e R s m args below meth c X H locs ls hP hl => body p e R s m args below meth c X H locs ls hP ⟨by rw [lvx_eq av 0 hc] at hl; exact hl, lvx_cat av 0 hc⟩)
end RV
