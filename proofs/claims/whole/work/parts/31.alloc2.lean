/-- a final field, written by its own class' constructor -/
def FLz (own : String) (idx c k : Nat) (ty : FieldType) : Prop := ∃ (C : String) (T : u_T) (n : Nat) (ty0 : Nat → FieldType), vwCl[c]? = some (C, T, n) ∧ k < n ∧ (∀ w ∈ u_ws C T n, w ∈ TBL) ∧ (∀ k, k < n → parseFieldDescriptor (T k).2.2.1 = some (ty0 k)) ∧ (∀ a, a < n → ∀ b, b < n → a ≠ b → (T a).2.1 ≠ (T b).2.1) ∧ (T k).2.2.2 = true ∧ (T k).1 = own ∧ C = own ∧ parseFieldDescriptor (T k).2.2.1 = some ty ∧ Cond.fieldLink own idx C (T k).2.1 (T k).2.2.1 ∈ TBL
theorem tb_oi : Cond.instanceMethod Lib.objectInit ∈ TBL ∧ Cond.code Lib.objectInit ⟨#[0xb1]⟩ 1 none ∈ TBL := ⟨tb_of (tb1 27 rfl) rfl, tb_of (tb1 28 rfl) rfl⟩
section RB
variable {p : Program} {l : Launch} {e : Env} {R : Room} {s : State} {m : MethodId} {args : Array Value} {below : List Frame} {meth : Method} {c : Code} {H : Heap} {locs : List Loc} {cells slots : Nat} {Q : State → Prop}
variable {own : String} {cc : ByteArray} {nL nf nl : Nat} {A : Nat → Prop} {G : GG} {rt : Option FieldType} {Y Y1 : LY} {S S1 : HS} {N N1 z cp : Nat × Nat} {pc : Nat} {ls : Array Slot} {rest : List Value}
theorem rw_putz (X : Cx p R s m args meth c own cc nL nf nl A G rt) (hname : meth.name = "<init>") {index cN k a : Nat} {ty : FieldType} (hdg : decode cc pc = .ok (.putfield index, 3)) (hF : FLz own index cN k ty) (hc : chk Y cN a = true) (hP : HP A G Y s S H locs)
    (hd : Diff1 S S1 (100 * cN + k) a) (hn : narrow ty (vl S1 (100 * cN + k) a) = vl S1 (100 * cN + k) a) (hfit : fits ty (vl S1 (100 * cN + k) a) = true)
    (kk : ∀ (H : Heap) (locs : List Loc), HP A G Y s S1 H locs → W p l e R s m args below meth c H locs cells slots Q (F0 m (pc + 3) ls rest)) : W p l e R s m args below meth c H locs cells slots Q (F0 m pc ls (vl S1 (100 * cN + k) a :: .ref a :: rest)) := by
  obtain ⟨⟨hx, hb, hml, hown, hts⟩, hKK, -⟩ := X
  obtain ⟨C, T, n, ty0, h1, h2, h3, g2, g3, g4, g5, rfl, g7, g8⟩ := hF
  obtain ⟨h6, h7⟩ := vw_nfl h1
  have hk : k < nfl cN := by rw [← h7]; exact h2
  obtain ⟨ha, hk2⟩ := chk_in hc
  obtain ⟨i, hi⟩ := va_pl_get (X := []) (f := ce G Y S) ha
  have hi0 := hi
  rw [ce_obj h6 hk2] at hi
  have hsame : ∀ x, s.fieldFound? (T k).1 (T k).2.1 (T k).2.2.1 = some x → s.fieldFound? C (T k).2.1 (T k).2.2.1 = some x := by rw [g5]; exact fun x h => h
  obtain ⟨hP1, hP2, hP3⟩ := hP
  have hset : (va_pl Y.1 (ce G Y S)).set i (a, .inr (cN, (fv S cN a).set k (vl S1 (100 * cN + k) a))) = va_pl Y.1 (ce G Y S1) := by
    have e := va_pl_set (X := []) hP2 ha hi0 (e := .inr (cN, (fv S cN a).set k (vl S1 (100 * cN + k) a)))
    exact e.trans (va_pl_congr (ce_set h6 hk2 hk hd))
  have kk' : ∀ (H1 : Heap) (locs1 : List Loc), va_P G.1 vwCl ((va_pl Y.1 (ce G Y S)).set i (a, .inr (cN, (fv S cN a).set k (vl S1 (100 * cN + k) a)))) H1 → va_D A ((va_pl Y.1 (ce G Y S)).set i (a, .inr (cN, (fv S cN a).set k (vl S1 (100 * cN + k) a)))) → va_S A s.heap H1 locs1 → W p l e R s m args below meth c H1 locs1 cells slots Q (F0 m (pc + 3) ls rest) := by
    intro H1 locs1 q1 q2 q3
    rw [hset] at q1 q2
    exact kk H1 locs1 ⟨q1, q2, q3⟩
  exact va_putF hx hb hts h3 ty0 g2 g3 hown hKK.1 hP1 hP2 hP3 i hi h1 k h2 (hts _ g8) hsame g4 hname g5 g7 hn hfit (by rw [fv_len]; exact hk) hdg kk'
theorem rw_putzI (X : Cx p R s m args meth c own cc nL nf nl A G rt) (hname : meth.name = "<init>") {index cN k f : Nat} {r : Option Nat} {v : Int32} (hdg : decode cc pc = .ok (.putfield index, 3)) (hF : FLz own index cN k .int) (h : pI Y cN f r v S = some S1) (hf : (f == 100 * cN + k && !isR f) = true) (hP : HP A G Y s S H locs)
    (kk : ∀ (H : Heap) (locs : List Loc), HP A G Y s S1 H locs → W p l e R s m args below meth c H locs cells slots Q (F0 m (pc + 3) ls rest)) : W p l e R s m args below meth c H locs cells slots Q (F0 m pc ls (.int v :: va_rf r :: rest)) := by
  obtain ⟨a, rfl, hc, rfl⟩ := rc_some h
  simp only [Bool.and_eq_true, beq_iff_eq, Bool.not_eq_true'] at hf
  obtain ⟨hf1, hf2⟩ := hf
  obtain ⟨d1, d2⟩ := diff_I (S := S) (a := a) (v := v) hf2
  rw [hf1] at d1 d2 kk
  have := rw_putz X hname hdg hF hc hP d1 (by rw [d2]; rfl) (by rw [d2]; rfl) kk
  rw [d2] at this
  exact this
theorem rw_putzR (X : Cx p R s m args meth c own cc nL nf nl A G rt) (hname : meth.name = "<init>") {index cN k f : Nat} {r v : Option Nat} {ty : FieldType} (hty : ty.isReference = true) (hdg : decode cc pc = .ok (.putfield index, 3)) (hF : FLz own index cN k ty) (h : pR Y cN f r v S = some S1) (hf : (f == 100 * cN + k && isR f) = true) (hP : HP A G Y s S H locs)
    (kk : ∀ (H : Heap) (locs : List Loc), HP A G Y s S1 H locs → W p l e R s m args below meth c H locs cells slots Q (F0 m (pc + 3) ls rest)) : W p l e R s m args below meth c H locs cells slots Q (F0 m pc ls (va_rf v :: va_rf r :: rest)) := by
  obtain ⟨a, rfl, hc, rfl⟩ := rc_some h
  simp only [Bool.and_eq_true, beq_iff_eq] at hf
  obtain ⟨hf1, hf2⟩ := hf
  obtain ⟨d1, d2⟩ := diff_R (S := S) (a := a) (v := v) hf2
  rw [hf1] at d1 d2 kk
  have n1 : narrow ty (va_rf v) = va_rf v := by cases v <;> cases ty <;> first | rfl | (exact absurd hty (by decide))
  have n2 : fits ty (va_rf v) = true := by cases v <;> cases ty <;> first | rfl | (exact absurd hty (by decide))
  have := rw_putz X hname hdg hF hc hP d1 (by rw [d2]; exact n1) (by rw [d2]; exact n2) kk
  rw [d2] at this
  exact this
theorem rw_objI (X : Cx p R s m args meth c own cc nL nf nl A G rt) {idx : Nat} {r : Option Nat} (hl : Cond.methodLink own idx Lib.objectInit ∈ TBL) (hr : r ≠ none) (hroom : 1 ≤ nf ∧ rest.length + 12 ≤ nl) (hc : ∀ v ∈ rest, v.category = 1) (hsz : ls.size = nL) (hdg : decode cc pc = .ok (.invokespecial idx, 3))
    (kk : W p l e R s m args below meth c H locs cells slots Q (F0 m (pc + 3) ls rest)) : W p l e R s m args below meth c H locs cells slots Q (F0 m pc ls (va_rf r :: rest)) := by
  obtain ⟨⟨hx, hb, hml, hown, hts⟩, -, -, -, -, hnf, hnl, -⟩ := X
  cases r with
  | none => exact absurd rfl hr
  | some a =>
    have hsum : (rest.map fun v => v.category).sum = rest.length := by
      have key : ∀ vs : List Value, (∀ v ∈ vs, v.category = 1) → (vs.map fun v => v.category).sum = vs.length := by
        intro vs
        induction vs with
        | nil => intro _; rfl
        | cons v vs ih =>
          intro h
          rw [List.map_cons, List.sum_cons, h v List.mem_cons_self, ih (fun w hw => h w (List.mem_cons_of_mem _ hw)), List.length_cons]
          omega
      exact key rest hc
    exact W.objInit hx hb hown (hts _ hl) (hts _ tb_oi.1) (hts _ tb_oi.2) rfl (by rw [hml]; exact hsz) rfl hdg (by omega) (by show 2 * 0 + _ + 12 ≤ _; rw [hsum]; omega) kk
theorem ce_rowQ {a : Nat} {k : Nat} (g : Nat → Option Nat) (hk : (k = 15 ∨ k = 16) ∧ Y.2.1 a = k) (b : Nat) : va_up (ce G Y S) a (.inl (G.2.1 k, Y.2.2 a, .inr (.inr (.inr (.inr g))))) b = ce G Y (S.1, S.2.1, S.2.2.1, va_up S.2.2.2 a g) b := by
  obtain ⟨hk1, hk2⟩ := hk
  by_cases hb : b = a
  · subst hb
    rw [va_up_self]
    rcases hk1 with rfl | rfl
    · rw [ce_15 hk2]
      show _ = (Sum.inl (_, _, Sum.inr (Sum.inr (Sum.inr (Sum.inr (va_up S.2.2.2 b g b))))) : va_E)
      rw [va_up_self]
    · rw [ce_16 hk2]
      show _ = (Sum.inl (_, _, Sum.inr (Sum.inr (Sum.inr (Sum.inr (va_up S.2.2.2 b g b))))) : va_E)
      rw [va_up_self]
  · rw [va_up_ne _ _ hb]
    have e : va_up S.2.2.2 a g b = S.2.2.2 b := va_up_ne _ _ hb
    unfold ce
    simp only [e]
    rfl
theorem rowsQ_up {a j : Nat} {x : Option Nat} : upN S.2.2.2 a j x = va_up S.2.2.2 a (va_up (S.2.2.2 a) j x) := by
  funext b i
  unfold upN va_up
  by_cases hb : b = a
  · subst hb
    by_cases hi : i = j
    · simp [hi]
    · simp [hi]
  · simp [hb]
theorem rw_aast (X : Cx p R s m args meth c own cc nL nf nl A G rt) {k cN t : Nat} {r v : Option Nat} {i : Int32} (hk : (k = 15 ∧ cN = 3 ∧ t = 2) ∨ (k = 16 ∧ cN = 4 ∧ t = 3)) (hdg : decode cc pc = .ok (.aastore, 1)) (h : pQ Y k cN r i v S = some S1) (hP : HP A G Y s S H locs)
    (kk : ∀ (H : Heap) (locs : List Loc), HP A G Y s S1 H locs → W p l e R s m args below meth c H locs cells slots Q (F0 m (pc + 1) ls rest)) : W p l e R s m args below meth c H locs cells slots Q (F0 m pc ls (va_rf v :: .int i :: va_rf r :: rest)) := by
  cases r with
  | none => cases h
  | some a =>
    cases v with
    | none => cases h
    | some b =>
      have h' : (if (chk Y k a && inr i (Y.2.2 a) && chk Y cN b) = true then some (S.1, S.2.1, S.2.2.1, upN S.2.2.2 a i.toNatClampNeg (some b)) else none) = some S1 := h
      by_cases hc : (chk Y k a && inr i (Y.2.2 a) && chk Y cN b) = true
      · rw [if_pos hc] at h'
        cases h'
        rw [Bool.and_eq_true, Bool.and_eq_true] at hc
        obtain ⟨⟨hc1, hin⟩, hc2⟩ := hc
        obtain ⟨⟨hx, hb, hml, hown, hts⟩, hKK, -⟩ := X
        obtain ⟨ha, hka⟩ := chk_in hc1
        obtain ⟨hb2, hkb⟩ := chk_in hc2
        obtain ⟨j, hj⟩ := va_pl_get (X := []) (f := ce G Y S) ha
        obtain ⟨j2, hj2⟩ := va_pl_get (X := []) (f := ce G Y S) hb2
        have hj0 := hj
        rw [ce_obj (by omega) hkb] at hj2
        obtain ⟨hP1, hP2, hP3⟩ := hP
        have hce : ce G Y S a = .inl (G.2.1 k, Y.2.2 a, .inr (.inr (.inr (.inr (S.2.2.2 a))))) := by
          rcases hk with ⟨rfl, -, -⟩ | ⟨rfl, -, -⟩
          · exact ce_15 hka
          · exact ce_16 hka
        rw [hce] at hj
        have hset : (va_pl Y.1 (ce G Y S)).set j (a, .inl (G.2.1 k, Y.2.2 a, .inr (.inr (.inr (.inr (va_up (S.2.2.2 a) i.toNatClampNeg (some b))))))) = va_pl Y.1 (ce G Y (S.1, S.2.1, S.2.2.1, upN S.2.2.2 a i.toNatClampNeg (some b))) := by
          rw [rowsQ_up]
          have e := va_pl_set (X := []) hP2 ha hj0 (e := .inl (G.2.1 k, Y.2.2 a, .inr (.inr (.inr (.inr (va_up (S.2.2.2 a) i.toNatClampNeg (some b)))))))
          exact e.trans (va_pl_congr (fun b' => ce_rowQ _ ⟨by rcases hk with ⟨rfl, -, -⟩ | ⟨rfl, -, -⟩ <;> simp, hka⟩ b'))
        have fin : ∀ (H1 : Heap) (locs1 : List Loc), va_P G.1 vwCl ((va_pl Y.1 (ce G Y S)).set j (a, .inl (G.2.1 k, Y.2.2 a, .inr (.inr (.inr (.inr (va_up (S.2.2.2 a) i.toNatClampNeg (some b)))))))) H1 → va_D A ((va_pl Y.1 (ce G Y S)).set j (a, .inl (G.2.1 k, Y.2.2 a, .inr (.inr (.inr (.inr (va_up (S.2.2.2 a) i.toNatClampNeg (some b)))))))) → va_S A s.heap H1 locs1 → W p l e R s m args below meth c H1 locs1 cells slots Q (F0 m (pc + 1) ls rest) := by
          intro H1 locs1 q1 q2 q3
          rw [hset] at q1 q2
          exact kk H1 locs1 ⟨q1, q2, q3⟩
        rcases hk with ⟨rfl, rfl, rfl⟩ | ⟨rfl, rfl, rfl⟩
        · exact va_astq hx hb hKK.1 hP1 hP2 hP3 j 2 j2 3 hj rfl hj2 (r := (RX3, TX3, 10)) rfl (inr_in hin) hdg fin
        · exact va_astq hx hb hKK.1 hP1 hP2 hP3 j 3 j2 4 hj rfl hj2 (r := (RX4, TX4, 14)) rfl (inr_in hin) hdg fin
      · rw [if_neg hc] at h'
        cases h'
theorem preA_blind {av : List Value} : FrameBlind (PreA G Y S N av) := by
  intro a U g mk h
  obtain ⟨h1, h2, h3, h4, h5, h6, h7⟩ := h
  exact ⟨h1, h2, h3, KK.same (s := U) (U := U.calling g mk a) rfl h4, STR.same (s := U) (U := U.calling g mk a) rfl h5, h6, h7⟩
theorem AA_A (hA : HA R z cp A G s Y S N H locs) {q : Nat} (h : AA Y N q) : A q := by
  obtain ⟨⟨hP, hD, hS⟩, h1, h2, h3, h4, h5, h6, h7, h8, h9, h10⟩ := hA
  rcases h with h | h
  · exact WD_in hD h
  · exact h9 q (by omega)
theorem preA_of (X : Cx p R s m args meth c own cc nL nf nl A G rt) (hA : HA R z cp A G s Y S N H locs) (hz : H.size = N.1) {av : List Value} (U : State) (hU : U.heap = H) (hW : s.WarmedH U.vm) : PreA G Y S N av av.toArray U := by
  have hA0 := hA
  obtain ⟨-, hKK, hST, -⟩ := X
  obtain ⟨⟨hP, hD, hS⟩, h1, h2, h3, h4, h5, h6, h7, h8, h9, h10⟩ := hA
  refine ⟨rfl, by rw [hU]; exact hP, ⟨hD.1, fun k q hk => ?_⟩, hKK.warm hW, ?_, by rw [hU]; exact hz, h10⟩
  · simp only [va_pl, List.getElem?_map] at hk
    cases hb : Y.1[k]? with
    | none => rw [hb] at hk; cases hk
    | some b => rw [hb] at hk; cases hk; exact Or.inl (List.mem_of_getElem? hb)
  · rw [hU]
    exact ((hST.kept hS.2.1).narrow (fun q h => AA_A hA0 h)).warm hW
theorem ra_after {st0 : List Value} {a : Array Value} {rv : Option Value} {mc ms : Nat} (hmc : 0 < mc) (hz : H.size = N.1) (hr : va_Run p l e R s m args below meth c H locs (N.1 - z.1) (N.2 - z.2) mc ms (F0 m pc ls st0) rest (QA G (AA Y N) Y1 S1 N1 rv a) (AA Y N)) (hA : HA R z cp A G s Y S N H locs) (hN : N1 = (N.1 + mc, N.2 + ms)) (hc : N1.1 ≤ cp.1 ∧ N1.2 ≤ cp.2)
    (kk : ∀ (H1 : Heap) (locs1 : List Loc), HA R z cp A G s Y1 S1 N1 H1 locs1 → W p l e R s m args below meth c H1 locs1 (N1.1 - z.1) (N1.2 - z.2) Q (F0 m (pc + 3) ls (rv.toList ++ rest))) : W p l e R s m args below meth c H locs (N.1 - z.1) (N.2 - z.2) Q (F0 m pc ls st0) := by
  intro T hT XT
  subst hN
  obtain ⟨v, st₀, t, T', L, h0, X', hL, e1, e2, ⟨ho, hW, hWD, hsz, h8', h10', hzz, hk⟩, st⟩ := hr T hT XT
  cases ho
  rw [h0] at hzz hk h8'
  have hA0 := hA
  obtain ⟨⟨hP, hD, hS⟩, h1, h2, h3, h4, h5, h6, h7, h8, h9, h10⟩ := hA
  have hAA : ∀ q, AA Y N q → A q := fun q h => AA_A hA0 h
  have hHA : HA R z cp A G s Y1 S1 (N.1 + mc, N.2 + ms) T'.heap (locs ++ L) := by
    refine ⟨⟨by rw [e1]; exact hW, hWD.weaken (fun k q _ h => hAA q.1 h), Nat.le_trans hS.1 (by rw [e1]; exact hzz), fun q g1 g2 => ?_, fun q hq => ?_⟩, h1, by show z.1 ≤ N.1 + mc; omega, by show z.2 ≤ N.2 + ms; omega, hc.1, hc.2, h6, h7, Or.inr ?_, h9, h10'⟩
    · rw [e1, hk q (Nat.lt_of_lt_of_le g1 hS.1) (fun z => g2 (hAA q z))]
      exact hS.2.1 q g1 g2
    · rcases List.mem_append.mp hq with h | h
      · exact hS.2.2 q h
      · exact hAA _ (hL q h)
    · rcases h8' with h8' | h8'
      · exfalso
        have : N.1 + mc = H.size := h8'
        omega
      · exact h8'
  have X2 : Stand p l e R s m args below meth c T' (locs ++ L) (N.1 + mc - z.1) (N.2 + ms - z.2) := by
    have ea : N.1 - z.1 + mc = N.1 + mc - z.1 := by omega
    have eb : N.2 - z.2 + ms = N.2 + ms - z.2 := by omega
    rw [← ea, ← eb]
    exact X'
  obtain ⟨t2, a1, b1⟩ := kk T'.heap (locs ++ L) hHA T' rfl X2
  exact ⟨t2, st t2 a1, b1⟩
theorem good_code {y : MethodName} {b : ByteArray} {n : Nat} {ret : Option FieldType} (h : Cond.code y b n ret ∈ TBL) : GoodIn TBL (.code y b n ret :: TBL) := by
  intro w hw
  have hm : w ∈ TBL := by
    rcases List.mem_cons.mp hw with rfl | hw
    · exact h
    · exact hw
  exact tbl_good w hm
/-- a constructor that makes cells -/
theorem ra_callI (X : Cx p R s m args meth c own cc nL nf nl A G rt) {index n f lo mc ms : Nat} {y : MethodName} {b : ByteArray} {r0 : Option Nat} {As st0 : List Value} (hmc : 0 < mc)
    (hdg : decode cc pc = .ok (.invokespecial index, 3)) (hC : CLi own index y b n) (hy : PY y As.length) (hM : MA l y b n none f lo mc ms G Y S N (va_rf r0 :: As) Y1 S1 N1 none) (hroom : f + 1 ≤ nf ∧ 8 + (n + 11) + lo ≤ nl) (hr : r0 ≠ none) (hN : N1 = (N.1 + mc, N.2 + ms)) (hc : N1.1 ≤ cp.1 ∧ N1.2 ≤ cp.2) (hA : HA R z cp A G s Y S N H locs)
    (hst : st0 = As.reverse ++ va_rf r0 :: rest) (hcat : (rest.map fun v => v.category).sum ≤ 8) (hsz : ls.size = nL)
    (kk : ∀ (H1 : Heap) (locs1 : List Loc), HA R z cp A G s Y1 S1 N1 H1 locs1 → W p l e R s m args below meth c H1 locs1 (N1.1 - z.1) (N1.2 - z.2) Q (F0 m (pc + 3) ls rest)) : W p l e R s m args below meth c H locs (N.1 - z.1) (N.2 - z.2) Q (F0 m pc ls st0) := by
  intro T hT XT
  have hz := hA.size hT XT
  refine (?_ : W p l e R s m args below meth c H locs (N.1 - z.1) (N.2 - z.2) Q (F0 m pc ls st0)) T hT XT
  have hX := X
  obtain ⟨hfix, hKK, hST, hlocks, hrt, hnf, hnl, hz1, hz2⟩ := X
  obtain ⟨c1, c2, c3, c4, c5⟩ := hC
  have hts := hfix.2.2.2.2
  cases r0 with
  | none => exact absurd rfl hr
  | some a =>
    have hcap : N.1 - z.1 + mc ≤ R.cells ∧ N.2 - z.2 + ms ≤ R.slots := by
      obtain ⟨-, -, h2, h3, h4, h5, h6, h7, -⟩ := hA
      subst hN
      have q1 : N.1 + mc ≤ cp.1 := hc.1
      have q2 : N.2 + ms ≤ cp.2 := hc.2
      omega
    rcases c1 with c1 | ⟨host, c1⟩
    · exact ra_after hmc hz (va_runI (As := As) (rest := rest) hfix hM (cwI As.length hts (good_code c2) rfl rfl rfl (hts _ c3) (hts _ c1) (hts _ c4) c5 ⟨hy.1, hy.2.1, hy.2.2⟩ ⟨Nat.le_trans hroom.1 hnf, Nat.le_trans hroom.2 hnl⟩) ⟨preA_blind, fun U hU hW => preA_of hX hA hz U hU hW⟩ rfl rfl hsz hst (lv_room hcat) hdg hcap) hA hN hc kk
    · exact ra_after hmc hz (va_runIN (As := As) (rest := rest) hfix hM ⟨va_cnB As.length hts (good_code c2) rfl rfl rfl (hKK.2 _ c1 rfl) (hts _ c3) ⟨hy.1, hy.2.1, hy.2.2⟩ ⟨Nat.le_trans hroom.1 hnf, Nat.le_trans hroom.2 hnl⟩, c5, hts _ c4⟩ ⟨preA_blind, fun U hU hW => preA_of hX hA hz U hU hW⟩ rfl rfl hsz hst (lv_room hcat) hdg hcap) hA hN hc kk
/-- a constructor that makes none -/
theorem ra_callI0 (X : Cx p R s m args meth c own cc nL nf nl A G rt) {index n f lo : Nat} {y : MethodName} {b : ByteArray} {r0 : Option Nat} {As st0 : List Value}
    (hdg : decode cc pc = .ok (.invokespecial index, 3)) (hC : CLi own index y b n) (hy : PY y As.length) (hM : MM l y b n none f lo G Y S (va_rf r0 :: As) S1 none) (hroom : f + 1 ≤ nf ∧ 8 + (n + 11) + lo ≤ nl) (hr : r0 ≠ none) (hA : HA R z cp A G s Y S N H locs)
    (hst : st0 = As.reverse ++ va_rf r0 :: rest) (hcat : (rest.map fun v => v.category).sum ≤ 8) (hsz : ls.size = nL)
    (kk : ∀ (H1 : Heap) (locs1 : List Loc), HP A G Y s S1 H1 locs1 → W p l e R s m args below meth c H1 locs1 (N.1 - z.1) (N.2 - z.2) Q (F0 m (pc + 3) ls rest)) : W p l e R s m args below meth c H locs (N.1 - z.1) (N.2 - z.2) Q (F0 m pc ls st0) := by
  have hX := X
  obtain ⟨hfix, hKK, hST, hlocks, hrt, hnf, hnl, hz1, hz2⟩ := X
  obtain ⟨c1, c2, c3, c4, c5⟩ := hC
  have hts := hfix.2.2.2.2
  cases r0 with
  | none => exact absurd rfl hr
  | some a =>
    rcases c1 with c1 | ⟨host, c1⟩
    · exact rw_after (va_runI (As := As) (rest := rest) hfix hM (cwI As.length hts (good_code c2) rfl rfl rfl (hts _ c3) (hts _ c1) (hts _ c4) c5 ⟨hy.1, hy.2.1, hy.2.2⟩ ⟨Nat.le_trans hroom.1 hnf, Nat.le_trans hroom.2 hnl⟩) ⟨preW_blind, fun U hU hW => preW_of hX hA.1 U hU hW⟩ rfl rfl hsz hst (lv_room hcat) hdg hA.fits) hA.1 kk
    · exact rw_after (va_runIN (As := As) (rest := rest) hfix hM ⟨va_cnB As.length hts (good_code c2) rfl rfl rfl (hKK.2 _ c1 rfl) (hts _ c3) ⟨hy.1, hy.2.1, hy.2.2⟩ ⟨Nat.le_trans hroom.1 hnf, Nat.le_trans hroom.2 hnl⟩, c5, hts _ c4⟩ ⟨preW_blind, fun U hU hW => preW_of hX hA.1 U hU hW⟩ rfl rfl hsz hst (lv_room hcat) hdg hA.fits) hA.1 kk
/-- a call, in a walk that makes cells, of a method that makes none -/
theorem ra_callV (X : Cx p R s m args meth c own cc nL nf nl A G rt) {index cN : Nat} {y : MethodName} {b : ByteArray} {n f lo : Nat} {ret : Option FieldType} {r0 : Option Nat} {u : Unit} {As st0 : List Value} {rv : Option Value}
    (hdg : decode cc pc = .ok (.invokevirtual index, 3)) (hC : CLv own index y b n ret) (hy : PY y As.length) (hM : MM l y b n ret f lo G Y S (va_rf r0 :: As) S1 rv) (hroom : f + 1 ≤ nf ∧ 8 + (n + 11) + lo ≤ nl) (hrc : rcv Y cN r0 = some u) (hcN : (vwCl[cN]?).map (fun q => q.1) = some y.cls) (hA : HA R z cp A G s Y S N H locs)
    (hst : st0 = As.reverse ++ va_rf r0 :: rest) (hcat : (rest.map fun v => v.category).sum ≤ 8) (hsz : ls.size = nL)
    (kk : ∀ (H1 : Heap) (locs1 : List Loc), HP A G Y s S1 H1 locs1 → W p l e R s m args below meth c H1 locs1 (N.1 - z.1) (N.2 - z.2) Q (F0 m (pc + 3) ls (rv.toList ++ rest))) : W p l e R s m args below meth c H locs (N.1 - z.1) (N.2 - z.2) Q (F0 m pc ls st0) := by
  obtain ⟨a, rfl, hc, -⟩ := rc_some hrc
  have hX := X
  have hP := hA.1
  obtain ⟨hfix, hKK, hST, hlocks, hrt, hnf, hnl, hz1, hz2⟩ := X
  obtain ⟨c1, c2, c3, c4, c5⟩ := hC
  obtain ⟨ha, hk2⟩ := chk_in hc
  obtain ⟨q, hq, hq2⟩ := Option.map_eq_some_iff.mp hcN
  obtain ⟨h6, h7⟩ := vw_nfl hq
  obtain ⟨i, hi⟩ := va_pl_get (X := []) (f := ce G Y S) ha
  rw [ce_obj h6 hk2] at hi
  have hrecv := va_recv hKK.1 hP.1 hq hi
  rw [hq2] at hrecv
  have hG : GoodIn TBL (wsV own index y.cls y (.code y b n ret :: TBL)) := by
    intro w hw
    have hm : w ∈ TBL := by
      simp only [wsV, List.cons_append, List.nil_append, List.mem_cons] at hw
      rcases hw with rfl | rfl | rfl | rfl | rfl | hw
      · exact c1
      · exact c4
      · exact c5
      · exact c3
      · exact c2
      · exact hw
    exact tbl_good w hm
  refine rw_after (va_runV (As := As) (rest := rest) hfix hM (cwV As.length hfix.2.2.2.2 hG rfl rfl rfl ⟨rfl, hy.1, hy.2.1, hy.2.2⟩ ⟨Nat.le_trans hroom.1 hnf, Nat.le_trans hroom.2 hnl⟩) ⟨preW_blind, hrecv, fun U hU hW => preW_of hX hP U hU hW⟩ rfl rfl hsz hst (lv_room hcat) hdg hA.fits) hP kk
/-- the entry of a method that makes cells -/
theorem ma_of {y : MethodName} {b : ByteArray} {n f lo mc ms : Nat} {ret : Option FieldType} {av : List Value} {rv : Option Value} (hy : plainFor y = true) (hlen : av.length ≤ n) (hc : ∀ v ∈ av, v.category = 1)
    (body : ∀ p e R s m args below meth c, Cx p R s m args meth c y.cls b n f lo (AA Y N) G ret → meth.name = y.name → ∀ H locs ls, HA R N (N.1 + mc, N.2 + ms) (AA Y N) G s Y S N H locs → LV ls n (lvx 0 av) → W p l e R s m args below meth c H locs (N.1 - N.1) (N.2 - N.2) (MQ below (QA G (AA Y N) Y1 S1 N1 rv) args s mc ms (AA Y N)) (F0 m 0 ls [])) : MA l y b n ret f lo mc ms G Y S N av Y1 S1 N1 rv := by
  refine va_MetF (cc := b) (maxL := n) (ret := ret) hy rfl ?_
  intro p e s m args below meth c s₁ B hml hv
  obtain ⟨rfl, hP, hD, hKK, hST, hz, h10⟩ := hv
  have hts := atoms_spec (ws := (.code y b n ret :: TBL)) B.pre
  have hown : s.vm.findClass y.cls = some m.cls := findClass_of_methodNamed B.named
  have hl := lv_entry av (n := n) (by rw [lg_len av hc]; exact hlen)
  rw [lg_entry_eq]
  rw [lvx_eq av 0 hc] at hl
  have := body p e (headSpec (.code y b n ret :: TBL) (RMA f lo mc ms)).room s m _ below meth c ⟨⟨B.exec, B.bytes, hml, hown, fun w hw => hts w (List.mem_cons_of_mem _ hw)⟩, hKK, hST, B.notSynchronized, B.returns, Nat.le_refl _, Nat.le_refl _, Nat.zero_le _, Nat.zero_le _⟩ ((name_of_methodNamed B.named B.method).1) s.heap [] _ ⟨⟨hP, hD, va_S.rf⟩, hz, Nat.le_refl _, Nat.le_refl _, Nat.le_add_right _ _, Nat.le_add_right _ _, by show N.1 + mc - N.1 ≤ mc; omega, by show N.2 + ms - N.2 ≤ ms; omega, Or.inl rfl, fun q hq => Or.inr hq, h10⟩ ⟨hl, lvx_cat av 0 hc⟩
  rw [Nat.sub_self, Nat.sub_self] at this
  exact this
end RB
