/-! the constructors: what they make, by the places -/
/-- the layout grows behind β by cells of these kinds and lengths -/
def GRO (β : Nat) (L : List (Nat × Nat)) (Y Y1 : LY) : Prop := Y1.1 = Y.1 ++ List.range' β L.length ∧ (∀ o c n, L[o]? = some (c, n) → Y1.2.1 (β + o) = c ∧ (13 ≤ c → Y1.2.2 (β + o) = n)) ∧ ∀ q, q < β → Y1.2.1 q = Y.2.1 q ∧ Y1.2.2 q = Y.2.2 q
/-- what an address holds -/
def cel (S : HS) (q : Nat) : (Nat → Int32) × (Nat → Option Nat) × (Nat → Int32) × (Nat → Option Nat) := ((fun f => S.1 f q), (fun f => S.2.1 f q), S.2.2.1 q, S.2.2.2 q)
section GROS
variable {β x n c d j k m f a q : Nat} {S S1 S2 : HS} {Y Y1 Y2 : LY} {L L1 L2 : List (Nat × Nat)} {cp N : Nat × Nat} {v : Int32} {w : Option Nat}
theorem gro_nil : GRO β [] Y Y := ⟨(List.append_nil _).symm, fun o c n h => (by cases h), fun _ _ => ⟨rfl, rfl⟩⟩
theorem gro_app (h1 : GRO β L1 Y Y1) (h2 : GRO (β + L1.length) L2 Y1 Y2) : GRO β (L1 ++ L2) Y Y2 := by
  refine ⟨?_, fun o c n h => ?_, fun q hq => ?_⟩
  · rw [h2.1, h1.1, List.append_assoc, List.length_append]
    congr 1
    have := List.range'_append (s := β) (m := L1.length) (n := L2.length) (step := 1)
    rw [Nat.one_mul] at this
    exact this
  · by_cases ho : o < L1.length
    · rw [List.getElem?_append_left ho] at h
      have g := h1.2.1 o c n h
      have g2 := h2.2.2 (β + o) (by omega)
      rw [g2.1, g2.2]
      exact g
    · rw [List.getElem?_append_right (by omega)] at h
      have g := h2.2.1 (o - L1.length) c n h
      rw [show β + L1.length + (o - L1.length) = β + o by omega] at g
      exact g
  · have g := h1.2.2 q hq
    have g2 := h2.2.2 q (by omega)
    exact ⟨g2.1.trans g.1, g2.2.trans g.2⟩
theorem gro_chk (h : GRO β L Y Y1) (hq : q < β) : chk Y1 c q = chk Y c q := by
  unfold chk
  rw [(h.2.2 q hq).1, h.1]
  have e : (q ∈ Y.1 ++ List.range' β L.length) ↔ q ∈ Y.1 := by
    rw [List.mem_append, List.mem_range'_1]
    exact ⟨fun h => h.elim id (fun h => by omega), Or.inl⟩
  rw [decide_eq_decide.mpr e]
theorem gro_new (h : GRO β L Y Y1) (ho : L[k]? = some (c, n)) : chk Y1 c (β + k) = true := by
  have hk : k < L.length := (List.getElem?_eq_some_iff.mp ho).1
  unfold chk
  simp only [Bool.and_eq_true, decide_eq_true_eq, beq_iff_eq]
  refine ⟨?_, (h.2.1 k c n ho).1⟩
  rw [h.1, List.mem_append, List.mem_range'_1]
  exact Or.inr (by omega)
theorem pI_ok (h : chk Y c a = true) : pI Y c f (some a) v S = some (upN S.1 f a v, S.2) := by
  show (if chk Y c a = true then _ else none) = _
  rw [if_pos h]
theorem pR_ok (h : chk Y c a = true) : pR Y c f (some a) w S = some (S.1, upN S.2.1 f a w, S.2.2) := by
  show (if chk Y c a = true then _ else none) = _
  rw [if_pos h]
theorem gR_ok (h : chk Y c a = true) (hv : S.2.1 f a = w) : gR Y c f (some a) S = some w := by
  show (if chk Y c a = true then some (S.2.1 f a) else none) = _
  rw [if_pos h, hv]
theorem pZ_ok (h : chk Y c a = true) (hv : v = 0 ∨ v = 1) : pZ Y c f (some a) v S = some (upN S.1 f a v, S.2) := by
  unfold pZ
  rw [if_pos hv, pI_ok h]
theorem pC_ok (h : chk Y c a = true) (hv : vp_nar .char v = v) : pC Y c f (some a) v S = some (upN S.1 f a v, S.2) := by
  unfold pC
  rw [if_pos hv, pI_ok h]
theorem cel_upI (h : q ≠ a) : cel (upN S.1 f a v, S.2) q = cel S q := by
  unfold cel upN
  simp [h]
theorem cel_upR (h : q ≠ a) : cel (S.1, upN S.2.1 f a w, S.2.2) q = cel S q := by
  unfold cel upN
  simp [h]
theorem cel_I (h : cel S1 q = cel S q) (f : Nat) : S1.1 f q = S.1 f q := congrFun (congrArg (·.1) h) f
theorem cel_R (h : cel S1 q = cel S q) (f : Nat) : S1.2.1 f q = S.2.1 f q := congrFun (congrArg (·.2.1) h) f
theorem cel_A (h : cel S1 q = cel S q) : S1.2.2.1 q = S.2.2.1 q := congrArg (·.2.2.1) h
theorem cel_Q (h : cel S1 q = cel S q) : S1.2.2.2 q = S.2.2.2 q := congrArg (·.2.2.2) h
/-- a new object -/
theorem newO_ok (hc : c < 13) (h1 : β + 1 ≤ cp.1) (h2 : m + nfl c ≤ cp.2) : ∃ Y1 S1, newO cp c Y S (β, m) = some (β, Y1, S1, (β + 1, m + nfl c)) ∧ GRO β [(c, 0)] Y Y1 ∧ chk Y1 c β = true ∧ (∀ q, q ≠ β → cel S1 q = cel S q) ∧ (∀ f, S1.1 f β = 0 ∧ S1.2.1 f β = none) := by
  refine ⟨_, _, if_pos ⟨h1, h2⟩, ⟨rfl, fun o c1 n ho => ?_, fun q hq => ⟨va_up_ne _ _ (by omega), rfl⟩⟩, ?_, fun q hq => ?_, fun f => ⟨if_pos rfl, if_pos rfl⟩⟩
  · cases o with
    | zero =>
      cases ho
      exact ⟨va_up_self _ _ _, fun _ => by omega⟩
    | succ o => cases ho
  · unfold chk
    show (decide (β ∈ Y.1 ++ [β]) && (va_up Y.2.1 β c β == c)) = true
    rw [va_up_self]
    simp
  · unfold cel
    simp [hq]
theorem newA_ok {L : Int32} (hL : ¬ L < 0) (hL2 : L.toNatClampNeg ≤ 10000) (h1 : β + 1 ≤ cp.1) (h2 : m + L.toNatClampNeg ≤ cp.2) : ∃ Y1 S1, newA cp c L Y S (β, m) = some (β, Y1, S1, (β + 1, m + L.toNatClampNeg)) ∧ GRO β [(c, L.toNatClampNeg)] Y Y1 ∧ chk Y1 c β = true ∧ (∀ q, q ≠ β → cel S1 q = cel S q) ∧ S1.2.2.1 β = (fun _ => 0) ∧ S1.2.2.2 β = (fun _ => none) ∧ Y1.2.2 β = L.toNatClampNeg := by
  refine ⟨_, _, if_pos ⟨hL, hL2, h1, h2⟩, ⟨rfl, fun o c1 n ho => ?_, fun q hq => ⟨va_up_ne _ _ (by omega), va_up_ne _ _ (by omega)⟩⟩, ?_, fun q hq => ?_, va_up_self _ _ _, va_up_self _ _ _, va_up_self _ _ _⟩
  · cases o with
    | zero =>
      cases ho
      exact ⟨va_up_self _ _ _, fun _ => va_up_self _ _ _⟩
    | succ o => cases ho
  · unfold chk
    show (decide (β ∈ Y.1 ++ [β]) && (va_up Y.2.1 β c β == c)) = true
    rw [va_up_self]
    simp
  · unfold cel
    show (_, _, va_up S.2.2.1 β _ q, va_up S.2.2.2 β _ q) = _
    rw [va_up_ne _ _ hq, va_up_ne _ _ hq]
/-! the small ones -/
theorem i_clause (h : chk Y 1 a = true) : ∃ S1, fX1_init Y S (some a) = some S1 ∧ ∀ q, q ≠ a → cel S1 q = cel S q := by
  refine ⟨_, ifN (by intro e; cases e) (bnd (pZ_ok h (Or.inl rfl)) (bnd (pI_ok h) (bnd (pC_ok h (by decide)) (bnd (pI_ok h) (bnd (pR_ok h) rfl))))), fun q hq => ?_⟩
  exact (cel_upR hq).trans ((cel_upI hq).trans ((cel_upI hq).trans ((cel_upI hq).trans (cel_upI hq))))
theorem i_life (h : chk Y 3 a = true) : ∃ S1, fX3_init Y S (some a) = some S1 ∧ ∀ q, q ≠ a → cel S1 q = cel S q := by
  refine ⟨_, ifN (by intro e; cases e) (bnd (pZ_ok h (Or.inl rfl)) (bnd (pI_ok h) (bnd (pR_ok h) (bnd (pI_ok h) (bnd (pI_ok h) (bnd (pI_ok h) (bnd (pI_ok h) (bnd (pI_ok h) (bnd (pI_ok h) (bnd (pI_ok h) rfl)))))))))), fun q hq => ?_⟩
  exact (cel_upI hq).trans ((cel_upI hq).trans ((cel_upI hq).trans ((cel_upI hq).trans ((cel_upI hq).trans ((cel_upI hq).trans ((cel_upI hq).trans ((cel_upR hq).trans ((cel_upI hq).trans (cel_upI hq)))))))))
theorem i_text (h : chk Y 7 x = true) (hx : x < β) : ∃ Y1 S1, fX7_init Y S (β, m) (some x) = some (Y1, S1, (β + 1, m + 70)) ∧ GRO β [(13, 70)] Y Y1 ∧ (∀ q, q < β → q ≠ x → cel S1 q = cel S q) ∧ S1.2.1 700 x = some β ∧ S1.1 701 x = 0 := by
  obtain ⟨Y1, S1, e1, g1, c1, f1, -⟩ := newA_ok (S := S) (Y := Y) (β := β) (m := m) (c := 13) (cp := (β + 1, m + 70)) (L := 70) (by decide) (by decide) (Nat.le_refl _) (Nat.le_refl _)
  have hc : chk Y1 7 x = true := (gro_chk g1 hx).trans h
  refine ⟨Y1, _, ifN (by intro e; cases e) (bnd e1 (bnd (pR_ok hc) (bnd (pI_ok hc) rfl))), g1, fun q hq hqx => ?_, upN_self, upN_self⟩
  exact (cel_upI hqx).trans ((cel_upR hqx).trans (f1 q (by omega)))
theorem i_board (h : chk Y 0 x = true) (hx : x < β) : ∃ Y1 S1, fX0_init Y S (β, m) (some x) = some (Y1, S1, (β + 1, m + 8)) ∧ GRO β [(14, 8)] Y Y1 ∧ (∀ q, q < β → q ≠ x → cel S1 q = cel S q) ∧ S1.2.1 0 x = some β ∧ S1.2.2.1 β = (fun _ => 0) := by
  obtain ⟨Y1, S1, e1, g1, c1, f1, a1, -⟩ := newA_ok (S := S) (Y := Y) (β := β) (m := m) (c := 14) (cp := (β + 1, m + 8)) (L := 8) (by decide) (by decide) (Nat.le_refl _) (Nat.le_refl _)
  have hc : chk Y1 0 x = true := (gro_chk g1 hx).trans h
  exact ⟨Y1, _, ifN (by intro e; cases e) (bnd e1 (bnd (pR_ok hc) rfl)), g1, fun q hq hqx => (cel_upR hqx).trans (f1 q (by omega)), upN_self, a1⟩
theorem i_ledger (h : chk Y 2 x = true) (hx : x < β) : ∃ Y1 S1, fX2_init Y S (β, m) (some x) = some (Y1, S1, (β + 2, m + 60)) ∧ GRO β [(14, 30), (14, 30)] Y Y1 ∧ (∀ q, q < β → q ≠ x → cel S1 q = cel S q) ∧ S1.2.1 209 x = some β ∧ S1.2.1 210 x = some (β + 1) ∧ (∀ f, 201 ≤ f → f ≤ 208 → S1.1 f x = 0) ∧ S1.2.1 200 x = none := by
  have e0 : ∃ S0, (∀ (g : HS → Option (LY × HS × (Nat × Nat))), ((pR Y 2 200 (some x) none S).bind fun S6 => (pI Y 2 201 (some x) 0 S6).bind fun S11 => (pI Y 2 202 (some x) 0 S11).bind fun S16 => (pI Y 2 203 (some x) 0 S16).bind fun S21 => (pI Y 2 204 (some x) 0 S21).bind fun S26 => (pI Y 2 205 (some x) 0 S26).bind fun S31 => (pI Y 2 206 (some x) 0 S31).bind fun S36 => (pI Y 2 207 (some x) 0 S36).bind fun S41 => (pI Y 2 208 (some x) 0 S41).bind g) = g S0) ∧ (∀ q, q ≠ x → cel S0 q = cel S q) ∧ (∀ f, 201 ≤ f → f ≤ 208 → S0.1 f x = 0) ∧ S0.2.1 200 x = none := by
    refine ⟨_, fun g => bnd (pR_ok h) (bnd (pI_ok h) (bnd (pI_ok h) (bnd (pI_ok h) (bnd (pI_ok h) (bnd (pI_ok h) (bnd (pI_ok h) (bnd (pI_ok h) (bnd (pI_ok h) rfl)))))))), fun q hq => ?_, fun f h1 h2 => ?_, upN_self⟩
    · exact (cel_upI hq).trans ((cel_upI hq).trans ((cel_upI hq).trans ((cel_upI hq).trans ((cel_upI hq).trans ((cel_upI hq).trans ((cel_upI hq).trans ((cel_upI hq).trans (cel_upR hq))))))))
    · have h9 : f = 201 ∨ f = 202 ∨ f = 203 ∨ f = 204 ∨ f = 205 ∨ f = 206 ∨ f = 207 ∨ f = 208 := by omega
      unfold upN
      rcases h9 with rfl | rfl | rfl | rfl | rfl | rfl | rfl | rfl <;> simp
  obtain ⟨S0, e0, f0, z0, n0⟩ := e0
  obtain ⟨Y1, S1, e1, g1, c1, f1, -⟩ := newA_ok (S := S0) (Y := Y) (β := β) (m := m) (c := 14) (cp := (β + 2, m + 60)) (L := 30) (by decide) (by decide) (by show β + 1 ≤ β + 2; omega) (by show m + 30 ≤ m + 60; omega)
  have hc1 : chk Y1 2 x = true := (gro_chk g1 hx).trans h
  obtain ⟨Y2, S2, e2, g2, c2, f2, -⟩ := newA_ok (S := (S1.1, upN S1.2.1 209 x (some β), S1.2.2)) (Y := Y1) (β := β + 1) (m := m + 30) (c := 14) (cp := (β + 2, m + 60)) (L := 30) (by decide) (by decide) (by show β + 1 + 1 ≤ β + 2; omega) (by show m + 30 + 30 ≤ m + 60; omega)
  have hc2 : chk Y2 2 x = true := (gro_chk g2 (by omega)).trans hc1
  have fx1 := f1 x (by omega)
  have fx2 := f2 x (by omega)
  refine ⟨Y2, (S2.1, upN S2.2.1 210 x (some (β + 1)), S2.2.2), ifN (by intro e; cases e) ((e0 _).trans (bnd e1 (bnd (pR_ok hc1) (bnd e2 (bnd (pR_ok hc2) rfl))))), gro_app g1 g2, fun q hq hqx => ?_, ?_, upN_self, fun f h1 h2 => ?_, ?_⟩
  · exact (cel_upR hqx).trans ((f2 q (by omega)).trans ((cel_upR hqx).trans ((f1 q (by omega)).trans (f0 q hqx))))
  · exact (cel_R fx2 209).trans upN_self
  · exact (cel_I fx2 f).trans ((cel_I fx1 f).trans (z0 f h1 h2))
  · exact (cel_R fx2 200).trans ((cel_R fx1 200).trans n0)
theorem i_walker (h : chk Y 9 x = true) (hx : x < β) : ∃ Y1 S1, fX9_init Y S (β, m) (some x) = some (Y1, S1, (β + 5, m + 80)) ∧ GRO β [(0, 0), (14, 8), (2, 0), (14, 30), (14, 30)] Y Y1 ∧ (∀ q, q < β → q ≠ x → cel S1 q = cel S q) ∧ S1.2.1 900 x = some β ∧ S1.2.1 901 x = some (β + 2) ∧ S1.2.1 0 β = some (β + 1) ∧ S1.2.2.1 (β + 1) = (fun _ => 0) ∧ S1.2.1 209 (β + 2) = some (β + 3) ∧ S1.2.1 210 (β + 2) = some (β + 4) ∧ (∀ f, 201 ≤ f → f ≤ 208 → S1.1 f (β + 2) = 0) ∧ S1.2.1 200 (β + 2) = none := by
  obtain ⟨Y1, S1, e1, g1, c1, f1, -⟩ := newO_ok (S := S) (Y := Y) (β := β) (m := m) (c := 0) (cp := (β + 5, m + 80)) (by omega) (by show β + 1 ≤ β + 5; omega) (by show m + 1 ≤ m + 80; omega)
  obtain ⟨Y2, S2, e2, g2, f2, r2, a2⟩ := i_board (S := S1) (Y := Y1) (x := β) (β := β + 1) (m := m + 1) c1 (by omega)
  have hc2 : chk Y2 9 x = true := (gro_chk g2 (by omega)).trans ((gro_chk g1 hx).trans h)
  obtain ⟨Y3, S3, e3, g3, c3, f3, -⟩ := newO_ok (S := (S2.1, upN S2.2.1 900 x (some β), S2.2.2)) (Y := Y2) (β := β + 2) (m := m + 9) (c := 2) (cp := (β + 5, m + 80)) (by omega) (by show β + 2 + 1 ≤ β + 5; omega) (by show m + 9 + 11 ≤ m + 80; omega)
  obtain ⟨Y4, S4, e4, g4, f4, r4, r5, z4, n4⟩ := i_ledger (S := S3) (Y := Y3) (x := β + 2) (β := β + 3) (m := m + 20) c3 (by omega)
  have hc4 : chk Y4 9 x = true := (gro_chk g4 (by omega)).trans ((gro_chk g3 (by omega)).trans hc2)
  have fx3 := f3 x (by omega)
  have fx4 := f4 x (by omega) (by omega)
  have k4 : ∀ q, q ≠ x → cel (S4.1, upN S4.2.1 901 x (some (β + 2)), S4.2.2) q = cel S4 q := fun q hq => cel_upR hq
  refine ⟨Y4, (S4.1, upN S4.2.1 901 x (some (β + 2)), S4.2.2), ifN (by intro e; cases e) (bnd e1 (bnd e2 (ifN (fun y => y ⟨rfl, by show β + 1 + 1 ≤ β + 5; omega, by show m + 1 + 8 ≤ m + 80; omega⟩) (bnd (pR_ok hc2) (bnd e3 (bnd e4 (ifN (fun y => y ⟨rfl, by show β + 3 + 2 ≤ β + 5; omega, by show m + 20 + 60 ≤ m + 80; omega⟩) (bnd (pR_ok hc4) rfl)))))))), gro_app g1 (gro_app g2 (gro_app g3 g4)), fun q hq hqx => ?_, ?_, upN_self, ?_, ?_, ?_, ?_, fun f h1 h2 => ?_, ?_⟩
  · exact (k4 q hqx).trans ((f4 q (by omega) (by omega)).trans ((f3 q (by omega)).trans ((cel_upR hqx).trans ((f2 q (by omega) (by omega)).trans (f1 q (by omega))))))
  · exact (cel_R fx4 900).trans ((cel_R fx3 900).trans upN_self)
  · exact (cel_R (k4 β (by omega)) 0).trans ((cel_R (f4 β (by omega) (by omega)) 0).trans ((cel_R (f3 β (by omega)) 0).trans ((cel_R (cel_upR (show β ≠ x by omega)) 0).trans r2)))
  · exact (cel_A (k4 (β + 1) (by omega))).trans ((cel_A (f4 (β + 1) (by omega) (by omega))).trans ((cel_A (f3 (β + 1) (by omega))).trans ((cel_A (cel_upR (show β + 1 ≠ x by omega))).trans a2)))
  · exact (cel_R (k4 (β + 2) (by omega)) 209).trans r4
  · exact (cel_R (k4 (β + 2) (by omega)) 210).trans r5
  · exact (cel_I (k4 (β + 2) (by omega)) f).trans (z4 f h1 h2)
  · exact (cel_R (k4 (β + 2) (by omega)) 200).trans n4
/-- a node -/
theorem i_node (h : chk Y 4 x = true) (hx : x < β) : ∃ Y1 S1, fX4_init Y S (β, m) (some x) v = some (Y1, S1, (β + 3, m + 20)) ∧ GRO β [(1, 0), (1, 0), (3, 0)] Y Y1 ∧ (∀ q, q < β → q ≠ x → cel S1 q = cel S q) ∧ S1.2.1 401 x = some β ∧ S1.2.1 402 x = some (β + 1) ∧ S1.2.1 403 x = some (β + 2) ∧ S1.1 400 x = v := by
  obtain ⟨Y1, S1, e1, g1, c1, f1, -⟩ := newO_ok (S := S) (Y := Y) (β := β) (m := m) (c := 1) (cp := (β + 3, m + 20)) (by omega) (by show β + 1 ≤ β + 3; omega) (by show m + 5 ≤ m + 20; omega)
  obtain ⟨S2, e2, f2⟩ := i_clause (S := S1) c1
  have hc1 : chk Y1 4 x = true := (gro_chk g1 hx).trans h
  obtain ⟨Y3, S3, e3, g3, c3, f3, -⟩ := newO_ok (S := (S2.1, upN S2.2.1 401 x (some β), S2.2.2)) (Y := Y1) (β := β + 1) (m := m + 5) (c := 1) (cp := (β + 3, m + 20)) (by omega) (by show β + 1 + 1 ≤ β + 3; omega) (by show m + 5 + 5 ≤ m + 20; omega)
  obtain ⟨S4, e4, f4⟩ := i_clause (S := S3) c3
  have hc3 : chk Y3 4 x = true := (gro_chk g3 (by omega)).trans hc1
  obtain ⟨Y5, S5, e5, g5, c5, f5, -⟩ := newO_ok (S := (S4.1, upN S4.2.1 402 x (some (β + 1)), S4.2.2)) (Y := Y3) (β := β + 2) (m := m + 10) (c := 3) (cp := (β + 3, m + 20)) (by omega) (by show β + 2 + 1 ≤ β + 3; omega) (by show m + 10 + 10 ≤ m + 20; omega)
  obtain ⟨S6, e6, f6⟩ := i_life (S := S5) c5
  have hc : chk Y5 4 x = true := (gro_chk g5 (by omega)).trans hc3
  have p401 : S6.2.1 401 x = some β := (cel_R (f6 x (by omega)) 401).trans ((cel_R (f5 x (by omega)) 401).trans ((show _ = S4.2.1 401 x from rfl).trans ((cel_R (f4 x (by omega)) 401).trans ((cel_R (f3 x (by omega)) 401).trans upN_self))))
  have p402 : S6.2.1 402 x = some (β + 1) := (cel_R (f6 x (by omega)) 402).trans ((cel_R (f5 x (by omega)) 402).trans upN_self)
  have frame : ∀ q, q < β → q ≠ x → cel S6 q = cel S q := fun q hq hqx => (f6 q (by omega)).trans ((f5 q (by omega)).trans ((cel_upR hqx).trans ((f4 q (by omega)).trans ((f3 q (by omega)).trans ((cel_upR hqx).trans ((f2 q (by omega)).trans (f1 q (by omega))))))))
  refine ⟨Y5, _, ifN (by intro e; cases e) (bnd e1 (bnd e2 (bnd (pR_ok hc1) (bnd e3 (bnd e4 (bnd (pR_ok hc3) (bnd e5 (bnd e6 (bnd (pR_ok hc) (bnd (pI_ok hc) (bnd (pI_ok hc) (bnd (pI_ok hc) (bnd (pI_ok hc) (bnd (pR_ok hc) (bnd (pR_ok hc) (bnd (pR_ok hc) (bnd (pR_ok hc) (bnd (pR_ok hc) (bnd (pR_ok hc) (bnd (pI_ok hc) rfl)))))))))))))))))))), gro_app g1 (gro_app g3 g5), fun q hq hqx => ?_, ?_, ?_, ?_, upN_self⟩
  · exact (cel_upI hqx).trans ((cel_upR hqx).trans ((cel_upR hqx).trans ((cel_upR hqx).trans ((cel_upR hqx).trans ((cel_upR hqx).trans ((cel_upR hqx).trans ((cel_upI hqx).trans ((cel_upI hqx).trans ((cel_upI hqx).trans ((cel_upI hqx).trans ((cel_upR hqx).trans (frame q hq hqx))))))))))))
  · exact (show _ = S6.2.1 401 x from rfl).trans p401
  · exact (show _ = S6.2.1 402 x from rfl).trans p402
  · exact (show _ = upN S6.2.1 403 x (some (β + 2)) 403 x from rfl).trans upN_self
end GROS
