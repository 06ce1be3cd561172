/-! a tree that is being read: nodes 0 .. n - 1 stand, those of stk (the innermost first) are open -/
def CH (t : TT) : List Nat → Prop
  | [] => True
  | s :: r => t 3 s = r.length + 1 ∧ (r = [] → s = 0) ∧ (∀ s1 r1, r = s1 :: r1 → 0 < s ∧ t 2 s = s1) ∧ CH t r
def PT (n : Nat) (t : TT) (stk : List Nat) : Prop := n ≤ 24 ∧ stk.length ≤ 10 ∧ (0 < n → t 3 0 = 1 ∧ t 4 0 = n - 1) ∧ CH t stk ∧
  (∀ s ∈ stk, s < n ∧ 4 ≤ t 0 s ∧ t 4 s = n - 1) ∧
  ∀ i, i < n → (i ≤ t 4 i ∧ t 4 i < n) ∧ t 0 i < 15 ∧ (t 0 i < 4 → t 4 i = i ∧ t 11 i = 0) ∧
    (cN t i (t 11 i) = t 4 i + 1 ∧ ∀ j, j < t 11 i → cN t i j ≤ t 4 i ∧ t 2 (cN t i j) = i ∧ t 4 (cN t i j) ≤ t 4 i) ∧
    (i ∉ stk → 4 ≤ t 0 i → 1 ≤ t 11 i) ∧ (9 ≤ t 0 i → t 11 i ≤ 1) ∧
    (0 < i → t 2 i < i ∧ i ≤ t 4 (t 2 i) ∧ 4 ≤ t 0 (t 2 i) ∧ (∃ j, j < t 11 (t 2 i) ∧ cN t (t 2 i) j = i) ∧ t 3 i = t 3 (t 2 i) + 1) ∧ t 3 i ≤ 10
/-- a node is due -/
def EX (n : Nat) (t : TT) (stk : List Nat) : Prop := (n = 0 ∧ stk = []) ∨ (0 < n ∧ ∃ p r, stk = p :: r ∧ (t 0 p ≤ 8 ∨ t 11 p = 0))
def DT (t : TT) (i : Nat) : Prop := (t 1 i ≤ 9 ∧ t 5 i ≤ 7 ∧ t 6 i ≤ 6 ∧ t 7 i ≤ 99 ∧ t 8 i ≤ 7 ∧ t 9 i ≤ 6 ∧ t 10 i ≤ 99) ∧
  ((t 0 i = 2 ∨ t 0 i = 12) → 1 ≤ t 6 i ∧ t 6 i ≤ 3) ∧ (t 0 i = 3 → 4 ≤ t 6 i) ∧ (t 0 i < 2 → t 6 i = 0 ∨ 4 ≤ t 6 i) ∧ (3 < t 0 i → t 0 i ≠ 12 → t 6 i = 0) ∧
  (t 0 i < 2 → t 9 i = 0 ∨ 4 ≤ t 9 i) ∧ (2 ≤ t 0 i → t 9 i = 0) ∧ ((t 0 i = 10 ∨ t 0 i = 11) → 1 ≤ t 1 i) ∧ (t 0 i = 14 → t 1 i ≤ 7) ∧
  ((2 ≤ t 0 i ∧ t 0 i < 8 ∨ t 0 i = 9 ∨ t 0 i = 12) → t 1 i = 0)
def nwc (t : TT) (n k : Nat) (stk : List Nat) (c : Nat) : Nat := if c = 0 then k else if c = 2 then stk.headD 0 else if c = 3 then stk.length + 1 else if c = 4 then n else if c = 1 ∨ c = 6 ∨ c = 9 ∨ c = 11 then 0 else t c n
/-- a node of kind k is begun -/
def att (t : TT) (n k : Nat) (stk : List Nat) : TT := fun c i => if i = n then nwc t n k stk c else if c = 4 ∧ i ∈ stk then n else if c = 11 ∧ stk.head? = some i then t 11 i + 1 else t c i
section PTR
variable {n i j k c p e s d : Nat} {t t1 : TT} {stk r : List Nat}
theorem att_n : att t n k stk c n = nwc t n k stk c := if_pos rfl
theorem att_c (h : i ≠ n) (h4 : c ≠ 4) (h11 : c ≠ 11) : att t n k stk c i = t c i := by
  unfold att
  rw [if_neg h, if_neg (fun q => h4 q.1), if_neg (fun q => h11 q.1)]
theorem att_in (h : i ≠ n) (hi : i ∈ stk) : att t n k stk 4 i = n := by
  unfold att
  rw [if_neg h, if_pos ⟨rfl, hi⟩]
theorem att_out (h : i ≠ n) (hi : i ∉ stk) : att t n k stk 4 i = t 4 i := by
  unfold att
  rw [if_neg h, if_neg (fun q => hi q.2), if_neg (fun q => absurd q.1 (by decide))]
theorem att_11 (h : i ≠ n) (hi : stk.head? ≠ some i) : att t n k stk 11 i = t 11 i := by
  unfold att
  rw [if_neg h, if_neg (fun q => absurd q.1 (by decide)), if_neg (fun q => hi q.2)]
theorem att_11h (h : i ≠ n) (hi : stk.head? = some i) : att t n k stk 11 i = t 11 i + 1 := by
  unfold att
  rw [if_neg h, if_neg (fun q => absurd q.1 (by decide)), if_pos ⟨rfl, hi⟩]
/-! the open ones -/
theorem ch_up : ∀ (stk : List Nat), CH t stk → ∀ s ∈ stk, 0 < s → t 2 s ∈ stk
  | [], _, _, h, _ => absurd h List.not_mem_nil
  | [a], hC, s, h, h0 => by
    rw [List.mem_singleton] at h
    have := hC.2.1 rfl
    omega
  | a :: b :: r, hC, s, h, h0 => by
    rcases List.mem_cons.mp h with rfl | h
    · rw [(hC.2.2.1 b r rfl).2]
      exact List.mem_cons_of_mem _ List.mem_cons_self
    · exact List.mem_cons_of_mem _ (ch_up (b :: r) hC.2.2.2 s h h0)
theorem ch_dn : ∀ (stk : List Nat), CH t stk → ∀ s ∈ stk, stk.head? ≠ some s → ∃ s1 ∈ stk, 0 < s1 ∧ t 2 s1 = s
  | [], _, _, h, _ => absurd h List.not_mem_nil
  | [a], hC, s, h, h0 => by
    rw [List.mem_singleton] at h
    subst h
    exact absurd rfl h0
  | a :: b :: r, hC, s, h, h0 => by
    rcases List.mem_cons.mp h with rfl | h
    · exact absurd rfl h0
    · by_cases hb : s = b
      · subst hb
        exact ⟨a, List.mem_cons_self, hC.2.2.1 s r rfl⟩
      · obtain ⟨s1, h1, h2⟩ := ch_dn (b :: r) hC.2.2.2 s h (fun q => hb (Option.some.inj q).symm)
        exact ⟨s1, List.mem_cons_of_mem _ h1, h2⟩
theorem ch_dep : ∀ (stk : List Nat), CH t stk → ∀ s ∈ stk, 1 ≤ t 3 s ∧ t 3 s ≤ stk.length
  | [], _, _, h => absurd h List.not_mem_nil
  | a :: r, hC, s, h => by
    rcases List.mem_cons.mp h with rfl | h
    · rw [hC.1, List.length_cons]
      omega
    · have := ch_dep r hC.2.2.2 s h
      rw [List.length_cons]
      omega
theorem ch_bot : ∀ (stk : List Nat), CH t stk → stk ≠ [] → 0 ∈ stk
  | [], _, h => absurd rfl h
  | [a], hC, _ => by
    rw [hC.2.1 rfl]
    exact List.mem_cons_self
  | a :: b :: r, hC, _ => List.mem_cons_of_mem _ (ch_bot (b :: r) hC.2.2.2 (by intro h; cases h))
theorem ch_congr : ∀ (stk : List Nat), (∀ s ∈ stk, t1 3 s = t 3 s ∧ t1 2 s = t 2 s) → CH t stk → CH t1 stk
  | [], _, _ => trivial
  | a :: r, h, hC => by
    have ha := h a List.mem_cons_self
    refine ⟨by rw [ha.1]; exact hC.1, hC.2.1, fun s1 r1 e => by rw [ha.2]; exact hC.2.2.1 s1 r1 e, ch_congr r (fun s hs => h s (List.mem_cons_of_mem _ hs)) hC.2.2.2⟩
theorem cN_congr (h : t1 4 = t 4) : ∀ j, cN t1 i j = cN t i j
  | 0 => rfl
  | j + 1 => by rw [cN, cN, cN_congr h j, h]
/-- the columns that a node's head fills aren't of the shape -/
theorem pt_congr (h : ∀ c, c = 0 ∨ c = 2 ∨ c = 3 ∨ c = 4 ∨ c = 11 → t1 c = t c) (hP : PT n t stk) : PT n t1 stk := by
  have h0 := h 0 (by omega)
  have h2 := h 2 (by omega)
  have h3 := h 3 (by omega)
  have h4 := h 4 (by omega)
  have h11 := h 11 (by omega)
  obtain ⟨a1, a2, a3, a4, a5, a6⟩ := hP
  have hc : ∀ i j, cN t1 i j = cN t i j := fun i j => cN_congr h4 j
  refine ⟨a1, a2, by rw [h3, h4]; exact a3, ch_congr stk (fun s _ => ⟨by rw [h3], by rw [h2]⟩) a4, by rw [h0, h4]; exact a5, ?_⟩
  simp only [h0, h2, h3, h4, h11, hc]
  exact a6
theorem pt_cN (hP : PT n t stk) (hi : i < n) : ∀ j, j ≤ t 11 i → i + j + 1 ≤ cN t i j
  | 0, _ => Nat.le_refl _
  | j + 1, h => by
    have h1 := pt_cN hP hi j (by omega)
    have hN := hP.2.2.2.2.2 i hi
    have h2 := hN.2.2.2.1.2 j (by omega)
    have h3 := (hP.2.2.2.2.2 (cN t i j) (by omega)).1
    rw [cN]
    omega
theorem pt_lt (hP : PT n t stk) (hi : i < n) : ∀ (d j : Nat), j + d ≤ t 11 i → cN t i j + d ≤ cN t i (j + d)
  | 0, j, _ => Nat.le_refl _
  | d + 1, j, h => by
    have h1 := pt_lt hP hi d j (by omega)
    have hN := hP.2.2.2.2.2 i hi
    have h2 := hN.2.2.2.1.2 (j + d) (by omega)
    have h3 := (hP.2.2.2.2.2 (cN t i (j + d)) (by omega)).1
    rw [show j + (d + 1) = (j + d) + 1 from rfl, cN]
    omega
theorem pt_num (hP : PT n t stk) (hi : i < n) : i + t 11 i < n := by
  have h1 := pt_cN hP hi (t 11 i) (Nat.le_refl _)
  have hN := hP.2.2.2.2.2 i hi
  rw [hN.2.2.2.1.1] at h1
  omega
/-- the children's beginnings stay -/
theorem att_cN (hP : PT n t stk) (hi : i < n) : ∀ j, j < t 11 i → cN (att t n k stk) i j = cN t i j
  | 0, _ => rfl
  | j + 1, h => by
    have hN := hP.2.2.2.2.2 i hi
    have h2 := hN.2.2.2.1.2 j (by omega)
    have h3 := hN.2.2.2.1.2 (j + 1) h
    have h4 : cN t i (j + 1) = t 4 (cN t i j) + 1 := rfl
    rw [cN, cN, att_cN hP hi j (by omega), att_out (by omega) (fun q => by have := (hP.2.2.2.2.1 _ q).2.2; omega)]
theorem att_end (hP : PT n t stk) (hi : i < n) (h : ∀ j, j + 1 = t 11 i → cN t i j ∉ stk) : cN (att t n k stk) i (t 11 i) = cN t i (t 11 i) := by
  cases e : t 11 i with
  | zero => rfl
  | succ j =>
    have hN := hP.2.2.2.2.2 i hi
    have h2 := hN.2.2.2.1.2 j (by omega)
    rw [cN, cN, att_cN hP hi j (by omega), att_out (by omega) (h j e.symm)]
theorem pt_att (hP : PT n t stk) (hE : EX n t stk) (hn : n < 24) (hl : stk.length < 10) (hk : k < 15) : PT (n + 1) (att t n k stk) (if 4 ≤ k then n :: stk else stk) := by
  obtain ⟨a1, a2, a3, a4, a5, a6⟩ := id hP
  have hne : ∀ s ∈ stk, s ≠ n := fun s hs => by have := (a5 s hs).1; omega
  have hsub : ∀ {s}, s ∈ stk → s ∈ (if 4 ≤ k then n :: stk else stk) := fun h => by
    split
    · exact List.mem_cons_of_mem _ h
    · exact h
  have hCH : CH (att t n k stk) stk := ch_congr stk (fun s hs => ⟨att_c (hne s hs) (by decide) (by decide), att_c (hne s hs) (by decide) (by decide)⟩) a4
  have h4le : ∀ i, i < n → t 4 i ≤ att t n k stk 4 i ∧ att t n k stk 4 i ≤ n := fun i hi => by
    have := (a6 i hi).1
    by_cases hs : i ∈ stk
    · rw [att_in (by omega) hs]; omega
    · rw [att_out (by omega) hs]; omega
  have h11le : ∀ i, i < n → t 11 i ≤ att t n k stk 11 i := fun i hi => by
    by_cases hs : stk.head? = some i
    · rw [att_11h (by omega) hs]; omega
    · rw [att_11 (by omega) hs]; omega
  have hkid : ∀ i, i < n → ∀ j, j < t 11 i → cN t i j ∈ stk → i ∈ stk := fun i hi j hj hs => by
    have h2 := (a6 i hi).2.2.2.1.2 j hj
    have h3 := pt_cN hP hi j (by omega)
    have := ch_up stk a4 _ hs (by omega)
    rw [h2.2.1] at this
    exact this
  refine ⟨by omega, ?_, fun _ => ?_, ?_, fun s hs => ?_, fun i hi => ?_⟩
  · split
    · rw [List.length_cons]; omega
    · omega
  · rcases hE with ⟨rfl, rfl⟩ | ⟨h0, p, r, rfl, -⟩
    · exact ⟨att_n, att_n⟩
    · have hb := ch_bot _ a4 (by intro h; cases h)
      rw [att_c (by omega) (by decide) (by decide), att_in (by omega) hb]
      exact ⟨(a3 h0).1, rfl⟩
  · by_cases h4 : 4 ≤ k
    · rw [if_pos h4]
      refine ⟨att_n, fun e => ?_, fun s1 r1 e => ?_, hCH⟩
      · rcases hE with ⟨rfl, -⟩ | ⟨h0, p, r, e1, -⟩
        · rfl
        · rw [e] at e1; cases e1
      · subst e
        rcases hE with ⟨-, e1⟩ | ⟨h0, p, r, e1, -⟩
        · cases e1
        · exact ⟨h0, att_n⟩
    · rw [if_neg h4]
      exact hCH
  · have key : s ∈ stk → s < n + 1 ∧ 4 ≤ att t n k stk 0 s ∧ att t n k stk 4 s = n + 1 - 1 := fun hs => by
      have := a5 s hs
      rw [att_c (by omega) (by decide) (by decide), att_in (by omega) hs]
      exact ⟨by omega, this.2.1, rfl⟩
    split at hs
    · rename_i h4
      rcases List.mem_cons.mp hs with rfl | hs
      · exact ⟨by omega, by rw [att_n]; exact h4, att_n⟩
      · exact key hs
    · exact key hs
  · by_cases hin : i = n
    · subst hin
      have e0 : att t i k stk 0 i = k := att_n
      have e4 : att t i k stk 4 i = i := att_n
      have e11 : att t i k stk 11 i = 0 := att_n
      have e2 : att t i k stk 2 i = stk.headD 0 := att_n
      have e3 : att t i k stk 3 i = stk.length + 1 := att_n
      rw [e0, e4, e11, e2, e3]
      refine ⟨⟨by omega, by omega⟩, hk, fun _ => ⟨rfl, rfl⟩, ⟨rfl, fun j hj => absurd hj (Nat.not_lt_zero _)⟩, fun q h4 => ?_, fun _ => by omega, fun h0 => ?_, by omega⟩
      · rw [if_pos h4] at q
        exact absurd List.mem_cons_self q
      · rcases hE with ⟨h, -⟩ | ⟨h1, p, r, rfl, hp⟩
        · omega
        · have hpn := a5 p List.mem_cons_self
          have hN := a6 p hpn.1
          show p < i ∧ i ≤ att t i k (p :: r) 4 p ∧ 4 ≤ att t i k (p :: r) 0 p ∧ (∃ j, j < att t i k (p :: r) 11 p ∧ cN (att t i k (p :: r)) p j = i) ∧ (p :: r).length + 1 = att t i k (p :: r) 3 p + 1
          rw [att_in (by omega) List.mem_cons_self, att_c (c := 0) (by omega) (by decide) (by decide), att_c (c := 3) (by omega) (by decide) (by decide), att_11h (by omega) rfl]
          refine ⟨hpn.1, Nat.le_refl _, hpn.2.1, ⟨t 11 p, by omega, ?_⟩, by rw [a4.1]; rfl⟩
          rw [att_end hP hpn.1, hN.2.2.2.1.1]
          · omega
          · intro j hj q
            have h2 := hN.2.2.2.1.2 j (by omega)
            have h3 := pt_cN hP hpn.1 j (by omega)
            have h5 := (a6 (cN t p j) (by omega)).2.2.2.2.2.2.1 (by omega)
            have h6 := (ch_dep _ a4 _ q).2
            rw [h2.2.1] at h5
            have h7 := a4.1
            rw [List.length_cons] at h6
            omega
    · have hi : i < n := by omega
      have hN := a6 i hi
      have g4 := h4le i hi
      have g11 := h11le i hi
      have e0 : att t n k stk 0 i = t 0 i := att_c hin (by decide) (by decide)
      have e2 : att t n k stk 2 i = t 2 i := att_c hin (by decide) (by decide)
      have e3 : att t n k stk 3 i = t 3 i := att_c hin (by decide) (by decide)
      rw [e0, e2, e3]
      have kid : ∀ j, j < t 11 i → cN (att t n k stk) i j ≤ att t n k stk 4 i ∧ att t n k stk 2 (cN (att t n k stk) i j) = i ∧ att t n k stk 4 (cN (att t n k stk) i j) ≤ att t n k stk 4 i := fun j hj => by
        have h2 := hN.2.2.2.1.2 j hj
        rw [att_cN hP hi j hj]
        refine ⟨by omega, by rw [att_c (by omega) (by decide) (by decide)]; exact h2.2.1, ?_⟩
        by_cases hs : cN t i j ∈ stk
        · rw [att_in (by omega) hs, att_in (by omega) (hkid i hi j hj hs)]
          omega
        · rw [att_out (by omega) hs]
          omega
      refine ⟨⟨by omega, by omega⟩, hN.2.1, fun h4 => ?_, ?_, fun q h4 => ?_, fun h9 => ?_, fun h0 => ?_, hN.2.2.2.2.2.2.2⟩
      · have hs : i ∉ stk := fun q => by have := (a5 i q).2.1; omega
        rw [att_out hin hs, att_11 hin (fun q => hs (List.mem_of_head? q))]
        exact hN.2.2.1 h4
      · by_cases hh : stk.head? = some i
        · -- the one that gets a child
          obtain ⟨p, r, rfl⟩ : ∃ p r, stk = p :: r := by
            cases stk with
            | nil => cases hh
            | cons p r => exact ⟨p, r, rfl⟩
          have hp : p = i := Option.some.inj hh
          subst hp
          have h4p := (a5 p List.mem_cons_self).2.2
          have hlast : cN (att t n k (p :: r)) p (t 11 p) = n := by
            rw [att_end hP hi, hN.2.2.2.1.1]
            · omega
            · intro j hj q
              have h2 := hN.2.2.2.1.2 j (by omega)
              have h3 := pt_cN hP hi j (by omega)
              have h5 := (a6 (cN t p j) (by omega)).2.2.2.2.2.2.1 (by omega)
              have h6 := (ch_dep _ a4 _ q).2
              rw [h2.2.1] at h5
              have h7 := a4.1
              rw [List.length_cons] at h6
              omega
          have e4n : att t n k (p :: r) 4 n = n := att_n
          have e2n : att t n k (p :: r) 2 n = p := att_n
          rw [att_11h hin rfl]
          refine ⟨?_, fun j hj => ?_⟩
          · rw [cN, hlast, e4n, att_in hin List.mem_cons_self]
          · by_cases hj1 : j = t 11 p
            · subst hj1
              rw [hlast, e2n, e4n, att_in hin List.mem_cons_self]
              exact ⟨Nat.le_refl _, rfl, Nat.le_refl _⟩
            · exact kid j (by omega)
        · rw [att_11 hin hh]
          refine ⟨?_, kid⟩
          by_cases hs : i ∈ stk
          · obtain ⟨s1, q1, q2, q3⟩ := ch_dn stk a4 i hs hh
            have h5 := a5 s1 q1
            have h5i := a5 i hs
            obtain ⟨j, hj, hje⟩ := (a6 s1 h5.1).2.2.2.2.2.2.1 q2 |>.2.2.2.1
            rw [q3] at hj hje
            have hj1 : j + 1 = t 11 i := by
              rcases Nat.lt_or_ge (j + 1) (t 11 i) with h | h
              · have h6 := hN.2.2.2.1.2 (j + 1) h
                have h7 : cN t i (j + 1) = t 4 (cN t i j) + 1 := rfl
                rw [hje] at h7
                omega
              · omega
            rw [← hj1, cN, att_cN hP hi j hj, hje, att_in (by omega) q1, att_in hin hs]
          · rw [att_end hP hi, att_out hin hs]
            · exact hN.2.2.2.1.1
            · intro j hj q
              exact hs (hkid i hi j (by omega) q)
      · have := hN.2.2.2.2.1 (fun q1 => q (hsub q1)) h4
        omega
      · by_cases hh : stk.head? = some i
        · rcases hE with ⟨-, rfl⟩ | ⟨-, p, r, rfl, hp⟩
          · cases hh
          · have : p = i := Option.some.inj hh
            subst this
            rw [att_11h hin hh]
            omega
        · rw [att_11 hin hh]
          exact hN.2.2.2.2.2.1 h9
      · obtain ⟨b1, b2, b3, ⟨j, hj, hje⟩, b5⟩ := hN.2.2.2.2.2.2.1 h0
        have hu : t 2 i < n := by omega
        have u4 := h4le (t 2 i) hu
        have u11 := h11le (t 2 i) hu
        rw [att_c (c := 0) (by omega) (by decide) (by decide), att_c (c := 3) (by omega) (by decide) (by decide)]
        exact ⟨b1, by omega, b3, ⟨j, by omega, by rw [att_cN hP hu j hj]; exact hje⟩, b5⟩
theorem pt_close (hP : PT n t (p :: r)) (h : 1 ≤ t 11 p) : PT n t r := by
  obtain ⟨a1, a2, a3, a4, a5, a6⟩ := hP
  rw [List.length_cons] at a2
  refine ⟨a1, by omega, a3, a4.2.2.2, fun s hs => a5 s (List.mem_cons_of_mem _ hs), fun i hi => ?_⟩
  obtain ⟨b1, b2, b3, b4, b5, b6, b7⟩ := a6 i hi
  refine ⟨b1, b2, b3, b4, fun q h4 => ?_, b6, b7⟩
  by_cases hip : i = p
  · subst hip; exact h
  · exact b5 (fun q1 => (List.mem_cons.mp q1).elim hip q) h4
theorem pt_wf (hP : PT n t []) (hD : ∀ i, i < n → DT t i) : WF n t := by
  obtain ⟨a1, a2, a3, a4, a5, a6⟩ := id hP
  refine ⟨a1, a3, fun i hi => ?_⟩
  obtain ⟨b1, b2, b3, b4, b5, b6, b7, b8⟩ := a6 i hi
  have h1 := b5 List.not_mem_nil
  exact ⟨b1, b2, b3, fun h => ⟨h1 h, b4⟩, fun h => by have := b6 h; have := h1 (by omega); omega, b7, b8, hD i hi⟩
/-- an open node's children before the innermost open one -/
theorem pt_mid (hP : PT n t (p :: r)) (he : e < n) (h0 : 0 < e) (h2 : t 2 e = p) : 1 ≤ t 11 p ∧ p < e := by
  obtain ⟨b1, b2, b3, ⟨j, hj, hje⟩, b5⟩ := (hP.2.2.2.2.2 e he).2.2.2.2.2.2.1 h0
  rw [h2] at hj b1
  omega
theorem pt_top (hP : PT n t (p :: r)) : ∀ s ∈ r, s < p := by
  have hC := hP.2.2.2.1
  have key : ∀ (r : List Nat) (p : Nat), CH t (p :: r) → (∀ s ∈ p :: r, s < n) → ∀ s ∈ r, s < p := by
    intro r
    induction r with
    | nil => intro p _ _ s h; exact absurd h List.not_mem_nil
    | cons a r ih =>
      intro p hC hS s hs
      have h1 := hC.2.2.1 a r rfl
      have h2 := ((hP.2.2.2.2.2 p (hS p List.mem_cons_self)).2.2.2.2.2.2.1 h1.1).1
      rw [h1.2] at h2
      rcases List.mem_cons.mp hs with rfl | hs
      · exact h2
      · have := ih a hC.2.2.2 (fun s h => hS s (List.mem_cons_of_mem _ h)) s hs
        omega
  exact key r p hC (fun s h => (hP.2.2.2.2.1 s h).1)
end PTR
