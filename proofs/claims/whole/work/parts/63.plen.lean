/-! how long the text is that a tree is written as, while it is read -/
def LE (n : Nat) (t : TT) (stk : List Nat) (o : Nat) : Prop := n = 0 ∨ (0 < n ∧ ∃ w, (txtL t (n - 1)).length + (headL t (n - 1)).length + w ≤ o ∧ ∀ t1 : TT, (∀ i, i < n → t1 0 i = t 0 i ∧ t1 2 i = t 2 i ∧ (i ∉ stk → t1 4 i = t 4 i)) → (∀ p r, stk = p :: r → t1 4 p = n) → (behL t1 (n - 1)).length ≤ w)
def LM (n : Nat) (t : TT) (e o : Nat) : Prop := 0 < n ∧ t 0 (n - 1) < 4 ∧ ∃ k, ∃ l : List Nat, k + t 3 e = t 3 (n - 1) ∧ (txtL t (n - 1)).length + (headL t (n - 1)).length + l.length ≤ o ∧ ∀ t1 : TT, (∀ i, e ≤ i → i < n → t1 0 i = t 0 i ∧ t1 2 i = t 2 i ∧ t1 4 i = t 4 i) → bhF t1 24 (n - 1) = l ++ bhF t1 (24 - k) e
/-- a node more: what stays -/
def NXN (n k : Nat) (t t1 : TT) (stk : List Nat) : Prop := (∀ c, c = 0 ∨ c = 2 ∨ c = 3 ∨ c = 4 ∨ c = 11 → t1 c = att t n k stk c) ∧ ∀ c i, i ≠ n → c ≠ 4 → c ≠ 11 → t1 c i = t c i
section PLN
variable {n i j k c p e s d o o1 : Nat} {t t1 : TT} {stk r : List Nat}
theorem headL_congr (h : ∀ c, c = 0 ∨ c = 1 ∨ (5 ≤ c ∧ c ≤ 10) → t1 c i = t c i) : headL t1 i = headL t i := by
  unfold headL
  rw [h 0 (by omega), h 1 (by omega), h 5 (by omega), h 6 (by omega), h 7 (by omega), h 8 (by omega), h 9 (by omega), h 10 (by omega)]
theorem bh_keep (hP : PT n t stk) (h : ∀ i, i < n → t1 0 i = t 0 i ∧ t1 2 i = t 2 i ∧ (t 4 i < n - 1 → t1 4 i = t 4 i) ∧ (n - 1 ≤ t 4 i → n - 1 ≤ t1 4 i)) : ∀ (f e : Nat), e < n → t 4 e < n - 1 → bhF t1 f e = bhF t f e
  | 0, _, _, _ => rfl
  | f + 1, e, he, h4 => by
    have h0 : e ≠ 0 := by
      rintro rfl
      have := (hP.2.2.1 he).2
      omega
    have hu := (hP.2.2.2.2.2 e he).2.2.2.2.2.2.1 (by omega)
    have hun : t 2 e < n := by omega
    have g1 := h e he
    have g2 := h (t 2 e) hun
    rw [bhF, bhF, if_neg h0, if_neg h0, g1.2.1, g1.2.2.1 h4, g2.1]
    by_cases h5 : t 4 (t 2 e) < n - 1
    · rw [g2.2.2.1 h5, bh_keep hP h f (t 2 e) hun h5]
    · have := g2.2.2.2 (by omega)
      rw [if_pos (by omega), if_pos (by omega)]
theorem txt_keep (hP : PT n t stk) (h : ∀ i, i < n → t1 0 i = t 0 i ∧ t1 2 i = t 2 i ∧ (t 4 i < n - 1 → t1 4 i = t 4 i) ∧ (n - 1 ≤ t 4 i → n - 1 ≤ t1 4 i)) (hd : ∀ i, i < n → headL t1 i = headL t i) : ∀ m, m < n → txtL t1 m = txtL t m
  | 0, _ => rfl
  | m + 1, hm => by
    rw [txtL, txtL, txt_keep hP h hd m (by omega), hd m (by omega)]
    have e : behL t1 m = behL t m := by
      unfold behL
      rw [(h m (by omega)).1]
      by_cases h4 : 4 ≤ t 0 m
      · rw [if_pos h4, if_pos h4]
      · rw [if_neg h4, if_neg h4]
        have := ((hP.2.2.2.2.2 m (by omega)).2.2.1 (by omega)).1
        exact bh_keep hP h 24 m (by omega) (by omega)
    rw [e]
theorem nx_len (hP : PT n t stk) (hE : EX n t stk) (hL : LE n t stk o) (hX : NXN n k t t1 stk) : (txtL t1 n).length ≤ o := by
  rcases hL with rfl | ⟨h0, w, hw, hb⟩
  · exact Nat.zero_le _
  · have h4 := hX.1 4 (by omega)
    have hs : ∀ i, i < n → t1 0 i = t 0 i ∧ t1 2 i = t 2 i ∧ (t 4 i < n - 1 → t1 4 i = t 4 i) ∧ (n - 1 ≤ t 4 i → n - 1 ≤ t1 4 i) := fun i hi => by
      refine ⟨hX.2 0 i (by omega) (by decide) (by decide), hX.2 2 i (by omega) (by decide) (by decide), fun q => ?_, fun q => ?_⟩
      · rw [h4, att_out (by omega) (fun q1 => by have := (hP.2.2.2.2.1 i q1).2.2; omega)]
      · rw [h4]
        by_cases q1 : i ∈ stk
        · rw [att_in (by omega) q1]; omega
        · rw [att_out (by omega) q1]; exact q
    have hd : ∀ i, i < n → headL t1 i = headL t i := fun i hi => headL_congr (fun c hc => hX.2 c i (by omega) (by omega) (by omega))
    have e1 := txt_keep hP hs hd (n - 1) (by omega)
    have e2 := hd (n - 1) (by omega)
    have e3 := hb t1 (fun i hi => ⟨(hs i hi).1, (hs i hi).2.1, fun q => by rw [h4, att_out (by omega) q]⟩) (fun p r e => by
      have hp : p ∈ stk := by rw [e]; exact List.mem_cons_self
      rw [h4, att_in (by have := (hP.2.2.2.2.1 p hp).1; omega) hp])
    obtain ⟨m, rfl⟩ : ∃ m, n = m + 1 := ⟨n - 1, by omega⟩
    rw [Nat.add_sub_cancel] at e1 e2 e3 hw
    rw [txtL, e1, e2, List.length_append, List.length_append]
    omega
theorem lm_leaf (hP : PT n t stk) (hE : EX n t stk) (hL : LE n t stk o) (hX : NXN n k t t1 stk) (hk : k < 4) (ho : o + (headL t1 n).length ≤ o1) : LM (n + 1) t1 n o1 := by
  have h1 := nx_len hP hE hL hX
  refine ⟨by omega, ?_, 0, [], ?_, ?_, fun t2 _ => rfl⟩
  · rw [Nat.add_sub_cancel, hX.1 0 (by omega), att_n]; exact hk
  · rw [Nat.add_sub_cancel, Nat.zero_add]
  · rw [Nat.add_sub_cancel, List.length_nil]
    omega
theorem le_inner (hP : PT n t stk) (hE : EX n t stk) (hL : LE n t stk o) (hX : NXN n k t t1 stk) (hk : 4 ≤ k) (ho : o + (headL t1 n).length ≤ o1) : LE (n + 1) t1 (n :: stk) o1 := by
  have h1 := nx_len hP hE hL hX
  refine Or.inr ⟨by omega, 0, ?_, fun t2 h2 _ => ?_⟩
  · rw [Nat.add_sub_cancel]
    omega
  · have h0 : t2 0 n = k := by rw [(h2 n (by omega)).1, hX.1 0 (by omega), att_n]; rfl
    unfold behL
    rw [Nat.add_sub_cancel, h0, if_pos hk]
    exact Nat.le_refl _
theorem lm_close (hP : PT n t (p :: r)) (he : e < n) (h0 : 0 < e) (h2 : t 2 e = p) (h4 : t 4 e = n - 1) (hL : LM n t e o) : LM n t p (o + (if 4 ≤ t 0 p ∧ t 0 p ≤ 8 then 1 else 0)) := by
  obtain ⟨a1, a2, k, l, a3, a4, a5⟩ := hL
  have hm := pt_mid hP he h0 h2
  have hu := (hP.2.2.2.2.2 e he).2.2.2.2.2.2.1 h0
  have hd := (hP.2.2.2.2.2 (n - 1) (by omega)).2.2.2.2.2.2.2
  have h4p := (hP.2.2.2.2.1 p List.mem_cons_self).2.2
  rw [h2] at hu
  refine ⟨a1, a2, k + 1, l ++ (if 4 ≤ t 0 p ∧ t 0 p ≤ 8 then [41] else []), by omega, ?_, fun t1 ht => ?_⟩
  · rw [List.length_append]
    by_cases q : 4 ≤ t 0 p ∧ t 0 p ≤ 8
    · rw [if_pos q, if_pos q]
      have : ([41] : List Nat).length = 1 := rfl
      omega
    · rw [if_neg q, if_neg q]
      have : ([] : List Nat).length = 0 := rfl
      omega
  · obtain ⟨m, hm1⟩ : ∃ m, 24 - k = m + 1 := ⟨23 - k, by omega⟩
    have ge := ht e (by omega) he
    have gp := ht p (Nat.le_refl _) (by omega)
    rw [a5 t1 (fun i h1 h3 => ht i (by omega) h3), hm1, bhF, if_neg (by omega), ge.2.1, ge.2.2, h2, gp.2.2, if_neg (by omega), gp.1, show 24 - (k + 1) = m by omega, List.append_assoc]
theorem le_comma (hP : PT n t (p :: r)) (he : e < n) (h0 : 0 < e) (h2 : t 2 e = p) (h4 : t 4 e = n - 1) (hL : LM n t e o) : LE n t (p :: r) (o + 1) := by
  obtain ⟨a1, a2, k, l, a3, a4, a5⟩ := hL
  have hm := pt_mid hP he h0 h2
  have ht := pt_top hP
  have hd := (hP.2.2.2.2.2 (n - 1) (by omega)).2.2.2.2.2.2.2
  have he3 := (hP.2.2.2.2.2 e he).2.2.2.2.2.2.1 h0
  refine Or.inr ⟨a1, l.length + 1, by omega, fun t1 h1 hp => ?_⟩
  have hns : ∀ i, e ≤ i → i ∉ p :: r := fun i hi q => by
    rcases List.mem_cons.mp q with rfl | q
    · omega
    · have := ht i q; omega
  obtain ⟨m, hm1⟩ : ∃ m, 24 - k = m + 1 := ⟨23 - k, by omega⟩
  have g1 := h1 e he
  unfold behL
  rw [(h1 (n - 1) (by omega)).1, if_neg (by omega), a5 t1 (fun i h3 h5 => ⟨(h1 i h5).1, (h1 i h5).2.1, (h1 i h5).2.2 (hns i h3)⟩), hm1, bhF, if_neg (by omega), g1.2.1, g1.2.2 (hns e (Nat.le_refl _)), h2, hp p r rfl, if_pos (by omega), List.length_append]
  exact Nat.le_refl _
theorem lm_end (hL : LM n t 0 o) : (txtL t n).length ≤ o := by
  obtain ⟨a1, a2, k, l, a3, a4, a5⟩ := hL
  obtain ⟨m, rfl⟩ : ∃ m, n = m + 1 := ⟨n - 1, by omega⟩
  rw [Nat.add_sub_cancel] at a2 a3 a4 a5
  have h := a5 t (fun _ _ _ => ⟨rfl, rfl, rfl⟩)
  have e0 : bhF t (24 - k) 0 = [] := by
    cases 24 - k with
    | zero => rfl
    | succ f => rw [bhF, if_pos rfl]
  rw [e0, List.append_nil] at h
  rw [txtL, List.length_append, List.length_append]
  unfold behL
  rw [if_neg (by omega), h]
  omega
theorem nx_pt (hP : PT n t stk) (hE : EX n t stk) (hn : n < 24) (hl : stk.length < 10) (hk : k < 15) (hX : NXN n k t t1 stk) : PT (n + 1) t1 (if 4 ≤ k then n :: stk else stk) :=
  pt_congr hX.1 (pt_att hP hE hn hl hk)
end PLN
