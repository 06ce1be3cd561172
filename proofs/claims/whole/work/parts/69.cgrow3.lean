/-! readTree: the tree's relation behind growing -/
section CG3
variable {z T n i j k c d e o o1 K key s w m x a ad p : Nat} {L : Nat → Nat} {S S1 S3 : HS} {Y : LY} {v : Int32} {t t1 : TT} {stk r : List Nat} {R : Nat → Nat → Option Nat} {up bf cc : Option Nat}
theorem pt_jl (hP : PT n t stk) (hi : i < n) (h0 : 0 < i) (h4 : t 4 i = n - 1) (h4u : t 4 (t 2 i) = n - 1) : 0 < t 11 (t 2 i) ∧ i = cN t (t 2 i) (t 11 (t 2 i) - 1) := by
  obtain ⟨b1, b2, b3, ⟨j, hj, hje⟩, b5⟩ := (hP.2.2.2.2.2 i hi).2.2.2.2.2.2.1 h0
  have hu : t 2 i < n := by omega
  have hN := hP.2.2.2.2.2 (t 2 i) hu
  have hj1 : j + 1 = t 11 (t 2 i) := by
    rcases Nat.lt_or_ge (j + 1) (t 11 (t 2 i)) with h | h
    · have h6 := hN.2.2.2.1.2 (j + 1) h
      have h7 : cN t (t 2 i) (j + 1) = t 4 (cN t (t 2 i) j) + 1 := rfl
      rw [hje] at h7
      omega
    · omega
  refine ⟨by omega, ?_⟩
  rw [show t 11 (t 2 i) - 1 = j by omega, hje]
theorem pt_last (hP : PT n t (p :: r)) (h : 0 < t 11 p) : t 2 (cN t p (t 11 p - 1)) = p ∧ t 4 (cN t p (t 11 p - 1)) = n - 1 ∧ p < cN t p (t 11 p - 1) ∧ cN t p (t 11 p - 1) < n ∧ cN t p (t 11 p - 1) ∉ p :: r := by
  have hp := hP.2.2.2.2.1 p List.mem_cons_self
  have hN := hP.2.2.2.2.2 p hp.1
  have h2 := hN.2.2.2.1.2 (t 11 p - 1) (by omega)
  have h3 := pt_cN hP hp.1 (t 11 p - 1) (by omega)
  have h4 : cN t p (t 11 p - 1 + 1) = t 4 (cN t p (t 11 p - 1)) + 1 := rfl
  rw [show t 11 p - 1 + 1 = t 11 p by omega, hN.2.2.2.1.1] at h4
  refine ⟨h2.2.1, by omega, by omega, by omega, fun q => ?_⟩
  rcases List.mem_cons.mp q with q | q
  · omega
  · have := pt_top hP _ q
    omega
theorem g_NS (hP : PT n t stk) (hE : EX n t stk) (hn : n < 24) (hN : ∀ i, i < n → NS z T t i S) (hG : GSP z T n stk S S3 (nI k) (nI (stk.length + 1)) (stk.head?.map (nda z T)) (if n = 0 then none else some (nda z T (n - 1)))) (hX : NXN n k t t1 stk) : ∀ i, i < n + 1 → NS z T t1 i S3 := by
  obtain ⟨a1, a2, a3, a4, a5, a6⟩ := id hP
  obtain ⟨g1, g2, g3, g4, g5, g6, g7, g8, g9, g10⟩ := hG
  have e0 := hX.1 0 (by omega)
  have e2 := hX.1 2 (by omega)
  have e3 := hX.1 3 (by omega)
  have e4 := hX.1 4 (by omega)
  have e11 := hX.1 11 (by omega)
  have ec : ∀ i j, cN t1 i j = cN (att t n k stk) i j := fun i j => cN_congr e4 j
  intro i hi
  unfold NS
  rw [e0, e2, e3, e4, e11, ec]
  by_cases hin : i = n
  · subst hin
    have q0 : att t i k stk 0 i = k := att_n
    have q2 : att t i k stk 2 i = stk.headD 0 := att_n
    have q3 : att t i k stk 3 i = stk.length + 1 := att_n
    have q4 : att t i k stk 4 i = i := att_n
    have q11 : att t i k stk 11 i = 0 := att_n
    have hv := g6 (nda z T i) (Or.inl rfl)
    have hI : ∀ f, S3.1 f (nda z T i) = (if f = 404 then nI k else if f = 405 then 0 else if f = 406 then nI (stk.length + 1) else if f = 407 then 0 else S.1 f (nda z T i)) := fun f => by rw [(hv f).1]; exact if_pos rfl
    have hR : ∀ f, S3.2.1 f (nda z T i) = (if f = 408 then (if i = 0 then none else some (nda z T (i - 1))) else if f = 409 then stk.head?.map (nda z T) else if f = 410 ∨ f = 411 ∨ f = 412 then none else if f = 413 then some (nda z T i) else S.2.1 f (nda z T i)) := fun f => by rw [(hv f).2]; exact if_pos rfl
    rw [q0, q2, q3, q4, q11]
    refine ⟨hI 404, hI 406, hI 407, hR 408, ?_, hR 410, hR 411, ?_, hR 413⟩
    · refine (hR 409).trans ?_
      rcases hE with ⟨rfl, rfl⟩ | ⟨h0, p, r, rfl, -⟩
      · rfl
      · show some (nda z T p) = (if i = 0 then none else some (nda z T p))
        rw [if_neg (by omega)]
    · refine (hR 412).trans ?_
      rcases hE with ⟨rfl, rfl⟩ | ⟨h0, p, r, rfl, -⟩
      · rfl
      · have hp := a5 p List.mem_cons_self
        show none = (if i = 0 then none else if i < att t i k (p :: r) 4 p then some (nda z T (i + 1)) else none)
        rw [if_neg (by omega), att_in (by omega) List.mem_cons_self, if_neg (by omega)]
  · have hin2 : i < n := by omega
    have hNi := hN i hin2
    have hh := hof_no (z := z) (T := T) hin
    have hz : nda z T i ≠ z + T := by unfold nda; omega
    have q0 : att t n k stk 0 i = t 0 i := att_c hin (by decide) (by decide)
    have q2 : att t n k stk 2 i = t 2 i := att_c hin (by decide) (by decide)
    have q3 : att t n k stk 3 i = t 3 i := att_c hin (by decide) (by decide)
    rw [q0, q2, q3]
    have hI : ∀ f, f ≠ 407 → S3.1 f (nda z T i) = S.1 f (nda z T i) := fun f hf => g1 f _ hh.1 (fun q => hz q.2) (fun q => hf q.1)
    have hhead : stk.head? ≠ some i → ∀ p r, stk = p :: r → nda z T i ≠ nda z T p := fun h p r e q => h (by rw [e]; exact congrArg some (nda_inj q).symm)
    have h411 : ∀ p r, stk = p :: r → S.2.1 411 (nda z T p) = (if t 11 p = 0 then none else some (nda z T (cN t p (t 11 p - 1)))) := fun p r e => (hN p (a5 p (by rw [e]; exact List.mem_cons_self)).1).2.2.2.2.2.2.1
    refine ⟨(hI 404 (by decide)).trans hNi.1, (hI 406 (by decide)).trans hNi.2.1, ?_, (g2 408 _ hh.1 (by decide) (by decide) (by decide) (by decide)).trans hNi.2.2.2.1, (g2 409 _ hh.1 (by decide) (by decide) (by decide) (by decide)).trans hNi.2.2.2.2.1, ?_, ?_, ?_, ?_⟩
    · by_cases q : stk.head? = some i
      · rw [att_11h hin q]
        obtain ⟨r, rfl⟩ : ∃ r, stk = i :: r := by
          cases stk with
          | nil => cases q
          | cons p r => exact ⟨r, by rw [Option.some.inj q]⟩
        rw [(g7 i r rfl).1, hNi.2.2.1, nI_1]
      · rw [att_11 hin q, g1 407 _ hh.1 (fun y => hz y.2) (fun ⟨_, p, r, e, y⟩ => hhead q p r e y)]
        exact hNi.2.2.1
    · by_cases q : stk.head? = some i
      · rw [att_11h hin q, if_neg (by omega)]
        obtain ⟨r, rfl⟩ : ∃ r, stk = i :: r := by
          cases stk with
          | nil => cases q
          | cons p r => exact ⟨r, by rw [Option.some.inj q]⟩
        have h4 := h411 i r rfl
        by_cases hz0 : t 11 i = 0
        · rw [if_pos hz0] at h4
          rw [(g7 i r rfl).2.2.1 h4]
          have h6 := (a6 i hin2).2.2.2.1.1
          rw [hz0] at h6
          have h7 : cN t i 0 = i + 1 := rfl
          have h8 := (a5 i List.mem_cons_self).2.2
          rw [show i + 1 = n by omega]
        · rw [if_neg hz0] at h4
          rw [(g7 i r rfl).2.2.2.1 (by rw [h4]; intro y; cases y), hNi.2.2.2.2.2.1, if_neg hz0]
      · rw [att_11 hin q, g3 410 _ hh.1 (Or.inl rfl) (hhead q)]
        exact hNi.2.2.2.2.2.1
    · by_cases q : stk.head? = some i
      · rw [att_11h hin q, if_neg (by omega), Nat.add_sub_cancel]
        obtain ⟨r, rfl⟩ : ∃ r, stk = i :: r := by
          cases stk with
          | nil => cases q
          | cons p r => exact ⟨r, by rw [Option.some.inj q]⟩
        have h8 := (a5 i List.mem_cons_self).2.2
        rw [(g7 i r rfl).2.1, att_end hP hin2 (fun j hj => ?_), (a6 i hin2).2.2.2.1.1, h8, show n - 1 + 1 = n by omega]
        have := (pt_last hP (by omega)).2.2.2.2
        rw [show t 11 i - 1 = j by omega] at this
        exact this
      · rw [att_11 hin q, g3 411 _ hh.1 (Or.inr rfl) (hhead q), hNi.2.2.2.2.2.2.1]
        by_cases hz0 : t 11 i = 0
        · rw [if_pos hz0, if_pos hz0]
        · rw [if_neg hz0, if_neg hz0, att_cN hP hin2 _ (by omega)]
    · by_cases h0 : i = 0
      · subst h0
        rw [if_pos rfl, g4 _ hh.1 ?_, hNi.2.2.2.2.2.2.2.1, if_pos rfl]
        intro p r e q
        rw [h411 p r e] at q
        split at q
        · cases q
        · subst e
          have := (pt_last hP (by omega)).2.2.1
          have := nda_inj (Option.some.inj q)
          omega
      · have hu := (a6 i hin2).2.2.2.2.2.2.1 (by omega)
        have hun : t 2 i < n := by omega
        rw [if_neg h0]
        by_cases his : i ∈ stk
        · have hus := ch_up _ a4 i his (by omega)
          have h8 := (a5 i his).2.2
          have h9 := (a5 _ hus).2.2
          rw [att_in hin his, att_in (by omega) hus, if_neg (by omega), g4 _ hh.1 ?_, hNi.2.2.2.2.2.2.2.1, if_neg h0, if_neg (by omega)]
          intro p r e q
          rw [h411 p r e] at q
          split at q
          · cases q
          · subst e
            have := (pt_last hP (by omega)).2.2.2.2
            rw [nda_inj (Option.some.inj q)] at this
            exact this his
        · rw [att_out hin his]
          by_cases hus : t 2 i ∈ stk
          · have h9 := (a5 _ hus).2.2
            have h10 := (a6 i hin2).1
            rw [att_in (by omega) hus, if_pos (by omega)]
            by_cases h4 : t 4 i = n - 1
            · -- the former last child of the innermost open one
              have hjl := pt_jl hP hin2 (by omega) h4 h9
              by_cases hhd : stk.head? = some (t 2 i)
              · obtain ⟨r, rfl⟩ : ∃ r, stk = t 2 i :: r := by
                  cases stk with
                  | nil => cases hhd
                  | cons p r => exact ⟨r, by rw [Option.some.inj hhd]⟩
                have h5 := h411 (t 2 i) r rfl
                rw [if_neg (by omega), ← hjl.2] at h5
                rw [(g7 _ r rfl).2.2.2.2 _ h5, show t 4 i + 1 = n by omega]
              · obtain ⟨s1, b1, b2, b3⟩ := ch_dn _ a4 _ hus hhd
                have hs1 := a5 s1 b1
                have := pt_jl hP hs1.1 b2 hs1.2.2 (by rw [b3]; exact h9)
                rw [b3, ← hjl.2] at this
                rw [this.2] at b1
                exact absurd b1 his
            · rw [g4 _ hh.1 ?_, hNi.2.2.2.2.2.2.2.1, if_neg h0, if_pos (by omega)]
              intro p r e q
              rw [h411 p r e] at q
              split at q
              · cases q
              · subst e
                have := (pt_last hP (by omega)).2.1
                rw [nda_inj (Option.some.inj q)] at this
                exact h4 this
          · rw [att_out (by omega) hus, g4 _ hh.1 ?_, hNi.2.2.2.2.2.2.2.1, if_neg h0]
            intro p r e q
            rw [h411 p r e] at q
            split at q
            · cases q
            · subst e
              have := (pt_last hP (by omega)).1
              rw [nda_inj (Option.some.inj q)] at this
              rw [this] at hus
              exact hus List.mem_cons_self
    · by_cases his : i ∈ stk
      · rw [att_in hin his]
        exact g8 i his
      · rw [att_out hin his, g5 _ hh.1 (fun s hs q => his (by rw [nda_inj q]; exact hs))]
        exact hNi.2.2.2.2.2.2.2.2
/-- the data of the elder nodes, all lives, the new node's data -/
theorem g_ND (hP : PT n t stk) (hD : ∀ i, i < n → ND z T t i S) (hLv : ∀ i, i < n → LVZ z T i S) (hG : GSP z T n stk S S3 (nI k) (nI (stk.length + 1)) (stk.head?.map (nda z T)) (if n = 0 then none else some (nda z T (n - 1)))) (hX : NXN n k t t1 stk) : (∀ i, i < n → ND z T t1 i S3) ∧ (∀ i, i < n + 1 → LVZ z T i S3) ∧ S3.1 405 (nda z T n) = 0 ∧ S3.1 100 (cla z T n) = 0 ∧ S3.1 100 (ena z T n) = 0 := by
  obtain ⟨g1, g2, g3, g4, g5, g6, g7, g8, g9, g10⟩ := hG
  have hz : ∀ i, nda z T i ≠ z + T ∧ cla z T i ≠ z + T ∧ ena z T i ≠ z + T ∧ lfa z T i ≠ z + T := fun i => by unfold nda cla ena lfa; omega
  have hsc : ∀ key i, i < n → scO t1 key i = scO t key i := fun key i hi => scO_congr (n := n) (fun j hj => ⟨hX.2 0 j (by omega) (by decide) (by decide), hX.2 1 j (by omega) (by decide) (by decide), hX.2 2 j (by omega) (by decide) (by decide)⟩) (fun j hj h0 => ((hP.2.2.2.2.2 j hj).2.2.2.2.2.2.1 h0).1) hi
  have hv := ad4 (z := z) (T := T) (n := n)
  refine ⟨fun i hi => ?_, fun i hi => ?_, ?_, ?_, ?_⟩
  · have hh := hof_no (z := z) (T := T) (show i ≠ n by omega)
    have hDi := hD i hi
    have ecol : ∀ c, c ≠ 4 → c ≠ 11 → t1 c i = t c i := fun c h1 h2 => hX.2 c i (by omega) h1 h2
    have hc : ∀ f x, ¬ HOFn z T n x → x ≠ z + T → f ≠ 407 → S3.1 f x = S.1 f x := fun f x h1 h2 h3 => g1 f x h1 (fun q => h2 q.2) (fun q => h3 q.1)
    have hNC : ∀ ad c s w, (c ≠ 4 ∧ c ≠ 11 ∧ s ≠ 4 ∧ s ≠ 11 ∧ w ≠ 4 ∧ w ≠ 11) → ¬ HOFn z T n ad → ad ≠ z + T → NC z T t i ad c s w S → NC z T t1 i ad c s w S3 := fun ad c s w h1 h2 h3 h4 => by
      unfold NC
      rw [ecol c h1.1 h1.2.1, ecol s h1.2.2.1 h1.2.2.2.1, ecol w h1.2.2.2.2.1 h1.2.2.2.2.2, hsc _ i hi, hc 100 ad h2 h3 (by decide), hc 101 ad h2 h3 (by decide), hc 102 ad h2 h3 (by decide), hc 103 ad h2 h3 (by decide), g2 104 ad h2 (by decide) (by decide) (by decide) (by decide)]
      exact h4
    refine ⟨?_, hNC _ 5 6 7 (by decide) hh.2.1 (hz i).2.1 hDi.2.1, hNC _ 8 9 10 (by decide) hh.2.2.1 (hz i).2.2.1 hDi.2.2⟩
    rw [hc 405 _ hh.1 (hz i).1 (by decide), ecol 1 (by decide) (by decide)]
    exact hDi.1
  · by_cases hin : i = n
    · subst hin
      have hl := g6 (lfa z T i) (Or.inr (Or.inr (Or.inr rfl)))
      refine ⟨fun f h1 h2 h3 => ?_, ?_⟩
      · rw [(hl f).1]
        show (if lfa z T i = nda z T i then _ else if (lfa z T i = cla z T i ∨ lfa z T i = ena z T i) ∧ f = 100 then (0 : Int32) else if lfa z T i = lfa z T i ∧ 300 ≤ f ∧ f ≤ 309 ∧ f ≠ 302 then 0 else _) = _
        rw [if_neg (by omega), if_neg (by omega), if_pos ⟨rfl, h1, h2, h3⟩]
      · rw [(hl 302).2]
        show (if lfa z T i = nda z T i then _ else if (lfa z T i = cla z T i ∨ lfa z T i = ena z T i) ∧ 302 = 104 then none else if lfa z T i = lfa z T i ∧ 302 = 302 then none else _) = _
        rw [if_neg (by omega), if_neg (by omega), if_pos ⟨rfl, rfl⟩]
    · have hh := hof_no (z := z) (T := T) hin
      have h := hLv i (by omega)
      refine ⟨fun f h1 h2 h3 => ?_, ?_⟩
      · rw [g1 f _ hh.2.2.2 (fun q => (hz i).2.2.2 q.2) (fun q => by omega)]
        exact h.1 f h1 h2 h3
      · rw [g2 302 _ hh.2.2.2 (by decide) (by decide) (by decide) (by decide)]
        exact h.2
  · rw [((g6 (nda z T n) (Or.inl rfl)) 405).1]
    exact if_pos rfl
  · rw [((g6 (cla z T n) (Or.inr (Or.inl rfl))) 100).1]
    exact (if_neg (by omega)).trans (if_pos ⟨Or.inl rfl, rfl⟩)
  · rw [((g6 (ena z T n) (Or.inr (Or.inr (Or.inl rfl)))) 100).1]
    exact (if_neg (by omega)).trans (if_pos ⟨Or.inr rfl, rfl⟩)
theorem g_FRG (hP : PT n t stk) (hn : n < 24) (hG : GSP z T n stk S S3 (nI k) (nI (stk.length + 1)) (stk.head?.map (nda z T)) (if n = 0 then none else some (nda z T (n - 1)))) (h11 : ∀ p r, stk = p :: r → ∀ q, S.2.1 411 (nda z T p) = some q → reg z T q) : FRG z T a S S3 := by
  obtain ⟨g1, g2, g3, g4, g5, g6, g7, g8, g9, g10⟩ := hG
  have hs : ∀ s ∈ stk, s < n := fun s h => (hP.2.2.2.2.1 s h).1
  have hz : z + T ≠ nda z T n ∧ z + T ≠ cla z T n ∧ z + T ≠ ena z T n ∧ z + T ≠ lfa z T n := by unfold nda cla ena lfa; omega
  have hv := ad4 (z := z) (T := T) (n := n)
  refine ⟨g10, fun f x hx h801 _ => ?_, fun x => ?_, fun f x hf => ?_⟩
  · have hh : ¬ HOFn z T n x := fun q => hx (hof_reg hn q)
    have hp : ∀ p r, stk = p :: r → x ≠ nda z T p := fun p r e q => hx (by rw [q]; exact nda_reg (by have := hs p (by rw [e]; exact List.mem_cons_self); omega))
    refine ⟨g1 f x hh h801 (fun ⟨_, p, r, e, q⟩ => hp p r e q), ?_⟩
    by_cases f0 : f = 410 ∨ f = 411
    · exact g3 f x hh f0 hp
    · by_cases f2 : f = 412
      · subst f2
        exact g4 x hh (fun p r e q => hx (h11 p r e x q))
      · by_cases f3 : f = 413
        · subst f3
          exact g5 x hh (fun s h q => hx (by rw [q]; exact nda_reg (by have := hs s h; omega)))
        · exact g2 f x hh (by omega) (by omega) f2 f3
  · by_cases hh : HOFn z T n x
    · rw [(g6 x hh 400).1]
      show (if x = nda z T n then (if 400 = 404 then _ else if 400 = 405 then _ else if 400 = 406 then _ else if 400 = 407 then _ else S.1 400 x) else if (x = cla z T n ∨ x = ena z T n) ∧ 400 = 100 then _ else if x = lfa z T n ∧ 300 ≤ 400 ∧ 400 ≤ 309 ∧ 400 ≠ 302 then _ else S.1 400 x) = S.1 400 x
      by_cases h1 : x = nda z T n
      · rw [if_pos h1]; rfl
      · rw [if_neg h1, if_neg (by omega), if_neg (by omega)]
    · exact g1 400 x hh (fun q => absurd q.1 (by decide)) (fun q => absurd q.1 (by decide))
  · by_cases hh : HOFn z T n x
    · rw [(g6 x hh f).2]
      show (if x = nda z T n then (if f = 408 then _ else if f = 409 then _ else if f = 410 ∨ f = 411 ∨ f = 412 then _ else if f = 413 then _ else S.2.1 f x) else if (x = cla z T n ∨ x = ena z T n) ∧ f = 104 then _ else if x = lfa z T n ∧ f = 302 then _ else S.2.1 f x) = S.2.1 f x
      by_cases h1 : x = nda z T n
      · rw [if_pos h1, if_neg (by omega), if_neg (by omega), if_neg (by omega), if_neg (by omega)]
      · rw [if_neg h1, if_neg (by omega), if_neg (by omega)]
    · exact g2 f x hh (by omega) (by omega) (by omega) (by omega)
end CG3
