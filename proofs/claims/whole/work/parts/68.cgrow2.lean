/-! readTree: what a node more means for the tree's relation -/
def NS (z T : Nat) (t : TT) (i : Nat) (S : HS) : Prop := S.1 404 (nda z T i) = nI (t 0 i) ∧ S.1 406 (nda z T i) = nI (t 3 i) ∧ S.1 407 (nda z T i) = nI (t 11 i) ∧
  S.2.1 408 (nda z T i) = (if i = 0 then none else some (nda z T (i - 1))) ∧ S.2.1 409 (nda z T i) = (if i = 0 then none else some (nda z T (t 2 i))) ∧
  S.2.1 410 (nda z T i) = (if t 11 i = 0 then none else some (nda z T (i + 1))) ∧ S.2.1 411 (nda z T i) = (if t 11 i = 0 then none else some (nda z T (cN t i (t 11 i - 1)))) ∧
  S.2.1 412 (nda z T i) = (if i = 0 then none else if t 4 i < t 4 (t 2 i) then some (nda z T (t 4 i + 1)) else none) ∧ S.2.1 413 (nda z T i) = some (nda z T (t 4 i))
def NC (z T : Nat) (t : TT) (i ad : Nat) (c s w : Nat) (S : HS) : Prop := S.1 100 ad = (if t s i = 0 then 0 else 1) ∧ (t s i ≠ 0 → S.1 101 ad = nI (t c i) ∧ S.1 102 ad = sgC (t s i) ∧ S.1 103 ad = nI (t w i) ∧ S.2.1 104 ad = (scO t (t c i) i).map (nda z T))
def ND (z T : Nat) (t : TT) (i : Nat) (S : HS) : Prop := S.1 405 (nda z T i) = nI (t 1 i) ∧ NC z T t i (cla z T i) 5 6 7 S ∧ NC z T t i (ena z T i) 8 9 10 S
def LVZ (z T i : Nat) (S : HS) : Prop := (∀ f, 300 ≤ f → f ≤ 309 → f ≠ 302 → S.1 f (lfa z T i) = 0) ∧ S.2.1 302 (lfa z T i) = none
/-- outside of the tree that is read nothing changes -/
def FRG (z T a : Nat) (S S1 : HS) : Prop := S1.2.2 = S.2.2 ∧ (∀ f x, ¬ reg z T x → ¬ (f = 801 ∧ x = z + T) → ¬ (f = 502 ∧ x = a) → S1.1 f x = S.1 f x ∧ S1.2.1 f x = S.2.1 f x) ∧ (∀ x, S1.1 400 x = S.1 400 x) ∧ ∀ f x, ¬ (f = 104 ∨ f = 302 ∨ (408 ≤ f ∧ f ≤ 413)) → S1.2.1 f x = S.2.1 f x
def HOFn (z T n x : Nat) : Prop := x = nda z T n ∨ x = cla z T n ∨ x = ena z T n ∨ x = lfa z T n
/-- what growing makes, by the places -/
def GSP (z T n : Nat) (stk : List Nat) (S S3 : HS) (k d : Int32) (up bf : Option Nat) : Prop :=
  (∀ f x, ¬ HOFn z T n x → ¬ (f = 801 ∧ x = z + T) → ¬ (f = 407 ∧ ∃ p r, stk = p :: r ∧ x = nda z T p) → S3.1 f x = S.1 f x) ∧
  (∀ f x, ¬ HOFn z T n x → f ≠ 410 → f ≠ 411 → f ≠ 412 → f ≠ 413 → S3.2.1 f x = S.2.1 f x) ∧
  (∀ f x, ¬ HOFn z T n x → (f = 410 ∨ f = 411) → (∀ p r, stk = p :: r → x ≠ nda z T p) → S3.2.1 f x = S.2.1 f x) ∧
  (∀ x, ¬ HOFn z T n x → (∀ p r, stk = p :: r → S.2.1 411 (nda z T p) ≠ some x) → S3.2.1 412 x = S.2.1 412 x) ∧
  (∀ x, ¬ HOFn z T n x → (∀ s ∈ stk, x ≠ nda z T s) → S3.2.1 413 x = S.2.1 413 x) ∧
  (∀ x, HOFn z T n x → ∀ f, S3.1 f x = (RST z T n S k d up bf).1 f x ∧ S3.2.1 f x = (RST z T n S k d up bf).2.1 f x) ∧
  (∀ p r, stk = p :: r → S3.1 407 (nda z T p) = S.1 407 (nda z T p) + 1 ∧ S3.2.1 411 (nda z T p) = some (nda z T n) ∧ (S.2.1 411 (nda z T p) = none → S3.2.1 410 (nda z T p) = some (nda z T n)) ∧ (S.2.1 411 (nda z T p) ≠ none → S3.2.1 410 (nda z T p) = S.2.1 410 (nda z T p)) ∧ ∀ q, S.2.1 411 (nda z T p) = some q → S3.2.1 412 q = some (nda z T n)) ∧
  (∀ s ∈ stk, S3.2.1 413 (nda z T s) = some (nda z T n)) ∧ S3.1 801 (z + T) = nI (n + 1) ∧ S3.2.2 = S.2.2
section CG2
variable {z T n i j k c d e o o1 K key s w m x a ad p : Nat} {L : Nat → Nat} {S S1 : HS} {Y : LY} {v : Int32} {t t1 : TT} {stk r : List Nat} {R : Nat → Nat → Option Nat} {up bf cc : Option Nat}
theorem scF_congr (h : ∀ j, j < n → t1 0 j = t 0 j ∧ t1 1 j = t 1 j ∧ t1 2 j = t 2 j) (hp : ∀ j, j < n → 0 < j → t 2 j < j) : ∀ (f u : Nat), u < n → scF t1 key f u = scF t key f u
  | 0, _, _ => rfl
  | f + 1, u, hu => by
    rw [scF, scF, (h u hu).1, (h u hu).2.1, (h u hu).2.2]
    by_cases h0 : u = 0
    · rw [if_pos h0, if_pos h0]
    · rw [if_neg h0, if_neg h0, scF_congr h hp f (t 2 u) (by have := hp u hu (by omega); omega)]
theorem scO_congr (h : ∀ j, j < n → t1 0 j = t 0 j ∧ t1 1 j = t 1 j ∧ t1 2 j = t 2 j) (hp : ∀ j, j < n → 0 < j → t 2 j < j) (hi : i < n) : scO t1 key i = scO t key i := by
  unfold scO
  by_cases h0 : i = 0
  · rw [if_pos h0, if_pos h0]
  · rw [if_neg h0, if_neg h0, (h i hi).2.2, scF_congr h hp 24 (t 2 i) (by have := hp i hi (by omega); omega)]
theorem hof_no (h : i ≠ n) : ¬ HOFn z T n (nda z T i) ∧ ¬ HOFn z T n (cla z T i) ∧ ¬ HOFn z T n (ena z T i) ∧ ¬ HOFn z T n (lfa z T i) := by
  unfold HOFn nda cla ena lfa
  omega
theorem hof_reg (hn : n < 24) (h : HOFn z T n x) : reg z T x := by
  unfold HOFn nda cla ena lfa at h
  unfold reg
  omega
theorem nda_reg (hn : n < 24) : reg z T (nda z T n) := by
  unfold nda reg
  omega
theorem nda_inj (h : nda z T i = nda z T j) : i = j := by
  unfold nda at h
  omega
theorem RST_no (h : ¬ HOFn z T n x) {k d : Int32} {f : Nat} : (RST z T n S k d up bf).1 f x = S.1 f x ∧ (RST z T n S k d up bf).2.1 f x = S.2.1 f x := by
  have h1 : x ≠ nda z T n := fun q => h (Or.inl q)
  have h2 : x ≠ cla z T n := fun q => h (Or.inr (Or.inl q))
  have h3 : x ≠ ena z T n := fun q => h (Or.inr (Or.inr (Or.inl q)))
  have h4 : x ≠ lfa z T n := fun q => h (Or.inr (Or.inr (Or.inr q)))
  unfold RST
  refine ⟨?_, ?_⟩
  · show (if x = nda z T n then _ else if (x = cla z T n ∨ x = ena z T n) ∧ f = 100 then (0 : Int32) else if x = lfa z T n ∧ 300 ≤ f ∧ f ≤ 309 ∧ f ≠ 302 then 0 else S.1 f x) = _
    rw [if_neg h1, if_neg (fun q => q.1.elim h2 h3), if_neg (fun q => h4 q.1)]
  · show (if x = nda z T n then _ else if (x = cla z T n ∨ x = ena z T n) ∧ f = 104 then none else if x = lfa z T n ∧ f = 302 then none else S.2.1 f x) = _
    rw [if_neg h1, if_neg (fun q => q.1.elim h2 h3), if_neg (fun q => h4 q.1)]
theorem c_growG (hY : ExY z Y) (hTT : isT T) (hF : FixC z S) (hP : PT n t stk) (hE : EX n t stk) (hn : n < 24) (h801 : S.1 801 (z + T) = nI n) (hN : ∀ i, i < n → NS z T t i S) : ∃ S3, fX8_grow Y S (some (z + T)) (nI k) (stk.head?.map (nda z T)) = some (S3, some (nda z T n)) ∧ GSP z T n stk S S3 (nI k) (nI (stk.length + 1)) (stk.head?.map (nda z T)) (if n = 0 then none else some (nda z T (n - 1))) := by
  have hT := kd_T hTT
  have hFT := FixT hF hTT
  have hFn := hFT.2 n hn
  obtain ⟨a1, a2, a3, a4, a5, a6⟩ := id hP
  have hat : fX8_nodeAt Y S (some (z + T)) (nI n - 1) = some (if n = 0 then none else some (nda z T (n - 1))) := by
    by_cases h0 : n = 0
    · subst h0
      unfold fX8_nodeAt
      exact if_pos (by decide)
    · rw [if_neg h0, show (1 : Int32) = nI 1 from rfl, pk_sub (by omega)]
      exact d_at hY hF h801 hTT (by omega) (by omega)
  have hT0 : ¬ HOFn z T n (z + T) := by unfold HOFn nda cla ena lfa; omega
  generalize hbf : (if n = 0 then none else some (nda z T (n - 1))) = bf at hat ⊢
  have start : ∀ (up : Option Nat) (d : Int32) (res : Option (HS × Option Nat)), ((up = none ∧ d = 1) ∨ ∃ p x, p < 24 ∧ p ≠ n ∧ up = some (nda z T p) ∧ S.1 406 (nda z T p) = x ∧ d = x + 1) → (if up = none then some (((upN (RST z T n S (nI k) d up bf).1 801 (z + T) (nI (n + 1)), (RST z T n S (nI k) d up bf).2) : HS), some (nda z T n)) else (rcv Y 4 up).bind fun _ => (fX4_adopt Y (upN (RST z T n S (nI k) d up bf).1 801 (z + T) (nI (n + 1)), (RST z T n S (nI k) d up bf).2) up (some (nda z T n))).bind fun S63 => some (S63, some (nda z T n))) = res → fX8_grow Y S (some (z + T)) (nI k) up = res := by
    intro up d res hup hres
    rw [← hres]
    unfold fX8_grow
    refine bnd (dI_of hY hT.1 hT.2.1 h801) ?_
    refine ifN (nI_pos (by omega)) ?_
    refine bnd (dI_of hY hT.1 hT.2.1 h801) ?_
    refine bnd (dR_of hY hT.1 hT.2.1 hFT.1) ?_
    refine bnd (daL hY hT.2.2.1 hT.2.2.2.1) ?_
    rw [hT.2.2.2.2]
    refine ifP (nI_lt (by omega) (by omega)) ?_
    refine bnd (dR_of hY hT.1 hT.2.1 hFT.1) ?_
    refine bnd (dI_of hY hT.1 hT.2.1 h801) ?_
    refine bnd (dQ hY hT.2.2.1 hT.2.2.2.1 (by rw [hT.2.2.2.2]; omega)) ?_
    refine bnd (dI_of hY hT.1 hT.2.1 h801) ?_
    refine bnd (drcv hY hT.1 hT.2.1) ?_
    refine bnd hat ?_
    rw [hFn.1]
    refine bnd (drcv hY (kd_nd hTT hn).1 (kd_nd hTT hn).2) ?_
    refine bnd (k_reset hY hTT hn ⟨hFn.2.1, hFn.2.2.1, hFn.2.2.2.1⟩ hup) ?_
    refine bnd (dI_of hY hT.1 hT.2.1 (x := nI n) ((RST_no hT0).1.trans h801)) ?_
    rw [nI_1]
    refine bnd (dpI hY hT.1 hT.2.1) ?_
    rfl
  have hofn : ∀ {x}, HOFn z T n x → x ≠ z + T := fun h q => hT0 (q ▸ h)
  rcases hE with ⟨rfl, rfl⟩ | ⟨h0, p, r, rfl, hp⟩
  · refine ⟨_, start none 1 _ (Or.inl ⟨rfl, rfl⟩) (if_pos rfl), ?_⟩
    have hno : ∀ {f x}, ¬ HOFn z T 0 x → (RST z T 0 S (nI k) 1 none bf).1 f x = S.1 f x ∧ (RST z T 0 S (nI k) 1 none bf).2.1 f x = S.2.1 f x := fun h => RST_no h
    refine ⟨fun f x h1 h2 _ => ?_, fun f x h1 _ _ _ _ => (hno h1).2, fun f x h1 _ _ => (hno h1).2, fun x h1 _ => (hno h1).2, fun x h1 _ => (hno h1).2, fun x h1 f => ⟨?_, rfl⟩, fun p r e => (by cases e), fun s hs => absurd hs List.not_mem_nil, upN_self, rfl⟩
    · exact (upN_ne (by by_cases q : f = 801; exact Or.inr (fun q1 => h2 ⟨q, q1⟩); exact Or.inl q)).trans (hno h1).1
    · exact upN_ne (Or.inr (hofn h1))
  · have hpn := a5 p List.mem_cons_self
    have hNp := hN p hpn.1
    have hN411 := hNp.2.2.2.2.2.2.1
    have hpne : ∀ {x}, HOFn z T n x → ∀ s, s < n → x ≠ nda z T s := fun h s hs q => (hof_no (by omega)).1 (q ▸ h)
    have hlcq : ∀ q, S.2.1 411 (nda z T p) = some q → ∃ j, j < n ∧ q = nda z T j := fun q hq => by
      rw [hN411] at hq
      split at hq
      · cases hq
      · have h2 := (a6 p hpn.1).2.2.2.1.2 (t 11 p - 1) (by omega)
        have := (a6 p hpn.1).1
        exact ⟨cN t p (t 11 p - 1), by omega, (Option.some.inj hq).symm⟩
    have hdep : (nI ((p :: r).length + 1) : Int32) = nI (t 3 p) + 1 := by rw [nI_1, a4.1]; rfl
    have hno0 : ∀ {f x}, ¬ HOFn z T n x → (RST z T n S (nI k) (nI ((p :: r).length + 1)) (some (nda z T p)) bf).2.1 f x = S.2.1 f x := fun h => (RST_no h).2
    have had := k_adopt (n := n) (S := (upN (RST z T n S (nI k) (nI ((p :: r).length + 1)) (some (nda z T p)) bf).1 801 (z + T) (nI (n + 1)), (RST z T n S (nI k) (nI ((p :: r).length + 1)) (some (nda z T p)) bf).2)) hY hTT a4 a2 (fun s hs => by
      have hs1 := a5 s hs
      refine ⟨by omega, ?_⟩
      exact (hno0 (hof_no (by omega)).1).trans (hN s hs1.1).2.2.2.2.1) (lc := S.2.1 411 (nda z T p)) (hno0 (hof_no (by omega)).1) (fun q hq => by obtain ⟨j, h1, h2⟩ := hlcq q hq; exact ⟨j, by omega, h2⟩)
    refine ⟨_, start (some (nda z T p)) (nI ((p :: r).length + 1)) _ (Or.inr ⟨p, nI (t 3 p), by omega, by omega, rfl, hNp.2.1, hdep⟩) (ifN (by intro e; cases e) (bnd (drcv hY (kd_nd hTT (by omega)).1 (kd_nd hTT (by omega)).2) (bnd had rfl))), ?_⟩
    generalize hS1 : RST z T n S (nI k) (nI ((p :: r).length + 1)) (some (nda z T p)) bf = S1
    have hno : ∀ {f x}, ¬ HOFn z T n x → S1.1 f x = S.1 f x ∧ S1.2.1 f x = S.2.1 f x := fun h => by rw [← hS1]; exact RST_no h
    have hpz : nda z T p ≠ z + T := by unfold nda; omega
    have e407 : upN S1.1 801 (z + T) (nI (n + 1)) 407 (nda z T p) = S.1 407 (nda z T p) := (upN_ne (Or.inl (by decide))).trans (hno (hof_no (by omega)).1).1
    have hadp : ∀ {f x}, f ≠ 410 → f ≠ 411 → f ≠ 412 → ADP z T n p (S.2.1 411 (nda z T p)) S1.2.1 f x = S1.2.1 f x := fun h1 h2 h3 => by
      unfold ADP
      rw [upN_ne (Or.inl h2)]
      cases S.2.1 411 (nda z T p) with
      | none => exact upN_ne (Or.inl h1)
      | some q => exact upN_ne (Or.inl h3)
    have hadx : ∀ {f x}, x ≠ nda z T p → S.2.1 411 (nda z T p) ≠ some x → ADP z T n p (S.2.1 411 (nda z T p)) S1.2.1 f x = S1.2.1 f x := fun {f x} h1 h2 => by
      unfold ADP
      rw [upN_ne (Or.inr h1)]
      cases e : S.2.1 411 (nda z T p) with
      | none => exact upN_ne (Or.inr h1)
      | some q =>
        rw [e] at h2
        exact upN_ne (Or.inr (fun q1 => h2 (by rw [q1])))
    have hlcn : ∀ {x}, HOFn z T n x → S.2.1 411 (nda z T p) ≠ some x := fun h q => by
      obtain ⟨j, h1, h2⟩ := hlcq _ q
      exact hpne h j h1 h2
    refine ⟨fun f x h1 h2 h3 => ?_, fun f x h1 g1 g2 g3 g4 => ?_, fun f x h1 g1 g2 => ?_, fun x h1 g1 => ?_, fun x h1 g1 => ?_, fun x h1 f => ⟨?_, ?_⟩, fun p1 r1 e => ?_, fun s hs => LB_in _ _ hs, ?_, ?_⟩
    · show upN (upN S1.1 801 (z + T) (nI (n + 1))) 407 (nda z T p) _ f x = _
      rw [upN_ne (by by_cases q : f = 407; exact Or.inr (fun q1 => h3 ⟨q, p, r, rfl, q1⟩); exact Or.inl q), upN_ne (by by_cases q : f = 801; exact Or.inr (fun q1 => h2 ⟨q, q1⟩); exact Or.inl q)]
      exact (hno h1).1
    · show LB z T (some (nda z T n)) (p :: r) (ADP z T n p (S.2.1 411 (nda z T p)) S1.2.1) f x = _
      rw [LB_ne g4, hadp g1 g2 g3]
      exact (hno h1).2
    · show LB z T (some (nda z T n)) (p :: r) (ADP z T n p (S.2.1 411 (nda z T p)) S1.2.1) f x = _
      have gx := g2 p r rfl
      rw [LB_ne (by omega)]
      unfold ADP
      rw [upN_ne (Or.inr gx)]
      cases S.2.1 411 (nda z T p) with
      | none => exact (upN_ne (Or.inr gx)).trans (hno h1).2
      | some q => exact (upN_ne (Or.inl (by omega))).trans (hno h1).2
    · show LB z T (some (nda z T n)) (p :: r) (ADP z T n p (S.2.1 411 (nda z T p)) S1.2.1) 412 x = _
      have gx := g1 p r rfl
      rw [LB_ne (by decide)]
      unfold ADP
      rw [upN_ne (Or.inl (by decide))]
      cases e : S.2.1 411 (nda z T p) with
      | none => exact (upN_ne (Or.inl (by decide))).trans (hno h1).2
      | some q =>
        rw [e] at gx
        exact (upN_ne (Or.inr (fun q1 => gx (by rw [q1])))).trans (hno h1).2
    · show LB z T (some (nda z T n)) (p :: r) (ADP z T n p (S.2.1 411 (nda z T p)) S1.2.1) 413 x = _
      rw [LB_out _ _ g1, hadp (by decide) (by decide) (by decide)]
      exact (hno h1).2
    · show upN (upN S1.1 801 (z + T) (nI (n + 1))) 407 (nda z T p) _ f x = _
      rw [upN_ne (Or.inr (hpne h1 p hpn.1)), upN_ne (Or.inr (hofn h1)), ← hS1]
      rfl
    · show LB z T (some (nda z T n)) (p :: r) (ADP z T n p (S.2.1 411 (nda z T p)) S1.2.1) f x = _
      rw [LB_out _ _ (fun s hs => hpne h1 s (a5 s hs).1), hadx (hpne h1 p hpn.1) (hlcn h1), ← hS1]
      rfl
    · cases e
      refine ⟨?_, ?_, fun q => ?_, fun q => ?_, fun q hq => ?_⟩
      · show upN (upN S1.1 801 (z + T) (nI (n + 1))) 407 (nda z T p) _ 407 (nda z T p) = _
        rw [upN_self]
        exact congrArg (· + 1) e407
      · show LB z T (some (nda z T n)) (p :: r) (ADP z T n p (S.2.1 411 (nda z T p)) S1.2.1) 411 (nda z T p) = _
        rw [LB_ne (by decide)]
        exact upN_self
      · show LB z T (some (nda z T n)) (p :: r) (ADP z T n p (S.2.1 411 (nda z T p)) S1.2.1) 410 (nda z T p) = _
        rw [LB_ne (by decide), q]
        unfold ADP
        rw [upN_ne (Or.inl (by decide))]
        exact upN_self
      · show LB z T (some (nda z T n)) (p :: r) (ADP z T n p (S.2.1 411 (nda z T p)) S1.2.1) 410 (nda z T p) = _
        rw [LB_ne (by decide)]
        unfold ADP
        rw [upN_ne (Or.inl (by decide))]
        cases e : S.2.1 411 (nda z T p) with
        | none => exact absurd e q
        | some q1 => exact (upN_ne (Or.inl (by decide))).trans (hno (hof_no (by omega)).1).2
      · show LB z T (some (nda z T n)) (p :: r) (ADP z T n p (S.2.1 411 (nda z T p)) S1.2.1) 412 q = _
        rw [LB_ne (by decide), hq]
        unfold ADP
        rw [upN_ne (Or.inl (by decide))]
        exact upN_self
    · exact (show _ = upN S1.1 801 (z + T) (nI (n + 1)) 801 (z + T) from rfl).trans upN_self
    · show S1.2.2 = S.2.2
      rw [← hS1]
      rfl
end CG2
