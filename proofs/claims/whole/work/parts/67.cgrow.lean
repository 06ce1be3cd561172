/-! readTree: a node more in the class' tree -/
def reg (z T x : Nat) : Prop := z + (T + 2) ≤ x ∧ x < z + (T + 98)
/-- what a node's reset makes -/
def RST (z T n : Nat) (S : HS) (k d : Int32) (up bf : Option Nat) : HS :=
  ((fun f x => if x = nda z T n then (if f = 404 then k else if f = 405 then 0 else if f = 406 then d else if f = 407 then 0 else S.1 f x) else if (x = cla z T n ∨ x = ena z T n) ∧ f = 100 then 0 else if x = lfa z T n ∧ 300 ≤ f ∧ f ≤ 309 ∧ f ≠ 302 then 0 else S.1 f x),
   (fun f x => if x = nda z T n then (if f = 408 then bf else if f = 409 then up else if f = 410 ∨ f = 411 ∨ f = 412 then none else if f = 413 then some (nda z T n) else S.2.1 f x) else if (x = cla z T n ∨ x = ena z T n) ∧ f = 104 then none else if x = lfa z T n ∧ f = 302 then none else S.2.1 f x), S.2.2)
def LB (z T : Nat) (c : Option Nat) : List Nat → (Nat → Nat → Option Nat) → Nat → Nat → Option Nat
  | [], R => R
  | s :: r, R => LB z T c r (upN R 413 (nda z T s) c)
section CGR
variable {z T n i j k c d e o o1 K key s w m x a ad p : Nat} {L : Nat → Nat} {S S1 : HS} {Y : LY} {v : Int32} {t : TT} {stk r : List Nat} {R : Nat → Nat → Option Nat} {up bf cc : Option Nat}
theorem k_cl1 (hY : ExY z Y) (ho : o < 269) (hk : kdC o = 1) : fX1_clear Y S (some (z + o)) = some (upN S.1 100 (z + o) 0, upN S.2.1 104 (z + o) none, S.2.2) := by
  unfold fX1_clear
  refine bnd (dpZ hY ho hk (Or.inl rfl)) ?_
  refine bnd (dpR hY ho hk) ?_
  rfl
theorem k_cl3 (hY : ExY z Y) (ho : o < 269) (hk : kdC o = 3) : fX3_clear Y S (some (z + o)) = some ((fun f x => if x = z + o ∧ 300 ≤ f ∧ f ≤ 309 ∧ f ≠ 302 then 0 else S.1 f x), upN S.2.1 302 (z + o) none, S.2.2) := by
  unfold fX3_clear
  refine bnd (dpZ hY ho hk (Or.inl rfl)) ?_
  refine bnd (dpI hY ho hk) ?_
  refine bnd (dpR hY ho hk) ?_
  refine bnd (dpI hY ho hk) ?_
  refine bnd (dpI hY ho hk) ?_
  refine bnd (dpI hY ho hk) ?_
  refine bnd (dpI hY ho hk) ?_
  refine bnd (dpI hY ho hk) ?_
  refine bnd (dpI hY ho hk) ?_
  refine bnd (dpI hY ho hk) ?_
  have e : upN (upN (upN (upN (upN (upN (upN (upN (upN S.1 300 (z + o) 0) 301 (z + o) 0) 303 (z + o) 0) 304 (z + o) 0) 305 (z + o) 0) 306 (z + o) 0) 307 (z + o) 0) 308 (z + o) 0) 309 (z + o) 0 = (fun f x => if x = z + o ∧ 300 ≤ f ∧ f ≤ 309 ∧ f ≠ 302 then 0 else S.1 f x) := by
    funext f x
    unfold upN
    by_cases hx : x = z + o
    · by_cases hf : 300 ≤ f ∧ f ≤ 309 ∧ f ≠ 302
      · rw [if_pos (c := x = z + o ∧ 300 ≤ f ∧ f ≤ 309 ∧ f ≠ 302) ⟨hx, hf⟩]
        have h9 : f = 300 ∨ f = 301 ∨ f = 303 ∨ f = 304 ∨ f = 305 ∨ f = 306 ∨ f = 307 ∨ f = 308 ∨ f = 309 := by omega
        rcases h9 with rfl | rfl | rfl | rfl | rfl | rfl | rfl | rfl | rfl <;> simp [hx]
      · rw [if_neg (c := x = z + o ∧ 300 ≤ f ∧ f ≤ 309 ∧ f ≠ 302) (fun q => hf q.2), if_neg (by omega), if_neg (by omega), if_neg (by omega), if_neg (by omega), if_neg (by omega), if_neg (by omega), if_neg (by omega), if_neg (by omega), if_neg (by omega)]
    · rw [if_neg (c := x = z + o ∧ 300 ≤ f ∧ f ≤ 309 ∧ f ≠ 302) (fun q => hx q.1)]
      simp [hx]
  show some (upN (upN (upN (upN (upN (upN (upN (upN (upN S.1 300 (z + o) 0) 301 (z + o) 0) 303 (z + o) 0) 304 (z + o) 0) 305 (z + o) 0) 306 (z + o) 0) 307 (z + o) 0) 308 (z + o) 0) 309 (z + o) 0, upN S.2.1 302 (z + o) none, S.2.2) = _
  rw [e]
theorem ad4 : cla z T n = nda z T n + 1 ∧ ena z T n = nda z T n + 2 ∧ lfa z T n = nda z T n + 3 := by
  unfold nda cla ena lfa
  omega
theorem k_reset (hY : ExY z Y) (hTT : isT T) (hn : n < 24) (hF : S.2.1 401 (nda z T n) = some (cla z T n) ∧ S.2.1 402 (nda z T n) = some (ena z T n) ∧ S.2.1 403 (nda z T n) = some (lfa z T n)) {k d : Int32} (hup : (up = none ∧ d = 1) ∨ ∃ p x, p < 24 ∧ p ≠ n ∧ up = some (nda z T p) ∧ S.1 406 (nda z T p) = x ∧ d = x + 1) : fX4_reset Y S (some (nda z T n)) k up bf = some (RST z T n S k d up bf) := by
  have hnd := kd_nd hTT hn
  have h25 : fX4_reset_25 Y (upN (upN S.1 404 (nda z T n) k) 405 (nda z T n) 0, S.2) (some (nda z T n)) up bf (some (nda z T n)) d = some (RST z T n S k d up bf) := by
    unfold fX4_reset_25
    refine bnd (dpI hY hnd.1 hnd.2) ?_
    refine bnd (dpI hY hnd.1 hnd.2) ?_
    refine bnd (dpR hY hnd.1 hnd.2) ?_
    refine bnd (dpR hY hnd.1 hnd.2) ?_
    refine bnd (dpR hY hnd.1 hnd.2) ?_
    refine bnd (dpR hY hnd.1 hnd.2) ?_
    refine bnd (dpR hY hnd.1 hnd.2) ?_
    refine bnd (dpR hY hnd.1 hnd.2) ?_
    refine bnd ((eNR hY hTT hn).trans (congrArg some hF.1)) ?_
    refine bnd (drcv hY (kd_cl hTT hn).1 (kd_cl hTT hn).2) ?_
    refine bnd (k_cl1 hY (kd_cl hTT hn).1 (kd_cl hTT hn).2) ?_
    refine bnd ((eNR hY hTT hn).trans (congrArg some hF.2.1)) ?_
    refine bnd (drcv hY (kd_en hTT hn).1 (kd_en hTT hn).2) ?_
    refine bnd (k_cl1 hY (kd_en hTT hn).1 (kd_en hTT hn).2) ?_
    refine bnd ((eNR hY hTT hn).trans (congrArg some hF.2.2)) ?_
    refine bnd (drcv hY (kd_lf hTT hn).1 (kd_lf hTT hn).2) ?_
    refine bnd (k_cl3 hY (kd_lf hTT hn).1 (kd_lf hTT hn).2) ?_
    obtain ⟨g1, g2, g3⟩ := ad4 (z := z) (T := T) (n := n)
    have q1 : z + (T + 2 + 4 * n) = nda z T n := rfl
    have q2 : z + (T + 3 + 4 * n) = cla z T n := rfl
    have q3 : z + (T + 4 + 4 * n) = ena z T n := rfl
    have q4 : z + (T + 5 + 4 * n) = lfa z T n := rfl
    rw [q1, q2, q3, q4]
    have e1 : (fun f x => if x = lfa z T n ∧ 300 ≤ f ∧ f ≤ 309 ∧ f ≠ 302 then (0 : Int32) else upN (upN (upN (upN (upN (upN S.1 404 (nda z T n) k) 405 (nda z T n) 0) 406 (nda z T n) d) 407 (nda z T n) 0) 100 (cla z T n) 0) 100 (ena z T n) 0 f x) = (RST z T n S k d up bf).1 := by
      funext f x
      unfold upN RST
      show (if x = lfa z T n ∧ 300 ≤ f ∧ f ≤ 309 ∧ f ≠ 302 then (0 : Int32) else _) = (if x = nda z T n then (if f = 404 then k else if f = 405 then 0 else if f = 406 then d else if f = 407 then 0 else S.1 f x) else if (x = cla z T n ∨ x = ena z T n) ∧ f = 100 then 0 else if x = lfa z T n ∧ 300 ≤ f ∧ f ≤ 309 ∧ f ≠ 302 then 0 else S.1 f x)
      by_cases x1 : x = nda z T n
      · rw [if_neg (by omega), if_neg (by omega), if_neg (by omega), if_pos x1]
        by_cases f1 : f = 404
        · subst f1; simp [x1]
        · by_cases f2 : f = 405
          · subst f2; simp [x1]
          · by_cases f3 : f = 406
            · subst f3; simp [x1]
            · by_cases f4 : f = 407
              · subst f4; simp [x1]
              · simp [f1, f2, f3, f4]
      · rw [if_neg (c := x = nda z T n) x1]
        by_cases x2 : (x = cla z T n ∨ x = ena z T n) ∧ f = 100
        · rw [if_neg (by omega), if_pos (c := (x = cla z T n ∨ x = ena z T n) ∧ f = 100) x2]
          rcases x2.1 with h | h
          · rw [if_neg (by omega), if_pos ⟨x2.2, h⟩]
          · rw [if_pos ⟨x2.2, h⟩]
        · rw [if_neg (c := (x = cla z T n ∨ x = ena z T n) ∧ f = 100) x2]
          by_cases x3 : x = lfa z T n ∧ 300 ≤ f ∧ f ≤ 309 ∧ f ≠ 302
          · rw [if_pos x3, if_pos x3]
          · rw [if_neg x3, if_neg x3, if_neg (fun q => x2 ⟨Or.inr q.2, q.1⟩), if_neg (fun q => x2 ⟨Or.inl q.2, q.1⟩), if_neg (fun q => x1 q.2), if_neg (fun q => x1 q.2), if_neg (fun q => x1 q.2), if_neg (fun q => x1 q.2)]
    have e2 : upN (upN (upN (upN (upN (upN (upN (upN (upN S.2.1 408 (nda z T n) bf) 409 (nda z T n) up) 410 (nda z T n) none) 411 (nda z T n) none) 412 (nda z T n) none) 413 (nda z T n) (some (nda z T n))) 104 (cla z T n) none) 104 (ena z T n) none) 302 (lfa z T n) none = (RST z T n S k d up bf).2.1 := by
      funext f x
      unfold upN RST
      show _ = (if x = nda z T n then _ else _)
      by_cases x1 : x = nda z T n
      · rw [if_neg (by omega), if_neg (by omega), if_neg (by omega), if_pos x1]
        by_cases f1 : f = 408
        · subst f1; simp [x1]
        · by_cases f2 : f = 409
          · subst f2; simp [x1]
          · by_cases f3 : f = 410
            · subst f3; simp [x1]
            · by_cases f4 : f = 411
              · subst f4; simp [x1]
              · by_cases f5 : f = 412
                · subst f5; simp [x1]
                · by_cases f6 : f = 413
                  · subst f6; simp [x1]
                  · simp [f1, f2, f3, f4, f5, f6]
      · rw [if_neg (c := x = nda z T n) x1]
        by_cases x2 : (x = cla z T n ∨ x = ena z T n) ∧ f = 104
        · rw [if_neg (by omega), if_pos (c := (x = cla z T n ∨ x = ena z T n) ∧ f = 104) x2]
          rcases x2.1 with h | h
          · rw [if_neg (by omega), if_pos ⟨x2.2, h⟩]
          · rw [if_pos ⟨x2.2, h⟩]
        · rw [if_neg (c := (x = cla z T n ∨ x = ena z T n) ∧ f = 104) x2]
          by_cases x3 : x = lfa z T n ∧ f = 302
          · rw [if_pos ⟨x3.2, x3.1⟩, if_pos x3]
          · rw [if_neg (c := f = 302 ∧ x = lfa z T n) (fun q => x3 ⟨q.2, q.1⟩), if_neg (c := x = lfa z T n ∧ f = 302) x3, if_neg (fun q => x2 ⟨Or.inr q.2, q.1⟩), if_neg (fun q => x2 ⟨Or.inl q.2, q.1⟩), if_neg (fun q => x1 q.2), if_neg (fun q => x1 q.2), if_neg (fun q => x1 q.2), if_neg (fun q => x1 q.2), if_neg (fun q => x1 q.2), if_neg (fun q => x1 q.2)]
    refine congrArg some ?_
    exact Prod.ext e1 (Prod.ext e2 rfl)
  unfold fX4_reset
  refine bnd (dpI hY hnd.1 hnd.2) ?_
  refine bnd (dpI hY hnd.1 hnd.2) ?_
  rcases hup with ⟨rfl, rfl⟩ | ⟨p, x, hp, hpn, rfl, hx, rfl⟩
  · refine ifP rfl ?_
    exact h25
  · refine ifN (by intro e; cases e) ?_
    refine bnd ((eN hY hTT hp).trans (congrArg some (show upN (upN S.1 404 (nda z T n) k) 405 (nda z T n) 0 406 (nda z T p) = x from hx))) ?_
    exact h25
/-! taken in by its parent -/
theorem LB_ne (h : c ≠ 413) : ∀ (stk : List Nat) (R : Nat → Nat → Option Nat), LB z T cc stk R c x = R c x
  | [], _ => rfl
  | s :: r, R => by rw [LB, LB_ne h r, upN_ne (Or.inl h)]
theorem LB_out : ∀ (stk : List Nat) (R : Nat → Nat → Option Nat), (∀ s ∈ stk, x ≠ nda z T s) → LB z T cc stk R c x = R c x
  | [], _, _ => rfl
  | s :: r, R, h => by rw [LB, LB_out r _ (fun s1 h1 => h s1 (List.mem_cons_of_mem _ h1)), upN_ne (Or.inr (h s List.mem_cons_self))]
theorem LB_in : ∀ (stk : List Nat) (R : Nat → Nat → Option Nat), s ∈ stk → LB z T cc stk R 413 (nda z T s) = cc
  | [], _, h => absurd h List.not_mem_nil
  | s1 :: r, R, h => by
    rw [LB]
    by_cases q : s ∈ r
    · exact LB_in r _ q
    · rcases List.mem_cons.mp h with rfl | h
      · rw [LB_out r _ (fun s2 h2 e => q (by unfold nda at e; rw [show s = s2 by omega]; exact h2)), upN_self]
      · exact absurd h q
theorem k_ad40 (hY : ExY z Y) (hTT : isT T) : ∀ (stk : List Nat) (fuel : Nat) (S : HS), CH t stk → stk.length < fuel → (∀ s ∈ stk, s < 24 ∧ S.2.1 409 (nda z T s) = (if s = 0 then none else some (nda z T (t 2 s)))) → fX4_adopt_40 Y fuel S cc (stk.head?.map (nda z T)) = some (S.1, LB z T cc stk S.2.1, S.2.2)
  | _, 0, _, _, h, _ => absurd h (Nat.not_lt_zero _)
  | [], fuel + 1, S, _, _, _ => by
    rw [fX4_adopt_40]
    exact if_pos rfl
  | s :: r, fuel + 1, S, hC, hf, hS => by
    have hs := hS s List.mem_cons_self
    rw [fX4_adopt_40]
    refine ifN (by intro e; cases e) ?_
    refine bnd (dpR hY (kd_nd hTT hs.1).1 (kd_nd hTT hs.1).2) ?_
    have e : (if s = 0 then none else some (nda z T (t 2 s))) = r.head?.map (nda z T) := by
      cases r with
      | nil => rw [if_pos (hC.2.1 rfl)]; rfl
      | cons s1 r1 =>
        have := hC.2.2.1 s1 r1 rfl
        rw [if_neg (by omega), this.2]
        rfl
    refine bnd ((eNR hY hTT hs.1).trans (congrArg some (show upN S.2.1 413 (nda z T s) cc 409 (nda z T s) = r.head?.map (nda z T) from hs.2.trans e))) ?_
    rw [List.length_cons] at hf
    have ih := k_ad40 hY hTT r fuel (S.1, upN S.2.1 413 (nda z T s) cc, S.2.2) hC.2.2.2 (by omega) (fun s1 h1 => hS s1 (List.mem_cons_of_mem _ h1))
    exact ih
/-- the parent's and the former last child's references -/
def ADP (z T n p : Nat) (lc : Option Nat) (R : Nat → Nat → Option Nat) : Nat → Nat → Option Nat := upN (match lc with | none => upN R 410 (nda z T p) (some (nda z T n)) | some q => upN R 412 q (some (nda z T n))) 411 (nda z T p) (some (nda z T n))
theorem k_adopt (hY : ExY z Y) (hTT : isT T) (hC : CH t (p :: r)) (hl : (p :: r).length ≤ 10) (hS : ∀ s ∈ p :: r, s < 24 ∧ S.2.1 409 (nda z T s) = (if s = 0 then none else some (nda z T (t 2 s)))) {lc : Option Nat} (hlc : S.2.1 411 (nda z T p) = lc) (hlq : ∀ q, lc = some q → ∃ j, j < 24 ∧ q = nda z T j) : fX4_adopt Y S (some (nda z T p)) (some (nda z T n)) = some (upN S.1 407 (nda z T p) (S.1 407 (nda z T p) + 1), LB z T (some (nda z T n)) (p :: r) (ADP z T n p lc S.2.1), S.2.2) := by
  have hp := (hS p List.mem_cons_self).1
  have h23 : ∀ (R : Nat → Nat → Option Nat), (∀ x, R 409 x = S.2.1 409 x) → fX4_adopt_23 Y (S.1, R, S.2.2) (some (nda z T p)) (some (nda z T n)) = some (upN S.1 407 (nda z T p) (S.1 407 (nda z T p) + 1), LB z T (some (nda z T n)) (p :: r) (upN R 411 (nda z T p) (some (nda z T n))), S.2.2) := by
    intro R hR
    unfold fX4_adopt_23
    refine bnd (dpR hY (kd_nd hTT hp).1 (kd_nd hTT hp).2) ?_
    refine bnd (eN hY hTT hp) ?_
    refine bnd (dpI hY (kd_nd hTT hp).1 (kd_nd hTT hp).2) ?_
    exact k_ad40 hY hTT (p :: r) FU (upN S.1 407 (nda z T p) (S.1 407 (nda z T p) + 1), upN R 411 (nda z T p) (some (nda z T n)), S.2.2) hC (by unfold FU; omega) (fun s hs => ⟨(hS s hs).1, (hR _).trans (hS s hs).2⟩)
  unfold fX4_adopt
  refine bnd ((eNR hY hTT hp).trans (congrArg some hlc)) ?_
  cases lc with
  | none =>
    refine ifP rfl ?_
    refine bnd (dpR hY (kd_nd hTT hp).1 (kd_nd hTT hp).2) ?_
    exact h23 _ (fun _ => rfl)
  | some q =>
    obtain ⟨j, hj, rfl⟩ := hlq q rfl
    refine ifN (by intro e; cases e) ?_
    refine bnd ((eNR hY hTT hp).trans (congrArg some hlc)) ?_
    refine bnd (dpR hY (kd_nd hTT hj).1 (kd_nd hTT hj).2) ?_
    exact h23 _ (fun _ => rfl)
end CGR
