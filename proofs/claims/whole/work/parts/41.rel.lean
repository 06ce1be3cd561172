/-! the mathematical tree, and what ties the two heaps together -/
/-- tree data: t c i of node i: c = 0 kind, 1 number, 2 parent, 3 depth, 4 last below, 5 6 7 clause's key, sign, number, 8 9 10 end's, 11 number of children -/
abbrev TT : Type := Nat → Nat → Nat
/-- the j-th child of i -/
def cN (t : TT) (i : Nat) : Nat → Nat
  | 0 => i + 1
  | j + 1 => t 4 (cN t i j) + 1
/-- the nearest scope of a key at or above u -/
def scF (t : TT) (key : Nat) : Nat → Nat → Option Nat
  | 0, _ => none
  | f + 1, u => if t 0 u = 14 ∧ t 1 u = key then some u else if u = 0 then none else scF t key f (t 2 u)
/-- strictly above i -/
def scO (t : TT) (key i : Nat) : Option Nat := if i = 0 then none else scF t key 24 (t 2 i)
def sgC (s : Nat) : Int32 := [0, 60, 61, 62, 58, 43, 45].getD s 0
def WF (n : Nat) (t : TT) : Prop := n ≤ 24 ∧ (0 < n → t 3 0 = 1 ∧ t 4 0 = n - 1) ∧ ∀ i, i < n →
  (i ≤ t 4 i ∧ t 4 i < n) ∧ t 0 i < 15 ∧ (t 0 i < 4 → t 4 i = i ∧ t 11 i = 0) ∧
  (4 ≤ t 0 i → 1 ≤ t 11 i ∧ cN t i (t 11 i) = t 4 i + 1 ∧ ∀ j, j < t 11 i → cN t i j ≤ t 4 i ∧ t 2 (cN t i j) = i ∧ t 4 (cN t i j) ≤ t 4 i) ∧
  (9 ≤ t 0 i → t 11 i = 1) ∧
  (0 < i → t 2 i < i ∧ i ≤ t 4 (t 2 i) ∧ 4 ≤ t 0 (t 2 i) ∧ (∃ j, j < t 11 (t 2 i) ∧ cN t (t 2 i) j = i) ∧ t 3 i = t 3 (t 2 i) + 1) ∧
  t 3 i ≤ 10 ∧ (t 1 i ≤ 9 ∧ t 5 i ≤ 7 ∧ t 6 i ≤ 6 ∧ t 7 i ≤ 99 ∧ t 8 i ≤ 7 ∧ t 9 i ≤ 6 ∧ t 10 i ≤ 99) ∧
  ((t 0 i = 2 ∨ t 0 i = 12) → 1 ≤ t 6 i ∧ t 6 i ≤ 3) ∧ (t 0 i = 3 → 4 ≤ t 6 i) ∧ (t 0 i < 2 → t 6 i = 0 ∨ 4 ≤ t 6 i) ∧ (3 < t 0 i → t 0 i ≠ 12 → t 6 i = 0) ∧
  (t 0 i < 2 → t 9 i = 0 ∨ 4 ≤ t 9 i) ∧ (2 ≤ t 0 i → t 9 i = 0) ∧ ((t 0 i = 10 ∨ t 0 i = 11) → 1 ≤ t 1 i) ∧ (t 0 i = 14 → t 1 i ≤ 7) ∧
  ((2 ≤ t 0 i ∧ t 0 i < 8 ∨ t 0 i = 9 ∨ t 0 i = 12) → t 1 i = 0)
/-- the tree in the class' pool -/
def TreeC (z T n : Nat) (t : TT) (S : HS) : Prop := ∀ i, i < n →
  S.1 404 (nda z T i) = nI (t 0 i) ∧ S.1 405 (nda z T i) = nI (t 1 i) ∧ S.1 406 (nda z T i) = nI (t 3 i) ∧ S.1 407 (nda z T i) = nI (t 11 i) ∧
  S.2.1 408 (nda z T i) = (if i = 0 then none else some (nda z T (i - 1))) ∧ S.2.1 409 (nda z T i) = (if i = 0 then none else some (nda z T (t 2 i))) ∧
  S.2.1 410 (nda z T i) = (if 4 ≤ t 0 i then some (nda z T (i + 1)) else none) ∧
  S.2.1 412 (nda z T i) = (if i = 0 then none else if t 4 i < t 4 (t 2 i) then some (nda z T (t 4 i + 1)) else none) ∧
  S.2.1 413 (nda z T i) = some (nda z T (t 4 i)) ∧
  S.1 100 (cla z T i) = (if t 6 i = 0 then 0 else 1) ∧ (t 6 i ≠ 0 → S.1 101 (cla z T i) = nI (t 5 i) ∧ S.1 102 (cla z T i) = sgC (t 6 i) ∧ S.1 103 (cla z T i) = nI (t 7 i) ∧ S.2.1 104 (cla z T i) = (scO t (t 5 i) i).map (nda z T)) ∧
  S.1 100 (ena z T i) = (if t 9 i = 0 then 0 else 1) ∧ (t 9 i ≠ 0 → S.1 101 (ena z T i) = nI (t 8 i) ∧ S.1 102 (ena z T i) = sgC (t 9 i) ∧ S.1 103 (ena z T i) = nI (t 10 i) ∧ S.2.1 104 (ena z T i) = (scO t (t 8 i) i).map (nda z T))
/-- the tree in the reference's pool -/
def TreeM (b n : Nat) (t : TT) (M : HS) : Prop := ∀ c, c < 11 → ∀ i, i < n → M.2.2.1 (b + (6 + c)) i = (if c = 2 ∧ i = 0 then -1 else nI (t c i))
/-- lives against the array v -/
def rxL (n : Nat) (lf : Nat → Nat) (I : Nat → Nat → Int32) (v : Nat → Int32) : Prop := ∀ i, i < n → I 300 (lf i) = v (11 * i) ∧ (v (11 * i) = 0 ∨ v (11 * i) = 1) ∧ I 304 (lf i) = v (11 * i + 4) ∧ ∀ j, j < 5 → I (305 + j) (lf i) = v (11 * i + 6 + j)
/-- counts -/
def rxC (lg : Nat) (I : Nat → Nat → Int32) (v : Nat → Int32) : Prop := (∀ j, j < 6 → I (201 + j) lg = v (286 + j)) ∧ I 207 lg = v 293
/-- the global values -/
def rxG (gb : Nat) (AI : Nat → Nat → Int32) (v : Nat → Int32) : Prop := ∀ k, k < 8 → AI gb k = v (264 + k)
/-- the trace: q is how many entries there have been -/
def rxT (q lg ta ra : Nat) (I : Nat → Nat → Int32) (AI : Nat → Nat → Int32) (v : Nat → Int32) : Prop := I 208 lg = nI q ∧ v 294 = nI (min q 30) ∧ ∀ j, j < min q 30 → AI ta ((q - 1 - j) % 30) = v (295 + 2 * j) ∧ AI ra ((q - 1 - j) % 30) = v (296 + 2 * j)
def bitOf (x : Int32) (j : Nat) : Bool := x.toBitVec.getLsbD j
/-- what a running node keeps -/
def rxS (z T n : Nat) (t : TT) (lf : Nat → Nat) (I : Nat → Nat → Int32) (R : Nat → Nat → Option Nat) (v : Nat → Int32) : Prop := ∀ i, i < n → v (11 * i) = 1 →
  ((t 0 i < 2 ∨ t 0 i = 10 ∨ t 0 i = 11 ∨ t 0 i = 13) → I 301 (lf i) = v (11 * i + 1) ∧ ∃ k, k ≤ t 1 i ∧ v (11 * i + 1) = nI k ∧ ((t 0 i = 10 ∨ t 0 i = 11) → k < t 1 i)) ∧
  ((t 0 i = 4 ∨ t 0 i = 5) → ∃ j, j < t 11 i ∧ v (11 * i + 1) = nI j ∧ R 302 (lf i) = some (nda z T (cN t i j))) ∧
  (t 0 i = 8 → ∀ j, j < t 11 i → (bitOf (v (11 * i + 2)) j = true ↔ I 303 (lf (cN t i j)) = 2) ∧ (bitOf (v (11 * i + 3)) j = true ↔ I 303 (lf (cN t i j)) = 3))
/-- the suspended tick: p is visited next, its ancestors are under way -/
def rxP (z T n : Nat) (t : TT) (lg : Nat) (R : Nat → Nat → Option Nat) (v : Nat → Int32) : Prop :=
  (R 200 lg = none ∧ v 284 = -1) ∨ ∃ p, p < n ∧ R 200 lg = some (nda z T p) ∧ v 284 = nI p ∧ v 272 = nI (t 3 p - 1) ∧
    ∃ st : Nat → Nat, st (t 3 p - 1) = p ∧ st 0 = 0 ∧ (∀ k, k < t 3 p → st k < n ∧ t 3 (st k) = k + 1) ∧ ∀ k, k + 1 < t 3 p → t 2 (st (k + 1)) = st k ∧ 0 < st (k + 1) ∧ v (273 + k) = nI (st k) ∧ v (11 * st k) = 1 ∧ ∃ j, j < t 11 (st k) ∧ v (11 * st k + 5) = nI j ∧ cN t (st k) j = st (k + 1)
/-- all that changes while a tree is used -/
def rxD (z T n : Nat) (t : TT) (q : Nat) (lf : Nat → Nat) (lg gb ta ra : Nat) (S : HS) (v : Nat → Int32) : Prop :=
  rxL n lf S.1 v ∧ rxC lg S.1 v ∧ rxG gb S.2.2.1 v ∧ rxT q lg ta ra S.1 S.2.2.1 v ∧ rxS z T n t lf S.1 S.2.1 v ∧ rxP z T n t lg S.2.1 v
