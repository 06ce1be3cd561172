/-! what holds between calls -/
/-- the text that a tree is written as -/
def ltr (k : Nat) : Nat := [97, 120, 63, 61, 115, 102, 83, 70, 112, 33, 114, 116, 103, 119, 108].getD k 0
def sgN (s : Nat) : Nat := [0, 60, 61, 62, 58, 43, 45].getD s 0
def numL (x : Nat) : List Nat := if x < 10 then [48 + x % 10] else [48 + x / 10, 48 + x % 10]
def clL (key s x : Nat) : List Nat := if s = 0 then [] else (48 + key) :: sgN s :: numL x
def isL (k : Nat) : Prop := 4 ≤ k ∧ k ≤ 8
def hasN (k : Nat) : Prop := k < 2 ∨ k = 8 ∨ k = 10 ∨ k = 11 ∨ k = 13 ∨ k = 14
def headL (t : TT) (i : Nat) : List Nat := ltr (t 0 i) :: ((if t 0 i < 2 ∨ t 0 i = 8 ∨ t 0 i = 10 ∨ t 0 i = 11 ∨ t 0 i = 13 ∨ t 0 i = 14 then [48 + t 1 i] else []) ++ (clL (t 5 i) (t 6 i) (t 7 i) ++ ((if t 9 i = 0 then [] else 126 :: clL (t 8 i) (t 9 i) (t 10 i)) ++ (if 4 ≤ t 0 i ∧ t 0 i ≤ 8 then [40] else []))))
def bhF (t : TT) : Nat → Nat → List Nat
  | 0, _ => []
  | f + 1, e => if e = 0 then [] else if t 4 e < t 4 (t 2 e) then [44] else (if 4 ≤ t 0 (t 2 e) ∧ t 0 (t 2 e) ≤ 8 then [41] else []) ++ bhF t f (t 2 e)
def behL (t : TT) (i : Nat) : List Nat := if 4 ≤ t 0 i then [] else bhF t 24 i
def txtL (t : TT) : Nat → List Nat
  | 0 => []
  | m + 1 => txtL t m ++ (headL t m ++ behL t m)
def fixR : List Nat := [0, 209, 210, 401, 402, 403, 600, 601, 602, 700, 800, 900, 901, 1100, 1101, 1102, 1103, 1104, 1105, 1106]
theorem FixC_congr {z : Nat} {S S1 : HS} (h1 : ∀ f a, fixR.contains f = true → S1.2.1 f a = S.2.1 f a) (h2 : ∀ a, S1.1 400 a = S.1 400 a) (h3 : S1.2.2.2 = S.2.2.2) (h : FixC z S) : FixC z S1 := by
  unfold FixC at *
  rw [h3]
  simp (disch := decide) only [h1, h2]
  exact h
def RUNF (z T n : Nat) (S : HS) : Prop := S.2.1 1107 z = some (z + T) ∧ S.2.1 1108 z = some (z + (244 - T)) ∧ S.1 801 (z + T) = nI n
def TXT (z b : Nat) (S M : HS) : Prop := ∃ k, k ≤ 70 ∧ S.1 701 (z + 1) = nI k ∧ M.1 1206 b = nI k ∧ ∀ j, j < k → ∃ d, d ≤ 127 ∧ S.2.2.1 (z + 2) j = nI d ∧ M.2.2.1 (b + 4) j = nI d
def OUTX (z b : Nat) (S M : HS) : Prop := ∃ k, k ≤ 70 ∧ S.1 701 (z + 3) = nI k ∧ M.1 1207 b = nI k ∧ ∀ j, j < k → ∃ d, d ≤ 127 ∧ S.2.2.1 (z + 4) j = nI d ∧ M.2.2.1 (b + 5) j = nI d
/-- a snapshot: lives from lb on, board's row gb, ledger lg, its rows ta, ra -/
def SNAP (z n lb gb lg ta ra : Nat) (S : HS) (v c : Nat → Int32) (u : Nat → Option Nat) (l : Nat → Int32) (p : Option Nat) (tr : TR) : Prop :=
  (∀ i, i < n → (∀ f w, plF f = some w → S.1 f (z + (lb + i)) = v (11 * i + w)) ∧ S.1 301 (z + (lb + i)) = c i ∧ S.1 303 (z + (lb + i)) = l i ∧ S.2.1 302 (z + (lb + i)) = u i) ∧
  (∀ f w, plG f = some w → S.1 f (z + lg) = v w) ∧ S.1 208 (z + lg) = nI tr.1 ∧ S.2.1 200 (z + lg) = p ∧ (∀ k, k < 8 → S.2.2.1 (z + gb) k = v (264 + k)) ∧ ∀ k, k < 30 → S.2.2.1 (z + ta) k = tr.2.1 k ∧ S.2.2.1 (z + ra) k = tr.2.2 k
def SAV (z b T n : Nat) (t : TT) (q : Nat) (S M : HS) : Prop := (S.1 1109 z = 0 ∧ M.1 1203 b = 0) ∨ (S.1 1109 z = 1 ∧ M.1 1203 b = 1 ∧ ∃ c u l p tr, SNAP z n 18 14 15 16 17 S (M.2.2.1 (b + 2)) c u l p tr ∧ SI z T n t (M.2.2.1 (b + 2)) c u l p tr ∧ tr.1 ≤ q)
/-- what the reference's rows of a new tree hold where nothing is read into them -/
def STA (b : Nat) (M : HS) : Prop := ∀ i, i < 24 → (∃ k, k ≤ 7 ∧ M.2.2.1 (b + 22) i = nI k) ∧ (∃ k, k ≤ 99 ∧ M.2.2.1 (b + 24) i = nI k) ∧ (∃ k, k ≤ 7 ∧ M.2.2.1 (b + 25) i = nI k) ∧ (∃ k, k ≤ 99 ∧ M.2.2.1 (b + 27) i = nI k)
theorem STA_same {b : Nat} {M M1 : HS} (h : ∀ o, 17 ≤ o → M1.2.2.1 (b + o) = M.2.2.1 (b + o)) (hS : STA b M) : STA b M1 := by
  intro i hi
  rw [h 22 (by omega), h 24 (by omega), h 25 (by omega), h 27 (by omega)]
  exact hS i hi
def REL (z b q : Nat) (S M : HS) : Prop := ∃ T n t S0 M0 v c u l p tr, S = SC z T n S0 v c u l p tr ∧ M = SV b M0 v ∧ CX z T n t S0 ∧ MX b n t M0 ∧ SI z T n t v c u l p tr ∧ tr.1 ≤ q ∧ RUNF z T n S0 ∧ M0.1 1208 b = nI n ∧ TXT z b S0 M0 ∧ OUTX z b S0 M0 ∧ SAV z b T n t q S0 M0 ∧ (txtL t n).length ≤ 70 ∧ STA b M0
section RL
variable {z b q T n i j k w f a : Nat} {S0 M0 S M : HS} {v c l : Nat → Int32} {u : Nat → Option Nat} {p : Option Nat} {tr : TR} {t : TT} {x y : Int32}
theorem lf_ge (hT : isT T) : z + 78 ≤ lfa z T i := by
  unfold lfa
  rcases hT with rfl | rfl <;> omega
theorem sI (hC : CX z T n t S0) {o : Nat} (ho : o < 73 ∧ o ≠ 8 ∨ o = 73 ∨ o = 171) : (SC z T n S0 v c u l p tr).1 f (z + o) = S0.1 f (z + o) :=
  SC1_ot (by omega) (fun i _ => by
    rcases ho with ho | ho
    · have := lf_ge (z := z) (i := i) hC.1; omega
    · have hT := hC.1
      unfold lfa
      rcases ho with rfl | rfl <;> rcases hT with rfl | rfl <;> omega)
theorem sR (hC : CX z T n t S0) (h1 : f ≠ 200) (h2 : f ≠ 302) : (SC z T n S0 v c u l p tr).2.1 f a = S0.2.1 f a := SC2_ot (Or.inr h1) (Or.inl h2)
theorem sA {o : Nat} (ho : o ≠ 7 ∧ o ≠ 9 ∧ o ≠ 10) : (SC z T n S0 v c u l p tr).2.2.1 (z + o) = S0.2.2.1 (z + o) := by
  funext k
  show SC3 z S0.2.2.1 v tr (z + o) k = _
  unfold SC3
  rw [if_neg (by omega), if_neg (by omega), if_neg (by omega)]
theorem gI_of {o c : Nat} (ho : o < 269) (hk : kdC o = c) {S : HS} {f : Nat} {x : Int32} (h : S.1 f (z + o) = x) : gI (Yc z) c f (some (z + o)) S = some x := by rw [cI ho hk, h]
theorem gR_of {o c : Nat} (ho : o < 269) (hk : kdC o = c) {S : HS} {f : Nat} {x : Option Nat} (h : S.2.1 f (z + o) = x) : gR (Yc z) c f (some (z + o)) S = some x := by rw [cR ho hk, h]
theorem fixSC (hC : CX z T n t S0) : FixC z (SC z T n S0 v c u l p tr) := FixC_congr (fun f a hf => sR hC (by rintro rfl; exact absurd hf (by decide)) (by rintro rfl; exact absurd hf (by decide))) (fun a => by
    show SC1 z T n S0.1 v c l tr.1 400 a = _
    unfold SC1
    cases lx z T n a with
    | none =>
      show (if a = z + 8 then lvG S0.1 v tr.1 400 a else S0.1 400 a) = _
      split <;> rfl
    | some i => rfl) rfl hC.2.2.1
/-! the runner's own fields -/
theorem w1107 (hC : CX z T n t S0) (hU : RUNF z T n S0) : gR (Yc z) 11 1107 (some z) (SC z T n S0 v c u l p tr) = some (some (z + T)) := gR_of (o := 0) (by decide) rfl (by rw [sR hC (by decide) (by decide)]; exact hU.1)
theorem w1108 (hC : CX z T n t S0) (hU : RUNF z T n S0) : gR (Yc z) 11 1108 (some z) (SC z T n S0 v c u l p tr) = some (some (z + (244 - T))) := gR_of (o := 0) (by decide) rfl (by rw [sR hC (by decide) (by decide)]; exact hU.2.1)
theorem w801 (hC : CX z T n t S0) (hU : RUNF z T n S0) : gI (Yc z) 8 801 (some (z + T)) (SC z T n S0 v c u l p tr) = some (nI n) := by
  have hT := kd_T hC.1
  refine gI_of hT.1 hT.2.1 ?_
  rw [sI hC (by rcases hC.1 with rfl | rfl; exact Or.inr (Or.inl rfl); exact Or.inr (Or.inr rfl))]
  exact hU.2.2
theorem w800 (hC : CX z T n t S0) : gR (Yc z) 8 800 (some (z + T)) (SC z T n S0 v c u l p tr) = some (some (z + (T + 1))) := cR800 (fixSC hC) hC.1
theorem w8rcv (hC : CX z T n t S0) : rcv (Yc z) 8 (some (z + T)) = some () := crcv (kd_T hC.1).1 (kd_T hC.1).2.1
theorem at_neg (h : x < 0) : fX8_nodeAt (Yc z) S (some (z + T)) x = some none := by
  unfold fX8_nodeAt
  exact if_pos h
theorem at_big (hC : CX z T n t S0) (hU : RUNF z T n S0) (h0 : ¬ x < 0) (h : nI n ≤ x) : fX8_nodeAt (Yc z) (SC z T n S0 v c u l p tr) (some (z + T)) x = some none := by
  unfold fX8_nodeAt
  refine ifN h0 ?_
  refine bnd (w801 hC hU) ?_
  exact if_pos h
theorem at_in (hC : CX z T n t S0) (hU : RUNF z T n S0) (hi : i < n) : fX8_nodeAt (Yc z) (SC z T n S0 v c u l p tr) (some (z + T)) (nI i) = some (some (nda z T i)) := by
  have hn := CX_n hC
  have hT := kd_T hC.1
  unfold fX8_nodeAt
  refine ifN (nI_pos (by omega)) ?_
  refine bnd (w801 hC hU) ?_
  refine ifN (nI_ge (by omega) (by omega)) ?_
  refine bnd (w800 hC) ?_
  refine bnd (caL hT.2.2.1 hT.2.2.2.1) ?_
  rw [hT.2.2.2.2]
  refine ifP (nI_lt (by omega) (by omega)) ?_
  refine bnd (w800 hC) ?_
  refine bnd (cQnode (fixSC hC) hC.1 (by omega)) ?_
  rfl
/-- an index of a node, or none -/
theorem ix_cases (x : Int32) (hn : n ≤ 24) : (x < 0) ∨ (¬ x < 0 ∧ nI n ≤ x) ∨ ∃ i, i < n ∧ x = nI i := by
  rcases pk_ix x (n := n) (by omega) with h | h | h
  · exact Or.inl h
  · by_cases h0 : x < 0
    · exact Or.inl h0
    · exact Or.inr (Or.inl ⟨h0, h⟩)
  · exact Or.inr (Or.inr h)
theorem m1208 (h : M0.1 1208 b = nI n) : gI (Ym b) 12 1208 (some b) (SV b M0 v) = some (nI n) := by rw [mIo]; exact congrArg some h
theorem isIn_0 {Y : LY} {S : HS} {lo hi : Int32} (h : x < lo ∨ hi < x) : fX12_isIn Y S x lo hi = some 0 := by
  unfold fX12_isIn
  by_cases h1 : x < lo
  · exact if_pos h1
  · rw [if_neg h1]
    exact if_pos (h.resolve_left h1)
theorem isIn_1 {Y : LY} {S : HS} {lo hi : Int32} (h : ¬ x < lo) (h2 : ¬ hi < x) : fX12_isIn Y S x lo hi = some 1 := by
  unfold fX12_isIn
  rw [if_neg h, if_neg h2]
theorem nI_m1lt (hn : n ≤ 1000) (h : nI n ≤ x) : nI n - 1 < x := by
  have e : (nI n - 1).toInt = (n : Int) - 1 := pk_sub_toInt (b := 1) (by omega) (by decide)
  rw [Int32.lt_iff_toInt_lt, e]
  rw [Int32.le_iff_toInt_le, nI_toInt (by omega)] at h
  omega
theorem nI_m1nlt (hn : n ≤ 1000) (h : i < n) : ¬ nI n - 1 < nI i := by
  have e : (nI n - 1).toInt = (n : Int) - 1 := pk_sub_toInt (b := 1) (by omega) (by decide)
  rw [Int32.lt_iff_toInt_lt, e, nI_toInt (by omega)]
  omega
/-! value -/
theorem k_scope5 (hC : CX z T n t S0) {key : Nat} (hk : key ≤ 7) : ∀ (f fuel u1 : Nat), u1 < n → u1 < f → u1 + 1 < fuel → fX4_scopeOf_5 (Yc z) (SC z T n S0 v c u l p tr) fuel (nI key) (some (nda z T u1)) = some ((scF t key f u1).map (nda z T))
  | 0, _, _, _, h, _ => absurd h (Nat.not_lt_zero _)
  | _, 0, _, _, _, h => absurd h (Nat.not_lt_zero _)
  | f + 1, fuel + 1, u1, hu, hf, hfu => by
    have hn := CX_n hC
    have hrg := wf_rng hC.2.1 hu
    have hkd := wf_kind hC.2.1 hu
    rw [fX4_scopeOf_5, scF]
    refine ifN (by intro e; cases e) ?_
    refine bnd (k404 hC hu) ?_
    have up : ((gR (Yc z) 4 409 (some (nda z T u1)) (SC z T n S0 v c u l p tr)).bind fun v29 => fX4_scopeOf_5 (Yc z) (SC z T n S0 v c u l p tr) fuel (nI key) v29) = some ((if u1 = 0 then none else scF t key f (t 2 u1)).map (nda z T)) := by
      refine bnd (k409 hC hu) ?_
      by_cases h0 : u1 = 0
      · rw [if_pos h0, if_pos h0]
        obtain ⟨g, rfl⟩ : ∃ g, fuel = g + 1 := ⟨fuel - 1, by omega⟩
        rw [fX4_scopeOf_5]
        exact if_pos rfl
      · have hp := wf_up hC.2.1 hu (by omega)
        rw [if_neg h0, if_neg h0]
        exact k_scope5 hC hk f fuel (t 2 u1) (by omega) (by omega) (by omega)
    by_cases h1 : t 0 u1 = 14
    · refine ifP (nIe h1) ?_
      refine bnd (k405 hC hu) ?_
      by_cases h2 : t 1 u1 = key
      · refine ifP (by rw [h2]) ?_
        rw [if_pos ⟨h1, h2⟩]
        rfl
      · refine ifN (fun e => h2 ((nI_eq (by omega) (by omega)).mp e)) ?_
        rw [up, if_neg (c := t 0 u1 = 14 ∧ t 1 u1 = key) (fun h => h2 h.2)]
    · refine ifN (nIn h1 (by omega) (by omega)) ?_
      rw [up, if_neg (c := t 0 u1 = 14 ∧ t 1 u1 = key) (fun h => h1 h.1)]
theorem k_scope (hC : CX z T n t S0) (hi : i < n) {key : Nat} (hk : key ≤ 7) : fX4_scopeOf (Yc z) (SC z T n S0 v c u l p tr) (some (nda z T i)) (nI key) = some ((scO t key i).map (nda z T)) := by
  have hn := CX_n hC
  unfold fX4_scopeOf scO
  refine bnd (k409 hC hi) ?_
  by_cases h0 : i = 0
  · rw [if_pos h0, if_pos h0, show FU = 1999 + 1 from rfl, fX4_scopeOf_5]
    exact if_pos rfl
  · have hp := wf_up hC.2.1 hi (by omega)
    rw [if_neg h0, if_neg h0]
    exact k_scope5 hC hk 24 FU (t 2 i) (by omega) (by omega) (by unfold FU; omega)
theorem key_cases (x : Int32) : x < 0 ∨ (¬ x < 0 ∧ 8 ≤ x) ∨ ∃ k, k ≤ 7 ∧ x = nI k := by
  rcases ix_cases (n := 8) x (by omega) with h | h | ⟨k, h1, h2⟩
  · exact Or.inl h
  · exact Or.inr (Or.inl h)
  · exact Or.inr (Or.inr ⟨k, by omega, h2⟩)
theorem i32_8 (h : 8 ≤ x) : 7 < x := by
  rw [Int32.le_iff_toInt_le] at h
  rw [Int32.lt_iff_toInt_lt]
  have e1 : (8 : Int32).toInt = 8 := by decide
  have e2 : (7 : Int32).toInt = 7 := by decide
  omega
theorem i32_le {x y : Int32} (h : y ≤ x) : ¬ x < y := by
  rw [Int32.le_iff_toInt_le] at h
  rw [Int32.lt_iff_toInt_lt]
  omega
theorem i32_lt {x y : Int32} (h : ¬ x ≤ y) : y < x := by
  rw [Int32.le_iff_toInt_le] at h
  rw [Int32.lt_iff_toInt_lt]
  omega
theorem w1103 (hC : CX z T n t S0) : gR (Yc z) 11 1103 (some z) (SC z T n S0 v c u l p tr) = some (some (z + 6)) := cR1103_0 (fixSC hC)
theorem w1104 (hC : CX z T n t S0) : gR (Yc z) 11 1104 (some z) (SC z T n S0 v c u l p tr) = some (some (z + 8)) := cR1104_0 (fixSC hC)
theorem w1102 (hC : CX z T n t S0) : gR (Yc z) 11 1102 (some z) (SC z T n S0 v c u l p tr) = some (some (z + 5)) := cR1102_0 (fixSC hC)
theorem k_valG (hC : CX z T n t S0) (hk : k ≤ 7) : fX0_valueIn (Yc z) (SC z T n S0 v c u l p tr) (some (z + 6)) none (nI k) = some (v (264 + k)) := by
  unfold fX0_valueIn
  refine ifP rfl ?_
  refine ifN (nI_pos (by omega)) ?_
  refine bnd (k0 hC) ?_
  refine bnd (caL (o := 7) (by decide) rfl) ?_
  refine ifP (nI_lt (b := 8) (by omega) (by decide)) ?_
  refine bnd (k0 hC) ?_
  refine bnd (kg (by omega)) ?_
  rfl
theorem k_putG (hC : CX z T n t S0) (hk : k ≤ 7) : fX0_put (Yc z) (SC z T n S0 v c u l p tr) (some (z + 6)) none (nI k) x = some (SC z T n S0 (upd v (264 + k) x) c u l p tr) := by
  unfold fX0_put
  refine ifP rfl ?_
  refine ifN (nI_pos (by omega)) ?_
  refine bnd (k0 hC) ?_
  refine bnd (caL (o := 7) (by decide) rfl) ?_
  refine ifN (nI_ge (b := 8) (by omega) (by decide)) ?_
  refine bnd (k0 hC) ?_
  refine bnd (kgp hC (by omega)) ?_
  rfl
theorem x_value (h : REL z b q S M) : ∃ r, fX11_value (Yc z) S (some z) x y = some r ∧ fX12_value (Ym b) M (some b) x y = some r := by
  obtain ⟨T, n, t, S0, M0, v, c, u, l, p, tr, rfl, rfl, hC, hX, hS, hq, hU, hM, hTX, hO, hV⟩ := h
  have hn := CX_n hC
  unfold fX11_value fX12_value
  rcases key_cases y with hy | ⟨hy, hy2⟩ | ⟨k, hk, rfl⟩
  · refine ⟨-1002, if_pos hy, ?_⟩
    refine bnd (isIn_0 (Or.inl hy)) ?_
    exact if_pos rfl
  · refine ⟨-1002, ?_, ?_⟩
    · rw [if_neg hy]
      exact if_neg (i32_le hy2)
    · refine bnd (isIn_0 (Or.inr (i32_8 hy2))) ?_
      exact if_pos rfl
  · rw [if_neg (nI_pos (by omega)), if_pos (show nI k < 8 from nI_lt (b := 8) (by omega) (by decide))]
    have hB0 : ∀ r, ((gI (Ym b) 12 1208 (some b) (SV b M0 v)).bind fun v17 => (fX12_isIn (Ym b) (SV b M0 v) x (-1) (v17 - 1)).bind fun v22 => if v22 = 0 then some (-1001) else (gR (Ym b) 12 1200 (some b) (SV b M0 v)).bind fun v35 => (rcv (Ym b) 12 (some b)).bind fun _ => (fX12_place (Ym b) (SV b M0 v) (some b) x (nI k)).bind fun v41 => (gA (Ym b) 14 v35 v41 (SV b M0 v)).bind fun v44 => some v44) = r → ((fX12_isIn (Ym b) (SV b M0 v) (nI k) 0 7).bind fun v4 => if v4 = 0 then some (-1002) else (gI (Ym b) 12 1208 (some b) (SV b M0 v)).bind fun v17 => (fX12_isIn (Ym b) (SV b M0 v) x (-1) (v17 - 1)).bind fun v22 => if v22 = 0 then some (-1001) else (gR (Ym b) 12 1200 (some b) (SV b M0 v)).bind fun v35 => (rcv (Ym b) 12 (some b)).bind fun _ => (fX12_place (Ym b) (SV b M0 v) (some b) x (nI k)).bind fun v41 => (gA (Ym b) 14 v35 v41 (SV b M0 v)).bind fun v44 => some v44) = r := by
      intro r h
      refine bnd (isIn_1 (nI_pos (by omega)) (nI_nlt (b := k) (a := 7) (by omega) (by decide) |> fun h => h)) ?_
      refine ifN (by decide) ?_
      exact h
    by_cases hm1 : x = -1
    · subst hm1
      refine ⟨v (264 + k), ?_, hB0 _ ?_⟩
      · refine ifP rfl ?_
        refine bnd (w1103 hC) ?_
        refine bnd (crcv (o := 6) (by decide) rfl) ?_
        refine bnd (k_valG hC hk) ?_
        rfl
      · have e9 : ¬ nI n - 1 < -1 := by
          have e : (nI n - 1).toInt = (n : Int) - 1 := pk_sub_toInt (b := 1) (by omega) (by decide)
          rw [Int32.lt_iff_toInt_lt, e, show ((-1 : Int32)).toInt = -1 by decide]
          omega
        refine bnd (m1208 hM) ?_
        refine bnd (isIn_1 (by decide) e9) ?_
        refine ifN (by decide) ?_
        refine bnd (mR1200 (SV_fix hX.1)) ?_
        refine bnd mrcv ?_
        refine bnd (a := nI (264 + k)) ?_ ?_
        · unfold fX12_place
          refine ifN (by decide) ?_
          rw [show FU = 1999 + 1 from rfl, fX12_place_15, if_pos (by decide)]
          unfold fX12_place_50
          rw [if_pos (by decide), show (264 : Int32) = nI 264 from rfl, nI_add]
        · refine bnd (SV_gA (j := 264 + k) (by omega)) ?_
          rfl
    · rw [if_neg hm1]
      rcases ix_cases x hn with hx | ⟨hx, hx2⟩ | ⟨i, hi, rfl⟩
      · refine ⟨-1001, ?_, hB0 _ ?_⟩
        · refine bnd (w1107 hC hU) ?_
          refine bnd (w8rcv hC) ?_
          refine bnd (at_neg hx) ?_
          exact if_pos rfl
        · have e9 : x < -1 := by
            rw [Int32.lt_iff_toInt_lt] at hx ⊢
            have e1 : (-1 : Int32).toInt = -1 := by decide
            have e0 : (0 : Int32).toInt = 0 := by decide
            have : x.toInt ≠ -1 := fun h => hm1 (Int32.toInt_inj.mp (h.trans e1.symm))
            omega
          refine bnd (m1208 hM) ?_
          refine bnd (isIn_0 (Or.inl e9)) ?_
          exact if_pos rfl
      · refine ⟨-1001, ?_, hB0 _ ?_⟩
        · refine bnd (w1107 hC hU) ?_
          refine bnd (w8rcv hC) ?_
          refine bnd (at_big hC hU hx hx2) ?_
          exact if_pos rfl
        · refine bnd (m1208 hM) ?_
          refine bnd (isIn_0 (Or.inr (nI_m1lt (by omega) hx2))) ?_
          exact if_pos rfl
      · refine ⟨v (plN t k i), ?_, hB0 _ ?_⟩
        · refine bnd (w1107 hC hU) ?_
          refine bnd (w8rcv hC) ?_
          refine bnd (at_in hC hU hi) ?_
          refine ifN (by intro e; cases e) ?_
          refine bnd (w1103 hC) ?_
          refine bnd (ndrcv hC.1 (by omega)) ?_
          refine bnd (k_scope hC hi hk) ?_
          refine bnd (crcv (o := 6) (by decide) rfl) ?_
          refine bnd (k_val hC hi hk) ?_
          rfl
        · have e9 : ¬ nI i < -1 := by
            rw [Int32.lt_iff_toInt_lt, nI_toInt (by omega), show ((-1 : Int32)).toInt = -1 by decide]
            omega
          refine bnd (m1208 hM) ?_
          refine bnd (isIn_1 e9 (nI_m1nlt (by omega) hi)) ?_
          refine ifN (by decide) ?_
          refine bnd (mR1200 (SV_fix hX.1)) ?_
          refine bnd mrcv ?_
          refine bnd (m_place hX.1 hX.2.1 hX.2.2 hk hi) ?_
          refine bnd (SV_gA (plN_lt hX.2.2 hk hi)) ?_
          rfl
end RL
