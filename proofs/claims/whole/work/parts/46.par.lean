/-! bits -/
theorem bit_or (x y : Int32) (k : Nat) : bitOf (x ||| y) k = (bitOf x k || bitOf y k) := by
  unfold bitOf
  rw [Int32.toBitVec_or, BitVec.getLsbD_or]
theorem nI_31 {k : Nat} (hk : k < 32) : nI k &&& 31 = nI k := by
  have : ∀ k, k < 32 → nI k &&& 31 = nI k := by decide +kernel
  exact this k hk
theorem smod_nI {k : Nat} (hk : k < 32) : ((nI k).toBitVec.smod 32).toNat = k := by
  have : ∀ k, k < 32 → ((nI k).toBitVec.smod 32).toNat = k := by decide +kernel
  exact this k hk
theorem bit_tst (x : Int32) {k : Nat} (hk : k < 32) : (x >>> (nI k &&& 31)) &&& 1 = if bitOf x k = true then 1 else 0 := by
  rw [nI_31 hk, pk_and (x >>> nI k) 1 rfl, Int32.toBitVec_shiftRight]
  have e : ∀ y : BitVec 32, y.toNat % 2 ^ 1 = if y.getLsbD 0 = true then 1 else 0 := by
    intro y
    rw [BitVec.getLsbD, Nat.testBit_zero]
    rcases Nat.mod_two_eq_zero_or_one y.toNat with h | h <;> simp [h]
  have h0 : (x.toBitVec.sshiftRight' ((nI k).toBitVec.smod 32)).getLsbD 0 = bitOf x k := by
    rw [BitVec.sshiftRight', smod_nI hk, BitVec.getLsbD_sshiftRight]
    simp [bitOf, hk]
  rw [e, h0]
  split <;> rfl
theorem bit_one {j k : Nat} (hj : j < 32) (hk : k < 32) : bitOf (1 <<< (nI j &&& 31)) k = decide (k = j) := by
  have : ∀ j, j < 32 → ∀ k, k < 32 → bitOf (1 <<< (nI j &&& 31)) k = decide (k = j) := by decide +kernel
  exact this j hj k hk
theorem bit_0 (k : Nat) : bitOf 0 k = false := by
  unfold bitOf
  exact BitVec.getLsbD_zero
theorem m_bits4 {Y : LY} {S : HS} (x : Int32) : ∀ (m fuel k : Nat), k + m = 24 → m < fuel → fX12_bits_4 Y S fuel x (nI (bitN x k)) (nI k) = some (nI (bitN x 24))
  | _, 0, _, _, h => absurd h (Nat.not_lt_zero _)
  | 0, fuel + 1, k, he, hm => by
    have : k = 24 := by omega
    subst this
    rw [fX12_bits_4]
    exact if_pos (by decide)
  | m + 1, fuel + 1, k, he, hm => by
    rw [fX12_bits_4, if_neg (show ¬ (24 : Int32) ≤ nI k from nI_ge (b := 24) (by omega) (by decide)), bit_tst x (by omega), nI_1]
    have e : nI (bitN x k) + (if bitOf x k = true then (1 : Int32) else 0) = nI (bitN x (k + 1)) := by
      rw [bitN]
      by_cases hb : bitOf x k = true
      · rw [if_pos hb, if_pos hb, nI_1]
      · rw [if_neg hb, if_neg hb, Int32.add_zero]; rfl
    rw [e]
    exact m_bits4 x m fuel (k + 1) (by omega) (by omega)
theorem m_bits {Y : LY} {S : HS} (x : Int32) : fX12_bits Y S x = some (nI (bitN x 24)) := m_bits4 x 24 FU 0 rfl (by decide)
theorem bitN_ext {x : Int32} {m k : Nat} (h : ∀ j, m ≤ j → j < m + k → bitOf x j = false) : bitN x (m + k) = bitN x m := by
  induction k with
  | zero => rfl
  | succ k ih =>
    rw [← Nat.add_assoc, bitN, ih (fun j h1 h2 => h j h1 (by omega)), h (m + k) (by omega) (by omega)]
    rfl
/-! children in the class -/
def chO (z T : Nat) (t : TT) (i j : Nat) : Option Nat := if j < t 11 i then some (nda z T (cN t i j)) else none
/-- how many of the first m children have the latest result r -/
def cntL (t : TT) (l : Nat → Int32) (i : Nat) (r : Int32) : Nat → Nat
  | 0 => 0
  | m + 1 => cntL t l i r m + (if l (cN t i m) = r then 1 else 0)
/-- what a running parallel keeps -/
def rs8 (t : TT) (v l : Nat → Int32) (i : Nat) : Prop := (∀ j, j < t 11 i → (bitOf (v (11 * i + 2)) j = true ↔ l (cN t i j) = 2) ∧ (bitOf (v (11 * i + 3)) j = true ↔ l (cN t i j) = 3)) ∧ ∀ j, t 11 i ≤ j → j < 32 → bitOf (v (11 * i + 2)) j = false ∧ bitOf (v (11 * i + 3)) j = false
theorem cnt_2 {t : TT} {v l : Nat → Int32} {i n : Nat} (hW : WF n t) (hi : i < n) (h : rs8 t v l i) : bitN (v (11 * i + 2)) 24 = cntL t l i 2 (t 11 i) ∧ bitN (v (11 * i + 3)) 24 = cntL t l i 3 (t 11 i) := by
  have hnum := wf_num hW hi
  have key : ∀ m, m ≤ t 11 i → bitN (v (11 * i + 2)) m = cntL t l i 2 m ∧ bitN (v (11 * i + 3)) m = cntL t l i 3 m := by
    intro m
    induction m with
    | zero => exact fun _ => ⟨rfl, rfl⟩
    | succ m ih =>
      intro hm
      have h1 := ih (by omega)
      have h2 := h.1 m (by omega)
      rw [bitN, bitN, cntL, cntL, h1.1, h1.2]
      constructor
      · by_cases hb : l (cN t i m) = 2
        · rw [if_pos hb, if_pos (h2.1.mpr hb)]
        · rw [if_neg hb, if_neg (fun q => hb (h2.1.mp q))]
      · by_cases hb : l (cN t i m) = 3
        · rw [if_pos hb, if_pos (h2.2.mpr hb)]
        · rw [if_neg hb, if_neg (fun q => hb (h2.2.mp q))]
  have e2 := bitN_ext (x := v (11 * i + 2)) (m := t 11 i) (k := 24 - t 11 i) (fun j h1 h3 => (h.2 j h1 (by omega)).1)
  have e3 := bitN_ext (x := v (11 * i + 3)) (m := t 11 i) (k := 24 - t 11 i) (fun j h1 h3 => (h.2 j h1 (by omega)).2)
  rw [show t 11 i + (24 - t 11 i) = 24 by omega] at e2 e3
  rw [e2, e3]
  exact key _ (Nat.le_refl _)
theorem cntL_le {t : TT} {l : Nat → Int32} {i : Nat} {r : Int32} : ∀ m, cntL t l i r m ≤ m
  | 0 => Nat.le_refl _
  | m + 1 => by
    have := cntL_le (t := t) (l := l) (i := i) (r := r) m
    rw [cntL]
    split <;> omega
section PAR
variable {b z T n i j k w : Nat} {S0 M : HS} {v c l : Nat → Int32} {u : Nat → Option Nat} {p : Option Nat} {tr : TR} {x r : Int32} {t : TT}
theorem k410' (hC : CX z T n t S0) (hi : i < n) : gR (Yc z) 4 410 (some (nda z T i)) (SC z T n S0 v c u l p tr) = some (chO z T t i 0) := by
  rw [k410 hC hi]
  unfold chO
  by_cases h : 4 ≤ t 0 i
  · have := (wf_inner hC.2.1 hi h).1
    rw [if_pos h, if_pos (by omega)]
    rfl
  · have := (wf_leaf hC.2.1 hi (by omega)).2
    rw [if_neg h, if_neg (by omega)]
theorem k412' (hC : CX z T n t S0) (hi : i < n) (hj : j < t 11 i) : gR (Yc z) 4 412 (some (nda z T (cN t i j))) (SC z T n S0 v c u l p tr) = some (chO z T t i (j + 1)) := by
  have hc := wf_ch hC.2.1 hi hj
  have hs := wf_cN hC.2.1 hi j (by omega)
  have he := wf_end hC.2.1 hi
  rw [k412 hC hc.2.2.2.2, if_neg (by omega), hc.2.2.1]
  unfold chO
  by_cases h : j + 1 < t 11 i
  · have hc1 := wf_ch hC.2.1 hi h
    rw [cN] at hc1
    rw [if_pos h, if_pos (by omega)]
    rfl
  · have : j + 1 = t 11 i := by omega
    rw [← this, cN] at he
    rw [if_neg h, if_neg (by omega)]
theorem k_goDown (hC : CX z T n t S0) {w : Option Nat} : fX9_goDown (Yc z) (SC z T n S0 v c u l p tr) (some (z + 5)) w = some (SC z T n S0 v c u l w tr, 0) := by
  unfold fX9_goDown
  refine bnd (k901 hC) ?_
  refine bnd (kNp hC) ?_
  rfl
theorem par_cnt (hC : CX z T n t S0) (hi : i < n) : ∀ (d fuel j : Nat), j + d = t 11 i → d < fuel → fX9_goOnInParallel_53 (Yc z) fuel (SC z T n S0 v c u l p tr) (some (z + 5)) (some (nda z T i)) (nI (cntL t l i 2 j)) (nI (cntL t l i 3 j)) (chO z T t i j) = (if cntL t l i 2 (t 11 i) < t 1 i ∧ ¬ (nI (t 11 i) - nI (t 1 i)) < nI (cntL t l i 3 (t 11 i)) then some (SC z T n S0 v c u l p tr, 1) else fX9_goOnInParallel_134 (Yc z) (SC z T n S0 v c u l p tr) (some (z + 5)) (some (nda z T i)) (nI (cntL t l i 2 (t 11 i))))
  | _, 0, _, _, h => absurd h (Nat.not_lt_zero _)
  | 0, fuel + 1, j, he, hm => by
    have : j = t 11 i := by omega
    subst this
    have hn := CX_n hC
    have hnum := wf_num hC.2.1 hi
    have h9 := (wf_rng hC.2.1 hi).1
    have hc2 := cntL_le (t := t) (l := l) (i := i) (r := 2) (t 11 i)
    rw [fX9_goOnInParallel_53]
    unfold chO
    rw [if_neg (Nat.lt_irrefl _)]
    refine ifP rfl ?_
    refine bnd (k405 hC hi) ?_
    by_cases h1 : cntL t l i 2 (t 11 i) < t 1 i
    · refine ifN (nI_ge (by omega) (by omega)) ?_
      refine bnd (k407 hC hi) ?_
      refine bnd (k405 hC hi) ?_
      by_cases h2 : (nI (t 11 i) - nI (t 1 i)) < nI (cntL t l i 3 (t 11 i))
      · rw [if_pos h2, if_neg (fun q => q.2 h2)]
      · rw [if_neg h2, if_pos ⟨h1, h2⟩]
    · refine ifP (nI_le (by omega) (by omega)) ?_
      rw [if_neg (fun q => h1 q.1)]
  | d + 1, fuel + 1, j, he, hm => by
    have hc := wf_ch hC.2.1 hi (j := j) (by omega)
    rw [fX9_goOnInParallel_53]
    have hch : chO z T t i j = some (nda z T (cN t i j)) := by unfold chO; rw [if_pos (by omega)]
    rw [hch]
    refine ifN (by intro e; cases e) ?_
    refine bnd (k403 hC hc.2.2.2.2) ?_
    refine bnd (kl hC hc.2.2.2.2) ?_
    have ih := par_cnt hC hi d fuel (j + 1) (by omega) (by omega)
    have e76 : ∀ s1 : Int32, nI (cntL t l i 2 j) + s1 = nI (cntL t l i 2 (j + 1)) → fX9_goOnInParallel_76 (fX9_goOnInParallel_53 (Yc z) fuel) (Yc z) (SC z T n S0 v c u l p tr) (some (z + 5)) (some (nda z T i)) (nI (cntL t l i 3 j)) (some (nda z T (cN t i j))) (nI (cntL t l i 2 j)) s1 = fX9_goOnInParallel_53 (Yc z) fuel (SC z T n S0 v c u l p tr) (some (z + 5)) (some (nda z T i)) (nI (cntL t l i 2 (j + 1))) (nI (cntL t l i 3 (j + 1))) (chO z T t i (j + 1)) := by
      intro s1 hs1
      unfold fX9_goOnInParallel_76
      refine bnd (k403 hC hc.2.2.2.2) ?_
      refine bnd (kl hC hc.2.2.2.2) ?_
      rw [hs1, show cntL t l i 3 (j + 1) = cntL t l i 3 j + (if l (cN t i j) = 3 then 1 else 0) from rfl]
      by_cases h3 : l (cN t i j) = 3
      · refine ifP h3 ?_
        rw [if_pos h3]
        refine bnd (k412' hC hi (by omega)) ?_
        rw [nI_1]
      · refine ifN h3 ?_
        rw [if_neg h3]
        refine bnd (k412' hC hi (by omega)) ?_
        rw [Int32.add_zero]
        rfl
    by_cases h2 : l (cN t i j) = 2
    · refine ifP h2 ?_
      rw [e76 1 (by rw [nI_1]; show _ = nI (cntL t l i 2 j + (if l (cN t i j) = 2 then 1 else 0)); rw [if_pos h2])]
      exact ih
    · refine ifN h2 ?_
      rw [e76 0 (by rw [Int32.add_zero]; show _ = nI (cntL t l i 2 j + (if l (cN t i j) = 2 then 1 else 0)); rw [if_neg h2]; rfl)]
      exact ih
/-- a parallel that is visited: both programs go down to the next child that isn't through, or come to the same end -/
theorem j_scan (hC : CX z T n t S0) (hX : MX b n t M) (hi : i < n) (h8 : rs8 t v l i) : ∀ (d f1 f2 j : Nat), j + d = t 11 i → d < f1 → d < f2 →
    (∃ q, j ≤ q ∧ q < t 11 i ∧ ¬ (l (cN t i q) = 2 ∨ l (cN t i q) = 3) ∧ fX9_goOnInParallel_2 (Yc z) f1 (SC z T n S0 v c u l p tr) (some (z + 5)) (some (nda z T i)) (chO z T t i j) = some (SC z T n S0 v c u l (some (nda z T (cN t i q))) tr, 0) ∧ fX12_goesOn_28 (Ym b) f2 (SV b M v) (some b) (nI i) (nI (t 11 i)) (nI j) (v (11 * i + 2) ||| v (11 * i + 3)) = some (SV b M (upd (upd v (11 * i + 5) (nI q)) 284 (nI (cN t i q))), 0)) ∨
    (fX9_goOnInParallel_2 (Yc z) f1 (SC z T n S0 v c u l p tr) (some (z + 5)) (some (nda z T i)) (chO z T t i j) = fX9_goOnInParallel_53 (Yc z) FU (SC z T n S0 v c u l p tr) (some (z + 5)) (some (nda z T i)) 0 0 (chO z T t i 0) ∧ fX12_goesOn_28 (Ym b) f2 (SV b M v) (some b) (nI i) (nI (t 11 i)) (nI j) (v (11 * i + 2) ||| v (11 * i + 3)) = fX12_goesOn_49 (Ym b) (SV b M v) (some b) (nI i) (nI (t 11 i)) (nI (t 11 i)))
  | _, 0, _, _, _, h, _ => absurd h (Nat.not_lt_zero _)
  | _, _, 0, _, _, _, h => absurd h (Nat.not_lt_zero _)
  | 0, f1 + 1, f2 + 1, j, he, _, _ => by
    have : j = t 11 i := by omega
    subst this
    have hnum := wf_num hC.2.1 hi
    refine Or.inr ⟨?_, ?_⟩
    · rw [fX9_goOnInParallel_2]
      unfold chO
      rw [if_neg (Nat.lt_irrefl _)]
      refine ifP rfl ?_
      refine bnd (k410' hC hi) ?_
      rfl
    · rw [fX12_goesOn_28]
      exact if_pos (nI_le (by omega) (by omega))
  | d + 1, f1 + 1, f2 + 1, j, he, h1, h2 => by
    have hnum := wf_num hC.2.1 hi
    have hc := wf_ch hC.2.1 hi (j := j) (by omega)
    have hb := h8.1 j (by omega)
    have hch : chO z T t i j = some (nda z T (cN t i j)) := by unfold chO; rw [if_pos (by omega)]
    have hm : ¬ nI (t 11 i) ≤ nI j := nI_ge (by omega) (by omega)
    have ebit := bit_tst (v (11 * i + 2) ||| v (11 * i + 3)) (k := j) (by omega)
    rw [bit_or] at ebit
    have step : (l (cN t i j) = 2 ∨ l (cN t i j) = 3) → fX9_goOnInParallel_2 (Yc z) (f1 + 1) (SC z T n S0 v c u l p tr) (some (z + 5)) (some (nda z T i)) (chO z T t i j) = fX9_goOnInParallel_2 (Yc z) f1 (SC z T n S0 v c u l p tr) (some (z + 5)) (some (nda z T i)) (chO z T t i (j + 1)) ∧ fX12_goesOn_28 (Ym b) (f2 + 1) (SV b M v) (some b) (nI i) (nI (t 11 i)) (nI j) (v (11 * i + 2) ||| v (11 * i + 3)) = fX12_goesOn_28 (Ym b) f2 (SV b M v) (some b) (nI i) (nI (t 11 i)) (nI (j + 1)) (v (11 * i + 2) ||| v (11 * i + 3)) := by
      intro hl
      constructor
      · rw [fX9_goOnInParallel_2, hch]
        refine ifN (by intro e; cases e) ?_
        refine bnd (k403 hC hc.2.2.2.2) ?_
        refine bnd (kl hC hc.2.2.2.2) ?_
        by_cases h2 : l (cN t i j) = 2
        · refine ifP h2 ?_
          refine bnd (k412' hC hi (by omega)) ?_
          rfl
        · refine ifN h2 ?_
          refine bnd (k403 hC hc.2.2.2.2) ?_
          refine bnd (kl hC hc.2.2.2.2) ?_
          refine ifP (hl.resolve_left h2) ?_
          refine bnd (k412' hC hi (by omega)) ?_
          rfl
      · rw [fX12_goesOn_28]
        refine ifN hm ?_
        rw [nI_1, ebit]
        refine ifP ?_ rfl
        rw [if_pos]
        rcases hl with hl | hl
        · rw [hb.1.mpr hl]; rfl
        · rw [hb.2.mpr hl, Bool.or_true]
    by_cases hl : l (cN t i j) = 2 ∨ l (cN t i j) = 3
    · have hs := step hl
      rcases j_scan hC hX hi h8 d f1 f2 (j + 1) (by omega) (by omega) (by omega) with ⟨q, hq1, hq2, hq3, e1, e2⟩ | ⟨e1, e2⟩
      · exact Or.inl ⟨q, by omega, hq2, hq3, hs.1.trans e1, hs.2.trans e2⟩
      · exact Or.inr ⟨hs.1.trans e1, hs.2.trans e2⟩
    · refine Or.inl ⟨j, Nat.le_refl _, by omega, hl, ?_, ?_⟩
      · rw [fX9_goOnInParallel_2, hch]
        refine ifN (by intro e; cases e) ?_
        refine bnd (k403 hC hc.2.2.2.2) ?_
        refine bnd (kl hC hc.2.2.2.2) ?_
        refine ifN (fun q => hl (Or.inl q)) ?_
        refine bnd (k403 hC hc.2.2.2.2) ?_
        refine bnd (kl hC hc.2.2.2.2) ?_
        refine ifN (fun q => hl (Or.inr q)) ?_
        refine bnd (crcv (o := 5) (by decide) rfl) ?_
        refine bnd (k_goDown hC) ?_
        rfl
      · rw [fX12_goesOn_28]
        refine ifN hm ?_
        rw [ebit]
        refine ifN ?_ ?_
        · rw [if_neg]
          · decide
          · intro q
            rw [Bool.or_eq_true] at q
            rcases q with q | q
            · exact hl (Or.inl (hb.1.mp q))
            · exact hl (Or.inr (hb.2.mp q))
        · unfold fX12_goesOn_49
          refine ifN hm ?_
          refine bnd mrcv ?_
          refine bnd (m_asks hX hi (by omega)) ?_
          rfl
/-- a node under way, whose child ch is visited -/
def PA (t : TT) (v : Nat → Int32) (i ch : Nat) : Prop := v (11 * i + 0) = 1 ∧ ∃ j, j < t 11 i ∧ v (11 * i + 5) = nI j ∧ cN t i j = ch ∧ ((t 0 i = 4 ∨ t 0 i = 5) → v (11 * i + 1) = nI j) ∧ (t 0 i = 8 → bitOf (v (11 * i + 2)) j = false ∧ bitOf (v (11 * i + 3)) j = false)
/-- the outcome of a visit, or of a child's result: a child from lo on is visited next, or there is a result -/
def OUT (z T : Nat) (t : TT) (i lo : Nat) (v : Nat → Int32) (p : Option Nat) (r : Int32) : Prop := (r = 0 ∧ ∃ ch, lo ≤ ch ∧ PA t v i ch ∧ v 284 = nI ch ∧ p = some (nda z T ch)) ∨ ((r = 1 ∨ r = 2 ∨ r = 3) ∧ v 284 = -1 ∧ p = none)
/-- what changes in v when nodes from i on are visited -/
def LOC (i : Nat) (v v1 : Nat → Int32) : Prop := ∀ k, ((k < 11 * i ∧ k % 11 ≠ 4) ∨ (272 ≤ k ∧ k < 284)) → v1 k = v k
/-- what may change in v when running nodes are aborted -/
def ABC (lo hi : Nat) (v v1 : Nat → Int32) : Prop := ∀ k, ¬ (11 * lo ≤ k ∧ k < 11 * hi ∧ (k % 11 = 0 ∨ k % 11 = 9)) → ¬ (k < 264 ∧ k % 11 = 4) → ¬ (264 ≤ k ∧ k < 272) → k ≠ 290 → k ≠ 291 → k < 294 → v1 k = v k
theorem endV_ch (hW : WF n t) (hi : i < n) (h1 : ¬ (k < 264 ∧ k % 11 = 4)) (h2 : ¬ (264 ≤ k ∧ k < 272)) (h3 : k ≠ 291) : endV t v i k = v k := by
  have hp := plN_ne hW (wf_rng hW hi).2.2.2.2.1 hi
  unfold endV
  split
  · rfl
  · rw [pk_un h3, pk_un (by omega)]
theorem ABC_ab (hW : WF n t) (hi : i < n) : ABC i (i + 1) v (abV t v i) := by
  intro k h0 h1 h2 h3 h4 h5
  unfold abV
  split
  · rfl
  · unfold abV1
    rw [endV_ch hW hi h1 h2 h4, tellV_lo h5, pk_un h3, pk_un (by omega), pk_un (by omega)]
theorem ABC_stop (hW : WF n t) (lo : Nat) : ∀ (m : Nat) (v : Nat → Int32), lo + m ≤ n → ABC lo (lo + m) v (stopV t lo m v)
  | 0, v, _ => fun k _ _ _ _ _ _ => rfl
  | m + 1, v, h => by
    intro k h0 h1 h2 h3 h4 h5
    rw [stopV, ABC_stop hW lo m _ (by omega) k (by omega) h1 h2 h3 h4 h5]
    exact ABC_ab hW (by omega) k (by omega) h1 h2 h3 h4 h5
/-- who runs, runs; and who is no scope has no value of its own -/
def RB (n : Nat) (t : TT) (v : Nat → Int32) : Prop := ∀ i, i < n → (v (11 * i + 0) = 0 ∨ v (11 * i + 0) = 1) ∧ (t 0 i ≠ 14 → v (11 * i + 4) = 0)
theorem plN_14 (hW : WF n t) {key : Nat} (hi : i < n) (hk : k < n) (h : plN t key i = 11 * k + 4) : t 0 k = 14 := by
  have hn := hW.1
  unfold plN at h
  cases e : scO t key i with
  | none => rw [e] at h; have h : 264 + key = 11 * k + 4 := h; omega
  | some u =>
    have hu := scO_lt hW hi e
    rw [e] at h
    have h : 11 * u + 4 = 11 * k + 4 := h
    have : u = k := by omega
    rw [← this]; exact hu.2.1
theorem endV_4 (hW : WF n t) (hi : i < n) (hk : k < n) (h : t 0 k ≠ 14) : endV t v i (11 * k + 4) = v (11 * k + 4) := by
  have hn := hW.1
  unfold endV
  split
  · rfl
  · rw [pk_un (by omega), pk_un (fun e => h (plN_14 hW hi hk e.symm))]
theorem abV_4 (hW : WF n t) (hi : i < n) (hk : k < n) (h : t 0 k ≠ 14) : abV t v i (11 * k + 4) = v (11 * k + 4) := by
  have hn := hW.1
  unfold abV
  split
  · rfl
  · unfold abV1
    rw [endV_4 hW hi hk h, tellV_lo (by omega), pk_un (by omega), pk_un (by omega), pk_un (by omega)]
theorem stop_4 (hW : WF n t) (lo : Nat) (hk : k < n) (h : t 0 k ≠ 14) : ∀ (m : Nat) (v : Nat → Int32), lo + m ≤ n → stopV t lo m v (11 * k + 4) = v (11 * k + 4)
  | 0, _, _ => rfl
  | m + 1, v, hle => by rw [stopV, stop_4 hW lo hk h m _ (by omega), abV_4 hW (by omega) hk h]
theorem abV_0 (hW : WF n t) (hi : i < n) : abV t v i (11 * i + 0) = 0 := by
  have hn := hW.1
  unfold abV
  split
  · rename_i h; exact h
  · unfold abV1
    rw [endV_ch hW hi (by omega) (by omega) (by omega), tellV_lo (by omega), pk_un (by omega), pk_un (by omega), pk_us]
/-- who has been aborted doesn't run -/
theorem stop_0 (hW : WF n t) (lo : Nat) : ∀ (m : Nat) (v : Nat → Int32), lo + m ≤ n → ∀ k, k < n → (lo ≤ k ∧ k < lo + m → stopV t lo m v (11 * k + 0) = 0) ∧ (¬ (lo ≤ k ∧ k < lo + m) → stopV t lo m v (11 * k + 0) = v (11 * k + 0))
  | 0, v, _, k, hk => ⟨fun h => by omega, fun _ => rfl⟩
  | m + 1, v, h, k, hk => by
    have hn := hW.1
    have ih := stop_0 hW lo m (abV t v (lo + m)) (by omega) k hk
    rw [stopV]
    by_cases hm : k = lo + m
    · subst hm
      rw [ih.2 (by omega), abV_0 hW (by omega)]
      exact ⟨fun _ => rfl, fun q => absurd ⟨by omega, by omega⟩ q⟩
    · refine ⟨fun q => ih.1 ⟨q.1, by omega⟩, fun q => ?_⟩
      rw [ih.2 (fun q2 => q ⟨q2.1, by omega⟩)]
      exact ABC_ab hW (by omega) _ (by omega) (by omega) (by omega) (by omega) (by omega) (by omega)
theorem RB_stop (hW : WF n t) {lo m : Nat} (h : lo + m ≤ n) (hB : RB n t v) : RB n t (stopV t lo m v) := by
  intro k hk
  have := stop_0 hW lo m v h k hk
  refine ⟨?_, fun h4 => by rw [stop_4 hW lo hk h4 m v h]; exact (hB k hk).2 h4⟩
  by_cases q : lo ≤ k ∧ k < lo + m
  · exact Or.inl (this.1 q)
  · rw [this.2 q]
    exact (hB k hk).1
/-- what a running node keeps -/
def rs (z T : Nat) (t : TT) (v c : Nat → Int32) (u : Nat → Option Nat) (l : Nat → Int32) (i : Nat) : Prop :=
  ((t 0 i < 2 ∨ t 0 i = 10 ∨ t 0 i = 11 ∨ t 0 i = 13) → c i = v (11 * i + 1) ∧ ∃ k, k ≤ t 1 i ∧ v (11 * i + 1) = nI k ∧ ((t 0 i = 10 ∨ t 0 i = 11) → k < t 1 i)) ∧
  ((t 0 i = 4 ∨ t 0 i = 5) → ∃ j, j < t 11 i ∧ v (11 * i + 1) = nI j ∧ u i = some (nda z T (cN t i j))) ∧
  (t 0 i = 8 → rs8 t v l i)
theorem rs_congr {v1 c1 l1 : Nat → Int32} {u1 : Nat → Option Nat} (h1 : v1 (11 * i + 1) = v (11 * i + 1)) (h2 : v1 (11 * i + 2) = v (11 * i + 2)) (h3 : v1 (11 * i + 3) = v (11 * i + 3)) (hc : c1 i = c i) (hu : u1 i = u i) (hl : ∀ j, j < t 11 i → l1 (cN t i j) = l (cN t i j)) (h : rs z T t v c u l i) : rs z T t v1 c1 u1 l1 i := by
  unfold rs rs8
  rw [h1, h2, h3, hc, hu]
  refine ⟨h.1, h.2.1, fun q => ⟨fun j hj => ?_, (h.2.2 q).2⟩⟩
  rw [hl j hj]
  exact (h.2.2 q).1 j hj
def RS (z T n : Nat) (t : TT) (v c : Nat → Int32) (u : Nat → Option Nat) (l : Nat → Int32) : Prop := ∀ i, i < n → v (11 * i + 0) = 1 → rs z T t v c u l i
theorem RS_stop (hW : WF n t) {lo m : Nat} (h : lo + m ≤ n) (k : Nat) (hk : k < n) (hr : v (11 * k + 0) = 1 → rs z T t v c u l k) (h1 : stopV t lo m v (11 * k + 0) = 1) : rs z T t (stopV t lo m v) c u l k := by
  have hn := hW.1
  have h0 := stop_0 hW lo m v h k hk
  have hA := ABC_stop hW lo m v h
  have hv : v (11 * k + 0) = 1 := by
    by_cases q : lo ≤ k ∧ k < lo + m
    · rw [h0.1 q] at h1
      exact absurd h1 (by decide)
    · rw [← h0.2 q]; exact h1
  exact rs_congr (hA _ (by omega) (by omega) (by omega) (by omega) (by omega) (by omega)) (hA _ (by omega) (by omega) (by omega) (by omega) (by omega) (by omega)) (hA _ (by omega) (by omega) (by omega) (by omega) (by omega) (by omega)) rfl rfl (fun _ _ => rfl) (hr hv)
end PAR
