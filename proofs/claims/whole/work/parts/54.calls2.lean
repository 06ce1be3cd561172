/-! more calls -/
/-- how many of the first m run -/
def rnV (v : Nat → Int32) : Nat → Nat
  | 0 => 0
  | m + 1 => rnV v m + (if v (11 * m + 0) = 1 then 1 else 0)
section CALLT
variable {z b q T n i j k w f a d : Nat} {S0 M0 S M : HS} {v v1 c l : Nat → Int32} {u : Nat → Option Nat} {p : Option Nat} {tr tr1 : TR} {t : TT} {x y r : Int32}
theorem k_child38 (hC : CX z T n t S0) (hi : i < n) (hj : j < t 11 i) : ∀ (d fuel k : Nat), k + d = j → d < fuel → fX11_child_38 (Yc z) (SC z T n S0 v c u l p tr) fuel (nI j) (chO z T t i k) (nI k) = some (nI (cN t i j))
  | _, 0, _, _, h => absurd h (Nat.not_lt_zero _)
  | 0, fuel + 1, k, he, _ => by
    have : k = j := by omega
    subst this
    have hnum := wf_num hC.2.1 hi
    have hc := wf_ch hC.2.1 hi hj
    rw [fX11_child_38, show chO z T t i k = some (nda z T (cN t i k)) from if_pos hj]
    refine ifP (nI_le (Nat.le_refl _) (by omega)) ?_
    refine ifN (by intro e; cases e) ?_
    refine bnd (k400 hC hc.2.2.2.2) ?_
    rfl
  | d + 1, fuel + 1, k, he, hf => by
    have hnum := wf_num hC.2.1 hi
    have hc := wf_ch hC.2.1 hi (j := k) (by omega)
    rw [fX11_child_38, show chO z T t i k = some (nda z T (cN t i k)) from if_pos (by omega)]
    refine ifN (nI_ge (by omega) (by omega)) ?_
    refine ifN (by intro e; cases e) ?_
    refine bnd (k412' hC hi (by omega)) ?_
    rw [nI_1]
    exact k_child38 hC hi hj d fuel (k + 1) (by omega) (by omega)
theorem x_child (h : REL z b q S M) : ∃ r, fX11_child (Yc z) S (some z) x y = some r ∧ fX12_child (Ym b) M (some b) x y = some r := by
  obtain ⟨T, n, t, S0, M0, v, c, u, l, p, tr, rfl, rfl, hC, hX, hS, hq, hU, hM, hTX, hO, hV⟩ := h
  have hn := CX_n hC
  rcases n_cases (v := v) (c := c) (u := u) (l := l) (p := p) (tr := tr) hC hU hM x with ⟨h1, h2⟩ | ⟨i, hi, rfl, h1, h2⟩
  · refine ⟨-1001, ?_, ?_⟩
    · unfold fX11_child
      refine bnd (w1107 hC hU) ?_
      refine bnd (w8rcv hC) ?_
      refine bnd h1 ?_
      exact if_pos rfl
    · unfold fX12_child
      refine bnd (m1208 hM) ?_
      refine bnd h2 ?_
      exact if_pos rfl
  · have hnum := wf_num hC.2.1 hi
    by_cases hy : y < 0
    · refine ⟨-1001, ?_, ?_⟩
      · unfold fX11_child
        refine bnd (w1107 hC hU) ?_
        refine bnd (w8rcv hC) ?_
        refine bnd h1 ?_
        refine ifN (by intro e; cases e) ?_
        exact if_pos hy
      · unfold fX12_child
        refine bnd (m1208 hM) ?_
        refine bnd h2 ?_
        refine ifN (by decide) ?_
        refine if_neg ?_
        rw [Int32.lt_iff_toInt_lt] at hy
        rw [Int32.le_iff_toInt_le]
        omega
    · obtain ⟨j, hj, rfl⟩ := nI_of hy
      by_cases hlt : j < t 11 i
      · have hc := wf_ch hC.2.1 hi hlt
        refine ⟨nI (cN t i j), ?_, ?_⟩
        · unfold fX11_child
          refine bnd (w1107 hC hU) ?_
          refine bnd (w8rcv hC) ?_
          refine bnd h1 ?_
          refine ifN (by intro e; cases e) ?_
          refine ifN hy ?_
          refine bnd (k407 hC hi) ?_
          refine ifP (nI_lt hlt (by omega)) ?_
          refine bnd (k410' hC hi) ?_
          exact k_child38 hC hi hlt j FU 0 (by omega) (by unfold FU; omega)
        · unfold fX12_child
          refine bnd (m1208 hM) ?_
          refine bnd h2 ?_
          refine ifN (by decide) ?_
          refine ifP (nI_pos' hj) ?_
          refine bnd mrcv ?_
          refine bnd (m_child hX hi hlt) ?_
          exact if_pos (nI_pos' (by omega))
      · refine ⟨-1001, ?_, ?_⟩
        · unfold fX11_child
          refine bnd (w1107 hC hU) ?_
          refine bnd (w8rcv hC) ?_
          refine bnd h1 ?_
          refine ifN (by intro e; cases e) ?_
          refine ifN hy ?_
          refine bnd (k407 hC hi) ?_
          exact if_neg (nI_nlt (by omega) hj)
        · unfold fX12_child
          refine bnd (m1208 hM) ?_
          refine bnd h2 ?_
          refine ifN (by decide) ?_
          refine ifP (nI_pos' hj) ?_
          refine bnd mrcv ?_
          refine bnd (m_childOf hX hi hj) ?_
          rw [if_neg hlt]
          exact if_neg (by decide)
theorem k_uw (hC : CX z T n t S0) (hk : k < 2 ^ 31) : ∀ (d i1 fuel : Nat), i1 < n → t 3 i1 = d + 1 → PTH t v d i1 → d < fuel → fX11_underWay_29 (Yc z) (SC z T n S0 v c u l p tr) fuel (nI k) (if i1 = 0 then none else some (nda z T (t 2 i1))) = some (if k < d then v (273 + k) else -1001)
  | _, _, 0, _, _, _, h => absurd h (Nat.not_lt_zero _)
  | 0, i1, fuel + 1, hi, hd, _, _ => by
    have h1 := wf_dep1 hC.2.1 hi
    rw [fX11_underWay_29, if_pos (h1.2.2.mp hd), if_neg (Nat.not_lt_zero _)]
    exact if_pos rfl
  | d + 1, i1, fuel + 1, hi, hd, hP, hf => by
    have hn := CX_n hC
    have h1 := wf_dep1 hC.2.1 hi
    have h0 : i1 ≠ 0 := fun e => by have := h1.2.2.mpr e; omega
    have hu := wf_up hC.2.1 hi (by omega)
    have ha : t 2 i1 < n := by omega
    rw [fX11_underWay_29, if_neg h0]
    refine ifN (by intro e; cases e) ?_
    refine bnd (k406 hC ha) ?_
    rw [show t 3 (t 2 i1) = d + 1 by omega, nI_pred]
    by_cases e : k = d
    · subst e
      refine ifP rfl ?_
      refine bnd (k400 hC ha) ?_
      rw [if_pos (by omega), hP.1]
    · refine ifN (fun h => e ((nI_eq (by omega) (by omega)).mp h).symm) ?_
      refine bnd (k409 hC ha) ?_
      rw [k_uw hC hk d (t 2 i1) fuel ha (by omega) hP.2.2 (by omega)]
      by_cases e2 : k < d
      · rw [if_pos e2, if_pos (by omega)]
      · rw [if_neg e2, if_neg (by omega)]
theorem PTH_v (hW : WF n t) : ∀ (d i1 : Nat), i1 < n → t 3 i1 = d + 1 → PTH t v d i1 → ∀ k, k < d → ∃ a, a < n ∧ v (273 + k) = nI a
  | 0, _, _, _, _, _, h => absurd h (Nat.not_lt_zero _)
  | d + 1, i1, hi, hd, hP, k, hk => by
    have h1 := wf_dep1 hW hi
    have h0 : i1 ≠ 0 := fun e => by have := h1.2.2.mpr e; omega
    have hu := wf_up hW hi (by omega)
    by_cases e : k = d
    · subst e; exact ⟨t 2 i1, by omega, hP.1⟩
    · exact PTH_v hW d (t 2 i1) (by omega) (by omega) hP.2.2 k (by omega)
theorem x_underWay (h : REL z b q S M) : ∃ r, fX11_underWay (Yc z) S (some z) x = some r ∧ fX12_underWay (Ym b) M (some b) x = some r := by
  obtain ⟨T, n, t, S0, M0, v, c, u, l, p, tr, rfl, rfl, hC, hX, hS, hq, hU, hM, hTX, hO, hV⟩ := h
  have hn := CX_n hC
  unfold fX11_underWay fX12_underWay
  rcases hS.2.2.2 with ⟨rfl, h284⟩ | ⟨i, hi, rfl, h284, h272, hPT⟩
  · refine ⟨-1001, ?_, ?_⟩
    · refine bnd (w1104 hC) ?_
      refine bnd (kN hC) ?_
      exact if_pos rfl
    · refine bnd (mR1200 (SV_fix hX.1)) ?_
      refine bnd (SV_gA (j := 284) (by omega)) ?_
      rw [h284]
      exact if_pos (by decide)
  · have hd := wf_dep1 hC.2.1 hi
    by_cases hx : 0 ≤ x
    · have hx0 : ¬ x < 0 := i32_le hx
      obtain ⟨k, hk, rfl⟩ := nI_of hx0
      refine ⟨if k < t 3 i - 1 then v (273 + k) else -1001, ?_, ?_⟩
      · refine bnd (w1104 hC) ?_
        refine bnd (kN hC) ?_
        refine ifN (by intro e; cases e) ?_
        refine ifP hx ?_
        refine bnd (w1104 hC) ?_
        refine bnd (kN hC) ?_
        refine bnd (k409 hC hi) ?_
        exact k_uw hC hk (t 3 i - 1) i FU hi (by omega) hPT (by unfold FU; omega)
      · refine bnd (mR1200 (SV_fix hX.1)) ?_
        refine bnd (SV_gA (j := 284) (by omega)) ?_
        rw [h284]
        refine ifN (nI_pos (by omega)) ?_
        refine bnd (mR1200 (SV_fix hX.1)) ?_
        refine bnd (SV_gA (j := 272) (by omega)) ?_
        rw [h272]
        by_cases hlt : k < t 3 i - 1
        · refine bnd (isIn_1 hx0 (nI_m1nlt (by omega) hlt)) ?_
          rw [if_pos hlt]
          refine ifN (by decide) ?_
          refine bnd (mR1200 (SV_fix hX.1)) ?_
          rw [show (273 : Int32) = nI 273 from rfl, nI_add]
          refine bnd (SV_gA (j := 273 + k) (by omega)) ?_
          rfl
        · refine bnd (isIn_0 (Or.inr (nI_m1lt (by omega) (nI_le (by omega) hk)))) ?_
          rw [if_neg hlt]
          exact if_pos rfl
    · refine ⟨-1001, ?_, ?_⟩
      · refine bnd (w1104 hC) ?_
        refine bnd (kN hC) ?_
        refine ifN (by intro e; cases e) ?_
        exact if_neg hx
      · refine bnd (mR1200 (SV_fix hX.1)) ?_
        refine bnd (SV_gA (j := 284) (by omega)) ?_
        rw [h284]
        refine ifN (nI_pos (by omega)) ?_
        refine bnd (mR1200 (SV_fix hX.1)) ?_
        refine bnd (SV_gA (j := 272) (by omega)) ?_
        refine bnd (isIn_0 (Or.inl (i32_lt hx))) ?_
        exact if_pos rfl
theorem x_pending (h : REL z b q S M) : ∃ r, fX11_pending (Yc z) S (some z) = some r ∧ fX12_pending (Ym b) M (some b) = some r := by
  obtain ⟨T, n, t, S0, M0, v, c, u, l, p, tr, rfl, rfl, hC, hX, hS, hq, hU, hM, hTX, hO, hV⟩ := h
  have hn := CX_n hC
  unfold fX11_pending fX12_pending
  rcases hS.2.2.2 with ⟨rfl, h284⟩ | ⟨i, hi, rfl, h284, h272, hPT⟩
  · refine ⟨-1001, ?_, ?_⟩
    · refine bnd (w1104 hC) ?_
      refine bnd (kN hC) ?_
      exact if_pos rfl
    · refine bnd (mR1200 (SV_fix hX.1)) ?_
      refine bnd (SV_gA (j := 284) (by omega)) ?_
      rw [h284]
      exact if_pos (by decide)
  · refine ⟨nI i, ?_, ?_⟩
    · refine bnd (w1104 hC) ?_
      refine bnd (kN hC) ?_
      refine ifN (by intro e; cases e) ?_
      refine bnd (w1104 hC) ?_
      refine bnd (kN hC) ?_
      refine bnd (k400 hC hi) ?_
      rfl
    · refine bnd (mR1200 (SV_fix hX.1)) ?_
      refine bnd (SV_gA (j := 284) (by omega)) ?_
      rw [h284]
      refine ifN (nI_pos (by omega)) ?_
      refine bnd (mR1200 (SV_fix hX.1)) ?_
      refine bnd (SV_gA (j := 284) (by omega)) ?_
      rw [h284]
theorem k_entries (hC : CX z T n t S0) (hq : tr.1 < 2 ^ 31) : fX2_entries (Yc z) (SC z T n S0 v c u l p tr) (some (z + 8)) = some (nI (min tr.1 30)) := by
  unfold fX2_entries
  refine bnd (k208 hC) ?_
  show some (jmin (nI tr.1) 30) = _
  unfold jmin
  by_cases h : 30 < tr.1
  · rw [if_pos (show (30 : Int32) < nI tr.1 from nI_lt (a := 30) h hq), show min tr.1 30 = 30 by omega]
    rfl
  · rw [if_neg (show ¬ (30 : Int32) < nI tr.1 from nI_nlt (b := tr.1) (a := 30) (by omega) (by decide)), show min tr.1 30 = tr.1 by omega]
theorem k_placeOf (hC : CX z T n t S0) (hq : tr.1 < 2 ^ 31) (hj : j < min tr.1 30) : fX2_placeOf (Yc z) (SC z T n S0 v c u l p tr) (some (z + 8)) (nI j) = some (nI ((tr.1 - 1 - j) % 30)) := by
  unfold fX2_placeOf
  refine bnd (k208 hC) ?_
  rw [show (1 : Int32) = nI 1 from rfl, pk_sub (by omega), pk_sub (by omega)]
  refine bnd (k_fmod (by omega)) ?_
  rfl
theorem x_trace (h : REL z b q S M) (hq31 : q < 2 ^ 31) : ∃ r, fX11_trace (Yc z) S (some z) x y = some r ∧ fX12_trace (Ym b) M (some b) x y = some r := by
  obtain ⟨T, n, t, S0, M0, v, c, u, l, p, tr, rfl, rfl, hC, hX, hS, hq, hU, hM, hTX, hO, hV⟩ := h
  have hn := CX_n hC
  have hI := hS.2.1
  have htr : tr.1 < 2 ^ 31 := by omega
  by_cases hx : x < 0
  · refine ⟨-1001, ?_, ?_⟩
    · unfold fX11_trace
      exact if_pos hx
    · unfold fX12_trace
      refine bnd (mR1200 (SV_fix hX.1)) ?_
      refine bnd (SV_gA (j := 294) (by omega)) ?_
      refine bnd (isIn_0 (Or.inl hx)) ?_
      exact if_pos rfl
  · obtain ⟨j, hj, rfl⟩ := nI_of hx
    by_cases hlt : j < min tr.1 30
    · have hIj := hI.2 j hlt
      have eA : ∀ r, (if y = 0 then some (v (295 + 2 * j)) else if y = 1 then some (v (296 + 2 * j)) else some (-1002)) = r → fX11_trace (Yc z) (SC z T n S0 v c u l p tr) (some z) (nI j) y = r := by
        intro r h
        unfold fX11_trace
        refine ifN hx ?_
        refine bnd (w1104 hC) ?_
        refine bnd (crcv (o := 8) (by decide) rfl) ?_
        refine bnd (k_entries hC htr) ?_
        refine ifP (nI_lt hlt (by omega)) ?_
        rw [← h]
        clear h
        by_cases h0 : y = 0
        · rw [if_pos h0, if_pos h0]
          unfold fX11_trace_32
          refine ifP h0 ?_
          refine bnd (w1104 hC) ?_
          refine bnd (crcv (o := 8) (by decide) rfl) ?_
          refine bnd (a := v (295 + 2 * j)) ?_ rfl
          unfold fX2_tracedNode
          refine bnd (k209 hC) ?_
          refine bnd (crcv (o := 8) (by decide) rfl) ?_
          refine bnd (k_placeOf hC htr hlt) ?_
          refine bnd (cA (o := 9) (k := 14) (by decide) rfl (show (tr.1 - 1 - j) % 30 < 30 by omega)) ?_
          rw [← hIj.1]
          show some (SC3 z S0.2.2.1 v tr (z + 9) ((tr.1 - 1 - j) % 30)) = _
          unfold SC3
          rw [if_neg (by omega), if_pos rfl]
        · rw [if_neg h0, if_neg h0]
          by_cases h1 : y = 1
          · rw [if_pos h1, if_pos h1]
            unfold fX11_trace_32
            refine ifN h0 ?_
            refine bnd (w1104 hC) ?_
            refine bnd (crcv (o := 8) (by decide) rfl) ?_
            refine bnd (a := v (296 + 2 * j)) ?_ rfl
            unfold fX2_tracedResult
            refine bnd (k210 hC) ?_
            refine bnd (crcv (o := 8) (by decide) rfl) ?_
            refine bnd (k_placeOf hC htr hlt) ?_
            refine bnd (cA (o := 10) (k := 14) (by decide) rfl (show (tr.1 - 1 - j) % 30 < 30 by omega)) ?_
            rw [← hIj.2]
            show some (SC3 z S0.2.2.1 v tr (z + 10) ((tr.1 - 1 - j) % 30)) = _
            unfold SC3
            rw [if_neg (by omega), if_neg (by omega), if_pos rfl]
          · rw [if_neg h1, if_neg h1]
      have eB : ∀ r e, fX12_isIn (Ym b) (SV b M0 v) y 0 1 = some e → (if e = 0 then some (-1002) else (gA (Ym b) 14 (some (b + 1)) ((295 + (2 * nI j)) + y) (SV b M0 v)).bind fun v46 => some v46) = r → fX12_trace (Ym b) (SV b M0 v) (some b) (nI j) y = r := by
        intro r e he h
        unfold fX12_trace
        refine bnd (mR1200 (SV_fix hX.1)) ?_
        refine bnd (SV_gA (j := 294) (by omega)) ?_
        rw [hI.1]
        refine bnd (isIn_1 hx (nI_m1nlt (by omega) hlt)) ?_
        refine ifN (by decide) ?_
        refine bnd he ?_
        rw [← h]
        by_cases h0 : e = 0
        · rw [if_pos h0, if_pos h0]
        · rw [if_neg h0, if_neg h0]
          refine bnd (mR1200 (SV_fix hX.1)) ?_
          rfl
      rcases ix_cases (n := 2) y (by omega) with hy | ⟨hy, hy2⟩ | ⟨k, hk, rfl⟩
      · refine ⟨-1002, eA _ ?_, eB _ 0 (isIn_0 (Or.inl hy)) (if_pos rfl)⟩
        refine ifN (by rintro rfl; exact absurd hy (by decide)) ?_
        refine ifN (by rintro rfl; exact absurd hy (by decide)) ?_
        rfl
      · refine ⟨-1002, eA _ ?_, eB _ 0 (isIn_0 (Or.inr (show 1 < y from nI_m1lt (n := 2) (by omega) hy2))) (if_pos rfl)⟩
        refine ifN (by rintro rfl; exact absurd hy2 (by decide)) ?_
        refine ifN (by rintro rfl; exact absurd hy2 (by decide)) ?_
        rfl
      · have e1 : ∀ k, (295 : Int32) + 2 * nI j + nI k = nI (295 + 2 * j + k) := fun k => by
          rw [show (295 : Int32) = nI 295 from rfl, show (2 : Int32) = nI 2 from rfl, pk_mul, nI_add, nI_add]
        have hk' : k = 0 ∨ k = 1 := by omega
        rcases hk' with rfl | rfl
        · refine ⟨v (295 + 2 * j), eA _ rfl, eB _ 1 (isIn_1 (by decide) (by decide)) ?_⟩
          refine ifN (by decide) ?_
          rw [e1]
          refine bnd (SV_gA (j := 295 + 2 * j + 0) (by omega)) ?_
          rfl
        · refine ⟨v (296 + 2 * j), eA _ rfl, eB _ 1 (isIn_1 (by decide) (by decide)) ?_⟩
          refine ifN (by decide) ?_
          rw [e1]
          refine bnd (SV_gA (j := 295 + 2 * j + 1) (by omega)) ?_
          rw [show 295 + 2 * j + 1 = 296 + 2 * j by omega]
    · refine ⟨-1001, ?_, ?_⟩
      · unfold fX11_trace
        refine ifN hx ?_
        refine bnd (w1104 hC) ?_
        refine bnd (crcv (o := 8) (by decide) rfl) ?_
        refine bnd (k_entries hC htr) ?_
        exact if_neg (nI_nlt (by omega) hj)
      · unfold fX12_trace
        refine bnd (mR1200 (SV_fix hX.1)) ?_
        refine bnd (SV_gA (j := 294) (by omega)) ?_
        rw [hI.1]
        refine bnd (isIn_0 (Or.inr (nI_m1lt (by omega) (nI_le (by omega) hj)))) ?_
        exact if_pos rfl
theorem k_rn (hC : CX z T n t S0) (hU : RUNF z T n S0) (hB : RB n t v) : ∀ (d fuel m : Nat), m + d = n → d < fuel → fX8_runningNodes_4 (Yc z) (SC z T n S0 v c u l p tr) fuel (some (z + T)) (nI (rnV v m)) (nI m) = some (nI (rnV v n))
  | _, 0, _, _, h => absurd h (Nat.not_lt_zero _)
  | 0, fuel + 1, m, he, _ => by
    have hn := CX_n hC
    have : m = n := by omega
    subst this
    rw [fX8_runningNodes_4]
    refine bnd (w801 hC hU) ?_
    exact if_pos (nI_le (Nat.le_refl _) (by omega))
  | d + 1, fuel + 1, m, he, hf => by
    have hn := CX_n hC
    have hT := kd_T hC.1
    have hm : m < n := by omega
    rw [fX8_runningNodes_4]
    refine bnd (w801 hC hU) ?_
    refine ifN (nI_ge (by omega) (by omega)) ?_
    refine bnd (w800 hC) ?_
    refine bnd (caL hT.2.2.1 hT.2.2.2.1) ?_
    rw [hT.2.2.2.2]
    refine ifN (nI_ge (by omega) (by omega)) ?_
    refine bnd (w800 hC) ?_
    refine bnd (cQnode (fixSC hC) hC.1 (by omega)) ?_
    refine bnd (k403 hC hm) ?_
    refine bnd (kL (w := 0) hC hm rfl) ?_
    have ih := k_rn hC hU hB d fuel (m + 1) (by omega) (by omega)
    rw [rnV] at ih
    rw [nI_1]
    rcases (hB m hm).1 with h0 | h0
    · rw [h0] at ih ⊢
      refine ifP rfl ?_
      rw [Int32.add_zero]
      exact ih
    · rw [h0] at ih ⊢
      refine ifN (by decide) ?_
      rw [nI_1]
      exact ih
theorem m_rn (hX : MX b n t M0) (hM : M0.1 1208 b = nI n) (hB : RB n t v) {e : Int32} : ∀ (d fuel m : Nat), m + d = n → d < fuel → fX12_count_18 (Ym b) (SV b M0 v) fuel (some b) e (nI (rnV v m)) (nI m) = (if e = 0 then some (nI n) else if e = 7 then some (nI (rnV v n)) else if e = 9 then some (v 294) else if e = 10 then some (M0.1 1206 b) else (gA (Ym b) 14 (some (b + 1)) (285 + e) (SV b M0 v)).bind fun v101 => some v101)
  | _, 0, _, _, h => absurd h (Nat.not_lt_zero _)
  | 0, fuel + 1, m, he, _ => by
    have hn := hX.2.2.1
    have : m = n := by omega
    subst this
    rw [fX12_count_18]
    refine bnd (m1208 hM) ?_
    refine ifP (nI_le (Nat.le_refl _) (by omega)) ?_
    by_cases h0 : e = 0
    · rw [if_pos h0, if_pos h0]
      refine bnd (m1208 hM) ?_
      rfl
    rw [if_neg h0, if_neg h0]
    by_cases h0 : e = 7
    · rw [if_pos h0, if_pos h0]
    rw [if_neg h0, if_neg h0]
    by_cases h0 : e = 9
    · rw [if_pos h0, if_pos h0]
      refine bnd (mR1200 (SV_fix hX.1)) ?_
      refine bnd (SV_gA (j := 294) (by omega)) ?_
      rfl
    rw [if_neg h0, if_neg h0]
    by_cases h0 : e = 10
    · rw [if_pos h0, if_pos h0]
      refine bnd mIo ?_
      rfl
    rw [if_neg h0, if_neg h0]
    refine bnd (mR1200 (SV_fix hX.1)) ?_
    rfl
  | d + 1, fuel + 1, m, he, hf => by
    have hn := hX.2.2.1
    have hm : m < n := by omega
    rw [fX12_count_18]
    refine bnd (m1208 hM) ?_
    refine ifN (nI_ge (by omega) (by omega)) ?_
    refine bnd mrcv ?_
    refine bnd (m_of (w := 0) hX.1 rfl (by omega)) ?_
    have ih := m_rn hX hM hB (e := e) d fuel (m + 1) (by omega) (by omega)
    rw [rnV] at ih
    rw [nI_1]
    rcases (hB m hm).1 with h0 | h0
    · rw [h0] at ih ⊢
      rw [Int32.add_zero]
      exact ih
    · rw [h0] at ih ⊢
      rw [nI_1]
      exact ih
theorem w701 (hC : CX z T n t S0) : gI (Yc z) 7 701 (some (z + 1)) (SC z T n S0 v c u l p tr) = some (S0.1 701 (z + 1)) := gI_of (o := 1) (by decide) rfl (sI hC (by decide))
theorem x_count (h : REL z b q S M) (hq31 : q < 2 ^ 31) : ∃ r, fX11_count (Yc z) S (some z) x = some r ∧ fX12_count (Ym b) M (some b) x = some r := by
  obtain ⟨T, n, t, S0, M0, v, c, u, l, p, tr, rfl, rfl, hC, hX, hS, hq, hU, hM, hTX, hO, hV⟩ := h
  have hn := CX_n hC
  have htr : tr.1 < 2 ^ 31 := by omega
  obtain ⟨k, hk, hk1, hk2, hk3⟩ := hTX
  rcases ix_cases (n := 11) x (by omega) with hx | ⟨hx, hx2⟩ | ⟨e, he, rfl⟩
  · refine ⟨-1002, ?_, ?_⟩
    · have hne : ∀ m : Nat, m < 12 → ¬ x = nI m := fun m hm e => by rw [e] at hx; exact nI_pos (by omega) hx
      unfold fX11_count
      refine ifN (hne 0 (by omega)) ?_
      refine ifN (hne 1 (by omega)) ?_
      refine ifN (hne 2 (by omega)) ?_
      refine ifN (hne 3 (by omega)) ?_
      refine ifN (hne 4 (by omega)) ?_
      refine ifN (hne 5 (by omega)) ?_
      refine ifN (hne 6 (by omega)) ?_
      refine ifN (hne 7 (by omega)) ?_
      refine ifN (hne 8 (by omega)) ?_
      refine ifN (hne 9 (by omega)) ?_
      refine ifN (hne 10 (by omega)) ?_
      rfl
    · unfold fX12_count
      refine bnd (isIn_0 (Or.inl hx)) ?_
      exact if_pos rfl
  · refine ⟨-1002, ?_, ?_⟩
    · have hne : ∀ m : Nat, m < 11 → ¬ x = nI m := fun m hm e => by rw [e] at hx2; exact nI_ge (by omega) (by omega) hx2
      unfold fX11_count
      refine ifN (hne 0 (by omega)) ?_
      refine ifN (hne 1 (by omega)) ?_
      refine ifN (hne 2 (by omega)) ?_
      refine ifN (hne 3 (by omega)) ?_
      refine ifN (hne 4 (by omega)) ?_
      refine ifN (hne 5 (by omega)) ?_
      refine ifN (hne 6 (by omega)) ?_
      refine ifN (hne 7 (by omega)) ?_
      refine ifN (hne 8 (by omega)) ?_
      refine ifN (hne 9 (by omega)) ?_
      refine ifN (hne 10 (by omega)) ?_
      rfl
    · unfold fX12_count
      refine bnd (isIn_0 (Or.inr (show 10 < x from nI_m1lt (n := 11) (by omega) hx2))) ?_
      exact if_pos rfl
  · have eB : ∀ r, (if nI e = 0 then some (nI n) else if nI e = 7 then some (nI (rnV v n)) else if nI e = 9 then some (v 294) else if nI e = 10 then some (M0.1 1206 b) else some (v (285 + e))) = r → fX12_count (Ym b) (SV b M0 v) (some b) (nI e) = r := by
      intro r h
      unfold fX12_count
      refine bnd (isIn_1 (nI_pos (by omega)) (nI_nlt (a := 10) (by omega) (by decide))) ?_
      refine ifN (by decide) ?_
      refine (m_rn (e := nI e) hX hM hS.1 n FU 0 (by omega) (by unfold FU; omega)).trans ?_
      rw [← h, show (285 : Int32) = nI 285 from rfl, nI_add, SV_gA (by omega)]
      rfl
    have he' : e = 0 ∨ e = 1 ∨ e = 2 ∨ e = 3 ∨ e = 4 ∨ e = 5 ∨ e = 6 ∨ e = 7 ∨ e = 8 ∨ e = 9 ∨ e = 10 := by omega
    rcases he' with rfl | rfl | rfl | rfl | rfl | rfl | rfl | rfl | rfl | rfl | rfl
    · refine ⟨nI n, ?_, eB _ rfl⟩
      unfold fX11_count
      refine ifP (by decide) ?_
      refine bnd (w1107 hC hU) ?_
      refine bnd (w801 hC hU) ?_
      rfl
    · refine ⟨v 286, ?_, eB _ rfl⟩
      unfold fX11_count
      refine ifN (by decide) ?_
      refine ifP (by decide) ?_
      refine bnd (w1104 hC) ?_
      refine bnd (kG (w := 286) hC rfl) ?_
      rfl
    · refine ⟨v 287, ?_, eB _ rfl⟩
      unfold fX11_count
      refine ifN (by decide) ?_
      refine ifN (by decide) ?_
      refine ifP (by decide) ?_
      refine bnd (w1104 hC) ?_
      refine bnd (kG (w := 287) hC rfl) ?_
      rfl
    · refine ⟨v 288, ?_, eB _ rfl⟩
      unfold fX11_count
      refine ifN (by decide) ?_
      refine ifN (by decide) ?_
      refine ifN (by decide) ?_
      refine ifP (by decide) ?_
      refine bnd (w1104 hC) ?_
      refine bnd (kG (w := 288) hC rfl) ?_
      rfl
    · refine ⟨v 289, ?_, eB _ rfl⟩
      unfold fX11_count
      refine ifN (by decide) ?_
      refine ifN (by decide) ?_
      refine ifN (by decide) ?_
      refine ifN (by decide) ?_
      refine ifP (by decide) ?_
      refine bnd (w1104 hC) ?_
      refine bnd (kG (w := 289) hC rfl) ?_
      rfl
    · refine ⟨v 290, ?_, eB _ rfl⟩
      unfold fX11_count
      refine ifN (by decide) ?_
      refine ifN (by decide) ?_
      refine ifN (by decide) ?_
      refine ifN (by decide) ?_
      refine ifN (by decide) ?_
      refine ifP (by decide) ?_
      refine bnd (w1104 hC) ?_
      refine bnd (kG (w := 290) hC rfl) ?_
      rfl
    · refine ⟨v 291, ?_, eB _ rfl⟩
      unfold fX11_count
      refine ifN (by decide) ?_
      refine ifN (by decide) ?_
      refine ifN (by decide) ?_
      refine ifN (by decide) ?_
      refine ifN (by decide) ?_
      refine ifN (by decide) ?_
      refine ifP (by decide) ?_
      refine bnd (w1104 hC) ?_
      refine bnd (kG (w := 291) hC rfl) ?_
      rfl
    · refine ⟨nI (rnV v n), ?_, eB _ rfl⟩
      unfold fX11_count
      refine ifN (by decide) ?_
      refine ifN (by decide) ?_
      refine ifN (by decide) ?_
      refine ifN (by decide) ?_
      refine ifN (by decide) ?_
      refine ifN (by decide) ?_
      refine ifN (by decide) ?_
      refine ifP (by decide) ?_
      refine bnd (w1107 hC hU) ?_
      refine bnd (w8rcv hC) ?_
      refine bnd (a := nI (rnV v n)) ?_ rfl
      unfold fX8_runningNodes
      exact k_rn hC hU hS.1 n FU 0 (by omega) (by unfold FU; omega)
    · refine ⟨v 293, ?_, eB _ rfl⟩
      unfold fX11_count
      refine ifN (by decide) ?_
      refine ifN (by decide) ?_
      refine ifN (by decide) ?_
      refine ifN (by decide) ?_
      refine ifN (by decide) ?_
      refine ifN (by decide) ?_
      refine ifN (by decide) ?_
      refine ifN (by decide) ?_
      refine ifP (by decide) ?_
      refine bnd (w1104 hC) ?_
      refine bnd (kG (w := 293) hC rfl) ?_
      rfl
    · refine ⟨v 294, ?_, eB _ rfl⟩
      unfold fX11_count
      refine ifN (by decide) ?_
      refine ifN (by decide) ?_
      refine ifN (by decide) ?_
      refine ifN (by decide) ?_
      refine ifN (by decide) ?_
      refine ifN (by decide) ?_
      refine ifN (by decide) ?_
      refine ifN (by decide) ?_
      refine ifN (by decide) ?_
      refine ifP (by decide) ?_
      refine bnd (w1104 hC) ?_
      refine bnd (crcv (o := 8) (by decide) rfl) ?_
      refine bnd (k_entries hC htr) ?_
      rw [hS.2.1.1]
    · refine ⟨nI k, ?_, eB _ (by rw [hk2]; rfl)⟩
      unfold fX11_count
      refine ifN (by decide) ?_
      refine ifN (by decide) ?_
      refine ifN (by decide) ?_
      refine ifN (by decide) ?_
      refine ifN (by decide) ?_
      refine ifN (by decide) ?_
      refine ifN (by decide) ?_
      refine ifN (by decide) ?_
      refine ifN (by decide) ?_
      refine ifN (by decide) ?_
      refine ifP (by decide) ?_
      refine bnd (cR1100_0 (fixSC hC)) ?_
      refine bnd (w701 hC) ?_
      rw [hk1]
theorem k_code {z o : Nat} {k : Nat} (ho : o < 269 ∧ kdC o = 7 ∧ o + 1 < 269 ∧ kdC (o + 1) = 13 ∧ lnC (o + 1) = 70) (hk : k ≤ 70) {S : HS} (h1 : S.1 701 (z + o) = nI k) (h2 : S.2.1 700 (z + o) = some (z + (o + 1))) : fX7_codeAt (Yc z) S (some (z + o)) x = some (if x < 0 then -1 else if nI k ≤ x then -1 else S.2.2.1 (z + (o + 1)) x.toNatClampNeg) := by
  unfold fX7_codeAt
  by_cases hx : x < 0
  · rw [if_pos hx, if_pos hx]
  rw [if_neg hx, if_neg hx]
  refine bnd (gI_of ho.1 ho.2.1 h1) ?_
  by_cases hx2 : nI k ≤ x
  · rw [if_pos hx2, if_pos hx2]
  rw [if_neg hx2, if_neg hx2]
  obtain ⟨j, hj, rfl⟩ := nI_of hx
  have hjk : j < k := by
    by_cases e : j < k
    · exact e
    · exact absurd (nI_le (by omega) hj) hx2
  refine bnd (gR_of ho.1 ho.2.1 h2) ?_
  refine bnd (caL ho.2.2.1 ho.2.2.2.1) ?_
  rw [ho.2.2.2.2]
  refine ifP (nI_lt (by omega) (by omega)) ?_
  refine bnd (gR_of ho.1 ho.2.1 h2) ?_
  refine bnd (cA ho.2.2.1 ho.2.2.2.1 (by rw [ho.2.2.2.2]; omega)) ?_
  rw [nI_clamp hj]
theorem x_written (h : REL z b q S M) : ∃ r, fX11_written (Yc z) S (some z) x = some r ∧ fX12_written (Ym b) M (some b) x = some r := by
  obtain ⟨T, n, t, S0, M0, v, c, u, l, p, tr, rfl, rfl, hC, hX, hS, hq, hU, hM, hTX, ⟨k, hk, hk1, hk2, hk3⟩, hV⟩ := h
  have hn := CX_n hC
  have eA : ∀ r, (if 0 ≤ (if x < 0 then -1 else if nI k ≤ x then -1 else S0.2.2.1 (z + 4) x.toNatClampNeg) then some (if x < 0 then -1 else if nI k ≤ x then -1 else S0.2.2.1 (z + 4) x.toNatClampNeg) else some (-1001)) = r → fX11_written (Yc z) (SC z T n S0 v c u l p tr) (some z) x = r := by
    intro r h
    have hc := k_code (x := x) (z := z) (o := 3) (k := k) (by decide) hk (S := SC z T n S0 v c u l p tr) (by rw [sI hC (by decide)]; exact hk1) (by rw [sR hC (by decide) (by decide)]; exact hC.2.2.1.2.2.2.2.2.2.2.2.1)
    rw [sA (by decide)] at hc
    unfold fX11_written
    refine bnd (cR1101_0 (fixSC hC)) ?_
    refine bnd (crcv (o := 3) (by decide) rfl) ?_
    refine bnd hc ?_
    exact h
  unfold fX12_written
  have e1207 : gI (Ym b) 12 1207 (some b) (SV b M0 v) = some (nI k) := by rw [mIo]; exact congrArg some hk2
  by_cases hx : x < 0
  · refine ⟨-1001, eA _ ?_, ?_⟩
    · rw [if_pos hx]
      exact if_neg (by decide)
    · refine bnd e1207 ?_
      refine bnd (isIn_0 (Or.inl hx)) ?_
      exact if_pos rfl
  · obtain ⟨j, hj, rfl⟩ := nI_of hx
    by_cases hlt : j < k
    · obtain ⟨d, hd, h3, h4⟩ := hk3 j hlt
      refine ⟨nI d, eA _ ?_, ?_⟩
      · rw [if_neg hx, if_neg (nI_ge (by omega) (by omega)), nI_clamp hj, h3]
        exact if_pos (nI_pos' (by omega))
      · refine bnd e1207 ?_
        refine bnd (isIn_1 hx (nI_m1nlt (by omega) hlt)) ?_
        refine ifN (by decide) ?_
        refine bnd (mR1205 (SV_fix hX.1)) ?_
        refine bnd (mA (by omega) (show j < 200 by omega)) ?_
        rw [SV_k (by omega), h4]
    · refine ⟨-1001, eA _ ?_, ?_⟩
      · rw [if_neg hx, if_pos (nI_le (by omega) hj)]
        exact if_neg (by decide)
      · refine bnd e1207 ?_
        refine bnd (isIn_0 (Or.inr (nI_m1lt (by omega) (nI_le (by omega) hj)))) ?_
        exact if_pos rfl
end CALLT
