/-! visits: what begins one, and what a child's result means -/
/-- the latest results of the children from j on are cleared -/
def clrL (t : TT) (i : Nat) : Nat → Nat → (Nat → Int32) → Nat → Int32
  | 0, _, l => l
  | d + 1, j, l => clrL t i d (j + 1) (upd l (cN t i j) 0)
/-- a run begins -/
def brV (v : Nat → Int32) (i : Nat) : Nat → Int32 := upd (upd (upd (upd (upd (upd v (11 * i + 0) 1) (11 * i + 1) 0) (11 * i + 2) 0) (11 * i + 3) 0) (11 * i + 4) 0) (11 * i + 6) (upd (upd (upd (upd (upd v (11 * i + 0) 1) (11 * i + 1) 0) (11 * i + 2) 0) (11 * i + 3) 0) (11 * i + 4) 0 (11 * i + 6) + 1)
section ENT
variable {b z T n i j k w lo m : Nat} {S0 M : HS} {v v0 v1 c c1 l l1 : Nat → Int32} {u u1 : Nat → Option Nat} {p : Option Nat} {tr tr1 : TR} {x r : Int32} {t : TT}
theorem k_clr (hC : CX z T n t S0) (hi : i < n) : ∀ (d fuel j : Nat) (l : Nat → Int32), j + d = t 11 i → d < fuel → fX9_beginRun_43 (Yc z) fuel (SC z T n S0 v c u l p tr) (chO z T t i j) = some (SC z T n S0 v c u (clrL t i d j l) p tr)
  | _, 0, _, _, _, h => absurd h (Nat.not_lt_zero _)
  | 0, fuel + 1, j, l, he, hm => by
    rw [fX9_beginRun_43]
    unfold chO
    rw [if_neg (show ¬ j < t 11 i by omega)]
    refine ifP rfl ?_
    rfl
  | d + 1, fuel + 1, j, l, he, hm => by
    have hc := wf_ch hC.2.1 hi (j := j) (by omega)
    have hch : chO z T t i j = some (nda z T (cN t i j)) := by unfold chO; rw [if_pos (by omega)]
    rw [fX9_beginRun_43, hch]
    refine ifN (by intro e; cases e) ?_
    refine bnd (k403 hC hc.2.2.2.2) ?_
    refine bnd (klp hC hc.2.2.2.2) ?_
    refine bnd (k412' hC hi (by omega)) ?_
    exact k_clr hC hi d fuel (j + 1) _ (by omega) (by omega)
theorem clrL_out : ∀ (d j : Nat) (l : Nat → Int32), (∀ k, j ≤ k → k < j + d → m ≠ cN t i k) → clrL t i d j l m = l m
  | 0, _, _, _ => rfl
  | d + 1, j, l, h => by
    rw [clrL, clrL_out d (j + 1) _ (fun k h1 h2 => h k (by omega) (by omega)), pk_un (h j (by omega) (by omega))]
theorem clrL_in (hW : WF n t) (hi : i < n) : ∀ (d j : Nat) (l : Nat → Int32), j + d ≤ t 11 i → ∀ k, j ≤ k → k < j + d → clrL t i d j l (cN t i k) = 0
  | 0, _, _, _, k, h1, h2 => by omega
  | d + 1, j, l, h, k, h1, h2 => by
    rw [clrL]
    by_cases e : k = j
    · subst e
      rw [clrL_out d (k + 1) _ (fun q h3 h4 h5 => by have := wf_cNinj hW hi (j := k) (k := q) (by omega) (by omega) h5; omega), pk_us]
    · exact clrL_in hW hi d (j + 1) _ (by omega) k (by omega) (by omega)
theorem brV_rel (hn : n ≤ 24) (hi : i < n) (hk : relV k) : upd (upd (upd v (11 * i + 0) 1) (11 * i + 6) (upd v (11 * i + 0) 1 (11 * i + 6) + 1)) (11 * i + 4) 0 k = brV v i k := by
  unfold brV relV at *
  simp only [upd]
  repeat' split
  all_goals first | rfl | (exfalso; omega)
theorem brV_ot (h : k < 11 * i ∨ 11 * i + 6 < k ∨ k = 11 * i + 5) : brV v i k = v k := by
  unfold brV
  rw [pk_un (by omega), pk_un (by omega), pk_un (by omega), pk_un (by omega), pk_un (by omega), pk_un (by omega)]
theorem brV_in : brV v i (11 * i + 0) = 1 ∧ brV v i (11 * i + 1) = 0 ∧ brV v i (11 * i + 2) = 0 ∧ brV v i (11 * i + 3) = 0 := by
  unfold brV
  refine ⟨?_, ?_, ?_, ?_⟩
  · rw [pk_un (by omega), pk_un (by omega), pk_un (by omega), pk_un (by omega), pk_un (by omega), pk_us]
  · rw [pk_un (by omega), pk_un (by omega), pk_un (by omega), pk_un (by omega), pk_us]
  · rw [pk_un (by omega), pk_un (by omega), pk_un (by omega), pk_us]
  · rw [pk_un (by omega), pk_un (by omega), pk_us]
theorem brV_4 : brV v i (11 * i + 4) = 0 := by
  unfold brV
  rw [pk_un (by omega), pk_us]
theorem k_begin (hC : CX z T n t S0) (hi : i < n) : fX9_beginRun (Yc z) (SC z T n S0 v c u l p tr) (some (z + 5)) (some (nda z T i)) = some (SC z T n S0 (brV v i) (upd c i 0) (va_up u i (chO z T t i 0)) (clrL t i (t 11 i) 0 l) p tr) := by
  have hn := CX_n hC
  have hnum := wf_num hC.2.1 hi
  unfold fX9_beginRun
  refine bnd (k403 hC hi) ?_
  refine bnd (kLz (w := 0) hC hi rfl (Or.inr rfl)) ?_
  refine bnd (kL (w := 6) hC hi rfl) ?_
  refine bnd (kLp (w := 6) hC hi rfl) ?_
  refine bnd (kcp hC hi) ?_
  refine bnd (k410' hC hi) ?_
  refine bnd (kup hC hi) ?_
  refine bnd (kLp (w := 4) hC hi rfl) ?_
  refine bnd (k410' hC hi) ?_
  rw [← SC_congr (v1 := upd (upd (upd v (11 * i + 0) 1) (11 * i + 6) (upd v (11 * i + 0) 1 (11 * i + 6) + 1)) (11 * i + 4) 0) (v := brV v i) hn (fun k hk => brV_rel hn hi hk)]
  exact k_clr hC hi (t 11 i) FU 0 l (by omega) (by unfold FU; omega)

theorem chO_0 (h : 1 ≤ t 11 i) : chO z T t i 0 = some (nda z T (i + 1)) := if_pos h
theorem j_v40 (hC : CX z T n t S0) (hX : MX b n t M) (hi : i < n) (hQ : QQ z T n t i (upd v (11 * i + 5) 0) c u l tr) (hS : rs z T t (upd v (11 * i + 5) 0) c u l i) (hq : tr.1 + 24 < 2 ^ 31) : JJ z T n b t S0 M i (i + 1) (tr.1 + 24) (upd v (11 * i + 5) 0) (fX9_beginVisit_40 (Yc z) (SC z T n S0 (upd v (11 * i + 5) 0) c u l none tr) (some (z + 5)) (some (nda z T i)) (some (lfa z T i))) (fX12_enters_70 (Ym b) (SV b M v) (some b) (nI i)) := by
  have hn := CX_n hC
  have hkd := wf_kind hC.2.1 hi
  have hrg := wf_rng hC.2.1 hi
  have hpl := plN_4 hC.2.1 hrg.2.1 hi
  have hWi := hC.2.1.2.2 i hi
  have hnum := wf_num hC.2.1 hi
  have hsplit : t 0 i = 0 ∨ t 0 i = 1 ∨ t 0 i = 2 ∨ t 0 i = 3 ∨ t 0 i = 4 ∨ t 0 i = 5 ∨ t 0 i = 6 ∨ t 0 i = 7 ∨ t 0 i = 8 ∨ t 0 i = 9 ∨ t 0 i = 10 ∨ t 0 i = 11 ∨ t 0 i = 12 ∨ t 0 i = 13 ∨ t 0 i = 14 := by omega
  rcases hsplit with hk | hk | hk | hk | hk | hk | hk | hk | hk | hk | hk | hk | hk | hk | hk
  · skip
    have eA : fX9_beginVisit_40 (Yc z) (SC z T n S0 (upd v (11 * i + 5) 0) c u l none tr) (some (z + 5)) (some (nda z T i)) (some (lfa z T i)) = (fX9_act (Yc z) (SC z T n S0 (upd v (11 * i + 5) 0) c u l none tr) (some (z + 5)) (some (nda z T i)) 2) := by
      unfold fX9_beginVisit_40
      refine bnd (k404 hC hi) ?_
      rw [hk]
      refine ifP (by decide) ?_
      refine bnd (crcv (o := 5) (by decide) rfl) ?_
      cases fX9_act (Yc z) (SC z T n S0 (upd v (11 * i + 5) 0) c u l none tr) (some (z + 5)) (some (nda z T i)) 2 <;> rfl
    have eB : fX12_enters_70 (Ym b) (SV b M v) (some b) (nI i) = (fX12_acts (Ym b) (SV b M (upd v (11 * i + 5) 0)) (some b) (nI i)) := by
      unfold fX12_enters_70
      refine bnd mrcv ?_
      refine bnd (m_sets (w := 5) hX.1 rfl (by omega)) ?_
      refine bnd (mR1209 (SV_fix hX.1)) (bnd (xT (c := 0) hX (by omega) (by omega) hi) ?_)
      rw [hk]
      refine ifP (by decide) ?_
      refine bnd mrcv ?_
      cases fX12_acts (Ym b) (SV b M (upd v (11 * i + 5) 0)) (some b) (nI i) <;> rfl
    rw [eA, eB]
    exact j_act hC hX hi (by omega) hQ hS (by rw [hk]; rfl)
  · skip
    have eA : fX9_beginVisit_40 (Yc z) (SC z T n S0 (upd v (11 * i + 5) 0) c u l none tr) (some (z + 5)) (some (nda z T i)) (some (lfa z T i)) = (fX9_act (Yc z) (SC z T n S0 (upd v (11 * i + 5) 0) c u l none tr) (some (z + 5)) (some (nda z T i)) 3) := by
      unfold fX9_beginVisit_40
      refine bnd (k404 hC hi) ?_
      rw [hk]
      refine ifN (by decide) ?_
      refine ifP (by decide) ?_
      refine bnd (crcv (o := 5) (by decide) rfl) ?_
      cases fX9_act (Yc z) (SC z T n S0 (upd v (11 * i + 5) 0) c u l none tr) (some (z + 5)) (some (nda z T i)) 3 <;> rfl
    have eB : fX12_enters_70 (Ym b) (SV b M v) (some b) (nI i) = (fX12_acts (Ym b) (SV b M (upd v (11 * i + 5) 0)) (some b) (nI i)) := by
      unfold fX12_enters_70
      refine bnd mrcv ?_
      refine bnd (m_sets (w := 5) hX.1 rfl (by omega)) ?_
      refine bnd (mR1209 (SV_fix hX.1)) (bnd (xT (c := 0) hX (by omega) (by omega) hi) ?_)
      rw [hk]
      refine ifN (by decide) ?_
      refine ifP (by decide) ?_
      refine bnd mrcv ?_
      cases fX12_acts (Ym b) (SV b M (upd v (11 * i + 5) 0)) (some b) (nI i) <;> rfl
    rw [eA, eB]
    exact j_act hC hX hi (by omega) hQ hS (by rw [hk]; rfl)
  · have h6 := hWi.2.2.2.2.2.2.2.2.1 (Or.inl hk)
    have eA : fX9_beginVisit_40 (Yc z) (SC z T n S0 (upd v (11 * i + 5) 0) c u l none tr) (some (z + 5)) (some (nda z T i)) (some (lfa z T i)) = some (SC z T n S0 (upd v (11 * i + 5) 0) c u l none tr, if hld (t 6 i) ((upd v (11 * i + 5) 0) (plN t (t 5 i) i)) (nI (t 7 i)) = 0 then 3 else 2) := by
      unfold fX9_beginVisit_40
      refine bnd (k404 hC hi) ?_
      rw [hk]
      refine ifN (by decide) ?_
      refine ifN (by decide) ?_
      refine ifP (by decide) ?_
      refine bnd (k900 hC) ?_
      refine bnd (k401 hC hi) ?_
      refine bnd (crcv (o := 6) (by decide) rfl) ?_
      refine bnd (k_fulfils hC hi hrg.2.1 (clA_cl hC hi (by omega)) (by omega)) ?_
      split <;> rfl
    have eB : fX12_enters_70 (Ym b) (SV b M v) (some b) (nI i) = some (SV b M (upd v (11 * i + 5) 0), if hld (t 6 i) ((upd v (11 * i + 5) 0) (plN t (t 5 i) i)) (nI (t 7 i)) = 0 then 3 else 2) := by
      unfold fX12_enters_70
      refine bnd mrcv ?_
      refine bnd (m_sets (w := 5) hX.1 rfl (by omega)) ?_
      refine bnd (mR1209 (SV_fix hX.1)) (bnd (xT (c := 0) hX (by omega) (by omega) hi) ?_)
      rw [hk]
      refine ifN (by decide) ?_
      refine ifN (by decide) ?_
      refine ifP (by decide) ?_
      refine bnd mrcv ?_
      refine bnd (m_holds hX.1 hX.2.1 hX.2.2 hi) ?_
      split <;> rfl
    rw [eA, eB]
    exact jj_23 (by split; exact Or.inr rfl; exact Or.inl rfl) hQ LOC_refl (by omega) rfl rfl
  · have h6 := hWi.2.2.2.2.2.2.2.2.2.1 hk
    clear hWi
    have eA : fX9_beginVisit_40 (Yc z) (SC z T n S0 (upd v (11 * i + 5) 0) c u l none tr) (some (z + 5)) (some (nda z T i)) (some (lfa z T i)) = some (SC z T n S0 (upd (upd v (11 * i + 5) 0) (plN t (t 5 i) i) (eff (t 6 i) (nI (t 7 i)) ((upd v (11 * i + 5) 0) (plN t (t 5 i) i)))) c u l none tr, 2) := by
      unfold fX9_beginVisit_40
      refine bnd (k404 hC hi) ?_
      rw [hk]
      refine ifN (by decide) ?_
      refine ifN (by decide) ?_
      refine ifN (by decide) ?_
      refine ifP (by decide) ?_
      refine bnd (k900 hC) ?_
      refine bnd (k401 hC hi) ?_
      refine bnd (crcv (o := 6) (by decide) rfl) ?_
      refine bnd (k_change hC hi hrg.2.1 (clA_cl hC hi (by omega)) (by omega)) ?_
      rfl
    have eB : fX12_enters_70 (Ym b) (SV b M v) (some b) (nI i) = some (SV b M (upd (upd v (11 * i + 5) 0) (plN t (t 5 i) i) (eff (t 6 i) (nI (t 7 i)) ((upd v (11 * i + 5) 0) (plN t (t 5 i) i)))), 2) := by
      unfold fX12_enters_70
      refine bnd mrcv ?_
      refine bnd (m_sets (w := 5) hX.1 rfl (by omega)) ?_
      refine bnd (mR1209 (SV_fix hX.1)) (bnd (xT (c := 0) hX (by omega) (by omega) hi) ?_)
      rw [hk]
      refine ifN (by decide) ?_
      refine ifN (by decide) ?_
      refine ifN (by decide) ?_
      refine ifP (by decide) ?_
      refine bnd (mR1214 (SV_fix hX.1)) (bnd (xT (c := 5) hX (by omega) (by omega) hi) ?_)
      refine bnd (mR1215 (SV_fix hX.1)) (bnd (xT (c := 6) hX (by omega) (by omega) hi) ?_)
      refine bnd (mR1216 (SV_fix hX.1)) (bnd (xT (c := 7) hX (by omega) (by omega) hi) ?_)
      refine bnd mrcv ?_
      refine bnd (m_does hX.1 hX.2.1 hX.2.2 hrg.2.1 (by omega) hi) ?_
      rfl
    rw [eA, eB]
    exact jj_23 (Or.inl rfl) (QQ_upd hi hn (by omega) (by omega) hQ (fun q hq e => plN_14 hC.2.1 hi hq e)) (LOC_upd (by omega)) (by omega) rfl rfl
  · obtain ⟨j, hj, hcn, hu⟩ := hS.2.1 (by omega)
    have hcj := wf_cN hC.2.1 hi j (by omega)
    have eA : fX9_beginVisit_40 (Yc z) (SC z T n S0 (upd v (11 * i + 5) 0) c u l none tr) (some (z + 5)) (some (nda z T i)) (some (lfa z T i)) = some (SC z T n S0 (upd v (11 * i + 5) 0) c u l (some (nda z T (cN t i j))) tr, 0) := by
      unfold fX9_beginVisit_40
      refine bnd (k404 hC hi) ?_
      rw [hk]
      refine ifN (by decide) ?_
      refine ifN (by decide) ?_
      refine ifN (by decide) ?_
      refine ifN (by decide) ?_
      refine ifP (by decide) ?_
      refine bnd (ku hC hi) ?_
      rw [hu]
      refine bnd (crcv (o := 5) (by decide) rfl) ?_
      refine bnd (k_goDown hC) ?_
      rfl
    have eB : fX12_enters_70 (Ym b) (SV b M v) (some b) (nI i) = some (SV b M (upd (upd (upd v (11 * i + 5) 0) (11 * i + 5) (nI j)) 284 (nI (cN t i j))), 0) := by
      unfold fX12_enters_70
      refine bnd mrcv ?_
      refine bnd (m_sets (w := 5) hX.1 rfl (by omega)) ?_
      refine bnd (mR1209 (SV_fix hX.1)) (bnd (xT (c := 0) hX (by omega) (by omega) hi) ?_)
      rw [hk]
      refine ifN (by decide) ?_
      refine ifN (by decide) ?_
      refine ifN (by decide) ?_
      refine ifN (by decide) ?_
      refine ifP (by decide) ?_
      unfold fX12_enters_201
      refine bnd mrcv ?_
      refine bnd (m_of (w := 1) hX.1 rfl (by omega)) ?_
      rw [hcn]
      refine bnd mrcv ?_
      refine bnd (m_asks hX hi hj) ?_
      rfl
    rw [eA, eB]
    exact jj_0 hC hi hQ hS LOC_refl hj (by omega) (fun _ => hcn) (fun h => by omega) (by omega) rfl rfl
  · obtain ⟨j, hj, hcn, hu⟩ := hS.2.1 (by omega)
    have hcj := wf_cN hC.2.1 hi j (by omega)
    have eA : fX9_beginVisit_40 (Yc z) (SC z T n S0 (upd v (11 * i + 5) 0) c u l none tr) (some (z + 5)) (some (nda z T i)) (some (lfa z T i)) = some (SC z T n S0 (upd v (11 * i + 5) 0) c u l (some (nda z T (cN t i j))) tr, 0) := by
      unfold fX9_beginVisit_40
      refine bnd (k404 hC hi) ?_
      rw [hk]
      refine ifN (by decide) ?_
      refine ifN (by decide) ?_
      refine ifN (by decide) ?_
      refine ifN (by decide) ?_
      refine ifN (by decide) ?_
      refine ifP (by decide) ?_
      refine bnd (ku hC hi) ?_
      rw [hu]
      refine bnd (crcv (o := 5) (by decide) rfl) ?_
      refine bnd (k_goDown hC) ?_
      rfl
    have eB : fX12_enters_70 (Ym b) (SV b M v) (some b) (nI i) = some (SV b M (upd (upd (upd v (11 * i + 5) 0) (11 * i + 5) (nI j)) 284 (nI (cN t i j))), 0) := by
      unfold fX12_enters_70
      refine bnd mrcv ?_
      refine bnd (m_sets (w := 5) hX.1 rfl (by omega)) ?_
      refine bnd (mR1209 (SV_fix hX.1)) (bnd (xT (c := 0) hX (by omega) (by omega) hi) ?_)
      rw [hk]
      refine ifN (by decide) ?_
      refine ifN (by decide) ?_
      refine ifN (by decide) ?_
      refine ifN (by decide) ?_
      refine ifN (by decide) ?_
      refine ifP (by decide) ?_
      unfold fX12_enters_201
      refine bnd mrcv ?_
      refine bnd (m_of (w := 1) hX.1 rfl (by omega)) ?_
      rw [hcn]
      refine bnd mrcv ?_
      refine bnd (m_asks hX hi hj) ?_
      rfl
    rw [eA, eB]
    exact jj_0 hC hi hQ hS LOC_refl hj (by omega) (fun _ => hcn) (fun h => by omega) (by omega) rfl rfl
  · have hin := wf_inner hC.2.1 hi (by omega)
    have eA : fX9_beginVisit_40 (Yc z) (SC z T n S0 (upd v (11 * i + 5) 0) c u l none tr) (some (z + 5)) (some (nda z T i)) (some (lfa z T i)) = some (SC z T n S0 (upd v (11 * i + 5) 0) c u l (some (nda z T (i + 1))) tr, 0) := by
      unfold fX9_beginVisit_40
      refine bnd (k404 hC hi) ?_
      rw [hk]
      refine ifN (by decide) ?_
      refine ifN (by decide) ?_
      refine ifN (by decide) ?_
      refine ifN (by decide) ?_
      refine ifN (by decide) ?_
      refine ifN (by decide) ?_
      refine ifP (by decide) ?_
      refine bnd (k410' hC hi) ?_
      rw [chO_0 hin.1]
      refine bnd (crcv (o := 5) (by decide) rfl) ?_
      refine bnd (k_goDown hC) ?_
      rfl
    have eB : fX12_enters_70 (Ym b) (SV b M v) (some b) (nI i) = some (SV b M (upd (upd (upd v (11 * i + 5) 0) (11 * i + 5) (nI 0)) 284 (nI (cN t i 0))), 0) := by
      unfold fX12_enters_70
      refine bnd mrcv ?_
      refine bnd (m_sets (w := 5) hX.1 rfl (by omega)) ?_
      refine bnd (mR1209 (SV_fix hX.1)) (bnd (xT (c := 0) hX (by omega) (by omega) hi) ?_)
      rw [hk]
      refine ifN (by decide) ?_
      refine ifN (by decide) ?_
      refine ifN (by decide) ?_
      refine ifN (by decide) ?_
      refine ifN (by decide) ?_
      refine ifN (by decide) ?_
      refine ifP (by decide) ?_
      refine bnd mrcv ?_
      refine bnd (m_asks (j := 0) hX hi hin.1) ?_
      rfl
    rw [eA, eB]
    exact jj_0 (j := 0) hC hi hQ hS LOC_refl hin.1 (Nat.le_refl _) (fun h => by omega) (fun h => by omega) (by omega) rfl rfl
  · have hin := wf_inner hC.2.1 hi (by omega)
    have eA : fX9_beginVisit_40 (Yc z) (SC z T n S0 (upd v (11 * i + 5) 0) c u l none tr) (some (z + 5)) (some (nda z T i)) (some (lfa z T i)) = some (SC z T n S0 (upd v (11 * i + 5) 0) c u l (some (nda z T (i + 1))) tr, 0) := by
      unfold fX9_beginVisit_40
      refine bnd (k404 hC hi) ?_
      rw [hk]
      refine ifN (by decide) ?_
      refine ifN (by decide) ?_
      refine ifN (by decide) ?_
      refine ifN (by decide) ?_
      refine ifN (by decide) ?_
      refine ifN (by decide) ?_
      refine ifN (by decide) ?_
      refine ifP (by decide) ?_
      refine bnd (k410' hC hi) ?_
      rw [chO_0 hin.1]
      refine bnd (crcv (o := 5) (by decide) rfl) ?_
      refine bnd (k_goDown hC) ?_
      rfl
    have eB : fX12_enters_70 (Ym b) (SV b M v) (some b) (nI i) = some (SV b M (upd (upd (upd v (11 * i + 5) 0) (11 * i + 5) (nI 0)) 284 (nI (cN t i 0))), 0) := by
      unfold fX12_enters_70
      refine bnd mrcv ?_
      refine bnd (m_sets (w := 5) hX.1 rfl (by omega)) ?_
      refine bnd (mR1209 (SV_fix hX.1)) (bnd (xT (c := 0) hX (by omega) (by omega) hi) ?_)
      rw [hk]
      refine ifN (by decide) ?_
      refine ifN (by decide) ?_
      refine ifN (by decide) ?_
      refine ifN (by decide) ?_
      refine ifN (by decide) ?_
      refine ifN (by decide) ?_
      refine ifN (by decide) ?_
      refine ifP (by decide) ?_
      refine bnd mrcv ?_
      refine bnd (m_asks (j := 0) hX hi hin.1) ?_
      rfl
    rw [eA, eB]
    exact jj_0 (j := 0) hC hi hQ hS LOC_refl hin.1 (Nat.le_refl _) (fun h => by omega) (fun h => by omega) (by omega) rfl rfl
  · skip
    have eA : fX9_beginVisit_40 (Yc z) (SC z T n S0 (upd v (11 * i + 5) 0) c u l none tr) (some (z + 5)) (some (nda z T i)) (some (lfa z T i)) = (fX9_goOnInParallel (Yc z) (SC z T n S0 (upd v (11 * i + 5) 0) c u l none tr) (some (z + 5)) (some (nda z T i)) (chO z T t i 0)) := by
      unfold fX9_beginVisit_40
      refine bnd (k404 hC hi) ?_
      rw [hk]
      refine ifN (by decide) ?_
      refine ifN (by decide) ?_
      refine ifN (by decide) ?_
      refine ifN (by decide) ?_
      refine ifN (by decide) ?_
      refine ifN (by decide) ?_
      refine ifN (by decide) ?_
      refine ifN (by decide) ?_
      refine ifP (by decide) ?_
      refine bnd (k410' hC hi) ?_
      refine bnd (crcv (o := 5) (by decide) rfl) ?_
      cases fX9_goOnInParallel (Yc z) (SC z T n S0 (upd v (11 * i + 5) 0) c u l none tr) (some (z + 5)) (some (nda z T i)) (chO z T t i 0) <;> rfl
    have eB : fX12_enters_70 (Ym b) (SV b M v) (some b) (nI i) = (fX12_goesOn (Ym b) (SV b M (upd v (11 * i + 5) 0)) (some b) (nI i)) := by
      unfold fX12_enters_70
      refine bnd mrcv ?_
      refine bnd (m_sets (w := 5) hX.1 rfl (by omega)) ?_
      refine bnd (mR1209 (SV_fix hX.1)) (bnd (xT (c := 0) hX (by omega) (by omega) hi) ?_)
      rw [hk]
      refine ifN (by decide) ?_
      refine ifN (by decide) ?_
      refine ifN (by decide) ?_
      refine ifN (by decide) ?_
      refine ifN (by decide) ?_
      refine ifN (by decide) ?_
      refine ifN (by decide) ?_
      refine ifN (by decide) ?_
      refine ifP (by decide) ?_
      refine bnd mrcv ?_
      cases fX12_goesOn (Ym b) (SV b M (upd v (11 * i + 5) 0)) (some b) (nI i) <;> rfl
    rw [eA, eB]
    exact j_par hC hX hi hk hQ hS (j := 0) (by rw [pk_us]; rfl) (Nat.zero_le _) (Nat.le_refl _) hq
  · have hin := wf_inner hC.2.1 hi (by omega)
    have eA : fX9_beginVisit_40 (Yc z) (SC z T n S0 (upd v (11 * i + 5) 0) c u l none tr) (some (z + 5)) (some (nda z T i)) (some (lfa z T i)) = some (SC z T n S0 (upd v (11 * i + 5) 0) c u l (some (nda z T (i + 1))) tr, 0) := by
      unfold fX9_beginVisit_40
      refine bnd (k404 hC hi) ?_
      rw [hk]
      refine ifN (by decide) ?_
      refine ifN (by decide) ?_
      refine ifN (by decide) ?_
      refine ifN (by decide) ?_
      refine ifN (by decide) ?_
      refine ifN (by decide) ?_
      refine ifN (by decide) ?_
      refine ifN (by decide) ?_
      refine ifN (by decide) ?_
      refine ifP (by decide) ?_
      refine bnd (k410' hC hi) ?_
      rw [chO_0 hin.1]
      refine bnd (crcv (o := 5) (by decide) rfl) ?_
      refine bnd (k_goDown hC) ?_
      rfl
    have eB : fX12_enters_70 (Ym b) (SV b M v) (some b) (nI i) = some (SV b M (upd (upd (upd v (11 * i + 5) 0) (11 * i + 5) (nI 0)) 284 (nI (cN t i 0))), 0) := by
      unfold fX12_enters_70
      refine bnd mrcv ?_
      refine bnd (m_sets (w := 5) hX.1 rfl (by omega)) ?_
      refine bnd (mR1209 (SV_fix hX.1)) (bnd (xT (c := 0) hX (by omega) (by omega) hi) ?_)
      rw [hk]
      refine ifN (by decide) ?_
      refine ifN (by decide) ?_
      refine ifN (by decide) ?_
      refine ifN (by decide) ?_
      refine ifN (by decide) ?_
      refine ifN (by decide) ?_
      refine ifN (by decide) ?_
      refine ifN (by decide) ?_
      refine ifN (by decide) ?_
      refine ifP (by decide) ?_
      refine bnd mrcv ?_
      refine bnd (m_asks (j := 0) hX hi hin.1) ?_
      rfl
    rw [eA, eB]
    exact jj_0 (j := 0) hC hi hQ hS LOC_refl hin.1 (Nat.le_refl _) (fun h => by omega) (fun h => by omega) (by omega) rfl rfl
  · have hin := wf_inner hC.2.1 hi (by omega)
    have eA : fX9_beginVisit_40 (Yc z) (SC z T n S0 (upd v (11 * i + 5) 0) c u l none tr) (some (z + 5)) (some (nda z T i)) (some (lfa z T i)) = some (SC z T n S0 (upd v (11 * i + 5) 0) c u l (some (nda z T (i + 1))) tr, 0) := by
      unfold fX9_beginVisit_40
      refine bnd (k404 hC hi) ?_
      rw [hk]
      refine ifN (by decide) ?_
      refine ifN (by decide) ?_
      refine ifN (by decide) ?_
      refine ifN (by decide) ?_
      refine ifN (by decide) ?_
      refine ifN (by decide) ?_
      refine ifN (by decide) ?_
      refine ifN (by decide) ?_
      refine ifN (by decide) ?_
      refine ifN (by decide) ?_
      refine ifP (by decide) ?_
      refine bnd (k410' hC hi) ?_
      rw [chO_0 hin.1]
      refine bnd (crcv (o := 5) (by decide) rfl) ?_
      refine bnd (k_goDown hC) ?_
      rfl
    have eB : fX12_enters_70 (Ym b) (SV b M v) (some b) (nI i) = some (SV b M (upd (upd (upd v (11 * i + 5) 0) (11 * i + 5) (nI 0)) 284 (nI (cN t i 0))), 0) := by
      unfold fX12_enters_70
      refine bnd mrcv ?_
      refine bnd (m_sets (w := 5) hX.1 rfl (by omega)) ?_
      refine bnd (mR1209 (SV_fix hX.1)) (bnd (xT (c := 0) hX (by omega) (by omega) hi) ?_)
      rw [hk]
      refine ifN (by decide) ?_
      refine ifN (by decide) ?_
      refine ifN (by decide) ?_
      refine ifN (by decide) ?_
      refine ifN (by decide) ?_
      refine ifN (by decide) ?_
      refine ifN (by decide) ?_
      refine ifN (by decide) ?_
      refine ifN (by decide) ?_
      refine ifN (by decide) ?_
      refine ifP (by decide) ?_
      refine bnd mrcv ?_
      refine bnd (m_asks (j := 0) hX hi hin.1) ?_
      rfl
    rw [eA, eB]
    exact jj_0 (j := 0) hC hi hQ hS LOC_refl hin.1 (Nat.le_refl _) (fun h => by omega) (fun h => by omega) (by omega) rfl rfl
  · have hin := wf_inner hC.2.1 hi (by omega)
    have eA : fX9_beginVisit_40 (Yc z) (SC z T n S0 (upd v (11 * i + 5) 0) c u l none tr) (some (z + 5)) (some (nda z T i)) (some (lfa z T i)) = some (SC z T n S0 (upd v (11 * i + 5) 0) c u l (some (nda z T (i + 1))) tr, 0) := by
      unfold fX9_beginVisit_40
      refine bnd (k404 hC hi) ?_
      rw [hk]
      refine ifN (by decide) ?_
      refine ifN (by decide) ?_
      refine ifN (by decide) ?_
      refine ifN (by decide) ?_
      refine ifN (by decide) ?_
      refine ifN (by decide) ?_
      refine ifN (by decide) ?_
      refine ifN (by decide) ?_
      refine ifN (by decide) ?_
      refine ifN (by decide) ?_
      refine ifN (by decide) ?_
      refine ifP (by decide) ?_
      refine bnd (k410' hC hi) ?_
      rw [chO_0 hin.1]
      refine bnd (crcv (o := 5) (by decide) rfl) ?_
      refine bnd (k_goDown hC) ?_
      rfl
    have eB : fX12_enters_70 (Ym b) (SV b M v) (some b) (nI i) = some (SV b M (upd (upd (upd v (11 * i + 5) 0) (11 * i + 5) (nI 0)) 284 (nI (cN t i 0))), 0) := by
      unfold fX12_enters_70
      refine bnd mrcv ?_
      refine bnd (m_sets (w := 5) hX.1 rfl (by omega)) ?_
      refine bnd (mR1209 (SV_fix hX.1)) (bnd (xT (c := 0) hX (by omega) (by omega) hi) ?_)
      rw [hk]
      refine ifN (by decide) ?_
      refine ifN (by decide) ?_
      refine ifN (by decide) ?_
      refine ifN (by decide) ?_
      refine ifN (by decide) ?_
      refine ifN (by decide) ?_
      refine ifN (by decide) ?_
      refine ifN (by decide) ?_
      refine ifN (by decide) ?_
      refine ifN (by decide) ?_
      refine ifN (by decide) ?_
      refine ifP (by decide) ?_
      refine bnd mrcv ?_
      refine bnd (m_asks (j := 0) hX hi hin.1) ?_
      rfl
    rw [eA, eB]
    exact jj_0 (j := 0) hC hi hQ hS LOC_refl hin.1 (Nat.le_refl _) (fun h => by omega) (fun h => by omega) (by omega) rfl rfl
  · have h6 := hWi.2.2.2.2.2.2.2.2.1 (Or.inr hk)
    have hin := wf_inner hC.2.1 hi (by omega)
    have h1 := wf_one hC.2.1 hi (by omega)
    have hce := wf_end hC.2.1 hi
    have hl := wf_last hC.2.1 hi
    rw [h1] at hce
    have hce : t 4 (i + 1) + 1 = t 4 i + 1 := hce
    have hcl := wf_ch hC.2.1 hi (j := 0) (by omega)
    have hc0 : i + 1 ≤ t 4 i := hcl.2.1
    by_cases hh : hld (t 6 i) (upd v (11 * i + 5) 0 (plN t (t 5 i) i)) (nI (t 7 i)) = 0
    · obtain ⟨tr1, es, hI1, hq1⟩ := k_stop (c := c) (u := u) (l := l) (p := none) (j := i + 1) hC hi hc0 hQ.2.1 hq
      have eA : fX9_beginVisit_40 (Yc z) (SC z T n S0 (upd v (11 * i + 5) 0) c u l none tr) (some (z + 5)) (some (nda z T i)) (some (lfa z T i)) = some (SC z T n S0 (stopV t (i + 1) (t 4 i + 1 - (i + 1)) (upd v (11 * i + 5) 0)) c u l none tr1, 3) := by
        unfold fX9_beginVisit_40
        refine bnd (k404 hC hi) ?_
        rw [hk]
        refine ifN (by decide) ?_
        refine ifN (by decide) ?_
        refine ifN (by decide) ?_
        refine ifN (by decide) ?_
        refine ifN (by decide) ?_
        refine ifN (by decide) ?_
        refine ifN (by decide) ?_
        refine ifN (by decide) ?_
        refine ifN (by decide) ?_
        refine ifN (by decide) ?_
        refine ifN (by decide) ?_
        refine ifN (by decide) ?_
        refine ifP (by decide) ?_
        refine bnd (k900 hC) ?_
        refine bnd (k401 hC hi) ?_
        refine bnd (crcv (o := 6) (by decide) rfl) ?_
        refine bnd (k_fulfils hC hi hrg.2.1 (clA_cl hC hi (by omega)) (by omega)) ?_
        refine bnd (crcv (o := 5) (by decide) rfl) ?_
        refine bnd (a := (SC z T n S0 (stopV t (i + 1) (t 4 i + 1 - (i + 1)) (upd v (11 * i + 5) 0)) c u l none tr1, (3 : Int32))) ?_ rfl
        unfold fX9_goDownIf
        refine ifP hh ?_
        refine bnd (k410' hC hi) ?_
        rw [chO_0 hin.1]
        refine bnd (crcv (o := 5) (by decide) rfl) ?_
        refine bnd es ?_
        rfl
      have eB : fX12_enters_70 (Ym b) (SV b M v) (some b) (nI i) = some (SV b M (stopV t (i + 1) (t 4 i + 1 - (i + 1)) (upd v (11 * i + 5) 0)), 3) := by
        unfold fX12_enters_70
        refine bnd mrcv ?_
        refine bnd (m_sets (w := 5) hX.1 rfl (by omega)) ?_
        refine bnd (mR1209 (SV_fix hX.1)) (bnd (xT (c := 0) hX (by omega) (by omega) hi) ?_)
        rw [hk]
        refine ifN (by decide) ?_
        refine ifN (by decide) ?_
        refine ifN (by decide) ?_
        refine ifN (by decide) ?_
        refine ifN (by decide) ?_
        refine ifN (by decide) ?_
        refine ifN (by decide) ?_
        refine ifN (by decide) ?_
        refine ifN (by decide) ?_
        refine ifN (by decide) ?_
        refine ifN (by decide) ?_
        refine ifN (by decide) ?_
        refine ifP (by decide) ?_
        refine bnd mrcv ?_
        refine bnd (m_holds hX.1 hX.2.1 hX.2.2 hi) ?_
        refine ifP hh ?_
        refine bnd mrcv ?_
        rw [nI_1]
        refine bnd (m_aborts hX (by omega)) ?_
        rw [hce]
      rw [eA, eB]
      exact jj_23 (Or.inr rfl) (QQ_stop hC.2.1 (by omega) (by omega) hQ hI1) (LOC_stop hC.2.1 (by omega) (by omega)) hq1 rfl rfl
    · have eA : fX9_beginVisit_40 (Yc z) (SC z T n S0 (upd v (11 * i + 5) 0) c u l none tr) (some (z + 5)) (some (nda z T i)) (some (lfa z T i)) = some (SC z T n S0 (upd v (11 * i + 5) 0) c u l (some (nda z T (i + 1))) tr, 0) := by
        unfold fX9_beginVisit_40
        refine bnd (k404 hC hi) ?_
        rw [hk]
        refine ifN (by decide) ?_
        refine ifN (by decide) ?_
        refine ifN (by decide) ?_
        refine ifN (by decide) ?_
        refine ifN (by decide) ?_
        refine ifN (by decide) ?_
        refine ifN (by decide) ?_
        refine ifN (by decide) ?_
        refine ifN (by decide) ?_
        refine ifN (by decide) ?_
        refine ifN (by decide) ?_
        refine ifN (by decide) ?_
        refine ifP (by decide) ?_
        refine bnd (k900 hC) ?_
        refine bnd (k401 hC hi) ?_
        refine bnd (crcv (o := 6) (by decide) rfl) ?_
        refine bnd (k_fulfils hC hi hrg.2.1 (clA_cl hC hi (by omega)) (by omega)) ?_
        refine bnd (crcv (o := 5) (by decide) rfl) ?_
        refine bnd (a := (SC z T n S0 (upd v (11 * i + 5) 0) c u l (some (nda z T (i + 1))) tr, (0 : Int32))) ?_ rfl
        unfold fX9_goDownIf
        refine ifN hh ?_
        refine bnd (k410' hC hi) ?_
        rw [chO_0 hin.1]
        refine bnd (crcv (o := 5) (by decide) rfl) ?_
        refine bnd (k_goDown hC) ?_
        rfl
      have eB : fX12_enters_70 (Ym b) (SV b M v) (some b) (nI i) = some (SV b M (upd (upd (upd v (11 * i + 5) 0) (11 * i + 5) (nI 0)) 284 (nI (cN t i 0))), 0) := by
        unfold fX12_enters_70
        refine bnd mrcv ?_
        refine bnd (m_sets (w := 5) hX.1 rfl (by omega)) ?_
        refine bnd (mR1209 (SV_fix hX.1)) (bnd (xT (c := 0) hX (by omega) (by omega) hi) ?_)
        rw [hk]
        refine ifN (by decide) ?_
        refine ifN (by decide) ?_
        refine ifN (by decide) ?_
        refine ifN (by decide) ?_
        refine ifN (by decide) ?_
        refine ifN (by decide) ?_
        refine ifN (by decide) ?_
        refine ifN (by decide) ?_
        refine ifN (by decide) ?_
        refine ifN (by decide) ?_
        refine ifN (by decide) ?_
        refine ifN (by decide) ?_
        refine ifP (by decide) ?_
        refine bnd mrcv ?_
        refine bnd (m_holds hX.1 hX.2.1 hX.2.2 hi) ?_
        refine ifN hh ?_
        refine bnd mrcv ?_
        refine bnd (m_asks (j := 0) hX hi hin.1) ?_
        rfl
      rw [eA, eB]
      exact jj_0 (j := 0) hC hi hQ hS LOC_refl hin.1 (Nat.le_refl _) (fun h => by omega) (fun h => by omega) (by omega) rfl rfl
  · have hin := wf_inner hC.2.1 hi (by omega)
    have h1 := wf_one hC.2.1 hi (by omega)
    have hce := wf_end hC.2.1 hi
    have hl := wf_last hC.2.1 hi
    rw [h1] at hce
    have hce : t 4 (i + 1) + 1 = t 4 i + 1 := hce
    have hcl := wf_ch hC.2.1 hi (j := 0) (by omega)
    have hc0 : i + 1 ≤ t 4 i := hcl.2.1
    obtain ⟨hc, k, hk1, hk2, -⟩ := hS.1 (by omega)
    have e5 : upd v (11 * i + 5) 0 (11 * i + 1) = v (11 * i + 1) := pk_un (by omega)
    by_cases hh : k = t 1 i
    · obtain ⟨tr1, es, hI1, hq1⟩ := k_stop (c := upd c i (nI (k + 1))) (u := u) (l := l) (p := none) (j := i + 1) hC hi hc0 hQ.2.1 hq
      have eA : fX9_beginVisit_40 (Yc z) (SC z T n S0 (upd v (11 * i + 5) 0) c u l none tr) (some (z + 5)) (some (nda z T i)) (some (lfa z T i)) = some (SC z T n S0 (stopV t (i + 1) (t 4 i + 1 - (i + 1)) (upd v (11 * i + 5) 0)) (upd c i (nI (k + 1))) u l none tr1, 3) := by
        unfold fX9_beginVisit_40
        refine bnd (k404 hC hi) ?_
        rw [hk]
        refine ifN (by decide) ?_
        refine ifN (by decide) ?_
        refine ifN (by decide) ?_
        refine ifN (by decide) ?_
        refine ifN (by decide) ?_
        refine ifN (by decide) ?_
        refine ifN (by decide) ?_
        refine ifN (by decide) ?_
        refine ifN (by decide) ?_
        refine ifN (by decide) ?_
        refine ifN (by decide) ?_
        refine ifN (by decide) ?_
        refine ifN (by decide) ?_
        refine ifP (by decide) ?_
        refine bnd (kc hC hi) ?_
        rw [hc, hk2, nI_1]
        refine bnd (kcp hC hi) ?_
        refine bnd (kc hC hi) ?_
        rw [pk_us]
        refine bnd (k405 hC hi) ?_
        refine ifP (nI_lt (by omega) (by omega)) ?_
        refine bnd (crcv (o := 5) (by decide) rfl) ?_
        refine bnd (a := (SC z T n S0 (stopV t (i + 1) (t 4 i + 1 - (i + 1)) (upd v (11 * i + 5) 0)) (upd c i (nI (k + 1))) u l none tr1, (3 : Int32))) ?_ rfl
        unfold fX9_goDownIf
        refine ifP rfl ?_
        refine bnd (k410' hC hi) ?_
        rw [chO_0 hin.1]
        refine bnd (crcv (o := 5) (by decide) rfl) ?_
        refine bnd es ?_
        rfl
      have eB : fX12_enters_70 (Ym b) (SV b M v) (some b) (nI i) = some (SV b M (stopV t (i + 1) (t 4 i + 1 - (i + 1)) (upd v (11 * i + 5) 0)), 3) := by
        unfold fX12_enters_70
        refine bnd mrcv ?_
        refine bnd (m_sets (w := 5) hX.1 rfl (by omega)) ?_
        refine bnd (mR1209 (SV_fix hX.1)) (bnd (xT (c := 0) hX (by omega) (by omega) hi) ?_)
        rw [hk]
        refine ifN (by decide) ?_
        refine ifN (by decide) ?_
        refine ifN (by decide) ?_
        refine ifN (by decide) ?_
        refine ifN (by decide) ?_
        refine ifN (by decide) ?_
        refine ifN (by decide) ?_
        refine ifN (by decide) ?_
        refine ifN (by decide) ?_
        refine ifN (by decide) ?_
        refine ifN (by decide) ?_
        refine ifN (by decide) ?_
        refine ifN (by decide) ?_
        refine ifP (by decide) ?_
        refine bnd mrcv ?_
        refine bnd (m_of (w := 1) hX.1 rfl (by omega)) ?_
        rw [hk2]
        refine bnd (mR1210 (SV_fix hX.1)) (bnd (xT (c := 1) hX (by omega) (by omega) hi) ?_)
        refine ifP (by rw [hh]) ?_
        refine bnd mrcv ?_
        rw [nI_1]
        refine bnd (m_aborts hX (by omega)) ?_
        rw [hce]
      rw [eA, eB]
      exact jj_23 (Or.inr rfl) (QQ_stop hC.2.1 (by omega) (by omega) (QQ_c hQ) hI1) (LOC_stop hC.2.1 (by omega) (by omega)) hq1 rfl rfl
    · have eA : fX9_beginVisit_40 (Yc z) (SC z T n S0 (upd v (11 * i + 5) 0) c u l none tr) (some (z + 5)) (some (nda z T i)) (some (lfa z T i)) = some (SC z T n S0 (upd (upd v (11 * i + 5) 0) (11 * i + 1) (nI (k + 1))) (upd c i (nI (k + 1))) u l (some (nda z T (i + 1))) tr, 0) := by
        rw [SC_upd (k := 11 * i + 1) hn (by unfold relV; omega)]
        unfold fX9_beginVisit_40
        refine bnd (k404 hC hi) ?_
        rw [hk]
        refine ifN (by decide) ?_
        refine ifN (by decide) ?_
        refine ifN (by decide) ?_
        refine ifN (by decide) ?_
        refine ifN (by decide) ?_
        refine ifN (by decide) ?_
        refine ifN (by decide) ?_
        refine ifN (by decide) ?_
        refine ifN (by decide) ?_
        refine ifN (by decide) ?_
        refine ifN (by decide) ?_
        refine ifN (by decide) ?_
        refine ifN (by decide) ?_
        refine ifP (by decide) ?_
        refine bnd (kc hC hi) ?_
        rw [hc, hk2, nI_1]
        refine bnd (kcp hC hi) ?_
        refine bnd (kc hC hi) ?_
        rw [pk_us]
        refine bnd (k405 hC hi) ?_
        refine ifN (nI_nlt (by omega) (by omega)) ?_
        refine bnd (crcv (o := 5) (by decide) rfl) ?_
        refine bnd (a := (SC z T n S0 (upd v (11 * i + 5) 0) (upd c i (nI (k + 1))) u l (some (nda z T (i + 1))) tr, (0 : Int32))) ?_ rfl
        unfold fX9_goDownIf
        refine ifN (by decide) ?_
        refine bnd (k410' hC hi) ?_
        rw [chO_0 hin.1]
        refine bnd (crcv (o := 5) (by decide) rfl) ?_
        refine bnd (k_goDown hC) ?_
        rfl
      have eB : fX12_enters_70 (Ym b) (SV b M v) (some b) (nI i) = some (SV b M (upd (upd (upd (upd v (11 * i + 5) 0) (11 * i + 1) (nI (k + 1))) (11 * i + 5) (nI 0)) 284 (nI (cN t i 0))), 0) := by
        unfold fX12_enters_70
        refine bnd mrcv ?_
        refine bnd (m_sets (w := 5) hX.1 rfl (by omega)) ?_
        refine bnd (mR1209 (SV_fix hX.1)) (bnd (xT (c := 0) hX (by omega) (by omega) hi) ?_)
        rw [hk]
        refine ifN (by decide) ?_
        refine ifN (by decide) ?_
        refine ifN (by decide) ?_
        refine ifN (by decide) ?_
        refine ifN (by decide) ?_
        refine ifN (by decide) ?_
        refine ifN (by decide) ?_
        refine ifN (by decide) ?_
        refine ifN (by decide) ?_
        refine ifN (by decide) ?_
        refine ifN (by decide) ?_
        refine ifN (by decide) ?_
        refine ifN (by decide) ?_
        refine ifP (by decide) ?_
        refine bnd mrcv ?_
        refine bnd (m_of (w := 1) hX.1 rfl (by omega)) ?_
        refine bnd (mR1210 (SV_fix hX.1)) (bnd (xT (c := 1) hX (by omega) (by omega) hi) ?_)
        rw [hk2]
        refine ifN (fun h => hh ((nI_eq (by omega) (by omega)).mp h)) ?_
        refine bnd mrcv ?_
        refine bnd (m_adds (w := 1) hX.1 rfl (by omega)) ?_
        rw [hk2, nI_1]
        refine bnd mrcv ?_
        refine bnd (m_asks (j := 0) hX hi hin.1) ?_
        rfl
      rw [eA, eB]
      refine jj_0 (j := 0) hC hi (QQ_c (QQ_upd hi hn (by omega) (by omega) hQ)) ⟨fun _ => ⟨?_, k + 1, by omega, ?_, fun h => by omega⟩, fun h => by omega, fun h => by omega⟩ (LOC_upd (by omega)) hin.1 (Nat.le_refl _) (fun h => by omega) (fun h => by omega) (by omega) rfl rfl
      · rw [pk_us, pk_us]
      · rw [pk_us]
  · have hin := wf_inner hC.2.1 hi (by omega)
    have eA : fX9_beginVisit_40 (Yc z) (SC z T n S0 (upd v (11 * i + 5) 0) c u l none tr) (some (z + 5)) (some (nda z T i)) (some (lfa z T i)) = some (SC z T n S0 (upd v (11 * i + 5) 0) c u l (some (nda z T (i + 1))) tr, 0) := by
      unfold fX9_beginVisit_40
      refine bnd (k404 hC hi) ?_
      rw [hk]
      refine ifN (by decide) ?_
      refine ifN (by decide) ?_
      refine ifN (by decide) ?_
      refine ifN (by decide) ?_
      refine ifN (by decide) ?_
      refine ifN (by decide) ?_
      refine ifN (by decide) ?_
      refine ifN (by decide) ?_
      refine ifN (by decide) ?_
      refine ifN (by decide) ?_
      refine ifN (by decide) ?_
      refine ifN (by decide) ?_
      refine ifN (by decide) ?_
      refine ifN (by decide) ?_
      refine bnd (k410' hC hi) ?_
      rw [chO_0 hin.1]
      refine bnd (crcv (o := 5) (by decide) rfl) ?_
      refine bnd (k_goDown hC) ?_
      rfl
    have eB : fX12_enters_70 (Ym b) (SV b M v) (some b) (nI i) = some (SV b M (upd (upd (upd v (11 * i + 5) 0) (11 * i + 5) (nI 0)) 284 (nI (cN t i 0))), 0) := by
      unfold fX12_enters_70
      refine bnd mrcv ?_
      refine bnd (m_sets (w := 5) hX.1 rfl (by omega)) ?_
      refine bnd (mR1209 (SV_fix hX.1)) (bnd (xT (c := 0) hX (by omega) (by omega) hi) ?_)
      rw [hk]
      refine ifN (by decide) ?_
      refine ifN (by decide) ?_
      refine ifN (by decide) ?_
      refine ifN (by decide) ?_
      refine ifN (by decide) ?_
      refine ifN (by decide) ?_
      refine ifN (by decide) ?_
      refine ifN (by decide) ?_
      refine ifN (by decide) ?_
      refine ifN (by decide) ?_
      refine ifN (by decide) ?_
      refine ifN (by decide) ?_
      refine ifN (by decide) ?_
      refine ifN (by decide) ?_
      refine bnd mrcv ?_
      refine bnd (m_asks (j := 0) hX hi hin.1) ?_
      rfl
    rw [eA, eB]
    exact jj_0 (j := 0) hC hi hQ hS LOC_refl hin.1 (Nat.le_refl _) (fun h => by omega) (fun h => by omega) (by omega) rfl rfl
end ENT
