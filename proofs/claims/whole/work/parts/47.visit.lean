/-! a visit begins: both programs, side by side -/
/-- at node i, with no node pending; of the others, who runs keeps rs -/
def QQ (z T n : Nat) (t : TT) (i : Nat) (v c : Nat → Int32) (u : Nat → Option Nat) (l : Nat → Int32) (tr : TR) : Prop := RB n t v ∧ IT v tr ∧ v (11 * i + 0) = 1 ∧ v 284 = -1 ∧ ∀ m, m < n → m ≠ i → v (11 * m + 0) = 1 → rs z T t v c u l m
def POST (z T n : Nat) (t : TT) (i lo : Nat) (v v1 c1 : Nat → Int32) (u1 : Nat → Option Nat) (l1 : Nat → Int32) (p1 : Option Nat) (tr1 : TR) (r : Int32) : Prop := OUT z T t i lo v1 p1 r ∧ LOC i v v1 ∧ RB n t v1 ∧ IT v1 tr1 ∧ v1 (11 * i + 0) = 1 ∧ ∀ m, m < n → v1 (11 * m + 0) = 1 → (m ≠ i ∨ r = 0 ∨ r = 1) → rs z T t v1 c1 u1 l1 m
section VIS
variable {b z T n i j k w lo m : Nat} {S0 M : HS} {v v0 v1 c c1 l l1 : Nat → Int32} {u u1 : Nat → Option Nat} {p : Option Nat} {tr tr1 : TR} {x r : Int32} {t : TT}
theorem LOC_trans (h : LOC i v v1) (h2 : LOC i v1 v0) : LOC i v v0 := fun k hk => (h2 k hk).trans (h k hk)
theorem LOC_refl : LOC i v v := fun _ _ => rfl
theorem LOC_upd (h : (11 * i ≤ k ∨ k % 11 = 4) ∧ (k < 272 ∨ 284 ≤ k)) : LOC i v (upd v k x) := fun q hq => pk_un (by omega)
theorem LOC_stop (hW : WF n t) (hlo : i < lo) (h : lo + m ≤ n) : LOC i v (stopV t lo m v) := by
  have hn := hW.1
  intro k hk
  exact ABC_stop hW lo m v h k (by omega) (by omega) (by omega) (by omega) (by omega) (by omega)
theorem QQ_stop (hW : WF n t) (hlo : i < lo) (h : lo + m ≤ n) (hQ : QQ z T n t i v c u l tr) (hI : IT (stopV t lo m v) tr1) : QQ z T n t i (stopV t lo m v) c u l tr1 := by
  have hn := hW.1
  refine ⟨RB_stop hW h hQ.1, hI, ?_, ?_, fun q hq hne h1 => RS_stop hW h q hq (fun h2 => hQ.2.2.2.2 q hq hne h2) h1⟩
  · by_cases h0 : m = 0
    · subst h0; exact hQ.2.2.1
    · rw [(stop_0 hW lo m v h i (by omega)).2 (by omega)]
      exact hQ.2.2.1
  · rw [ABC_stop hW lo m v h 284 (by omega) (by omega) (by omega) (by omega) (by omega) (by omega)]
    exact hQ.2.2.2.1
/-- a write that no other node's rs sees -/
theorem QQ_upd (hi : i < n) (hn : n ≤ 24) (hk : k < 294 ∧ k ≠ 284 ∧ k ≠ 11 * i + 0) (hk2 : 4 ≤ k % 11 ∨ 264 ≤ k ∨ k / 11 = i) (hQ : QQ z T n t i v c u l tr) (hk4 : ∀ q, q < n → k = 11 * q + 4 → t 0 q = 14 := by intro q _ e; omega) : QQ z T n t i (upd v k x) c u l tr := by
  refine ⟨fun q hq => ?_, IT_upd (by omega) hQ.2.1, ?_, ?_, fun q hq hne h1 => ?_⟩
  · by_cases e : q = i
    · subst e; exact ⟨by rw [pk_un (by omega)]; exact (hQ.1 q hq).1, fun h => by rw [pk_un (fun e => h (hk4 q hq e.symm))]; exact (hQ.1 q hq).2 h⟩
    · exact ⟨by rw [pk_un (by omega)]; exact (hQ.1 q hq).1, fun h => by rw [pk_un (fun e => h (hk4 q hq e.symm))]; exact (hQ.1 q hq).2 h⟩
  · rw [pk_un (by omega)]; exact hQ.2.2.1
  · rw [pk_un (by omega)]; exact hQ.2.2.2.1
  · rw [pk_un (by omega)] at h1
    exact rs_congr (pk_un (by omega)) (pk_un (by omega)) (pk_un (by omega)) rfl rfl (fun _ _ => rfl) (hQ.2.2.2.2 q hq hne h1)
theorem QQ_c (hQ : QQ z T n t i v c u l tr) : QQ z T n t i v (upd c i x) u l tr :=
  ⟨hQ.1, hQ.2.1, hQ.2.2.1, hQ.2.2.2.1, fun q hq hne h1 => rs_congr rfl rfl rfl (pk_un hne) rfl (fun _ _ => rfl) (hQ.2.2.2.2 q hq hne h1)⟩
theorem QQ_u {y : Option Nat} (hQ : QQ z T n t i v c u l tr) : QQ z T n t i v c (va_up u i y) l tr :=
  ⟨hQ.1, hQ.2.1, hQ.2.2.1, hQ.2.2.2.1, fun q hq hne h1 => rs_congr rfl rfl rfl rfl (va_up_ne _ _ hne) (fun _ _ => rfl) (hQ.2.2.2.2 q hq hne h1)⟩
theorem post_23 (hQ : QQ z T n t i v1 c u l tr) (hL : LOC i v v1) (hr : r = 2 ∨ r = 3) : POST z T n t i lo v v1 c u l none tr r :=
  ⟨Or.inr ⟨Or.inr hr, hQ.2.2.2.1, rfl⟩, hL, hQ.1, hQ.2.1, hQ.2.2.1, fun m hm h1 h2 => by
    refine hQ.2.2.2.2 m hm (fun e => ?_) h1
    rcases h2 with h2 | h2 | h2
    · exact h2 e
    · rcases hr with rfl | rfl <;> exact absurd h2 (by decide)
    · rcases hr with rfl | rfl <;> exact absurd h2 (by decide)⟩
theorem post_1 (hQ : QQ z T n t i v1 c u l tr) (hS : rs z T t v1 c u l i) (hL : LOC i v v1) : POST z T n t i lo v v1 c u l none tr 1 :=
  ⟨Or.inr ⟨Or.inl rfl, hQ.2.2.2.1, rfl⟩, hL, hQ.1, hQ.2.1, hQ.2.2.1, fun m hm h1 _ => by
    by_cases e : m = i
    · subst e; exact hS
    · exact hQ.2.2.2.2 m hm e h1⟩
theorem post_0 (hi : i < n) (hn : n ≤ 24) (hQ : QQ z T n t i v1 c u l tr) (hS : rs z T t v1 c u l i) (hL : LOC i v v1) (hj : j < t 11 i) (hlo : lo ≤ cN t i j) (h45 : (t 0 i = 4 ∨ t 0 i = 5) → v1 (11 * i + 1) = nI j) (h8 : t 0 i = 8 → bitOf (v1 (11 * i + 2)) j = false ∧ bitOf (v1 (11 * i + 3)) j = false) : POST z T n t i lo v (upd (upd v1 (11 * i + 5) (nI j)) 284 (nI (cN t i j))) c u l (some (nda z T (cN t i j))) tr 0 := by
  have e : ∀ q, q ≠ 284 → q ≠ 11 * i + 5 → upd (upd v1 (11 * i + 5) (nI j)) 284 (nI (cN t i j)) q = v1 q := fun q h1 h2 => by rw [pk_un h1, pk_un h2]
  refine ⟨Or.inl ⟨rfl, cN t i j, hlo, ⟨?_, j, hj, ?_, rfl, ?_, ?_⟩, pk_us, rfl⟩, ?_, ?_, ?_, ?_, ?_⟩
  · rw [e _ (by omega) (by omega)]; exact hQ.2.2.1
  · rw [pk_un (by omega), pk_us]
  · rw [e _ (by omega) (by omega)]; exact h45
  · rw [e _ (by omega) (by omega), e _ (by omega) (by omega)]; exact h8
  · exact LOC_trans hL (LOC_trans (LOC_upd (by omega)) (LOC_upd (by omega)))
  · intro q hq
    exact ⟨by rw [e _ (by omega) (by omega)]; exact (hQ.1 q hq).1, fun h => by rw [e _ (by omega) (by omega)]; exact (hQ.1 q hq).2 h⟩
  · exact IT_upd (by omega) (IT_upd (by omega) hQ.2.1)
  · rw [e _ (by omega) (by omega)]; exact hQ.2.2.1
  · intro q hq h1 _
    rw [e _ (by omega) (by omega)] at h1
    refine rs_congr (e _ (by omega) (by omega)) (e _ (by omega) (by omega)) (e _ (by omega) (by omega)) rfl rfl (fun _ _ => rfl) (?_ : rs z T t v1 c u l q)
    by_cases e : q = i
    · subst e; exact hS
    · exact hQ.2.2.2.2 q hq e h1
theorem SC_asks (hC : CX z T n t S0) (hi : i < n) {y : Int32} : SC z T n S0 (upd (upd v (11 * i + 5) x) 284 y) c u l p tr = SC z T n S0 v c u l p tr := by
  have hn := CX_n hC
  rw [SC_upd hn (by unfold relV; omega), SC_upd hn (by unfold relV; omega)]
/-- what a joint step says -/
def JJ (z T n b : Nat) (t : TT) (S0 M : HS) (i lo q : Nat) (v : Nat → Int32) (A B : Option (HS × Int32)) : Prop := ∃ v1 c1 u1 l1 p1 tr1 r, A = some (SC z T n S0 v1 c1 u1 l1 p1 tr1, r) ∧ B = some (SV b M v1, r) ∧ POST z T n t i lo v v1 c1 u1 l1 p1 tr1 r ∧ tr1.1 ≤ q
theorem jj_0 (hC : CX z T n t S0) (hi : i < n) {A B : Option (HS × Int32)} (hQ : QQ z T n t i v1 c u l tr) (hS : rs z T t v1 c u l i) (hL : LOC i v v1) (hj : j < t 11 i) (hlo : lo ≤ cN t i j) (h45 : (t 0 i = 4 ∨ t 0 i = 5) → v1 (11 * i + 1) = nI j) (h8 : t 0 i = 8 → bitOf (v1 (11 * i + 2)) j = false ∧ bitOf (v1 (11 * i + 3)) j = false) {q : Nat} (hq : tr.1 ≤ q) (hA : A = some (SC z T n S0 v1 c u l (some (nda z T (cN t i j))) tr, 0)) (hB : B = some (SV b M (upd (upd v1 (11 * i + 5) (nI j)) 284 (nI (cN t i j))), 0)) : JJ z T n b t S0 M i lo q v A B :=
  ⟨_, c, u, l, _, tr, 0, by rw [SC_asks hC hi]; exact hA, hB, post_0 hi (CX_n hC) hQ hS hL hj hlo h45 h8, hq⟩
theorem jj_1 {A B : Option (HS × Int32)} (hQ : QQ z T n t i v1 c u l tr) (hS : rs z T t v1 c u l i) (hL : LOC i v v1) {q : Nat} (hq : tr.1 ≤ q) (hA : A = some (SC z T n S0 v1 c u l none tr, 1)) (hB : B = some (SV b M v1, 1)) : JJ z T n b t S0 M i lo q v A B :=
  ⟨v1, c, u, l, none, tr, 1, hA, hB, post_1 hQ hS hL, hq⟩
theorem jj_23 {A B : Option (HS × Int32)} (hr : r = 2 ∨ r = 3) (hQ : QQ z T n t i v1 c u l tr) (hL : LOC i v v1) {q : Nat} (hq : tr.1 ≤ q) (hA : A = some (SC z T n S0 v1 c u l none tr, r)) (hB : B = some (SV b M v1, r)) : JJ z T n b t S0 M i lo q v A B :=
  ⟨v1, c, u, l, none, tr, r, hA, hB, post_23 hQ hL hr, hq⟩
theorem j_par (hC : CX z T n t S0) (hX : MX b n t M) (hi : i < n) (hk : t 0 i = 8) (hQ : QQ z T n t i v c u l tr) (hS : rs z T t v c u l i) (h5 : v (11 * i + 5) = nI j) (hj : j ≤ t 11 i) (hlo : lo ≤ cN t i j) (hq : tr.1 + 24 < 2 ^ 31) : JJ z T n b t S0 M i lo (tr.1 + 24) v (fX9_goOnInParallel (Yc z) (SC z T n S0 v c u l none tr) (some (z + 5)) (some (nda z T i)) (chO z T t i j)) (fX12_goesOn (Ym b) (SV b M v) (some b) (nI i)) := by
  have hn := CX_n hC
  have h8 := hS.2.2 hk
  have hnum := wf_num hC.2.1 hi
  have hin := wf_inner hC.2.1 hi (by omega)
  have hl := wf_last hC.2.1 hi
  have h9 := (wf_rng hC.2.1 hi).1
  have hce := wf_end hC.2.1 hi
  have hcnt := cnt_2 hC.2.1 hi h8
  have eB : fX12_goesOn (Ym b) (SV b M v) (some b) (nI i) = fX12_goesOn_28 (Ym b) FU (SV b M v) (some b) (nI i) (nI (t 11 i)) (nI j) (v (11 * i + 2) ||| v (11 * i + 3)) := by
    unfold fX12_goesOn
    refine bnd mrcv ?_
    refine bnd (m_children hX hi) ?_
    refine bnd mrcv ?_
    refine bnd (m_of (w := 5) hX.1 rfl (by omega)) ?_
    refine bnd mrcv ?_
    refine bnd (m_of (w := 2) hX.1 rfl (by omega)) ?_
    refine bnd mrcv ?_
    refine bnd (m_of (w := 3) hX.1 rfl (by omega)) ?_
    rw [h5]
  rw [eB]
  unfold fX9_goOnInParallel
  rcases j_scan (p := none) (tr := tr) (c := c) (u := u) hC hX hi h8 (t 11 i - j) FU FU j (by omega) (by unfold FU; omega) (by unfold FU; omega) with ⟨q, hq1, hq2, hq3, e1, e2⟩ | ⟨e1, e2⟩
  · have hb := h8.1 q hq2
    have hcq := wf_cNlt hC.2.1 hi (q - j) j (by omega)
    rw [show j + (q - j) = q by omega] at hcq
    refine jj_0 hC hi hQ hS LOC_refl hq2 (by omega) (fun h => by omega) (fun _ => ⟨?_, ?_⟩) (by omega) e1 e2
    · exact Bool.eq_false_iff.mpr (fun h => hq3 (Or.inl (hb.1.mp h)))
    · exact Bool.eq_false_iff.mpr (fun h => hq3 (Or.inr (hb.2.mp h)))
  · rw [e1, e2]
    have ec := par_cnt (v := v) (c := c) (u := u) (l := l) (p := none) (tr := tr) hC hi (t 11 i) FU 0 (by omega) (by unfold FU; omega)
    rw [show nI (cntL t l i 2 0) = 0 from rfl, show nI (cntL t l i 3 0) = 0 from rfl] at ec
    rw [ec]
    have c2 := cntL_le (t := t) (l := l) (i := i) (r := 2) (t 11 i)
    have c3 := cntL_le (t := t) (l := l) (i := i) (r := 3) (t 11 i)
    by_cases hc : cntL t l i 2 (t 11 i) < t 1 i ∧ ¬ (nI (t 11 i) - nI (t 1 i)) < nI (cntL t l i 3 (t 11 i))
    · rw [if_pos hc]
      refine jj_1 hQ hS LOC_refl (by omega) rfl ?_
      unfold fX12_goesOn_49
      refine ifP (nI_le (Nat.le_refl _) (by omega)) ?_
      refine bnd mrcv ?_
      refine bnd (m_of (w := 2) hX.1 rfl (by omega)) ?_
      refine bnd (m_bits _) ?_
      rw [hcnt.1]
      refine bnd (mR1210 (SV_fix hX.1)) (bnd (xT (c := 1) hX (by omega) (by omega) hi) ?_)
      refine ifN (nI_ge (by omega) (by omega)) ?_
      refine bnd mrcv ?_
      refine bnd (m_of (w := 3) hX.1 rfl (by omega)) ?_
      refine bnd (m_bits _) ?_
      rw [hcnt.2]
      refine bnd (mR1210 (SV_fix hX.1)) (bnd (xT (c := 1) hX (by omega) (by omega) hi) ?_)
      refine ifN hc.2 ?_
      rfl
    · rw [if_neg hc]
      obtain ⟨tr1, es, hI1, hq1⟩ := k_stop (c := c) (u := u) (l := l) (p := none) (j := i + 1) hC hi (by have := wf_cN hC.2.1 hi 1 hin.1; have := wf_cNlt hC.2.1 hi (t 11 i - 1) 1 (by omega); rw [show 1 + (t 11 i - 1) = t 11 i by omega] at this; omega) hQ.2.1 hq
      have h110 := m_go110 (g := nI (cntL t l i 2 (t 11 i))) hX hi (t 11 i) FU v (Nat.le_refl _) (by unfold FU; omega)
      rw [hce, ← Int32.sub_eq_add_neg] at h110
      have eB2 : fX12_goesOn_49 (Ym b) (SV b M v) (some b) (nI i) (nI (t 11 i)) (nI (t 11 i)) = some (SV b M (stopV t (i + 1) (t 4 i + 1 - (i + 1)) v), if nI (cntL t l i 2 (t 11 i)) < nI (t 1 i) then 3 else 2) := by
        unfold fX12_goesOn_49
        refine ifP (nI_le (Nat.le_refl _) (by omega)) ?_
        refine bnd mrcv ?_
        refine bnd (m_of (w := 2) hX.1 rfl (by omega)) ?_
        refine bnd (m_bits _) ?_
        rw [hcnt.1]
        refine bnd (mR1210 (SV_fix hX.1)) (bnd (xT (c := 1) hX (by omega) (by omega) hi) ?_)
        by_cases h1 : cntL t l i 2 (t 11 i) < t 1 i
        · refine ifN (nI_ge (by omega) (by omega)) ?_
          refine bnd mrcv ?_
          refine bnd (m_of (w := 3) hX.1 rfl (by omega)) ?_
          refine bnd (m_bits _) ?_
          rw [hcnt.2]
          refine bnd (mR1210 (SV_fix hX.1)) (bnd (xT (c := 1) hX (by omega) (by omega) hi) ?_)
          refine ifP ?_ h110
          by_cases h2 : (nI (t 11 i) - nI (t 1 i)) < nI (cntL t l i 3 (t 11 i))
          · exact h2
          · exact absurd ⟨h1, h2⟩ hc
        · refine ifP (nI_le (by omega) (by omega)) ?_
          exact h110
      have eA2 : fX9_goOnInParallel_134 (Yc z) (SC z T n S0 v c u l none tr) (some (z + 5)) (some (nda z T i)) (nI (cntL t l i 2 (t 11 i))) = some (SC z T n S0 (stopV t (i + 1) (t 4 i + 1 - (i + 1)) v) c u l none tr1, if nI (cntL t l i 2 (t 11 i)) < nI (t 1 i) then 3 else 2) := by
        unfold fX9_goOnInParallel_134
        refine bnd (k410' hC hi) ?_
        rw [show chO z T t i 0 = some (nda z T (i + 1)) from if_pos hin.1]
        refine bnd (crcv (o := 5) (by decide) rfl) ?_
        refine bnd es ?_
        refine bnd (k405 hC hi) ?_
        split <;> rfl
      rw [eB2, eA2]
      refine jj_23 ?_ (QQ_stop hC.2.1 (by omega) (by omega) hQ hI1) (LOC_stop hC.2.1 (by omega) (by omega)) hq1 rfl rfl
      split
      · exact Or.inr rfl
      · exact Or.inl rfl
theorem rs_upd4 (hi : i < n) (hn : n ≤ 24) (hk : 4 ≤ k % 11 ∨ 264 ≤ k) (h : rs z T t v c u l i) : rs z T t (upd v k x) c u l i :=
  rs_congr (pk_un (by omega)) (pk_un (by omega)) (pk_un (by omega)) rfl rfl (fun _ _ => rfl) h
theorem plN_4 (hW : WF n t) {key : Nat} (hk : key ≤ 7) (hi : i < n) : plN t key i < 272 ∧ (4 ≤ plN t key i % 11 ∨ 264 ≤ plN t key i) ∧ (11 * i ≤ plN t key i ∨ plN t key i % 11 = 4) := by
  have hn := hW.1
  have h := plN_ne hW hk hi
  refine ⟨h.1, ?_, ?_⟩
  · by_cases q : plN t key i < 264
    · exact Or.inl (by have := h.2 q; omega)
    · exact Or.inr (by omega)
  · by_cases q : plN t key i < 264
    · exact Or.inr (h.2 q)
    · exact Or.inl (by omega)
theorem j_act (hC : CX z T n t S0) (hX : MX b n t M) (hi : i < n) (hk : t 0 i < 2) (hQ : QQ z T n t i v c u l tr) (hS : rs z T t v c u l i) (hr : r = (if t 0 i = 0 then 2 else 3)) : JJ z T n b t S0 M i lo (tr.1 + 24) v (fX9_act (Yc z) (SC z T n S0 v c u l none tr) (some (z + 5)) (some (nda z T i)) r) (fX12_acts (Ym b) (SV b M v) (some b) (nI i)) := by
  have hn := CX_n hC
  have hrg := wf_rng hC.2.1 hi
  obtain ⟨hc, k, hk1, hk2, -⟩ := hS.1 (Or.inl hk)
  have hr23 : r = 2 ∨ r = 3 := by rw [hr]; split; exact Or.inl rfl; exact Or.inr rfl
  have hpl := plN_4 hC.2.1 hrg.2.1 hi
  have hs := (hC.2.1.2.2 i hi).2.2.2.2.2.2.2.2.2.2.1 hk
  have ek : ∀ w : Nat → Int32, (if nI (t 0 i) = 0 then some (SV b M w, (2 : Int32)) else some (SV b M w, 3)) = some (SV b M w, r) := by
    intro w
    rw [hr]
    by_cases h0 : t 0 i = 0
    · rw [if_pos (by rw [h0]; rfl), if_pos h0]
    · rw [if_neg (nI_ne0 (by omega) (by omega)), if_neg h0]
  by_cases hd : t 1 i ≤ k
  · by_cases h6 : t 6 i = 0
    · refine jj_23 hr23 hQ LOC_refl (by omega) ?_ ?_
      · unfold fX9_act
        refine bnd (k403 hC hi) ?_
        refine bnd (kc hC hi) ?_
        rw [hc, hk2]
        refine bnd (k405 hC hi) ?_
        refine ifP (nI_le (by omega) (by omega)) ?_
        refine bnd (k401 hC hi) ?_
        refine bnd (kcl0 hC hi) ?_
        rw [if_pos h6]
        refine ifP rfl ?_
        rfl
      · unfold fX12_acts
        refine bnd mrcv ?_
        refine bnd (m_of (w := 1) hX.1 rfl (by omega)) ?_
        rw [hk2]
        refine bnd (mR1210 (SV_fix hX.1)) (bnd (xT (c := 1) hX (by omega) (by omega) hi) ?_)
        refine ifP (nI_le (by omega) (by omega)) ?_
        refine bnd (mR1215 (SV_fix hX.1)) (bnd (xT (c := 6) hX (by omega) (by omega) hi) ?_)
        rw [h6]
        refine ifP (by decide) ?_
        refine bnd (mR1209 (SV_fix hX.1)) (bnd (xT (c := 0) hX (by omega) (by omega) hi) ?_)
        exact ek _
    · refine jj_23 (v1 := upd v (plN t (t 5 i) i) (eff (t 6 i) (nI (t 7 i)) (v (plN t (t 5 i) i)))) hr23 (QQ_upd hi hn (by omega) (by omega) hQ (fun q hq e => plN_14 hC.2.1 hi hq e)) (LOC_upd (by omega)) (by omega) ?_ ?_
      · unfold fX9_act
        refine bnd (k403 hC hi) ?_
        refine bnd (kc hC hi) ?_
        rw [hc, hk2]
        refine bnd (k405 hC hi) ?_
        refine ifP (nI_le (by omega) (by omega)) ?_
        refine bnd (k401 hC hi) ?_
        refine bnd (kcl0 hC hi) ?_
        rw [if_neg h6]
        refine ifN (by decide) ?_
        refine bnd (k900 hC) ?_
        refine bnd (k401 hC hi) ?_
        refine bnd (crcv (o := 6) (by decide) rfl) ?_
        refine bnd (k_change hC hi hrg.2.1 (clA_cl hC hi h6) (by omega)) ?_
        rfl
      · unfold fX12_acts
        refine bnd mrcv ?_
        refine bnd (m_of (w := 1) hX.1 rfl (by omega)) ?_
        rw [hk2]
        refine bnd (mR1210 (SV_fix hX.1)) (bnd (xT (c := 1) hX (by omega) (by omega) hi) ?_)
        refine ifP (nI_le (by omega) (by omega)) ?_
        refine bnd (mR1215 (SV_fix hX.1)) (bnd (xT (c := 6) hX (by omega) (by omega) hi) ?_)
        refine ifN (nI_ge (a := 0) (by omega) (by omega)) ?_
        refine bnd (mR1214 (SV_fix hX.1)) (bnd (xT (c := 5) hX (by omega) (by omega) hi) ?_)
        refine bnd (mR1215 (SV_fix hX.1)) (bnd (xT (c := 6) hX (by omega) (by omega) hi) ?_)
        refine bnd (mR1216 (SV_fix hX.1)) (bnd (xT (c := 7) hX (by omega) (by omega) hi) ?_)
        refine bnd mrcv ?_
        refine bnd (m_does hX.1 hX.2.1 hX.2.2 hrg.2.1 (by omega) hi) ?_
        refine bnd (mR1209 (SV_fix hX.1)) (bnd (xT (c := 0) hX (by omega) (by omega) hi) ?_)
        exact ek _
  · refine jj_1 (v1 := upd v (11 * i + 1) (v (11 * i + 1) + 1)) (c := upd c i (c i + 1)) (QQ_c (QQ_upd hi hn (by omega) (by omega) hQ)) ?_ (LOC_upd (by omega)) (by omega) ?_ ?_
    · refine ⟨fun h => ⟨?_, k + 1, by omega, ?_, fun h => by omega⟩, fun h => by omega, fun h => by omega⟩
      · show upd c i (c i + 1) i = upd v (11 * i + 1) (v (11 * i + 1) + 1) (11 * i + 1)
        rw [pk_us, pk_us, hc]
      · rw [pk_us, hk2, nI_1]
    · rw [SC_upd hn (by unfold relV; omega)]
      unfold fX9_act
      refine bnd (k403 hC hi) ?_
      refine bnd (kc hC hi) ?_
      refine bnd (k405 hC hi) ?_
      rw [hc, hk2]
      refine ifN (nI_ge (by omega) (by omega)) ?_
      refine bnd (k403 hC hi) ?_
      refine bnd (kc hC hi) ?_
      rw [hc, hk2]
      refine bnd (kcp hC hi) ?_
      rfl
    · unfold fX12_acts
      refine bnd mrcv ?_
      refine bnd (m_of (w := 1) hX.1 rfl (by omega)) ?_
      refine bnd (mR1210 (SV_fix hX.1)) (bnd (xT (c := 1) hX (by omega) (by omega) hi) ?_)
      rw [hk2]
      refine ifN (nI_ge (by omega) (by omega)) ?_
      refine bnd mrcv ?_
      refine bnd (m_adds (w := 1) hX.1 rfl (by omega)) ?_
      rw [hk2]
end VIS
