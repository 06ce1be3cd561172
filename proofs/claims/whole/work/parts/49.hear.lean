/-! enters, leaves, hears -/
theorem nIn {a k : Nat} {x : Int32} (h : a ≠ k) (ha : a < 2 ^ 31) (hk : k < 2 ^ 31) (hx : x = nI k := by rfl) : ¬ nI a = x := by
  subst hx
  exact fun e => h ((nI_eq ha hk).mp e)
section HEAR
variable {b z T n i j k w lo m ch : Nat} {S0 M : HS} {v v0 v1 c c1 l l1 : Nat → Int32} {u u1 : Nat → Option Nat} {p : Option Nat} {tr tr1 : TR} {x r : Int32} {t : TT}
theorem JJ_base {A B : Option (HS × Int32)} {q : Nat} (hL : LOC i v v0) (h : JJ z T n b t S0 M i lo q v0 A B) : JJ z T n b t S0 M i lo q v A B := by
  obtain ⟨v1, c1, u1, l1, p1, tr1, r, h1, h2, h3, h4⟩ := h
  exact ⟨v1, c1, u1, l1, p1, tr1, r, h1, h2, ⟨h3.1, LOC_trans hL h3.2.1, h3.2.2⟩, h4⟩
theorem j_enter (hC : CX z T n t S0) (hX : MX b n t M) (hi : i < n) (hB : RB n t v) (hI : IT v tr) (hp : v 284 = -1) (hR : RS z T n t v c u l) (hq : tr.1 + 24 < 2 ^ 31) : JJ z T n b t S0 M i (i + 1) (tr.1 + 24) v (fX9_beginVisit (Yc z) (SC z T n S0 v c u l none tr) (some (z + 5)) (some (nda z T i))) (fX12_enters (Ym b) (SV b M v) (some b) (nI i)) := by
  have hn := CX_n hC
  have hW := hC.2.1
  have hrg := wf_rng hW hi
  have e1 : ∀ k, k ≠ 11 * i + 10 → k ≠ 289 → upd (upd v (11 * i + 10) (v (11 * i + 10) + 1)) 289 (upd v (11 * i + 10) (v (11 * i + 10) + 1) 289 + 1) k = v k := fun k h1 h2 => by rw [pk_un h2, pk_un h1]
  have hL1 : LOC i v (upd (upd v (11 * i + 10) (v (11 * i + 10) + 1)) 289 (upd v (11 * i + 10) (v (11 * i + 10) + 1) 289 + 1)) := LOC_trans (LOC_upd (by omega)) (LOC_upd (by omega))
  have hI1 : IT (upd (upd v (11 * i + 10) (v (11 * i + 10) + 1)) 289 (upd v (11 * i + 10) (v (11 * i + 10) + 1) 289 + 1)) tr := IT_upd (by omega) (IT_upd (by omega) hI)
  have eA0 : ∀ r, (if upd (upd v (11 * i + 10) (v (11 * i + 10) + 1)) 289 (upd v (11 * i + 10) (v (11 * i + 10) + 1) 289 + 1) (11 * i + 0) = 0 then (rcv (Yc z) 9 (some (z + 5))).bind fun _ => (fX9_beginRun (Yc z) (SC z T n S0 (upd (upd v (11 * i + 10) (v (11 * i + 10) + 1)) 289 (upd v (11 * i + 10) (v (11 * i + 10) + 1) 289 + 1)) c u l none tr) (some (z + 5)) (some (nda z T i))).bind fun S37 => fX9_beginVisit_40 (Yc z) S37 (some (z + 5)) (some (nda z T i)) (some (lfa z T i)) else fX9_beginVisit_40 (Yc z) (SC z T n S0 (upd (upd v (11 * i + 10) (v (11 * i + 10) + 1)) 289 (upd v (11 * i + 10) (v (11 * i + 10) + 1) 289 + 1)) c u l none tr) (some (z + 5)) (some (nda z T i)) (some (lfa z T i))) = r → fX9_beginVisit (Yc z) (SC z T n S0 v c u l none tr) (some (z + 5)) (some (nda z T i)) = r := by
    intro r h
    unfold fX9_beginVisit
    refine bnd (k403 hC hi) ?_
    refine bnd (kL (w := 10) hC hi rfl) ?_
    refine bnd (kLp (w := 10) hC hi rfl) ?_
    refine bnd (k901 hC) ?_
    refine bnd (kG (w := 289) hC rfl) ?_
    refine bnd (kGp (w := 289) hC rfl) ?_
    refine bnd (kL (w := 0) hC hi rfl) ?_
    exact h
  refine JJ_base hL1 ?_
  generalize hw : upd (upd v (11 * i + 10) (v (11 * i + 10) + 1)) 289 (upd v (11 * i + 10) (v (11 * i + 10) + 1) 289 + 1) = w1 at *
  have eB0 : ∀ r, (if w1 (11 * i + 0) = 0 then fX12_enters_70 (Ym b) (SV b M (brV w1 i)) (some b) (nI i) else fX12_enters_70 (Ym b) (SV b M w1) (some b) (nI i)) = r → fX12_enters (Ym b) (SV b M v) (some b) (nI i) = r := by
    intro r h
    unfold fX12_enters
    refine bnd mrcv ?_
    refine bnd (m_adds (w := 10) hX.1 rfl (by omega)) ?_
    refine bnd (mR1200 (SV_fix hX.1)) ?_
    refine bnd (SV_gA (j := 289) (by omega)) ?_
    refine bnd (SV_pA (j := 289) (by omega)) ?_
    rw [hw]
    refine bnd mrcv ?_
    refine bnd (m_of (w := 0) hX.1 rfl (by omega)) ?_
    by_cases h0 : w1 (11 * i + 0) = 0
    · rw [if_pos h0] at h
      refine ifP h0 ?_
      refine bnd mrcv ?_
      refine bnd (m_sets (w := 0) hX.1 rfl (by omega)) ?_
      refine bnd mrcv ?_
      refine bnd (m_sets (w := 1) hX.1 rfl (by omega)) ?_
      refine bnd mrcv ?_
      refine bnd (m_sets (w := 2) hX.1 rfl (by omega)) ?_
      refine bnd mrcv ?_
      refine bnd (m_sets (w := 3) hX.1 rfl (by omega)) ?_
      refine bnd mrcv ?_
      refine bnd (m_sets (w := 4) hX.1 rfl (by omega)) ?_
      refine bnd mrcv ?_
      refine bnd (m_adds (w := 6) hX.1 rfl (by omega)) ?_
      exact h
    · rw [if_neg h0] at h
      refine ifN h0 ?_
      exact h
  by_cases h0 : w1 (11 * i + 0) = 0
  · rw [eA0 _ rfl, if_pos h0, eB0 _ rfl, if_pos h0]
    have eA : ((rcv (Yc z) 9 (some (z + 5))).bind fun _ => (fX9_beginRun (Yc z) (SC z T n S0 w1 c u l none tr) (some (z + 5)) (some (nda z T i))).bind fun S37 => fX9_beginVisit_40 (Yc z) S37 (some (z + 5)) (some (nda z T i)) (some (lfa z T i))) = fX9_beginVisit_40 (Yc z) (SC z T n S0 (upd (brV w1 i) (11 * i + 5) 0) (upd c i 0) (va_up u i (chO z T t i 0)) (clrL t i (t 11 i) 0 l) none tr) (some (z + 5)) (some (nda z T i)) (some (lfa z T i)) := by
      rw [SC_upd (k := 11 * i + 5) hn (by unfold relV; omega)]
      refine bnd (crcv (o := 5) (by decide) rfl) ?_
      refine bnd (k_begin hC hi) ?_
      rfl
    rw [eA]
    have hbi := brV_in (v := w1) (i := i)
    have eb : ∀ k, k < 11 * i ∨ 11 * i + 6 < k → upd (brV w1 i) (11 * i + 5) 0 k = w1 k := fun k hk => by rw [pk_un (by omega), brV_ot (by omega)]
    have hL : LOC i w1 (upd (brV w1 i) (11 * i + 5) 0) := fun k hk => by
      by_cases q : k < 11 * i
      · exact eb k (Or.inl q)
      · exact eb k (Or.inr (by omega))
    refine JJ_base hL (j_v40 hC hX hi ⟨fun q hq => ?_, IT_lo (fun k hk => eb k (by omega)) hI1, ?_, ?_, fun q hq hne h1 => ?_⟩ ?_ hq)
    · by_cases e : q = i
      · subst e; exact ⟨by rw [pk_un (by omega), hbi.1]; exact Or.inr rfl, fun _ => by rw [pk_un (by omega)]; exact brV_4⟩
      · exact ⟨by rw [eb _ (by omega), e1 _ (by omega) (by omega)]; exact (hB q hq).1, fun h => by rw [eb _ (by omega), e1 _ (by omega) (by omega)]; exact (hB q hq).2 h⟩
    · rw [pk_un (by omega), hbi.1]
    · rw [eb _ (by omega), e1 _ (by omega) (by omega)]; exact hp
    · rw [eb _ (by omega), e1 _ (by omega) (by omega)] at h1
      refine rs_congr (v := v) (c := c) (u := u) (l := l) ?_ ?_ ?_ (pk_un hne) (va_up_ne _ _ hne) (fun j hj => ?_) (hR q hq h1)
      · rw [eb _ (by omega), e1 _ (by omega) (by omega)]
      · rw [eb _ (by omega), e1 _ (by omega) (by omega)]
      · rw [eb _ (by omega), e1 _ (by omega) (by omega)]
      · refine clrL_out _ _ _ (fun k h1 h2 e => hne ?_)
        have a1 := (wf_ch hW hq hj).2.2.1
        have a2 := (wf_ch hW hi (j := k) (by omega)).2.2.1
        rw [e, a2] at a1
        exact a1.symm
    · have f1 : upd (brV w1 i) (11 * i + 5) 0 (11 * i + 1) = 0 := by rw [pk_un (by omega)]; exact hbi.2.1
      have f2 : upd (brV w1 i) (11 * i + 5) 0 (11 * i + 2) = 0 := by rw [pk_un (by omega)]; exact hbi.2.2.1
      have f3 : upd (brV w1 i) (11 * i + 5) 0 (11 * i + 3) = 0 := by rw [pk_un (by omega)]; exact hbi.2.2.2
      refine ⟨fun _ => ⟨?_, 0, Nat.zero_le _, f1, fun h => ?_⟩, fun h => ⟨0, ?_, f1, ?_⟩, fun h => ⟨fun j hj => ?_, fun j h1 h2 => ?_⟩⟩
      · rw [pk_us, f1]
      · exact (hW.2.2 i hi).2.2.2.2.2.2.2.2.2.2.2.2.2.2.1 h
      · exact (wf_inner hW hi (by omega)).1
      · rw [va_up_self, chO_0 (wf_inner hW hi (by omega)).1]; rfl
      · rw [f2, f3, bit_0, clrL_in hW hi (t 11 i) 0 l (by omega) j (Nat.zero_le _) (by omega)]
        exact ⟨⟨fun q => (by cases q), fun q => absurd q (by decide)⟩, ⟨fun q => (by cases q), fun q => absurd q (by decide)⟩⟩
      · rw [f2, f3, bit_0]; exact ⟨rfl, rfl⟩
  · rw [eA0 _ rfl, if_neg h0, eB0 _ rfl, if_neg h0]
    have h1 : w1 (11 * i + 0) = 1 := by
      rw [e1 _ (by omega) (by omega)] at h0 ⊢
      exact (hB i hi).1.resolve_left h0
    rw [← SC_upd (k := 11 * i + 5) (x := 0) hn (by unfold relV; omega)]
    refine JJ_base (v0 := upd w1 (11 * i + 5) 0) (LOC_upd (by omega)) (j_v40 hC hX hi ⟨fun q hq => ?_, IT_upd (by omega) hI1, ?_, ?_, fun q hq hne h1 => ?_⟩ ?_ hq)
    · exact ⟨by rw [pk_un (by omega), e1 _ (by omega) (by omega)]; exact (hB q hq).1, fun h => by rw [pk_un (by omega), e1 _ (by omega) (by omega)]; exact (hB q hq).2 h⟩
    · rw [pk_un (by omega)]; exact h1
    · rw [pk_un (by omega), e1 _ (by omega) (by omega)]; exact hp
    · rw [pk_un (by omega), e1 _ (by omega) (by omega)] at h1
      refine rs_congr (v := v) ?_ ?_ ?_ rfl rfl (fun _ _ => rfl) (hR q hq h1)
      · rw [pk_un (by omega), e1 _ (by omega) (by omega)]
      · rw [pk_un (by omega), e1 _ (by omega) (by omega)]
      · rw [pk_un (by omega), e1 _ (by omega) (by omega)]
    · rw [e1 _ (by omega) (by omega)] at h1
      refine rs_congr (v := v) ?_ ?_ ?_ rfl rfl (fun _ _ => rfl) (hR i hi h1)
      · rw [pk_un (by omega), e1 _ (by omega) (by omega)]
      · rw [pk_un (by omega), e1 _ (by omega) (by omega)]
      · rw [pk_un (by omega), e1 _ (by omega) (by omega)]
theorem tellV_upd (hk : k < 294) : tellV (upd v k x) i r = upd (tellV v i r) k x := by
  funext q
  by_cases e : q = k
  · subst e; rw [tellV_lo hk, pk_us, pk_us]
  · rw [pk_un e]
    unfold tellV
    by_cases h1 : 297 ≤ q ∧ q < 355
    · rw [if_pos h1, if_pos h1, pk_un (by omega)]
    · rw [if_neg h1, if_neg h1, pk_un (by omega), pk_un e]
/-- what changes in v when a visit ends -/
def LVV (n : Nat) (t : TT) (i : Nat) (r : Int32) (v v1 : Nat → Int32) : Prop := (∀ q, q < n → t 0 q ≠ 14 → v1 (11 * q + 4) = v (11 * q + 4)) ∧ (∀ k, k < 294 → k ≠ 11 * i + 0 → k ≠ 11 * i + 7 → k ≠ 11 * i + 8 → ¬ (k < 264 ∧ k % 11 = 4) → ¬ (264 ≤ k ∧ k < 272) → k ≠ 291 → v1 k = v k) ∧ (r = 1 → v1 (11 * i + 0) = v (11 * i + 0)) ∧ (r ≠ 1 → v1 (11 * i + 0) = 0)
theorem m_leave23 (hX : MX b n t M) (hi : i < n) (hr : (r = 2 ∧ w = 7) ∨ (r = 3 ∧ w = 8)) : fX12_leaves (Ym b) (SV b M v) (some b) (nI i) r = some (SV b M (endR t v i r w)) := by
  have hn := hX.2.2.1
  have hkd := wf_kind hX.2.2 hi
  have key : fX12_leaves_33 (Ym b) (SV b M (upd (tellV v i r) (11 * i + 0) 0)) (some b) (nI i) (some b) (nI i) (nI w) = some (SV b M (endR t v i r w)) := by
    have ew : endR t v i r w = endV t (upd (upd (tellV v i r) (11 * i + 0) 0) (11 * i + w) (upd (tellV v i r) (11 * i + 0) 0 (11 * i + w) + 1)) i := by
      unfold endR
      rw [tellV_upd (by omega), tellV_upd (by omega), pk_un (by omega), pk_un (by omega), tellV_lo (by omega)]
    rw [ew]
    unfold fX12_leaves_33
    refine bnd mrcv ?_
    refine bnd (m_adds (w := w) hX.1 rfl (by omega)) ?_
    refine bnd (mR1209 (SV_fix hX.1)) (bnd (xT (c := 0) hX (by omega) (by omega) hi) ?_)
    by_cases h : 2 ≤ t 0 i
    · refine ifP (nI_le (a := 2) h (by omega)) ?_
      have h9 := (hX.2.2.2.2 i hi).2.2.2.2.2.2.2.2.2.2.2.2.2.1 h
      unfold endV
      rw [if_pos h9]
    · refine ifN (nI_ge (b := 2) (by omega) (by omega)) ?_
      refine bnd mrcv ?_
      refine bnd (m_ends hX hi) ?_
      rfl
  unfold fX12_leaves
  refine bnd mrcv ?_
  refine bnd (m_tells hX.1) ?_
  rcases hr with ⟨rfl, rfl⟩ | ⟨rfl, rfl⟩
  · refine ifN (by decide) ?_
    refine bnd mrcv ?_
    refine bnd (m_sets (w := 0) hX.1 rfl (by omega)) ?_
    refine ifP rfl ?_
    exact key
  · refine ifN (by decide) ?_
    refine bnd mrcv ?_
    refine bnd (m_sets (w := 0) hX.1 rfl (by omega)) ?_
    refine ifN (by decide) ?_
    exact key
theorem j_leave (hC : CX z T n t S0) (hX : MX b n t M) (hi : i < n) (hI : IT v tr) (hr : r = 1 ∨ r = 2 ∨ r = 3) (hq : tr.1 + 1 < 2 ^ 31) : ∃ v1, fX9_endVisit (Yc z) (SC z T n S0 v c u l none tr) (some (z + 5)) (some (nda z T i)) r = some (SC z T n S0 v1 c u (upd l i r) none (tellX tr i r)) ∧ fX12_leaves (Ym b) (SV b M v) (some b) (nI i) r = some (SV b M v1) ∧ LVV n t i r v v1 ∧ IT v1 (tellX tr i r) := by
  have hn := CX_n hC
  have hW := hC.2.1
  have hLV : ∀ w, w = 7 ∨ w = 8 → r ≠ 1 → LVV n t i r v (endR t v i r w) := by
    intro w hw hr1
    refine ⟨fun q hq h => ?_, fun k h1 h2 h3 h4 h5 h6 h7 => ?_, fun h => absurd h hr1, fun _ => ?_⟩
    · unfold endR
      rw [endV_4 hW hi hq h, tellV_lo (by omega), pk_un (by omega), pk_un (by omega)]
    · unfold endR
      rw [endV_ch hW hi h5 h6 h7, tellV_lo h1, pk_un (by omega), pk_un h2]
    · unfold endR
      rw [endV_ch hW hi (by omega) (by omega) (by omega), tellV_lo (by omega), pk_un (by omega), pk_us]
  have hA : ∀ v1 tr1, fX9_endRun (Yc z) (SC z T n S0 v c u (upd l i r) none tr) (some (z + 5)) (some (nda z T i)) r = some (SC z T n S0 v1 c u (upd l i r) none tr1) → r ≠ 1 → fX9_endVisit (Yc z) (SC z T n S0 v c u l none tr) (some (z + 5)) (some (nda z T i)) r = some (SC z T n S0 v1 c u (upd l i r) none tr1) := by
    intro v1 tr1 h h1
    unfold fX9_endVisit
    refine bnd (k403 hC hi) ?_
    refine bnd (klp hC hi) ?_
    refine ifN h1 ?_
    refine bnd (crcv (o := 5) (by decide) rfl) ?_
    refine bnd h ?_
    rfl
  rcases hr with rfl | rfl | rfl
  · refine ⟨tellV v i 1, ?_, ?_, ⟨fun q hq _ => tellV_lo (by omega), fun k h1 _ _ _ _ _ _ => tellV_lo h1, fun _ => tellV_lo (by omega), fun h => absurd rfl h⟩, IT_tell hI⟩
    · unfold fX9_endVisit
      refine bnd (k403 hC hi) ?_
      refine bnd (klp hC hi) ?_
      refine ifP rfl ?_
      refine bnd (k901 hC) ?_
      refine bnd (crcv (o := 8) (by decide) rfl) ?_
      refine bnd (k_enter hC hi (by omega)) ?_
      rfl
    · unfold fX12_leaves
      refine bnd mrcv ?_
      refine bnd (m_tells hX.1) ?_
      refine ifP rfl ?_
      rfl
  · exact ⟨_, hA _ _ (k_end2 hC hi (by omega)) (by decide), m_leave23 hX hi (Or.inl ⟨rfl, rfl⟩), hLV 7 (Or.inl rfl) (by decide), IT_endR hW hi (by omega) hI⟩
  · exact ⟨_, hA _ _ (k_end3 hC hi (by omega)) (by decide), m_leave23 hX hi (Or.inr ⟨rfl, rfl⟩), hLV 8 (Or.inr rfl) (by decide), IT_endR hW hi (by omega) hI⟩
theorem jj_123 {A B : Option (HS × Int32)} (hr : r = 1 ∨ r = 2 ∨ r = 3) (hQ : QQ z T n t i v1 c u l tr) (hS : r = 1 → rs z T t v1 c u l i) (hL : LOC i v v1) {q : Nat} (hq : tr.1 ≤ q) (hA : A = some (SC z T n S0 v1 c u l none tr, r)) (hB : B = some (SV b M v1, r)) : JJ z T n b t S0 M i lo q v A B := by
  rcases hr with rfl | hr
  · exact jj_1 hQ (hS rfl) hL hq hA hB
  · exact jj_23 hr hQ hL hq hA hB
theorem k_react (hC : CX z T n t S0) (hi : i < n) : fX4_isReactive (Yc z) (SC z T n S0 v c u l p tr) (some (nda z T i)) = some (if t 0 i = 6 ∨ t 0 i = 7 then 1 else 0) := by
  have hkd := wf_kind hC.2.1 hi
  unfold fX4_isReactive
  refine bnd (k404 hC hi) ?_
  by_cases h6 : t 0 i = 6
  · refine ifP (nIe h6) ?_
    rw [if_pos (Or.inl h6)]
  · refine ifN (nIn h6 (by omega) (by omega)) ?_
    refine bnd (k404 hC hi) ?_
    by_cases h7 : t 0 i = 7
    · refine ifP (nIe h7) ?_
      rw [if_pos (Or.inr h7)]
    · refine ifN (nIn h7 (by omega) (by omega)) ?_
      rw [if_neg (by omega)]

theorem j_hear (hC : CX z T n t S0) (hX : MX b n t M) (hi : i < n) (hr : r = 1 ∨ r = 2 ∨ r = 3) (hP : PA t v i ch) (hQ : QQ z T n t i v c u (upd l ch r) tr) (hS : rs z T t v c u l i) (hq : tr.1 + 24 < 2 ^ 31) : JJ z T n b t S0 M i (t 4 ch + 1) (tr.1 + 24) v (fX9_goOn (Yc z) (SC z T n S0 v c u (upd l ch r) none tr) (some (z + 5)) (some (nda z T i)) (some (nda z T ch)) r) (fX12_hears (Ym b) (SV b M v) (some b) (nI i) r) := by
  have hn := CX_n hC
  have hW := hC.2.1
  have hkd := wf_kind hW hi
  have hrg := wf_rng hW hi
  have hnum := wf_num hW hi
  obtain ⟨hrun, j, hj, h5, hcj, h45, h8⟩ := hP
  subst hcj
  have hch := wf_ch hW hi hj
  have hl := wf_last hW hi
  have hlo : t 4 (cN t i j) + 1 = cN t i (j + 1) := rfl
  have hend := wf_end hW hi
  have c412 : gR (Yc z) 4 412 (some (nda z T (cN t i j))) (SC z T n S0 v c u (upd l (cN t i j) r) none tr) = some (chO z T t i (j + 1)) := k412' hC hi hj
  have cno : ¬ j + 1 < t 11 i → chO z T t i (j + 1) = none := fun h => if_neg h
  have cso : j + 1 < t 11 i → chO z T t i (j + 1) = some (nda z T (cN t i (j + 1))) := fun h => if_pos h
  have hsplit : t 0 i = 4 ∨ t 0 i = 5 ∨ t 0 i = 6 ∨ t 0 i = 7 ∨ t 0 i = 8 ∨ t 0 i = 9 ∨ t 0 i = 10 ∨ t 0 i = 11 ∨ t 0 i = 12 ∨ t 0 i = 13 ∨ t 0 i = 14 := by have := hch.1; omega
  rcases hsplit with hk | hk | hk | hk | hk | hk | hk | hk | hk | hk | hk
  · have a52 : ∀ q, fX9_goOnInList (Yc z) (SC z T n S0 v c u (upd l (cN t i j) r) none tr) (some (z + 5)) (some (nda z T i)) (some (nda z T (cN t i j))) r 2 = some q → fX9_goOn (Yc z) (SC z T n S0 v c u (upd l (cN t i j) r) none tr) (some (z + 5)) (some (nda z T i)) (some (nda z T (cN t i j))) r = some q := by
      intro q h
      unfold fX9_goOn
      refine bnd (k404 hC hi) ?_
      rw [hk]
      refine ifP (by decide) ?_
      unfold fX9_goOn_52
      refine bnd (crcv (o := 5) (by decide) rfl) ?_
      refine bnd h ?_
      rfl
    have a33 : fX9_goOnInList_33 (Yc z) (SC z T n S0 v c u (upd l (cN t i j) r) none tr) (some (z + 5)) (some (nda z T i)) r (chO z T t i (j + 1)) = some ((SC z T n S0 v c u (upd l (cN t i j) r) none tr), r) := by
      unfold fX9_goOnInList_33
      refine bnd (ndrcv hC.1 (by omega)) ?_
      refine bnd (k_react hC hi) ?_
      rw [if_neg (show ¬ (t 0 i = 6 ∨ t 0 i = 7) by omega)]
      refine ifP rfl ?_
      rfl
    by_cases ho : r = 2
    · have hcn := h45 (by omega)
      have eB84 : ∀ q, (if nI (t 11 i) ≤ nI (j + 1) then some (SV b M (upd v (11 * i + 1) (nI (j + 1))), r) else some (SV b M (upd (upd (upd v (11 * i + 1) (nI (j + 1))) (11 * i + 5) (nI (j + 1))) 284 (nI (cN t i (j + 1)))), 0)) = q → fX12_hears (Ym b) (SV b M v) (some b) (nI i) r = q := by
        intro q h
        unfold fX12_hears
        refine bnd mrcv ?_
        refine bnd (m_of (w := 5) hX.1 rfl (by omega)) ?_
        rw [h5]
        refine bnd (mR1209 (SV_fix hX.1)) (bnd (xT (c := 0) hX (by omega) (by omega) hi) ?_)
        rw [hk]
        refine ifN (by decide) ?_
        refine ifN (by decide) ?_
        unfold fX12_hears_33
        refine ifP (by decide) ?_
        unfold fX12_hears_84
        refine ifP ho ?_
        refine bnd mrcv ?_
        refine bnd (m_adds (w := 1) hX.1 rfl (by omega)) ?_
        rw [hcn, nI_1]
        refine bnd mrcv ?_
        refine bnd (m_children hX hi) ?_
        by_cases hlast : j + 1 < t 11 i
        · rw [if_neg (nI_ge (by omega) (by omega))] at h
          refine ifN (nI_ge (by omega) (by omega)) ?_
          refine bnd mrcv ?_
          refine bnd (m_asks hX hi hlast) ?_
          exact h
        · rw [if_pos (nI_le (by omega) (by omega)), ho] at h
          refine ifP (nI_le (by omega) (by omega)) ?_
          exact h
      by_cases hlast : j + 1 < t 11 i
      · refine jj_0 (v1 := upd v (11 * i + 1) (nI (j + 1))) (u := va_up u i (some (nda z T (cN t i (j + 1))))) hC hi (QQ_u (QQ_upd hi hn (by omega) (by omega) hQ)) ⟨fun h => by omega, fun _ => ⟨j + 1, hlast, pk_us, va_up_self _ _ _⟩, fun h => by omega⟩ (LOC_upd (by omega)) hlast (Nat.le_refl _) (fun _ => pk_us) (fun h => by omega) (by omega) (a52 _ ?_) (eB84 _ (if_neg (nI_ge (by omega) (by omega))))
        rw [SC_upd (k := 11 * i + 1) hn (by unfold relV; omega)]
        unfold fX9_goOnInList
        refine bnd c412 ?_
        refine ifP ho ?_
        rw [cso hlast]
        refine ifN (by intro e; cases e) ?_
        refine bnd (k403 hC hi) ?_
        refine bnd (kup hC hi) ?_
        refine bnd (crcv (o := 5) (by decide) rfl) ?_
        refine bnd (k_goDown hC) ?_
        rfl
      · refine jj_23 (v1 := upd v (11 * i + 1) (nI (j + 1))) (r := r) (by rw [ho]; simp) (QQ_upd hi hn (by omega) (by omega) hQ) (LOC_upd (by omega)) (by omega) (a52 _ ?_) (eB84 _ (if_pos (nI_le (by omega) (by omega))))
        rw [SC_upd (k := 11 * i + 1) hn (by unfold relV; omega)]
        unfold fX9_goOnInList
        refine bnd c412 ?_
        refine ifP ho ?_
        rw [cno hlast] at a33 ⊢
        refine ifP rfl ?_
        exact a33
    · refine jj_123 hr hQ (fun _ => ⟨hS.1, hS.2.1, fun h => by omega⟩) LOC_refl (by omega) (a52 _ ?_) ?_
      · unfold fX9_goOnInList
        refine bnd c412 ?_
        refine ifN ho ?_
        exact a33
      · unfold fX12_hears
        refine bnd mrcv ?_
        refine bnd (m_of (w := 5) hX.1 rfl (by omega)) ?_
        rw [h5]
        refine bnd (mR1209 (SV_fix hX.1)) (bnd (xT (c := 0) hX (by omega) (by omega) hi) ?_)
        rw [hk]
        refine ifN (by decide) ?_
        refine ifN (by decide) ?_
        unfold fX12_hears_33
        refine ifP (by decide) ?_
        unfold fX12_hears_84
        refine ifN ho ?_
        rfl
  · have a52 : ∀ q, fX9_goOnInList (Yc z) (SC z T n S0 v c u (upd l (cN t i j) r) none tr) (some (z + 5)) (some (nda z T i)) (some (nda z T (cN t i j))) r 3 = some q → fX9_goOn (Yc z) (SC z T n S0 v c u (upd l (cN t i j) r) none tr) (some (z + 5)) (some (nda z T i)) (some (nda z T (cN t i j))) r = some q := by
      intro q h
      unfold fX9_goOn
      refine bnd (k404 hC hi) ?_
      rw [hk]
      refine ifN (by decide) ?_
      refine ifP (by decide) ?_
      unfold fX9_goOn_61
      refine bnd (crcv (o := 5) (by decide) rfl) ?_
      refine bnd h ?_
      rfl
    have a33 : fX9_goOnInList_33 (Yc z) (SC z T n S0 v c u (upd l (cN t i j) r) none tr) (some (z + 5)) (some (nda z T i)) r (chO z T t i (j + 1)) = some ((SC z T n S0 v c u (upd l (cN t i j) r) none tr), r) := by
      unfold fX9_goOnInList_33
      refine bnd (ndrcv hC.1 (by omega)) ?_
      refine bnd (k_react hC hi) ?_
      rw [if_neg (show ¬ (t 0 i = 6 ∨ t 0 i = 7) by omega)]
      refine ifP rfl ?_
      rfl
    by_cases ho : r = 3
    · have hcn := h45 (by omega)
      have eB84 : ∀ q, (if nI (t 11 i) ≤ nI (j + 1) then some (SV b M (upd v (11 * i + 1) (nI (j + 1))), r) else some (SV b M (upd (upd (upd v (11 * i + 1) (nI (j + 1))) (11 * i + 5) (nI (j + 1))) 284 (nI (cN t i (j + 1)))), 0)) = q → fX12_hears (Ym b) (SV b M v) (some b) (nI i) r = q := by
        intro q h
        unfold fX12_hears
        refine bnd mrcv ?_
        refine bnd (m_of (w := 5) hX.1 rfl (by omega)) ?_
        rw [h5]
        refine bnd (mR1209 (SV_fix hX.1)) (bnd (xT (c := 0) hX (by omega) (by omega) hi) ?_)
        rw [hk]
        refine ifP (by decide) ?_
        unfold fX12_hears_33
        refine ifN (by decide) ?_
        refine ifP (by decide) ?_
        unfold fX12_hears_84
        refine ifP ho ?_
        refine bnd mrcv ?_
        refine bnd (m_adds (w := 1) hX.1 rfl (by omega)) ?_
        rw [hcn, nI_1]
        refine bnd mrcv ?_
        refine bnd (m_children hX hi) ?_
        by_cases hlast : j + 1 < t 11 i
        · rw [if_neg (nI_ge (by omega) (by omega))] at h
          refine ifN (nI_ge (by omega) (by omega)) ?_
          refine bnd mrcv ?_
          refine bnd (m_asks hX hi hlast) ?_
          exact h
        · rw [if_pos (nI_le (by omega) (by omega)), ho] at h
          refine ifP (nI_le (by omega) (by omega)) ?_
          exact h
      by_cases hlast : j + 1 < t 11 i
      · refine jj_0 (v1 := upd v (11 * i + 1) (nI (j + 1))) (u := va_up u i (some (nda z T (cN t i (j + 1))))) hC hi (QQ_u (QQ_upd hi hn (by omega) (by omega) hQ)) ⟨fun h => by omega, fun _ => ⟨j + 1, hlast, pk_us, va_up_self _ _ _⟩, fun h => by omega⟩ (LOC_upd (by omega)) hlast (Nat.le_refl _) (fun _ => pk_us) (fun h => by omega) (by omega) (a52 _ ?_) (eB84 _ (if_neg (nI_ge (by omega) (by omega))))
        rw [SC_upd (k := 11 * i + 1) hn (by unfold relV; omega)]
        unfold fX9_goOnInList
        refine bnd c412 ?_
        refine ifP ho ?_
        rw [cso hlast]
        refine ifN (by intro e; cases e) ?_
        refine bnd (k403 hC hi) ?_
        refine bnd (kup hC hi) ?_
        refine bnd (crcv (o := 5) (by decide) rfl) ?_
        refine bnd (k_goDown hC) ?_
        rfl
      · refine jj_23 (v1 := upd v (11 * i + 1) (nI (j + 1))) (r := r) (by rw [ho]; simp) (QQ_upd hi hn (by omega) (by omega) hQ) (LOC_upd (by omega)) (by omega) (a52 _ ?_) (eB84 _ (if_pos (nI_le (by omega) (by omega))))
        rw [SC_upd (k := 11 * i + 1) hn (by unfold relV; omega)]
        unfold fX9_goOnInList
        refine bnd c412 ?_
        refine ifP ho ?_
        rw [cno hlast] at a33 ⊢
        refine ifP rfl ?_
        exact a33
    · refine jj_123 hr hQ (fun _ => ⟨hS.1, hS.2.1, fun h => by omega⟩) LOC_refl (by omega) (a52 _ ?_) ?_
      · unfold fX9_goOnInList
        refine bnd c412 ?_
        refine ifN ho ?_
        exact a33
      · unfold fX12_hears
        refine bnd mrcv ?_
        refine bnd (m_of (w := 5) hX.1 rfl (by omega)) ?_
        rw [h5]
        refine bnd (mR1209 (SV_fix hX.1)) (bnd (xT (c := 0) hX (by omega) (by omega) hi) ?_)
        rw [hk]
        refine ifP (by decide) ?_
        unfold fX12_hears_33
        refine ifN (by decide) ?_
        refine ifP (by decide) ?_
        unfold fX12_hears_84
        refine ifN ho ?_
        rfl
  · have a52 : ∀ q, fX9_goOnInList (Yc z) (SC z T n S0 v c u (upd l (cN t i j) r) none tr) (some (z + 5)) (some (nda z T i)) (some (nda z T (cN t i j))) r 2 = some q → fX9_goOn (Yc z) (SC z T n S0 v c u (upd l (cN t i j) r) none tr) (some (z + 5)) (some (nda z T i)) (some (nda z T (cN t i j))) r = some q := by
      intro q h
      unfold fX9_goOn
      refine bnd (k404 hC hi) ?_
      rw [hk]
      refine ifN (by decide) ?_
      refine ifN (by decide) ?_
      refine ifP (by decide) ?_
      unfold fX9_goOn_52
      refine bnd (crcv (o := 5) (by decide) rfl) ?_
      refine bnd h ?_
      rfl
    by_cases ho : r = 2
    · by_cases hlast : j + 1 < t 11 i
      · refine jj_0 (v1 := v) (u := va_up u i (some (nda z T (cN t i (j + 1))))) hC hi (QQ_u hQ) ⟨fun h => by omega, fun h => by omega, fun h => by omega⟩ LOC_refl hlast (Nat.le_refl _) (fun h => by omega) (fun h => by omega) (by omega) (a52 _ ?_) ?_
        · unfold fX9_goOnInList
          refine bnd c412 ?_
          refine ifP ho ?_
          rw [cso hlast]
          refine ifN (by intro e; cases e) ?_
          refine bnd (k403 hC hi) ?_
          refine bnd (kup hC hi) ?_
          refine bnd (crcv (o := 5) (by decide) rfl) ?_
          refine bnd (k_goDown hC) ?_
          rfl
        · unfold fX12_hears
          refine bnd mrcv ?_
          refine bnd (m_of (w := 5) hX.1 rfl (by omega)) ?_
          rw [h5]
          refine bnd (mR1209 (SV_fix hX.1)) (bnd (xT (c := 0) hX (by omega) (by omega) hi) ?_)
          rw [hk]
          refine ifN (by decide) ?_
          refine ifN (by decide) ?_
          unfold fX12_hears_33
          refine ifN (by decide) ?_
          refine ifN (by decide) ?_
          refine ifP (by decide) ?_
          unfold fX12_hears_123
          refine ifP ho ?_
          rw [nI_1]
          refine bnd mrcv ?_
          refine bnd (m_children hX hi) ?_
          refine ifN (nI_ge (by omega) (by omega)) ?_
          refine bnd mrcv ?_
          refine bnd (m_asks hX hi hlast) ?_
          rfl
      · refine jj_23 (v1 := v) (r := r) (by rw [ho]; simp) hQ LOC_refl (by omega) (a52 _ ?_) ?_
        · unfold fX9_goOnInList
          refine bnd c412 ?_
          refine ifP ho ?_
          rw [cno hlast]
          refine ifP rfl ?_
          unfold fX9_goOnInList_33
          refine bnd (ndrcv hC.1 (by omega)) ?_
          refine bnd (k_react hC hi) ?_
          rw [if_pos (show t 0 i = 6 ∨ t 0 i = 7 by omega)]
          refine ifN (by decide) ?_
          refine bnd (crcv (o := 5) (by decide) rfl) ?_
          refine bnd k_stop0 ?_
          rfl
        · unfold fX12_hears
          refine bnd mrcv ?_
          refine bnd (m_of (w := 5) hX.1 rfl (by omega)) ?_
          rw [h5]
          refine bnd (mR1209 (SV_fix hX.1)) (bnd (xT (c := 0) hX (by omega) (by omega) hi) ?_)
          rw [hk]
          refine ifN (by decide) ?_
          refine ifN (by decide) ?_
          unfold fX12_hears_33
          refine ifN (by decide) ?_
          refine ifN (by decide) ?_
          refine ifP (by decide) ?_
          unfold fX12_hears_123
          refine ifP ho ?_
          rw [nI_1]
          refine bnd mrcv ?_
          refine bnd (m_children hX hi) ?_
          refine ifP (nI_le (by omega) (by omega)) ?_
          rw [ho]
    · have eB : ∀ q, fX12_hears_163 (Ym b) FU (SV b M v) (some b) (nI i) r (nI j) (nI (t 11 i - 1)) = q → fX12_hears (Ym b) (SV b M v) (some b) (nI i) r = q := by
        intro q h
        unfold fX12_hears
        refine bnd mrcv ?_
        refine bnd (m_of (w := 5) hX.1 rfl (by omega)) ?_
        rw [h5]
        refine bnd (mR1209 (SV_fix hX.1)) (bnd (xT (c := 0) hX (by omega) (by omega) hi) ?_)
        rw [hk]
        refine ifN (by decide) ?_
        refine ifN (by decide) ?_
        unfold fX12_hears_33
        refine ifN (by decide) ?_
        refine ifN (by decide) ?_
        refine ifP (by decide) ?_
        unfold fX12_hears_123
        refine ifN ho ?_
        refine bnd mrcv ?_
        refine bnd (m_children hX hi) ?_
        rw [show (1 : Int32) = nI 1 from rfl, pk_sub (by omega)]
        exact h
      have h163 := m_he163 (g := r) hX hi (t 11 i - 1 - j) FU j v (by omega) (by unfold FU; omega)
      rw [show j + (t 11 i - 1 - j) = t 11 i - 1 by omega, show j + 1 + (t 11 i - 1 - j) = t 11 i by omega, hend] at h163
      by_cases hlast : j + 1 < t 11 i
      · have hc1 := wf_ch hW hi hlast
        have hs1 := wf_cN hW hi (j + 1) (by omega)
        obtain ⟨tr1, es, hI1, hq1⟩ := k_stop (c := c) (u := u) (l := (upd l (cN t i j) r)) (p := none) (j := cN t i (j + 1)) hC hi hc1.2.1 hQ.2.1 hq
        refine jj_123 (v1 := stopV t (cN t i (j + 1)) (t 4 i + 1 - cN t i (j + 1)) v) hr (QQ_stop hW (by omega) (by omega) hQ hI1) (fun _ => ⟨fun h => by omega, fun h => by omega, fun h => by omega⟩) (LOC_stop hW (by omega) (by omega)) hq1 (a52 _ ?_) (eB _ h163)
        unfold fX9_goOnInList
        refine bnd c412 ?_
        refine ifN ho ?_
        rw [cso hlast]
        unfold fX9_goOnInList_33
        refine bnd (ndrcv hC.1 (by omega)) ?_
        refine bnd (k_react hC hi) ?_
        rw [if_pos (show t 0 i = 6 ∨ t 0 i = 7 by omega)]
        refine ifN (by decide) ?_
        refine bnd (crcv (o := 5) (by decide) rfl) ?_
        refine bnd es ?_
        rfl
      · have e0 : stopV t (cN t i (j + 1)) (t 4 i + 1 - cN t i (j + 1)) v = v := by
          rw [show j + 1 = t 11 i by omega, hend, Nat.sub_self]
          rfl
        rw [e0] at h163
        refine jj_123 (v1 := v) hr hQ (fun _ => ⟨fun h => by omega, fun h => by omega, fun h => by omega⟩) LOC_refl (by omega) (a52 _ ?_) (eB _ h163)
        unfold fX9_goOnInList
        refine bnd c412 ?_
        refine ifN ho ?_
        rw [cno hlast]
        unfold fX9_goOnInList_33
        refine bnd (ndrcv hC.1 (by omega)) ?_
        refine bnd (k_react hC hi) ?_
        rw [if_pos (show t 0 i = 6 ∨ t 0 i = 7 by omega)]
        refine ifN (by decide) ?_
        refine bnd (crcv (o := 5) (by decide) rfl) ?_
        refine bnd k_stop0 ?_
        rfl
  · have a52 : ∀ q, fX9_goOnInList (Yc z) (SC z T n S0 v c u (upd l (cN t i j) r) none tr) (some (z + 5)) (some (nda z T i)) (some (nda z T (cN t i j))) r 3 = some q → fX9_goOn (Yc z) (SC z T n S0 v c u (upd l (cN t i j) r) none tr) (some (z + 5)) (some (nda z T i)) (some (nda z T (cN t i j))) r = some q := by
      intro q h
      unfold fX9_goOn
      refine bnd (k404 hC hi) ?_
      rw [hk]
      refine ifN (by decide) ?_
      refine ifN (by decide) ?_
      refine ifN (by decide) ?_
      refine ifP (by decide) ?_
      unfold fX9_goOn_61
      refine bnd (crcv (o := 5) (by decide) rfl) ?_
      refine bnd h ?_
      rfl
    by_cases ho : r = 3
    · by_cases hlast : j + 1 < t 11 i
      · refine jj_0 (v1 := v) (u := va_up u i (some (nda z T (cN t i (j + 1))))) hC hi (QQ_u hQ) ⟨fun h => by omega, fun h => by omega, fun h => by omega⟩ LOC_refl hlast (Nat.le_refl _) (fun h => by omega) (fun h => by omega) (by omega) (a52 _ ?_) ?_
        · unfold fX9_goOnInList
          refine bnd c412 ?_
          refine ifP ho ?_
          rw [cso hlast]
          refine ifN (by intro e; cases e) ?_
          refine bnd (k403 hC hi) ?_
          refine bnd (kup hC hi) ?_
          refine bnd (crcv (o := 5) (by decide) rfl) ?_
          refine bnd (k_goDown hC) ?_
          rfl
        · unfold fX12_hears
          refine bnd mrcv ?_
          refine bnd (m_of (w := 5) hX.1 rfl (by omega)) ?_
          rw [h5]
          refine bnd (mR1209 (SV_fix hX.1)) (bnd (xT (c := 0) hX (by omega) (by omega) hi) ?_)
          rw [hk]
          refine ifN (by decide) ?_
          refine ifP (by decide) ?_
          unfold fX12_hears_33
          refine ifN (by decide) ?_
          refine ifN (by decide) ?_
          refine ifN (by decide) ?_
          refine ifP (by decide) ?_
          unfold fX12_hears_123
          refine ifP ho ?_
          rw [nI_1]
          refine bnd mrcv ?_
          refine bnd (m_children hX hi) ?_
          refine ifN (nI_ge (by omega) (by omega)) ?_
          refine bnd mrcv ?_
          refine bnd (m_asks hX hi hlast) ?_
          rfl
      · refine jj_23 (v1 := v) (r := r) (by rw [ho]; simp) hQ LOC_refl (by omega) (a52 _ ?_) ?_
        · unfold fX9_goOnInList
          refine bnd c412 ?_
          refine ifP ho ?_
          rw [cno hlast]
          refine ifP rfl ?_
          unfold fX9_goOnInList_33
          refine bnd (ndrcv hC.1 (by omega)) ?_
          refine bnd (k_react hC hi) ?_
          rw [if_pos (show t 0 i = 6 ∨ t 0 i = 7 by omega)]
          refine ifN (by decide) ?_
          refine bnd (crcv (o := 5) (by decide) rfl) ?_
          refine bnd k_stop0 ?_
          rfl
        · unfold fX12_hears
          refine bnd mrcv ?_
          refine bnd (m_of (w := 5) hX.1 rfl (by omega)) ?_
          rw [h5]
          refine bnd (mR1209 (SV_fix hX.1)) (bnd (xT (c := 0) hX (by omega) (by omega) hi) ?_)
          rw [hk]
          refine ifN (by decide) ?_
          refine ifP (by decide) ?_
          unfold fX12_hears_33
          refine ifN (by decide) ?_
          refine ifN (by decide) ?_
          refine ifN (by decide) ?_
          refine ifP (by decide) ?_
          unfold fX12_hears_123
          refine ifP ho ?_
          rw [nI_1]
          refine bnd mrcv ?_
          refine bnd (m_children hX hi) ?_
          refine ifP (nI_le (by omega) (by omega)) ?_
          rw [ho]
    · have eB : ∀ q, fX12_hears_163 (Ym b) FU (SV b M v) (some b) (nI i) r (nI j) (nI (t 11 i - 1)) = q → fX12_hears (Ym b) (SV b M v) (some b) (nI i) r = q := by
        intro q h
        unfold fX12_hears
        refine bnd mrcv ?_
        refine bnd (m_of (w := 5) hX.1 rfl (by omega)) ?_
        rw [h5]
        refine bnd (mR1209 (SV_fix hX.1)) (bnd (xT (c := 0) hX (by omega) (by omega) hi) ?_)
        rw [hk]
        refine ifN (by decide) ?_
        refine ifP (by decide) ?_
        unfold fX12_hears_33
        refine ifN (by decide) ?_
        refine ifN (by decide) ?_
        refine ifN (by decide) ?_
        refine ifP (by decide) ?_
        unfold fX12_hears_123
        refine ifN ho ?_
        refine bnd mrcv ?_
        refine bnd (m_children hX hi) ?_
        rw [show (1 : Int32) = nI 1 from rfl, pk_sub (by omega)]
        exact h
      have h163 := m_he163 (g := r) hX hi (t 11 i - 1 - j) FU j v (by omega) (by unfold FU; omega)
      rw [show j + (t 11 i - 1 - j) = t 11 i - 1 by omega, show j + 1 + (t 11 i - 1 - j) = t 11 i by omega, hend] at h163
      by_cases hlast : j + 1 < t 11 i
      · have hc1 := wf_ch hW hi hlast
        have hs1 := wf_cN hW hi (j + 1) (by omega)
        obtain ⟨tr1, es, hI1, hq1⟩ := k_stop (c := c) (u := u) (l := (upd l (cN t i j) r)) (p := none) (j := cN t i (j + 1)) hC hi hc1.2.1 hQ.2.1 hq
        refine jj_123 (v1 := stopV t (cN t i (j + 1)) (t 4 i + 1 - cN t i (j + 1)) v) hr (QQ_stop hW (by omega) (by omega) hQ hI1) (fun _ => ⟨fun h => by omega, fun h => by omega, fun h => by omega⟩) (LOC_stop hW (by omega) (by omega)) hq1 (a52 _ ?_) (eB _ h163)
        unfold fX9_goOnInList
        refine bnd c412 ?_
        refine ifN ho ?_
        rw [cso hlast]
        unfold fX9_goOnInList_33
        refine bnd (ndrcv hC.1 (by omega)) ?_
        refine bnd (k_react hC hi) ?_
        rw [if_pos (show t 0 i = 6 ∨ t 0 i = 7 by omega)]
        refine ifN (by decide) ?_
        refine bnd (crcv (o := 5) (by decide) rfl) ?_
        refine bnd es ?_
        rfl
      · have e0 : stopV t (cN t i (j + 1)) (t 4 i + 1 - cN t i (j + 1)) v = v := by
          rw [show j + 1 = t 11 i by omega, hend, Nat.sub_self]
          rfl
        rw [e0] at h163
        refine jj_123 (v1 := v) hr hQ (fun _ => ⟨fun h => by omega, fun h => by omega, fun h => by omega⟩) LOC_refl (by omega) (a52 _ ?_) (eB _ h163)
        unfold fX9_goOnInList
        refine bnd c412 ?_
        refine ifN ho ?_
        rw [cno hlast]
        unfold fX9_goOnInList_33
        refine bnd (ndrcv hC.1 (by omega)) ?_
        refine bnd (k_react hC hi) ?_
        rw [if_pos (show t 0 i = 6 ∨ t 0 i = 7 by omega)]
        refine ifN (by decide) ?_
        refine bnd (crcv (o := 5) (by decide) rfl) ?_
        refine bnd k_stop0 ?_
        rfl
  · have eA : fX9_goOn (Yc z) (SC z T n S0 v c u (upd l (cN t i j) r) none tr) (some (z + 5)) (some (nda z T i)) (some (nda z T (cN t i j))) r = fX9_goOnInParallel (Yc z) (SC z T n S0 v c u (upd l (cN t i j) r) none tr) (some (z + 5)) (some (nda z T i)) (chO z T t i (j + 1)) := by
      unfold fX9_goOn
      refine bnd (k404 hC hi) ?_
      rw [hk]
      refine ifN (by decide) ?_
      refine ifN (by decide) ?_
      refine ifN (by decide) ?_
      refine ifN (by decide) ?_
      refine ifP (by decide) ?_
      refine bnd c412 ?_
      refine bnd (crcv (o := 5) (by decide) rfl) ?_
      cases fX9_goOnInParallel (Yc z) (SC z T n S0 v c u (upd l (cN t i j) r) none tr) (some (z + 5)) (some (nda z T i)) (chO z T t i (j + 1)) <;> rfl
    have h80 := hS.2.2 hk
    have hf := h8 hk
    have e231 : ∀ w : Nat → Int32, fX12_hears_231 (Ym b) (SV b M w) (some b) (nI i) (nI j) = fX12_goesOn (Ym b) (SV b M (upd w (11 * i + 5) (nI (j + 1)))) (some b) (nI i) := by
      intro w
      unfold fX12_hears_231
      refine bnd mrcv ?_
      rw [nI_1]
      refine bnd (m_sets (w := 5) hX.1 rfl (by omega)) ?_
      refine bnd mrcv ?_
      cases fX12_goesOn (Ym b) (SV b M (upd w (11 * i + 5) (nI (j + 1)))) (some b) (nI i) <;> rfl
    have fin : ∀ w : Nat → Int32, (∀ k, k ≠ 11 * i + 2 → k ≠ 11 * i + 3 → w k = v k) → rs8 t w (upd l (cN t i j) r) i → fX12_hears (Ym b) (SV b M v) (some b) (nI i) r = fX12_hears_231 (Ym b) (SV b M w) (some b) (nI i) (nI j) → JJ z T n b t S0 M i (t 4 (cN t i j) + 1) (tr.1 + 24) v (fX9_goOn (Yc z) (SC z T n S0 v c u (upd l (cN t i j) r) none tr) (some (z + 5)) (some (nda z T i)) (some (nda z T (cN t i j))) r) (fX12_hears (Ym b) (SV b M v) (some b) (nI i) r) := by
      intro w hw h8w eB
      rw [eA, eB, e231 w]
      have eS : (SC z T n S0 v c u (upd l (cN t i j) r) none tr) = SC z T n S0 (upd w (11 * i + 5) (nI (j + 1))) c u (upd l (cN t i j) r) none tr := by
        refine (SC_congr hn (fun k hk2 => ?_)).symm
        unfold relV at hk2
        rw [pk_un (by omega), hw k (by omega) (by omega)]
      rw [eS]
      have g : ∀ k, k ≠ 11 * i + 2 → k ≠ 11 * i + 3 → k ≠ 11 * i + 5 → upd w (11 * i + 5) (nI (j + 1)) k = v k := fun k h1 h2 h3 => by rw [pk_un h3, hw k h1 h2]
      refine JJ_base (fun k hk2 => g k (by omega) (by omega) (by omega)) (j_par hC hX hi hk ⟨fun q hq2 => ?_, IT_lo (fun k hk2 => g k (by omega) (by omega) (by omega)) hQ.2.1, ?_, ?_, fun q hq2 hne h1 => ?_⟩ ⟨fun h => by omega, fun h => by omega, fun _ => ?_⟩ pk_us (by omega) (Nat.le_refl _) hq)
      · exact ⟨by rw [g _ (by omega) (by omega) (by omega)]; exact (hQ.1 q hq2).1, fun h => by rw [g _ (by omega) (by omega) (by omega)]; exact (hQ.1 q hq2).2 h⟩
      · rw [g _ (by omega) (by omega) (by omega)]; exact hQ.2.2.1
      · rw [g _ (by omega) (by omega) (by omega)]; exact hQ.2.2.2.1
      · rw [g _ (by omega) (by omega) (by omega)] at h1
        exact rs_congr (g _ (by omega) (by omega) (by omega)) (g _ (by omega) (by omega) (by omega)) (g _ (by omega) (by omega) (by omega)) rfl rfl (fun _ _ => rfl) (hQ.2.2.2.2 q hq2 hne h1)
      · unfold rs8 at h8w ⊢
        rw [pk_un (by omega), pk_un (by omega)]
        exact h8w
    have lj : ∀ k, k < t 11 i → (upd l (cN t i j) r) (cN t i k) = if k = j then r else l (cN t i k) := by
      intro k hk2
      by_cases e : k = j
      · subst e; rw [pk_us, if_pos rfl]
      · rw [pk_un (fun q => e (wf_cNinj hW hi hk2 hj q)), if_neg e]
    rcases hr with rfl | rfl | rfl
    · refine fin v (fun _ _ _ => rfl) ⟨fun k hk2 => ?_, h80.2⟩ ?_
      · rw [lj k hk2]
        by_cases e : k = j
        · subst e
          rw [if_pos rfl, hf.1, hf.2]
          exact ⟨⟨fun q => (by cases q), fun q => absurd q (by decide)⟩, ⟨fun q => (by cases q), fun q => absurd q (by decide)⟩⟩
        · rw [if_neg e]; exact h80.1 k hk2
      · unfold fX12_hears
        refine bnd mrcv ?_
        refine bnd (m_of (w := 5) hX.1 rfl (by omega)) ?_
        rw [h5]
        refine bnd (mR1209 (SV_fix hX.1)) (bnd (xT (c := 0) hX (by omega) (by omega) hi) ?_)
        rw [hk]
        refine ifN (by decide) ?_
        refine ifN (by decide) ?_
        unfold fX12_hears_33
        refine ifN (by decide) ?_
        refine ifN (by decide) ?_
        refine ifN (by decide) ?_
        refine ifN (by decide) ?_
        refine ifP (by decide) ?_
        refine ifN (by decide) ?_
        unfold fX12_hears_210
        refine ifN (by decide) ?_
        rfl
    · refine fin (upd v (11 * i + 2) (v (11 * i + 2) ||| (1 <<< (nI j &&& 31)))) (fun k h1 _ => pk_un h1) ⟨fun k hk2 => ?_, fun k h1 h2 => ?_⟩ ?_
      · rw [lj k hk2, pk_us, pk_un (by omega), bit_or, bit_one (by omega) (by omega)]
        by_cases e : k = j
        · subst e
          rw [if_pos rfl, hf.1, hf.2]
          exact ⟨⟨fun _ => rfl, fun _ => by simp⟩, ⟨fun q => (by cases q), fun q => absurd q (by decide)⟩⟩
        · rw [if_neg e, decide_eq_false e, Bool.or_false]; exact h80.1 k hk2
      · rw [pk_us, pk_un (by omega), bit_or, bit_one (by omega) (by omega), decide_eq_false (by omega), Bool.or_false]; exact h80.2 k h1 h2
      · unfold fX12_hears
        refine bnd mrcv ?_
        refine bnd (m_of (w := 5) hX.1 rfl (by omega)) ?_
        rw [h5]
        refine bnd (mR1209 (SV_fix hX.1)) (bnd (xT (c := 0) hX (by omega) (by omega) hi) ?_)
        rw [hk]
        refine ifN (by decide) ?_
        refine ifN (by decide) ?_
        unfold fX12_hears_33
        refine ifN (by decide) ?_
        refine ifN (by decide) ?_
        refine ifN (by decide) ?_
        refine ifN (by decide) ?_
        refine ifP (by decide) ?_
        refine ifP rfl ?_
        refine bnd mrcv ?_
        refine bnd (m_of (w := 2) hX.1 rfl (by omega)) ?_
        refine bnd mrcv ?_
        refine bnd (m_sets (w := 2) hX.1 rfl (by omega)) ?_
        unfold fX12_hears_210
        refine ifN (by decide) ?_
        rfl
    · refine fin (upd v (11 * i + 3) (v (11 * i + 3) ||| (1 <<< (nI j &&& 31)))) (fun k _ h1 => pk_un h1) ⟨fun k hk2 => ?_, fun k h1 h2 => ?_⟩ ?_
      · rw [lj k hk2, pk_us, pk_un (by omega), bit_or, bit_one (by omega) (by omega)]
        by_cases e : k = j
        · subst e
          rw [if_pos rfl, hf.1, hf.2]
          exact ⟨⟨fun q => (by cases q), fun q => absurd q (by decide)⟩, ⟨fun _ => rfl, fun _ => by simp⟩⟩
        · rw [if_neg e, decide_eq_false e, Bool.or_false]; exact h80.1 k hk2
      · rw [pk_us, pk_un (by omega), bit_or, bit_one (by omega) (by omega), decide_eq_false (by omega), Bool.or_false]; exact h80.2 k h1 h2
      · unfold fX12_hears
        refine bnd mrcv ?_
        refine bnd (m_of (w := 5) hX.1 rfl (by omega)) ?_
        rw [h5]
        refine bnd (mR1209 (SV_fix hX.1)) (bnd (xT (c := 0) hX (by omega) (by omega) hi) ?_)
        rw [hk]
        refine ifN (by decide) ?_
        refine ifN (by decide) ?_
        unfold fX12_hears_33
        refine ifN (by decide) ?_
        refine ifN (by decide) ?_
        refine ifN (by decide) ?_
        refine ifN (by decide) ?_
        refine ifP (by decide) ?_
        refine ifN (by decide) ?_
        unfold fX12_hears_210
        refine ifP rfl ?_
        refine bnd mrcv ?_
        refine bnd (m_of (w := 3) hX.1 rfl (by omega)) ?_
        refine bnd mrcv ?_
        refine bnd (m_sets (w := 3) hX.1 rfl (by omega)) ?_
        rfl
  · rcases hr with rfl | rfl | rfl
    · refine jj_123 (r := 1) (v1 := v) (by simp) hQ (fun h => ⟨fun h => by omega, fun h => by omega, fun h => by omega⟩) LOC_refl (by omega) ?_ ?_
      · unfold fX9_goOn
        refine bnd (k404 hC hi) ?_
        rw [hk]
        refine ifN (by decide) ?_
        refine ifN (by decide) ?_
        refine ifN (by decide) ?_
        refine ifN (by decide) ?_
        refine ifN (by decide) ?_
        refine ifP (by decide) ?_
        refine ifP rfl ?_
        rfl
      · unfold fX12_hears
        refine bnd mrcv ?_
        refine bnd (m_of (w := 5) hX.1 rfl (by omega)) ?_
        rw [h5]
        refine bnd (mR1209 (SV_fix hX.1)) (bnd (xT (c := 0) hX (by omega) (by omega) hi) ?_)
        rw [hk]
        refine ifN (by decide) ?_
        refine ifN (by decide) ?_
        unfold fX12_hears_33
        refine ifN (by decide) ?_
        refine ifN (by decide) ?_
        refine ifN (by decide) ?_
        refine ifN (by decide) ?_
        refine ifN (by decide) ?_
        refine ifP (by decide) ?_
        refine ifN (by decide) ?_
        refine ifN (by decide) ?_
        rfl
    · refine jj_123 (r := 3) (v1 := v) (by simp) hQ (fun h => ⟨fun h => by omega, fun h => by omega, fun h => by omega⟩) LOC_refl (by omega) ?_ ?_
      · unfold fX9_goOn
        refine bnd (k404 hC hi) ?_
        rw [hk]
        refine ifN (by decide) ?_
        refine ifN (by decide) ?_
        refine ifN (by decide) ?_
        refine ifN (by decide) ?_
        refine ifN (by decide) ?_
        refine ifP (by decide) ?_
        refine ifN (by decide) ?_
        rfl
      · unfold fX12_hears
        refine bnd mrcv ?_
        refine bnd (m_of (w := 5) hX.1 rfl (by omega)) ?_
        rw [h5]
        refine bnd (mR1209 (SV_fix hX.1)) (bnd (xT (c := 0) hX (by omega) (by omega) hi) ?_)
        rw [hk]
        refine ifN (by decide) ?_
        refine ifN (by decide) ?_
        unfold fX12_hears_33
        refine ifN (by decide) ?_
        refine ifN (by decide) ?_
        refine ifN (by decide) ?_
        refine ifN (by decide) ?_
        refine ifN (by decide) ?_
        refine ifP (by decide) ?_
        refine ifP rfl ?_
        rfl
    · refine jj_123 (r := 2) (v1 := v) (by simp) hQ (fun h => ⟨fun h => by omega, fun h => by omega, fun h => by omega⟩) LOC_refl (by omega) ?_ ?_
      · unfold fX9_goOn
        refine bnd (k404 hC hi) ?_
        rw [hk]
        refine ifN (by decide) ?_
        refine ifN (by decide) ?_
        refine ifN (by decide) ?_
        refine ifN (by decide) ?_
        refine ifN (by decide) ?_
        refine ifP (by decide) ?_
        refine ifN (by decide) ?_
        rfl
      · unfold fX12_hears
        refine bnd mrcv ?_
        refine bnd (m_of (w := 5) hX.1 rfl (by omega)) ?_
        rw [h5]
        refine bnd (mR1209 (SV_fix hX.1)) (bnd (xT (c := 0) hX (by omega) (by omega) hi) ?_)
        rw [hk]
        refine ifN (by decide) ?_
        refine ifN (by decide) ?_
        unfold fX12_hears_33
        refine ifN (by decide) ?_
        refine ifN (by decide) ?_
        refine ifN (by decide) ?_
        refine ifN (by decide) ?_
        refine ifN (by decide) ?_
        refine ifP (by decide) ?_
        refine ifN (by decide) ?_
        refine ifP rfl ?_
        rfl
  · obtain ⟨hc, k, hk1, hk2, hk3⟩ := hS.1 (by omega)
    have hk3 := hk3 (by omega)
    have eA : ∀ q, fX9_countResult (Yc z) (SC z T n S0 v c u (upd l (cN t i j) r) none tr) (some (z + 5)) (some (nda z T i)) r 2 = some q → fX9_goOn (Yc z) (SC z T n S0 v c u (upd l (cN t i j) r) none tr) (some (z + 5)) (some (nda z T i)) (some (nda z T (cN t i j))) r = some q := by
      intro q h
      unfold fX9_goOn
      refine bnd (k404 hC hi) ?_
      rw [hk]
      refine ifN (by decide) ?_
      refine ifN (by decide) ?_
      refine ifN (by decide) ?_
      refine ifN (by decide) ?_
      refine ifN (by decide) ?_
      refine ifN (by decide) ?_
      refine ifP (by decide) ?_
      refine bnd (crcv (o := 5) (by decide) rfl) ?_
      refine bnd h ?_
      rfl
    have eB : ∀ q, fX12_counts (Ym b) (SV b M v) (some b) (nI i) r 2 = some q → fX12_hears (Ym b) (SV b M v) (some b) (nI i) r = some q := by
      intro q h
      unfold fX12_hears
      refine bnd mrcv ?_
      refine bnd (m_of (w := 5) hX.1 rfl (by omega)) ?_
      rw [h5]
      refine bnd (mR1209 (SV_fix hX.1)) (bnd (xT (c := 0) hX (by omega) (by omega) hi) ?_)
      rw [hk]
      refine ifN (by decide) ?_
      refine ifN (by decide) ?_
      unfold fX12_hears_33
      refine ifN (by decide) ?_
      refine ifN (by decide) ?_
      refine ifN (by decide) ?_
      refine ifN (by decide) ?_
      refine ifN (by decide) ?_
      refine ifN (by decide) ?_
      refine ifP (by decide) ?_
      unfold fX12_hears_266
      refine ifP rfl ?_
      refine bnd mrcv ?_
      refine bnd h ?_
      rfl
    by_cases ho : r = 2
    · refine jj_123 (r := if t 1 i ≤ k + 1 then r else 1) (v1 := upd v (11 * i + 1) (nI (k + 1))) (c := upd c i (nI (k + 1))) ?_ (QQ_c (QQ_upd hi hn (by omega) (by omega) hQ)) (fun h => ⟨fun _ => ⟨by rw [pk_us, pk_us], k + 1, ?_, pk_us, fun _ => ?_⟩, fun h => by omega, fun h => by omega⟩) (LOC_upd (by omega)) (by omega) (eA _ ?_) (eB _ ?_)
      · split
        · exact hr
        · exact Or.inl rfl
      · by_cases q : t 1 i ≤ k + 1
        · rw [if_pos q, ho] at h; exact absurd h (by decide)
        · omega
      · by_cases q : t 1 i ≤ k + 1
        · rw [if_pos q, ho] at h; exact absurd h (by decide)
        · omega
      · rw [SC_upd (k := 11 * i + 1) hn (by unfold relV; omega)]
        unfold fX9_countResult
        refine ifP ho ?_
        refine bnd (k403 hC hi) ?_
        refine bnd (kc hC hi) ?_
        rw [hc, hk2, nI_1]
        refine bnd (kcp hC hi) ?_
        refine bnd (k403 hC hi) ?_
        refine bnd (kc hC hi) ?_
        rw [pk_us]
        refine bnd (k405 hC hi) ?_
        by_cases q : t 1 i ≤ k + 1
        · refine ifP (nI_le q (by omega)) ?_
          rw [if_pos q]
        · refine ifN (nI_ge (by omega) (by omega)) ?_
          rw [if_neg q]
      · unfold fX12_counts
        refine ifP ho ?_
        refine bnd mrcv ?_
        refine bnd (m_adds (w := 1) hX.1 rfl (by omega)) ?_
        rw [hk2, nI_1]
        refine bnd mrcv ?_
        refine bnd (m_of (w := 1) hX.1 rfl (by omega)) ?_
        rw [pk_us]
        refine bnd (mR1210 (SV_fix hX.1)) (bnd (xT (c := 1) hX (by omega) (by omega) hi) ?_)
        by_cases q : t 1 i ≤ k + 1
        · refine ifP (show nI (k + 1) = nI (t 1 i) by rw [show k + 1 = t 1 i by omega]) ?_
          rw [if_pos q]
        · refine ifN (fun e => q (by have := (nI_eq (by omega) (by omega)).mp e; omega)) ?_
          rw [if_neg q]
    · refine jj_123 (v1 := v) hr hQ (fun _ => ⟨hS.1, hS.2.1, fun h => by omega⟩) LOC_refl (by omega) (eA _ ?_) (eB _ ?_)
      · unfold fX9_countResult
        refine ifN ho ?_
        rfl
      · unfold fX12_counts
        refine ifN ho ?_
        rfl
  · obtain ⟨hc, k, hk1, hk2, hk3⟩ := hS.1 (by omega)
    have hk3 := hk3 (by omega)
    have eA : ∀ q, fX9_countResult (Yc z) (SC z T n S0 v c u (upd l (cN t i j) r) none tr) (some (z + 5)) (some (nda z T i)) r 3 = some q → fX9_goOn (Yc z) (SC z T n S0 v c u (upd l (cN t i j) r) none tr) (some (z + 5)) (some (nda z T i)) (some (nda z T (cN t i j))) r = some q := by
      intro q h
      unfold fX9_goOn
      refine bnd (k404 hC hi) ?_
      rw [hk]
      refine ifN (by decide) ?_
      refine ifN (by decide) ?_
      refine ifN (by decide) ?_
      refine ifN (by decide) ?_
      refine ifN (by decide) ?_
      refine ifN (by decide) ?_
      refine ifN (by decide) ?_
      refine ifP (by decide) ?_
      refine bnd (crcv (o := 5) (by decide) rfl) ?_
      refine bnd h ?_
      rfl
    have eB : ∀ q, fX12_counts (Ym b) (SV b M v) (some b) (nI i) r 3 = some q → fX12_hears (Ym b) (SV b M v) (some b) (nI i) r = some q := by
      intro q h
      unfold fX12_hears
      refine bnd mrcv ?_
      refine bnd (m_of (w := 5) hX.1 rfl (by omega)) ?_
      rw [h5]
      refine bnd (mR1209 (SV_fix hX.1)) (bnd (xT (c := 0) hX (by omega) (by omega) hi) ?_)
      rw [hk]
      refine ifN (by decide) ?_
      refine ifN (by decide) ?_
      unfold fX12_hears_33
      refine ifN (by decide) ?_
      refine ifN (by decide) ?_
      refine ifN (by decide) ?_
      refine ifN (by decide) ?_
      refine ifN (by decide) ?_
      refine ifN (by decide) ?_
      refine ifN (by decide) ?_
      refine ifP (by decide) ?_
      unfold fX12_hears_266
      refine ifN (by decide) ?_
      refine bnd mrcv ?_
      refine bnd h ?_
      rfl
    by_cases ho : r = 3
    · refine jj_123 (r := if t 1 i ≤ k + 1 then r else 1) (v1 := upd v (11 * i + 1) (nI (k + 1))) (c := upd c i (nI (k + 1))) ?_ (QQ_c (QQ_upd hi hn (by omega) (by omega) hQ)) (fun h => ⟨fun _ => ⟨by rw [pk_us, pk_us], k + 1, ?_, pk_us, fun _ => ?_⟩, fun h => by omega, fun h => by omega⟩) (LOC_upd (by omega)) (by omega) (eA _ ?_) (eB _ ?_)
      · split
        · exact hr
        · exact Or.inl rfl
      · by_cases q : t 1 i ≤ k + 1
        · rw [if_pos q, ho] at h; exact absurd h (by decide)
        · omega
      · by_cases q : t 1 i ≤ k + 1
        · rw [if_pos q, ho] at h; exact absurd h (by decide)
        · omega
      · rw [SC_upd (k := 11 * i + 1) hn (by unfold relV; omega)]
        unfold fX9_countResult
        refine ifP ho ?_
        refine bnd (k403 hC hi) ?_
        refine bnd (kc hC hi) ?_
        rw [hc, hk2, nI_1]
        refine bnd (kcp hC hi) ?_
        refine bnd (k403 hC hi) ?_
        refine bnd (kc hC hi) ?_
        rw [pk_us]
        refine bnd (k405 hC hi) ?_
        by_cases q : t 1 i ≤ k + 1
        · refine ifP (nI_le q (by omega)) ?_
          rw [if_pos q]
        · refine ifN (nI_ge (by omega) (by omega)) ?_
          rw [if_neg q]
      · unfold fX12_counts
        refine ifP ho ?_
        refine bnd mrcv ?_
        refine bnd (m_adds (w := 1) hX.1 rfl (by omega)) ?_
        rw [hk2, nI_1]
        refine bnd mrcv ?_
        refine bnd (m_of (w := 1) hX.1 rfl (by omega)) ?_
        rw [pk_us]
        refine bnd (mR1210 (SV_fix hX.1)) (bnd (xT (c := 1) hX (by omega) (by omega) hi) ?_)
        by_cases q : t 1 i ≤ k + 1
        · refine ifP (show nI (k + 1) = nI (t 1 i) by rw [show k + 1 = t 1 i by omega]) ?_
          rw [if_pos q]
        · refine ifN (fun e => q (by have := (nI_eq (by omega) (by omega)).mp e; omega)) ?_
          rw [if_neg q]
    · refine jj_123 (v1 := v) hr hQ (fun _ => ⟨hS.1, hS.2.1, fun h => by omega⟩) LOC_refl (by omega) (eA _ ?_) (eB _ ?_)
      · unfold fX9_countResult
        refine ifN ho ?_
        rfl
      · unfold fX12_counts
        refine ifN ho ?_
        rfl
  · refine jj_123 (v1 := v) hr hQ (fun _ => ⟨hS.1, hS.2.1, fun h => by omega⟩) LOC_refl (by omega) ?_ ?_
    · unfold fX9_goOn
      refine bnd (k404 hC hi) ?_
      rw [hk]
      refine ifN (by decide) ?_
      refine ifN (by decide) ?_
      refine ifN (by decide) ?_
      refine ifN (by decide) ?_
      refine ifN (by decide) ?_
      refine ifN (by decide) ?_
      refine ifN (by decide) ?_
      refine ifN (by decide) ?_
      rfl
    · unfold fX12_hears
      refine bnd mrcv ?_
      refine bnd (m_of (w := 5) hX.1 rfl (by omega)) ?_
      rw [h5]
      refine bnd (mR1209 (SV_fix hX.1)) (bnd (xT (c := 0) hX (by omega) (by omega) hi) ?_)
      rw [hk]
      refine ifN (by decide) ?_
      refine ifN (by decide) ?_
      unfold fX12_hears_33
      refine ifN (by decide) ?_
      refine ifN (by decide) ?_
      refine ifN (by decide) ?_
      refine ifN (by decide) ?_
      refine ifN (by decide) ?_
      refine ifN (by decide) ?_
      refine ifN (by decide) ?_
      refine ifN (by decide) ?_
      rfl
  · refine jj_123 (v1 := v) hr hQ (fun _ => ⟨hS.1, hS.2.1, fun h => by omega⟩) LOC_refl (by omega) ?_ ?_
    · unfold fX9_goOn
      refine bnd (k404 hC hi) ?_
      rw [hk]
      refine ifN (by decide) ?_
      refine ifN (by decide) ?_
      refine ifN (by decide) ?_
      refine ifN (by decide) ?_
      refine ifN (by decide) ?_
      refine ifN (by decide) ?_
      refine ifN (by decide) ?_
      refine ifN (by decide) ?_
      rfl
    · unfold fX12_hears
      refine bnd mrcv ?_
      refine bnd (m_of (w := 5) hX.1 rfl (by omega)) ?_
      rw [h5]
      refine bnd (mR1209 (SV_fix hX.1)) (bnd (xT (c := 0) hX (by omega) (by omega) hi) ?_)
      rw [hk]
      refine ifN (by decide) ?_
      refine ifN (by decide) ?_
      unfold fX12_hears_33
      refine ifN (by decide) ?_
      refine ifN (by decide) ?_
      refine ifN (by decide) ?_
      refine ifN (by decide) ?_
      refine ifN (by decide) ?_
      refine ifN (by decide) ?_
      refine ifN (by decide) ?_
      refine ifN (by decide) ?_
      rfl
  · refine jj_123 (v1 := v) hr hQ (fun _ => ⟨hS.1, hS.2.1, fun h => by omega⟩) LOC_refl (by omega) ?_ ?_
    · unfold fX9_goOn
      refine bnd (k404 hC hi) ?_
      rw [hk]
      refine ifN (by decide) ?_
      refine ifN (by decide) ?_
      refine ifN (by decide) ?_
      refine ifN (by decide) ?_
      refine ifN (by decide) ?_
      refine ifN (by decide) ?_
      refine ifN (by decide) ?_
      refine ifN (by decide) ?_
      rfl
    · unfold fX12_hears
      refine bnd mrcv ?_
      refine bnd (m_of (w := 5) hX.1 rfl (by omega)) ?_
      rw [h5]
      refine bnd (mR1209 (SV_fix hX.1)) (bnd (xT (c := 0) hX (by omega) (by omega) hi) ?_)
      rw [hk]
      refine ifN (by decide) ?_
      refine ifN (by decide) ?_
      unfold fX12_hears_33
      refine ifN (by decide) ?_
      refine ifN (by decide) ?_
      refine ifN (by decide) ?_
      refine ifN (by decide) ?_
      refine ifN (by decide) ?_
      refine ifN (by decide) ?_
      refine ifN (by decide) ?_
      refine ifN (by decide) ?_
      rfl
end HEAR
