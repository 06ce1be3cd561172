/-! ticks: both programs, side by side -/
/-- the nodes above i are under way: d of them, and they lie on the reference's stack -/
def PTH (t : TT) (v : Nat → Int32) : Nat → Nat → Prop
  | 0, _ => True
  | d + 1, i => v (273 + d) = nI (t 2 i) ∧ PA t v (t 2 i) i ∧ PTH t v d (t 2 i)
/-- node i is visited next -/
def HL (z T n : Nat) (t : TT) (i : Nat) (v c : Nat → Int32) (u : Nat → Option Nat) (l : Nat → Int32) (tr : TR) : Prop := i < n ∧ RB n t v ∧ IT v tr ∧ RS z T n t v c u l ∧ v 284 = nI i ∧ v 272 = nI (t 3 i - 1) ∧ PTH t v (t 3 i - 1) i
section TICK
variable {b z T n i j k w lo m ch d e x : Nat} {S0 M : HS} {v v0 v1 c c1 l l1 : Nat → Int32} {u u1 : Nat → Option Nat} {p : Option Nat} {tr tr1 : TR} {r : Int32} {t : TT}
theorem wf_dep (hW : WF n t) : ∀ (f i : Nat), i < f → i < n → 1 ≤ t 3 i
  | 0, _, h, _ => absurd h (Nat.not_lt_zero _)
  | f + 1, i, h, hi => by
    by_cases h0 : i = 0
    · subst h0; rw [(hW.2.1 (by omega)).1]; exact Nat.le_refl _
    · have := wf_up hW hi (by omega)
      have := wf_dep hW f (t 2 i) (by omega) (by omega)
      omega
theorem wf_dep1 (hW : WF n t) (hi : i < n) : 1 ≤ t 3 i ∧ t 3 i ≤ 10 ∧ (t 3 i = 1 ↔ i = 0) := by
  refine ⟨wf_dep hW (i + 1) i (by omega) hi, wf_depth hW hi, fun h => ?_, fun h => ?_⟩
  · by_cases h0 : i = 0
    · exact h0
    · have h1 := wf_up hW hi (by omega)
      have := wf_dep hW (i + 1) (t 2 i) (by omega) (by omega)
      omega
  · subst h; exact (hW.2.1 (by omega)).1
def LOC1 (i : Nat) (v v1 : Nat → Int32) : Prop := ∀ k, ((k < 11 * i ∧ k % 11 ≠ 4) ∨ (273 ≤ k ∧ k < 284)) → v1 k = v k
theorem LOC.one (h : LOC i v v1) : LOC1 i v v1 := fun k hk => h k (by omega)
theorem PA_congr (hx : x < i) (h : LOC1 i v v1) (hP : PA t v x ch) : PA t v1 x ch := by
  unfold PA at *
  rw [h _ (by omega), h _ (by omega), h _ (by omega), h _ (by omega), h _ (by omega)]
  exact hP
theorem PTH_congr (hW : WF n t) : ∀ (d i : Nat), i < n → t 3 i = d + 1 → LOC1 i v v1 → PTH t v d i → PTH t v1 d i
  | 0, _, _, _, _, _ => trivial
  | d + 1, i, hi, hd, hL, hP => by
    have h1 := wf_dep1 hW hi
    have hu := wf_up hW hi (by omega)
    refine ⟨by rw [hL _ (by omega)]; exact hP.1, PA_congr hu.1 hL hP.2.1, ?_⟩
    exact PTH_congr hW d (t 2 i) (by omega) (by omega) (fun k hk => hL k (by omega)) hP.2.2
/-- a child of i after i has been entered or has heard -/
theorem HL_child (hC : CX z T n t S0) (hi : i < n) (hP : PA t v i ch) (hB : RB n t v) (hI : IT v tr) (hR : RS z T n t v c u l) (hp : v 284 = nI ch) (h272 : v 272 = nI (t 3 i)) (hst : v (273 + (t 3 i - 1)) = nI i) (hPT : PTH t v (t 3 i - 1) i) : HL z T n t ch v c u l tr := by
  have hW := hC.2.1
  obtain ⟨h0, j, hj, h5, hcj, h45, h8⟩ := hP
  have hc := wf_ch hW hi hj
  have hcl := wf_cN hW hi j (by omega)
  rw [hcj] at hc hcl
  have hd := (wf_up hW hc.2.2.2.2 (by omega)).2.2.2.2
  have h1 := wf_dep1 hW hi
  rw [hc.2.2.1] at hd
  refine ⟨hc.2.2.2.2, hB, hI, hR, hp, by rw [h272, hd]; rfl, ?_⟩
  rw [hd, show t 3 i + 1 - 1 = (t 3 i - 1) + 1 by omega]
  exact ⟨by rw [hc.2.2.1]; exact hst, by rw [hc.2.2.1]; exact ⟨h0, j, hj, h5, hcj, h45, h8⟩, by rw [hc.2.2.1]; exact hPT⟩
theorem j_ticked (hC : CX z T n t S0) (hX : MX b n t M) (hr : r = 1 ∨ r = 2 ∨ r = 3) : ∃ v1, fX2_endTick (Yc z) (SC z T n S0 v c u l p tr) (some (z + 8)) r = some (SC z T n S0 v1 c u l p tr) ∧ fX12_ticked (Ym b) (SV b M v) (some b) r = some (SV b M v1, r) ∧ ∀ k, k < 286 ∨ 288 < k → v1 k = v k := by
  have e0 : ∀ (w : Nat → Int32) (k : Nat), upd w k (w k + 0) = w := fun w k => by
    funext q
    by_cases h : q = k
    · subst h; rw [pk_us, Int32.add_zero]
    · rw [pk_un h]
  rcases hr with rfl | rfl | rfl
  · refine ⟨upd v 286 (v 286 + 1), ?_, ?_, fun k hk => pk_un (by omega)⟩
    · unfold fX2_endTick
      refine bnd (kG (w := 286) hC rfl) ?_
      refine bnd (kGp (w := 286) hC rfl) ?_
      refine bnd (kG (w := 287) hC rfl) ?_
      refine ifN (by decide) ?_
      unfold fX2_endTick_25
      refine bnd (kGp (w := 287) hC rfl) ?_
      refine bnd (kG (w := 288) hC rfl) ?_
      refine ifN (by decide) ?_
      refine bnd (kGp (w := 288) hC rfl) ?_
      rw [e0, e0]
    · unfold fX12_ticked
      refine bnd (mR1200 (SV_fix hX.1)) ?_
      refine bnd (SV_gA (j := 286) (by omega)) ?_
      refine bnd (SV_pA (j := 286) (by omega)) ?_
      refine ifN (by decide) ?_
      unfold fX12_ticked_29
      refine ifN (by decide) ?_
      rfl
  · refine ⟨upd (upd v 286 (v 286 + 1)) 287 (upd v 286 (v 286 + 1) 287 + 1), ?_, ?_, fun k hk => by rw [pk_un (by omega), pk_un (by omega)]⟩
    · unfold fX2_endTick
      refine bnd (kG (w := 286) hC rfl) ?_
      refine bnd (kGp (w := 286) hC rfl) ?_
      refine bnd (kG (w := 287) hC rfl) ?_
      refine ifP rfl ?_
      unfold fX2_endTick_25
      refine bnd (kGp (w := 287) hC rfl) ?_
      refine bnd (kG (w := 288) hC rfl) ?_
      refine ifN (by decide) ?_
      refine bnd (kGp (w := 288) hC rfl) ?_
      rw [e0]
    · unfold fX12_ticked
      refine bnd (mR1200 (SV_fix hX.1)) ?_
      refine bnd (SV_gA (j := 286) (by omega)) ?_
      refine bnd (SV_pA (j := 286) (by omega)) ?_
      refine ifP rfl ?_
      refine bnd (mR1200 (SV_fix hX.1)) ?_
      refine bnd (SV_gA (j := 287) (by omega)) ?_
      refine bnd (SV_pA (j := 287) (by omega)) ?_
      unfold fX12_ticked_29
      refine ifN (by decide) ?_
      rfl
  · refine ⟨upd (upd v 286 (v 286 + 1)) 288 (upd v 286 (v 286 + 1) 288 + 1), ?_, ?_, fun k hk => by rw [pk_un (by omega), pk_un (by omega)]⟩
    · unfold fX2_endTick
      refine bnd (kG (w := 286) hC rfl) ?_
      refine bnd (kGp (w := 286) hC rfl) ?_
      refine bnd (kG (w := 287) hC rfl) ?_
      refine ifN (by decide) ?_
      unfold fX2_endTick_25
      refine bnd (kGp (w := 287) hC rfl) ?_
      rw [e0]
      refine bnd (kG (w := 288) hC rfl) ?_
      refine ifP rfl ?_
      refine bnd (kGp (w := 288) hC rfl) ?_
      rfl
    · unfold fX12_ticked
      refine bnd (mR1200 (SV_fix hX.1)) ?_
      refine bnd (SV_gA (j := 286) (by omega)) ?_
      refine bnd (SV_pA (j := 286) (by omega)) ?_
      refine ifN (by decide) ?_
      unfold fX12_ticked_29
      refine ifP rfl ?_
      refine bnd (mR1200 (SV_fix hX.1)) ?_
      refine bnd (SV_gA (j := 288) (by omega)) ?_
      refine bnd (SV_pA (j := 288) (by omega)) ?_
      rfl
/-- the end of a tick -/
def FIN (z T n b : Nat) (t : TT) (S0 M : HS) (q : Nat) (A B : Option (HS × Int32)) : Prop := ∃ v1 c1 u1 l1 tr1 r1, A = some (SC z T n S0 v1 c1 u1 l1 none tr1, r1) ∧ B = some (SV b M v1, r1) ∧ (r1 = 1 ∨ r1 = 2 ∨ r1 = 3) ∧ RB n t v1 ∧ IT v1 tr1 ∧ RS z T n t v1 c1 u1 l1 ∧ v1 284 = -1 ∧ tr1.1 ≤ q
/-- a visit leads to another -/
def NXT (z T n b : Nat) (t : TT) (S0 M : HS) (i q : Nat) (L4 L2 : Int32) (k25 : HS → Option Nat → Option Nat → Int32 → Option (HS × Int32)) (k31 : HS → Option Nat → Int32 → Option (HS × Int32)) (A B : Option (HS × Int32)) : Prop := ∃ ch v1 c1 u1 l1 tr1, i < ch ∧ HL z T n t ch v1 c1 u1 l1 tr1 ∧ A = k25 (SC z T n S0 v1 c1 u1 l1 (some (nda z T ch)) tr1) (some (z + 5)) (some (nda z T ch)) (L4 + (-1)) ∧ B = k31 (SV b M v1) (some b) L2 ∧ tr1.1 ≤ q
theorem k_109 (hC : CX z T n t S0) {L4 : Int32} {k25 : HS → Option Nat → Option Nat → Int32 → Option (HS × Int32)} : fX9_perform_109 k25 (Yc z) (SC z T n S0 v c u l (some w) tr) (some (z + 5)) L4 r = k25 (SC z T n S0 v c u l (some w) tr) (some (z + 5)) (some w) (L4 + (-1)) := by
  unfold fX9_perform_109
  refine bnd (k901 hC) ?_
  refine bnd (kN hC) ?_
  refine ifN (by intro e; cases e) ?_
  refine bnd (k901 hC) ?_
  refine bnd (kN hC) ?_
  rfl
theorem k_48s (hC : CX z T n t S0) {L4 : Int32} {f : Nat} {k25 : HS → Option Nat → Option Nat → Int32 → Option (HS × Int32)} : fX9_perform_48 k25 (Yc z) (f + 1) (SC z T n S0 v c u l (some w) tr) (some (z + 5)) L4 r (some x) = k25 (SC z T n S0 v c u l (some w) tr) (some (z + 5)) (some w) (L4 + (-1)) := by
  rw [fX9_perform_48]
  refine ifN (by intro e; cases e) ?_
  refine bnd (k901 hC) ?_
  refine bnd (kN hC) ?_
  refine ifN (by intro e; cases e) ?_
  exact k_109 hC
theorem j_up (hC : CX z T n t S0) (hX : MX b n t M) {i0 : Nat} {L4 L2 : Int32} {k25 : HS → Option Nat → Option Nat → Int32 → Option (HS × Int32)} {k31 : HS → Option Nat → Int32 → Option (HS × Int32)} : ∀ (d x f1 f2 : Nat) (v c : Nat → Int32) (u : Nat → Option Nat) (l : Nat → Int32) (tr : TR) (r : Int32), t 3 x = d + 1 → d + 1 < f1 → d + 1 < f2 → (r = 1 ∨ r = 2 ∨ r = 3) → x < n → i0 ≤ t 4 x → QQ z T n t x v c u l tr → (r = 1 → rs z T t v c u l x) → PTH t v d x → v (273 + d) = nI x → v 272 = nI (d + 1) → tr.1 + 25 * (d + 1) < 2 ^ 31 →
    FIN z T n b t S0 M (tr.1 + 25 * (d + 1)) (fX9_perform_48 k25 (Yc z) f1 (SC z T n S0 v c u l none tr) (some (z + 5)) L4 r (some (nda z T x))) (fX12_goes_107 k31 (Ym b) f2 (SV b M v) (some b) L2 r) ∨
    NXT z T n b t S0 M i0 (tr.1 + 25 * (d + 1)) L4 L2 k25 k31 (fX9_perform_48 k25 (Yc z) f1 (SC z T n S0 v c u l none tr) (some (z + 5)) L4 r (some (nda z T x))) (fX12_goes_107 k31 (Ym b) f2 (SV b M v) (some b) L2 r)
  | _, _, 0, _, _, _, _, _, _, _, _, h, _, _, _, _, _, _, _, _, _, _ => absurd h (Nat.not_lt_zero _)
  | _, _, _, 0, _, _, _, _, _, _, _, _, h, _, _, _, _, _, _, _, _, _ => absurd h (Nat.not_lt_zero _)
  | d, x, f1 + 1, f2 + 1, v, c, u, l, tr, r, hd, hf1, hf2, hr, hx, hi0, hQ, hS, hPT, hst, h272, hq => by
    have hn := CX_n hC
    have hW := hC.2.1
    have hdx := wf_dep1 hW hx
    have hI' : IT (upd v 272 (nI d)) tr := IT_upd (by omega) hQ.2.1
    obtain ⟨v1, eA, eB, hV, hI1⟩ := j_leave (c := c) (u := u) (l := l) hC hX hx hI' hr (by omega)
    rw [SC_upd hn (by unfold relV; omega)] at eA
    have g : ∀ k, k < 294 → k ≠ 272 → k ≠ 11 * x + 0 → k ≠ 11 * x + 7 → k ≠ 11 * x + 8 → ¬ (k < 264 ∧ k % 11 = 4) → ¬ (264 ≤ k ∧ k < 272) → k ≠ 291 → v1 k = v k := fun k h1 h2 h3 h4 h5 h6 h7 h8 => by rw [hV.2.1 k h1 h3 h4 h5 h6 h7 h8, pk_un h2]
    have g272 : v1 272 = nI d := by rw [hV.2.1 272 (by omega) (by omega) (by omega) (by omega) (by omega) (by omega) (by omega), pk_us]
    have gx : v1 (11 * x + 0) = 1 → r = 1 := fun h => by
      by_cases e : r = 1
      · exact e
      · rw [hV.2.2.2 e] at h; exact absurd h (by decide)
    have hB1 : RB n t v1 := fun m hm => by
      refine ⟨?_, fun h4 => by rw [hV.1 m hm h4, pk_un (by omega)]; exact (hQ.1 m hm).2 h4⟩
      by_cases e : m = x
      · subst e
        by_cases h1 : r = 1
        · rw [hV.2.2.1 h1, pk_un (by omega)]; exact (hQ.1 m hm).1
        · exact Or.inl (hV.2.2.2 h1)
      · rw [g _ (by omega) (by omega) (by omega) (by omega) (by omega) (by omega) (by omega) (by omega)]; exact (hQ.1 m hm).1
    have hrs : ∀ m, m < n → (m = x ∨ m ≠ t 2 x ∨ x = 0) → v1 (11 * m + 0) = 1 → rs z T t v1 c u (upd l x r) m := fun m hm hmx h1 => by
      have h2 : rs z T t v c u l m := by
        by_cases e : m = x
        · subst e; exact hS (gx h1)
        · rw [g _ (by omega) (by omega) (by omega) (by omega) (by omega) (by omega) (by omega) (by omega)] at h1
          exact hQ.2.2.2.2 m hm e h1
      refine rs_congr (g _ (by omega) (by omega) (by omega) (by omega) (by omega) (by omega) (by omega) (by omega)) (g _ (by omega) (by omega) (by omega) (by omega) (by omega) (by omega) (by omega) (by omega)) (g _ (by omega) (by omega) (by omega) (by omega) (by omega) (by omega) (by omega) (by omega)) rfl rfl (fun j hj => pk_un (fun e => ?_)) h2
      have h3 := wf_ch hW hm hj
      have h4 := wf_cN hW hm j (by omega)
      rw [e] at h3 h4
      rcases hmx with h5 | h5 | h5
      · omega
      · exact h5 h3.2.2.1.symm
      · omega
    have eB0 : ∀ q, (if nI d = 0 then (rcv (Ym b) 12 (some b)).bind fun _ => (fX12_ticked (Ym b) (SV b M v1) (some b) r).bind fun q174 => some (q174.1, q174.2) else (gR (Ym b) 12 1200 (some b) (SV b M v1)).bind fun v180 => (gR (Ym b) 12 1200 (some b) (SV b M v1)).bind fun v187 => (gA (Ym b) 14 v187 272 (SV b M v1)).bind fun v193 => (gA (Ym b) 14 v180 ((273 + v193) - 1) (SV b M v1)).bind fun v197 => (rcv (Ym b) 12 (some b)).bind fun _ => (fX12_hears (Ym b) (SV b M v1) (some b) v197 r).bind fun q200 => fX12_goes_107 k31 (Ym b) f2 q200.1 (some b) L2 q200.2) = q → fX12_goes_107 k31 (Ym b) (f2 + 1) (SV b M v) (some b) L2 r = q := by
      intro q h
      rw [fX12_goes_107]
      refine ifN (by rcases hr with rfl | rfl | rfl <;> decide) ?_
      refine bnd (mR1200 (SV_fix hX.1)) ?_
      refine bnd (SV_gA (j := 272) (by omega)) ?_
      rw [h272]
      refine ifN (nI_ge (a := 0) (by omega) (by omega)) ?_
      refine bnd (mR1200 (SV_fix hX.1)) ?_
      refine bnd (SV_gA (j := 272) (by omega)) ?_
      rw [h272, nI_pred]
      refine bnd (SV_pA (j := 272) (by omega)) ?_
      refine bnd (mR1200 (SV_fix hX.1)) ?_
      refine bnd (mR1200 (SV_fix hX.1)) ?_
      refine bnd (SV_gA (j := 272) (by omega)) ?_
      rw [pk_us, show (273 : Int32) = nI 273 from rfl, nI_add]
      refine bnd (SV_gA (j := 273 + d) (by omega)) ?_
      rw [pk_un (by omega), hst]
      refine bnd mrcv ?_
      refine bnd eB ?_
      refine bnd (mR1200 (SV_fix hX.1)) ?_
      refine bnd (SV_gA (j := 272) (by omega)) ?_
      rw [g272]
      exact h
    have eA0 : ∀ q, (if (if x = 0 then none else some (nda z T (t 2 x))) = none then (gR (Yc z) 4 409 (some (nda z T x)) (SC z T n S0 v1 c u (upd l x r) none (tellX tr x r))).bind fun v101 => fX9_perform_48 k25 (Yc z) f1 (SC z T n S0 v1 c u (upd l x r) none (tellX tr x r)) (some (z + 5)) L4 r v101 else (gR (Yc z) 4 409 (some (nda z T x)) (SC z T n S0 v1 c u (upd l x r) none (tellX tr x r))).bind fun v87 => (rcv (Yc z) 9 (some (z + 5))).bind fun _ => (fX9_goOn (Yc z) (SC z T n S0 v1 c u (upd l x r) none (tellX tr x r)) (some (z + 5)) v87 (some (nda z T x)) r).bind fun q94 => (gR (Yc z) 4 409 (some (nda z T x)) q94.1).bind fun v101 => fX9_perform_48 k25 (Yc z) f1 q94.1 (some (z + 5)) L4 q94.2 v101) = q → fX9_perform_48 k25 (Yc z) (f1 + 1) (SC z T n S0 v c u l none tr) (some (z + 5)) L4 r (some (nda z T x)) = q := by
      intro q h
      rw [fX9_perform_48]
      refine ifN (by intro e; cases e) ?_
      refine bnd (k901 hC) ?_
      refine bnd (kN hC) ?_
      refine ifP rfl ?_
      refine bnd (crcv (o := 5) (by decide) rfl) ?_
      refine bnd eA ?_
      refine bnd (k409 hC hx) ?_
      exact h
    cases d with
    | zero =>
      have hx0 : x = 0 := hdx.2.2.mp hd
      obtain ⟨v2, tA, tB, tg⟩ := j_ticked (v := v1) (c := c) (u := u) (l := upd l x r) (p := none) (tr := tellX tr x r) hC hX hr
      refine Or.inl ⟨v2, c, u, upd l x r, tellX tr x r, r, ?_, ?_, hr, ?_, IT_lo (fun k hk => tg k (by omega)) hI1, ?_, ?_, by show tr.1 + 1 ≤ _; omega⟩
      · refine eA0 _ ?_
        refine ifP (if_pos hx0) ?_
        refine bnd (k409 hC hx) ?_
        rw [if_pos hx0]
        obtain ⟨f, rfl⟩ : ∃ f, f1 = f + 1 := ⟨f1 - 1, by omega⟩
        rw [fX9_perform_48]
        refine ifP rfl ?_
        unfold fX9_perform_109
        refine bnd (k901 hC) ?_
        refine bnd (kN hC) ?_
        refine ifP rfl ?_
        refine bnd (k901 hC) ?_
        refine bnd (crcv (o := 8) (by decide) rfl) ?_
        refine bnd tA ?_
        rfl
      · refine eB0 _ ?_
        refine ifP rfl ?_
        refine bnd mrcv ?_
        refine bnd tB ?_
        rfl
      · intro m hm
        exact ⟨by rw [tg _ (by omega)]; exact (hB1 m hm).1, fun h => by rw [tg _ (by omega)]; exact (hB1 m hm).2 h⟩
      · intro m hm h1
        rw [tg _ (by omega)] at h1
        exact rs_congr (tg _ (by omega)) (tg _ (by omega)) (tg _ (by omega)) rfl rfl (fun _ _ => rfl) (hrs m hm (Or.inr (Or.inr hx0)) h1)
      · rw [tg _ (by omega), g 284 (by omega) (by omega) (by omega) (by omega) (by omega) (by omega) (by omega) (by omega)]; exact hQ.2.2.2.1
    | succ d =>
      have hx0 : x ≠ 0 := fun h => by have := hdx.2.2.mpr h; omega
      have hu := wf_up hW hx (by omega)
      have hPA := hPT.2.1
      have ha : t 2 x < n := by omega
      have g3 : LOC1 x v v1 := fun k hk => g k (by omega) (by omega) (by omega) (by omega) (by omega) (by omega) (by omega) (by omega)
      have hPA1 := PA_congr hu.1 g3 hPA
      have hQ1 : QQ z T n t (t 2 x) v1 c u (upd l x r) (tellX tr x r) := by
        refine ⟨hB1, hI1, hPA1.1, ?_, fun m hm hne h1 => hrs m hm (Or.inr (Or.inl hne)) h1⟩
        rw [g 284 (by omega) (by omega) (by omega) (by omega) (by omega) (by omega) (by omega) (by omega)]; exact hQ.2.2.2.1
      have hS1 : rs z T t v1 c u l (t 2 x) := rs_congr (g3 _ (by omega)) (g3 _ (by omega)) (g3 _ (by omega)) rfl rfl (fun _ _ => rfl) (hQ.2.2.2.2 (t 2 x) ha (by omega) hPA.1)
      obtain ⟨v2, c2, u2, l2, p2, tr2, r2, jA, jB, jP, jq⟩ := j_hear (b := b) (M := M) hC hX ha hr hPA1 hQ1 hS1 (by show tr.1 + 1 + 24 < 2 ^ 31; omega)
      have jq : tr2.1 ≤ tr.1 + 1 + 24 := jq
      obtain ⟨hO, hL, hB2, hI2, h12, hr2⟩ := jP
      have hda : t 3 (t 2 x) = d + 1 := by omega
      have hPT2 : PTH t v2 d (t 2 x) := PTH_congr hW d (t 2 x) ha hda (fun k hk => (hL.one k hk).trans (g3 k (by omega))) hPT.2.2
      have s272 : v2 272 = nI (d + 1) := by rw [hL 272 (by omega), g272]
      have sst : v2 (273 + d) = nI (t 2 x) := by
        have := wf_depth hW hx
        rw [hL _ (by omega), g3 _ (by omega)]; exact hPT.1
      have eB1 : ∀ q, fX12_goes_107 k31 (Ym b) f2 (SV b M v2) (some b) L2 r2 = q → fX12_goes_107 k31 (Ym b) (f2 + 1) (SV b M v) (some b) L2 r = q := by
        intro q h
        refine eB0 _ ?_
        have := wf_depth hW hx
        refine ifN (nI_ne0 (by omega) (by omega)) ?_
        refine bnd (mR1200 (SV_fix hX.1)) ?_
        refine bnd (mR1200 (SV_fix hX.1)) ?_
        refine bnd (SV_gA (j := 272) (by omega)) ?_
        rw [g272, show (273 : Int32) = nI 273 from rfl, nI_add, show (1 : Int32) = nI 1 from rfl, pk_sub (by omega)]
        refine bnd (SV_gA (j := 273 + (d + 1) - 1) (by omega)) ?_
        rw [show 273 + (d + 1) - 1 = 273 + d by omega, g3 _ (by omega), hPT.1]
        refine bnd mrcv ?_
        refine bnd jB ?_
        exact h
      have eA1 : ∀ q, fX9_perform_48 k25 (Yc z) f1 (SC z T n S0 v2 c2 u2 l2 p2 tr2) (some (z + 5)) L4 r2 (some (nda z T (t 2 x))) = q → fX9_perform_48 k25 (Yc z) (f1 + 1) (SC z T n S0 v c u l none tr) (some (z + 5)) L4 r (some (nda z T x)) = q := by
        intro q h
        refine eA0 _ ?_
        rw [if_neg (c := x = 0) hx0]
        refine ifN (by intro e; cases e) ?_
        refine bnd (k409 hC hx) ?_
        rw [if_neg (c := x = 0) hx0]
        refine bnd (crcv (o := 5) (by decide) rfl) ?_
        refine bnd jA ?_
        refine bnd (k409 hC hx) ?_
        rw [if_neg (c := x = 0) hx0]
        exact h
      rcases hO with ⟨rfl, ch, hch, hPc, h284, rfl⟩ | ⟨hr3, h284, rfl⟩
      · refine Or.inr ⟨ch, v2, c2, u2, l2, tr2, by omega, HL_child hC ha hPc hB2 hI2 (fun m hm h1 => hr2 m hm h1 (Or.inr (Or.inl rfl))) h284 (by rw [s272, hda]) (by rw [hda]; exact sst) (by rw [hda]; exact hPT2), ?_, ?_, by omega⟩
        · refine eA1 _ ?_
          obtain ⟨f, rfl⟩ : ∃ f, f1 = f + 1 := ⟨f1 - 1, by omega⟩
          exact k_48s hC
        · refine eB1 _ ?_
          obtain ⟨f, rfl⟩ : ∃ f, f2 = f + 1 := ⟨f2 - 1, by omega⟩
          rw [fX12_goes_107]
          exact if_pos (by decide)
      · have hxt : t 4 x ≤ t 4 (t 2 x) := by
          obtain ⟨j, hj, hc⟩ := hu.2.2.2.1
          have := (wf_ch hW ha hj).2.2.2.1
          rw [hc] at this
          exact this
        have ih := j_up hC hX (i0 := i0) (L4 := L4) (L2 := L2) (k25 := k25) (k31 := k31) d (t 2 x) f1 f2 v2 c2 u2 l2 tr2 r2 hda (by omega) (by omega) hr3 ha (by omega) ⟨hB2, hI2, h12, h284, fun m hm hne h1 => hr2 m hm h1 (Or.inl hne)⟩ (fun h1 => hr2 (t 2 x) ha h12 (Or.inr (Or.inr h1))) hPT2 sst s272 (by omega)
        rw [eA1 _ rfl, eB1 _ rfl]
        rcases ih with ⟨v3, c3, u3, l3, tr3, r3, a1, a2, a3, a4, a5, a6, a7, a8⟩ | ⟨ch, v3, c3, u3, l3, tr3, a1, a2, a3, a4, a5⟩
        · exact Or.inl ⟨v3, c3, u3, l3, tr3, r3, a1, a2, a3, a4, a5, a6, a7, by omega⟩
        · exact Or.inr ⟨ch, v3, c3, u3, l3, tr3, a1, a2, a3, a4, by omega⟩
end TICK
