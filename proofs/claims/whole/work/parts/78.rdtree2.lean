/-! readTree: a text that is a tree, and the call -/
/-- what the class does behind a good reading -/
def S9 (z T T1 : Nat) (S1 : HS) : HS := (fun f x => if x = z + 1 ∧ f = 701 then 0 else if x = z + 8 ∧ 201 ≤ f ∧ f ≤ 208 then 0 else if x = z ∧ f = 1109 then 0 else S1.1 f x, fun f x => if x = z ∧ f = 1107 then some (z + T1) else if x = z ∧ f = 1108 then some (z + T) else if x = z + 8 ∧ f = 200 then none else S1.2.1 f x, S1.2.2)
section RDTS
variable {z b q T T1 n n1 i j k f a d o o1 x K : Nat} {L : Nat → Nat} {S S0 S1 X M M0 M1 : HS} {v c l : Nat → Int32} {u : Nat → Option Nat} {p : Option Nat} {tr : TR} {t t1 : TT} {A : Nat → Nat → Int32} {op : Nat → Int32} {Y : LY}
theorem VX_at (h : k < 355) : upd (VX v 355) 284 (-1) k = if k = 284 then -1 else if 264 ≤ k ∧ k < 272 then v k else 0 := by
  unfold upd VX
  by_cases h1 : k = 284
  · rw [if_pos h1, if_pos h1]
  · rw [if_neg h1, if_neg h1]
    by_cases h2 : 264 ≤ k ∧ k < 272
    · rw [if_neg (fun y => y.2 h2), if_pos h2]
    · rw [if_pos ⟨h, h2⟩, if_neg h2]
theorem rel_ok (hT : isT T) (hT1 : T1 = 244 - T) (hSt : STAT z b T n t q S M0) (hF : FRD z T1 a S S1) (ha : z + 269 ≤ a) (hP : PT n1 t1 []) (hn1 : 0 < n1) (hDT : ∀ i, i < n1 → DT t1 i) (hTC : TCR z T1 n1 t1 S1) (hA : ARR n1 t1 [] A) (hlen : (txtL t1 n1).length ≤ 70) (hg : ∀ k, k < 8 → S.2.2.1 (z + 7) k = v (264 + k)) : REL z b q (ERA a S (S9 z T T1 S1)) (SV b (M9 b (SV b M0 v) A op o n1) (upd (VX v 355) 284 (-1))) := by
  obtain ⟨hC, hMX, hU, h1208, hTX, hO, hV, -, hSta⟩ := hSt
  have hTT1 : isT T1 := by rw [hT1]; rcases hT with rfl | rfl; exact Or.inr rfl; exact Or.inl rfl
  have hW := pt_wf hP hDT
  have hn24 := hP.1
  generalize hX : ERA a S (S9 z T T1 S1) = X
  have hXI : ∀ f x, x ≠ a → X.1 f x = (if x = z + 1 ∧ f = 701 then 0 else if x = z + 8 ∧ 201 ≤ f ∧ f ≤ 208 then 0 else if x = z ∧ f = 1109 then 0 else S1.1 f x) := fun f x h => by rw [← hX]; exact if_neg h
  have hXR : ∀ f x, x ≠ a → X.2.1 f x = (if x = z ∧ f = 1107 then some (z + T1) else if x = z ∧ f = 1108 then some (z + T) else if x = z + 8 ∧ f = 200 then none else S1.2.1 f x) := fun f x h => by rw [← hX]; exact if_neg h
  have hArr : X.2.2 = S.2.2 := by rw [← hX]; exact hF.1
  have h400 : ∀ x, X.1 400 x = S.1 400 x := by
    intro x
    by_cases hx : x = a
    · rw [← hX]; exact if_pos hx
    · rw [hXI 400 x hx, if_neg (by omega), if_neg (by omega), if_neg (by omega)]
      exact hF.2.2.1 x hx
  have hRef : ∀ f x, fixR.contains f = true → X.2.1 f x = S.2.1 f x := by
    intro f x hf
    have hf := fixR_no f (by simpa using hf)
    by_cases hx : x = a
    · rw [← hX]; exact if_pos hx
    · rw [hXR f x hx, if_neg (fun y => hf.2.2.1 y.2), if_neg (fun y => hf.2.2.2 y.2), if_neg (fun y => hf.2.1 y.2)]
      exact hF.2.2.2 f x hx hf.1
  have hFX : FixC z X := FixC_congr (fun f x hf => hRef f x hf) h400 (by rw [hArr]) hC.2.2.1
  have hT1lt : T1 < 269 := (kd_T hTT1).1
  have hreg : ∀ i, i < 24 → z + 75 ≤ nda z T1 i ∧ nda z T1 i < z + 269 ∧ z + 75 ≤ cla z T1 i ∧ cla z T1 i < z + 269 ∧ z + 75 ≤ ena z T1 i ∧ ena z T1 i < z + 269 ∧ z + 75 ≤ lfa z T1 i ∧ lfa z T1 i < z + 269 := fun i hi => by
    unfold nda cla ena lfa
    rcases hTT1 with rfl | rfl <;> omega
  have hfar : ∀ x, z + 9 ≤ x → x < z + 269 → (∀ f, X.1 f x = S1.1 f x) ∧ ∀ f, X.2.1 f x = S1.2.1 f x := fun x h1 h2 => ⟨fun f => by rw [hXI f x (by omega), if_neg (by omega), if_neg (by omega), if_neg (by omega)], fun f => by rw [hXR f x (by omega), if_neg (by omega), if_neg (by omega), if_neg (by omega)]⟩
  have hTr : TreeC z T1 n1 t1 X := by
    intro i hi
    have hr := hreg i (by omega)
    have a1 := hfar (nda z T1 i) (by omega) (by omega)
    have a2 := hfar (cla z T1 i) (by omega) (by omega)
    have a3 := hfar (ena z T1 i) (by omega) (by omega)
    obtain ⟨g1, g2, g3, g4, g5, g6, g7, g8, g9⟩ := hTC.1 i hi
    obtain ⟨d1, d2, d3⟩ := hTC.2.1 i hi
    have e410 : (if t1 11 i = 0 then none else some (nda z T1 (i + 1))) = (if 4 ≤ t1 0 i then some (nda z T1 (i + 1)) else none) := by
      by_cases h4 : 4 ≤ t1 0 i
      · have := (wf_inner hW hi h4).1
        rw [if_neg (by omega), if_pos h4]
      · have := (wf_leaf hW hi (by omega)).2
        rw [if_pos this, if_neg h4]
    rw [a1.1, a1.1, a1.1, a1.1, a1.2, a1.2, a1.2, a1.2, a1.2, a2.1, a2.1, a2.1, a2.1, a2.2, a3.1, a3.1, a3.1, a3.1, a3.2]
    exact ⟨g1, d1, g2, g3, g4, g5, g6.trans e410, g8, g9, d2.1, d2.2, d3.1, d3.2⟩
  have hv : ∀ k, k < 355 → upd (VX v 355) 284 (-1) k = if k = 284 then -1 else if 264 ≤ k ∧ k < 272 then v k else 0 := fun k hk => VX_at hk
  generalize upd (VX v 355) 284 (-1) = v9 at hv ⊢
  have hv0 : ∀ k, k < 264 → v9 k = 0 := fun k hk => by rw [hv k (by omega), if_neg (by omega), if_neg (by omega)]
  have hLX : LIVF z T1 n1 X v9 (fun _ => 0) (fun _ => none) (fun _ => 0) none (0, X.2.2.1 (z + 9), X.2.2.1 (z + 10)) := by
    refine ⟨fun i hi => ?_, fun f w hf => ?_, ?_, ?_, fun k hk => ?_, rfl, rfl⟩
    · have hr := hreg i (by omega)
      have a4 := hfar (lfa z T1 i) (by omega) (by omega)
      have g := hTC.2.2.1 i hi
      refine ⟨fun f w hf => ?_, ?_, ?_, ?_⟩
      · have hlf := plF_lf hf
        have hw := plF_lt hf
        unfold lfF at hlf
        rw [a4.1, g.1 f (by omega) (by omega) (by omega), hv0 _ (by omega)]
      · rw [a4.1]; exact g.1 301 (by omega) (by omega) (by omega)
      · rw [a4.1]; exact g.1 303 (by omega) (by omega) (by omega)
      · rw [a4.2]; exact g.2
    · have hlg := plG_lg hf
      have hw := plG_lt hf
      unfold lgF at hlg
      rw [hXI f _ (by omega), if_neg (by omega), if_pos (by omega), hv w (by omega), if_neg (by omega), if_neg (by omega)]
    · rw [hXI 208 _ (by omega), if_neg (by omega), if_pos (by omega)]
      rfl
    · rw [hXR 200 _ (by omega), if_neg (by omega), if_neg (by omega), if_pos ⟨rfl, rfl⟩]
    · rw [hArr, hg k hk, hv _ (by omega), if_neg (by omega), if_pos (by omega)]
  have hSI : SI z T1 n1 t1 v9 (fun _ => 0) (fun _ => none) (fun _ => 0) none (0, X.2.2.1 (z + 9), X.2.2.1 (z + 10)) := by
    refine ⟨fun i hi => ⟨Or.inl (hv0 _ (by omega)), fun _ => hv0 _ (by omega)⟩, ⟨?_, fun j hj => ?_⟩, fun i hi h1 => ?_, Or.inl ⟨rfl, ?_⟩⟩
    · rw [hv 294 (by omega), if_neg (by omega), if_neg (by omega)]
      rfl
    · exact absurd hj (by show ¬ j < min 0 30; omega)
    · rw [hv0 _ (by omega)] at h1
      exact absurd h1 (by decide)
    · rw [hv 284 (by omega), if_pos rfl]
  have hX2 := SC_self hTT1 hLX
  -- the reference's side
  have hMlo : ∀ k, (k ≤ 5 ∨ k = 28) → ∀ i, (M9 b (SV b M0 v) A op o n1).2.2.1 (b + k) i = (RdE b (SV b M0 v) A op o n1 0 0).2.2.1 (b + k) i := fun k hk i => if_neg (by omega)
  have hMc : ∀ c, c < 11 → ∀ i, i < n1 → (M9 b (SV b M0 v) A op o n1).2.2.1 (b + (6 + c)) i = A c i := fun c hc i hi => (if_pos (by omega)).trans (by rw [show b + (6 + c) - (b + 6) = c by omega])
  have hMn : ∀ c, c < 11 → ∀ i, (M9 b (SV b M0 v) A op o n1).2.2.1 (b + (17 + c)) i = A c i := fun c hc i => (if_neg (by omega)).trans (congrFun (RdE_A (M := SV b M0 v) (A := A) (op := op) (o := o) (n := n1) (d := 0) (fl := 0) hc) i)
  have hMf : FixM b (M9 b (SV b M0 v) A op o n1) := hMX.1
  have hI : ∀ f, f ≠ 1203 → f ≠ 1208 → (M9 b (SV b M0 v) A op o n1).1 f b = (RdE b (SV b M0 v) A op o n1 0 0).1 f b := fun f h1 h2 => (upN_ne (Or.inl h1)).trans (upN_ne (Or.inl h2))
  have hI1203 : (M9 b (SV b M0 v) A op o n1).1 1203 b = 0 := upN_self
  have hI1208 : (M9 b (SV b M0 v) A op o n1).1 1208 b = nI n1 := (show _ = upN (RdE b (SV b M0 v) A op o n1 0 0).1 1208 b (nI n1) 1208 b from rfl).trans upN_self
  have hI1206 : (M9 b (SV b M0 v) A op o n1).1 1206 b = 0 := (hI 1206 (by decide) (by decide)).trans RdE_1206
  have hI1207 : (M9 b (SV b M0 v) A op o n1).1 1207 b = M0.1 1207 b := (hI 1207 (by decide) (by decide)).trans (RdE_I (by decide))
  have hM5 : ∀ i, (M9 b (SV b M0 v) A op o n1).2.2.1 (b + 5) i = M0.2.2.1 (b + 5) i := fun i => (hMlo 5 (by omega) i).trans ((congrFun (RdE_lo (M := SV b M0 v) (A := A) (op := op) (o := o) (n := n1) (d := 0) (fl := 0) (k := 5) (by omega)) i).trans (congrFun (SV_k (by omega)) i))
  generalize M9 b (SV b M0 v) A op o n1 = M9 at hMc hMn hMf hI1203 hI1208 hI1206 hI1207 hM5 ⊢
  rw [hX2]
  refine REL_of (b := b) (q := q) (S0 := X) (M0 := M9) ⟨⟨hTT1, hW, hFX, hTr⟩, ⟨hMf, fun c hc i hi => ?_, hW⟩, ⟨?_, ?_, ?_⟩, hI1208, ⟨0, by omega, ?_, hI1206, fun j hj => absurd hj (Nat.not_lt_zero _)⟩, ?_, Or.inl ⟨?_, hI1203⟩, hlen, fun i hi => ?_⟩ hSI (Nat.zero_le _)
  · rw [hMc c hc i hi]
    by_cases h4 : c = 4
    · subst h4
      rw [if_neg (by omega)]
      exact hA.2.1 i hi List.not_mem_nil
    · exact hA.1 c hc h4 i hi
  · rw [hXR 1107 _ (by omega), if_pos ⟨rfl, rfl⟩]
  · rw [hXR 1108 _ (by omega), if_neg (by omega), if_pos ⟨rfl, rfl⟩, show 244 - T1 = T by rw [hT1]; rcases hT with rfl | rfl <;> rfl]
  · have h9 : z + 9 ≤ z + T1 := by rcases hTT1 with rfl | rfl <;> omega
    rw [(hfar (z + T1) h9 (by omega)).1]
    exact hTC.2.2.2
  · rw [hXI 701 _ (by omega), if_pos ⟨rfl, rfl⟩]
    rfl
  · obtain ⟨k, g1, g2, g3, g4⟩ := hO
    refine ⟨k, g1, ?_, hI1207.trans g3, fun j hj => ?_⟩
    · rw [hXI 701 _ (by omega), if_neg (by omega), if_neg (by omega), if_neg (by omega), (hF.2.1 701 (z + 3) (reg_far hTT1 (by omega)) (by omega) (by omega)).1]
      exact g2
    · rw [hArr, hM5]
      exact g4 j hj
  · rw [hXI 1109 _ (by omega), if_neg (by omega), if_neg (by omega), if_pos ⟨rfl, rfl⟩]
  · have := hA.2.2 i hi
    unfold STC at this
    rw [show b + 22 = b + (17 + 5) from rfl, show b + 24 = b + (17 + 7) from rfl, show b + 25 = b + (17 + 8) from rfl, show b + 27 = b + (17 + 10) from rfl, hMn 5 (by omega), hMn 7 (by omega), hMn 8 (by omega), hMn 10 (by omega)]
    exact ⟨⟨_, this.1.2, this.1.1⟩, ⟨_, this.2.1.2, this.2.1.1⟩, ⟨_, this.2.2.1.2, this.2.2.1.1⟩, ⟨_, this.2.2.2.2, this.2.2.2.1⟩⟩
/-! the call -/
def SeS (z T1 a : Nat) (S : HS) : HS := (upN (upN (fun f x => if x = a then 0 else S.1 f x) 502 a 0) 801 (z + T1) 0, upN (upN (fun f x => if x = a then none else S.2.1 f x) 500 a (some (z + 1))) 501 a (some (z + T1)), S.2.2)
theorem SeS_frd (ha : z + 269 ≤ a) (hT1 : T1 < 269) : FRD z T1 a S (SeS z T1 a S) := by
  refine ⟨rfl, fun f x _ h2 h3 => ⟨?_, ?_⟩, fun x hx => ?_, fun f x hx _ => ?_⟩
  · exact (upN_ne (by by_cases y : f = 801; exact Or.inr (fun y1 => h3 ⟨y, y1⟩); exact Or.inl y)).trans ((upN_ne (Or.inr h2)).trans (if_neg h2))
  · exact (upN_ne (Or.inr h2)).trans ((upN_ne (Or.inr h2)).trans (if_neg h2))
  · show (if x = a then (0 : Int32) else S.1 400 x) = S.1 400 x
    exact if_neg hx
  · exact (upN_ne (Or.inr hx)).trans ((upN_ne (Or.inr hx)).trans (if_neg hx))
theorem c_clear2 (hY : ExY z Y) : fX2_clear Y S (some (z + 8)) = some ((fun f x => if x = z + 8 ∧ 201 ≤ f ∧ f ≤ 208 then 0 else S.1 f x), upN S.2.1 200 (z + 8) none, S.2.2) := by
  unfold fX2_clear
  refine bnd (dpR hY (o := 8) (by decide) rfl) ?_
  refine bnd (dpI hY (o := 8) (by decide) rfl) ?_
  refine bnd (dpI hY (o := 8) (by decide) rfl) ?_
  refine bnd (dpI hY (o := 8) (by decide) rfl) ?_
  refine bnd (dpI hY (o := 8) (by decide) rfl) ?_
  refine bnd (dpI hY (o := 8) (by decide) rfl) ?_
  refine bnd (dpI hY (o := 8) (by decide) rfl) ?_
  refine bnd (dpI hY (o := 8) (by decide) rfl) ?_
  refine bnd (dpI hY (o := 8) (by decide) rfl) ?_
  have e : upN (upN (upN (upN (upN (upN (upN (upN S.1 201 (z + 8) 0) 202 (z + 8) 0) 203 (z + 8) 0) 204 (z + 8) 0) 205 (z + 8) 0) 206 (z + 8) 0) 207 (z + 8) 0) 208 (z + 8) 0 = (fun f x => if x = z + 8 ∧ 201 ≤ f ∧ f ≤ 208 then 0 else S.1 f x) := by
    funext f x
    unfold upN
    by_cases hx : x = z + 8
    · by_cases hf : 201 ≤ f ∧ f ≤ 208
      · rw [if_pos (c := x = z + 8 ∧ 201 ≤ f ∧ f ≤ 208) ⟨hx, hf⟩]
        have h9 : f = 201 ∨ f = 202 ∨ f = 203 ∨ f = 204 ∨ f = 205 ∨ f = 206 ∨ f = 207 ∨ f = 208 := by omega
        rcases h9 with rfl | rfl | rfl | rfl | rfl | rfl | rfl | rfl <;> simp [hx]
      · rw [if_neg (c := x = z + 8 ∧ 201 ≤ f ∧ f ≤ 208) (fun q => hf q.2), if_neg (by omega), if_neg (by omega), if_neg (by omega), if_neg (by omega), if_neg (by omega), if_neg (by omega), if_neg (by omega), if_neg (by omega)]
    · rw [if_neg (c := x = z + 8 ∧ 201 ≤ f ∧ f ≤ 208) (fun q => hx q.1)]
      simp [hx]
  show some (upN (upN (upN (upN (upN (upN (upN (upN S.1 201 (z + 8) 0) 202 (z + 8) 0) 203 (z + 8) 0) 204 (z + 8) 0) 205 (z + 8) 0) 206 (z + 8) 0) 207 (z + 8) 0) 208 (z + 8) 0, upN S.2.1 200 (z + 8) none, S.2.2) = _
  rw [e]
theorem x_readTree (h : REL z b q S M) {N : Nat × Nat} (hN : z + 269 ≤ N.1) : ∃ S1 S2 M1 Y1 N1 r, fX11_readTree (Yc z) S N (some z) = some ((Y1, S1, N1), r) ∧ fX12_readTree (Ym b) M (some b) = some (M1, r) ∧ REL z b q S2 M1 ∧ AGR z S1 S2 ∧ N1 = (N.1 + 1, N.2 + 3) ∧ (∀ a, a < N.1 → (a ∈ Y1.1 ↔ a ∈ (Yc z).1) ∧ Y1.2.1 a = (Yc z).2.1 a ∧ Y1.2.2 a = (Yc z).2.2 a) := by
  obtain ⟨T, n, t, S0, M0, v, c, u, l, p, tr, rfl, rfl, hSt0, hSI, hq⟩ := REL_to h
  have hT := hSt0.1.1
  have hSt := STAT_SC (v := v) (c := c) (u := u) (l := l) (p := p) (tr := tr) hSt0
  have hLv : LIVF z T n (SC z T n S0 v c u l p tr) v c u l p tr := SC_LIVF hT
  have hFS : FixC z (SC z T n S0 v c u l p tr) := fixSC hSt0.1
  generalize SC z T n S0 v c u l p tr = S at hSt hLv hFS
  obtain ⟨T1, hT1⟩ : ∃ T1, T1 = 244 - T := ⟨_, rfl⟩
  have hTT1 : isT T1 := by rw [hT1]; rcases hT with rfl | rfl; exact Or.inr rfl; exact Or.inl rfl
  have hK1 := kd_T hTT1
  have hY := ExY_new (z := z) (c := 5) hN
  have h1100 : S.2.1 1100 (z + 0) = some (z + 1) := hFS.1
  have h1108 : S.2.1 1108 (z + 0) = some (z + T1) := by rw [hT1]; exact hSt.2.2.1.2.1
  have h1107 : S.2.1 1107 (z + 0) = some (z + T) := hSt.2.2.1.1
  have h1104 : S.2.1 1104 (z + 0) = some (z + 8) := hFS.2.2.2.2.1
  obtain ⟨K, hK, hTx1, hTx2, hTx3⟩ := hSt.2.2.2.2.1
  -- the text
  have hL : ∀ j, j < K → (M0.2.2.1 (b + 4) j).toNatClampNeg ≤ 127 ∧ S.2.2.1 (z + 2) j = nI (M0.2.2.1 (b + 4) j).toNatClampNeg ∧ M0.2.2.1 (b + 4) j = nI (M0.2.2.1 (b + 4) j).toNatClampNeg := fun j hj => by
    obtain ⟨d, g1, g2, g3⟩ := hTx3 j hj
    have e : (M0.2.2.1 (b + 4) j).toNatClampNeg = d := by rw [g3, nI_clamp (by omega)]
    rw [e]
    exact ⟨g1, g2, g3⟩
  generalize hLd : (fun j => (M0.2.2.1 (b + 4) j).toNatClampNeg) = L
  have hL : ∀ j, j < K → L j ≤ 127 ∧ S.2.2.1 (z + 2) j = nI (L j) ∧ M0.2.2.1 (b + 4) j = nI (L j) := fun j hj => by rw [← hLd]; exact hL j hj
  have hB : MB b K L (SV b M0 v) := ⟨hSt.2.1.1, hTx2, hK, fun j hj => ⟨(hL j hj).1, (congrFun (SV_k (k := 4) (by omega)) j).trans (hL j hj).2.2⟩⟩
  -- the class' heap at the reading's beginning
  have hfrd := SeS_frd (z := z) (T1 := T1) (a := N.1) (S := S) hN hK1.1
  have hchk : chk ((Yc z).1 ++ [N.1], va_up (Yc z).2.1 N.1 5, (Yc z).2.2) 5 N.1 = true := by
    unfold chk
    show (decide (N.1 ∈ (Yc z).1 ++ [N.1]) && (va_up (Yc z).2.1 N.1 5 N.1 == 5)) = true
    rw [va_up_self]
    simp
  have hO : PO z T1 N.1 ((Yc z).1 ++ [N.1], va_up (Yc z).2.1 N.1 5, (Yc z).2.2) (SeS z T1 N.1 S) 0 := ⟨hchk, (show _ = upN (fun f x => if x = N.1 then none else S.2.1 f x) 500 N.1 (some (z + 1)) 500 N.1 from rfl).trans upN_self, upN_self, (show _ = upN (fun f x => if x = N.1 then 0 else S.1 f x) 502 N.1 0 502 N.1 from rfl).trans upN_self⟩
  have hFe : FixC z (SeS z T1 N.1 S) := by
    refine FixC_agr (S := (upN S.1 801 (z + T1) 0, S.2)) (fun x h1 h2 => ⟨fun f => ⟨?_, ?_⟩, rfl, rfl⟩) (FixC_congr (fun _ _ _ => rfl) (fun _ => rfl) rfl hFS)
    · show (if f = 801 ∧ x = z + T1 then (0 : Int32) else if f = 502 ∧ x = N.1 then 0 else if x = N.1 then 0 else S.1 f x) = (if f = 801 ∧ x = z + T1 then 0 else S.1 f x)
      rw [if_neg (c := f = 502 ∧ x = N.1) (by omega), if_neg (c := x = N.1) (by omega)]
    · show (if f = 501 ∧ x = N.1 then some (z + T1) else if f = 500 ∧ x = N.1 then some (z + 1) else if x = N.1 then none else S.2.1 f x) = S.2.1 f x
      rw [if_neg (c := f = 501 ∧ x = N.1) (by omega), if_neg (c := f = 500 ∧ x = N.1) (by omega), if_neg (c := x = N.1) (by omega)]
  have hz1 : ¬ reg z T1 (z + 1) := reg_far hTT1 (by omega)
  have hTXe : TXC z K L (SeS z T1 N.1 S) := ⟨((hfrd.2.1 701 (z + 1) hz1 (by omega) (by omega)).1).trans hTx1, ((hfrd.2.1 700 (z + 1) hz1 (by omega) (by omega)).2).trans hFS.2.2.2.2.2.2.2.1, hK, fun j hj => ⟨(hL j hj).1, (hL j hj).2.1⟩⟩
  have hBA : BAS z T1 N.1 b K L ((Yc z).1 ++ [N.1], va_up (Yc z).2.1 N.1 5, (Yc z).2.2) (SeS z T1 N.1 S) (SV b M0 v) := ⟨hY, hTT1, hB, hTXe, hFe, hN⟩
  have hSta := hSt.2.2.2.2.2.2.2.2
  generalize hA0 : (fun c => (SV b M0 v).2.2.1 (b + 17 + c)) = A0
  have hST : ∀ i, i < 24 → STC (fun c i => (A0 c i).toNatClampNeg) A0 i := by
    intro i hi
    have h1 : ∀ c, A0 c i = M0.2.2.1 (b + (17 + c)) i := fun c => by
      rw [← hA0]
      show (SV b M0 v).2.2.1 (b + 17 + c) i = _
      rw [Nat.add_assoc]
      exact congrFun (SV_k (by omega)) i
    obtain ⟨⟨k5, q5, e5⟩, ⟨k7, q7, e7⟩, ⟨k8, q8, e8⟩, ⟨k10, q10, e10⟩⟩ := hSta i hi
    have key : ∀ c k, k ≤ 99 → A0 c i = nI k → A0 c i = nI (A0 c i).toNatClampNeg ∧ (A0 c i).toNatClampNeg = k := fun c k hk e => by
      rw [e, nI_clamp (by omega)]
      exact ⟨rfl, rfl⟩
    have g5 := key 5 k5 (by omega) ((h1 5).trans e5)
    have g7 := key 7 k7 (by omega) ((h1 7).trans e7)
    have g8 := key 8 k8 (by omega) ((h1 8).trans e8)
    have g10 := key 10 k10 (by omega) ((h1 10).trans e10)
    exact ⟨⟨g5.1, by show (A0 5 i).toNatClampNeg ≤ 7; omega⟩, ⟨g7.1, by show (A0 7 i).toNatClampNeg ≤ 99; omega⟩, ⟨g8.1, by show (A0 8 i).toNatClampNeg ≤ 7; omega⟩, g10.1, by show (A0 10 i).toNatClampNeg ≤ 99; omega⟩
  have hP0 : PST z T1 N.1 K ((Yc z).1 ++ [N.1], va_up (Yc z).2.1 N.1 5, (Yc z).2.2) (SeS z T1 N.1 S) 0 (fun c i => (A0 c i).toNatClampNeg) [] 0 (SeS z T1 N.1 S) A0 ((SV b M0 v).2.2.1 (b + 28)) := by
    refine ⟨⟨by omega, by show 0 ≤ 10; omega, fun h => absurd h (Nat.lt_irrefl _), trivial, fun s hs => absurd hs List.not_mem_nil, fun i hi => absurd hi (Nat.not_lt_zero _)⟩, fun i hi => absurd hi (Nat.not_lt_zero _), ⟨fun i hi => absurd hi (Nat.not_lt_zero _), fun i hi => absurd hi (Nat.not_lt_zero _), fun i hi => absurd hi (Nat.not_lt_zero _), upN_self⟩, ⟨fun c _ _ i hi => absurd hi (Nat.not_lt_zero _), fun i hi => absurd hi (Nat.not_lt_zero _), hST⟩, trivial, FRG_rfl, hO, Nat.zero_le _⟩
  have hs := sim_d hBA 12 (SeS z T1 N.1 S) A0 ((SV b M0 v).2.2.1 (b + 28)) 0 _ [] 0 FU hP0 (Or.inl ⟨rfl, rfl⟩) (Or.inl rfl) rfl (by decide)
  have hri := RdM_init (b := b) (M := SV b M0 v)
  rw [hA0] at hri
  -- the class' call around the reading
  generalize hY1 : (((Yc z).1 ++ [N.1], va_up (Yc z).2.1 N.1 5, (Yc z).2.2) : LY) = Y1 at hY hchk hO hBA hP0 hs
  have hYf : ∀ a, a < N.1 → (a ∈ Y1.1 ↔ a ∈ (Yc z).1) ∧ Y1.2.1 a = (Yc z).2.1 a ∧ Y1.2.2 a = (Yc z).2.2 a := by
    intro a ha
    rw [← hY1]
    refine ⟨?_, ?_, rfl⟩
    · show a ∈ (Yc z).1 ++ [N.1] ↔ _
      rw [List.mem_append, List.mem_singleton]
      exact ⟨fun h => h.elim id (fun h => by omega), Or.inl⟩
    · show va_up (Yc z).2.1 N.1 5 a = _
      rw [va_up_ne _ _ (by omega)]
  have hparse : ∀ (q11 : HS × Int32) (res : Option (HS × Int32)), fX5_readNode Y1 12 (SeS z T1 N.1 S) (some N.1) none 1 = some q11 → (if q11.2 = 0 then fX5_parse_36 Y1 q11.1 (some N.1) 0 else (gI Y1 5 502 (some N.1) q11.1).bind fun v18 => (gR Y1 5 500 (some N.1) q11.1).bind fun v22 => (gI Y1 7 701 v22 q11.1).bind fun v25 => if v18 = v25 then fX5_parse_36 Y1 q11.1 (some N.1) 1 else fX5_parse_36 Y1 q11.1 (some N.1) 0) = res → fX5_parse Y1 (upN (fun f x => if x = N.1 then 0 else S.1 f x) 502 N.1 0, upN (upN (fun f x => if x = N.1 then none else S.2.1 f x) 500 N.1 (some (z + 1))) 501 N.1 (some (z + T1)), S.2.2) (some N.1) = res := by
    intro q11 res h1 h2
    unfold fX5_parse
    refine bnd (a := some (z + T1)) ?_ ?_
    · show (if chk Y1 5 N.1 = true then some (upN (upN (fun f x => if x = N.1 then none else S.2.1 f x) 500 N.1 (some (z + 1))) 501 N.1 (some (z + T1)) 501 N.1) else none) = _
      rw [if_pos hchk, upN_self]
    refine bnd (dpI hY hK1.1 hK1.2.1) ?_
    refine bnd (po_rcv hO) ?_
    exact bnd h1 h2
  have hcall : ∀ (Sp : HS) (rp : Int32) (res : Option ((LY × HS × (Nat × Nat)) × Int32)), fX5_parse Y1 (upN (fun f x => if x = N.1 then 0 else S.1 f x) 502 N.1 0, upN (upN (fun f x => if x = N.1 then none else S.2.1 f x) 500 N.1 (some (z + 1))) 501 N.1 (some (z + T1)), S.2.2) (some N.1) = some (Sp, rp) → ((gR Y1 11 1100 (some z) Sp).bind fun v20 => (rcv Y1 7 v20).bind fun _ => (fX7_clear Y1 Sp v20).bind fun S23 => if 0 ≤ rp then (gR Y1 11 1107 (some z) S23).bind fun v33 => (gR Y1 11 1108 (some z) S23).bind fun v39 => (pR Y1 11 1107 (some z) v39 S23).bind fun S42 => (pR Y1 11 1108 (some z) v33 S42).bind fun S47 => (gR Y1 11 1104 (some z) S47).bind fun v51 => (rcv Y1 2 v51).bind fun _ => (fX2_clear Y1 S47 v51).bind fun S54 => (pZ Y1 11 1109 (some z) 0 S54).bind fun S59 => some ((Y1, S59, (N.1 + 1, N.2 + 3)), rp) else some ((Y1, S23, (N.1 + 1, N.2 + 3)), rp)) = res → fX11_readTree (Yc z) S N (some z) = res := by
    intro Sp rp res h1 h2
    unfold fX11_readTree
    refine bnd (a := (N.1, Y1, ((fun f x => if x = N.1 then 0 else S.1 f x, fun f x => if x = N.1 then none else S.2.1 f x, S.2.2) : HS), (N.1 + 1, N.2 + 3))) ?_ ?_
    · rw [← hY1]
      unfold newO
      exact if_pos ⟨Nat.le_refl _, Nat.le_refl _⟩
    refine bnd (dR_of hY (o := 0) (by decide) rfl (x := some (z + 1)) ((if_neg (by omega)).trans h1100)) ?_
    refine bnd (dR_of hY (o := 0) (by decide) rfl (x := some (z + T1)) ((if_neg (by omega)).trans h1108)) ?_
    refine bnd (a := (upN (fun f x => if x = N.1 then 0 else S.1 f x) 502 N.1 0, upN (upN (fun f x => if x = N.1 then none else S.2.1 f x) 500 N.1 (some (z + 1))) 501 N.1 (some (z + T1)), S.2.2)) ?_ ?_
    · unfold fX5_init
      refine ifN (by intro e; cases e) ?_
      refine bnd (a := (upN (fun f x => if x = N.1 then 0 else S.1 f x) 502 N.1 0, (fun f x => if x = N.1 then none else S.2.1 f x), S.2.2)) ?_ ?_
      · show (if chk Y1 5 N.1 = true then _ else none) = _
        rw [if_pos hchk]
      refine bnd (a := (upN (fun f x => if x = N.1 then 0 else S.1 f x) 502 N.1 0, upN (fun f x => if x = N.1 then none else S.2.1 f x) 500 N.1 (some (z + 1)), S.2.2)) ?_ ?_
      · show (if chk Y1 5 N.1 = true then _ else none) = _
        rw [if_pos hchk]
      refine bnd (a := (upN (fun f x => if x = N.1 then 0 else S.1 f x) 502 N.1 0, upN (upN (fun f x => if x = N.1 then none else S.2.1 f x) 500 N.1 (some (z + 1))) 501 N.1 (some (z + T1)), S.2.2)) ?_ rfl
      show (if chk Y1 5 N.1 = true then _ else none) = _
      rw [if_pos hchk]
    refine bnd (po_rcv hO) ?_
    exact bnd h1 h2
  have hera : ∀ S1 : HS, AGR z S1 (ERA N.1 S S1) := fun S1 x h1 h2 => ⟨fun f => ⟨if_neg (by omega), if_neg (by omega)⟩, rfl, rfl⟩
  have hz0 : ¬ reg z T1 (z + 0) := reg_far hTT1 (by omega)
  have hz8 : ¬ reg z T1 (z + 8) := reg_far hTT1 (by omega)
  have h8T : T1 ≠ 0 ∧ T1 ≠ 1 ∧ T1 ≠ 8 := by rcases hTT1 with rfl | rfl <;> omega
  -- no tree
  have hfail : ∀ (S1 : HS) (o1 : Nat) (A1 : Nat → Nat → Int32) (op1 : Nat → Int32) (n1 d1 : Nat), FRG z T1 N.1 (SeS z T1 N.1 S) S1 → o1 ≤ K → fX5_parse Y1 (upN (fun f x => if x = N.1 then 0 else S.1 f x) 502 N.1 0, upN (upN (fun f x => if x = N.1 then none else S.2.1 f x) 500 N.1 (some (z + 1))) 501 N.1 (some (z + T1)), S.2.2) (some N.1) = some (S1, -2000 - nI o1) → fX12_readTree (Ym b) (SV b M0 v) (some b) = some (RdE b (SV b M0 v) A1 op1 o1 n1 d1 1, -2000 - nI o1) → STAA A1 → ∃ S1 S2 M1 Y1 N1 r, fX11_readTree (Yc z) S N (some z) = some ((Y1, S1, N1), r) ∧ fX12_readTree (Ym b) (SV b M0 v) (some b) = some (M1, r) ∧ REL z b q S2 M1 ∧ AGR z S1 S2 ∧ N1 = (N.1 + 1, N.2 + 3) ∧ (∀ a, a < N.1 → (a ∈ Y1.1 ↔ a ∈ (Yc z).1) ∧ Y1.2.1 a = (Yc z).2.1 a ∧ Y1.2.2 a = (Yc z).2.2 a) := by
    intro S1 o1 A1 op1 n1 d1 hf ho hp hr hst
    have hfd := FRD_of hfrd hf
    refine ⟨(upN S1.1 701 (z + 1) 0, S1.2), ERA N.1 S (upN S1.1 701 (z + 1) 0, S1.2), _, Y1, (N.1 + 1, N.2 + 3), -2000 - nI o1, hcall _ _ _ hp ?_, hr, rel_fail hT1 hSt hLv hSI hq hfd hN hst, hera _, rfl, hYf⟩
    refine bnd (dR_of hY (o := 0) (by decide) rfl (x := some (z + 1)) (((hfd.2.1 1100 (z + 0) hz0 (by omega) (by omega)).2).trans h1100)) ?_
    refine bnd (drcv hY (o := 1) (by decide) rfl) ?_
    refine bnd (a := (upN S1.1 701 (z + 1) 0, S1.2)) ?_ ?_
    · unfold fX7_clear
      exact bnd (dpI hY (o := 1) (by decide) rfl) rfl
    exact if_neg (neg_tab o1 (by omega))
  rcases hs with ⟨S1, o1, A1, op1, n1, d1, c1, c2, c3, c4, c5, c6⟩ | ⟨S1, o1, A1, op1, n1, t1, g, F1, c1, c2, c3, c4, c5, c6, c7, c8, c9, c10, c11⟩
  · refine hfail S1 o1 A1 op1 n1 d1 c2 c4 (hparse _ _ c1 ?_) (hri.trans (c5.trans (r_62_f hB))) c6
    refine ifP rfl ?_
    unfold fX5_parse_36
    refine ifP rfl ?_
    refine bnd (a := nI o1) ?_ rfl
    show (if chk Y1 5 N.1 = true then some (S1.1 502 N.1) else none) = _
    rw [if_pos hchk, c3]
  · have hO1 := c3.2.2.2.2.2.2.1
    have hT1x := TXC_frg c3.2.2.2.2.2.1 hTXe hN hTT1
    have ho1 := c3.2.2.2.2.2.2.2
    have hn1 := c3.1.1
    obtain ⟨g1, rfl⟩ : ∃ g1, g = g1 + 1 := ⟨g - 1, by omega⟩
    obtain ⟨f1, rfl⟩ : ∃ f1, F1 = f1 + 1 := ⟨F1 - 1, by unfold FU at c10; omega⟩
    have hup : fX12_goesUp_0 (Ym b) (g1 + 1) (RdM b (SV b M0 v) A1 op1 o1 n1 ([] : List Nat).length 0 0) (some b) = some (RdM b (SV b M0 v) A1 op1 o1 n1 ([] : List Nat).length 0 0) := by
      rw [fX12_goesUp_0]
      refine bnd q1235 ?_
      exact if_pos (by decide)
    rw [hup] at c9
    have c9' : fX12_readTree_25 (Ym b) FU (RdM b (SV b M0 v) A0 ((SV b M0 v).2.2.1 (b + 28)) 0 0 0 0 1) (some b) = fX12_readTree_62 (Ym b) (RdM b (SV b M0 v) A1 op1 o1 n1 0 0 0) (some b) := c9.trans r_25_out
    have hpar : ∀ res, (if nI o1 = nI K then fX5_parse_36 Y1 S1 (some N.1) 1 else fX5_parse_36 Y1 S1 (some N.1) 0) = res → fX5_parse Y1 (upN (fun f x => if x = N.1 then 0 else S.1 f x) 502 N.1 0, upN (upN (fun f x => if x = N.1 then none else S.2.1 f x) 500 N.1 (some (z + 1))) 501 N.1 (some (z + T1)), S.2.2) (some N.1) = res := by
      intro res hres
      refine hparse _ _ c1 ?_
      refine ifN (show ¬ (1 : Int32) = 0 by decide) ?_
      refine bnd (po_502 hO1) ?_
      refine bnd (po_500 hO1) ?_
      refine bnd (dI_of hY (o := 1) (by decide) rfl hT1x.1) ?_
      exact hres
    by_cases hoK : o1 = K
    · subst hoK
      have hfd := FRD_of hfrd c3.2.2.2.2.2.1
      have hlen := lm_end c4
      have hrel := rel_ok (op := op1) (o := o1) (v := v) hT hT1 hSt hfd hN c3.1 (by omega) c3.2.1 c3.2.2.1 c3.2.2.2.1 (by omega) (fun k hk => hLv.2.2.2.2.1 k hk)
      have hval : fX5_parse Y1 (upN (fun f x => if x = N.1 then 0 else S.1 f x) 502 N.1 0, upN (upN (fun f x => if x = N.1 then none else S.2.1 f x) 500 N.1 (some (z + 1))) 501 N.1 (some (z + T1)), S.2.2) (some N.1) = some (S1, nI n1) := by
        refine hpar _ ?_
        refine ifP rfl ?_
        unfold fX5_parse_36
        refine ifN (show ¬ (1 : Int32) = 0 by decide) ?_
        refine bnd (po_501 hO1) ?_
        refine bnd (dI_of hY hK1.1 hK1.2.1 c3.2.2.1.2.2.2) ?_
        rfl
      refine ⟨S9 z T T1 S1, ERA N.1 S (S9 z T T1 S1), _, Y1, (N.1 + 1, N.2 + 3), nI n1, hcall _ _ _ hval ?_, hri.trans (c9'.trans (r_end_all hB (Nat.le_refl _) (Nat.le_refl _) hn1 SV_v)), hrel, hera _, rfl, hYf⟩
      refine bnd (dR_of hY (o := 0) (by decide) rfl (x := some (z + 1)) (((hfd.2.1 1100 (z + 0) hz0 (by omega) (by omega)).2).trans h1100)) ?_
      refine bnd (drcv hY (o := 1) (by decide) rfl) ?_
      refine bnd (a := (upN S1.1 701 (z + 1) 0, S1.2)) ?_ ?_
      · unfold fX7_clear
        exact bnd (dpI hY (o := 1) (by decide) rfl) rfl
      refine ifP (nI_pos' (by omega)) ?_
      refine bnd (dR_of hY (o := 0) (by decide) rfl (x := some (z + T)) (((hfd.2.1 1107 (z + 0) hz0 (by omega) (by omega)).2).trans h1107)) ?_
      refine bnd (dR_of hY (o := 0) (by decide) rfl (x := some (z + T1)) (((hfd.2.1 1108 (z + 0) hz0 (by omega) (by omega)).2).trans h1108)) ?_
      refine bnd (dpR hY (o := 0) (by decide) rfl) ?_
      refine bnd (dpR hY (o := 0) (by decide) rfl) ?_
      refine bnd (dR_of hY (o := 0) (by decide) rfl (x := some (z + 8)) (((hfd.2.1 1104 (z + 0) hz0 (by omega) (by omega)).2).trans h1104)) ?_
      refine bnd (drcv hY (o := 8) (by decide) rfl) ?_
      refine bnd (c_clear2 hY) ?_
      refine bnd (dpZ hY (o := 0) (by decide) rfl (Or.inl rfl)) ?_
      have e1 : upN (fun f x => if x = z + 8 ∧ 201 ≤ f ∧ f ≤ 208 then 0 else upN S1.1 701 (z + 1) 0 f x) 1109 (z + 0) 0 = (S9 z T T1 S1).1 := by
        funext f x
        show (if f = 1109 ∧ x = z + 0 then (0 : Int32) else if x = z + 8 ∧ 201 ≤ f ∧ f ≤ 208 then 0 else if f = 701 ∧ x = z + 1 then 0 else S1.1 f x) = (if x = z + 1 ∧ f = 701 then 0 else if x = z + 8 ∧ 201 ≤ f ∧ f ≤ 208 then 0 else if x = z ∧ f = 1109 then 0 else S1.1 f x)
        by_cases q1 : x = z + 1 ∧ f = 701
        · rw [if_pos q1, if_neg (by omega), if_neg (by omega), if_pos (by omega)]
        · rw [if_neg q1]
          by_cases q2 : x = z + 8 ∧ 201 ≤ f ∧ f ≤ 208
          · rw [if_pos q2, if_neg (by omega), if_pos q2]
          · rw [if_neg q2, if_neg q2]
            by_cases q3 : x = z ∧ f = 1109
            · rw [if_pos q3, if_pos (c := f = 1109 ∧ x = z + 0) (by omega)]
            · rw [if_neg q3, if_neg (c := f = 1109 ∧ x = z + 0) (by omega), if_neg (c := f = 701 ∧ x = z + 1) (by omega)]
      have e2 : upN (upN (upN S1.2.1 1107 (z + 0) (some (z + T1))) 1108 (z + 0) (some (z + T))) 200 (z + 8) none = (S9 z T T1 S1).2.1 := by
        funext f x
        show (if f = 200 ∧ x = z + 8 then none else if f = 1108 ∧ x = z + 0 then some (z + T) else if f = 1107 ∧ x = z + 0 then some (z + T1) else S1.2.1 f x) = (if x = z ∧ f = 1107 then some (z + T1) else if x = z ∧ f = 1108 then some (z + T) else if x = z + 8 ∧ f = 200 then none else S1.2.1 f x)
        by_cases q1 : x = z ∧ f = 1107
        · rw [if_pos q1, if_neg (by omega), if_neg (by omega), if_pos (by omega)]
        · rw [if_neg q1]
          by_cases q2 : x = z ∧ f = 1108
          · rw [if_pos q2, if_neg (by omega), if_pos (by omega)]
          · rw [if_neg q2]
            by_cases q3 : x = z + 8 ∧ f = 200
            · rw [if_pos q3, if_pos (by omega)]
            · rw [if_neg q3, if_neg (by omega), if_neg (by omega), if_neg (by omega)]
      show some ((Y1, ((upN (fun f x => if x = z + 8 ∧ 201 ≤ f ∧ f ≤ 208 then 0 else upN S1.1 701 (z + 1) 0 f x) 1109 (z + 0) 0, upN (upN (upN S1.2.1 1107 (z + 0) (some (z + T1))) 1108 (z + 0) (some (z + T))) 200 (z + 8) none, S1.2.2) : HS), (N.1 + 1, N.2 + 3)), nI n1) = _
      rw [e1, e2]
      rfl
    · refine hfail S1 o1 A1 op1 n1 0 c3.2.2.2.2.2.1 ho1 (hpar _ ?_) (hri.trans (c9'.trans (r_62_s hB (by omega)))) (staa_of c3.2.2.2.1.2.2)
      refine ifN (fun y => hoK ((nI_eq (by omega) (by omega)).mp y)) ?_
      unfold fX5_parse_36
      refine ifP rfl ?_
      exact bnd (po_502 hO1) rfl
end RDTS
