/-! save, restore, run, foresee, ticksToGo: the calls -/
section RUNS
variable {z b q T n i j k w f a d o K : Nat} {S0 S1 S2 M0 M1 S M : HS} {v v1 c c1 l l1 : Nat → Int32} {u u1 : Nat → Option Nat} {p p1 : Option Nat} {tr tr1 : TR} {t : TT} {x y r : Int32}
def FRM9 (z : Nat) (S S1 : HS) : Prop := (∀ f a, ¬ lfF f → ¬ lgF f → f ≠ 1109 → S1.1 f a = S.1 f a) ∧ (∀ f a, f ≠ 200 → f ≠ 302 → S1.2.1 f a = S.2.1 f a) ∧ (∀ o, o = 2 ∨ o = 4 → S1.2.2.1 (z + o) = S.2.2.1 (z + o)) ∧ S1.2.2.2 = S.2.2.2
theorem STAT_frm9 (h : FRM9 z S S1) (hV : SAV z b T n t q S1 M1) (hMX : MX b n t M1) (hN : M1.1 1208 b = nI n) (hTM : ∀ o, o = 4 ∨ o = 5 ∨ 17 ≤ o → M1.2.2.1 (b + o) = M.2.2.1 (b + o)) (hTN : M1.1 1206 b = M.1 1206 b ∧ M1.1 1207 b = M.1 1207 b) (hS : STAT z b T n t q S M) : STAT z b T n t q S1 M1 := by
  obtain ⟨h1, h2, h3, h4, ⟨k1, h5⟩, ⟨k2, h6⟩, h7⟩ := hS
  have hCX : CX z T n t S1 := by
    refine ⟨h1.1, h1.2.1, FixC_congr (fun f a hf => h.2.1 f a (by rintro rfl; exact absurd hf (by decide)) (by rintro rfl; exact absurd hf (by decide))) (fun a => h.1 400 a (nflg (by omega)).1 (nflg (by omega)).2 (by decide)) h.2.2.2 h1.2.2.1, TreeC_congr (fun f a hf => ?_) (fun f a hf => h.2.1 f a (by rintro rfl; exact absurd hf (by decide)) (by rintro rfl; exact absurd hf (by decide))) h1.2.2.2⟩
    have hf : f ∈ treeI := by simpa using hf
    unfold treeI at hf
    simp only [List.mem_cons, List.not_mem_nil, or_false] at hf
    exact h.1 f a (nflg (by omega)).1 (nflg (by omega)).2 (by omega)
  refine ⟨hCX, hMX, ⟨by rw [h.2.1 _ _ (by decide) (by decide)]; exact h3.1, by rw [h.2.1 _ _ (by decide) (by decide)]; exact h3.2.1, by rw [h.1 _ _ (nflg (by decide)).1 (nflg (by decide)).2 (by decide)]; exact h3.2.2⟩, hN, ⟨k1, h5.1, ?_, ?_, fun j hj => ?_⟩, ⟨k2, h6.1, ?_, ?_, fun j hj => ?_⟩, hV, h7.2.1, STA_same (fun o ho => hTM o (Or.inr (Or.inr ho))) h7.2.2⟩
  · rw [h.1 _ _ (nflg (by decide)).1 (nflg (by decide)).2 (by decide)]; exact h5.2.1
  · rw [hTN.1]; exact h5.2.2.1
  · rw [h.2.2.1 2 (Or.inl rfl), hTM 4 (Or.inl rfl)]; exact h5.2.2.2 j hj
  · rw [h.1 _ _ (nflg (by decide)).1 (nflg (by decide)).2 (by decide)]; exact h6.2.1
  · rw [hTN.2]; exact h6.2.2.1
  · rw [h.2.2.1 4 (Or.inr rfl), hTM 5 (Or.inr (Or.inl rfl))]; exact h6.2.2.2 j hj
/-- what copying from row x of the reference to row y makes of a state -/
theorem MX_rows (hX : MX b n t M0) (h1 : M1.2.1 = M0.2.1) (h2 : ∀ a, a ≠ b + 2 → a ≠ b + 3 → M1.2.2.1 a = M0.2.2.1 a) : MX b n t M1 := by
  refine ⟨?_, fun c hc i hi => ?_, hX.2.2⟩
  · unfold FixM
    rw [h1]
    exact hX.1
  · rw [h2 _ (by omega) (by omega)]
    exact hX.2.1 c hc i hi
/-- row y keeps v -/
def KP (b y : Nat) (M : HS) (v : Nat → Int32) : HS := (M.1, M.2.1, va_up M.2.2.1 (b + y) (fun k => if k < 355 then v k else M.2.2.1 (b + y) k), M.2.2.2)
theorem m_keep {y : Nat} (hy : y = 2 ∨ y = 3) : fX12_copies (Ym b) (SV b M0 v) (some (b + 1)) (some (b + y)) = some (SV b (KP b y M0 v) v) := by
  rw [m_copy (Or.inl rfl) (Or.inr hy) (by omega)]
  have e1 : (SV b M0 v).2.2.1 (b + 1) = v := SV_v
  have e2 : (SV b M0 v).2.2.1 (b + y) = M0.2.2.1 (b + y) := SV_k (by omega)
  rw [e1, e2]
  show some (M0.1, M0.2.1, va_up (va_up M0.2.2.1 (b + 1) v) (b + y) _, M0.2.2.2) = some (M0.1, M0.2.1, va_up (va_up M0.2.2.1 (b + y) _) (b + 1) v, M0.2.2.2)
  have e : va_up (va_up M0.2.2.1 (b + 1) v) (b + y) (fun k => if k < 355 then v k else M0.2.2.1 (b + y) k) = va_up (va_up M0.2.2.1 (b + y) (fun k => if k < 355 then v k else M0.2.2.1 (b + y) k)) (b + 1) v := by
    funext a
    by_cases h1 : a = b + y
    · subst h1
      rw [va_up_self, va_up_ne _ _ (show b + y ≠ b + 1 by omega), va_up_self]
    · rw [va_up_ne _ _ h1]
      by_cases h2 : a = b + 1
      · subst h2; rw [va_up_self, va_up_self]
      · rw [va_up_ne _ _ h2, va_up_ne _ _ h2, va_up_ne _ _ h1]
  rw [e]
theorem m_back {y : Nat} (hy : y = 2 ∨ y = 3) : fX12_copies (Ym b) (SV b M0 v) (some (b + y)) (some (b + 1)) = some (SV b M0 (fun k => if k < 355 then M0.2.2.1 (b + y) k else v k)) := by
  rw [m_copy (Or.inr hy) (Or.inl rfl) (by omega)]
  have e1 : (SV b M0 v).2.2.1 (b + 1) = v := SV_v
  have e2 : (SV b M0 v).2.2.1 (b + y) = M0.2.2.1 (b + y) := SV_k (by omega)
  rw [e1, e2]
  exact congrArg some SV_SV
theorem x_save (h : REL z b q S M) : ∃ S1 M1 r, fX11_save (Yc z) S (some z) = some (S1, r) ∧ fX12_save (Ym b) M (some b) = some (M1, r) ∧ REL z b q S1 M1 := by
  obtain ⟨T, n, t, S0, M0, v, c, u, l, p, tr, rfl, rfl, hSt, hSI, hq⟩ := REL_to h
  have hC := hSt.1
  have hX := hSt.2.1
  have hn := CX_n hC
  unfold fX11_save fX12_save
  by_cases h0 : n = 0
  · subst h0
    refine ⟨_, _, -1004, ?_, ?_, h⟩
    · refine bnd (w1107 hC hSt.2.2.1) ?_
      refine bnd (w801 hC hSt.2.2.1) ?_
      exact if_pos rfl
    · refine bnd (m1208 hSt.2.2.2.1) ?_
      exact if_pos rfl
  · have hn0 : ¬ nI n = 0 := nI_ne0 (by omega) (by omega)
    obtain ⟨S1, e1, hfr, hsn, h11, -⟩ := x_take (o := 11) (Or.inl rfl) hSt hSI
    have hT2 : T = 73 ∨ T = 171 := hC.1
    have hCX1 : CX z T n t S1 := CX_frm hfr hC
    have hU1 : RUNF z T n S1 := ⟨by rw [hfr.2.1 _ _ (by decide) (by decide)]; exact hSt.2.2.1.1, by rw [hfr.2.1 _ _ (by decide) (by decide)]; exact hSt.2.2.1.2.1, by rw [hfr.1 _ _ (nflg (by decide)).1 (nflg (by decide)).2]; exact hSt.2.2.1.2.2⟩
    have hfr9 : FRM9 z S0 (upN S1.1 1109 z 1, S1.2) := ⟨fun f a g1 g2 g3 => (upN_ne (Or.inl g3)).trans (hfr.1 f a g1 g2), hfr.2.1, hfr.2.2.1, hfr.2.2.2⟩
    have hSC9 : (upN (SC z T n S1 v c u l p tr).1 1109 z 1, (SC z T n S1 v c u l p tr).2) = SC z T n (upN S1.1 1109 z 1, S1.2) v c u l p tr := by
      show (upN (SC1 z T n S1.1 v c l tr.1) 1109 z 1, SC2 z T n S1.2.1 u p, SC3 z S1.2.2.1 v tr, S1.2.2.2) = _
      rw [SC1_wI (by omega) (fun i _ => by have := lf_ge (z := z) (i := i) hC.1; omega)]
      rfl
    have hMrow : ∀ a, a ≠ b + 2 → a ≠ b + 3 → (upN (KP b 2 M0 v).1 1203 b 1, (KP b 2 M0 v).2).2.2.1 a = M0.2.2.1 a := fun a g1 _ => va_up_ne _ _ g1
    have i9 : ∀ f a, f ≠ 1109 → (upN S1.1 1109 z 1, S1.2).1 f a = S1.1 f a := fun f a h => upN_ne (Or.inl h)
    have i3 : ∀ f, f ≠ 1203 → (upN (KP b 2 M0 v).1 1203 b 1, (KP b 2 M0 v).2).1 f b = M0.1 f b := fun f h => upN_ne (Or.inl h)
    have hvs : (upN (KP b 2 M0 v).1 1203 b 1, (KP b 2 M0 v).2).2.2.1 (b + 2) = fun k => if k < 355 then v k else M0.2.2.1 (b + 2) k := va_up_self _ _ _
    have hSAV : SAV z b T n t q (upN S1.1 1109 z 1, S1.2) (upN (KP b 2 M0 v).1 1203 b 1, (KP b 2 M0 v).2) := by
      refine Or.inr ⟨upN_self, upN_self, c, u, l, p, tr, ?_, ?_, hq⟩
      · rw [hvs]
        have h2 := SNAP_v (v1 := fun k => if k < 355 then v k else M0.2.2.1 (b + 2) k) hn (fun k hk => if_pos hk) hsn
        obtain ⟨a1, a2, a3, a4, a5, a6⟩ := h2
        exact ⟨fun i hi => ⟨fun f w hf => (i9 f _ (by rintro rfl; cases hf)).trans ((a1 i hi).1 f w hf), (i9 301 _ (by decide)).trans (a1 i hi).2.1, (i9 303 _ (by decide)).trans (a1 i hi).2.2.1, (a1 i hi).2.2.2⟩, fun f w hf => (i9 f _ (by rintro rfl; cases hf)).trans (a2 f w hf), (i9 208 _ (by decide)).trans a3, a4, a5, a6⟩
      · rw [hvs]
        exact SI_ext hC.2.1 (fun k hk _ => if_pos hk) hSI
    have hStN : STAT z b T n t q (upN S1.1 1109 z 1, S1.2) (upN (KP b 2 M0 v).1 1203 b 1, (KP b 2 M0 v).2) := STAT_frm9 hfr9 hSAV (MX_rows hSt.2.1 rfl hMrow) ((i3 1208 (by decide)).trans hSt.2.2.2.1) (fun o ho => hMrow _ (by omega) (by omega)) ⟨i3 1206 (by decide), i3 1207 (by decide)⟩ hSt
    refine ⟨_, _, nI n, ?_, ?_, REL_of hStN hSI hq⟩
    · refine bnd (w1107 hC hSt.2.2.1) ?_
      refine bnd (w801 hC hSt.2.2.1) ?_
      refine ifN hn0 ?_
      refine bnd (w1105 hC) ?_
      refine bnd (w1107 hC hSt.2.2.1) ?_
      refine bnd (w1103 hC) ?_
      refine bnd (w1104 hC) ?_
      refine bnd (crcv (o := 11) (by decide) rfl) ?_
      refine bnd e1 ?_
      refine bnd (cpZ (o := 0) (by decide) rfl (Or.inr rfl)) ?_
      show ((gR (Yc z) 11 1107 (some z) (upN (SC z T n S1 v c u l p tr).1 1109 z 1, (SC z T n S1 v c u l p tr).2)).bind fun v39 => (gI (Yc z) 8 801 v39 (upN (SC z T n S1 v c u l p tr).1 1109 z 1, (SC z T n S1 v c u l p tr).2)).bind fun v42 => some ((upN (SC z T n S1 v c u l p tr).1 1109 z 1, (SC z T n S1 v c u l p tr).2), v42)) = _
      rw [hSC9]
      refine bnd (w1107 hStN.1 hStN.2.2.1) ?_
      refine bnd (w801 hStN.1 hStN.2.2.1) ?_
      rfl
    · refine bnd (m1208 hSt.2.2.2.1) ?_
      refine ifN hn0 ?_
      refine bnd (mR1200 (SV_fix hX.1)) ?_
      refine bnd (mR1201 (SV_fix hSt.2.1.1)) ?_
      refine bnd (m_keep (y := 2) (Or.inl rfl)) ?_
      refine bnd (mpZ (Or.inr rfl)) ?_
      refine bnd (a := nI n) ?_ rfl
      rw [mIo]
      exact congrArg some ((i3 1208 (by decide)).trans hSt.2.2.2.1)
theorem x_restore (h : REL z b q S M) : ∃ S1 M1 r, fX11_restore (Yc z) S (some z) = some (S1, r) ∧ fX12_restore (Ym b) M (some b) = some (M1, r) ∧ REL z b q S1 M1 := by
  obtain ⟨T, n, t, S0, M0, v, c, u, l, p, tr, rfl, rfl, hSt, hSI, hq⟩ := REL_to h
  have hC := hSt.1
  have hX := hSt.2.1
  have hn := CX_n hC
  unfold fX11_restore fX12_restore
  have e9 : gI (Yc z) 11 1109 (some z) (SC z T n S0 v c u l p tr) = some (S0.1 1109 z) := gI_of (o := 0) (by decide) rfl (sI (o := 0) hC (by omega))
  rcases hSt.2.2.2.2.2.2.1 with ⟨h1, h2⟩ | ⟨h1, h2, c1, u1, l1, p1, tr1, h3, h4, h5⟩
  · refine ⟨_, _, -1001, ?_, ?_, h⟩
    · refine bnd e9 ?_
      rw [h1]
      exact if_pos rfl
    · refine bnd mIo ?_
      refine ifP (show M0.1 1203 b = 0 from h2) rfl
  · obtain ⟨S1, tr2, e1, hSt1, hSI1, ht⟩ := x_give (v := v) (c := c) (u := u) (l := l) (p := p) (tr := tr) (o := 11) (Or.inl rfl) hSt h3 h4
    have hc : SC z T n S1 (fun k => if k < 355 then M0.2.2.1 (b + 2) k else v k) c1 u1 l1 p1 tr2 = SC z T n S1 (M0.2.2.1 (b + 2)) c1 u1 l1 p1 tr2 := SC_congr hn (fun k hk => if_pos (by unfold relV at hk; omega))
    refine ⟨_, _, nI n, ?_, ?_, REL_of hSt1 (SI_ext (v1 := fun k => if k < 355 then M0.2.2.1 (b + 2) k else v k) hC.2.1 (fun k hk _ => if_pos hk) hSI1) (by omega)⟩
    · rw [hc]
      refine bnd e9 ?_
      rw [h1]
      refine ifN (by decide) ?_
      refine bnd (w1105 hC) ?_
      refine bnd (w1107 hC hSt.2.2.1) ?_
      refine bnd (w1103 hC) ?_
      refine bnd (w1104 hC) ?_
      refine bnd (crcv (o := 11) (by decide) rfl) ?_
      refine bnd e1 ?_
      refine bnd (w1107 hSt1.1 hSt1.2.2.1) ?_
      refine bnd (w801 hSt1.1 hSt1.2.2.1) ?_
      rfl
    · refine bnd mIo ?_
      refine ifN (show ¬ M0.1 1203 b = 0 by rw [h2]; decide) ?_
      refine bnd (mR1201 (SV_fix hSt.2.1.1)) ?_
      refine bnd (mR1200 (SV_fix hX.1)) ?_
      refine bnd (m_back (Or.inl rfl)) ?_
      refine bnd (m1208 hSt.2.2.2.1) ?_
      rfl
/-! run -/
theorem MX_2 (hX : MX b n t M0) (h : M1.2 = M0.2) : MX b n t M1 := MX_rows hX (by rw [h]) (fun a _ _ => by rw [h])
set_option maxRecDepth 100000 in
theorem j_iter (hC : CX z T n t S0) (h0 : 0 < n) (hK : K ≤ 50) {F : Nat → HS → Int32 → Int32 → Option (HS × Int32)} {G : HS → Int32 → Int32 → Option (HS × Int32)}
    (hF0 : ∀ f S r i, (K ≤ i ∨ r ≠ 1) → i ≤ 50 → F (f + 1) S r (nI i) = G S r (nI i))
    (hF1 : ∀ f v c u l p tr i S1 r1, i < K → fX9_perform (Yc z) (SC z T n S0 v c u l p tr) (some (z + 5)) (some (nda z T 0)) 1000000 = some (S1, r1) → F (f + 1) (SC z T n S0 v c u l p tr) 1 (nI i) = F f S1 r1 (nI (i + 1))) :
    ∀ (d i f1 f2 : Nat) (M0 : HS) (v c : Nat → Int32) (u : Nat → Option Nat) (l : Nat → Int32) (p : Option Nat) (tr : TR) (r : Int32), i + d = K → d < f1 → d < f2 → MX b n t M0 → M0.1 1238 b = nI i → SI z T n t v c u l p tr → tr.1 + 7200 * d < 2 ^ 31 →
    ∃ M1 v1 c1 u1 l1 p1 tr1 r1 i1, F f1 (SC z T n S0 v c u l p tr) r (nI i) = G (SC z T n S0 v1 c1 u1 l1 p1 tr1) r1 (nI i1) ∧ fX12_runs_7 (Ym b) f2 (SV b M0 v) (some b) (nI K) r = some (SV b M1 v1, r1) ∧ M1.1 1238 b = nI i1 ∧ M1.2 = M0.2 ∧ (∀ f a, f ≠ 1238 → M1.1 f a = M0.1 f a) ∧ SI z T n t v1 c1 u1 l1 p1 tr1 ∧ tr1.1 ≤ tr.1 + 7200 * d
  | _, _, 0, _, _, _, _, _, _, _, _, _, _, h, _, _, _, _, _ => absurd h (Nat.not_lt_zero _)
  | _, _, _, 0, _, _, _, _, _, _, _, _, _, _, h, _, _, _, _ => absurd h (Nat.not_lt_zero _)
  | 0, i, f1 + 1, f2 + 1, M0, v, c, u, l, p, tr, r, hi, _, _, hX, h38, hS, hq => by
    refine ⟨M0, v, c, u, l, p, tr, r, i, hF0 f1 _ r i (Or.inl (by omega)) (by omega), ?_, h38, rfl, fun _ _ _ => rfl, hS, by omega⟩
    rw [fX12_runs_7]
    refine bnd (a := nI i) (by rw [mIo]; exact congrArg some h38) ?_
    exact if_pos (nI_le (by omega) (by omega))
  | d + 1, i, f1 + 1, f2 + 1, M0, v, c, u, l, p, tr, r, hi, hf1, hf2, hX, h38, hS, hq => by
    by_cases hr : r = 1
    · subst hr
      obtain ⟨v1, c1, u1, l1, p1, tr1, r1, a1, a2, a3, a4⟩ := j_perform hC hX h0 hS BU_inf (by decide) (by omega)
      obtain ⟨M2, v2, c2, u2, l2, p2, tr2, r2, i2, b1, b2, b3, b4, b5, b6, b7⟩ := j_iter hC h0 hK hF0 hF1 d (i + 1) f1 f2 (upN M0.1 1238 b (nI (i + 1)), M0.2) v1 c1 u1 l1 p1 tr1 r1 (by omega) (by omega) (by omega) (MX_2 hX rfl) upN_self a3 (by omega)
      refine ⟨M2, v2, c2, u2, l2, p2, tr2, r2, i2, (hF1 f1 v c u l p tr i _ _ (by omega) a1).trans b1, ?_, b3, b4, fun f a hf => (b5 f a hf).trans (upN_ne (Or.inl hf)), b6, by omega⟩
      rw [fX12_runs_7]
      refine bnd (a := nI i) (by rw [mIo]; exact congrArg some h38) ?_
      refine ifN (nI_ge (by omega) (by omega)) ?_
      refine ifP rfl ?_
      refine bnd mrcv ?_
      refine bnd a2 ?_
      refine bnd (a := nI i) (by rw [mIo]; exact congrArg some h38) ?_
      rw [nI_1]
      refine bnd mpI ?_
      exact b2
    · refine ⟨M0, v, c, u, l, p, tr, r, i, hF0 f1 _ r i (Or.inr hr) (by omega), ?_, h38, rfl, fun _ _ _ => rfl, hS, by omega⟩
      rw [fX12_runs_7]
      refine bnd (a := nI i) (by rw [mIo]; exact congrArg some h38) ?_
      refine ifN (nI_ge (by omega) (by omega)) ?_
      exact if_neg hr
theorem SAV_M (h : SAV z b T n t q S M0) (h1 : M1.1 1203 b = M0.1 1203 b) (h2 : M1.2.2.1 (b + 2) = M0.2.2.1 (b + 2)) : SAV z b T n t q S M1 := by
  unfold SAV
  rw [h1, h2]
  exact h
theorem STAT_M (hS : STAT z b T n t q S M0) (h1 : ∀ f, f ≠ 1238 → M1.1 f b = M0.1 f b) (h2 : M1.2.1 = M0.2.1) (h3 : ∀ a, a ≠ b + 3 → M1.2.2.1 a = M0.2.2.1 a) : STAT z b T n t q S M1 :=
  STAT_frm9 ⟨fun _ _ _ _ _ => rfl, fun _ _ _ _ => rfl, fun _ _ => rfl, rfl⟩ (SAV_M hS.2.2.2.2.2.2.1 (h1 _ (by decide)) (h3 _ (by omega))) (MX_rows hS.2.1 h2 (fun a _ g => h3 a g)) (by rw [h1 _ (by decide)]; exact hS.2.2.2.1) (fun o ho => h3 _ (by omega)) ⟨h1 _ (by decide), h1 _ (by decide)⟩ hS
set_option maxRecDepth 100000 in
theorem x_run (h : REL z b q S M) (hq31 : q + 360000 < 2 ^ 31) : ∃ S1 M1 r, fX11_run (Yc z) S (some z) x = some (S1, r) ∧ fX12_run (Ym b) M (some b) x = some (M1, r) ∧ REL z b (q + 360000) S1 M1 := by
  have hm := REL_mono (q1 := q + 360000) (by omega) h
  obtain ⟨T, n, t, S0, M0, v, c, u, l, p, tr, rfl, rfl, hSt, hSI, hq⟩ := REL_to h
  have hC := hSt.1
  have hX := hSt.2.1
  unfold fX11_run fX12_run
  by_cases hx : x < 1
  · refine ⟨_, _, -1002, if_pos hx, ?_, hm⟩
    refine bnd (isIn_0 (Or.inl hx)) ?_
    exact if_pos rfl
  rw [if_neg hx]
  by_cases hx2 : x ≤ 50
  · rw [if_pos hx2]
    have e50 : fX12_isIn (Ym b) (SV b M0 v) x 1 50 = some 1 := isIn_1 hx (fun q => i32_le hx2 q)
    rcases root_cases (v := v) (c := c) (u := u) (l := l) (p := p) (tr := tr) hSt with ⟨h0, e1, e2⟩ | ⟨h0, e1, e2, e3⟩
    · refine ⟨_, _, -1004, ?_, ?_, hm⟩
      · refine bnd (w1107 hSt.1 hSt.2.2.1) ?_
        refine bnd (w8rcv hSt.1) ?_
        refine bnd e1 ?_
        exact if_pos rfl
      · refine bnd e50 ?_
        refine ifN (by decide) ?_
        refine bnd e2 ?_
        exact if_pos rfl
    · have hx0 : ¬ x < 0 := fun q => hx (by
        rw [Int32.lt_iff_toInt_lt] at q ⊢
        have e1 : (1 : Int32).toInt = 1 := by decide
        have e0 : (0 : Int32).toInt = 0 := by decide
        omega)
      obtain ⟨K, hK, rfl⟩ := nI_of hx0
      have hK2 : K ≤ 50 := by
        by_cases e : K ≤ 50
        · exact e
        · exact absurd hx2 (nI_ge (a := 50) (by omega) hK)
      obtain ⟨M1, v1, c1, u1, l1, p1, tr1, r1, i1, b1, b2, b3, b4, b5, b6, b7⟩ := j_iter (b := b) (K := K) (F := fun f S r i => fX11_run_37 (Yc z) f S (some z) (nI K) (some (nda z T 0)) r i) (G := fun S r i => some (S, r)) hC h0 hK2 (fun f S r i hi hi2 => by
          show fX11_run_37 (Yc z) (f + 1) S (some z) (nI K) (some (nda z T 0)) r (nI i) = some (S, r)
          rw [fX11_run_37]
          by_cases hKi : K ≤ i
          · exact if_pos (nI_le hKi (by omega))
          · refine ifN (nI_ge (by omega) (by omega)) ?_
            exact if_neg (hi.resolve_left hKi)) (fun f v c u l p tr i S1 r1 hi hp => by
          show fX11_run_37 (Yc z) (f + 1) _ (some z) (nI K) (some (nda z T 0)) 1 (nI i) = fX11_run_37 (Yc z) f S1 (some z) (nI K) (some (nda z T 0)) r1 (nI (i + 1))
          rw [fX11_run_37]
          refine ifN (nI_ge (by omega) (by omega)) ?_
          refine ifP rfl ?_
          refine bnd (w1102 hC) ?_
          refine bnd (crcv (o := 5) (by decide) rfl) ?_
          refine bnd hp ?_
          rw [nI_1]) K 0 FU FU (upN M0.1 1238 b (nI 0), M0.2) v c u l p tr 1 (by omega) (by unfold FU; omega) (by unfold FU; omega) (MX_2 hSt.2.1 rfl) upN_self hSI (by omega)
      refine ⟨_, _, r1, ?_, ?_, REL_of (STAT_mono (by omega) (STAT_M hSt (M1 := M1) (fun f hf => (b5 f b hf).trans (upN_ne (Or.inl hf))) (by rw [b4]) (fun a _ => by rw [b4]))) b6 (by omega)⟩
      · refine bnd (w1107 hSt.1 hSt.2.2.1) ?_
        refine bnd (w8rcv hSt.1) ?_
        refine bnd e1 ?_
        refine ifN (by intro e; cases e) ?_
        exact b1
      · refine bnd e50 ?_
        refine ifN (by decide) ?_
        refine bnd e2 ?_
        refine ifN e3 ?_
        refine bnd mrcv ?_
        refine bnd (a := (SV b M1 v1, r1)) ?_ rfl
        unfold fX12_runs
        refine bnd mpI ?_
        exact b2
  · rw [if_neg hx2]
    refine ⟨_, _, -1002, rfl, ?_, hm⟩
    refine bnd (isIn_0 (Or.inr (i32_lt hx2))) ?_
    exact if_pos rfl
/-- the state that is kept aside comes back -/
theorem KP3 (hSt : STAT z b T n t q S0 M0) (hfr : FRM z S0 S1) (hV : SAV z b T n t q S1 M0) : STAT z b T n t q S1 (KP b 3 M0 v) :=
  STAT_M (STAT_frm hfr hV (Or.inr rfl) hSt.2.1 hSt.2.2.2.1 (fun _ _ => rfl) ⟨rfl, rfl⟩ hSt) (fun _ _ => rfl) rfl (fun a ha => va_up_ne _ _ ha)
set_option maxRecDepth 100000 in
theorem x_foresee (h : REL z b q S M) (hq31 : q + 7200 < 2 ^ 31) : ∃ S1 M1 r, fX11_foresee (Yc z) S (some z) = some (S1, r) ∧ fX12_foresee (Ym b) M (some b) = some (M1, r) ∧ REL z b q S1 M1 := by
  obtain ⟨T, n, t, S0, M0, v, c, u, l, p, tr, rfl, rfl, hSt, hSI, hq⟩ := REL_to h
  have hC := hSt.1
  have hX := hSt.2.1
  have hn := CX_n hC
  unfold fX11_foresee fX12_foresee
  rcases root_cases (v := v) (c := c) (u := u) (l := l) (p := p) (tr := tr) hSt with ⟨h0, e1, e2⟩ | ⟨h0, e1, e2, e3⟩
  · refine ⟨_, _, -1004, ?_, ?_, h⟩
    · refine bnd (w1107 hSt.1 hSt.2.2.1) ?_
      refine bnd (w8rcv hSt.1) ?_
      refine bnd e1 ?_
      exact if_pos rfl
    · refine bnd e2 ?_
      exact if_pos rfl
  · obtain ⟨S1, t1, hfr, hsn, -, hV⟩ := x_take (o := 42) (Or.inr rfl) hSt hSI
    have hSt1 := KP3 (v := v) hSt hfr (hV rfl)
    obtain ⟨v1, c1, u1, l1, p1, tr1, r1, a1, a2, a3, a4⟩ := j_perform hSt1.1 hSt1.2.1 h0 hSI BU_inf (by decide) (by omega)
    obtain ⟨S2, tr2, g1, hSt2, hSI2, ht⟩ := x_give (v := v1) (c := c1) (u := u1) (l := l1) (p := p1) (tr := tr1) (o := 42) (Or.inr rfl) hSt1 hsn hSI
    have hk3 : ∀ k, k < 355 → (KP b 3 M0 v).2.2.1 (b + 3) k = v k := fun k hk => by
      show va_up M0.2.2.1 (b + 3) _ (b + 3) k = _
      rw [va_up_self, if_pos hk]
    have hv : ∀ k, k < 355 → (fun k => if k < 355 then (KP b 3 M0 v).2.2.1 (b + 3) k else v1 k) k = v k := fun k hk => by
      show (if k < 355 then _ else _) = _
      rw [if_pos hk, hk3 k hk]
    have hc : SC z T n S2 (fun k => if k < 355 then (KP b 3 M0 v).2.2.1 (b + 3) k else v1 k) c u l p tr2 = SC z T n S2 v c u l p tr2 := SC_congr hn (fun k hk => hv k (by unfold relV at hk; omega))
    refine ⟨_, _, r1, ?_, ?_, REL_of hSt2 (SI_ext (v1 := fun k => if k < 355 then (KP b 3 M0 v).2.2.1 (b + 3) k else v1 k) hC.2.1 (fun k hk _ => hv k hk) hSI2) (by omega)⟩
    · rw [hc]
      refine bnd (w1107 hSt.1 hSt.2.2.1) ?_
      refine bnd (w8rcv hSt.1) ?_
      refine bnd e1 ?_
      refine ifN (by intro e; cases e) ?_
      refine bnd (w1106 hC) ?_
      refine bnd (w1107 hC hSt.2.2.1) ?_
      refine bnd (w1103 hC) ?_
      refine bnd (w1104 hC) ?_
      refine bnd (crcv (o := 42) (by decide) rfl) ?_
      refine bnd t1 ?_
      refine bnd (w1102 hSt1.1) ?_
      refine bnd (crcv (o := 5) (by decide) rfl) ?_
      refine bnd a1 ?_
      refine bnd (w1106 hSt1.1) ?_
      refine bnd (w1107 hSt1.1 hSt1.2.2.1) ?_
      refine bnd (w1103 hSt1.1) ?_
      refine bnd (w1104 hSt1.1) ?_
      refine bnd (crcv (o := 42) (by decide) rfl) ?_
      refine bnd g1 ?_
      rfl
    · refine bnd e2 ?_
      refine ifN e3 ?_
      refine bnd (mR1200 (SV_fix hX.1)) ?_
      refine bnd (mR1202 (SV_fix hSt.2.1.1)) ?_
      refine bnd (m_keep (y := 3) (Or.inr rfl)) ?_
      refine bnd mrcv ?_
      refine bnd a2 ?_
      refine bnd (mR1202 (SV_fix hSt1.2.1.1)) ?_
      refine bnd (mR1200 (SV_fix hSt1.2.1.1)) ?_
      refine bnd (m_back (Or.inr rfl)) ?_
      rfl
set_option maxRecDepth 100000 in
theorem x_ticksToGo (h : REL z b q S M) (hq31 : q + 360000 < 2 ^ 31) : ∃ S1 M1 r, fX11_ticksToGo (Yc z) S (some z) = some (S1, r) ∧ fX12_ticksToGo (Ym b) M (some b) = some (M1, r) ∧ REL z b q S1 M1 := by
  obtain ⟨T, n, t, S0, M0, v, c, u, l, p, tr, rfl, rfl, hSt, hSI, hq⟩ := REL_to h
  have hC := hSt.1
  have hX := hSt.2.1
  have hn := CX_n hC
  unfold fX11_ticksToGo fX12_ticksToGo
  rcases root_cases (v := v) (c := c) (u := u) (l := l) (p := p) (tr := tr) hSt with ⟨h0, e1, e2⟩ | ⟨h0, e1, e2, e3⟩
  · refine ⟨_, _, -1004, ?_, ?_, h⟩
    · refine bnd (w1107 hSt.1 hSt.2.2.1) ?_
      refine bnd (w8rcv hSt.1) ?_
      refine bnd e1 ?_
      exact if_pos rfl
    · refine bnd e2 ?_
      exact if_pos rfl
  · obtain ⟨S1, t1, hfr, hsn, -, hV⟩ := x_take (o := 42) (Or.inr rfl) hSt hSI
    have hSt1 := KP3 (v := v) hSt hfr (hV rfl)
    obtain ⟨M1, v1, c1, u1, l1, p1, tr1, r1, i1, b1, b2, b3, b4, b5, b6, b7⟩ := j_iter (b := b) (K := 50) (S0 := S1) (F := fun f S r i => fX11_ticksToGo_40 (Yc z) f S (some z) (some (nda z T 0)) r i) (G := fun S r i => fX11_ticksToGo_68 (Yc z) S (some z) r i) hSt1.1 h0 (Nat.le_refl _) (fun f S r i hi hi2 => by
          show fX11_ticksToGo_40 (Yc z) (f + 1) S (some z) (some (nda z T 0)) r (nI i) = fX11_ticksToGo_68 (Yc z) S (some z) r (nI i)
          rw [fX11_ticksToGo_40]
          by_cases hKi : 50 ≤ i
          · exact if_pos (show (50 : Int32) ≤ nI i from nI_le (a := 50) hKi (by omega))
          · refine ifN (show ¬ (50 : Int32) ≤ nI i from nI_ge (b := 50) (by omega) (by omega)) ?_
            exact if_neg (hi.resolve_left hKi)) (fun f v c u l p tr i S2 r1 hi hp => by
          show fX11_ticksToGo_40 (Yc z) (f + 1) _ (some z) (some (nda z T 0)) 1 (nI i) = fX11_ticksToGo_40 (Yc z) f S2 (some z) (some (nda z T 0)) r1 (nI (i + 1))
          rw [fX11_ticksToGo_40]
          refine ifN (show ¬ (50 : Int32) ≤ nI i from nI_ge (b := 50) (by omega) (by omega)) ?_
          refine ifP rfl ?_
          refine bnd (w1102 hSt1.1) ?_
          refine bnd (crcv (o := 5) (by decide) rfl) ?_
          refine bnd hp ?_
          rw [nI_1]) 50 0 FU FU (upN (KP b 3 M0 v).1 1238 b (nI 0), (KP b 3 M0 v).2) v c u l p tr 1 (by omega) (by decide) (by decide) (MX_2 hSt1.2.1 rfl) upN_self hSI (by omega)
    have hSt1' : STAT z b T n t q S1 M1 := STAT_M hSt1 (fun f hf => (b5 f b hf).trans (upN_ne (Or.inl hf))) (by rw [b4]) (fun a _ => by rw [b4])
    obtain ⟨S2, tr2, g1, hSt2, hSI2, ht⟩ := x_give (v := v1) (c := c1) (u := u1) (l := l1) (p := p1) (tr := tr1) (o := 42) (Or.inr rfl) hSt1' hsn hSI
    have hk3 : ∀ k, k < 355 → M1.2.2.1 (b + 3) k = v k := fun k hk => by
      rw [b4]
      show va_up M0.2.2.1 (b + 3) _ (b + 3) k = _
      rw [va_up_self, if_pos hk]
    have hv : ∀ k, k < 355 → (fun k => if k < 355 then M1.2.2.1 (b + 3) k else v1 k) k = v k := fun k hk => by
      show (if k < 355 then _ else _) = _
      rw [if_pos hk, hk3 k hk]
    have hc : SC z T n S2 (fun k => if k < 355 then M1.2.2.1 (b + 3) k else v1 k) c u l p tr2 = SC z T n S2 v c u l p tr2 := SC_congr hn (fun k hk => hv k (by unfold relV at hk; omega))
    refine ⟨_, _, if r1 = 1 then 0 else nI i1, ?_, ?_, REL_of hSt2 (SI_ext (v1 := fun k => if k < 355 then M1.2.2.1 (b + 3) k else v1 k) hC.2.1 (fun k hk _ => hv k hk) hSI2) (by omega)⟩
    · rw [hc]
      refine bnd (w1107 hSt.1 hSt.2.2.1) ?_
      refine bnd (w8rcv hSt.1) ?_
      refine bnd e1 ?_
      refine ifN (by intro e; cases e) ?_
      refine bnd (w1106 hC) ?_
      refine bnd (w1107 hC hSt.2.2.1) ?_
      refine bnd (w1103 hC) ?_
      refine bnd (w1104 hC) ?_
      refine bnd (crcv (o := 42) (by decide) rfl) ?_
      refine bnd t1 ?_
      refine Eq.trans b1 ?_
      show fX11_ticksToGo_68 (Yc z) (SC z T n S1 v1 c1 u1 l1 p1 tr1) (some z) r1 (nI i1) = _
      unfold fX11_ticksToGo_68
      refine bnd (w1106 hSt1.1) ?_
      refine bnd (w1107 hSt1.1 hSt1.2.2.1) ?_
      refine bnd (w1103 hSt1.1) ?_
      refine bnd (w1104 hSt1.1) ?_
      refine bnd (crcv (o := 42) (by decide) rfl) ?_
      refine bnd g1 ?_
      split <;> rfl
    · refine bnd e2 ?_
      refine ifN e3 ?_
      refine bnd (mR1200 (SV_fix hX.1)) ?_
      refine bnd (mR1202 (SV_fix hSt.2.1.1)) ?_
      refine bnd (m_keep (y := 3) (Or.inr rfl)) ?_
      refine bnd mrcv ?_
      refine bnd (a := (SV b M1 v1, r1)) ?_ ?_
      · unfold fX12_runs
        refine bnd mpI ?_
        exact b2
      refine bnd (mR1202 (SV_fix hSt1'.2.1.1)) ?_
      refine bnd (mR1200 (SV_fix hSt1'.2.1.1)) ?_
      refine bnd (m_back (Or.inr rfl)) ?_
      show (if r1 = 1 then _ else _) = _
      by_cases hr : r1 = 1
      · rw [if_pos hr, if_pos hr]
      · rw [if_neg hr, if_neg hr]
        refine bnd (a := nI i1) ?_ rfl
        rw [mIo]
        exact congrArg some b3
end RUNS
