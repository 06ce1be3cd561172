/-! append, tick, run, abort -/
/-- the parts that a tree's use leaves as they are -/
def STAT (z b T n : Nat) (t : TT) (q : Nat) (S0 M0 : HS) : Prop := CX z T n t S0 ∧ MX b n t M0 ∧ RUNF z T n S0 ∧ M0.1 1208 b = nI n ∧ TXT z b S0 M0 ∧ OUTX z b S0 M0 ∧ SAV z b T n t q S0 M0 ∧ (txtL t n).length ≤ 70 ∧ STA b M0
theorem upN_ne {α : Type} {F : Nat → Nat → α} {f a g a1 : Nat} {x : α} (h : g ≠ f ∨ a1 ≠ a) : upN F f a x g a1 = F g a1 := if_neg (fun q => by rcases h with h | h; exact h q.1; exact h q.2)
theorem upN_self {α : Type} {F : Nat → Nat → α} {f a : Nat} {x : α} : upN F f a x f a = x := if_pos ⟨rfl, rfl⟩
section CALLU
variable {z b q T n i j k w f a d : Nat} {S0 S1 M0 M1 S M : HS} {v v1 c l : Nat → Int32} {u : Nat → Option Nat} {p : Option Nat} {tr tr1 : TR} {t : TT} {x y r : Int32} {I : Nat → Nat → Int32} {AI : Nat → Nat → Int32}
theorem SC1_wI (h8 : a ≠ z + 8) (h : ∀ i, i < n → a ≠ lfa z T i) : upN (SC1 z T n I v c l k) f a x = SC1 z T n (upN I f a x) v c l k := by
  funext g a1
  unfold upN SC1
  cases e : lx z T n a1 with
  | none =>
    show (if g = f ∧ a1 = a then x else if a1 = z + 8 then lvG I v k g a1 else I g a1) = (if a1 = z + 8 then lvG (fun g b => if g = f ∧ b = a then x else I g b) v k g a1 else if g = f ∧ a1 = a then x else I g a1)
    by_cases h1 : a1 = z + 8
    · subst h1
      rw [if_neg (fun q => h8 q.2.symm), if_pos rfl, if_pos rfl]
      unfold lvG
      cases plG g with
      | none =>
        show (if g = 208 then nI k else I g (z + 8)) = (if g = 208 then nI k else (if g = f ∧ z + 8 = a then x else I g (z + 8)))
        rw [if_neg (c := g = f ∧ z + 8 = a) (fun q => h8 q.2.symm)]
      | some w => rfl
    · rw [if_neg h1, if_neg h1]
  | some i =>
    have hi := lx_some e
    have hne : a1 ≠ a := fun q => h i hi.2 (q.symm.trans hi.1)
    show (if g = f ∧ a1 = a then x else lvI I v c l g a1 i) = lvI (fun g b => if g = f ∧ b = a then x else I g b) v c l g a1 i
    rw [if_neg (fun q => hne q.2)]
    unfold lvI
    cases plF g with
    | none =>
      show (if g = 301 then _ else if g = 303 then _ else _) = (if g = 301 then _ else if g = 303 then _ else if g = f ∧ a1 = a then x else I g a1)
      rw [if_neg (c := g = f ∧ a1 = a) (fun q => hne q.2)]
    | some w => rfl
theorem SC3_wA (h : a ≠ z + 7 ∧ a ≠ z + 9 ∧ a ≠ z + 10) : upN (SC3 z AI v tr) a k x = SC3 z (upN AI a k x) v tr := by
  funext a1 j
  unfold upN SC3
  by_cases h1 : a1 = a
  · subst h1
    rw [if_neg (c := a1 = z + 7 ∧ j < 8) (fun q => h.1 q.1), if_neg (c := a1 = z + 9) h.2.1, if_neg (c := a1 = z + 10) h.2.2, if_neg (c := a1 = z + 7 ∧ j < 8) (fun q => h.1 q.1), if_neg (c := a1 = z + 9) h.2.1, if_neg (c := a1 = z + 10) h.2.2]
  · rw [if_neg (fun q => h1 q.1)]
    show _ = (if a1 = z + 7 ∧ j < 8 then v (264 + j) else if a1 = z + 9 then tr.2.1 j else if a1 = z + 10 then tr.2.2 j else (if a1 = a ∧ j = k then x else AI a1 j))
    rw [if_neg (c := a1 = a ∧ j = k) (fun q => h1 q.1)]
/-- texts alone differ -/
def SameC (z : Nat) (S S1 : HS) : Prop := (∀ f a, f ≠ 701 → S1.1 f a = S.1 f a) ∧ S1.2.1 = S.2.1 ∧ S1.2.2.2 = S.2.2.2 ∧ ∀ a, a ≠ z + 2 → a ≠ z + 4 → S1.2.2.1 a = S.2.2.1 a
def SameM (b : Nat) (M M1 : HS) : Prop := (∀ f a, f ≠ 1206 → f ≠ 1207 → f ≠ 1238 → M1.1 f a = M.1 f a) ∧ M1.2.1 = M.2.1 ∧ ∀ a, a ≠ b + 1 → a ≠ b + 3 → a ≠ b + 4 → a ≠ b + 5 → M1.2.2.1 a = M.2.2.1 a
theorem TreeC_same (h : SameC z S S1) (hT : TreeC z T n t S) : TreeC z T n t S1 := by
  intro i hi
  have h1 := h.1
  have h2 := h.2.1
  rw [h2]
  simp (disch := decide) only [h1]
  exact hT i hi
theorem CX_same (h : SameC z S S1) (hC : CX z T n t S) : CX z T n t S1 :=
  ⟨hC.1, hC.2.1, FixC_congr (fun f a _ => by rw [h.2.1]) (fun a => h.1 400 a (by decide)) h.2.2.1 hC.2.2.1, TreeC_same h hC.2.2.2⟩
theorem MX_same (h : SameM b M M1) (hX : MX b n t M) : MX b n t M1 := by
  refine ⟨?_, fun c hc i hi => ?_, hX.2.2⟩
  · unfold FixM
    rw [h.2.1]
    exact hX.1
  · rw [h.2.2 _ (by omega) (by omega) (by omega) (by omega)]
    exact hX.2.1 c hc i hi
theorem SNAP_same {c1 l1 : Nat → Int32} {u1 : Nat → Option Nat} {p1 : Option Nat} {lb gb lg ta ra : Nat} (h : SameC z S S1) (hg : gb ≠ 2 ∧ gb ≠ 4 ∧ ta ≠ 2 ∧ ta ≠ 4 ∧ ra ≠ 2 ∧ ra ≠ 4) (hS : SNAP z n lb gb lg ta ra S v c1 u1 l1 p1 tr1) : SNAP z n lb gb lg ta ra S1 v c1 u1 l1 p1 tr1 := by
  obtain ⟨a1, a2, a3, a4, a5, a6⟩ := hS
  refine ⟨fun i hi => ⟨fun f w hf => ?_, ?_, ?_, ?_⟩, fun f w hf => ?_, ?_, ?_, fun k hk => ?_, fun k hk => ?_⟩
  · rw [h.1 _ _ (by rintro rfl; cases hf)]; exact (a1 i hi).1 f w hf
  · rw [h.1 _ _ (by decide)]; exact (a1 i hi).2.1
  · rw [h.1 _ _ (by decide)]; exact (a1 i hi).2.2.1
  · rw [h.2.1]; exact (a1 i hi).2.2.2
  · rw [h.1 _ _ (by rintro rfl; cases hf)]; exact a2 f w hf
  · rw [h.1 _ _ (by decide)]; exact a3
  · rw [h.2.1]; exact a4
  · rw [h.2.2.2 _ (by omega) (by omega)]; exact a5 k hk
  · rw [h.2.2.2 _ (by omega) (by omega), h.2.2.2 _ (by omega) (by omega)]; exact a6 k hk
theorem SAV_same (h : SameC z S S1) (hM : SameM b M M1) (hV : SAV z b T n t q S M) : SAV z b T n t q S1 M1 := by
  rcases hV with ⟨h1, h2⟩ | ⟨h1, h2, c1, u1, l1, p1, tr1, h3, h4, h5⟩
  · exact Or.inl ⟨by rw [h.1 _ _ (by decide)]; exact h1, by rw [hM.1 _ _ (by decide) (by decide) (by decide)]; exact h2⟩
  · refine Or.inr ⟨by rw [h.1 _ _ (by decide)]; exact h1, by rw [hM.1 _ _ (by decide) (by decide) (by decide)]; exact h2, c1, u1, l1, p1, tr1, ?_, ?_, h5⟩
    · rw [hM.2.2 _ (by omega) (by omega) (by omega) (by omega)]
      exact SNAP_same h (by omega) h3
    · rw [hM.2.2 _ (by omega) (by omega) (by omega) (by omega)]
      exact h4
theorem STAT_same (h : SameC z S S1) (hM : SameM b M M1) (hT : TXT z b S1 M1) (hO : OUTX z b S1 M1) (hS : STAT z b T n t q S M) : STAT z b T n t q S1 M1 := by
  obtain ⟨h1, h2, h3, h4, h5, h6, h7⟩ := hS
  refine ⟨CX_same h h1, MX_same hM h2, ⟨by rw [h.2.1]; exact h3.1, by rw [h.2.1]; exact h3.2.1, by rw [h.1 _ _ (by decide)]; exact h3.2.2⟩, by rw [hM.1 _ _ (by decide) (by decide) (by decide)]; exact h4, hT, hO, SAV_same h hM h7.1, h7.2.1, STA_same (fun o ho => hM.2.2 _ (by omega) (by omega) (by omega) (by omega)) h7.2.2⟩
theorem ix_big (x : Int32) (hn : n < 2 ^ 31) : (x < 0) ∨ (¬ x < 0 ∧ nI n ≤ x) ∨ ∃ i, i < n ∧ x = nI i := by
  rcases pk_ix x hn with h | h | h
  · exact Or.inl h
  · by_cases h0 : x < 0
    · exact Or.inl h0
    · exact Or.inr (Or.inl ⟨h0, h⟩)
  · exact Or.inr (Or.inr h)
theorem nar_code (hd : d ≤ 127) : vp_nar .char (((nI d).toUInt32 % 65536).toInt32) = nI d := by
  have : ∀ d, d < 128 → vp_nar .char (((nI d).toUInt32 % 65536).toInt32) = nI d := by decide +kernel
  exact this d (by omega)
/-- a character behind a text of the class -/
theorem k_add {o : Nat} (ho : o = 1 ∨ o = 3) (hC : CX z T n t S0) (hk : k < 70) (h1 : S0.1 701 (z + o) = nI k) {y : Int32} (hy : vp_nar .char x = y) : fX7_add (Yc z) (SC z T n S0 v c u l p tr) (some (z + o)) x = some (SC z T n (upN S0.1 701 (z + o) (nI (k + 1)), S0.2.1, upN S0.2.2.1 (z + (o + 1)) k y, S0.2.2.2) v c u l p tr) := by
  have ho7 : o < 269 ∧ kdC o = 7 ∧ o + 1 < 269 ∧ kdC (o + 1) = 13 ∧ lnC (o + 1) = 70 := by rcases ho with rfl | rfl <;> decide
  have e700 : gR (Yc z) 7 700 (some (z + o)) (SC z T n S0 v c u l p tr) = some (some (z + (o + 1))) := by
    refine gR_of ho7.1 ho7.2.1 ?_
    rw [sR hC (by decide) (by decide)]
    rcases ho with rfl | rfl
    · exact hC.2.2.1.2.2.2.2.2.2.2.1
    · exact hC.2.2.1.2.2.2.2.2.2.2.2.1
  have e701 : gI (Yc z) 7 701 (some (z + o)) (SC z T n S0 v c u l p tr) = some (nI k) := gI_of ho7.1 ho7.2.1 (by rw [sI hC (by omega)]; exact h1)
  unfold fX7_add
  refine bnd e701 ?_
  refine bnd e700 ?_
  refine bnd (caL ho7.2.2.1 ho7.2.2.2.1) ?_
  rw [ho7.2.2.2.2]
  refine ifN (nI_ge (by omega) (by omega)) ?_
  refine bnd e700 ?_
  refine bnd e701 ?_
  rw [hy]
  refine bnd (cwA ho7.2.2.1 ho7.2.2.2.1 (by rw [ho7.2.2.2.2]; exact hk)) ?_
  refine bnd (gI_of ho7.1 ho7.2.1 (x := nI k) ?_) ?_
  · show (SC z T n S0 v c u l p tr).1 701 (z + o) = nI k
    rw [sI hC (by omega)]; exact h1
  rw [nI_1]
  refine bnd (cpI ho7.1 ho7.2.1) ?_
  show some (upN (SC1 z T n S0.1 v c l tr.1) 701 (z + o) (nI (k + 1)), SC2 z T n S0.2.1 u p, upN (SC3 z S0.2.2.1 v tr) (z + (o + 1)) k y, S0.2.2.2) = _
  rw [SC1_wI (by omega) (fun i _ => by have := lf_ge (z := z) (i := i) hC.1; omega), SC3_wA (by omega)]
  rfl
theorem same_add {o : Nat} (ho : o = 1 ∨ o = 3) : SameC z S (upN S.1 701 (z + o) x, S.2.1, upN S.2.2.1 (z + (o + 1)) k y, S.2.2.2) :=
  ⟨fun f a hf => if_neg (fun q => hf q.1), rfl, rfl, fun a h2 h4 => by
    funext j
    exact if_neg (fun q => by omega)⟩
theorem x_app (hd : d ≤ 127) {K : Nat} (hK : K ≤ 70) : ∀ (m i f1 f2 k : Nat) (S0 M0 : HS), i + m = K → k + m ≤ 70 → m < f1 → m < f2 → STAT z b T n t q S0 M0 → S0.1 701 (z + 1) = nI k → M0.1 1206 b = nI k → (∀ j, j < k → ∃ d, d ≤ 127 ∧ S0.2.2.1 (z + 2) j = nI d ∧ M0.2.2.1 (b + 4) j = nI d) → ∃ S1 M1, fX11_append_45 (Yc z) f1 (SC z T n S0 v c u l p tr) (some z) (nI d) (nI K) (nI i) = some (SC z T n S1 v c u l p tr, nI (k + m)) ∧ fX12_append_41 (Ym b) f2 (SV b M0 v) (some b) (nI d) (nI K) (nI i) = some (SV b M1 v, nI (k + m)) ∧ STAT z b T n t q S1 M1
  | _, _, 0, _, _, _, _, _, _, h, _, _, _, _, _ => absurd h (Nat.not_lt_zero _)
  | _, _, _, 0, _, _, _, _, _, _, h, _, _, _, _ => absurd h (Nat.not_lt_zero _)
  | 0, i, f1 + 1, f2 + 1, k, S0, M0, hi, hk, _, _, hS, h1, h2, h3 => by
    refine ⟨S0, M0, ?_, ?_, hS⟩
    · rw [fX11_append_45]
      refine ifP (nI_le (by omega) (by omega)) ?_
      refine bnd (cR1100_0 (fixSC hS.1)) ?_
      refine bnd (w701 hS.1) ?_
      rw [h1]
      rfl
    · rw [fX12_append_41]
      refine ifP (nI_le (by omega) (by omega)) ?_
      refine bnd mIo ?_
      show some (SV b M0 v, M0.1 1206 b) = _
      rw [h2]
      rfl
  | m + 1, i, f1 + 1, f2 + 1, k, S0, M0, hi, hk, hf1, hf2, hS, h1, h2, h3 => by
    have hsC : SameC z S0 (upN S0.1 701 (z + 1) (nI (k + 1)), S0.2.1, upN S0.2.2.1 (z + 2) k (nI d), S0.2.2.2) := same_add (o := 1) (Or.inl rfl)
    have hsM : SameM b M0 (upN M0.1 1206 b (nI (k + 1)), M0.2.1, upN M0.2.2.1 (b + 4) k (nI d), M0.2.2.2) :=
      ⟨fun f a h6 _ _ => if_neg (fun q => h6 q.1), rfl, fun a h1 h3 h4 h5 => by funext j; exact if_neg (fun q => h4 q.1)⟩
    have hch : ∀ j, j < k + 1 → ∃ e, e ≤ 127 ∧ (upN S0.2.2.1 (z + 2) k (nI d)) (z + 2) j = nI e ∧ (upN M0.2.2.1 (b + 4) k (nI d)) (b + 4) j = nI e := fun j hj => by
      by_cases e : j = k
      · subst e
        exact ⟨d, hd, if_pos ⟨rfl, rfl⟩, if_pos ⟨rfl, rfl⟩⟩
      · obtain ⟨d1, g1, g2, g3⟩ := h3 j (by omega)
        exact ⟨d1, g1, (if_neg (fun q => e q.2)).trans g2, (if_neg (fun q => e q.2)).trans g3⟩
    have hS1 : STAT z b T n t q (upN S0.1 701 (z + 1) (nI (k + 1)), S0.2.1, upN S0.2.2.1 (z + 2) k (nI d), S0.2.2.2) (upN M0.1 1206 b (nI (k + 1)), M0.2.1, upN M0.2.2.1 (b + 4) k (nI d), M0.2.2.2) := by
      refine STAT_same hsC hsM ⟨k + 1, by omega, if_pos ⟨rfl, rfl⟩, if_pos ⟨rfl, rfl⟩, hch⟩ ?_ hS
      obtain ⟨k2, g1, g2, g3, g4⟩ := hS.2.2.2.2.2.1
      refine ⟨k2, g1, ?_, ?_, fun j hj => ?_⟩
      · show upN S0.1 701 (z + 1) (nI (k + 1)) 701 (z + 3) = _
        rw [upN_ne (Or.inr (by omega))]
        exact g2
      · show upN M0.1 1206 b (nI (k + 1)) 1207 b = _
        rw [upN_ne (Or.inl (by decide))]
        exact g3
      · obtain ⟨d1, e1, e2, e3⟩ := g4 j hj
        refine ⟨d1, e1, ?_, ?_⟩
        · show upN S0.2.2.1 (z + 2) k (nI d) (z + 4) j = _
          rw [upN_ne (Or.inl (by omega))]
          exact e2
        · show upN M0.2.2.1 (b + 4) k (nI d) (b + 5) j = _
          rw [upN_ne (Or.inl (by omega))]
          exact e3
    obtain ⟨S2, M2, ih1, ih2, ih3⟩ := x_app hd hK m (i + 1) f1 f2 (k + 1) _ _ (by omega) (by omega) (by omega) (by omega) hS1 (if_pos ⟨rfl, rfl⟩) (if_pos ⟨rfl, rfl⟩) hch
    rw [show k + 1 + m = k + (m + 1) by omega] at ih1 ih2
    refine ⟨S2, M2, ?_, ?_, ih3⟩
    · rw [fX11_append_45]
      refine ifN (nI_ge (by omega) (by omega)) ?_
      refine bnd (cR1100_0 (fixSC hS.1)) ?_
      refine bnd (crcv (o := 1) (by decide) rfl) ?_
      refine bnd (k_add (o := 1) (Or.inl rfl) hS.1 (by omega) h1 (nar_code hd)) ?_
      rw [nI_1]
      exact ih1
    · rw [fX12_append_41]
      refine ifN (nI_ge (by omega) (by omega)) ?_
      refine bnd (mR1204 (SV_fix hS.2.1.1)) ?_
      refine bnd (a := nI k) ?_ ?_
      · rw [mIo]; exact congrArg some h2
      refine bnd (mpA (by omega) (show k < 70 by omega)) ?_
      refine bnd (a := nI k) ?_ ?_
      · rw [mIo]; exact congrArg some h2
      rw [nI_1]
      refine bnd mpI ?_
      rw [nI_1]
      have eS : (upN (SV b M0 v).1 1206 b (nI (k + 1)), (SV b M0 v).2.1, upN (SV b M0 v).2.2.1 (b + 4) k (nI d), (SV b M0 v).2.2.2) = SV b (upN M0.1 1206 b (nI (k + 1)), M0.2.1, upN M0.2.2.1 (b + 4) k (nI d), M0.2.2.2) v := by
        show (upN M0.1 1206 b (nI (k + 1)), M0.2.1, upN (va_up M0.2.2.1 (b + 1) v) (b + 4) k (nI d), M0.2.2.2) = (upN M0.1 1206 b (nI (k + 1)), M0.2.1, va_up (upN M0.2.2.1 (b + 4) k (nI d)) (b + 1) v, M0.2.2.2)
        have e : upN (va_up M0.2.2.1 (b + 1) v) (b + 4) k (nI d) = va_up (upN M0.2.2.1 (b + 4) k (nI d)) (b + 1) v := by
          funext a j
          unfold upN va_up
          by_cases ha : a = b + 1
          · subst ha
            rw [if_pos rfl, if_pos rfl, if_neg (by omega)]
          · rw [if_neg ha, if_neg ha]
        rw [e]
      rw [← eS] at ih2
      exact ih2
theorem REL_of {z b q T n : Nat} {t : TT} {S0 M0 : HS} {v c l : Nat → Int32} {u : Nat → Option Nat} {p : Option Nat} {tr : TR} (h : STAT z b T n t q S0 M0) (hS : SI z T n t v c u l p tr) (hq : tr.1 ≤ q) : REL z b q (SC z T n S0 v c u l p tr) (SV b M0 v) :=
  ⟨T, n, t, S0, M0, v, c, u, l, p, tr, rfl, rfl, h.1, h.2.1, hS, hq, h.2.2.1, h.2.2.2.1, h.2.2.2.2.1, h.2.2.2.2.2.1, h.2.2.2.2.2.2⟩
theorem REL_to (h : REL z b q S M) : ∃ T n t S0 M0 v c u l p tr, S = SC z T n S0 v c u l p tr ∧ M = SV b M0 v ∧ STAT z b T n t q S0 M0 ∧ SI z T n t v c u l p tr ∧ tr.1 ≤ q := by
  obtain ⟨T, n, t, S0, M0, v, c, u, l, p, tr, h1, h2, h3, h4, h5, h6, h7, h8, h9, h10, h11⟩ := h
  exact ⟨T, n, t, S0, M0, v, c, u, l, p, tr, h1, h2, ⟨h3, h4, h7, h8, h9, h10, h11⟩, h5, h6⟩
theorem x_append (h : REL z b q S M) : ∃ S1 M1 r, fX11_append (Yc z) S (some z) x y = some (S1, r) ∧ fX12_append (Ym b) M (some b) x y = some (M1, r) ∧ REL z b q S1 M1 := by
  obtain ⟨T, n, t, S0, M0, v, c, u, l, p, tr, rfl, rfl, hSt, hSI, hq⟩ := REL_to h
  obtain ⟨k, hk, hk1, hk2, hk3⟩ := hSt.2.2.2.2.1
  unfold fX11_append fX12_append
  rcases ix_big (n := 128) x (by decide) with hx | ⟨hx, hx2⟩ | ⟨d, hd, rfl⟩
  · refine ⟨_, _, -1002, if_pos hx, ?_, h⟩
    refine bnd (isIn_0 (Or.inl hx)) ?_
    exact if_pos rfl
  · have hx3 : 127 < x := nI_m1lt (n := 128) (by omega) hx2
    refine ⟨_, _, -1002, ?_, ?_, h⟩
    · refine ifN hx ?_
      exact if_pos hx3
    · refine bnd (isIn_0 (Or.inr hx3)) ?_
      exact if_pos rfl
  · rw [if_neg (nI_pos (by omega)), if_neg (show ¬ 127 < nI d from nI_nlt (a := 127) (by omega) (by decide))]
    have e127 : fX12_isIn (Ym b) (SV b M0 v) (nI d) 0 127 = some 1 := isIn_1 (nI_pos (by omega)) (nI_nlt (a := 127) (by omega) (by decide))
    by_cases hy : y < 1
    · refine ⟨_, _, -1002, if_pos hy, ?_, h⟩
      refine bnd e127 ?_
      refine ifN (by decide) ?_
      refine bnd (isIn_0 (Or.inl hy)) ?_
      exact if_pos rfl
    rw [if_neg hy]
    by_cases hy2 : y ≤ 70
    · have hy0 : ¬ y < 0 := fun q => hy (by
        rw [Int32.lt_iff_toInt_lt] at q ⊢
        have e1 : (1 : Int32).toInt = 1 := by decide
        have e0 : (0 : Int32).toInt = 0 := by decide
        omega)
      obtain ⟨K, hK, rfl⟩ := nI_of hy0
      have hK2 : K ≤ 70 := by
        by_cases e : K ≤ 70
        · exact e
        · exact absurd hy2 (nI_ge (a := 70) (by omega) hK)
      have eB : ∀ r, (if nI (k + K) ≤ 70 then fX12_append_41 (Ym b) FU (SV b M0 v) (some b) (nI d) (nI K) 0 else some (SV b M0 v, -1003)) = r → ((fX12_isIn (Ym b) (SV b M0 v) (nI d) 0 127).bind fun v4 => if v4 = 0 then some (SV b M0 v, -1002) else (fX12_isIn (Ym b) (SV b M0 v) (nI K) 1 70).bind fun v14 => if v14 = 0 then some (SV b M0 v, -1002) else (gI (Ym b) 12 1206 (some b) (SV b M0 v)).bind fun v25 => if v25 + nI K ≤ 70 then fX12_append_41 (Ym b) FU (SV b M0 v) (some b) (nI d) (nI K) 0 else some (SV b M0 v, -1003)) = r := by
        intro r h
        refine bnd e127 ?_
        refine ifN (by decide) ?_
        refine bnd (isIn_1 hy (fun q => i32_le hy2 q)) ?_
        refine ifN (by decide) ?_
        refine bnd (a := nI k) ?_ ?_
        · rw [mIo]; exact congrArg some hk2
        rw [nI_add]
        exact h
      have eA : ∀ r, (if nI (k + K) ≤ 70 then fX11_append_45 (Yc z) FU (SC z T n S0 v c u l p tr) (some z) (nI d) (nI K) 0 else some (SC z T n S0 v c u l p tr, -1003)) = r → (if nI K ≤ 70 then (gR (Yc z) 11 1100 (some z) (SC z T n S0 v c u l p tr)).bind fun v26 => (gI (Yc z) 7 701 v26 (SC z T n S0 v c u l p tr)).bind fun v29 => if v29 + nI K ≤ 70 then fX11_append_45 (Yc z) FU (SC z T n S0 v c u l p tr) (some z) (nI d) (nI K) 0 else some (SC z T n S0 v c u l p tr, -1003) else some (SC z T n S0 v c u l p tr, -1002)) = r := by
        intro r h
        refine ifP hy2 ?_
        refine bnd (cR1100_0 (fixSC hSt.1)) ?_
        refine bnd (w701 hSt.1) ?_
        rw [hk1, nI_add]
        exact h
      by_cases hs : k + K ≤ 70
      · obtain ⟨S1, M1, g1, g2, g3⟩ := x_app (v := v) (c := c) (u := u) (l := l) (p := p) (tr := tr) (d := d) (by omega) hK2 K 0 FU FU k S0 M0 (by omega) hs (by unfold FU; omega) (by unfold FU; omega) hSt hk1 hk2 hk3
        refine ⟨_, _, nI (k + K), eA _ ?_, eB _ ?_, REL_of g3 hSI hq⟩
        · refine ifP (nI_le (b := 70) hs (by decide)) ?_
          exact g1
        · refine ifP (nI_le (b := 70) hs (by decide)) ?_
          exact g2
      · exact ⟨_, _, -1003, eA _ (if_neg (nI_ge (a := 70) (by omega) (by omega))), eB _ (if_neg (nI_ge (a := 70) (by omega) (by omega))), h⟩
    · refine ⟨_, _, -1002, if_neg hy2, ?_, h⟩
      refine bnd e127 ?_
      refine ifN (by decide) ?_
      refine bnd (isIn_0 (Or.inr (i32_lt hy2))) ?_
      exact if_pos rfl
/-! a tick -/
theorem BU_nI {m : Nat} (hk : k < 2 ^ 31) : BU m (nI k) (nI k) := Or.inl ⟨k, hk, rfl, rfl⟩
theorem BU_inf : BU 25 1000000 (-1) := Or.inr ⟨1000000, 1, by decide, by decide, by decide, rfl, by decide, by decide, by decide⟩
/-- the root, if there is one -/
theorem root_cases (hSt : STAT z b T n t q S0 M0) : (n = 0 ∧ fX8_nodeAt (Yc z) (SC z T n S0 v c u l p tr) (some (z + T)) 0 = some none ∧ gI (Ym b) 12 1208 (some b) (SV b M0 v) = some 0) ∨ (0 < n ∧ fX8_nodeAt (Yc z) (SC z T n S0 v c u l p tr) (some (z + T)) 0 = some (some (nda z T 0)) ∧ gI (Ym b) 12 1208 (some b) (SV b M0 v) = some (nI n) ∧ ¬ nI n = 0) := by
  have hn := CX_n hSt.1
  by_cases h0 : n = 0
  · subst h0
    exact Or.inl ⟨rfl, at_big hSt.1 hSt.2.2.1 (by decide) (by decide), m1208 hSt.2.2.2.1⟩
  · exact Or.inr ⟨by omega, at_in hSt.1 hSt.2.2.1 (i := 0) (by omega), m1208 hSt.2.2.2.1, nI_ne0 (by omega) (by omega)⟩
theorem STAT_mono {q1 : Nat} (hq : q ≤ q1) (h : STAT z b T n t q S0 M0) : STAT z b T n t q1 S0 M0 := ⟨h.1, h.2.1, h.2.2.1, h.2.2.2.1, h.2.2.2.2.1, h.2.2.2.2.2.1, SAV_mono hq h.2.2.2.2.2.2.1, h.2.2.2.2.2.2.2⟩
theorem x_tick (h : REL z b q S M) (hq31 : q + 7200 < 2 ^ 31) : ∃ S1 M1 r, fX11_tick (Yc z) S (some z) x = some (S1, r) ∧ fX12_tick (Ym b) M (some b) x = some (M1, r) ∧ REL z b (q + 7200) S1 M1 := by
  have hm := REL_mono (q1 := q + 7200) (by omega) h
  obtain ⟨T, n, t, S0, M0, v, c, u, l, p, tr, rfl, rfl, hSt, hSI, hq⟩ := REL_to h
  unfold fX11_tick fX12_tick
  by_cases hx : x < 1
  · refine ⟨_, _, -1002, if_pos hx, ?_, hm⟩
    refine bnd (isIn_0 (Or.inl hx)) ?_
    exact if_pos rfl
  rw [if_neg hx]
  by_cases hx2 : x ≤ 999
  · rw [if_pos hx2]
    have e999 : fX12_isIn (Ym b) (SV b M0 v) x 1 999 = some 1 := isIn_1 hx (fun q => i32_le hx2 q)
    rcases root_cases (v := v) (c := c) (u := u) (l := l) (p := p) (tr := tr) hSt with ⟨h0, e1, e2⟩ | ⟨h0, e1, e2, e3⟩
    · refine ⟨_, _, -1004, ?_, ?_, hm⟩
      · refine bnd (w1107 hSt.1 hSt.2.2.1) ?_
        refine bnd (w8rcv hSt.1) ?_
        refine bnd e1 ?_
        exact if_pos rfl
      · refine bnd e999 ?_
        refine ifN (by decide) ?_
        refine bnd e2 ?_
        exact if_pos rfl
    · have hx0 : ¬ x < 0 := fun q => hx (by
        rw [Int32.lt_iff_toInt_lt] at q ⊢
        have e1 : (1 : Int32).toInt = 1 := by decide
        have e0 : (0 : Int32).toInt = 0 := by decide
        omega)
      obtain ⟨K, hK, rfl⟩ := nI_of hx0
      have hK0 : nI K ≠ 0 := fun e => hx (by rw [e]; decide)
      obtain ⟨v1, c1, u1, l1, p1, tr1, r1, a1, a2, a3, a4⟩ := j_perform hSt.1 hSt.2.1 h0 hSI (BU_nI hK) hK0 (by omega)
      refine ⟨_, _, r1, ?_, ?_, REL_of (STAT_mono (by omega) hSt) a3 (by omega)⟩
      · refine bnd (w1107 hSt.1 hSt.2.2.1) ?_
        refine bnd (w8rcv hSt.1) ?_
        refine bnd e1 ?_
        refine ifN (by intro e; cases e) ?_
        refine bnd (w1102 hSt.1) ?_
        refine bnd (crcv (o := 5) (by decide) rfl) ?_
        refine bnd a1 ?_
        rfl
      · refine bnd e999 ?_
        refine ifN (by decide) ?_
        refine bnd e2 ?_
        refine ifN e3 ?_
        refine bnd mrcv ?_
        refine bnd a2 ?_
        rfl
  · rw [if_neg hx2]
    refine ⟨_, _, -1002, rfl, ?_, hm⟩
    refine bnd (isIn_0 (Or.inr (i32_lt hx2))) ?_
    exact if_pos rfl
theorem x_abort (h : REL z b q S M) (hq31 : q + 7200 < 2 ^ 31) : ∃ S1 M1 r, fX11_abort (Yc z) S (some z) = some (S1, r) ∧ fX12_abort (Ym b) M (some b) = some (M1, r) ∧ REL z b (q + 7200) S1 M1 := by
  have hm := REL_mono (q1 := q + 7200) (by omega) h
  obtain ⟨T, n, t, S0, M0, v, c, u, l, p, tr, rfl, rfl, hSt, hSI, hq⟩ := REL_to h
  unfold fX11_abort fX12_abort
  rcases root_cases (v := v) (c := c) (u := u) (l := l) (p := p) (tr := tr) hSt with ⟨h0, e1, e2⟩ | ⟨h0, e1, e2, e3⟩
  · refine ⟨_, _, -1004, ?_, ?_, hm⟩
    · refine bnd (w1107 hSt.1 hSt.2.2.1) ?_
      refine bnd (w8rcv hSt.1) ?_
      refine bnd e1 ?_
      exact if_pos rfl
    · refine bnd e2 ?_
      exact if_pos rfl
  · have hC := hSt.1
    have hX := hSt.2.1
    have hW := hC.2.1
    have hn := CX_n hC
    have hl := wf_last hW h0
    have g : ∀ k, k ≠ 284 → k ≠ 272 → upd (upd v 284 (-1)) 272 0 k = v k := fun k h1 h2 => by rw [pk_un h2, pk_un h1]
    have hI1 : IT (upd (upd v 284 (-1)) 272 0) tr := IT_lo (fun k hk => g k (by omega) (by omega)) hSI.2.1
    obtain ⟨tr1, es, hI2, hq1⟩ := k_stop (c := c) (u := u) (l := l) (p := p) (j := 0) hC h0 (Nat.zero_le _) hI1 (by omega)
    have eSC := SC_congr (z := z) (T := T) (S0 := S0) (c := c) (u := u) (l := l) (p := p) (tr := tr) (v := v) (v1 := upd (upd v 284 (-1)) 272 0) hn (fun k hk => g k (by unfold relV at hk; omega) (by unfold relV at hk; omega))
    rw [eSC] at es
    have hA := m_aborts (v := upd (upd v 284 (-1)) 272 0) hX h0
    rw [Nat.sub_zero] at hA es hI2
    have hB1 : RB n t (upd (upd v 284 (-1)) 272 0) := fun m hm => ⟨by rw [g _ (by omega) (by omega)]; exact (hSI.1 m hm).1, fun h4 => by rw [g _ (by omega) (by omega)]; exact (hSI.1 m hm).2 h4⟩
    refine ⟨SC z T n S0 (stopV t 0 (t 4 0 + 1) (upd (upd v 284 (-1)) 272 0)) c u l none tr1, SV b M0 (stopV t 0 (t 4 0 + 1) (upd (upd v 284 (-1)) 272 0)), stopV t 0 (t 4 0 + 1) (upd (upd v 284 (-1)) 272 0) 290 - v 290, ?_, ?_, REL_of (STAT_mono (by omega) hSt) ⟨RB_stop hW (by omega) hB1, hI2, fun m hm h1 => RS_stop hW (by omega) m hm (fun h2 => ?_) h1, Or.inl ⟨rfl, ?_⟩⟩ (by omega)⟩
    · refine bnd (w1107 hSt.1 hSt.2.2.1) ?_
      refine bnd (w8rcv hSt.1) ?_
      refine bnd e1 ?_
      refine ifN (by intro e; cases e) ?_
      refine bnd (w1104 hC) ?_
      refine bnd (kG (w := 290) hC rfl) ?_
      refine bnd (w1102 hC) ?_
      refine bnd (crcv (o := 5) (by decide) rfl) ?_
      refine bnd es ?_
      refine bnd (w1104 hC) ?_
      refine bnd (kNp hC) ?_
      refine bnd (w1104 hC) ?_
      refine bnd (kG (w := 290) hC rfl) ?_
      rfl
    · refine bnd e2 ?_
      refine ifN e3 ?_
      refine bnd (mR1200 (SV_fix hX.1)) ?_
      refine bnd (SV_pA (j := 284) (by omega)) ?_
      refine bnd (mR1200 (SV_fix hX.1)) ?_
      refine bnd (SV_pA (j := 272) (by omega)) ?_
      refine bnd mrcv ?_
      refine bnd hA ?_
      rw [g 290 (by omega) (by omega)]
    · rw [g _ (by omega) (by omega)] at h2
      exact rs_congr (g _ (by omega) (by omega)) (g _ (by omega) (by omega)) (g _ (by omega) (by omega)) rfl rfl (fun _ _ => rfl) (hSI.2.2.1 m hm h2)
    · rw [ABC_stop hW 0 (t 4 0 + 1) _ (by omega) 284 (by omega) (by omega) (by omega) (by omega) (by omega) (by omega), pk_un (by omega), pk_us]
end CALLU
