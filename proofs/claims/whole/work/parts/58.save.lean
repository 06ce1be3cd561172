/-! save, restore, run, foresee, ticksToGo -/
/-- the live state of a heap, field by field -/
def LIVF (z T n : Nat) (S : HS) (v c : Nat → Int32) (u : Nat → Option Nat) (l : Nat → Int32) (p : Option Nat) (tr : TR) : Prop :=
  (∀ i, i < n → (∀ f w, plF f = some w → S.1 f (lfa z T i) = v (11 * i + w)) ∧ S.1 301 (lfa z T i) = c i ∧ S.1 303 (lfa z T i) = l i ∧ S.2.1 302 (lfa z T i) = u i) ∧
  (∀ f w, plG f = some w → S.1 f (z + 8) = v w) ∧ S.1 208 (z + 8) = nI tr.1 ∧ S.2.1 200 (z + 8) = p ∧ (∀ k, k < 8 → S.2.2.1 (z + 7) k = v (264 + k)) ∧ S.2.2.1 (z + 9) = tr.2.1 ∧ S.2.2.1 (z + 10) = tr.2.2
def treeI : List Nat := [100, 101, 102, 103, 400, 404, 405, 406, 407]
def treeR : List Nat := [104, 408, 409, 410, 411, 412, 413]
section SAVE
variable {z b q T n i j k w f a d o : Nat} {S0 S1 S2 M0 M1 S M : HS} {v v1 c c1 l l1 : Nat → Int32} {u u1 : Nat → Option Nat} {p p1 : Option Nat} {tr tr1 : TR} {t : TT} {x y r : Int32} {dO eO : Nat → Nat}
theorem SC_LIVF (hT : isT T) : LIVF z T n (SC z T n S0 v c u l p tr) v c u l p tr := by
  refine ⟨fun i hi => ⟨fun f w hf => ?_, ?_, ?_, ?_⟩, fun f w hf => ?_, ?_, ?_, fun k hk => ?_, ?_, ?_⟩
  · show SC1 z T n S0.1 v c l tr.1 f (lfa z T i) = _
    rw [SC1_lf hi]; unfold lvI; rw [hf]
  · show SC1 z T n S0.1 v c l tr.1 301 (lfa z T i) = _
    rw [SC1_lf hi]; rfl
  · show SC1 z T n S0.1 v c l tr.1 303 (lfa z T i) = _
    rw [SC1_lf hi]; rfl
  · show SC2 z T n S0.2.1 u p 302 (lfa z T i) = _
    rw [SC2_lf hi]; rfl
  · show SC1 z T n S0.1 v c l tr.1 f (z + 8) = _
    rw [SC1_lg hT]; unfold lvG; rw [hf]
  · show SC1 z T n S0.1 v c l tr.1 208 (z + 8) = _
    rw [SC1_lg hT]; rfl
  · show SC2 z T n S0.2.1 u p 200 (z + 8) = _
    rw [SC2_lg hT]; rfl
  · show SC3 z S0.2.2.1 v tr (z + 7) k = _
    unfold SC3; rw [if_pos ⟨rfl, hk⟩]
  · funext k
    show SC3 z S0.2.2.1 v tr (z + 9) k = _
    unfold SC3; rw [if_neg (by omega), if_pos rfl]
  · funext k
    show SC3 z S0.2.2.1 v tr (z + 10) k = _
    unfold SC3; rw [if_neg (by omega), if_neg (by omega), if_pos rfl]
theorem SC_self (hT : isT T) (h : LIVF z T n S v c u l p tr) : S = SC z T n S v c u l p tr := by
  obtain ⟨h1, h2, h3, h4, h5, h6, h7⟩ := h
  have e1 : S.1 = SC1 z T n S.1 v c l tr.1 := by
    funext f a
    unfold SC1
    cases e : lx z T n a with
    | none =>
      show S.1 f a = (if a = z + 8 then lvG S.1 v tr.1 f a else S.1 f a)
      by_cases ha : a = z + 8
      · rw [if_pos ha]
        subst ha
        unfold lvG
        cases ef : plG f with
        | none =>
          show _ = (if f = 208 then nI tr.1 else S.1 f (z + 8))
          by_cases hf : f = 208
          · rw [if_pos hf]; subst hf; exact h3
          · rw [if_neg hf]
        | some w => exact h2 f w ef
      · rw [if_neg ha]
    | some i =>
      obtain ⟨rfl, hi⟩ := lx_some e
      show _ = lvI S.1 v c l f (lfa z T i) i
      unfold lvI
      cases ef : plF f with
      | none =>
        show _ = (if f = 301 then c i else if f = 303 then l i else S.1 f (lfa z T i))
        by_cases hf : f = 301
        · rw [if_pos hf]; subst hf; exact (h1 i hi).2.1
        · rw [if_neg hf]
          by_cases hf : f = 303
          · rw [if_pos hf]; subst hf; exact (h1 i hi).2.2.1
          · rw [if_neg hf]
      | some w => exact (h1 i hi).1 f w ef
  have e2 : S.2.1 = SC2 z T n S.2.1 u p := by
    funext f a
    unfold SC2
    cases e : lx z T n a with
    | none =>
      show S.2.1 f a = (if a = z + 8 ∧ f = 200 then p else S.2.1 f a)
      by_cases ha : a = z + 8 ∧ f = 200
      · rw [if_pos ha, ha.1, ha.2]; exact h4
      · rw [if_neg ha]
    | some i =>
      obtain ⟨rfl, hi⟩ := lx_some e
      show _ = (if f = 302 then u i else S.2.1 f (lfa z T i))
      by_cases hf : f = 302
      · rw [if_pos hf]; subst hf; exact (h1 i hi).2.2.2
      · rw [if_neg hf]
  have e3 : S.2.2.1 = SC3 z S.2.2.1 v tr := by
    funext a k
    unfold SC3
    by_cases g1 : a = z + 7 ∧ k < 8
    · rw [if_pos g1, g1.1]; exact h5 k g1.2
    · rw [if_neg g1]
      by_cases g2 : a = z + 9
      · rw [if_pos g2, g2, h6]
      · rw [if_neg g2]
        by_cases g3 : a = z + 10
        · rw [if_pos g3, g3, h7]
        · rw [if_neg g3]
  unfold SC
  rw [← e1, ← e2, ← e3]
theorem TreeC_congr (h1 : ∀ f a, treeI.contains f = true → S1.1 f a = S.1 f a) (h2 : ∀ f a, treeR.contains f = true → S1.2.1 f a = S.2.1 f a) (hT : TreeC z T n t S) : TreeC z T n t S1 := by
  intro i hi
  simp (disch := decide) only [h1, h2]
  exact hT i hi
/-- heaps that differ in what changes alone -/
def FRM (z : Nat) (S S1 : HS) : Prop := (∀ f a, ¬ lfF f → ¬ lgF f → S1.1 f a = S.1 f a) ∧ (∀ f a, f ≠ 200 → f ≠ 302 → S1.2.1 f a = S.2.1 f a) ∧ (∀ o, o = 2 ∨ o = 4 → S1.2.2.1 (z + o) = S.2.2.1 (z + o)) ∧ S1.2.2.2 = S.2.2.2
theorem nflg {f : Nat} (h : f < 200 ∨ 208 < f ∧ f < 300 ∨ 309 < f) : ¬ lfF f ∧ ¬ lgF f := by
  unfold lfF lgF
  omega
theorem CX_frm (h : FRM z S S1) (hC : CX z T n t S) : CX z T n t S1 := by
  refine ⟨hC.1, hC.2.1, FixC_congr (fun f a hf => h.2.1 f a (by rintro rfl; exact absurd hf (by decide)) (by rintro rfl; exact absurd hf (by decide))) (fun a => h.1 400 a (nflg (by omega)).1 (nflg (by omega)).2) h.2.2.2 hC.2.2.1, TreeC_congr (fun f a hf => ?_) (fun f a hf => h.2.1 f a (by rintro rfl; exact absurd hf (by decide)) (by rintro rfl; exact absurd hf (by decide))) hC.2.2.2⟩
  have hf : f ∈ treeI := by simpa using hf
  unfold treeI at hf
  simp only [List.mem_cons, List.not_mem_nil, or_false] at hf
  exact h.1 f a (nflg (by omega)).1 (nflg (by omega)).2
theorem STAT_frm (h : FRM z S S1) (hV : SAV z b T n t q S1 M1) (hM : SameM b M M1 ∨ M1 = M) (hMX : MX b n t M1) (hN : M1.1 1208 b = nI n) (hTM : ∀ o, o = 4 ∨ o = 5 ∨ 17 ≤ o → M1.2.2.1 (b + o) = M.2.2.1 (b + o)) (hTN : M1.1 1206 b = M.1 1206 b ∧ M1.1 1207 b = M.1 1207 b) (hS : STAT z b T n t q S M) : STAT z b T n t q S1 M1 := by
  obtain ⟨h1, h2, h3, h4, ⟨k1, h5⟩, ⟨k2, h6⟩, h7⟩ := hS
  refine ⟨CX_frm h h1, hMX, ⟨by rw [h.2.1 _ _ (by decide) (by decide)]; exact h3.1, by rw [h.2.1 _ _ (by decide) (by decide)]; exact h3.2.1, by rw [h.1 _ _ (nflg (by decide)).1 (nflg (by decide)).2]; exact h3.2.2⟩, hN, ⟨k1, h5.1, ?_, ?_, fun j hj => ?_⟩, ⟨k2, h6.1, ?_, ?_, fun j hj => ?_⟩, hV, h7.2.1, STA_same (fun o ho => hTM o (Or.inr (Or.inr ho))) h7.2.2⟩
  · rw [h.1 _ _ (nflg (by decide)).1 (nflg (by decide)).2]; exact h5.2.1
  · rw [hTN.1]; exact h5.2.2.1
  · rw [h.2.2.1 2 (Or.inl rfl), hTM 4 (Or.inl rfl)]; exact h5.2.2.2 j hj
  · rw [h.1 _ _ (nflg (by decide)).1 (nflg (by decide)).2]; exact h6.2.1
  · rw [hTN.2]; exact h6.2.2.1
  · rw [h.2.2.1 4 (Or.inr rfl), hTM 5 (Or.inr (Or.inl rfl))]; exact h6.2.2.2 j hj
theorem FRM_SC (hC : CX z T n t S0) : FRM z S0 (SC z T n S0 v c u l p tr) := by
  refine ⟨fun f a h1 h2 => ?_, fun f a h1 h2 => sR hC h1 h2, fun o ho => sA (by omega), rfl⟩
  show SC1 z T n S0.1 v c l tr.1 f a = _
  unfold SC1
  cases lx z T n a with
  | none =>
    show (if a = z + 8 then lvG S0.1 v tr.1 f a else S0.1 f a) = _
    split
    · unfold lvG
      cases ef : plG f with
      | none => exact if_neg (fun e => h2 (by unfold lgF; omega))
      | some w =>
        exfalso
        unfold plG at ef
        unfold lgF at h2
        split at ef
        · omega
        · split at ef
          · omega
          · cases ef
    · rfl
  | some i =>
    show lvI S0.1 v c l f a i = _
    unfold lvI
    unfold lfF at h1
    cases ef : plF f with
    | none =>
      show (if f = 301 then c i else if f = 303 then l i else S0.1 f a) = _
      rw [if_neg (by omega), if_neg (by omega)]
    | some w =>
      exfalso
      unfold plF at ef
      split at ef
      · omega
      · split at ef
        · omega
        · split at ef
          · omega
          · cases ef
theorem SNAP_SC {vs cs ls : Nat → Int32} {us : Nat → Option Nat} {ps : Option Nat} {trs : TR} (hC : CX z T n t S0) (ho : isO o) (h : SNAP z n (o + 7) (o + 3) (o + 4) (o + 5) (o + 6) S0 vs cs us ls ps trs) : SNAP z n (o + 7) (o + 3) (o + 4) (o + 5) (o + 6) (SC z T n S0 v c u l p tr) vs cs us ls ps trs := by
  have hn := CX_n hC
  have ho2 : o = 11 ∨ o = 42 := ho
  obtain ⟨a1, a2, a3, a4, a5, a6⟩ := h
  refine ⟨fun i hi => ⟨fun f w hf => ?_, ?_, ?_, ?_⟩, fun f w hf => ?_, ?_, ?_, fun k hk => ?_, fun k hk => ?_⟩
  · rw [sI hC (by omega)]; exact (a1 i hi).1 f w hf
  · rw [sI hC (by omega)]; exact (a1 i hi).2.1
  · rw [sI hC (by omega)]; exact (a1 i hi).2.2.1
  · show SC2 z T n S0.2.1 u p 302 _ = _
    rw [SC2_ot (Or.inr (by decide)) (Or.inr (fun j _ => by have := lf_ge (z := z) (i := j) hC.1; omega))]
    exact (a1 i hi).2.2.2
  · rw [sI hC (by omega)]; exact a2 f w hf
  · rw [sI hC (by omega)]; exact a3
  · show SC2 z T n S0.2.1 u p 200 _ = _
    rw [SC2_ot (Or.inl (by omega)) (Or.inl (by decide))]
    exact a4
  · rw [sA (by omega)]; exact a5 k hk
  · rw [sA (by omega), sA (by omega)]; exact a6 k hk
theorem SAV_SC (hC : CX z T n t S0) (h : SAV z b T n t q S0 M0) : SAV z b T n t q (SC z T n S0 v c u l p tr) M0 := by
  rcases h with ⟨h1, h2⟩ | ⟨h1, h2, c1, u1, l1, p1, tr1, h3, h4, h5⟩
  · exact Or.inl ⟨(sI (o := 0) hC (by omega)).trans h1, h2⟩
  · exact Or.inr ⟨(sI (o := 0) hC (by omega)).trans h1, h2, c1, u1, l1, p1, tr1, SNAP_SC (o := 11) hC (Or.inl rfl) h3, h4, h5⟩
theorem STAT_SC (hS : STAT z b T n t q S0 M0) : STAT z b T n t q (SC z T n S0 v c u l p tr) M0 :=
  STAT_frm (FRM_SC hS.1) (SAV_SC hS.1 hS.2.2.2.2.2.2.1) (Or.inr rfl) hS.2.1 hS.2.2.2.1 (fun _ _ => rfl) ⟨rfl, rfl⟩ hS
theorem lfF_cases (h : lfF f) : (∃ w, plF f = some w) ∨ f = 301 ∨ f = 303 := by
  unfold lfF at h
  unfold plF
  by_cases h1 : f = 300
  · exact Or.inl ⟨0, if_pos h1⟩
  · rw [if_neg h1]
    by_cases h2 : f = 304
    · exact Or.inl ⟨4, if_pos h2⟩
    · rw [if_neg h2]
      by_cases h3 : 305 ≤ f ∧ f ≤ 309
      · exact Or.inl ⟨_, if_pos h3⟩
      · exact Or.inr (by omega)
theorem plF_lf (h : plF f = some w) : lfF f := by
  unfold plF at h
  unfold lfF
  split at h
  · omega
  · split at h
    · omega
    · split at h
      · omega
      · cases h
theorem plG_lg (h : plG f = some w) : lgF f := by
  unfold plG at h
  unfold lgF
  split at h
  · omega
  · split at h
    · omega
    · cases h
/-- what a copy leaves as it is -/
theorem CPS_frm {bD lD bE lE : Nat} (hb : bD + 1 ≠ 2 ∧ bD + 1 ≠ 4 ∧ lD + 1 ≠ 2 ∧ lD + 1 ≠ 4 ∧ lD + 2 ≠ 2 ∧ lD + 2 ≠ 4) (h : CPS z n dO eO bD lD bE lE S S1) : FRM z S S1 :=
  ⟨fun f a h1 h2 => h.2.2.2.2.2.1 f a (fun q => h1 q.1) (fun q => h2 q.1), fun f a h1 h2 => h.2.2.2.2.2.2.1 f a (fun q => h2 q.1) (fun q => h1 q.1), fun o ho => by funext k; exact h.2.2.2.2.2.2.2.1 (z + o) k (by omega) (by omega), h.2.2.2.2.2.2.2.2⟩
/-- after take the snapshot holds the live state, which stays -/
theorem take_post (ho : isO o) (hT : isT T) (hn : n ≤ 24) (hL : LIVF z T n S v c u l p tr) (h : CPS z n (fun i => o + 7 + i) (fun i => T + 5 + 4 * i) (o + 2) (o + 4) 6 8 S S1) : LIVF z T n S1 v c u l p tr ∧ SNAP z n (o + 7) (o + 3) (o + 4) (o + 5) (o + 6) S1 v c u l p tr := by
  have ho2 : o = 11 ∨ o = 42 := ho
  have hT2 : T = 73 ∨ T = 171 := hT
  obtain ⟨b1, b2, b3, b4, b5, b6, b7, b8, b9⟩ := h
  obtain ⟨l1, l2, l3, l4, l5, l6, l7⟩ := hL
  have fI : ∀ f i, S1.1 f (lfa z T i) = S.1 f (lfa z T i) := fun f i => b6 f _ (by rintro ⟨_, j, hj, e⟩; unfold lfa at e; have e : z + (T + 5 + 4 * i) = z + (o + 7 + j) := e; omega) (by rintro ⟨_, e⟩; unfold lfa at e; omega)
  have fR : ∀ f i, S1.2.1 f (lfa z T i) = S.2.1 f (lfa z T i) := fun f i => b7 f _ (by rintro ⟨_, j, hj, e⟩; unfold lfa at e; have e : z + (T + 5 + 4 * i) = z + (o + 7 + j) := e; omega) (by rintro ⟨_, e⟩; unfold lfa at e; omega)
  have f8 : ∀ f, S1.1 f (z + 8) = S.1 f (z + 8) := fun f => b6 f _ (by rintro ⟨_, j, hj, e⟩; have e : z + 8 = z + (o + 7 + j) := e; omega) (by rintro ⟨_, e⟩; omega)
  have f8R : ∀ f, S1.2.1 f (z + 8) = S.2.1 f (z + 8) := fun f => b7 f _ (by rintro ⟨_, j, hj, e⟩; have e : z + 8 = z + (o + 7 + j) := e; omega) (by rintro ⟨_, e⟩; omega)
  have fA : ∀ m k, m = 7 ∨ m = 9 ∨ m = 10 → S1.2.2.1 (z + m) k = S.2.2.1 (z + m) k := fun m k hm => b8 _ _ (by omega) (by omega)
  refine ⟨⟨fun i hi => ⟨fun f w hf => ?_, ?_, ?_, ?_⟩, fun f w hf => ?_, ?_, ?_, fun k hk => ?_, ?_, ?_⟩, ⟨fun i hi => ⟨fun f w hf => ?_, ?_, ?_, ?_⟩, fun f w hf => ?_, ?_, ?_, fun k hk => ?_, fun k hk => ⟨?_, ?_⟩⟩⟩
  · rw [fI]; exact (l1 i hi).1 f w hf
  · rw [fI]; exact (l1 i hi).2.1
  · rw [fI]; exact (l1 i hi).2.2.1
  · rw [fR]; exact (l1 i hi).2.2.2
  · rw [f8]; exact l2 f w hf
  · rw [f8]; exact l3
  · rw [f8R]; exact l4
  · rw [fA 7 k (by omega)]; exact l5 k hk
  · rw [← l6]; funext k; exact fA 9 k (by omega)
  · rw [← l7]; funext k; exact fA 10 k (by omega)
  · exact ((b1 i hi).1 f (plF_lf hf)).trans ((l1 i hi).1 f w hf)
  · exact ((b1 i hi).1 301 (by unfold lfF; omega)).trans (l1 i hi).2.1
  · exact ((b1 i hi).1 303 (by unfold lfF; omega)).trans (l1 i hi).2.2.1
  · exact (b1 i hi).2.trans (l1 i hi).2.2.2
  · exact (b2 f (plG_lg hf)).trans (l2 f w hf)
  · exact (b2 208 (by unfold lgF; omega)).trans l3
  · exact b3.trans l4
  · exact (b4 k hk).trans (l5 k hk)
  · exact (b5 k hk).1.trans (congrFun l6 k)
  · exact (b5 k hk).2.trans (congrFun l7 k)
/-- after giveBack the live state is the snapshot's -/
theorem give_post (ho : isO o) (hT : isT T) (hn : n ≤ 24) (hL : SNAP z n (o + 7) (o + 3) (o + 4) (o + 5) (o + 6) S v c u l p tr) (h : CPS z n (fun i => T + 5 + 4 * i) (fun i => o + 7 + i) 6 8 (o + 2) (o + 4) S S1) : ∃ tr1 : TR, tr1.1 = tr.1 ∧ (∀ k, k < 30 → tr1.2.1 k = tr.2.1 k ∧ tr1.2.2 k = tr.2.2 k) ∧ LIVF z T n S1 v c u l p tr1 := by
  obtain ⟨b1, b2, b3, b4, b5, b6, b7, b8, b9⟩ := h
  obtain ⟨l1, l2, l3, l4, l5, l6⟩ := hL
  refine ⟨(tr.1, S1.2.2.1 (z + 9), S1.2.2.1 (z + 10)), rfl, fun k hk => ⟨(b5 k hk).1.trans (l6 k hk).1, (b5 k hk).2.trans (l6 k hk).2⟩, ⟨fun i hi => ⟨fun f w hf => ?_, ?_, ?_, ?_⟩, fun f w hf => ?_, ?_, ?_, fun k hk => ?_, rfl, rfl⟩⟩
  · exact ((b1 i hi).1 f (plF_lf hf)).trans ((l1 i hi).1 f w hf)
  · exact ((b1 i hi).1 301 (by unfold lfF; omega)).trans (l1 i hi).2.1
  · exact ((b1 i hi).1 303 (by unfold lfF; omega)).trans (l1 i hi).2.2.1
  · exact (b1 i hi).2.trans (l1 i hi).2.2.2
  · exact (b2 f (plG_lg hf)).trans (l2 f w hf)
  · exact (b2 208 (by unfold lgF; omega)).trans l3
  · exact b3.trans l4
  · exact (b4 k hk).trans (l5 k hk)
theorem IT_ext (h1 : tr1.1 = tr.1) (h2 : ∀ k, k < 30 → tr1.2.1 k = tr.2.1 k ∧ tr1.2.2 k = tr.2.2 k) (hI : IT v tr) : IT v tr1 := by
  refine ⟨by rw [h1]; exact hI.1, fun j hj => ?_⟩
  rw [h1] at hj ⊢
  have := h2 ((tr.1 - 1 - j) % 30) (by omega)
  rw [this.1, this.2]
  exact hI.2 j hj
theorem SNAP_v {lb gb lg ta ra : Nat} (hn : n ≤ 24) (h : ∀ k, k < 355 → v1 k = v k) (hS : SNAP z n lb gb lg ta ra S v c u l p tr) : SNAP z n lb gb lg ta ra S v1 c u l p tr := by
  refine ⟨fun i hi => ⟨fun f w hf => ?_, (hS.1 i hi).2⟩, fun f w hf => ?_, hS.2.2.1, hS.2.2.2.1, fun k hk => ?_, hS.2.2.2.2.2⟩
  · have := plF_lt hf
    rw [h _ (by omega)]; exact (hS.1 i hi).1 f w hf
  · have := plG_lt hf
    rw [h _ (by omega)]; exact hS.2.1 f w hf
  · rw [h _ (by omega)]; exact hS.2.2.2.2.1 k hk
/-! the reference's copies -/
theorem m_copy {x y : Nat} (hx : x = 1 ∨ x = 2 ∨ x = 3) (hy : y = 1 ∨ y = 2 ∨ y = 3) (hxy : x ≠ y) : fX12_copies (Ym b) M (some (b + x)) (some (b + y)) = some (M.1, M.2.1, va_up M.2.2.1 (b + y) (fun k => if k < 355 then M.2.2.1 (b + x) k else M.2.2.1 (b + y) k), M.2.2.2) := by
  have hl : ∀ x, x = 1 ∨ x = 2 ∨ x = 3 → lnM x = 355 := by intro x hx; rcases hx with rfl | rfl | rfl <;> rfl
  have loop : ∀ (d fuel j : Nat), j + d = 355 → d < fuel → fX12_copies_2 (Ym b) fuel (M.1, M.2.1, va_up M.2.2.1 (b + y) (fun k => if k < j then M.2.2.1 (b + x) k else M.2.2.1 (b + y) k), M.2.2.2) (some (b + x)) (some (b + y)) (nI j) = some (M.1, M.2.1, va_up M.2.2.1 (b + y) (fun k => if k < 355 then M.2.2.1 (b + x) k else M.2.2.1 (b + y) k), M.2.2.2) := by
    intro d
    induction d with
    | zero =>
      intro fuel j hj hf
      obtain ⟨fuel, rfl⟩ : ∃ g, fuel = g + 1 := ⟨fuel - 1, by omega⟩
      have : j = 355 := by omega
      subst this
      rw [fX12_copies_2]
      exact if_pos (by decide)
    | succ d ih =>
      intro fuel j hj hf
      obtain ⟨fuel, rfl⟩ : ∃ g, fuel = g + 1 := ⟨fuel - 1, by omega⟩
      rw [fX12_copies_2]
      refine ifN (show ¬ (355 : Int32) ≤ nI j from nI_ge (b := 355) (by omega) (by decide)) ?_
      refine bnd (mA (by omega) (by rw [hl x hx]; omega)) ?_
      refine bnd (mpA (by omega) (by rw [hl y hy]; omega)) ?_
      rw [nI_1]
      have e : upN (va_up M.2.2.1 (b + y) (fun k => if k < j then M.2.2.1 (b + x) k else M.2.2.1 (b + y) k)) (b + y) j (va_up M.2.2.1 (b + y) (fun k => if k < j then M.2.2.1 (b + x) k else M.2.2.1 (b + y) k) (b + x) j) = va_up M.2.2.1 (b + y) (fun k => if k < j + 1 then M.2.2.1 (b + x) k else M.2.2.1 (b + y) k) := by
        rw [va_up_ne _ _ (show b + x ≠ b + y by omega)]
        funext a k
        unfold upN
        by_cases ha : a = b + y
        · subst ha
          rw [va_up_self, va_up_self]
          by_cases hk : k = j
          · subst hk
            rw [if_pos ⟨rfl, rfl⟩, if_pos (by omega)]
          · rw [if_neg (fun q => hk q.2)]
            by_cases hk2 : k < j
            · rw [if_pos hk2, if_pos (by omega)]
            · rw [if_neg hk2, if_neg (by omega)]
        · rw [if_neg (fun q => ha q.1), va_up_ne _ _ ha, va_up_ne _ _ ha]
      have h2 := ih fuel (j + 1) (by omega) (by omega)
      rw [← e] at h2
      exact h2
  have h0 := loop 355 FU 0 rfl (by decide)
  have e0 : (M.1, M.2.1, va_up M.2.2.1 (b + y) (fun k => if k < 0 then M.2.2.1 (b + x) k else M.2.2.1 (b + y) k), M.2.2.2) = M := by
    have : va_up M.2.2.1 (b + y) (fun k => if k < 0 then M.2.2.1 (b + x) k else M.2.2.1 (b + y) k) = M.2.2.1 := by
      funext a k
      by_cases ha : a = b + y
      · subst ha; rw [va_up_self, if_neg (Nat.not_lt_zero _)]
      · rw [va_up_ne _ _ ha]
    rw [this]
  rw [e0] at h0
  unfold fX12_copies
  exact h0
theorem SV_SV : SV b (SV b M v) v1 = SV b M v1 := by
  unfold SV
  have : va_up (va_up M.2.2.1 (b + 1) v) (b + 1) v1 = va_up M.2.2.1 (b + 1) v1 := by
    funext a
    by_cases ha : a = b + 1
    · subst ha; rw [va_up_self, va_up_self]
    · rw [va_up_ne _ _ ha, va_up_ne _ _ ha, va_up_ne _ _ ha]
  show (M.1, M.2.1, va_up (va_up M.2.2.1 (b + 1) v) (b + 1) v1, M.2.2.2) = _
  rw [this]
theorem w1105 (hC : CX z T n t S0) : gR (Yc z) 11 1105 (some z) (SC z T n S0 v c u l p tr) = some (some (z + 11)) := cR1105_0 (fixSC hC)
theorem w1106 (hC : CX z T n t S0) : gR (Yc z) 11 1106 (some z) (SC z T n S0 v c u l p tr) = some (some (z + 42)) := cR1106_0 (fixSC hC)
/-- take, seen from the live state -/
theorem x_take (ho : isO o) (hSt : STAT z b T n t q S0 M0) (hSI : SI z T n t v c u l p tr) : ∃ S1, fX6_take (Yc z) (SC z T n S0 v c u l p tr) (some (z + o)) (some (z + T)) (some (z + 6)) (some (z + 8)) = some (SC z T n S1 v c u l p tr) ∧ FRM z S0 S1 ∧ SNAP z n (o + 7) (o + 3) (o + 4) (o + 5) (o + 6) S1 v c u l p tr ∧ (∀ f, ¬ lfF f → ¬ lgF f → S1.1 f z = S0.1 f z) ∧ (o = 42 → SAV z b T n t q S1 M0) := by
  have hC := hSt.1
  have hn := CX_n hC
  have ho2 : o = 11 ∨ o = 42 := ho
  have hL : LIVF z T n (SC z T n S0 v c u l p tr) v c u l p tr := SC_LIVF hC.1
  obtain ⟨S1, e1, hc⟩ := k_take (S := SC z T n S0 v c u l p tr) ho (fixSC hC) hC.1 (by rw [sI hC (by rcases hC.1 with rfl | rfl; exact Or.inr (Or.inl rfl); exact Or.inr (Or.inr rfl))]; exact hSt.2.2.1.2.2) hn (fun i hi => by
    have := (hL.1 i hi).1 300 0 rfl
    unfold lfa at this
    rw [this]
    exact (hSI.1 i hi).1)
  have hp := take_post ho hC.1 hn hL hc
  have hfr := CPS_frm (by omega) hc
  have hfr2 : FRM z S0 S1 := by
    have h0 := FRM_SC (v := v) (c := c) (u := u) (l := l) (p := p) (tr := tr) hC
    exact ⟨fun f a h1 h2 => (hfr.1 f a h1 h2).trans (h0.1 f a h1 h2), fun f a h1 h2 => (hfr.2.1 f a h1 h2).trans (h0.2.1 f a h1 h2), fun o ho => (hfr.2.2.1 o ho).trans (h0.2.2.1 o ho), hfr.2.2.2.trans h0.2.2.2⟩
  refine ⟨S1, ?_, hfr2, hp.2, fun f h1 h2 => hfr2.1 f z h1 h2, fun h42 => ?_⟩
  · rw [← SC_self hC.1 hp.1]; exact e1
  · subst h42
    have hV := SAV_SC (v := v) (c := c) (u := u) (l := l) (p := p) (tr := tr) hC hSt.2.2.2.2.2.2.1
    rcases hV with ⟨h1, h2⟩ | ⟨h1, h2, c1, u1, l1, p1, tr1, h3, h4, h5⟩
    · exact Or.inl ⟨by rw [hfr.1 _ _ (nflg (by decide)).1 (nflg (by decide)).2]; exact h1, h2⟩
    · refine Or.inr ⟨by rw [hfr.1 _ _ (nflg (by decide)).1 (nflg (by decide)).2]; exact h1, h2, c1, u1, l1, p1, tr1, ?_, h4, h5⟩
      obtain ⟨b1, b2, b3, b4, b5, b6, b7, b8, b9⟩ := hc
      have gI : ∀ f o, o < 42 → (SC z T n S0 v c u l p tr).1 f (z + o) = S1.1 f (z + o) := fun f o ho => (b6 f _ (by rintro ⟨_, j, _, e⟩; have e : z + o = z + (42 + 7 + j) := e; omega) (by omega)).symm
      have gR : ∀ f o, o < 42 → (SC z T n S0 v c u l p tr).2.1 f (z + o) = S1.2.1 f (z + o) := fun f o ho => (b7 f _ (by rintro ⟨_, j, _, e⟩; have e : z + o = z + (42 + 7 + j) := e; omega) (by omega)).symm
      have gA : ∀ o k, o < 42 → (SC z T n S0 v c u l p tr).2.2.1 (z + o) k = S1.2.2.1 (z + o) k := fun o k ho => (b8 _ _ (by omega) (by omega)).symm
      obtain ⟨a1, a2, a3, a4, a5, a6⟩ := h3
      refine ⟨fun i hi => ⟨fun f w hf => ?_, ?_, ?_, ?_⟩, fun f w hf => ?_, ?_, ?_, fun k hk => ?_, fun k hk => ?_⟩
      · rw [← gI _ _ (by omega)]; exact (a1 i hi).1 f w hf
      · rw [← gI _ _ (by omega)]; exact (a1 i hi).2.1
      · rw [← gI _ _ (by omega)]; exact (a1 i hi).2.2.1
      · rw [← gR _ _ (by omega)]; exact (a1 i hi).2.2.2
      · rw [← gI _ _ (by omega)]; exact a2 f w hf
      · rw [← gI _ _ (by omega)]; exact a3
      · rw [← gR _ _ (by omega)]; exact a4
      · rw [← gA _ _ (by omega)]; exact a5 k hk
      · rw [← gA _ _ (by omega), ← gA _ _ (by omega)]; exact a6 k hk
/-- giveBack, seen from the live state -/
theorem x_give {vs cs ls : Nat → Int32} {us : Nat → Option Nat} {ps : Option Nat} {trs : TR} (ho : isO o) (hSt : STAT z b T n t q S0 M0) (hSN : SNAP z n (o + 7) (o + 3) (o + 4) (o + 5) (o + 6) S0 vs cs us ls ps trs) (hSI : SI z T n t vs cs us ls ps trs) : ∃ S1 tr1, fX6_giveBack (Yc z) (SC z T n S0 v c u l p tr) (some (z + o)) (some (z + T)) (some (z + 6)) (some (z + 8)) = some (SC z T n S1 vs cs us ls ps tr1) ∧ STAT z b T n t q S1 M0 ∧ SI z T n t vs cs us ls ps tr1 ∧ tr1.1 = trs.1 := by
  have hC := hSt.1
  have hn := CX_n hC
  have hO := ho
  have ho2 : o = 11 ∨ o = 42 := ho
  have hT2 : T = 73 ∨ T = 171 := hC.1
  have hSN2 := SNAP_SC (v := v) (c := c) (u := u) (l := l) (p := p) (tr := tr) hC ho hSN
  obtain ⟨S1, e1, hc⟩ := k_give (S := SC z T n S0 v c u l p tr) ho (fixSC hC) hC.1 (by rw [sI hC (by rcases hC.1 with rfl | rfl; exact Or.inr (Or.inl rfl); exact Or.inr (Or.inr rfl))]; exact hSt.2.2.1.2.2) hn (fun i hi => by
    have := (hSN2.1 i hi).1 300 0 rfl
    rw [this]
    exact (hSI.1 i hi).1)
  obtain ⟨tr1, t1, t2, hp⟩ := give_post ho hC.1 hn hSN2 hc
  have hfr := CPS_frm (by omega) hc
  have hStS := STAT_SC (v := v) (c := c) (u := u) (l := l) (p := p) (tr := tr) hSt
  refine ⟨S1, tr1, ?_, STAT_frm hfr ?_ (Or.inr rfl) hSt.2.1 hSt.2.2.2.1 (fun _ _ => rfl) ⟨rfl, rfl⟩ hStS, ⟨hSI.1, IT_ext t1 t2 hSI.2.1, hSI.2.2.1, hSI.2.2.2⟩, t1⟩
  · rw [← SC_self hC.1 hp]; exact e1
  · rcases hStS.2.2.2.2.2.2.1 with ⟨h1, h2⟩ | ⟨h1, h2, c1, u1, l1, p1, tr2, h3, h4, h5⟩
    · exact Or.inl ⟨by rw [hfr.1 _ _ (nflg (by decide)).1 (nflg (by decide)).2]; exact h1, h2⟩
    · refine Or.inr ⟨by rw [hfr.1 _ _ (nflg (by decide)).1 (nflg (by decide)).2]; exact h1, h2, c1, u1, l1, p1, tr2, ?_, h4, h5⟩
      obtain ⟨b1, b2, b3, b4, b5, b6, b7, b8, b9⟩ := hc
      have gI : ∀ f m, m < 42 → 11 ≤ m → (SC z T n S0 v c u l p tr).1 f (z + m) = S1.1 f (z + m) := fun f m ho h2 => (b6 f _ (by rintro ⟨_, j, _, e⟩; have e : z + m = z + (T + 5 + 4 * j) := e; omega) (by omega)).symm
      have gR : ∀ f m, m < 42 → 11 ≤ m → (SC z T n S0 v c u l p tr).2.1 f (z + m) = S1.2.1 f (z + m) := fun f m ho h2 => (b7 f _ (by rintro ⟨_, j, _, e⟩; have e : z + m = z + (T + 5 + 4 * j) := e; omega) (by omega)).symm
      have gA : ∀ m k, m < 42 → 11 ≤ m → (SC z T n S0 v c u l p tr).2.2.1 (z + m) k = S1.2.2.1 (z + m) k := fun m k ho h2 => (b8 _ _ (by omega) (by omega)).symm
      obtain ⟨a1, a2, a3, a4, a5, a6⟩ := h3
      refine ⟨fun i hi => ⟨fun f w hf => ?_, ?_, ?_, ?_⟩, fun f w hf => ?_, ?_, ?_, fun k hk => ?_, fun k hk => ?_⟩
      · rw [← gI _ _ (by omega) (by omega)]; exact (a1 i hi).1 f w hf
      · rw [← gI _ _ (by omega) (by omega)]; exact (a1 i hi).2.1
      · rw [← gI _ _ (by omega) (by omega)]; exact (a1 i hi).2.2.1
      · rw [← gR _ _ (by omega) (by omega)]; exact (a1 i hi).2.2.2
      · rw [← gI _ _ (by omega) (by omega)]; exact a2 f w hf
      · rw [← gI _ _ (by omega) (by omega)]; exact a3
      · rw [← gR _ _ (by omega) (by omega)]; exact a4
      · rw [← gA _ _ (by omega) (by omega)]; exact a5 k hk
      · rw [← gA _ _ (by omega) (by omega), ← gA _ _ (by omega) (by omega)]; exact a6 k hk
end SAVE
