/-! the class' live state as a function of the array v: c what is counted, u the current child, l the latest result, p the next node, tr the trace -/
abbrev TR : Type := Nat × (Nat → Int32) × (Nat → Int32)
def lx (z T n a : Nat) : Option Nat := if z + (T + 5) ≤ a ∧ (a - (z + (T + 5))) % 4 = 0 ∧ (a - (z + (T + 5))) / 4 < n then some ((a - (z + (T + 5))) / 4) else none
def plF (f : Nat) : Option Nat := if f = 300 then some 0 else if f = 304 then some 4 else if 305 ≤ f ∧ f ≤ 309 then some (f - 299) else none
def plG (f : Nat) : Option Nat := if 201 ≤ f ∧ f ≤ 206 then some (f + 85) else if f = 207 then some 293 else none
def lvI (I : Nat → Nat → Int32) (v c l : Nat → Int32) (f a i : Nat) : Int32 := match plF f with | some w => v (11 * i + w) | none => if f = 301 then c i else if f = 303 then l i else I f a
def lvG (I : Nat → Nat → Int32) (v : Nat → Int32) (q f a : Nat) : Int32 := match plG f with | some w => v w | none => if f = 208 then nI q else I f a
def SC1 (z T n : Nat) (I : Nat → Nat → Int32) (v c l : Nat → Int32) (q f a : Nat) : Int32 := match lx z T n a with | some i => lvI I v c l f a i | none => if a = z + 8 then lvG I v q f a else I f a
def SC2 (z T n : Nat) (R : Nat → Nat → Option Nat) (u : Nat → Option Nat) (p : Option Nat) (f a : Nat) : Option Nat := match lx z T n a with | some i => if f = 302 then u i else R f a | none => if a = z + 8 ∧ f = 200 then p else R f a
def SC3 (z : Nat) (AI : Nat → Nat → Int32) (v : Nat → Int32) (tr : TR) (a k : Nat) : Int32 := if a = z + 7 ∧ k < 8 then v (264 + k) else if a = z + 9 then tr.2.1 k else if a = z + 10 then tr.2.2 k else AI a k
def SC (z T n : Nat) (S0 : HS) (v c : Nat → Int32) (u : Nat → Option Nat) (l : Nat → Int32) (p : Option Nat) (tr : TR) : HS := (SC1 z T n S0.1 v c l tr.1, SC2 z T n S0.2.1 u p, SC3 z S0.2.2.1 v tr, S0.2.2.2)
def CX (z T n : Nat) (t : TT) (S0 : HS) : Prop := isT T ∧ WF n t ∧ FixC z S0 ∧ TreeC z T n t S0
section LX
variable {z T n i j a f g w k : Nat} {I : Nat → Nat → Int32} {R : Nat → Nat → Option Nat} {AI : Nat → Nat → Int32} {S0 : HS} {v v1 c l : Nat → Int32} {u : Nat → Option Nat} {p p1 : Option Nat} {tr : TR} {x : Int32} {t : TT}
theorem plF_lt (h : plF f = some w) : w ≤ 10 ∧ (w = 0 ∨ w = 4 ∨ 6 ≤ w) := by
  unfold plF at h
  split at h
  · cases h; omega
  · split at h
    · cases h; omega
    · split at h
      · have := Option.some.inj h; omega
      · cases h
theorem plF_inj (h : plF f = some w) (h1 : plF g = some w) : f = g := by
  unfold plF at h h1
  split at h
  · cases h
    split at h1
    · omega
    · split at h1
      · cases h1
      · split at h1
        · have := Option.some.inj h1; omega
        · cases h1
  · split at h
    · cases h
      split at h1
      · cases h1
      · split at h1
        · omega
        · split at h1
          · have := Option.some.inj h1; omega
          · cases h1
    · split at h
      · have e := Option.some.inj h
        split at h1
        · have := Option.some.inj h1; omega
        · split at h1
          · have := Option.some.inj h1; omega
          · split at h1
            · have := Option.some.inj h1; omega
            · cases h1
      · cases h
theorem plG_lt (h : plG f = some w) : 286 ≤ w ∧ w ≤ 293 ∧ w ≠ 292 := by
  unfold plG at h
  split at h
  · have := Option.some.inj h; omega
  · split at h
    · have := Option.some.inj h; omega
    · cases h
theorem plG_inj (h : plG f = some w) (h1 : plG g = some w) : f = g := by
  unfold plG at h h1
  split at h
  · have := Option.some.inj h
    split at h1
    · have := Option.some.inj h1; omega
    · split at h1
      · have := Option.some.inj h1; omega
      · cases h1
  · split at h
    · have := Option.some.inj h
      split at h1
      · have := Option.some.inj h1; omega
      · split at h1
        · omega
        · cases h1
    · cases h
theorem lx_lf (hi : i < n) : lx z T n (lfa z T i) = some i := by
  unfold lx lfa
  have e : (z + (T + 5 + 4 * i) - (z + (T + 5))) = 4 * i := by omega
  rw [e, if_pos ⟨by omega, by omega, by omega⟩]
  congr 1
  omega
theorem lx_some (h : lx z T n a = some i) : a = lfa z T i ∧ i < n := by
  unfold lx at h
  split at h
  · rename_i hc
    cases h
    unfold lfa
    exact ⟨by omega, hc.2.2⟩
  · cases h
theorem lx_none (h : ∀ i, i < n → a ≠ lfa z T i) : lx z T n a = none := by
  cases e : lx z T n a with
  | none => rfl
  | some i => exact absurd (lx_some e).1 (h i (lx_some e).2)
theorem lfa_inj (h : lfa z T i = lfa z T j) : i = j := by
  unfold lfa at h
  omega
theorem lf_ne8 (hT : isT T) : z + 8 ≠ lfa z T i := by
  unfold lfa
  rcases hT with rfl | rfl <;> omega
theorem SC1_lf (hi : i < n) : SC1 z T n I v c l k f (lfa z T i) = lvI I v c l f (lfa z T i) i := by
  unfold SC1
  rw [lx_lf hi]
theorem SC1_lg (hT : isT T) : SC1 z T n I v c l k f (z + 8) = lvG I v k f (z + 8) := by
  unfold SC1
  rw [lx_none (fun i _ => lf_ne8 hT)]
  exact if_pos rfl
theorem SC1_ot (h8 : a ≠ z + 8) (h : ∀ i, i < n → a ≠ lfa z T i) : SC1 z T n I v c l k f a = I f a := by
  unfold SC1
  rw [lx_none h]
  exact if_neg h8
theorem SC2_lf (hi : i < n) : SC2 z T n R u p f (lfa z T i) = if f = 302 then u i else R f (lfa z T i) := by
  unfold SC2
  rw [lx_lf hi]
theorem SC2_lg (hT : isT T) : SC2 z T n R u p f (z + 8) = if f = 200 then p else R f (z + 8) := by
  unfold SC2
  rw [lx_none (fun i _ => lf_ne8 hT)]
  by_cases h : f = 200
  · rw [if_pos h]; exact if_pos ⟨rfl, h⟩
  · rw [if_neg h]; exact if_neg (fun q => h q.2)
theorem SC2_ot (h8 : a ≠ z + 8 ∨ f ≠ 200) (h : f ≠ 302 ∨ ∀ i, i < n → a ≠ lfa z T i) : SC2 z T n R u p f a = R f a := by
  unfold SC2
  cases e : lx z T n a with
  | none => exact if_neg (fun q => by rcases h8 with h8 | h8; exact h8 q.1; exact h8 q.2)
  | some i =>
    refine if_neg (fun q => ?_)
    rcases h with h | h
    · exact h q
    · exact h i (lx_some e).2 (lx_some e).1
/-- the places of v that the class keeps -/
def relV (k : Nat) : Prop := (k < 264 ∧ (k % 11 = 0 ∨ k % 11 = 4 ∨ 6 ≤ k % 11)) ∨ (264 ≤ k ∧ k < 272) ∨ (286 ≤ k ∧ k ≤ 293 ∧ k ≠ 292)
theorem SC1_congr (hn : n ≤ 24) (h : ∀ k, relV k → v1 k = v k) : SC1 z T n I v1 c l k = SC1 z T n I v c l k := by
  funext f a
  unfold SC1
  cases e : lx z T n a with
  | none =>
    show (if a = z + 8 then lvG I v1 k f a else I f a) = (if a = z + 8 then lvG I v k f a else I f a)
    unfold lvG
    cases eg : plG f with
    | none => rfl
    | some w =>
      have := plG_lt eg
      show (if a = z + 8 then v1 w else I f a) = (if a = z + 8 then v w else I f a)
      rw [h w (by unfold relV; omega)]
  | some i =>
    have hi := (lx_some e).2
    show lvI I v1 c l f a i = lvI I v c l f a i
    unfold lvI
    cases ef : plF f with
    | none => rfl
    | some w =>
      have := plF_lt ef
      exact h _ (by unfold relV; omega)
theorem SC3_congr (h : ∀ k, relV k → v1 k = v k) : SC3 z AI v1 tr = SC3 z AI v tr := by
  funext a k
  unfold SC3
  by_cases h1 : a = z + 7 ∧ k < 8
  · rw [if_pos h1, if_pos h1, h (264 + k) (by unfold relV; omega)]
  · rw [if_neg h1, if_neg h1]
theorem SC_congr (hn : n ≤ 24) (h : ∀ k, relV k → v1 k = v k) : SC z T n S0 v1 c u l p tr = SC z T n S0 v c u l p tr := by
  unfold SC
  rw [SC1_congr hn h, SC3_congr h]
theorem SC_upd (hn : n ≤ 24) (h : ¬ relV k) : SC z T n S0 (upd v k x) c u l p tr = SC z T n S0 v c u l p tr := SC_congr hn (fun j hj => pk_un (fun e => h (e ▸ hj)))
theorem SC1_updL (hT : isT T) (hi : i < n) (hn : n ≤ 24) (hf : plF f = some w) : upN (SC1 z T n I v c l k) f (lfa z T i) x = SC1 z T n I (upd v (11 * i + w) x) c l k := by
  have hw := plF_lt hf
  funext g a
  unfold upN
  by_cases h : g = f ∧ a = lfa z T i
  · obtain ⟨rfl, rfl⟩ := h
    rw [if_pos ⟨rfl, rfl⟩, SC1_lf hi]
    unfold lvI
    rw [hf]
    exact pk_us.symm
  · rw [if_neg h]
    unfold SC1
    cases e : lx z T n a with
    | none =>
      show (if a = z + 8 then lvG I v k g a else I g a) = (if a = z + 8 then lvG I (upd v (11 * i + w) x) k g a else I g a)
      unfold lvG
      cases eg : plG g with
      | none => rfl
      | some w1 =>
        have := plG_lt eg
        show (if a = z + 8 then v w1 else I g a) = (if a = z + 8 then upd v (11 * i + w) x w1 else I g a)
        rw [pk_un (by omega)]
    | some j =>
      have hj := lx_some e
      show lvI I v c l g a j = lvI I (upd v (11 * i + w) x) c l g a j
      unfold lvI
      cases ef : plF g with
      | none => rfl
      | some w1 =>
        have hw1 := plF_lt ef
        refine (pk_un (fun q => h ?_)).symm
        have hij : j = i := by omega
        subst hij
        have : w1 = w := by omega
        subst this
        exact ⟨plF_inj ef hf, hj.1⟩
theorem SC1_updG (hT : isT T) (hn : n ≤ 24) (hf : plG f = some w) : upN (SC1 z T n I v c l k) f (z + 8) x = SC1 z T n I (upd v w x) c l k := by
  have hw := plG_lt hf
  funext g a
  unfold upN
  by_cases h : g = f ∧ a = z + 8
  · obtain ⟨rfl, rfl⟩ := h
    rw [if_pos ⟨rfl, rfl⟩, SC1_lg hT]
    unfold lvG
    rw [hf]
    exact pk_us.symm
  · rw [if_neg h]
    unfold SC1
    cases e : lx z T n a with
    | none =>
      show (if a = z + 8 then lvG I v k g a else I g a) = (if a = z + 8 then lvG I (upd v w x) k g a else I g a)
      by_cases ha : a = z + 8
      · rw [if_pos ha, if_pos ha]
        unfold lvG
        cases eg : plG g with
        | none => rfl
        | some w1 => exact (pk_un (fun q => h ⟨plG_inj eg (by rw [q]; exact hf), ha⟩)).symm
      · rw [if_neg ha, if_neg ha]
    | some j =>
      have hj := lx_some e
      show lvI I v c l g a j = lvI I (upd v w x) c l g a j
      unfold lvI
      cases ef : plF g with
      | none => rfl
      | some w1 =>
        have hw1 := plF_lt ef
        exact (pk_un (by omega)).symm
theorem SC1_updc (hi : i < n) : upN (SC1 z T n I v c l k) 301 (lfa z T i) x = SC1 z T n I v (upd c i x) l k := by
  funext g a
  unfold upN SC1
  cases e : lx z T n a with
  | none =>
    rw [if_neg (fun q => by rw [q.2, lx_lf hi] at e; cases e)]
  | some j =>
    have hj := lx_some e
    show (if g = 301 ∧ a = lfa z T i then x else lvI I v c l g a j) = lvI I v (upd c i x) l g a j
    by_cases hg : g = 301
    · subst hg
      show (if 301 = 301 ∧ a = lfa z T i then x else c j) = upd c i x j
      by_cases hij : j = i
      · subst hij
        rw [if_pos ⟨rfl, hj.1⟩, pk_us]
      · rw [if_neg (fun q => hij (lfa_inj (hj.1.symm.trans q.2))), pk_un hij]
    · rw [if_neg (fun q => hg q.1)]
      unfold lvI
      cases plF g with
      | none => show (if g = 301 then _ else _) = (if g = 301 then _ else _); rw [if_neg hg, if_neg hg]
      | some w => rfl
theorem SC1_updl (hi : i < n) : upN (SC1 z T n I v c l k) 303 (lfa z T i) x = SC1 z T n I v c (upd l i x) k := by
  funext g a
  unfold upN SC1
  cases e : lx z T n a with
  | none =>
    rw [if_neg (fun q => by rw [q.2, lx_lf hi] at e; cases e)]
  | some j =>
    have hj := lx_some e
    show (if g = 303 ∧ a = lfa z T i then x else lvI I v c l g a j) = lvI I v c (upd l i x) g a j
    by_cases hg : g = 303
    · subst hg
      show (if 303 = 303 ∧ a = lfa z T i then x else l j) = upd l i x j
      by_cases hij : j = i
      · subst hij
        rw [if_pos ⟨rfl, hj.1⟩, pk_us]
      · rw [if_neg (fun q => hij (lfa_inj (hj.1.symm.trans q.2))), pk_un hij]
    · rw [if_neg (fun q => hg q.1)]
      unfold lvI
      cases plF g with
      | none =>
        show (if g = 301 then _ else if g = 303 then _ else _) = (if g = 301 then _ else if g = 303 then _ else _)
        rw [if_neg hg, if_neg hg]
      | some w => rfl
theorem SC2_updu (hi : i < n) : upN (SC2 z T n R u p) 302 (lfa z T i) p1 = SC2 z T n R (va_up u i p1) p := by
  funext g a
  unfold upN SC2
  cases e : lx z T n a with
  | none =>
    rw [if_neg (fun q => by rw [q.2, lx_lf hi] at e; cases e)]
  | some j =>
    have hj := lx_some e
    show (if g = 302 ∧ a = lfa z T i then p1 else if g = 302 then u j else R g a) = (if g = 302 then va_up u i p1 j else R g a)
    by_cases hg : g = 302
    · rw [if_pos hg, if_pos hg]
      by_cases hij : j = i
      · subst hij
        rw [if_pos ⟨hg, hj.1⟩, va_up_self]
      · rw [if_neg (fun q => hij (lfa_inj (hj.1.symm.trans q.2))), va_up_ne _ _ hij]
    · rw [if_neg (fun q => hg q.1), if_neg hg, if_neg hg]
theorem SC2_updp (hT : isT T) : upN (SC2 z T n R u p) 200 (z + 8) p1 = SC2 z T n R u p1 := by
  funext g a
  unfold upN SC2
  cases e : lx z T n a with
  | none =>
    show (if g = 200 ∧ a = z + 8 then p1 else if a = z + 8 ∧ g = 200 then p else R g a) = (if a = z + 8 ∧ g = 200 then p1 else R g a)
    by_cases h : a = z + 8 ∧ g = 200
    · rw [if_pos ⟨h.2, h.1⟩, if_pos h]
    · rw [if_neg (fun q => h ⟨q.2, q.1⟩), if_neg h, if_neg h]
  | some j =>
    have hj := lx_some e
    rw [if_neg (fun q => lf_ne8 hT (q.2.symm.trans hj.1))]
end LX
section KX
variable {z T n i j a f g w k : Nat} {S0 : HS} {v v1 c l : Nat → Int32} {u : Nat → Option Nat} {p p1 : Option Nat} {tr : TR} {x : Int32} {t : TT}
theorem CX_n (hC : CX z T n t S0) : n ≤ 24 := hC.2.1.1
theorem kL (hC : CX z T n t S0) (hi : i < n) (hf : plF f = some w) : gI (Yc z) 3 f (some (lfa z T i)) (SC z T n S0 v c u l p tr) = some (v (11 * i + w)) := by
  rw [lfI hC.1 (Nat.lt_of_lt_of_le hi (CX_n hC))]
  show some (SC1 z T n S0.1 v c l tr.1 f (lfa z T i)) = _
  rw [SC1_lf hi]
  unfold lvI
  rw [hf]
theorem kLp (hC : CX z T n t S0) (hi : i < n) (hf : plF f = some w) : pI (Yc z) 3 f (some (lfa z T i)) x (SC z T n S0 v c u l p tr) = some (SC z T n S0 (upd v (11 * i + w) x) c u l p tr) := by
  have hn := CX_n hC
  have hw := plF_lt hf
  rw [lfpI hC.1 (Nat.lt_of_lt_of_le hi hn)]
  show some (upN (SC1 z T n S0.1 v c l tr.1) f (lfa z T i) x, SC2 z T n S0.2.1 u p, SC3 z S0.2.2.1 v tr, S0.2.2.2) = _
  rw [SC1_updL hC.1 hi hn hf]
  have e : SC3 z S0.2.2.1 (upd v (11 * i + w) x) tr = SC3 z S0.2.2.1 v tr := by
    funext a k
    unfold SC3
    rw [pk_un (by omega)]
  unfold SC
  rw [e]
theorem kLz (hC : CX z T n t S0) (hi : i < n) (hf : plF f = some w) (hx : x = 0 ∨ x = 1) : pZ (Yc z) 3 f (some (lfa z T i)) x (SC z T n S0 v c u l p tr) = some (SC z T n S0 (upd v (11 * i + w) x) c u l p tr) := by
  unfold pZ
  rw [if_pos hx, kLp hC hi hf]
theorem kG (hC : CX z T n t S0) (hf : plG f = some w) : gI (Yc z) 2 f (some (z + 8)) (SC z T n S0 v c u l p tr) = some (v w) := by
  rw [cI (o := 8) (c := 2) (by decide) rfl]
  show some (SC1 z T n S0.1 v c l tr.1 f (z + 8)) = _
  rw [SC1_lg hC.1]
  unfold lvG
  rw [hf]
theorem kGp (hC : CX z T n t S0) (hf : plG f = some w) : pI (Yc z) 2 f (some (z + 8)) x (SC z T n S0 v c u l p tr) = some (SC z T n S0 (upd v w x) c u l p tr) := by
  have hw := plG_lt hf
  rw [cpI (o := 8) (c := 2) (by decide) rfl]
  show some (upN (SC1 z T n S0.1 v c l tr.1) f (z + 8) x, SC2 z T n S0.2.1 u p, SC3 z S0.2.2.1 v tr, S0.2.2.2) = _
  rw [SC1_updG hC.1 (CX_n hC) hf]
  have e : SC3 z S0.2.2.1 (upd v w x) tr = SC3 z S0.2.2.1 v tr := by
    funext a k
    unfold SC3
    by_cases h : a = z + 7 ∧ k < 8
    · rw [if_pos h, if_pos h, pk_un (by omega)]
    · rw [if_neg h, if_neg h]
  unfold SC
  rw [e]
theorem kc (hC : CX z T n t S0) (hi : i < n) : gI (Yc z) 3 301 (some (lfa z T i)) (SC z T n S0 v c u l p tr) = some (c i) := by
  rw [lfI hC.1 (Nat.lt_of_lt_of_le hi (CX_n hC))]
  show some (SC1 z T n S0.1 v c l tr.1 301 (lfa z T i)) = _
  rw [SC1_lf hi]
  rfl
theorem kcp (hC : CX z T n t S0) (hi : i < n) : pI (Yc z) 3 301 (some (lfa z T i)) x (SC z T n S0 v c u l p tr) = some (SC z T n S0 v (upd c i x) u l p tr) := by
  rw [lfpI hC.1 (Nat.lt_of_lt_of_le hi (CX_n hC))]
  show some (upN (SC1 z T n S0.1 v c l tr.1) 301 (lfa z T i) x, SC2 z T n S0.2.1 u p, SC3 z S0.2.2.1 v tr, S0.2.2.2) = _
  rw [SC1_updc hi]
  rfl
theorem kl (hC : CX z T n t S0) (hi : i < n) : gI (Yc z) 3 303 (some (lfa z T i)) (SC z T n S0 v c u l p tr) = some (l i) := by
  rw [lfI hC.1 (Nat.lt_of_lt_of_le hi (CX_n hC))]
  show some (SC1 z T n S0.1 v c l tr.1 303 (lfa z T i)) = _
  rw [SC1_lf hi]
  rfl
theorem klp (hC : CX z T n t S0) (hi : i < n) : pI (Yc z) 3 303 (some (lfa z T i)) x (SC z T n S0 v c u l p tr) = some (SC z T n S0 v c u (upd l i x) p tr) := by
  rw [lfpI hC.1 (Nat.lt_of_lt_of_le hi (CX_n hC))]
  show some (upN (SC1 z T n S0.1 v c l tr.1) 303 (lfa z T i) x, SC2 z T n S0.2.1 u p, SC3 z S0.2.2.1 v tr, S0.2.2.2) = _
  rw [SC1_updl hi]
  rfl
theorem ku (hC : CX z T n t S0) (hi : i < n) : gR (Yc z) 3 302 (some (lfa z T i)) (SC z T n S0 v c u l p tr) = some (u i) := by
  rw [lfR hC.1 (Nat.lt_of_lt_of_le hi (CX_n hC))]
  show some (SC2 z T n S0.2.1 u p 302 (lfa z T i)) = _
  rw [SC2_lf hi]
  rfl
theorem kup (hC : CX z T n t S0) (hi : i < n) : pR (Yc z) 3 302 (some (lfa z T i)) p1 (SC z T n S0 v c u l p tr) = some (SC z T n S0 v c (va_up u i p1) l p tr) := by
  rw [lfpR hC.1 (Nat.lt_of_lt_of_le hi (CX_n hC))]
  show some (SC1 z T n S0.1 v c l tr.1, upN (SC2 z T n S0.2.1 u p) 302 (lfa z T i) p1, SC3 z S0.2.2.1 v tr, S0.2.2.2) = _
  rw [SC2_updu hi]
  rfl
theorem kN (hC : CX z T n t S0) : gR (Yc z) 2 200 (some (z + 8)) (SC z T n S0 v c u l p tr) = some p := by
  rw [cR (o := 8) (c := 2) (by decide) rfl]
  show some (SC2 z T n S0.2.1 u p 200 (z + 8)) = _
  rw [SC2_lg hC.1]
  rfl
theorem kNp (hC : CX z T n t S0) : pR (Yc z) 2 200 (some (z + 8)) p1 (SC z T n S0 v c u l p tr) = some (SC z T n S0 v c u l p1 tr) := by
  rw [cpR (o := 8) (c := 2) (by decide) rfl]
  show some (SC1 z T n S0.1 v c l tr.1, upN (SC2 z T n S0.2.1 u p) 200 (z + 8) p1, SC3 z S0.2.2.1 v tr, S0.2.2.2) = _
  rw [SC2_updp hC.1]
  rfl
/-! what a node is -/
theorem nd_ot (hT : isT T) : nda z T i ≠ z + 8 ∧ ∀ j, j < n → nda z T i ≠ lfa z T j := by
  unfold nda lfa
  exact ⟨by rcases hT with rfl | rfl <;> omega, fun j _ => by omega⟩
theorem cl_ot (hT : isT T) : cla z T i ≠ z + 8 ∧ ∀ j, j < n → cla z T i ≠ lfa z T j := by
  unfold cla lfa
  exact ⟨by rcases hT with rfl | rfl <;> omega, fun j _ => by omega⟩
theorem en_ot (hT : isT T) : ena z T i ≠ z + 8 ∧ ∀ j, j < n → ena z T i ≠ lfa z T j := by
  unfold ena lfa
  exact ⟨by rcases hT with rfl | rfl <;> omega, fun j _ => by omega⟩
theorem ndI' (hC : CX z T n t S0) (hi : i < n) : gI (Yc z) 4 f (some (nda z T i)) (SC z T n S0 v c u l p tr) = some (S0.1 f (nda z T i)) := by
  rw [ndI hC.1 (Nat.lt_of_lt_of_le hi (CX_n hC))]
  show some (SC1 z T n S0.1 v c l tr.1 f (nda z T i)) = _
  rw [SC1_ot (nd_ot (n := n) hC.1).1 (nd_ot hC.1).2]
theorem ndR' (hC : CX z T n t S0) (hi : i < n) : gR (Yc z) 4 f (some (nda z T i)) (SC z T n S0 v c u l p tr) = some (S0.2.1 f (nda z T i)) := by
  rw [ndR hC.1 (Nat.lt_of_lt_of_le hi (CX_n hC))]
  show some (SC2 z T n S0.2.1 u p f (nda z T i)) = _
  rw [SC2_ot (Or.inl (nd_ot (n := n) hC.1).1) (Or.inr (nd_ot hC.1).2)]
theorem clI' (hC : CX z T n t S0) (hi : i < n) : gI (Yc z) 1 f (some (cla z T i)) (SC z T n S0 v c u l p tr) = some (S0.1 f (cla z T i)) := by
  rw [clI hC.1 (Nat.lt_of_lt_of_le hi (CX_n hC))]
  show some (SC1 z T n S0.1 v c l tr.1 f (cla z T i)) = _
  rw [SC1_ot (cl_ot (n := n) hC.1).1 (cl_ot hC.1).2]
theorem clR' (hC : CX z T n t S0) (hi : i < n) : gR (Yc z) 1 f (some (cla z T i)) (SC z T n S0 v c u l p tr) = some (S0.2.1 f (cla z T i)) := by
  rw [clR hC.1 (Nat.lt_of_lt_of_le hi (CX_n hC))]
  show some (SC2 z T n S0.2.1 u p f (cla z T i)) = _
  rw [SC2_ot (Or.inl (cl_ot (n := n) hC.1).1) (Or.inr (cl_ot hC.1).2)]
theorem enI' (hC : CX z T n t S0) (hi : i < n) : gI (Yc z) 1 f (some (ena z T i)) (SC z T n S0 v c u l p tr) = some (S0.1 f (ena z T i)) := by
  rw [enI hC.1 (Nat.lt_of_lt_of_le hi (CX_n hC))]
  show some (SC1 z T n S0.1 v c l tr.1 f (ena z T i)) = _
  rw [SC1_ot (en_ot (n := n) hC.1).1 (en_ot hC.1).2]
theorem enR' (hC : CX z T n t S0) (hi : i < n) : gR (Yc z) 1 f (some (ena z T i)) (SC z T n S0 v c u l p tr) = some (S0.2.1 f (ena z T i)) := by
  rw [enR hC.1 (Nat.lt_of_lt_of_le hi (CX_n hC))]
  show some (SC2 z T n S0.2.1 u p f (ena z T i)) = _
  rw [SC2_ot (Or.inl (en_ot (n := n) hC.1).1) (Or.inr (en_ot hC.1).2)]
theorem ndF (hC : CX z T n t S0) (hi : i < n) : S0.2.1 401 (nda z T i) = some (cla z T i) ∧ S0.2.1 402 (nda z T i) = some (ena z T i) ∧ S0.2.1 403 (nda z T i) = some (lfa z T i) ∧ S0.1 400 (nda z T i) = nI i := ((hC.2.2.1.2.2.2.2.2.2.2.2.2.2.2.2.2.2.2.2.2.2.2.2.2.2.2.2.2.2.2 T hC.1).2 i (Nat.lt_of_lt_of_le hi (CX_n hC))).2
theorem k400 (hC : CX z T n t S0) (hi : i < n) : gI (Yc z) 4 400 (some (nda z T i)) (SC z T n S0 v c u l p tr) = some (nI i) := by rw [ndI' hC hi, (ndF hC hi).2.2.2]
theorem k401 (hC : CX z T n t S0) (hi : i < n) : gR (Yc z) 4 401 (some (nda z T i)) (SC z T n S0 v c u l p tr) = some (some (cla z T i)) := by rw [ndR' hC hi, (ndF hC hi).1]
theorem k402 (hC : CX z T n t S0) (hi : i < n) : gR (Yc z) 4 402 (some (nda z T i)) (SC z T n S0 v c u l p tr) = some (some (ena z T i)) := by rw [ndR' hC hi, (ndF hC hi).2.1]
theorem k403 (hC : CX z T n t S0) (hi : i < n) : gR (Yc z) 4 403 (some (nda z T i)) (SC z T n S0 v c u l p tr) = some (some (lfa z T i)) := by rw [ndR' hC hi, (ndF hC hi).2.2.1]
theorem k404 (hC : CX z T n t S0) (hi : i < n) : gI (Yc z) 4 404 (some (nda z T i)) (SC z T n S0 v c u l p tr) = some (nI (t 0 i)) := by rw [ndI' hC hi, (hC.2.2.2 i hi).1]
theorem k405 (hC : CX z T n t S0) (hi : i < n) : gI (Yc z) 4 405 (some (nda z T i)) (SC z T n S0 v c u l p tr) = some (nI (t 1 i)) := by rw [ndI' hC hi, (hC.2.2.2 i hi).2.1]
theorem k406 (hC : CX z T n t S0) (hi : i < n) : gI (Yc z) 4 406 (some (nda z T i)) (SC z T n S0 v c u l p tr) = some (nI (t 3 i)) := by rw [ndI' hC hi, (hC.2.2.2 i hi).2.2.1]
theorem k407 (hC : CX z T n t S0) (hi : i < n) : gI (Yc z) 4 407 (some (nda z T i)) (SC z T n S0 v c u l p tr) = some (nI (t 11 i)) := by rw [ndI' hC hi, (hC.2.2.2 i hi).2.2.2.1]
theorem k408 (hC : CX z T n t S0) (hi : i < n) : gR (Yc z) 4 408 (some (nda z T i)) (SC z T n S0 v c u l p tr) = some (if i = 0 then none else some (nda z T (i - 1))) := by rw [ndR' hC hi, (hC.2.2.2 i hi).2.2.2.2.1]
theorem k409 (hC : CX z T n t S0) (hi : i < n) : gR (Yc z) 4 409 (some (nda z T i)) (SC z T n S0 v c u l p tr) = some (if i = 0 then none else some (nda z T (t 2 i))) := by rw [ndR' hC hi, (hC.2.2.2 i hi).2.2.2.2.2.1]
theorem k410 (hC : CX z T n t S0) (hi : i < n) : gR (Yc z) 4 410 (some (nda z T i)) (SC z T n S0 v c u l p tr) = some (if 4 ≤ t 0 i then some (nda z T (i + 1)) else none) := by rw [ndR' hC hi, (hC.2.2.2 i hi).2.2.2.2.2.2.1]
theorem k412 (hC : CX z T n t S0) (hi : i < n) : gR (Yc z) 4 412 (some (nda z T i)) (SC z T n S0 v c u l p tr) = some (if i = 0 then none else if t 4 i < t 4 (t 2 i) then some (nda z T (t 4 i + 1)) else none) := by rw [ndR' hC hi, (hC.2.2.2 i hi).2.2.2.2.2.2.2.1]
theorem k413 (hC : CX z T n t S0) (hi : i < n) : gR (Yc z) 4 413 (some (nda z T i)) (SC z T n S0 v c u l p tr) = some (some (nda z T (t 4 i))) := by rw [ndR' hC hi, (hC.2.2.2 i hi).2.2.2.2.2.2.2.2.1]
theorem kcl0 (hC : CX z T n t S0) (hi : i < n) : gI (Yc z) 1 100 (some (cla z T i)) (SC z T n S0 v c u l p tr) = some (if t 6 i = 0 then 0 else 1) := by rw [clI' hC hi, (hC.2.2.2 i hi).2.2.2.2.2.2.2.2.2.1]
theorem ken0 (hC : CX z T n t S0) (hi : i < n) : gI (Yc z) 1 100 (some (ena z T i)) (SC z T n S0 v c u l p tr) = some (if t 9 i = 0 then 0 else 1) := by rw [enI' hC hi, (hC.2.2.2 i hi).2.2.2.2.2.2.2.2.2.2.2.1]
theorem k900 (hC : CX z T n t S0) : gR (Yc z) 9 900 (some (z + 5)) (SC z T n S0 v c u l p tr) = some (some (z + 6)) := by
  rw [cR (o := 5) (c := 9) (by decide) rfl]
  show some (SC2 z T n S0.2.1 u p 900 (z + 5)) = _
  rw [SC2_ot (Or.inr (by decide)) (Or.inl (by decide))]
  exact (cR (o := 5) (c := 9) (by decide) rfl).symm.trans (cR900_5 hC.2.2.1)
theorem k901 (hC : CX z T n t S0) : gR (Yc z) 9 901 (some (z + 5)) (SC z T n S0 v c u l p tr) = some (some (z + 8)) := by
  rw [cR (o := 5) (c := 9) (by decide) rfl]
  show some (SC2 z T n S0.2.1 u p 901 (z + 5)) = _
  rw [SC2_ot (Or.inr (by decide)) (Or.inl (by decide))]
  exact (cR (o := 5) (c := 9) (by decide) rfl).symm.trans (cR901_5 hC.2.2.1)
theorem k0 (hC : CX z T n t S0) : gR (Yc z) 0 0 (some (z + 6)) (SC z T n S0 v c u l p tr) = some (some (z + 7)) := by
  rw [cR (o := 6) (c := 0) (by decide) rfl]
  show some (SC2 z T n S0.2.1 u p 0 (z + 6)) = _
  rw [SC2_ot (Or.inr (by decide)) (Or.inl (by decide))]
  exact (cR (o := 6) (c := 0) (by decide) rfl).symm.trans (cR0_6 hC.2.2.1)
theorem k209 (hC : CX z T n t S0) : gR (Yc z) 2 209 (some (z + 8)) (SC z T n S0 v c u l p tr) = some (some (z + 9)) := by
  rw [cR (o := 8) (c := 2) (by decide) rfl]
  show some (SC2 z T n S0.2.1 u p 209 (z + 8)) = _
  rw [SC2_ot (Or.inr (by decide)) (Or.inl (by decide))]
  exact (cR (o := 8) (c := 2) (by decide) rfl).symm.trans (cR209_8 hC.2.2.1)
theorem k210 (hC : CX z T n t S0) : gR (Yc z) 2 210 (some (z + 8)) (SC z T n S0 v c u l p tr) = some (some (z + 10)) := by
  rw [cR (o := 8) (c := 2) (by decide) rfl]
  show some (SC2 z T n S0.2.1 u p 210 (z + 8)) = _
  rw [SC2_ot (Or.inr (by decide)) (Or.inl (by decide))]
  exact (cR (o := 8) (c := 2) (by decide) rfl).symm.trans (cR210_8 hC.2.2.1)
theorem k208 (hC : CX z T n t S0) : gI (Yc z) 2 208 (some (z + 8)) (SC z T n S0 v c u l p tr) = some (nI tr.1) := by
  rw [cI (o := 8) (c := 2) (by decide) rfl]
  show some (SC1 z T n S0.1 v c l tr.1 208 (z + 8)) = _
  rw [SC1_lg hC.1]
  rfl
theorem kg (hk : k < 8) : gA (Yc z) 14 (some (z + 7)) (nI k) (SC z T n S0 v c u l p tr) = some (v (264 + k)) := by
  rw [cA (o := 7) (k := 14) (by decide) rfl (by exact hk)]
  show some (SC3 z S0.2.2.1 v tr (z + 7) k) = _
  unfold SC3
  rw [if_pos ⟨rfl, hk⟩]
theorem kgp (hC : CX z T n t S0) (hk : k < 8) : pA (Yc z) 14 (some (z + 7)) (nI k) x (SC z T n S0 v c u l p tr) = some (SC z T n S0 (upd v (264 + k) x) c u l p tr) := by
  have hn := CX_n hC
  rw [cwA (o := 7) (k := 14) (by decide) rfl (by exact hk)]
  have e1 : SC1 z T n S0.1 (upd v (264 + k) x) c l tr.1 = SC1 z T n S0.1 v c l tr.1 := by
    funext f a
    unfold SC1
    cases e : lx z T n a with
    | none =>
      show (if a = z + 8 then lvG S0.1 (upd v (264 + k) x) tr.1 f a else S0.1 f a) = (if a = z + 8 then lvG S0.1 v tr.1 f a else S0.1 f a)
      unfold lvG
      cases eg : plG f with
      | none => rfl
      | some w =>
        have := plG_lt eg
        show (if a = z + 8 then upd v (264 + k) x w else S0.1 f a) = (if a = z + 8 then v w else S0.1 f a)
        rw [pk_un (by omega)]
    | some i =>
      have hi := (lx_some e).2
      show lvI S0.1 (upd v (264 + k) x) c l f a i = lvI S0.1 v c l f a i
      unfold lvI
      cases ef : plF f with
      | none => rfl
      | some w =>
        have := plF_lt ef
        exact pk_un (by omega)
  have e3 : upN (SC3 z S0.2.2.1 v tr) (z + 7) k x = SC3 z S0.2.2.1 (upd v (264 + k) x) tr := by
    funext a j
    unfold upN SC3
    by_cases h : a = z + 7 ∧ j < 8
    · rw [if_pos h, if_pos h]
      by_cases hj : j = k
      · subst hj
        rw [if_pos ⟨h.1, rfl⟩, pk_us]
      · rw [if_neg (fun q => hj q.2), pk_un (by omega)]
    · rw [if_neg h, if_neg h, if_neg (fun q => h ⟨q.1, by omega⟩)]
  show some (SC1 z T n S0.1 v c l tr.1, SC2 z T n S0.2.1 u p, upN (SC3 z S0.2.2.1 v tr) (z + 7) k x, S0.2.2.2) = _
  rw [e3]
  unfold SC
  rw [e1]
end KX
