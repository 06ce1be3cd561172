/-! readTree: the head of a node, both programs side by side -/
/-- what a head's reading may change -/
def HFR (z T a n : Nat) (S1 S : HS) : Prop := S.2.2 = S1.2.2 ∧ (∀ f x, ¬ (f = 502 ∧ x = a) → ¬ (f = 405 ∧ x = nda z T n) → ¬ ((100 ≤ f ∧ f ≤ 104) ∧ (x = cla z T n ∨ x = ena z T n)) → S.1 f x = S1.1 f x) ∧ ∀ f x, ¬ (f = 104 ∧ (x = cla z T n ∨ x = ena z T n)) → S.2.1 f x = S1.2.1 f x
def NCX (z T : Nat) (t : TT) (n ad key s w : Nat) (S : HS) : Prop := S.1 100 ad = (if s = 0 then 0 else 1) ∧ (s ≠ 0 → S.1 101 ad = nI key ∧ S.1 102 ad = sgC s ∧ S.1 103 ad = nI w ∧ S.2.1 104 ad = (scO t key n).map (nda z T))
def HDD (z T a n : Nat) (t : TT) (S1 S : HS) (o nb key s w ek es ew : Nat) : Prop := HFR z T a n S1 S ∧ S.1 502 a = nI o ∧ S.1 405 (nda z T n) = nI nb ∧ NCX z T t n (cla z T n) key s w S ∧ NCX z T t n (ena z T n) ek es ew S
/-- the reference's row of the node -/
def RR (ρ : Nat → Int32) (k : Nat) (v : Int32) (d nb key s w ek es ew : Nat) : Prop := ρ 0 = nI k ∧ ρ 1 = nI nb ∧ ρ 2 = v ∧ ρ 3 = nI (d + 1) ∧ ρ 5 = nI key ∧ ρ 6 = nI s ∧ ρ 7 = nI w ∧ ρ 8 = nI ek ∧ ρ 9 = nI es ∧ ρ 10 = nI ew
def DTX (k nb key s w ek es ew : Nat) : Prop := (nb ≤ 9 ∧ key ≤ 7 ∧ s ≤ 6 ∧ w ≤ 99 ∧ ek ≤ 7 ∧ es ≤ 6 ∧ ew ≤ 99) ∧
  ((k = 2 ∨ k = 12) → 1 ≤ s ∧ s ≤ 3) ∧ (k = 3 → 4 ≤ s) ∧ (k < 2 → s = 0 ∨ 4 ≤ s) ∧ (3 < k → k ≠ 12 → s = 0) ∧ (k < 2 → es = 0 ∨ 4 ≤ es) ∧ (2 ≤ k → es = 0) ∧ ((k = 10 ∨ k = 11) → 1 ≤ nb) ∧ (k = 14 → nb ≤ 7) ∧ ((2 ≤ k ∧ k < 8 ∨ k = 9 ∨ k = 12) → nb = 0)
def HLX (k nb key s w ek es ew : Nat) : Nat := ((if k < 2 ∨ k = 8 ∨ k = 10 ∨ k = 11 ∨ k = 13 ∨ k = 14 then [48 + nb] else []) ++ (clL key s w ++ ((if es = 0 then [] else 126 :: clL ek es ew) ++ (if 4 ≤ k ∧ k ≤ 8 then [40] else [])))).length
def JF (z T a n b K d : Nat) (M : HS) (A : Nat → Nat → Int32) (op : Nat → Int32) (S1 : HS) (C : Option (HS × Int32)) (R : Option HS) : Prop := ∃ S2 o1 ρ1, C = some (S2, 0) ∧ HFR z T a n S1 S2 ∧ S2.1 502 a = nI o1 ∧ o1 ≤ K ∧ R = some (RdM b M (RW A n ρ1) op o1 (n + 1) d 1 0) ∧ STRR ρ1
def JL (z T a n b K d o k : Nat) (v : Int32) (t : TT) (M : HS) (A : Nat → Nat → Int32) (op : Nat → Int32) (S1 : HS) (C : Option (HS × Int32)) (R : Option HS) : Prop := ∃ S2 o1 nb key s w ek es ew ρ1, C = some (S2, 1) ∧ HDD z T a n t S1 S2 o1 nb key s w ek es ew ∧ o1 ≤ K ∧ R = some (RdM b M (RW A n ρ1) op o1 (n + 1) d 0 0) ∧ RR ρ1 k v d nb key s w ek es ew ∧ ρ1 4 = nI n ∧ DTX k nb key s w ek es ew ∧ o + HLX k nb key s w ek es ew ≤ o1
def JI (z T a n b K d o k : Nat) (v : Int32) (t : TT) (M : HS) (A : Nat → Nat → Int32) (op : Nat → Int32) (kN : HS → Option Nat → Option Nat → Int32 → Option (HS × Int32)) (Y : LY) (dp : Int32) (S1 : HS) (C : Option (HS × Int32)) (R : Option HS) : Prop := ∃ S2 o1 nb key s w ek es ew ρ1, HDD z T a n t S1 S2 o1 nb key s w ek es ew ∧ o1 ≤ K ∧ R = some (RdM b M (RW A n ρ1) (upd op d (nI n)) o1 (n + 1) (d + 1) 0 1) ∧ RR ρ1 k v d nb key s w ek es ew ∧ DTX k nb key s w ek es ew ∧ o + HLX k nb key s w ek es ew ≤ o1 ∧
  (k ≤ 8 → ∀ S3 r, (r = 0 ∨ r = 1) → fX5_readList_13 kN Y FU S2 (some a) (some (nda z T n)) dp 0 = some (S3, r) → C = some (S3, r)) ∧ (9 ≤ k → ∀ S3 r, (r = 0 ∨ r = 1) → kN S2 (some a) (some (nda z T n)) (dp + 1) = some (S3, r) → C = some (S3, r))
section JHD
variable {z T a b n i j k c d e o o1 K key s w nb ek es ew m x : Nat} {L : Nat → Nat} {M S S1 : HS} {Y : LY} {v dp : Int32} {t : TT} {A : Nat → Nat → Int32} {op ρ : Nat → Int32} {kN : HS → Option Nat → Option Nat → Int32 → Option (HS × Int32)}
theorem HFR_rfl : HFR z T a n S S := ⟨rfl, fun _ _ _ _ _ => rfl, fun _ _ _ => rfl⟩
theorem hd_txc (h : HFR z T a n S1 S) (hT : TXC z K L S1) : TXC z K L S := ⟨(h.2.1 701 _ (by omega) (by omega) (by omega)).trans hT.1, (h.2.2 700 _ (by omega)).trans hT.2.1, hT.2.2.1, fun j hj => ⟨(hT.2.2.2 j hj).1, by rw [h.1]; exact (hT.2.2.2 j hj).2⟩⟩
theorem hd_po (h : HFR z T a n S1 S) (ho : S.1 502 a = nI o1) (hO : PO z T a Y S1 o) : PO z T a Y S o1 := ⟨hO.1, (h.2.2 500 _ (by omega)).trans hO.2.1, (h.2.2 501 _ (by omega)).trans hO.2.2.1, ho⟩
theorem hd_scf (h : HFR z T a n S1 S) (hS : SCF z T n t S1) : SCF z T n t S := SCF_congr (fun i hi => ⟨h.2.1 404 _ (by omega) (by omega) (by omega), h.2.1 405 _ (by omega) (fun q => by have := nda_inj q.2; omega) (by omega)⟩) (fun x => h.2.2 409 x (by omega)) hS
theorem HFR_ofs (h : HFR z T a n S1 S) : HFR z T a n S1 (OFS S a o) := ⟨h.1, fun f x h1 h2 h3 => (show upN S.1 502 a (nI o) f x = S.1 f x from upN_ne (by by_cases q : f = 502; exact Or.inr (fun q1 => h1 ⟨q, q1⟩); exact Or.inl q)).trans (h.2.1 f x h1 h2 h3), h.2.2⟩
theorem hd_ofs (h : HDD z T a n t S1 S o nb key s w ek es ew) : HDD z T a n t S1 (OFS S a o1) o1 nb key s w ek es ew := ⟨HFR_ofs h.1, upN_self, h.2.2.1, h.2.2.2⟩
theorem hd_num (h : HDD z T a n t S1 S o nb key s w ek es ew) : HDD z T a n t S1 (upN (OFS S a o1).1 405 (nda z T n) (nI x), S.2) o1 x key s w ek es ew := by
  have g := HFR_ofs (o := o1) h.1
  refine ⟨⟨g.1, fun f y h1 h2 h3 => ?_, g.2.2⟩, ?_, upN_self, h.2.2.2⟩
  · exact (upN_ne (by by_cases q : f = 405; exact Or.inr (fun q1 => h2 ⟨q, q1⟩); exact Or.inl q)).trans (g.2.1 f y h1 h2 h3)
  · exact (show _ = upN S.1 502 a (nI o1) 502 a from rfl).trans upN_self
theorem ad_ne : nda z T n ≠ cla z T n ∧ nda z T n ≠ ena z T n ∧ cla z T n ≠ ena z T n := by
  have := ad4 (z := z) (T := T) (n := n)
  omega
theorem CLS_I {ad : Nat} {sc : Option Nat} {f y : Nat} (h1 : ¬ (f = 502 ∧ y = a)) (h2 : ¬ ((100 ≤ f ∧ f ≤ 103) ∧ y = ad)) : (CLS S a ad o1 key s w sc).1 f y = S.1 f y := by
  show upN (upN (upN (upN (upN S.1 502 a (nI o1)) 100 ad 1) 101 ad (nI key)) 102 ad (sgC s)) 103 ad (nI w) f y = _
  have hx : ∀ g, 100 ≤ g → g ≤ 103 → f ≠ g ∨ y ≠ ad := fun g g1 g2 => by
    by_cases q : f = g
    · exact Or.inr (fun q1 => h2 ⟨by omega, q1⟩)
    · exact Or.inl q
  rw [upN_ne (hx 103 (by omega) (by omega)), upN_ne (hx 102 (by omega) (by omega)), upN_ne (hx 101 (by omega) (by omega)), upN_ne (hx 100 (by omega) (by omega)), upN_ne (by by_cases q : f = 502; exact Or.inr (fun q1 => h1 ⟨q, q1⟩); exact Or.inl q)]
theorem CLS_R {ad : Nat} {sc : Option Nat} {f y : Nat} (h : ¬ (f = 104 ∧ y = ad)) : (CLS S a ad o1 key s w sc).2.1 f y = S.2.1 f y := upN_ne (by by_cases q : f = 104; exact Or.inr (fun q1 => h ⟨q, q1⟩); exact Or.inl q)
theorem CLS_own {ad : Nat} {sc : Option Nat} : (CLS S a ad o1 key s w sc).1 100 ad = 1 ∧ (CLS S a ad o1 key s w sc).1 101 ad = nI key ∧ (CLS S a ad o1 key s w sc).1 102 ad = sgC s ∧ (CLS S a ad o1 key s w sc).1 103 ad = nI w ∧ (CLS S a ad o1 key s w sc).2.1 104 ad = sc ∧ (CLS S a ad o1 key s w sc).1 502 a = nI o1 :=
  ⟨(show _ = upN (upN S.1 502 a (nI o1)) 100 ad 1 100 ad from rfl).trans upN_self, (show _ = upN (upN (upN S.1 502 a (nI o1)) 100 ad 1) 101 ad (nI key) 101 ad from rfl).trans upN_self, (show _ = upN (upN (upN (upN S.1 502 a (nI o1)) 100 ad 1) 101 ad (nI key)) 102 ad (sgC s) 102 ad from rfl).trans upN_self, upN_self, upN_self, (show _ = upN S.1 502 a (nI o1) 502 a from rfl).trans upN_self⟩
theorem HFR_cls {ad : Nat} {sc : Option Nat} (had : ad = cla z T n ∨ ad = ena z T n) (h : HFR z T a n S1 S) : HFR z T a n S1 (CLS S a ad o1 key s w sc) := by
  refine ⟨h.1, fun f y h1 h2 h3 => ?_, fun f y h1 => ?_⟩
  · rw [CLS_I h1 (fun q => h3 ⟨by omega, by rw [q.2]; exact had⟩)]
    exact h.2.1 f y h1 h2 h3
  · rw [CLS_R (fun q => h1 ⟨q.1, by rw [q.2]; exact had⟩)]
    exact h.2.2 f y h1
theorem hd_cla (hs : s ≠ 0) {key0 s0 w0 : Nat} (h : HDD z T a n t S1 S o nb key0 s0 w0 ek es ew) : HDD z T a n t S1 (CLS S a (cla z T n) o1 key s w ((scO t key n).map (nda z T))) o1 nb key s w ek es ew := by
  have hv := ad_ne (z := z) (T := T) (n := n)
  obtain ⟨g1, g2, g3, g4, g5, g6⟩ := CLS_own (S := S) (a := a) (o1 := o1) (key := key) (s := s) (w := w) (ad := cla z T n) (sc := (scO t key n).map (nda z T))
  refine ⟨HFR_cls (Or.inl rfl) h.1, g6, (CLS_I (by omega) (by omega)).trans h.2.2.1, ⟨by rw [g1, if_neg hs], fun _ => ⟨g2, g3, g4, g5⟩⟩, ?_⟩
  have := h.2.2.2.2
  unfold NCX at *
  rw [CLS_I (by omega) (by omega), CLS_I (by omega) (by omega), CLS_I (by omega) (by omega), CLS_I (by omega) (by omega), CLS_R (by omega)]
  exact this
theorem hd_ena (hs : es ≠ 0) {key0 s0 w0 : Nat} (h : HDD z T a n t S1 S o nb key s w key0 s0 w0) : HDD z T a n t S1 (CLS S a (ena z T n) o1 ek es ew ((scO t ek n).map (nda z T))) o1 nb key s w ek es ew := by
  have hv := ad_ne (z := z) (T := T) (n := n)
  obtain ⟨g1, g2, g3, g4, g5, g6⟩ := CLS_own (S := S) (a := a) (o1 := o1) (key := ek) (s := es) (w := ew) (ad := ena z T n) (sc := (scO t ek n).map (nda z T))
  refine ⟨HFR_cls (Or.inr rfl) h.1, g6, (CLS_I (by omega) (by omega)).trans h.2.2.1, ?_, ⟨by rw [g1, if_neg hs], fun _ => ⟨g2, g3, g4, g5⟩⟩⟩
  have := h.2.2.2.1
  unfold NCX at *
  rw [CLS_I (by omega) (by omega), CLS_I (by omega) (by omega), CLS_I (by omega) (by omega), CLS_I (by omega) (by omega), CLS_R (by omega)]
  exact this
theorem hr_dig (hT : TXC z K L S) (o : Nat) : (hr L K o < 48 ∨ (¬ hr L K o < 48 ∧ 57 < hr L K o) ↔ ¬ (dgt L K 0 9 o).isSome = true) := by
  have tb : ∀ c, c < 128 → (if nI c < 48 then (0 : Int32) else if 57 < nI c then 0 else 1) = (if 48 ≤ c ∧ c ≤ 57 then 1 else 0) := by decide +kernel
  unfold dgt
  obtain ⟨c, ⟨h1, h2, h3, h4⟩ | ⟨h2, h4⟩⟩ := hr_c hT o
  · rw [h4, h3]
    have := tb c (by omega)
    by_cases q : 48 ≤ c ∧ c ≤ 57
    · rw [if_pos q] at this
      rw [if_pos (c := o < K ∧ 48 + 0 ≤ c ∧ c ≤ 48 + 9) ⟨h2, by omega, by omega⟩]
      refine ⟨fun y => ?_, fun y => absurd rfl y⟩
      rcases y with y | ⟨y, y2⟩
      · rw [if_pos y] at this; exact absurd this (by decide)
      · rw [if_neg y, if_pos y2] at this; exact absurd this (by decide)
    · rw [if_neg q] at this
      rw [if_neg (c := o < K ∧ 48 + 0 ≤ c ∧ c ≤ 48 + 9) (fun y => q ⟨by omega, by omega⟩)]
      refine ⟨fun _ y => (by cases y), fun _ => ?_⟩
      by_cases a1 : nI c < 48
      · exact Or.inl a1
      · rw [if_neg a1] at this
        by_cases a2 : 57 < nI c
        · exact Or.inr ⟨a1, a2⟩
        · rw [if_neg a2] at this; exact absurd this (by decide)
  · rw [h4, if_neg (c := o < K ∧ 48 + 0 ≤ L o ∧ L o ≤ 48 + 9) (fun y => h2 y.1)]
    exact ⟨fun _ y => (by cases y), fun _ => Or.inl (by decide)⟩
theorem c_eff (hY : ExY z Y) (hT : TXC z K L S) (hO : PO z T a Y S o) (ho : o ≤ K) {l1 : Option Nat} : fX5_readEffects Y S (some a) l1 = (if (dgt L K 0 9 o).isSome = true then (gR Y 4 401 l1 S).bind fun v27 => (rcv Y 5 (some a)).bind fun _ => (fX5_readClause Y S (some a) l1 v27 2).bind fun q32 => if q32.2 = 0 then some (q32.1, 0) else fX5_readEffects_40 Y q32.1 (some a) l1 else fX5_readEffects_40 Y S (some a) l1) := by
  have hd := hr_dig hT o
  unfold fX5_readEffects
  refine bnd (po_500 hO) ?_
  refine bnd (po_502 hO) ?_
  refine bnd (drcv hY (o := 1) (c := 7) (by decide) rfl) ?_
  refine bnd (c_code hY hT ho) ?_
  by_cases h1 : hr L K o < 48
  · rw [if_neg (hd.mp (Or.inl h1))]
    exact if_pos h1
  · by_cases h2 : 57 < hr L K o
    · rw [if_neg (hd.mp (Or.inr ⟨h1, h2⟩))]
      refine ifN h1 ?_
      exact if_pos h2
    · rw [if_pos (c := (dgt L K 0 9 o).isSome = true) (by
        by_cases q : (dgt L K 0 9 o).isSome = true
        · exact q
        · rcases hd.mpr q with y | y
          · exact absurd y h1
          · exact absurd y.2 h2)]
      refine ifN h1 ?_
      exact if_neg h2
/-! the reference's ways -/
theorem r_244_hi (hk : 2 ≤ k) (hk2 : k < 15) (h3 : k ≠ 3) {fl : Int32} : fX12_begins_244 (Ym b) (RdM b M A op o m d fl 0) (some b) (nI k) (nI n) = fX12_begins_300 (Ym b) (RdM b M A op o m d fl 0) (some b) (nI k) (nI n) := by
  unfold fX12_begins_244
  refine ifN (nIn h3 (by omega) (by omega)) ?_
  refine ifP (show (2 : Int32) ≤ nI k from nI_le (a := 2) hk (by omega)) ?_
  exact r_274_hi hk hk2
theorem r_219_hi (hk : 4 ≤ k) (hk2 : k < 15) (h12 : k ≠ 12) : fX12_begins_219 (Ym b) (RdM b M A op o m d 0 0) (some b) (nI k) (nI n) = fX12_begins_300 (Ym b) (RdM b M A op o m d 0 0) (some b) (nI k) (nI n) := by
  unfold fX12_begins_219
  refine bnd q1222 ?_
  refine ifP rfl ?_
  refine ifN (nIn (show k ≠ 2 by omega) (by omega) (by omega)) ?_
  refine ifN (nIn h12 (by omega) (by omega)) ?_
  exact r_244_hi (by omega) hk2 (by omega)
theorem r_200_no (hk : k < 15) (hk2 : k ≠ 14) {S : HS} : fX12_begins_200 (Ym b) S (some b) (nI k) (nI n) = fX12_begins_219 (Ym b) S (some b) (nI k) (nI n) := by
  unfold fX12_begins_200
  exact if_neg (nIn hk2 (by omega) (by omega))
/-- the state at the dispatch -/
theorem r_132 (hB : MB b K L M) (hn : n < 24) {res : Option HS} (h : (if nI k < 2 then fX12_begins_162 (Ym b) (RdM b M (RW A n (upd (upd ρ 2 v) 3 (nI (d + 1)))) op o m d 0 0) (some b) (nI k) (nI n) else if nI k = 8 then fX12_begins_162 (Ym b) (RdM b M (RW A n (upd (upd ρ 2 v) 3 (nI (d + 1)))) op o m d 0 0) (some b) (nI k) (nI n) else if nI k = 13 then fX12_begins_162 (Ym b) (RdM b M (RW A n (upd (upd ρ 2 v) 3 (nI (d + 1)))) op o m d 0 0) (some b) (nI k) (nI n) else if nI k = 10 then fX12_begins_187 (Ym b) (RdM b M (RW A n (upd (upd ρ 2 v) 3 (nI (d + 1)))) op o m d 0 0) (some b) (nI k) (nI n) else if nI k = 11 then fX12_begins_187 (Ym b) (RdM b M (RW A n (upd (upd ρ 2 v) 3 (nI (d + 1)))) op o m d 0 0) (some b) (nI k) (nI n) else fX12_begins_200 (Ym b) (RdM b M (RW A n (upd (upd ρ 2 v) 3 (nI (d + 1)))) op o m d 0 0) (some b) (nI k) (nI n)) = res) : fX12_begins_132 (Ym b) (RdM b M (RW A n ρ) op o m d 0 0) (some b) (nI k) (nI n) (some (b + 19)) (nI n) v = res := by
  unfold fX12_begins_132
  refine bnd (wRow (c := 2) (by omega) hn) ?_
  refine bnd (mR1226 hB.1) ?_
  refine bnd q1235 ?_
  rw [nI_1]
  refine bnd (wRow (c := 3) (by omega) hn) ?_
  exact h
/-- a number that both read -/
theorem r_162 (hB : MB b K L M) (hn : n < 24) (ho : o ≤ K) (hk : k < 15) (hk2 : k ≠ 10 ∧ k ≠ 11) : (∀ x, dgt L K 0 9 o = some x → fX12_begins_162 (Ym b) (RdM b M (RW A n ρ) op o m d 0 0) (some b) (nI k) (nI n) = fX12_begins_200 (Ym b) (RdM b M (RW A n (upd ρ 1 (nI x))) op (o + 1) m d 0 0) (some b) (nI k) (nI n)) ∧ (dgt L K 0 9 o = none → k ≠ 14 → fX12_begins_162 (Ym b) (RdM b M (RW A n ρ) op o m d 0 0) (some b) (nI k) (nI n) = some (RdM b M (RW A n (upd ρ 1 (nI 0))) op o m d 1 0)) := by
  refine ⟨fun x hx => ?_, fun hx h14 => ?_⟩
  · unfold fX12_begins_162
    refine bnd (mR1224 hB.1) ?_
    refine bnd mrcv ?_
    refine bnd ((r_dig hB ho (lo := 0) (hi := 9) (by omega) (by omega)).1 x hx) ?_
    refine bnd (wRow (c := 1) (by omega) hn) ?_
    refine ifN (nIn hk2.1 (by omega) (by omega)) ?_
    refine ifN (nIn hk2.2 (by omega) (by omega)) ?_
    rfl
  · unfold fX12_begins_162
    refine bnd (mR1224 hB.1) ?_
    refine bnd mrcv ?_
    refine bnd ((r_dig hB ho (lo := 0) (hi := 9) (by omega) (by omega)).2 hx) ?_
    refine bnd (wRow (c := 1) (by omega) hn) ?_
    refine ifN (nIn hk2.1 (by omega) (by omega)) ?_
    refine ifN (nIn hk2.2 (by omega) (by omega)) ?_
    rw [r_200_no hk h14]
    exact r_219_f (by decide)
theorem r_187 (hB : MB b K L M) (hn : n < 24) (ho : o ≤ K) : (∀ x, dgt L K 1 9 o = some x → fX12_begins_187 (Ym b) (RdM b M (RW A n ρ) op o m d 0 0) (some b) (nI k) (nI n) = fX12_begins_200 (Ym b) (RdM b M (RW A n (upd ρ 1 (nI x))) op (o + 1) m d 0 0) (some b) (nI k) (nI n)) ∧ (dgt L K 1 9 o = none → k < 14 → fX12_begins_187 (Ym b) (RdM b M (RW A n ρ) op o m d 0 0) (some b) (nI k) (nI n) = some (RdM b M (RW A n (upd ρ 1 (nI 0))) op o m d 1 0)) := by
  refine ⟨fun x hx => ?_, fun hx h14 => ?_⟩
  · unfold fX12_begins_187
    refine bnd (mR1224 hB.1) ?_
    refine bnd mrcv ?_
    refine bnd ((r_dig hB ho (lo := 1) (hi := 9) (by omega) (by omega)).1 x hx) ?_
    refine bnd (wRow (c := 1) (by omega) hn) ?_
    rfl
  · unfold fX12_begins_187
    refine bnd (mR1224 hB.1) ?_
    refine bnd mrcv ?_
    refine bnd ((r_dig hB ho (lo := 1) (hi := 9) (by omega) (by omega)).2 hx) ?_
    refine bnd (wRow (c := 1) (by omega) hn) ?_
    rw [r_200_no (by omega) (by omega)]
    exact r_219_f (by decide)
theorem r_200_14 (hB : MB b K L M) (hn : n < 24) (ho : o ≤ K) : (∀ x, dgt L K 0 7 o = some x → fX12_begins_200 (Ym b) (RdM b M (RW A n ρ) op o m d 0 0) (some b) (nI 14) (nI n) = fX12_begins_219 (Ym b) (RdM b M (RW A n (upd ρ 1 (nI x))) op (o + 1) m d 0 0) (some b) (nI 14) (nI n)) ∧ (dgt L K 0 7 o = none → fX12_begins_200 (Ym b) (RdM b M (RW A n ρ) op o m d 0 0) (some b) (nI 14) (nI n) = some (RdM b M (RW A n (upd ρ 1 (nI 0))) op o m d 1 0)) := by
  refine ⟨fun x hx => ?_, fun hx => ?_⟩
  · unfold fX12_begins_200
    refine ifP rfl ?_
    refine bnd (mR1224 hB.1) ?_
    refine bnd mrcv ?_
    refine bnd ((r_dig hB ho (lo := 0) (hi := 7) (by omega) (by omega)).1 x hx) ?_
    refine bnd (wRow (c := 1) (by omega) hn) ?_
    rfl
  · unfold fX12_begins_200
    refine ifP rfl ?_
    refine bnd (mR1224 hB.1) ?_
    refine bnd mrcv ?_
    refine bnd ((r_dig hB ho (lo := 0) (hi := 7) (by omega) (by omega)).2 hx) ?_
    refine bnd (wRow (c := 1) (by omega) hn) ?_
    exact r_219_f (by decide)
end JHD
