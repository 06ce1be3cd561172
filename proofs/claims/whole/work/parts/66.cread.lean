/-! readTree: the class' small methods -/
/-- the text in the class' heap -/
def TXC (z K : Nat) (L : Nat → Nat) (S : HS) : Prop := S.1 701 (z + 1) = nI K ∧ S.2.1 700 (z + 1) = some (z + 2) ∧ K ≤ 70 ∧ ∀ j, j < K → L j ≤ 127 ∧ S.2.2.1 (z + 2) j = nI (L j)
/-- the parser's own object -/
def PO (z T a : Nat) (Y : LY) (S : HS) (o : Nat) : Prop := chk Y 5 a = true ∧ S.2.1 500 a = some (z + 1) ∧ S.2.1 501 a = some (z + T) ∧ S.1 502 a = nI o
def OFS (S : HS) (a o : Nat) : HS := (upN S.1 502 a (nI o), S.2)
/-- what a scope is found by -/
def SCF (z T n : Nat) (t : TT) (S : HS) : Prop := (∀ i, i < n → S.1 404 (nda z T i) = nI (t 0 i) ∧ t 0 i < 15 ∧ S.1 405 (nda z T i) = nI (t 1 i) ∧ t 1 i ≤ 9) ∧ (∀ i, i ≤ n → S.2.1 409 (nda z T i) = (if i = 0 then none else some (nda z T (t 2 i))) ∧ (0 < i → t 2 i < i))
section CRD
variable {z T n i j k c d e o o1 K key s w m x a ad lo hi : Nat} {L : Nat → Nat} {S S1 : HS} {Y : LY} {v : Int32} {t : TT}
theorem OFS_OFS : OFS (OFS S a o) a o1 = OFS S a o1 := by
  unfold OFS
  have e : upN (upN S.1 502 a (nI o)) 502 a (nI o1) = upN S.1 502 a (nI o1) := by
    funext f x
    unfold upN
    split <;> rfl
  show (upN (upN S.1 502 a (nI o)) 502 a (nI o1), S.2) = _
  rw [e]
theorem OFS_self (h : S.1 502 a = nI o) : OFS S a o = S := by
  unfold OFS
  have e : upN S.1 502 a (nI o) = S.1 := by
    funext f x
    unfold upN
    split
    · rename_i q; rw [q.1, q.2, h]
    · rfl
  rw [e]
theorem PO_ofs (h : PO z T a Y S o) : PO z T a Y (OFS S a o1) o1 := ⟨h.1, h.2.1, h.2.2.1, upN_self⟩
theorem TXC_ofs (h : TXC z K L S) : TXC z K L (OFS S a o1) := ⟨h.1, h.2⟩
theorem SCF_congr (h : ∀ i, i < n → S1.1 404 (nda z T i) = S.1 404 (nda z T i) ∧ S1.1 405 (nda z T i) = S.1 405 (nda z T i)) (hR : ∀ x, S1.2.1 409 x = S.2.1 409 x) (hS : SCF z T n t S) : SCF z T n t S1 :=
  ⟨fun i hi => ⟨(h i hi).1.trans (hS.1 i hi).1, (hS.1 i hi).2.1, (h i hi).2.trans (hS.1 i hi).2.2.1, (hS.1 i hi).2.2.2⟩, fun i hi => ⟨(hR _).trans (hS.2 i hi).1, (hS.2 i hi).2⟩⟩
theorem po_500 (h : PO z T a Y S o) : gR Y 5 500 (some a) S = some (some (z + 1)) := by
  show (if chk Y 5 a = true then some (S.2.1 500 a) else none) = _
  rw [if_pos h.1, h.2.1]
theorem po_501 (h : PO z T a Y S o) : gR Y 5 501 (some a) S = some (some (z + T)) := by
  show (if chk Y 5 a = true then some (S.2.1 501 a) else none) = _
  rw [if_pos h.1, h.2.2.1]
theorem po_502 (h : PO z T a Y S o) : gI Y 5 502 (some a) S = some (nI o) := by
  show (if chk Y 5 a = true then some (S.1 502 a) else none) = _
  rw [if_pos h.1, h.2.2.2]
theorem po_rcv (h : PO z T a Y S o) : rcv Y 5 (some a) = some () := by
  show (if chk Y 5 a = true then some () else none) = _
  rw [if_pos h.1]
theorem po_w502 (h : PO z T a Y S o) {v : Int32} (hv : v = nI o1) : pI Y 5 502 (some a) v S = some (OFS S a o1) := by
  subst hv
  show (if chk Y 5 a = true then some (upN S.1 502 a (nI o1), S.2) else none) = _
  rw [if_pos h.1]
  rfl
theorem c_code (hY : ExY z Y) (hT : TXC z K L S) (ho : o ≤ K) : fX7_codeAt Y S (some (z + 1)) (nI o) = some (hr L K o) := by
  obtain ⟨h1, h2, h3, h4⟩ := hT
  unfold fX7_codeAt hr
  refine ifN (nI_pos (by omega)) ?_
  refine bnd (dI_of hY (o := 1) (c := 7) (by decide) rfl h1) ?_
  by_cases h : o < K
  · rw [if_pos h]
    refine ifN (nI_ge h (by omega)) ?_
    refine bnd (dR_of hY (o := 1) (c := 7) (by decide) rfl h2) ?_
    refine bnd (daL hY (o := 2) (c := 13) (by decide) rfl) ?_
    refine ifP (nI_lt (b := 70) (by omega) (by decide)) ?_
    refine bnd (dR_of hY (o := 1) (c := 7) (by decide) rfl h2) ?_
    refine bnd (dA hY (o := 2) (c := 13) (by decide) rfl (show o < 70 by omega)) ?_
    exact congrArg some (h4 o h).2
  · rw [if_neg h]
    exact if_pos (nI_le (by omega) (by omega))
theorem hr_c (hT : TXC z K L S) (o : Nat) : ∃ c, (c ≤ 127 ∧ o < K ∧ L o = c ∧ hr L K o = nI c) ∨ (¬ o < K ∧ hr L K o = -1) := by
  unfold hr
  by_cases hlt : o < K
  · exact ⟨L o, Or.inl ⟨(hT.2.2.2 o hlt).1, hlt, rfl, if_pos hlt⟩⟩
  · exact ⟨0, Or.inr ⟨hlt, if_neg hlt⟩⟩
theorem c_dig (hY : ExY z Y) (hT : TXC z K L S) (hO : PO z T a Y S o) (ho : o ≤ K) (hlo : lo < 10) (hhi : hi < 10) : (∀ x, dgt L K lo hi o = some x → fX5_readDigit Y S (some a) (nI lo) (nI hi) = some (OFS S a (o + 1), nI x)) ∧ (dgt L K lo hi o = none → fX5_readDigit Y S (some a) (nI lo) (nI hi) = some (S, -1)) := by
  have tb : ∀ c, c < 128 → ∀ lo, lo < 10 → ∀ hi, hi < 10 → (if nI c - 48 < nI lo then (0 : Int32) else if nI c - 48 ≤ nI hi then 1 else 0) = (if 48 + lo ≤ c ∧ c ≤ 48 + hi then 1 else 0) := by decide +kernel
  refine ⟨fun x hx => ?_, fun hx => ?_⟩
  · have g := dgt_in hx
    have hc := (hT.2.2.2 o g.1).1
    have e : hr L K o = nI (L o) := if_pos g.1
    have q := tb (L o) (by omega) lo hlo hi hhi
    rw [if_pos (c := 48 + lo ≤ L o ∧ L o ≤ 48 + hi) (by omega)] at q
    have ev : nI (L o) - 48 = nI x := by rw [dg_val _ (by omega) (by omega), g.2.2.2, Nat.add_sub_cancel_left]
    unfold fX5_readDigit
    refine bnd (po_500 hO) ?_
    refine bnd (po_502 hO) ?_
    refine bnd (drcv hY (o := 1) (c := 7) (by decide) rfl) ?_
    refine bnd (c_code hY hT ho) ?_
    rw [e]
    by_cases a1 : nI (L o) - 48 < nI lo
    · rw [if_pos a1] at q; exact absurd q (by decide)
    · rw [if_neg a1] at q
      refine ifN a1 ?_
      by_cases a2 : nI (L o) - 48 ≤ nI hi
      · refine ifP a2 ?_
        refine bnd (po_502 hO) ?_
        refine bnd (po_w502 hO (nI_1 o)) ?_
        rw [ev]
      · rw [if_neg a2] at q; exact absurd q (by decide)
  · unfold fX5_readDigit
    refine bnd (po_500 hO) ?_
    refine bnd (po_502 hO) ?_
    refine bnd (drcv hY (o := 1) (c := 7) (by decide) rfl) ?_
    refine bnd (c_code hY hT ho) ?_
    obtain ⟨c, ⟨h1, h2, h3, h4⟩ | ⟨h2, h4⟩⟩ := hr_c hT o
    · have q := tb c (by omega) lo hlo hi hhi
      have hn : ¬ (48 + lo ≤ c ∧ c ≤ 48 + hi) := by
        intro z1
        unfold dgt at hx
        rw [if_pos (by omega)] at hx
        cases hx
      rw [if_neg hn] at q
      rw [h4]
      by_cases a1 : nI c - 48 < nI lo
      · exact if_pos a1
      · rw [if_neg a1] at q
        refine ifN a1 ?_
        by_cases a2 : nI c - 48 ≤ nI hi
        · rw [if_pos a2] at q; exact absurd q (by decide)
        · exact if_neg a2
    · rw [h4]
      exact if_pos (dg_neg lo hlo)
theorem c_skip (hY : ExY z Y) (hT : TXC z K L S) (hO : PO z T a Y S o) (ho : o ≤ K) (hc : c < 128) : fX5_skip Y S (some a) (nI c) = some (if o < K ∧ L o = c then (OFS S a (o + 1), 1) else (S, 0)) := by
  unfold fX5_skip
  refine bnd (po_500 hO) ?_
  refine bnd (po_502 hO) ?_
  refine bnd (drcv hY (o := 1) (c := 7) (by decide) rfl) ?_
  refine bnd (c_code hY hT ho) ?_
  obtain ⟨c1, ⟨h1, h2, h3, h4⟩ | ⟨h2, h4⟩⟩ := hr_c hT o
  · rw [h4, h3]
    by_cases q : c1 = c
    · rw [if_pos (c := o < K ∧ c1 = c) ⟨h2, q⟩]
      refine ifP (by rw [q]) ?_
      refine bnd (po_502 hO) ?_
      refine bnd (po_w502 hO (nI_1 o)) ?_
      rfl
    · rw [if_neg (c := o < K ∧ c1 = c) (fun y => q y.2)]
      exact if_neg (fun y => q ((nI_eq (by omega) (by omega)).mp y))
  · rw [h4, if_neg (c := o < K ∧ L o = c) (fun y => h2 y.1)]
    have tb : ∀ c, c < 128 → ¬ (-1 : Int32) = nI c := by decide +kernel
    exact if_neg (tb c hc)
/-- a sign's place in one of the texts -/
def pls (i : Nat) (v : Int32) : Int32 := if 0 ≤ v then sIxF v (bytJS.getD i []) 0 else -1
theorem cv_nar : ∀ c, c < 128 → ((nI c).toUInt32 % 65536).toInt32 = nI c := by decide +kernel
theorem c_place (hY : ExY z Y) (hT : TXC z K L S) (hO : PO z T a Y S o) (ho : o ≤ K) (hi : i < 3) : fX5_placeIn Y S (some a) i = some (pls i (hr L K o)) := by
  unfold fX5_placeIn pls
  refine bnd (po_500 hO) ?_
  refine bnd (po_502 hO) ?_
  refine bnd (drcv hY (o := 1) (c := 7) (by decide) rfl) ?_
  refine bnd (c_code hY hT ho) ?_
  obtain ⟨c1, ⟨h1, h2, h3, h4⟩ | ⟨h2, h4⟩⟩ := hr_c hT o
  · rw [h4, if_pos (nI_pos' (by omega)), if_pos (nI_pos' (by omega)), cv_nar c1 (by omega)]
    unfold sIx
    rw [if_pos hi]
    rfl
  · rw [h4]
    exact if_neg (by decide)
theorem c_num (hY : ExY z Y) (hTT : isT T) (hn : n < 24) (hT : TXC z K L S) (hO : PO z T a Y S o) (ho : o ≤ K) (hlo : lo < 10) (hhi : hi < 10) : (∀ x, dgt L K lo hi o = some x → fX5_readNumber Y S (some a) (some (nda z T n)) (nI lo) (nI hi) = some ((upN (OFS S a (o + 1)).1 405 (nda z T n) (nI x), S.2), 1)) ∧ (dgt L K lo hi o = none → fX5_readNumber Y S (some a) (some (nda z T n)) (nI lo) (nI hi) = some (S, 0)) := by
  refine ⟨fun x hx => ?_, fun hx => ?_⟩
  · have g := dgt_in hx
    unfold fX5_readNumber
    refine bnd (po_rcv hO) ?_
    refine bnd ((c_dig hY hT hO ho hlo hhi).1 x hx) ?_
    refine ifP (nI_pos' (by omega)) ?_
    refine bnd (dpI hY (kd_nd hTT hn).1 (kd_nd hTT hn).2) ?_
    rfl
  · unfold fX5_readNumber
    refine bnd (po_rcv hO) ?_
    refine bnd ((c_dig hY hT hO ho hlo hhi).2 hx) ?_
    exact if_neg (show ¬ (0 : Int32) ≤ -1 by decide)
theorem d_scope5 (hY : ExY z Y) (hTT : isT T) (hn : n < 24) (hS : SCF z T n t S) (hk : key ≤ 7) : ∀ (f fuel u : Nat), u < n → u < f → u + 1 < fuel → fX4_scopeOf_5 Y S fuel (nI key) (some (nda z T u)) = some ((scF t key f u).map (nda z T))
  | 0, _, _, _, h, _ => absurd h (Nat.not_lt_zero _)
  | _, 0, _, _, _, h => absurd h (Nat.not_lt_zero _)
  | f + 1, fuel + 1, u, hu, hf, hfu => by
    have hN := hS.1 u hu
    have hP := hS.2 u (by omega)
    rw [fX4_scopeOf_5, scF]
    refine ifN (by intro e; cases e) ?_
    refine bnd ((eN hY hTT (by omega)).trans (congrArg some hN.1)) ?_
    have up : ((gR Y 4 409 (some (nda z T u)) S).bind fun v29 => fX4_scopeOf_5 Y S fuel (nI key) v29) = some ((if u = 0 then none else scF t key f (t 2 u)).map (nda z T)) := by
      refine bnd ((eNR hY hTT (by omega)).trans (congrArg some hP.1)) ?_
      by_cases h0 : u = 0
      · rw [if_pos h0, if_pos h0]
        obtain ⟨g, rfl⟩ : ∃ g, fuel = g + 1 := ⟨fuel - 1, by omega⟩
        rw [fX4_scopeOf_5]
        exact if_pos rfl
      · have hp := hP.2 (by omega)
        rw [if_neg h0, if_neg h0]
        exact d_scope5 hY hTT hn hS hk f fuel (t 2 u) (by omega) (by omega) (by omega)
    by_cases h1 : t 0 u = 14
    · refine ifP (nIe h1) ?_
      refine bnd ((eN hY hTT (by omega)).trans (congrArg some hN.2.2.1)) ?_
      by_cases h2 : t 1 u = key
      · refine ifP (by rw [h2]) ?_
        rw [if_pos ⟨h1, h2⟩]
        rfl
      · refine ifN (fun e => h2 ((nI_eq (by omega) (by omega)).mp e)) ?_
        rw [up, if_neg (c := t 0 u = 14 ∧ t 1 u = key) (fun h => h2 h.2)]
    · have := hN.2.1
      refine ifN (nIn h1 (by omega) (by omega)) ?_
      rw [up, if_neg (c := t 0 u = 14 ∧ t 1 u = key) (fun h => h1 h.1)]
theorem d_scope (hY : ExY z Y) (hTT : isT T) (hn : n < 24) (hS : SCF z T n t S) (hk : key ≤ 7) : fX4_scopeOf Y S (some (nda z T n)) (nI key) = some ((scO t key n).map (nda z T)) := by
  have hP := hS.2 n (Nat.le_refl _)
  unfold fX4_scopeOf scO
  refine bnd ((eNR hY hTT hn).trans (congrArg some hP.1)) ?_
  by_cases h0 : n = 0
  · rw [if_pos h0, if_pos h0, show FU = 1999 + 1 from rfl, fX4_scopeOf_5]
    exact if_pos rfl
  · have hp := hP.2 (by omega)
    rw [if_neg h0, if_neg h0]
    exact d_scope5 hY hTT hn hS hk 24 FU (t 2 n) (by omega) (by omega) (by unfold FU; omega)
/-- a clause that is written -/
def CLS (S : HS) (a ad o1 key s w : Nat) (sc : Option Nat) : HS := (upN (upN (upN (upN (upN S.1 502 a (nI o1)) 100 ad 1) 101 ad (nI key)) 102 ad (sgC s)) 103 ad (nI w), upN S.2.1 104 ad sc, S.2.2)
theorem sg_tab : ∀ e, e < 2 → ∀ c, c < 128 → (sgE e c = 0 → pls (1 + e) (nI c) = -1) ∧ (sgE e c ≠ 0 → ∃ k, k < 3 ∧ pls (1 + e) (nI c) = nI k ∧ sCh (1 + e) (nI k) = some (sgC (sgE e c)) ∧ vp_nar .char (sgC (sgE e c)) = sgC (sgE e c)) := by
  have key : ∀ e, e < 2 → ∀ c, c < 128 → (sgE e c = 0 → pls (1 + e) (nI c) = -1) ∧ (sgE e c ≠ 0 → (pls (1 + e) (nI c) = nI (sgE e c - (1 + 3 * e)) ∧ sgE e c - (1 + 3 * e) < 3 ∧ sCh (1 + e) (nI (sgE e c - (1 + 3 * e))) = some (sgC (sgE e c)) ∧ vp_nar .char (sgC (sgE e c)) = sgC (sgE e c))) := by decide +kernel
  intro e he c hc
  have := key e he c hc
  exact ⟨this.1, fun h => ⟨_, (this.2 h).2.1, (this.2 h).1, (this.2 h).2.2⟩⟩
theorem c_cl116 (hY : ExY z Y) (hTT : isT T) (hn : n < 24) (had : ad = cla z T n ∨ ad = ena z T n) (hS : SCF z T n t S) (hk : key ≤ 7) {x : Int32} : fX5_readClause_116 Y S (some (nda z T n)) (some ad) (nI key) (some ad) x = some ((upN S.1 103 ad x, upN S.2.1 104 ad ((scO t key n).map (nda z T)), S.2.2), 1) := by
  have hS1 : SCF z T n t (upN S.1 103 ad x, S.2) := SCF_congr (fun _ _ => ⟨rfl, rfl⟩) (fun _ => rfl) hS
  have ex : ∃ o, ad = z + o ∧ o < 269 ∧ kdC o = 1 := by
    rcases had with rfl | rfl
    · exact ⟨_, rfl, (kd_cl hTT hn).1, (kd_cl hTT hn).2⟩
    · exact ⟨_, rfl, (kd_en hTT hn).1, (kd_en hTT hn).2⟩
  obtain ⟨o, rfl, ho, hk1⟩ := ex
  unfold fX5_readClause_116
  refine bnd (dpI hY ho hk1) ?_
  refine bnd (drcv hY (kd_nd hTT hn).1 (kd_nd hTT hn).2) ?_
  refine bnd (d_scope hY hTT hn hS1 hk) ?_
  refine bnd (dpR hY ho hk1) ?_
  rfl
theorem SCF_ofs (hS : SCF z T n t S) : SCF z T n t (OFS S a o) := SCF_congr (fun _ _ => ⟨rfl, rfl⟩) (fun _ => rfl) hS
theorem c_clause_ok (hY : ExY z Y) (hTT : isT T) (hn : n < 24) (had : ad = cla z T n ∨ ad = ena z T n) (hS : SCF z T n t S) (hT : TXC z K L S) (hO : PO z T a Y S o) (ho : o ≤ K) (he : e < 2) (hC : CL L K e o o1 key s w) : fX5_readClause Y S (some a) (some (nda z T n)) (some ad) (1 + e) = some (CLS S a ad o1 key s w ((scO t key n).map (nda z T)), 1) := by
  obtain ⟨h1, h2, h3, d1, h4, h5⟩ := hC
  have g1 := dgt_in h1
  have g4 := dgt_in h4
  have ex : ∃ o, ad = z + o ∧ o < 269 ∧ kdC o = 1 := by
    rcases had with rfl | rfl
    · exact ⟨_, rfl, (kd_cl hTT hn).1, (kd_cl hTT hn).2⟩
    · exact ⟨_, rfl, (kd_en hTT hn).1, (kd_en hTT hn).2⟩
  obtain ⟨oa, hoa, ho9, hk1⟩ := ex
  have hs : s = sgE e (L (o + 1)) := by
    rw [h2]
    unfold sgO
    rw [if_pos (by omega)]
  obtain ⟨k, hk3, hk4, hk5, hk6⟩ := (sg_tab e he (L (o + 1)) (by have := (hT.2.2.2 (o + 1) (by omega)).1; omega)).2 (by rw [← hs]; exact h3)
  have hpl : pls (1 + e) (hr L K (o + 1)) = nI k := by
    unfold hr
    rw [if_pos (by omega)]
    exact hk4
  have hsl : sLen (1 + e) = nI 3 := by
    have : ∀ e, e < 2 → sLen (1 + e) = nI 3 := by decide +kernel
    exact this e he
  rw [← hs] at hk5 hk6
  unfold fX5_readClause
  refine bnd (po_rcv hO) ?_
  refine bnd ((c_dig hY hT hO ho (lo := 0) (hi := 7) (by omega) (by omega)).1 key h1) ?_
  refine ifP (nI_pos' (by omega)) ?_
  refine bnd (po_rcv hO) ?_
  refine bnd (c_place hY (TXC_ofs hT) (PO_ofs hO) (by omega) (by omega)) ?_
  rw [hpl]
  unfold fX5_readClause_23
  refine ifN (nI_pos (by omega)) ?_
  rw [hsl]
  refine ifP (nI_lt hk3 (by decide)) ?_
  refine bnd (po_502 (PO_ofs hO)) ?_
  refine bnd (po_w502 (PO_ofs (o1 := o + 1) hO) (nI_1 (o + 1))) ?_
  refine bnd (po_rcv hO) ?_
  rw [OFS_OFS]
  refine bnd ((c_dig hY (TXC_ofs hT) (PO_ofs (o1 := o + 1 + 1) hO) (by omega) (lo := 0) (hi := 9) (by omega) (by omega)).1 d1 h4) ?_
  refine ifP (nI_pos' (by omega)) ?_
  refine bnd (po_rcv hO) ?_
  rw [OFS_OFS]
  have fin : ∀ (q : Int32), ((pZ Y 1 100 (some ad) 1 (OFS S a o1)).bind fun S78 => (pI Y 1 101 (some ad) (nI key) S78).bind fun S84 => (sCh (1 + e) (nI k)).bind fun v91 => (pC Y 1 102 (some ad) v91 S84).bind fun S94 => fX5_readClause_116 Y S94 (some (nda z T n)) (some ad) (nI key) (some ad) q) = some ((upN (upN (upN (upN (upN S.1 502 a (nI o1)) 100 ad 1) 101 ad (nI key)) 102 ad (sgC s)) 103 ad q, upN S.2.1 104 ad ((scO t key n).map (nda z T)), S.2.2), 1) := by
    intro q
    rw [hoa]
    refine bnd (dpZ hY ho9 hk1 (Or.inr rfl)) ?_
    refine bnd (dpI hY ho9 hk1) ?_
    refine bnd hk5 ?_
    refine bnd (dpC hY ho9 hk1 hk6) ?_
    rw [← hoa]
    refine (c_cl116 hY hTT hn had (t := t) ?_ (by omega)).trans rfl
    have h0 := SCF_ofs (a := a) (o := o1) hS
    exact SCF_congr (fun _ _ => ⟨rfl, rfl⟩) (fun _ => rfl) h0
  rcases h5 with ⟨h6, rfl, rfl⟩ | ⟨d2, h6, rfl, rfl⟩
  · refine bnd ((c_dig hY (TXC_ofs hT) (PO_ofs (o1 := o + 1 + 1 + 1) hO) (by omega) (lo := 0) (hi := 9) (by omega) (by omega)).2 h6) ?_
    refine (?_ : _ = _).trans (fin (nI w))
    rw [hoa]
    refine bnd (dpZ hY ho9 hk1 (Or.inr rfl)) ?_
    refine bnd (dpI hY ho9 hk1) ?_
    refine bnd hk5 ?_
    refine bnd (dpC hY ho9 hk1 hk6) ?_
    refine (if_neg (show ¬ (0 : Int32) ≤ -1 by decide)).trans ?_
    refine Eq.symm ?_
    refine bnd (dpZ hY ho9 hk1 (Or.inr rfl)) ?_
    refine bnd (dpI hY ho9 hk1) ?_
    refine bnd hk5 ?_
    refine bnd (dpC hY ho9 hk1 hk6) ?_
    rfl
  · refine bnd ((c_dig hY (TXC_ofs hT) (PO_ofs (o1 := o + 1 + 1 + 1) hO) (by omega) (lo := 0) (hi := 9) (by omega) (by omega)).1 d2 h6) ?_
    have g6 := dgt_in h6
    rw [OFS_OFS]
    refine (?_ : _ = _).trans (fin (nI (10 * d1 + d2)))
    rw [hoa]
    refine bnd (dpZ hY ho9 hk1 (Or.inr rfl)) ?_
    refine bnd (dpI hY ho9 hk1) ?_
    refine bnd hk5 ?_
    refine bnd (dpC hY ho9 hk1 hk6) ?_
    refine (if_pos (nI_pos' (by omega))).trans ?_
    rw [show (10 : Int32) = nI 10 from rfl, pk_mul, nI_add]
    refine Eq.symm ?_
    refine bnd (dpZ hY ho9 hk1 (Or.inr rfl)) ?_
    refine bnd (dpI hY ho9 hk1) ?_
    refine bnd hk5 ?_
    refine bnd (dpC hY ho9 hk1 hk6) ?_
    rfl
theorem c_clause_no (hY : ExY z Y) (hT : TXC z K L S) (hO : PO z T a Y S o) (ho : o ≤ K) (he : e < 2) (hC : CLF L K e o o1) {x1 x2 : Option Nat} : fX5_readClause Y S (some a) x1 x2 (1 + e) = some (OFS S a o1, 0) := by
  have hsl : sLen (1 + e) = nI 3 := by
    have : ∀ e, e < 2 → sLen (1 + e) = nI 3 := by decide +kernel
    exact this e he
  unfold fX5_readClause
  refine bnd (po_rcv hO) ?_
  rcases hC with ⟨h1, rfl⟩ | ⟨key, h1, h2, rfl⟩ | ⟨key, h1, h2, h3, rfl⟩
  · refine bnd ((c_dig hY hT hO ho (lo := 0) (hi := 7) (by omega) (by omega)).2 h1) ?_
    refine ifN (show ¬ (0 : Int32) ≤ -1 by decide) ?_
    unfold fX5_readClause_23
    refine ifP (by decide) ?_
    rw [OFS_self hO.2.2.2]
  · have g1 := dgt_in h1
    refine bnd ((c_dig hY hT hO ho (lo := 0) (hi := 7) (by omega) (by omega)).1 key h1) ?_
    refine ifP (nI_pos' (by omega)) ?_
    refine bnd (po_rcv hO) ?_
    refine bnd (c_place hY (TXC_ofs hT) (PO_ofs hO) (by omega) (by omega)) ?_
    have hpl : pls (1 + e) (hr L K (o + 1)) = -1 := by
      obtain ⟨c, ⟨q1, q2, q3, q4⟩ | ⟨q2, q4⟩⟩ := hr_c hT (o + 1)
      · rw [q4]
        unfold sgO at h2
        rw [if_pos q2, q3] at h2
        exact (sg_tab e he c (by omega)).1 h2
      · rw [q4]
        exact if_neg (by decide)
    rw [hpl]
    unfold fX5_readClause_23
    exact if_pos (by decide)
  · have g1 := dgt_in h1
    have g2 : o + 1 < K ∧ sgE e (L (o + 1)) ≠ 0 := by
      unfold sgO at h2
      split at h2
      · exact ⟨by omega, h2⟩
      · exact absurd rfl h2
    obtain ⟨k, hk3, hk4, hk5, hk6⟩ := (sg_tab e he (L (o + 1)) (by have := (hT.2.2.2 (o + 1) (by omega)).1; omega)).2 g2.2
    have hpl : pls (1 + e) (hr L K (o + 1)) = nI k := by
      unfold hr
      rw [if_pos (by omega)]
      exact hk4
    refine bnd ((c_dig hY hT hO ho (lo := 0) (hi := 7) (by omega) (by omega)).1 key h1) ?_
    refine ifP (nI_pos' (by omega)) ?_
    refine bnd (po_rcv hO) ?_
    refine bnd (c_place hY (TXC_ofs hT) (PO_ofs hO) (by omega) (by omega)) ?_
    rw [hpl]
    unfold fX5_readClause_23
    refine ifN (nI_pos (by omega)) ?_
    rw [hsl]
    refine ifP (nI_lt hk3 (by decide)) ?_
    refine bnd (po_502 (PO_ofs hO)) ?_
    refine bnd (po_w502 (PO_ofs (o1 := o + 1) hO) (nI_1 (o + 1))) ?_
    refine bnd (po_rcv hO) ?_
    rw [OFS_OFS]
    refine bnd ((c_dig hY (TXC_ofs hT) (PO_ofs (o1 := o + 1 + 1) hO) (by omega) (lo := 0) (hi := 9) (by omega) (by omega)).2 h3) ?_
    exact if_neg (show ¬ (0 : Int32) ≤ -1 by decide)
end CRD
