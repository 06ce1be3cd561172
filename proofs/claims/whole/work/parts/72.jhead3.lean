/-! readTree: the heads of the other kinds -/
section JH3
variable {z T a b n i j k c d e o o1 K key s w nb ek es ew m x s5 s7 s8 s10 : Nat} {L : Nat → Nat} {M S S1 : HS} {Y : LY} {v dp : Int32} {t : TT} {A : Nat → Nat → Int32} {op ρ : Nat → Int32} {kN : HS → Option Nat → Option Nat → Int32 → Option (HS × Int32)}
/-- the reference's dispatch -/
def DSP (b : Nat) (S : HS) (k n : Nat) : Option HS := if nI k < 2 then fX12_begins_162 (Ym b) S (some b) (nI k) (nI n) else if nI k = 8 then fX12_begins_162 (Ym b) S (some b) (nI k) (nI n) else if nI k = 13 then fX12_begins_162 (Ym b) S (some b) (nI k) (nI n) else if nI k = 10 then fX12_begins_187 (Ym b) S (some b) (nI k) (nI n) else if nI k = 11 then fX12_begins_187 (Ym b) S (some b) (nI k) (nI n) else fX12_begins_200 (Ym b) S (some b) (nI k) (nI n)
theorem hlx_no (hk : 4 ≤ k) (hs : es = 0) : HLX k nb key s w ek es ew = (if k = 8 ∨ k = 10 ∨ k = 11 ∨ k = 13 ∨ k = 14 then 1 else 0) + (clL key s w).length + (if k ≤ 8 then 1 else 0) := by
  unfold HLX
  rw [if_pos hs, List.length_append, List.length_append, List.length_append]
  have e0 : ([] : List Nat).length = 0 := rfl
  have e1 : ([48 + nb] : List Nat).length = 1 := rfl
  have e4 : ([40] : List Nat).length = 1 := rfl
  rw [e0]
  by_cases h1 : k = 8 ∨ k = 10 ∨ k = 11 ∨ k = 13 ∨ k = 14
  · rw [if_pos (c := k < 2 ∨ k = 8 ∨ k = 10 ∨ k = 11 ∨ k = 13 ∨ k = 14) (Or.inr h1), if_pos h1, e1]
    by_cases h2 : k ≤ 8
    · rw [if_pos (c := 4 ≤ k ∧ k ≤ 8) ⟨hk, h2⟩, if_pos h2, e4]; omega
    · rw [if_neg (c := 4 ≤ k ∧ k ≤ 8) (by omega), if_neg h2, e0]; omega
  · rw [if_neg (c := k < 2 ∨ k = 8 ∨ k = 10 ∨ k = 11 ∨ k = 13 ∨ k = 14) (by omega), if_neg h1, e0]
    by_cases h2 : k ≤ 8
    · rw [if_pos (c := 4 ≤ k ∧ k ≤ 8) ⟨hk, h2⟩, if_pos h2, e4]; omega
    · rw [if_neg (c := 4 ≤ k ∧ k ≤ 8) (by omega), if_neg h2, e0]; omega
/-- a condition, an effect -/
theorem jh_cl (hk : k = 2 ∨ k = 3) (h : JB z T a b n K d o k L t M Y S1 ρ v s5 s7 s8 s10) : JF z T a n b K d M A op S1 (fX5_readRest kN Y S1 (some a) (some (nda z T n)) dp) (DSP b (RdM b M (RW A n ρ) op o (n + 1) d 0 0) k n) ∨ JL z T a n b K d o k v t M A op S1 (fX5_readRest kN Y S1 (some a) (some (nda z T n)) dp) (DSP b (RdM b M (RW A n ρ) op o (n + 1) d 0 0) k n) := by
  obtain ⟨hY, hTT, hn, hB, hT, hO, hSC, ho, h404, h401, h402, hD, hd, hR, g5, g7, g8, g10⟩ := h
  -- e = 0: a condition; e = 1: an effect
  obtain ⟨e, he, hke⟩ : ∃ e, e < 2 ∧ k = e + 2 := ⟨k - 2, by omega, by omega⟩
  have hC : ∀ (S2 : HS) (r : Int32), (r = 0 ∨ r = 1) → fX5_readClause Y S1 (some a) (some (nda z T n)) (some (cla z T n)) (1 + e) = some (S2, r) → fX5_readRest kN Y S1 (some a) (some (nda z T n)) dp = some (S2, r) := by
    intro S2 r hr hc
    unfold fX5_readRest
    refine bnd ((eN hY hTT hn).trans (congrArg some h404)) ?_
    rcases hk with rfl | rfl
    · have he0 : e = 0 := by omega
      subst he0
      refine ifN (by decide) ?_
      refine ifN (by decide) ?_
      refine ifP (by decide) ?_
      refine bnd ((eNR hY hTT hn).trans (congrArg some h401)) ?_
      refine bnd (po_rcv hO) ?_
      refine bnd hc ?_
      refine bnd (zr_r hr) ?_
      rfl
    · have he0 : e = 1 := by omega
      subst he0
      refine ifN (by decide) ?_
      refine ifN (by decide) ?_
      refine ifN (by decide) ?_
      refine ifP (by decide) ?_
      refine bnd ((eNR hY hTT hn).trans (congrArg some h401)) ?_
      refine bnd (po_rcv hO) ?_
      refine bnd hc ?_
      refine bnd (zr_r hr) ?_
      rfl
  have hR2 : DSP b (RdM b M (RW A n ρ) op o (n + 1) d 0 0) k n = (fX12_deed (Ym b) (RdM b M (RW A n ρ) op o (n + 1) d 0 0) (some b) (nI n) (nI e)).bind fun S => if e = 0 then fX12_begins_244 (Ym b) S (some b) (nI k) (nI n) else fX12_begins_274 (Ym b) S (some b) (nI k) (nI n) := by
    unfold DSP
    rcases hk with rfl | rfl
    · have he0 : e = 0 := by omega
      subst he0
      refine ifN (by decide) ?_
      refine ifN (by decide) ?_
      refine ifN (by decide) ?_
      refine ifN (by decide) ?_
      refine ifN (by decide) ?_
      rw [r_200_no (by omega) (by omega)]
      unfold fX12_begins_219
      refine bnd q1222 ?_
      refine ifP rfl ?_
      refine ifP rfl ?_
      refine bnd mrcv ?_
      simp only [if_true]
      rfl
    · have he0 : e = 1 := by omega
      subst he0
      refine ifN (by decide) ?_
      refine ifN (by decide) ?_
      refine ifN (by decide) ?_
      refine ifN (by decide) ?_
      refine ifN (by decide) ?_
      rw [r_200_no (by omega) (by omega)]
      unfold fX12_begins_219
      refine bnd q1222 ?_
      refine ifP rfl ?_
      refine ifN (by decide) ?_
      refine ifN (by decide) ?_
      unfold fX12_begins_244
      refine ifP rfl ?_
      refine bnd mrcv ?_
      rfl
  rw [hR2]
  rcases cl_tot L K e o with ⟨o1, key, s, w, hCL⟩ | ⟨o1, hCL⟩
  · have gi := cl_in hCL
    have hde := r_deed_ok (A := A) (op := op) (m := n + 1) (d := d) (mo := 0) (ρ := ρ) hB ho (e := e) (by omega) hn hCL
    have hlen : HLX k 0 key s w s8 0 s10 = 2 + (numL w).length := by
      unfold HLX
      rw [if_neg (by omega), if_pos rfl, if_neg (by omega), List.length_append, List.length_append, List.length_append, clL_len (by omega)]
      have e0 : ([] : List Nat).length = 0 := rfl
      rw [e0]
      omega
    refine Or.inr ⟨_, o1, 0, key, s, w, s8, 0, s10, _, hC _ 1 (Or.inr rfl) (c_clause_ok hY hTT hn (Or.inl rfl) hSC hT hO ho he hCL), hd_cla (by omega) hD, gi.1, bnd hde ?_, rr_4 (y := nI n) (rr_c hR), rfl, ?_, ?_⟩
    · by_cases q : e = 0
      · rw [if_pos q, r_244_hi (by omega) (by omega) (by omega), r_300_no (by omega) (by omega)]
        exact r_321_leaf hB (by omega) hn
      · rw [if_neg q, r_274_hi (by omega) (by omega), r_300_no (by omega) (by omega)]
        exact r_321_leaf hB (by omega) hn
    · have a1 := gi.2.2.2.2.2.1
      have a2 := gi.2.2.2.2.2.2.1
      unfold DTX
      omega
    · omega
  · obtain ⟨ρ4, hst, he4⟩ := r_deed_no (A := A) (op := op) (m := n + 1) (d := d) (mo := 0) (ρ := ρ) hB ho (e := e) (by omega) hn hCL
    refine Or.inl ⟨_, o1, ρ4, hC _ 0 (Or.inl rfl) (c_clause_no hY hT hO ho he hCL), HFR_ofs HFR_rfl, upN_self, clf_in ho hCL, bnd he4 ?_, hst (rr_str hR g5 g7 g8 g10)⟩
    by_cases q : e = 0
    · rw [if_pos q, r_244_hi (by omega) (by omega) (by omega), r_300_no (by omega) (by omega)]
      exact r_321_f (by decide)
    · rw [if_neg q, r_274_f (by decide), r_300_no (by omega) (by omega)]
      exact r_321_f (by decide)
/-- a list's beginning behind its head -/
theorem jh_open (hk : 4 ≤ k ∧ k ≤ 8) (hY : ExY z Y) (hTT : isT T) (hn : n < 24) (hB : MB b K L M) (hT : TXC z K L S1) (hO : PO z T a Y S1 o) {S2 : HS} {o2 : Nat} (hD : HDD z T a n t S1 S2 o2 nb s5 0 s7 s8 0 s10) (ho : o2 ≤ K) (hd : d < 10) (hR : RR ρ k v d nb s5 0 s7 s8 0 s10) (g5 : s5 ≤ 7) (g7 : s7 ≤ 99) (g8 : s8 ≤ 7) (g10 : s10 ≤ 99) (hnb : nb ≤ 9 ∧ (k ≠ 8 → nb = 0)) (hlen : o + (if k = 8 then 1 else 0) ≤ o2) {C : Option (HS × Int32)} {R : Option HS} (hC : ∀ S3 r, (r = 0 ∨ r = 1) → fX5_readList kN Y S2 (some a) (some (nda z T n)) dp = some (S3, r) → C = some (S3, r)) (hRR : fX12_begins_300 (Ym b) (RdM b M (RW A n ρ) op o2 (n + 1) d 0 0) (some b) (nI k) (nI n) = R) : JF z T a n b K d M A op S1 C R ∨ JI z T a n b K d o k v t M A op kN Y dp S1 C R := by
  have hT2 := hd_txc hD.1 hT
  have hO2 := hd_po hD.1 hD.2.1 hO
  have hsk := c_skip hY hT2 hO2 ho (c := 40) (by omega)
  have hl := r_300_list (A := RW A n ρ) (op := op) (m := n + 1) (n := n) (mo := 0) hB ho hk hd
  rw [hRR] at hl
  by_cases h40 : o2 < K ∧ L o2 = 40
  · rw [if_pos h40] at hsk hl
    refine Or.inr ⟨_, o2 + 1, nb, s5, 0, s7, s8, 0, s10, ρ, hd_ofs hD, by omega, hl, hR, ?_, ?_, fun _ S3 r hr hres => hC S3 r hr ?_, fun h9 => by omega⟩
    · unfold DTX
      omega
    · rw [hlx_no hk.1 rfl, clL_len0, if_pos hk.2]
      by_cases q : k = 8
      · rw [if_pos q] at hlen
        rw [if_pos (Or.inl q)]
        omega
      · rw [if_neg q] at hlen
        rw [if_neg (by omega)]
        omega
    · unfold fX5_readList
      refine bnd (po_rcv hO2) ?_
      refine bnd hsk ?_
      refine ifN (show ¬ (1 : Int32) = 0 by decide) ?_
      exact hres
  · rw [if_neg h40] at hsk hl
    refine Or.inl ⟨S2, o2, ρ, hC S2 0 (Or.inl rfl) ?_, hD.1, hD.2.1, ho, hl, rr_str hR g5 g7 g8 g10⟩
    unfold fX5_readList
    refine bnd (po_rcv hO2) ?_
    refine bnd hsk ?_
    exact if_pos rfl
/-- a plain list -/
theorem jh_list (hk : 4 ≤ k ∧ k ≤ 7) (h : JB z T a b n K d o k L t M Y S1 ρ v s5 s7 s8 s10) : JF z T a n b K d M A op S1 (fX5_readRest kN Y S1 (some a) (some (nda z T n)) dp) (DSP b (RdM b M (RW A n ρ) op o (n + 1) d 0 0) k n) ∨ JI z T a n b K d o k v t M A op kN Y dp S1 (fX5_readRest kN Y S1 (some a) (some (nda z T n)) dp) (DSP b (RdM b M (RW A n ρ) op o (n + 1) d 0 0) k n) := by
  obtain ⟨hY, hTT, hn, hB, hT, hO, hSC, ho, h404, h401, h402, hD, hd, hR, g5, g7, g8, g10⟩ := h
  refine jh_open ⟨hk.1, by omega⟩ hY hTT hn hB hT hO hD ho hd hR g5 g7 g8 g10 ⟨by omega, fun _ => rfl⟩ (by rw [if_neg (by omega)]; omega) (fun S3 r hr hres => ?_) ?_
  · unfold fX5_readRest
    refine bnd ((eN hY hTT hn).trans (congrArg some h404)) ?_
    have hk' : k = 4 ∨ k = 5 ∨ k = 6 ∨ k = 7 := by omega
    rcases hk' with rfl | rfl | rfl | rfl
    · refine ifN (by decide) ?_
      refine ifN (by decide) ?_
      refine ifN (by decide) ?_
      refine ifN (by decide) ?_
      refine ifP (by decide) ?_
      refine bnd (po_rcv hO) ?_
      refine bnd hres ?_
      exact bnd (zr_r hr) rfl
    · refine ifN (by decide) ?_
      refine ifN (by decide) ?_
      refine ifN (by decide) ?_
      refine ifN (by decide) ?_
      refine ifN (by decide) ?_
      refine ifP (by decide) ?_
      refine bnd (po_rcv hO) ?_
      refine bnd hres ?_
      exact bnd (zr_r hr) rfl
    · refine ifN (by decide) ?_
      refine ifN (by decide) ?_
      refine ifN (by decide) ?_
      refine ifN (by decide) ?_
      refine ifN (by decide) ?_
      refine ifN (by decide) ?_
      refine ifP (by decide) ?_
      refine bnd (po_rcv hO) ?_
      refine bnd hres ?_
      exact bnd (zr_r hr) rfl
    · refine ifN (by decide) ?_
      refine ifN (by decide) ?_
      refine ifN (by decide) ?_
      refine ifN (by decide) ?_
      refine ifN (by decide) ?_
      refine ifN (by decide) ?_
      refine ifN (by decide) ?_
      refine ifP (by decide) ?_
      refine bnd (po_rcv hO) ?_
      refine bnd hres ?_
      exact bnd (zr_r hr) rfl
  · unfold DSP
    rw [if_neg (show ¬ nI k < 2 from nI_nlt (b := 2) (by omega) (by omega)), if_neg (nIn (show k ≠ 8 by omega) (by omega) (by omega)), if_neg (nIn (show k ≠ 13 by omega) (by omega) (by omega)), if_neg (nIn (show k ≠ 10 by omega) (by omega) (by omega)), if_neg (nIn (show k ≠ 11 by omega) (by omega) (by omega)), r_200_no (by omega) (by omega), r_219_hi (by omega) (by omega) (by omega)]
/-- a parallel -/
theorem jh_par (h : JB z T a b n K d o 8 L t M Y S1 ρ v s5 s7 s8 s10) : JF z T a n b K d M A op S1 (fX5_readRest kN Y S1 (some a) (some (nda z T n)) dp) (DSP b (RdM b M (RW A n ρ) op o (n + 1) d 0 0) 8 n) ∨ JI z T a n b K d o 8 v t M A op kN Y dp S1 (fX5_readRest kN Y S1 (some a) (some (nda z T n)) dp) (DSP b (RdM b M (RW A n ρ) op o (n + 1) d 0 0) 8 n) := by
  obtain ⟨hY, hTT, hn, hB, hT, hO, hSC, ho, h404, h401, h402, hD, hd, hR, g5, g7, g8, g10⟩ := h
  have hR0 : DSP b (RdM b M (RW A n ρ) op o (n + 1) d 0 0) 8 n = fX12_begins_162 (Ym b) (RdM b M (RW A n ρ) op o (n + 1) d 0 0) (some b) (nI 8) (nI n) := by
    unfold DSP
    refine ifN (by decide) ?_
    refine ifP (by decide) ?_
    rfl
  rw [hR0]
  have hC0 : ∀ res, ((rcv Y 5 (some a)).bind fun _ => (fX5_readNumber Y S1 (some a) (some (nda z T n)) 0 9).bind fun q141 => if q141.2 = 0 then some (q141.1, (0 : Int32)) else (rcv Y 5 (some a)).bind fun _ => (fX5_readList kN Y q141.1 (some a) (some (nda z T n)) dp).bind fun q150 => if q150.2 = 0 then some (q150.1, (0 : Int32)) else some (q150.1, 1)) = res → fX5_readRest kN Y S1 (some a) (some (nda z T n)) dp = res := by
    intro res hres
    unfold fX5_readRest
    refine bnd ((eN hY hTT hn).trans (congrArg some h404)) ?_
    refine ifN (by decide) ?_
    refine ifN (by decide) ?_
    refine ifN (by decide) ?_
    refine ifN (by decide) ?_
    refine ifN (by decide) ?_
    refine ifN (by decide) ?_
    refine ifN (by decide) ?_
    refine ifN (by decide) ?_
    refine ifP (by decide) ?_
    exact hres
  cases h1 : dgt L K 0 9 o with
  | none =>
    refine Or.inl ⟨S1, o, upd ρ 1 (nI 0), hC0 _ ?_, HFR_rfl, hO.2.2.2, ho, (r_162 hB hn ho (by omega) (by omega)).2 h1 (by omega), rr_str (rr_1 (x := 0) hR) g5 g7 g8 g10⟩
    refine bnd (po_rcv hO) ?_
    refine bnd ((c_num hY hTT hn hT hO ho (lo := 0) (hi := 9) (by omega) (by omega)).2 h1) ?_
    exact if_pos rfl
  | some nb =>
    have q1 := dgt_in h1
    have hD2 := hd_num (x := nb) (o1 := o + 1) hD
    rw [(r_162 hB hn ho (by omega) (by omega)).1 nb h1, r_200_no (by omega) (by omega), r_219_hi (by omega) (by omega) (by omega)]
    refine jh_open ⟨by omega, by omega⟩ hY hTT hn hB hT hO hD2 (by omega) hd (rr_1 hR) g5 g7 g8 g10 ⟨by omega, fun q => absurd rfl q⟩ (by rw [if_pos rfl]; omega) (fun S3 r hr hres => hC0 _ ?_) rfl
    refine bnd (po_rcv hO) ?_
    refine bnd ((c_num hY hTT hn hT hO ho (lo := 0) (hi := 9) (by omega) (by omega)).1 nb h1) ?_
    refine ifN (show ¬ (1 : Int32) = 0 by decide) ?_
    refine bnd (po_rcv hO) ?_
    refine bnd hres ?_
    rcases hr with rfl | rfl
    · exact if_pos rfl
    · exact if_neg (show ¬ (1 : Int32) = 0 by decide)
/-- a node with one child, behind its head -/
theorem jh_one (hk : 9 ≤ k ∧ k < 15) (hB : MB b K L M) {S2 : HS} {o2 : Nat} (hD : HDD z T a n t S1 S2 o2 nb key s w s8 0 s10) (ho : o2 ≤ K) (hd : d < 10) (hR : RR ρ k v d nb key s w s8 0 s10) (hDT : DTX k nb key s w s8 0 s10) (hlen : o + (if k = 10 ∨ k = 11 ∨ k = 13 ∨ k = 14 then 1 else 0) + (clL key s w).length ≤ o2) {C : Option (HS × Int32)} {R : Option HS} (hC : ∀ S3 r, (r = 0 ∨ r = 1) → kN S2 (some a) (some (nda z T n)) (dp + 1) = some (S3, r) → C = some (S3, r)) (hRR : fX12_begins_300 (Ym b) (RdM b M (RW A n ρ) op o2 (n + 1) d 0 0) (some b) (nI k) (nI n) = R) : JI z T a n b K d o k v t M A op kN Y dp S1 C R := by
  have hl := r_321_one (A := RW A n ρ) (op := op) (m := n + 1) (n := n) (mo := 0) (o := o2) hB hk hd
  rw [r_300_no hk.2 (by omega)] at hRR
  rw [hRR] at hl
  refine ⟨S2, o2, nb, key, s, w, s8, 0, s10, ρ, hD, ho, hl, hR, hDT, ?_, fun h8 => by omega, fun _ => hC⟩
  rw [hlx_no (by omega) rfl, if_neg (c := k ≤ 8) (by omega)]
  by_cases q : k = 10 ∨ k = 11 ∨ k = 13 ∨ k = 14
  · rw [if_pos q] at hlen
    rw [if_pos (Or.inr q)]
    omega
  · rw [if_neg q] at hlen
    rw [if_neg (by omega)]
    omega
theorem jh_inv (h : JB z T a b n K d o 9 L t M Y S1 ρ v s5 s7 s8 s10) : JI z T a n b K d o 9 v t M A op kN Y dp S1 (fX5_readRest kN Y S1 (some a) (some (nda z T n)) dp) (DSP b (RdM b M (RW A n ρ) op o (n + 1) d 0 0) 9 n) := by
  obtain ⟨hY, hTT, hn, hB, hT, hO, hSC, ho, h404, h401, h402, hD, hd, hR, g5, g7, g8, g10⟩ := h
  refine jh_one ⟨by omega, by omega⟩ hB hD ho hd hR (by unfold DTX; omega) (by rw [if_neg (by omega), clL_len0]; omega) (fun S3 r hr hres => ?_) ?_
  · unfold fX5_readRest
    refine bnd ((eN hY hTT hn).trans (congrArg some h404)) ?_
    refine ifN (by decide) ?_
    refine ifN (by decide) ?_
    refine ifN (by decide) ?_
    refine ifN (by decide) ?_
    refine ifN (by decide) ?_
    refine ifN (by decide) ?_
    refine ifN (by decide) ?_
    refine ifN (by decide) ?_
    refine ifN (by decide) ?_
    refine ifP (by decide) ?_
    unfold fX5_readRest_277
    refine bnd (po_rcv hO) ?_
    refine bnd hres ?_
    exact bnd (zr_r hr) rfl
  · unfold DSP
    refine Eq.symm ?_
    refine ifN (by decide) ?_
    refine ifN (by decide) ?_
    refine ifN (by decide) ?_
    refine ifN (by decide) ?_
    refine ifN (by decide) ?_
    rw [r_200_no (by omega) (by omega), r_219_hi (by omega) (by omega) (by omega)]
theorem jh_rep (hk : k = 10 ∨ k = 11) (h : JB z T a b n K d o k L t M Y S1 ρ v s5 s7 s8 s10) : JF z T a n b K d M A op S1 (fX5_readRest kN Y S1 (some a) (some (nda z T n)) dp) (DSP b (RdM b M (RW A n ρ) op o (n + 1) d 0 0) k n) ∨ JI z T a n b K d o k v t M A op kN Y dp S1 (fX5_readRest kN Y S1 (some a) (some (nda z T n)) dp) (DSP b (RdM b M (RW A n ρ) op o (n + 1) d 0 0) k n) := by
  obtain ⟨hY, hTT, hn, hB, hT, hO, hSC, ho, h404, h401, h402, hD, hd, hR, g5, g7, g8, g10⟩ := h
  have hR0 : DSP b (RdM b M (RW A n ρ) op o (n + 1) d 0 0) k n = fX12_begins_187 (Ym b) (RdM b M (RW A n ρ) op o (n + 1) d 0 0) (some b) (nI k) (nI n) := by
    unfold DSP
    rcases hk with rfl | rfl
    · refine ifN (by decide) ?_
      refine ifN (by decide) ?_
      refine ifN (by decide) ?_
      refine ifP (by decide) ?_
      rfl
    · refine ifN (by decide) ?_
      refine ifN (by decide) ?_
      refine ifN (by decide) ?_
      refine ifN (by decide) ?_
      refine ifP (by decide) ?_
      rfl
  rw [hR0]
  have hC0 : ∀ res, fX5_readRest_162 kN Y S1 (some a) (some (nda z T n)) dp = res → fX5_readRest kN Y S1 (some a) (some (nda z T n)) dp = res := by
    intro res hres
    unfold fX5_readRest
    refine bnd ((eN hY hTT hn).trans (congrArg some h404)) ?_
    rcases hk with rfl | rfl
    · refine ifN (by decide) ?_
      refine ifN (by decide) ?_
      refine ifN (by decide) ?_
      refine ifN (by decide) ?_
      refine ifN (by decide) ?_
      refine ifN (by decide) ?_
      refine ifN (by decide) ?_
      refine ifN (by decide) ?_
      refine ifN (by decide) ?_
      refine ifN (by decide) ?_
      refine ifP (by decide) ?_
      exact hres
    · refine ifN (by decide) ?_
      refine ifN (by decide) ?_
      refine ifN (by decide) ?_
      refine ifN (by decide) ?_
      refine ifN (by decide) ?_
      refine ifN (by decide) ?_
      refine ifN (by decide) ?_
      refine ifN (by decide) ?_
      refine ifN (by decide) ?_
      refine ifN (by decide) ?_
      refine ifN (by decide) ?_
      refine ifP (by decide) ?_
      exact hres
  cases h1 : dgt L K 1 9 o with
  | none =>
    refine Or.inl ⟨S1, o, upd ρ 1 (nI 0), hC0 _ ?_, HFR_rfl, hO.2.2.2, ho, (r_187 hB hn ho).2 h1 (by omega), rr_str (rr_1 (x := 0) hR) g5 g7 g8 g10⟩
    unfold fX5_readRest_162
    refine bnd (po_rcv hO) ?_
    refine bnd ((c_num hY hTT hn hT hO ho (lo := 1) (hi := 9) (by omega) (by omega)).2 h1) ?_
    exact if_pos rfl
  | some nb =>
    have q1 := dgt_in h1
    have hD2 := hd_num (x := nb) (o1 := o + 1) hD
    rw [(r_187 hB hn ho).1 nb h1, r_200_no (by omega) (by omega), r_219_hi (by omega) (by omega) (by omega)]
    refine Or.inr (jh_one ⟨by omega, by omega⟩ hB hD2 (by omega) hd (rr_1 hR) (by unfold DTX; omega) (by rw [if_pos (by omega), clL_len0]; omega) (fun S3 r hr hres => hC0 _ ?_) rfl)
    unfold fX5_readRest_162
    refine bnd (po_rcv hO) ?_
    refine bnd ((c_num hY hTT hn hT hO ho (lo := 1) (hi := 9) (by omega) (by omega)).1 nb h1) ?_
    refine ifN (show ¬ (1 : Int32) = 0 by decide) ?_
    refine bnd (po_rcv hO) ?_
    refine bnd hres ?_
    rcases hr with rfl | rfl
    · exact if_pos rfl
    · exact if_neg (show ¬ (1 : Int32) = 0 by decide)
theorem jh_time (h : JB z T a b n K d o 13 L t M Y S1 ρ v s5 s7 s8 s10) : JF z T a n b K d M A op S1 (fX5_readRest kN Y S1 (some a) (some (nda z T n)) dp) (DSP b (RdM b M (RW A n ρ) op o (n + 1) d 0 0) 13 n) ∨ JI z T a n b K d o 13 v t M A op kN Y dp S1 (fX5_readRest kN Y S1 (some a) (some (nda z T n)) dp) (DSP b (RdM b M (RW A n ρ) op o (n + 1) d 0 0) 13 n) := by
  obtain ⟨hY, hTT, hn, hB, hT, hO, hSC, ho, h404, h401, h402, hD, hd, hR, g5, g7, g8, g10⟩ := h
  have hR0 : DSP b (RdM b M (RW A n ρ) op o (n + 1) d 0 0) 13 n = fX12_begins_162 (Ym b) (RdM b M (RW A n ρ) op o (n + 1) d 0 0) (some b) (nI 13) (nI n) := by
    unfold DSP
    refine ifN (by decide) ?_
    refine ifN (by decide) ?_
    refine ifP (by decide) ?_
    rfl
  rw [hR0]
  have hC0 : ∀ res, ((rcv Y 5 (some a)).bind fun _ => (fX5_readNumber Y S1 (some a) (some (nda z T n)) 0 9).bind fun q226 => if q226.2 = 0 then some (q226.1, (0 : Int32)) else (rcv Y 5 (some a)).bind fun _ => (kN q226.1 (some a) (some (nda z T n)) (dp + 1)).bind fun q237 => if q237.2 = 0 then some (q237.1, (0 : Int32)) else some (q237.1, 1)) = res → fX5_readRest kN Y S1 (some a) (some (nda z T n)) dp = res := by
    intro res hres
    unfold fX5_readRest
    refine bnd ((eN hY hTT hn).trans (congrArg some h404)) ?_
    refine ifN (by decide) ?_
    refine ifN (by decide) ?_
    refine ifN (by decide) ?_
    refine ifN (by decide) ?_
    refine ifN (by decide) ?_
    refine ifN (by decide) ?_
    refine ifN (by decide) ?_
    refine ifN (by decide) ?_
    refine ifN (by decide) ?_
    refine ifN (by decide) ?_
    refine ifN (by decide) ?_
    refine ifN (by decide) ?_
    refine ifN (by decide) ?_
    refine ifP (by decide) ?_
    exact hres
  cases h1 : dgt L K 0 9 o with
  | none =>
    refine Or.inl ⟨S1, o, upd ρ 1 (nI 0), hC0 _ ?_, HFR_rfl, hO.2.2.2, ho, (r_162 hB hn ho (by omega) (by omega)).2 h1 (by omega), rr_str (rr_1 (x := 0) hR) g5 g7 g8 g10⟩
    refine bnd (po_rcv hO) ?_
    refine bnd ((c_num hY hTT hn hT hO ho (lo := 0) (hi := 9) (by omega) (by omega)).2 h1) ?_
    exact if_pos rfl
  | some nb =>
    have q1 := dgt_in h1
    have hD2 := hd_num (x := nb) (o1 := o + 1) hD
    rw [(r_162 hB hn ho (by omega) (by omega)).1 nb h1, r_200_no (by omega) (by omega), r_219_hi (by omega) (by omega) (by omega)]
    refine Or.inr (jh_one ⟨by omega, by omega⟩ hB hD2 (by omega) hd (rr_1 hR) (by unfold DTX; omega) (by rw [if_pos (by omega), clL_len0]; omega) (fun S3 r hr hres => hC0 _ ?_) rfl)
    refine bnd (po_rcv hO) ?_
    refine bnd ((c_num hY hTT hn hT hO ho (lo := 0) (hi := 9) (by omega) (by omega)).1 nb h1) ?_
    refine ifN (show ¬ (1 : Int32) = 0 by decide) ?_
    refine bnd (po_rcv hO) ?_
    refine bnd hres ?_
    rcases hr with rfl | rfl
    · exact if_pos rfl
    · exact if_neg (show ¬ (1 : Int32) = 0 by decide)
theorem jh_scope (h : JB z T a b n K d o 14 L t M Y S1 ρ v s5 s7 s8 s10) : JF z T a n b K d M A op S1 (fX5_readRest kN Y S1 (some a) (some (nda z T n)) dp) (DSP b (RdM b M (RW A n ρ) op o (n + 1) d 0 0) 14 n) ∨ JI z T a n b K d o 14 v t M A op kN Y dp S1 (fX5_readRest kN Y S1 (some a) (some (nda z T n)) dp) (DSP b (RdM b M (RW A n ρ) op o (n + 1) d 0 0) 14 n) := by
  obtain ⟨hY, hTT, hn, hB, hT, hO, hSC, ho, h404, h401, h402, hD, hd, hR, g5, g7, g8, g10⟩ := h
  have hR0 : DSP b (RdM b M (RW A n ρ) op o (n + 1) d 0 0) 14 n = fX12_begins_200 (Ym b) (RdM b M (RW A n ρ) op o (n + 1) d 0 0) (some b) (nI 14) (nI n) := by
    unfold DSP
    refine ifN (by decide) ?_
    refine ifN (by decide) ?_
    refine ifN (by decide) ?_
    refine ifN (by decide) ?_
    refine ifN (by decide) ?_
    rfl
  rw [hR0]
  have hC0 : ∀ res, ((rcv Y 5 (some a)).bind fun _ => (fX5_readNumber Y S1 (some a) (some (nda z T n)) 0 7).bind fun q254 => if q254.2 = 0 then some (q254.1, (0 : Int32)) else (rcv Y 5 (some a)).bind fun _ => (kN q254.1 (some a) (some (nda z T n)) (dp + 1)).bind fun q265 => if q265.2 = 0 then some (q265.1, (0 : Int32)) else some (q265.1, 1)) = res → fX5_readRest kN Y S1 (some a) (some (nda z T n)) dp = res := by
    intro res hres
    unfold fX5_readRest
    refine bnd ((eN hY hTT hn).trans (congrArg some h404)) ?_
    refine ifN (by decide) ?_
    refine ifN (by decide) ?_
    refine ifN (by decide) ?_
    refine ifN (by decide) ?_
    refine ifN (by decide) ?_
    refine ifN (by decide) ?_
    refine ifN (by decide) ?_
    refine ifN (by decide) ?_
    refine ifN (by decide) ?_
    refine ifN (by decide) ?_
    refine ifN (by decide) ?_
    refine ifN (by decide) ?_
    refine ifN (by decide) ?_
    refine ifN (by decide) ?_
    refine ifP (by decide) ?_
    exact hres
  cases h1 : dgt L K 0 7 o with
  | none =>
    refine Or.inl ⟨S1, o, upd ρ 1 (nI 0), hC0 _ ?_, HFR_rfl, hO.2.2.2, ho, (r_200_14 hB hn ho).2 h1, rr_str (rr_1 (x := 0) hR) g5 g7 g8 g10⟩
    refine bnd (po_rcv hO) ?_
    refine bnd ((c_num hY hTT hn hT hO ho (lo := 0) (hi := 7) (by omega) (by omega)).2 h1) ?_
    exact if_pos rfl
  | some nb =>
    have q1 := dgt_in h1
    have hD2 := hd_num (x := nb) (o1 := o + 1) hD
    rw [(r_200_14 hB hn ho).1 nb h1, r_219_hi (by omega) (by omega) (by omega)]
    refine Or.inr (jh_one ⟨by omega, by omega⟩ hB hD2 (by omega) hd (rr_1 hR) (by unfold DTX; omega) (by rw [if_pos (by omega), clL_len0]; omega) (fun S3 r hr hres => hC0 _ ?_) rfl)
    refine bnd (po_rcv hO) ?_
    refine bnd ((c_num hY hTT hn hT hO ho (lo := 0) (hi := 7) (by omega) (by omega)).1 nb h1) ?_
    refine ifN (show ¬ (1 : Int32) = 0 by decide) ?_
    refine bnd (po_rcv hO) ?_
    refine bnd hres ?_
    rcases hr with rfl | rfl
    · exact if_pos rfl
    · exact if_neg (show ¬ (1 : Int32) = 0 by decide)
theorem jh_guard (h : JB z T a b n K d o 12 L t M Y S1 ρ v s5 s7 s8 s10) : JF z T a n b K d M A op S1 (fX5_readRest kN Y S1 (some a) (some (nda z T n)) dp) (DSP b (RdM b M (RW A n ρ) op o (n + 1) d 0 0) 12 n) ∨ JI z T a n b K d o 12 v t M A op kN Y dp S1 (fX5_readRest kN Y S1 (some a) (some (nda z T n)) dp) (DSP b (RdM b M (RW A n ρ) op o (n + 1) d 0 0) 12 n) := by
  obtain ⟨hY, hTT, hn, hB, hT, hO, hSC, ho, h404, h401, h402, hD, hd, hR, g5, g7, g8, g10⟩ := h
  have hR0 : DSP b (RdM b M (RW A n ρ) op o (n + 1) d 0 0) 12 n = (fX12_deed (Ym b) (RdM b M (RW A n ρ) op o (n + 1) d 0 0) (some b) (nI n) (nI 0)).bind fun S241 => fX12_begins_244 (Ym b) S241 (some b) (nI 12) (nI n) := by
    unfold DSP
    refine ifN (by decide) ?_
    refine ifN (by decide) ?_
    refine ifN (by decide) ?_
    refine ifN (by decide) ?_
    refine ifN (by decide) ?_
    rw [r_200_no (by omega) (by omega)]
    unfold fX12_begins_219
    refine bnd q1222 ?_
    refine ifP rfl ?_
    refine ifN (by decide) ?_
    refine ifP (by decide) ?_
    refine bnd mrcv ?_
    rfl
  rw [hR0]
  have hC0 : ∀ res, ((fX5_readClause Y S1 (some a) (some (nda z T n)) (some (cla z T n)) (1 + 0)).bind fun q198 => if q198.2 = 0 then some (q198.1, (0 : Int32)) else (rcv Y 5 (some a)).bind fun _ => (kN q198.1 (some a) (some (nda z T n)) (dp + 1)).bind fun q209 => if q209.2 = 0 then some (q209.1, (0 : Int32)) else some (q209.1, 1)) = res → fX5_readRest kN Y S1 (some a) (some (nda z T n)) dp = res := by
    intro res hres
    unfold fX5_readRest
    refine bnd ((eN hY hTT hn).trans (congrArg some h404)) ?_
    refine ifN (by decide) ?_
    refine ifN (by decide) ?_
    refine ifN (by decide) ?_
    refine ifN (by decide) ?_
    refine ifN (by decide) ?_
    refine ifN (by decide) ?_
    refine ifN (by decide) ?_
    refine ifN (by decide) ?_
    refine ifN (by decide) ?_
    refine ifN (by decide) ?_
    refine ifN (by decide) ?_
    refine ifN (by decide) ?_
    refine ifP (by decide) ?_
    refine bnd ((eNR hY hTT hn).trans (congrArg some h401)) ?_
    refine bnd (po_rcv hO) ?_
    exact hres
  rcases cl_tot L K 0 o with ⟨o1, key, s, w, hCL⟩ | ⟨o1, hCL⟩
  · have gi := cl_in hCL
    have hde := r_deed_ok (A := A) (op := op) (m := n + 1) (d := d) (mo := 0) (ρ := ρ) hB ho (e := 0) (by omega) hn hCL
    have hD2 := hd_cla (o1 := o1) (key := key) (w := w) (show s ≠ 0 by omega) hD
    have hO2 := hd_po hD2.1 hD2.2.1 hO
    have a1 := gi.2.2.2.2.2.1 rfl
    refine Or.inr (jh_one (S2 := CLS S1 a (cla z T n) o1 key s w ((scO t key n).map (nda z T))) ⟨by omega, by omega⟩ hB hD2 gi.1 hd (rr_c hR) (by unfold DTX; omega) (by rw [if_neg (by omega), clL_len (by omega)]; omega) (fun S3 r hr hres => hC0 _ ?_) ?_)
    · refine bnd (c_clause_ok hY hTT hn (Or.inl rfl) hSC hT hO ho (e := 0) (by omega) hCL) ?_
      refine ifN (show ¬ (1 : Int32) = 0 by decide) ?_
      refine bnd (po_rcv hO2) ?_
      refine bnd hres ?_
      rcases hr with rfl | rfl
      · exact if_pos rfl
      · exact if_neg (show ¬ (1 : Int32) = 0 by decide)
    · refine Eq.symm ?_
      refine bnd hde ?_
      exact r_244_hi (by omega) (by omega) (by omega)
  · obtain ⟨ρ4, hst, he4⟩ := r_deed_no (A := A) (op := op) (m := n + 1) (d := d) (mo := 0) (ρ := ρ) hB ho (e := 0) (by omega) hn hCL
    refine Or.inl ⟨_, o1, ρ4, hC0 (some (OFS S1 a o1, 0)) ?_, HFR_ofs (o := o1) HFR_rfl, upN_self, clf_in ho hCL, bnd he4 ?_, hst (rr_str hR g5 g7 g8 g10)⟩
    · refine bnd (c_clause_no hY hT hO ho (e := 0) (by omega) hCL) ?_
      exact if_pos rfl
    · rw [r_244_hi (by omega) (by omega) (by omega), r_300_no (by omega) (by omega)]
      exact r_321_f (by decide)
end JH3
