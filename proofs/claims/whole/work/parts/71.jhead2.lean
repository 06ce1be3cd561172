/-! readTree: the heads, kind by kind -/
/-- what both programs hold before a head is read: the class' node is made, the reference has written what it writes first -/
def JB (z T a b n K d o k : Nat) (L : Nat → Nat) (t : TT) (M : HS) (Y : LY) (S1 : HS) (ρ : Nat → Int32) (v : Int32) (s5 s7 s8 s10 : Nat) : Prop := ExY z Y ∧ isT T ∧ n < 24 ∧ MB b K L M ∧ TXC z K L S1 ∧ PO z T a Y S1 o ∧ SCF z T n t S1 ∧ o ≤ K ∧ S1.1 404 (nda z T n) = nI k ∧ S1.2.1 401 (nda z T n) = some (cla z T n) ∧ S1.2.1 402 (nda z T n) = some (ena z T n) ∧ HDD z T a n t S1 S1 o 0 s5 0 s7 s8 0 s10 ∧ d < 10 ∧ RR ρ k v d 0 s5 0 s7 s8 0 s10 ∧ s5 ≤ 7 ∧ s7 ≤ 99 ∧ s8 ≤ 7 ∧ s10 ≤ 99
section JH2
variable {z T a b n i j k c d e o o1 K key s w nb ek es ew m x s5 s7 s8 s10 : Nat} {L : Nat → Nat} {M S S1 : HS} {Y : LY} {v dp : Int32} {t : TT} {A : Nat → Nat → Int32} {op ρ : Nat → Int32} {kN : HS → Option Nat → Option Nat → Int32 → Option (HS × Int32)}
theorem rr_str (h : RR ρ k v d nb key s w ek es ew) (h1 : key ≤ 7) (h2 : w ≤ 99) (h3 : ek ≤ 7) (h4 : ew ≤ 99) : STRR ρ := ⟨⟨key, h1, h.2.2.2.2.1⟩, ⟨w, h2, h.2.2.2.2.2.2.1⟩, ⟨ek, h3, h.2.2.2.2.2.2.2.1⟩, ⟨ew, h4, h.2.2.2.2.2.2.2.2.2⟩⟩
theorem rr_1 (h : RR ρ k v d nb key s w ek es ew) : RR (upd ρ 1 (nI x)) k v d x key s w ek es ew := ⟨h.1, rfl, h.2.2⟩
theorem rr_c (h : RR ρ k v d nb key s w ek es ew) {key1 s1 w1 : Nat} : RR (upd (upd (upd ρ 5 (nI key1)) 6 (nI s1)) 7 (nI w1)) k v d nb key1 s1 w1 ek es ew := ⟨h.1, h.2.1, h.2.2.1, h.2.2.2.1, rfl, rfl, rfl, h.2.2.2.2.2.2.2⟩
theorem rr_e (h : RR ρ k v d nb key s w ek es ew) {key1 s1 w1 : Nat} : RR (upd (upd (upd ρ 8 (nI key1)) 9 (nI s1)) 10 (nI w1)) k v d nb key s w key1 s1 w1 := ⟨h.1, h.2.1, h.2.2.1, h.2.2.2.1, h.2.2.2.2.1, h.2.2.2.2.2.1, h.2.2.2.2.2.2.1, rfl, rfl, rfl⟩
theorem rr_4 (h : RR ρ k v d nb key s w ek es ew) {y : Int32} : RR (upd ρ 4 y) k v d nb key s w ek es ew := h
theorem zr_0 : zr 0 = some 0 := rfl
theorem zr_1 : zr 1 = some 1 := rfl
theorem zr_r {r : Int32} (h : r = 0 ∨ r = 1) : zr r = some r := if_pos h
theorem clL_len (hs : s ≠ 0) : (clL key s w).length = 2 + (numL w).length := by
  unfold clL
  rw [if_neg hs, List.length_cons, List.length_cons]
  omega
theorem clL_len0 : (clL key 0 w).length = 0 := rfl
/-- an action -/
theorem jh_act (hk : k < 2) (h : JB z T a b n K d o k L t M Y S1 ρ v s5 s7 s8 s10) : JF z T a n b K d M A op S1 (fX5_readRest kN Y S1 (some a) (some (nda z T n)) dp) (if nI k < 2 then fX12_begins_162 (Ym b) (RdM b M (RW A n ρ) op o (n + 1) d 0 0) (some b) (nI k) (nI n) else none) ∨ JL z T a n b K d o k v t M A op S1 (fX5_readRest kN Y S1 (some a) (some (nda z T n)) dp) (if nI k < 2 then fX12_begins_162 (Ym b) (RdM b M (RW A n ρ) op o (n + 1) d 0 0) (some b) (nI k) (nI n) else none) := by
  obtain ⟨hY, hTT, hn, hB, hT, hO, hSC, ho, h404, h401, h402, hD, hd, hR, g5, g7, g8, g10⟩ := h
  have hC : fX5_readRest kN Y S1 (some a) (some (nda z T n)) dp = fX5_readRest_80 kN Y S1 (some a) (some (nda z T n)) := by
    unfold fX5_readRest
    refine bnd ((eN hY hTT hn).trans (congrArg some h404)) ?_
    have hk' : k = 0 ∨ k = 1 := by omega
    rcases hk' with rfl | rfl
    · refine ifP rfl ?_
      rfl
    · refine ifN (by decide) ?_
      refine ifP (by decide) ?_
      rfl
  rw [hC, if_pos (show nI k < 2 from nI_lt (b := 2) hk (by decide))]
  unfold fX5_readRest_80
  cases h1 : dgt L K 0 9 o with
  | none =>
    refine Or.inl ⟨S1, o, upd ρ 1 (nI 0), ?_, HFR_rfl, hO.2.2.2, ho, (r_162 hB hn ho (by omega) (by omega)).2 h1 (by omega), rr_str (rr_1 (x := 0) hR) g5 g7 g8 g10⟩
    refine bnd (po_rcv hO) ?_
    refine bnd ((c_num hY hTT hn hT hO ho (lo := 0) (hi := 9) (by omega) (by omega)).2 h1) ?_
    exact if_pos rfl
  | some nb =>
    have q1 := dgt_in h1
    have hD2 := hd_num (x := nb) (o1 := o + 1) hD
    have hR2 := rr_1 (x := nb) hR
    generalize hS2 : (upN (OFS S1 a (o + 1)).1 405 (nda z T n) (nI nb), S1.2) = S2 at hD2
    have hT2 := hd_txc hD2.1 hT
    have hO2 := hd_po hD2.1 hD2.2.1 hO
    have hSC2 := hd_scf hD2.1 hSC
    rw [(r_162 hB hn ho (by omega) (by omega)).1 nb h1, r_200_no (by omega) (by omega)]
    have hC2 : ∀ (res : Option (HS × Int32)), ((fX5_readEffects Y S2 (some a) (some (nda z T n))).bind fun q93 => if q93.2 = 0 then some (q93.1, (0 : Int32)) else some (q93.1, 1)) = res → ((rcv Y 5 (some a)).bind fun _ => (fX5_readNumber Y S1 (some a) (some (nda z T n)) 0 9).bind fun q85 => if q85.2 = 0 then some (q85.1, (0 : Int32)) else (rcv Y 5 (some a)).bind fun _ => (fX5_readEffects Y q85.1 (some a) (some (nda z T n))).bind fun q93 => if q93.2 = 0 then some (q93.1, (0 : Int32)) else some (q93.1, 1)) = res := by
      intro res hres
      refine bnd (po_rcv hO) ?_
      refine bnd ((c_num hY hTT hn hT hO ho (lo := 0) (hi := 9) (by omega) (by omega)).1 nb h1) ?_
      refine ifN (show ¬ (1 : Int32) = 0 by decide) ?_
      refine bnd (po_rcv hO) ?_
      rw [hS2]
      exact hres
    have hR219 : fX12_begins_219 (Ym b) (RdM b M (RW A n (upd ρ 1 (nI nb))) op (o + 1) (n + 1) d 0 0) (some b) (nI k) (nI n) = fX12_begins_244 (Ym b) (RdM b M (RW A n (upd ρ 1 (nI nb))) op (o + 1) (n + 1) d 0 0) (some b) (nI k) (nI n) := by
      unfold fX12_begins_219
      refine bnd q1222 ?_
      refine ifP rfl ?_
      refine ifN (nIn (show k ≠ 2 by omega) (by omega) (by omega)) ?_
      exact if_neg (nIn (show k ≠ 12 by omega) (by omega) (by omega))
    rw [hR219, r_244_lo hB (by omega) hk]
    -- behind the effect
    have tail : ∀ (S3 : HS) (ρ3 : Nat → Int32) (o3 key s w : Nat), HDD z T a n t S1 S3 o3 nb key s w s8 0 s10 → RR ρ3 k v d nb key s w s8 0 s10 → o3 ≤ K → key ≤ 7 → s ≤ 6 → (s = 0 ∨ 4 ≤ s) → w ≤ 99 → o + 1 + (clL key s w).length ≤ o3 →
        (∃ S4 o4 ρ4, fX5_readEffects_40 Y S3 (some a) (some (nda z T n)) = some (S4, 0) ∧ HFR z T a n S1 S4 ∧ S4.1 502 a = nI o4 ∧ o4 ≤ K ∧ fX12_begins_274 (Ym b) (RdM b M (RW A n ρ3) op o3 (n + 1) d 0 0) (some b) (nI k) (nI n) = some (RdM b M (RW A n ρ4) op o4 (n + 1) d 1 0) ∧ STRR ρ4) ∨
        (∃ S4 o4 ek es ew ρ4, fX5_readEffects_40 Y S3 (some a) (some (nda z T n)) = some (S4, 1) ∧ HDD z T a n t S1 S4 o4 nb key s w ek es ew ∧ o4 ≤ K ∧ fX12_begins_274 (Ym b) (RdM b M (RW A n ρ3) op o3 (n + 1) d 0 0) (some b) (nI k) (nI n) = some (RdM b M (RW A n ρ4) op o4 (n + 1) d 0 0) ∧ RR ρ4 k v d nb key s w ek es ew ∧ ρ4 4 = nI n ∧ DTX k nb key s w ek es ew ∧ o + HLX k nb key s w ek es ew ≤ o4) := by
      intro S3 ρ3 o3 key s w hD3 hR3 ho3 hkey hs6 hs4 hw hlen
      have hT3 := hd_txc hD3.1 hT
      have hO3 := hd_po hD3.1 hD3.2.1 hO
      have hSC3 := hd_scf hD3.1 hSC
      rw [r_274_lo hB ho3 hk]
      have hsk := c_skip hY hT3 hO3 ho3 (c := 126) (by omega)
      have hlx : ∀ ek es ew, HLX k nb key s w ek es ew = 1 + (clL key s w).length + (if es = 0 then 0 else 1 + (clL ek es ew).length) := by
        intro ek es ew
        unfold HLX
        rw [if_pos (c := k < 2 ∨ k = 8 ∨ k = 10 ∨ k = 11 ∨ k = 13 ∨ k = 14) (Or.inl hk), if_neg (c := 4 ≤ k ∧ k ≤ 8) (by omega), List.length_append, List.length_append, List.length_append]
        have e1 : ([48 + nb] : List Nat).length = 1 := rfl
        have e0 : ([] : List Nat).length = 0 := rfl
        rw [e1, e0]
        by_cases q : es = 0
        · rw [if_pos q, if_pos q, e0]; omega
        · rw [if_neg q, if_neg q, List.length_cons]; omega
      by_cases h126 : o3 < K ∧ L o3 = 126
      · rw [if_pos h126] at hsk ⊢
        have hD4 := hd_ofs (o1 := o3 + 1) hD3
        have hT4 := hd_txc hD4.1 hT
        have hO4 := hd_po hD4.1 hD4.2.1 hO
        have hSC4 := hd_scf hD4.1 hSC
        have h402' : (OFS S3 a (o3 + 1)).2.1 402 (nda z T n) = some (ena z T n) := (hD4.1.2.2 402 _ (by omega)).trans h402
        rcases cl_tot L K 1 (o3 + 1) with ⟨o4, ek, es, ew, hCL⟩ | ⟨o4, hCL⟩
        · have gi := cl_in hCL
          refine Or.inr ⟨_, o4, ek, es, ew, _, ?_, hd_ena (by omega) hD4, gi.1, ?_, rr_4 (y := nI n) (rr_e hR3), rfl, ?_, ?_⟩
          · unfold fX5_readEffects_40
            refine bnd (po_rcv hO3) ?_
            refine bnd hsk ?_
            refine ifN (show ¬ (1 : Int32) = 0 by decide) ?_
            refine bnd ((eNR hY hTT hn).trans (congrArg some h402')) ?_
            refine bnd (po_rcv hO4) ?_
            refine bnd (c_clause_ok hY hTT hn (Or.inr rfl) hSC4 hT4 hO4 (by omega) (e := 1) (by omega) hCL) ?_
            exact if_neg (show ¬ (1 : Int32) = 0 by decide)
          · refine bnd (r_end_ok hB (by omega) hn hCL) ?_
            exact r_321_leaf hB (by omega) hn
          · have g1 := gi.2.2.2.2.2.2.1 (by omega)
            unfold DTX
            omega
          · rw [hlx, if_neg (by omega), clL_len (key := ek) (s := es) (w := ew) (by omega)]
            omega
        · obtain ⟨ρ4, hst, he4⟩ := r_end_no (A := A) (op := op) (m := n + 1) (d := d) (mo := 0) (ρ := ρ3) hB (by omega) hn hCL
          refine Or.inl ⟨_, o4, ρ4, ?_, HFR_ofs (o := o4) hD4.1, upN_self, clf_in (by omega) hCL, ?_, hst (rr_str hR3 hkey hw g8 g10)⟩
          · unfold fX5_readEffects_40
            refine bnd (po_rcv hO3) ?_
            refine bnd hsk ?_
            refine ifN (show ¬ (1 : Int32) = 0 by decide) ?_
            refine bnd ((eNR hY hTT hn).trans (congrArg some h402')) ?_
            refine bnd (po_rcv hO4) ?_
            refine bnd (c_clause_no hY hT4 hO4 (by omega) (e := 1) (by omega) hCL) ?_
            exact if_pos rfl
          · refine bnd he4 ?_
            exact r_321_f (by decide)
      · rw [if_neg h126] at hsk ⊢
        refine Or.inr ⟨S3, o3, s8, 0, s10, _, ?_, hD3, ho3, r_321_leaf hB (by omega) hn, rr_4 (y := nI n) hR3, rfl, ?_, ?_⟩
        · unfold fX5_readEffects_40
          refine bnd (po_rcv hO3) ?_
          refine bnd hsk ?_
          exact if_pos rfl
        · unfold DTX
          omega
        · rw [hlx, if_pos rfl]
          omega
    by_cases hds : (dgt L K 0 9 (o + 1)).isSome = true
    · rw [if_pos hds]
      have hce := c_eff hY hT2 hO2 (o := o + 1) (by omega) (l1 := some (nda z T n))
      rw [if_pos hds] at hce
      have h401' : S2.2.1 401 (nda z T n) = some (cla z T n) := (hD2.1.2.2 401 _ (by omega)).trans h401
      rcases cl_tot L K 1 (o + 1) with ⟨o3, key, s, w, hCL⟩ | ⟨o3, hCL⟩
      · have gi := cl_in hCL
        have hD3 := hd_cla (o1 := o3) (key := key) (w := w) (show s ≠ 0 by omega) hD2
        have hcl := c_clause_ok hY hTT hn (Or.inl rfl) hSC2 hT2 hO2 (by omega) (e := 1) (by omega) hCL
        have hde := r_deed_ok (A := A) (op := op) (m := n + 1) (d := d) (mo := 0) (ρ := upd ρ 1 (nI nb)) hB (by omega) (e := 1) (Or.inr rfl) hn hCL
        have g1 := gi.2.2.2.2.2.2.1 (by omega)
        rcases tail _ _ o3 key s w hD3 (rr_c hR2) gi.1 gi.2.1 (by omega) (by omega) (by omega) (by rw [clL_len (by omega)]; omega) with ⟨S4, o4, ρ4, e1, e2, e3, e4, e5, e6⟩ | ⟨S4, o4, ek, es, ew, ρ4, e1, e2, e3, e4, e5⟩
        · refine Or.inl ⟨S4, o4, ρ4, hC2 _ ?_, e2, e3, e4, bnd hde e5, e6⟩
          rw [hce]
          refine bnd (a := (S4, (0 : Int32))) ?_ (if_pos rfl)
          refine bnd ((eNR hY hTT hn).trans (congrArg some h401')) ?_
          refine bnd (po_rcv hO2) ?_
          refine bnd hcl ?_
          exact (if_neg (show ¬ (1 : Int32) = 0 by decide)).trans e1
        · refine Or.inr ⟨S4, o4, nb, key, s, w, ek, es, ew, ρ4, hC2 _ ?_, e2, e3, bnd hde e4, e5⟩
          rw [hce]
          refine bnd (a := (S4, (1 : Int32))) ?_ (if_neg (show ¬ (1 : Int32) = 0 by decide))
          refine bnd ((eNR hY hTT hn).trans (congrArg some h401')) ?_
          refine bnd (po_rcv hO2) ?_
          refine bnd hcl ?_
          exact (if_neg (show ¬ (1 : Int32) = 0 by decide)).trans e1
      · obtain ⟨ρ4, hst, he4⟩ := r_deed_no (A := A) (op := op) (m := n + 1) (d := d) (mo := 0) (ρ := upd ρ 1 (nI nb)) hB (by omega) (e := 1) (Or.inr rfl) hn hCL
        refine Or.inl ⟨_, o3, ρ4, hC2 (some (OFS S2 a o3, 0)) ?_, HFR_ofs (o := o3) hD2.1, upN_self, clf_in (by omega) hCL, bnd he4 ?_, hst (rr_str hR2 g5 g7 g8 g10)⟩
        · rw [hce]
          refine bnd (a := (OFS S2 a o3, (0 : Int32))) ?_ (if_pos rfl)
          refine bnd ((eNR hY hTT hn).trans (congrArg some h401')) ?_
          refine bnd (po_rcv hO2) ?_
          refine bnd (c_clause_no hY hT2 hO2 (by omega) (e := 1) (by omega) hCL) ?_
          exact if_pos rfl
        · rw [r_274_f (by decide), r_300_no (by omega) (by omega)]
          exact r_321_f (by decide)
    · rw [if_neg hds]
      have hce := c_eff hY hT2 hO2 (o := o + 1) (by omega) (l1 := some (nda z T n))
      rw [if_neg hds] at hce
      rcases tail S2 _ (o + 1) s5 0 s7 hD2 hR2 (by omega) g5 (by omega) (Or.inl rfl) g7 (by rw [clL_len0]; omega) with ⟨S4, o4, ρ4, e1, e2, e3, e4, e5, e6⟩ | ⟨S4, o4, ek, es, ew, ρ4, e1, e2, e3, e4, e5⟩
      · refine Or.inl ⟨S4, o4, ρ4, hC2 _ ?_, e2, e3, e4, e5, e6⟩
        rw [hce]
        exact bnd e1 (if_pos rfl)
      · refine Or.inr ⟨S4, o4, nb, s5, 0, s7, ek, es, ew, ρ4, hC2 _ ?_, e2, e3, e4, e5⟩
        rw [hce]
        exact bnd e1 (if_neg (show ¬ (1 : Int32) = 0 by decide))
end JH2
