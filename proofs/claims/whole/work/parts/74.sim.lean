/-! readTree: both parsers go side by side -/
/-- how the reading of a node fails -/
def SFAIL (z T a b K : Nat) (S0 M : HS) (n d F : Nat) (A : Nat → Nat → Int32) (op : Nat → Int32) (o : Nat) (C : Option (HS × Int32)) : Prop := ∃ S1 o1 A1 op1 n1 d1, C = some (S1, 0) ∧ FRG z T a S0 S1 ∧ S1.1 502 a = nI o1 ∧ o1 ≤ K ∧ fX12_readTree_25 (Ym b) F (RdM b M A op o n d 0 1) (some b) = fX12_readTree_62 (Ym b) (RdM b M A1 op1 o1 n1 d1 1 0) (some b) ∧ STAA A1
/-- how it goes well: node e is whole, the reference stands behind it -/
def SOK (z T a b K : Nat) (Y : LY) (S0 M : HS) (n d F : Nat) (A : Nat → Nat → Int32) (op : Nat → Int32) (o : Nat) (t : TT) (stk : List Nat) (e : Nat) (C : Option (HS × Int32)) : Prop := ∃ S1 o1 A1 op1 n1 t1 g F1, C = some (S1, 1) ∧ n < n1 ∧ PST z T a K Y S0 n1 t1 stk o1 S1 A1 op1 ∧ LM n1 t1 e o1 ∧ t1 4 e = n1 - 1 ∧ (stk = [] → e = 0) ∧ (∀ p r, stk = p :: r → 0 < e ∧ t1 2 e = p) ∧ (∀ i, i < n → t1 0 i = t 0 i) ∧
  fX12_readTree_25 (Ym b) F (RdM b M A op o n d 0 1) (some b) = ((fX12_goesUp_0 (Ym b) g (RdM b M A1 op1 o1 n1 stk.length 0 0) (some b)).bind fun S56 => fX12_readTree_25 (Ym b) F1 S56 (some b)) ∧ F1 + n1 = F + n ∧ 1990 + stk.length ≤ g
section SIMU
variable {z T a b n i j k c d e o o1 K key s w nb ek es ew m x p F f : Nat} {L : Nat → Nat} {M S S0 S1 S2 S3 : HS} {Y : LY} {v dp : Int32} {t t1 : TT} {A : Nat → Nat → Int32} {op ρ : Nat → Int32} {kN : HS → Option Nat → Option Nat → Int32 → Option (HS × Int32)} {stk r : List Nat}
theorem jh_all {s5 s7 s8 s10 : Nat} (hk : k < 15) (h : JB z T a b n K d o k L t M Y S1 ρ v s5 s7 s8 s10) : JF z T a n b K d M A op S1 (fX5_readRest kN Y S1 (some a) (some (nda z T n)) dp) (DSP b (RdM b M (RW A n ρ) op o (n + 1) d 0 0) k n) ∨ (k < 4 ∧ JL z T a n b K d o k v t M A op S1 (fX5_readRest kN Y S1 (some a) (some (nda z T n)) dp) (DSP b (RdM b M (RW A n ρ) op o (n + 1) d 0 0) k n)) ∨ (4 ≤ k ∧ JI z T a n b K d o k v t M A op kN Y dp S1 (fX5_readRest kN Y S1 (some a) (some (nda z T n)) dp) (DSP b (RdM b M (RW A n ρ) op o (n + 1) d 0 0) k n)) := by
  by_cases h2 : k < 2
  · have e : DSP b (RdM b M (RW A n ρ) op o (n + 1) d 0 0) k n = (if nI k < 2 then fX12_begins_162 (Ym b) (RdM b M (RW A n ρ) op o (n + 1) d 0 0) (some b) (nI k) (nI n) else none) := by
      unfold DSP
      have hlt : nI k < 2 := nI_lt (b := 2) h2 (by decide)
      rw [if_pos hlt, if_pos hlt]
    rw [e]
    rcases jh_act (A := A) (op := op) (kN := kN) (dp := dp) h2 h with q | q
    · exact Or.inl q
    · exact Or.inr (Or.inl ⟨by omega, q⟩)
  · by_cases h3 : k = 2 ∨ k = 3
    · rcases jh_cl (A := A) (op := op) (kN := kN) (dp := dp) h3 h with q | q
      · exact Or.inl q
      · exact Or.inr (Or.inl ⟨by omega, q⟩)
    · have pk : ∀ {P Q : Prop}, P ∨ Q → P ∨ (k < 4 ∧ JL z T a n b K d o k v t M A op S1 (fX5_readRest kN Y S1 (some a) (some (nda z T n)) dp) (DSP b (RdM b M (RW A n ρ) op o (n + 1) d 0 0) k n)) ∨ (4 ≤ k ∧ Q) := fun h => h.elim Or.inl (fun q => Or.inr (Or.inr ⟨by omega, q⟩))
      by_cases h7 : k ≤ 7
      · exact pk (jh_list ⟨by omega, h7⟩ h)
      · have hk' : k = 8 ∨ k = 9 ∨ (k = 10 ∨ k = 11) ∨ k = 12 ∨ k = 13 ∨ k = 14 := by omega
        rcases hk' with rfl | rfl | h10 | rfl | rfl | rfl
        · exact pk (jh_par h)
        · exact pk (Or.inr (jh_inv h))
        · exact pk (jh_rep h10 h)
        · exact pk (jh_guard h)
        · exact pk (jh_time h)
        · exact pk (jh_scope h)
theorem DT_congr (h : ∀ c, c = 0 ∨ c = 1 ∨ (5 ≤ c ∧ c ≤ 10) → t1 c i = t c i) (hD : DT t i) : DT t1 i := by
  unfold DT at *
  rw [h 0 (by omega), h 1 (by omega), h 5 (by omega), h 6 (by omega), h 7 (by omega), h 8 (by omega), h 9 (by omega), h 10 (by omega)]
  exact hD
/-- the new node's relation, all but its own end -/
theorem pst_new (hBA : BAS z T a b K L Y S0 M) (hP : PST z T a K Y S0 n t stk o S A op) (hE : EX n t stk) (hk : k < 15) (hn : n < 24) (hl : stk.length < 10) (hG : GSP z T n stk S S3 (nI k) (nI (stk.length + 1)) (stk.head?.map (nda z T)) (if n = 0 then none else some (nda z T (n - 1)))) (hO3 : PO z T a Y S3 o) (hF3 : FRG z T a S0 S3) (hD : HDD z T a n (att t n k stk) (OFS S3 a (o + 1)) S2 o1 nb key s w ek es ew) (hR : RR ρ k (vUp n stk) stk.length nb key s w ek es ew) (hDT : DTX k nb key s w ek es ew) : PT (n + 1) (HT t n k stk nb key s w ek es ew) (if 4 ≤ k then n :: stk else stk) ∧ (∀ i, i < n + 1 → DT (HT t n k stk nb key s w ek es ew) i) ∧ TCR z T (n + 1) (HT t n k stk nb key s w ek es ew) S2 ∧ (∀ c, c < 11 → c ≠ 4 → ∀ i, i < n + 1 → RW A n ρ c i = if c = 2 ∧ i = 0 then -1 else nI (HT t n k stk nb key s w ek es ew c i)) ∧ (∀ i, i < 24 → STC (HT t n k stk nb key s w ek es ew) (RW A n ρ) i) ∧ FRG z T a S0 S2 ∧ PO z T a Y S2 o1 ∧ (headL (HT t n k stk nb key s w ek es ew) n).length = 1 + HLX k nb key s w ek es ew := by
  obtain ⟨hY, hTT, hB, hT, hF, ha⟩ := hBA
  obtain ⟨hPT, hDT0, hTC, hA, hop, hFr, hO, ho⟩ := hP
  have hX : NXN n k t (HT t n k stk nb key s w ek es ew) stk := HT_nx
  generalize ht1 : HT t n k stk nb key s w ek es ew = t1 at hX ⊢
  have hc0 : t1 0 n = k := by rw [← ht1]; exact (congrFun (HT_shape (by omega)) n).trans att_n
  have hc2 : t1 2 n = stk.headD 0 := by rw [← ht1]; exact (congrFun (HT_shape (by omega)) n).trans att_n
  have hc3 : t1 3 n = stk.length + 1 := by rw [← ht1]; exact (congrFun (HT_shape (by omega)) n).trans att_n
  have hd1 : t1 1 n = nb := by rw [← ht1]; exact if_pos rfl
  have hd5 : t1 5 n = key := by rw [← ht1]; exact if_pos rfl
  have hd6 : t1 6 n = s := by rw [← ht1]; exact if_pos rfl
  have hd7 : t1 7 n = w := by rw [← ht1]; exact if_pos rfl
  have hd8 : t1 8 n = ek := by rw [← ht1]; exact if_pos rfl
  have hd9 : t1 9 n = es := by rw [← ht1]; exact if_pos rfl
  have hd10 : t1 10 n = ew := by rw [← ht1]; exact if_pos rfl
  have hPT1 := nx_pt hPT hE hn hl hk hX
  have hNS := g_NS hPT hE hn hTC.1 hG hX
  have hND := g_ND hPT hTC.2.1 hTC.2.2.1 hG hX
  have hz : ∀ i, nda z T i ≠ z + T ∧ cla z T i ≠ z + T ∧ ena z T i ≠ z + T ∧ lfa z T i ≠ z + T := fun i => by unfold nda cla ena lfa; omega
  have hhf := hD.1
  -- the heap behind the head against the heap behind growing
  have hI : ∀ f x, f ≠ 502 → ¬ (f = 405 ∧ x = nda z T n) → ¬ ((100 ≤ f ∧ f ≤ 104) ∧ (x = cla z T n ∨ x = ena z T n)) → S2.1 f x = S3.1 f x := fun f x h1 h2 h3 => (hhf.2.1 f x (fun q => h1 q.1) h2 h3).trans (upN_ne (Or.inl h1))
  have hRf : ∀ f x, ¬ (f = 104 ∧ (x = cla z T n ∨ x = ena z T n)) → S2.2.1 f x = S3.2.1 f x := fun f x h => hhf.2.2 f x h
  have hsc : ∀ key, scO t1 key n = scO (att t n k stk) key n := fun key => scO_n (fun j hj => ⟨(hX.2 0 j (by omega) (by decide) (by decide)).trans (att_c (by omega) (by decide) (by decide)).symm, (hX.2 1 j (by omega) (by decide) (by decide)).trans (att_c (by omega) (by decide) (by decide)).symm, (hX.2 2 j (by omega) (by decide) (by decide)).trans (att_c (by omega) (by decide) (by decide)).symm⟩) (by rw [hX.1 2 (by omega)]) (fun j hj h0 => by
    have := ((hPT1.2.2.2.2.2 j (by omega)).2.2.2.2.2.2.1 h0).1
    rw [hX.1 2 (by omega)] at this
    exact this)
  have hcla : ∀ i, i ≠ n → cla z T i ≠ cla z T n ∧ cla z T i ≠ ena z T n ∧ ena z T i ≠ cla z T n ∧ ena z T i ≠ ena z T n := fun i h => by unfold cla ena; omega
  refine ⟨hPT1, fun i hi => ?_, ⟨fun i hi => ?_, fun i hi => ?_, fun i hi => ?_, ?_⟩, fun c hc h4 i hi => ?_, fun i hi => ?_, ?_, ?_, ?_⟩
  · by_cases hin : i = n
    · subst hin
      unfold DT
      rw [hc0, hd1, hd5, hd6, hd7, hd8, hd9, hd10]
      exact hDT
    · exact DT_congr (fun c hc => hX.2 c i hin (by omega) (by omega)) (hDT0 i (by omega))
  · have h := hNS i hi
    unfold NS at *
    rw [hI 404 _ (by decide) (by omega) (by omega), hI 406 _ (by decide) (by omega) (by omega), hI 407 _ (by decide) (by omega) (by omega), hRf 408 _ (by omega), hRf 409 _ (by omega), hRf 410 _ (by omega), hRf 411 _ (by omega), hRf 412 _ (by omega), hRf 413 _ (by omega)]
    exact h
  · by_cases hin : i = n
    · subst hin
      have h1 := hD.2.2.2.1
      have h2 := hD.2.2.2.2
      unfold NCX at h1 h2
      unfold ND NC
      rw [hd1, hd5, hd6, hd7, hd8, hd9, hd10, hsc key, hsc ek]
      exact ⟨hD.2.2.1, h1, h2⟩
    · have h := hND.1 i (by omega)
      have hc := hcla i hin
      unfold ND NC at *
      rw [hI 405 _ (by decide) (fun q => hin (nda_inj q.2)) (by omega), hI 100 _ (by decide) (by omega) (by omega), hI 101 _ (by decide) (by omega) (by omega), hI 102 _ (by decide) (by omega) (by omega), hI 103 _ (by decide) (by omega) (by omega), hRf 104 _ (by omega), hI 100 _ (by decide) (by omega) (by omega), hI 101 _ (by decide) (by omega) (by omega), hI 102 _ (by decide) (by omega) (by omega), hI 103 _ (by decide) (by omega) (by omega), hRf 104 _ (by omega)]
      exact h
  · have h := hND.2.1 i hi
    refine ⟨fun f h1 h2 h3 => ?_, ?_⟩
    · rw [hI f _ (by omega) (by omega) (by omega)]
      exact h.1 f h1 h2 h3
    · rw [hRf 302 _ (by omega)]
      exact h.2
  · rw [hI 801 _ (by decide) (by omega) (by omega)]
    exact hG.2.2.2.2.2.2.2.2.1
  · by_cases hin : i = n
    · subst hin
      have e : RW A i ρ c i = ρ c := if_pos rfl
      obtain ⟨r0, r1, r2, r3, r5, r6, r7, r8, r9, r10⟩ := hR
      have hcc : c = 0 ∨ c = 1 ∨ c = 2 ∨ c = 3 ∨ c = 5 ∨ c = 6 ∨ c = 7 ∨ c = 8 ∨ c = 9 ∨ c = 10 := by omega
      rw [e]
      rcases hcc with rfl | rfl | rfl | rfl | rfl | rfl | rfl | rfl | rfl | rfl
      · rw [r0, hc0, if_neg (by omega)]
      · rw [r1, hd1, if_neg (by omega)]
      · rw [r2, hc2]
        unfold vUp
        by_cases h0 : i = 0
        · rw [if_pos h0, if_pos ⟨rfl, h0⟩]
        · rw [if_neg h0, if_neg (fun q => h0 q.2)]
      · rw [r3, hc3, if_neg (by omega)]
      · rw [r5, hd5, if_neg (by omega)]
      · rw [r6, hd6, if_neg (by omega)]
      · rw [r7, hd7, if_neg (by omega)]
      · rw [r8, hd8, if_neg (by omega)]
      · rw [r9, hd9, if_neg (by omega)]
      · rw [r10, hd10, if_neg (by omega)]
    · rw [show RW A n ρ c i = A c i from if_neg hin, hX.2 c i hin h4 (by omega)]
      exact hA.1 c hc h4 i (by omega)
  · by_cases hin : i = n
    · subst hin
      unfold STC
      have e : ∀ c, RW A i ρ c i = ρ c := fun c => if_pos rfl
      obtain ⟨r0, r1, r2, r3, r5, r6, r7, r8, r9, r10⟩ := hR
      unfold DTX at hDT
      rw [e, e, e, e, r5, r7, r8, r10, hd5, hd7, hd8, hd10]
      exact ⟨⟨rfl, by omega⟩, ⟨rfl, by omega⟩, ⟨rfl, by omega⟩, rfl, by omega⟩
    · unfold STC
      have e : ∀ c, RW A n ρ c i = A c i := fun c => if_neg hin
      rw [e, e, e, e, hX.2 5 i hin (by decide) (by decide), hX.2 7 i hin (by decide) (by decide), hX.2 8 i hin (by decide) (by decide), hX.2 10 i hin (by decide) (by decide)]
      exact hA.2.2 i hi
  · exact FRG_trans (FRG_trans hF3 FRG_ofs) (FRG_hfr hn hhf)
  · exact hd_po hhf hD.2.1 (PO_ofs (o1 := o + 1) hO3)
  · unfold headL
    rw [hc0, hd1, hd5, hd6, hd7, hd8, hd9, hd10, List.length_cons]
    unfold HLX
    omega
theorem scf_new (hPT : PT n t stk) (hDT0 : ∀ i, i < n → DT t i) (hTC : TCR z T n t S) (hE : EX n t stk) (hk : k < 15) (hn : n < 24) (hl : stk.length < 10) (hG : GSP z T n stk S S3 (nI k) (nI (stk.length + 1)) (stk.head?.map (nda z T)) (if n = 0 then none else some (nda z T (n - 1)))) : SCF z T n (att t n k stk) S3 := by
  have hNS := g_NS hPT hE hn hTC.1 hG (att_nx (k := k))
  have hND := g_ND hPT hTC.2.1 hTC.2.2.1 hG (att_nx (k := k))
  have hPT1 := nx_pt hPT hE hn hl hk (att_nx (k := k))
  refine ⟨fun i hi => ⟨(hNS i (by omega)).1, (hPT1.2.2.2.2.2 i (by omega)).2.1, (hND.1 i hi).1, ?_⟩, fun i hi => ⟨(hNS i (by omega)).2.2.2.2.1, fun h0 => ((hPT1.2.2.2.2.2 i (by omega)).2.2.2.2.2.2.1 h0).1⟩⟩
  rw [att_c (by omega) (by decide) (by decide)]
  exact (hDT0 i hi).1.1
end SIMU
