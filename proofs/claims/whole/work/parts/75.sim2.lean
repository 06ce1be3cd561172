/-! readTree: the simulation -/
section SIM2
variable {z T a b n i j k c d e o o1 K key s w nb ek es ew m x p F f g : Nat} {L : Nat → Nat} {M S S0 S1 S2 S3 : HS} {Y : LY} {v dp : Int32} {t t1 : TT} {A : Nat → Nat → Int32} {op ρ : Nat → Int32} {kN : HS → Option Nat → Option Nat → Int32 → Option (HS × Int32)} {stk r : List Nat}
theorem jb_of (hBA : BAS z T a b K L Y S0 M) (hP : PST z T a K Y S0 n t stk o S A op) (hE : EX n t stk) (hk : k < 15) (hn : n < 24) (hl : stk.length < 10) (hoK : o < K) (hG : GSP z T n stk S S3 (nI k) (nI (stk.length + 1)) (stk.head?.map (nda z T)) (if n = 0 then none else some (nda z T (n - 1)))) (hO3 : PO z T a Y S3 o) (hF3 : FRG z T a S0 S3) : JB z T a b n K stk.length (o + 1) k L (att t n k stk) M Y (OFS S3 a (o + 1)) (upd (upd (row0 A n k) 2 (vUp n stk)) 3 (nI (stk.length + 1))) (vUp n stk) (t 5 n) (t 7 n) (t 8 n) (t 10 n) := by
  obtain ⟨hY, hTT, hB, hT, hF, ha⟩ := hBA
  obtain ⟨hPT, hDT0, hTC, hA, hop, hFr, hO, ho⟩ := hP
  have hND := g_ND hPT hTC.2.1 hTC.2.2.1 hG (att_nx (k := k))
  have hNS := g_NS hPT hE hn hTC.1 hG (att_nx (k := k))
  have hFx := (FixT (FixC_frg hF3 hF) hTT).2 n hn
  have hst := hA.2.2 n hn
  refine ⟨hY, hTT, hn, hB, TXC_ofs (TXC_frg hF3 hT ha hTT), PO_ofs hO3, SCF_ofs (scf_new hPT hDT0 hTC hE hk hn hl hG), hoK, ?_, hFx.2.1, hFx.2.2.1, ⟨HFR_rfl, upN_self, hND.2.2.1, ⟨hND.2.2.2.1, fun q => absurd rfl q⟩, ⟨hND.2.2.2.2, fun q => absurd rfl q⟩⟩, hl, ?_, hst.1.2, hst.2.1.2, hst.2.2.1.2, hst.2.2.2.2⟩
  · have := (hNS n (by omega)).1
    rw [show att t n k stk 0 n = k from att_n] at this
    exact this
  · exact ⟨rfl, rfl, rfl, rfl, hst.1.1, rfl, hst.2.1.1, hst.2.2.1.1, rfl, hst.2.2.2.1⟩
/-- the innermost open node gets its end -/
theorem pst_close (hP : PST z T a K Y S0 n t (p :: r) o S A op) (h11 : 1 ≤ t 11 p) : PST z T a K Y S0 n t r o S (upN A 4 p (nI (n - 1))) op := by
  obtain ⟨hPT, hDT0, hTC, hA, hop, hFr, hO, ho⟩ := hP
  have h4 := (hPT.2.2.2.2.1 p List.mem_cons_self).2.2
  refine ⟨pt_close hPT h11, hDT0, hTC, ⟨fun c hc hc4 i hi => ?_, fun i hi his => ?_, fun i hi => ?_⟩, hop.2, hFr, hO, ho⟩
  · rw [upN_ne (Or.inl hc4)]
    exact hA.1 c hc hc4 i hi
  · by_cases hip : i = p
    · subst hip
      rw [upN_self, h4]
    · rw [upN_ne (Or.inr hip)]
      exact hA.2.1 i hi (fun q => (List.mem_cons.mp q).elim hip his)
  · have := hA.2.2 i hi
    unfold STC at *
    rw [upN_ne (Or.inl (by decide)), upN_ne (Or.inl (by decide)), upN_ne (Or.inl (by decide)), upN_ne (Or.inl (by decide))]
    exact this
theorem pst_ofs (hP : PST z T a K Y S0 n t stk o S A op) (ho : o1 ≤ K) : PST z T a K Y S0 n t stk o1 (OFS S a o1) A op := by
  obtain ⟨hPT, hDT0, hTC, hA, hop, hFr, hO, -⟩ := hP
  have e : ∀ f x, f ≠ 502 → (OFS S a o1).1 f x = S.1 f x := fun f x h => upN_ne (Or.inl h)
  refine ⟨hPT, hDT0, ⟨fun i hi => hTC.1 i hi, fun i hi => hTC.2.1 i hi, fun i hi => ⟨fun f h1 h2 h3 => (e f _ (by omega)).trans ((hTC.2.2.1 i hi).1 f h1 h2 h3), (hTC.2.2.1 i hi).2⟩, hTC.2.2.2⟩, hA, hop, FRG_trans hFr FRG_ofs, PO_ofs hO, ho⟩
/-- a step up of the reference: the node's kind and what stands here -/
theorem r_up_step (hB : MB b K L M) (hP : PST z T a K Y S0 n t (p :: r) o S A op) : fX12_goesUp_0 (Ym b) (g + 1) (RdM b M A op o n (p :: r).length 0 0) (some b) = (if (4 ≤ t 0 p ∧ t 0 p ≤ 8) ∧ o < K ∧ L o = 44 then fX12_goesUp_0 (Ym b) g (RdM b M A op (o + 1) n (p :: r).length 0 1) (some b) else if (4 ≤ t 0 p ∧ t 0 p ≤ 8) ∧ ¬ (o < K ∧ L o = 41) then fX12_goesUp_0 (Ym b) g (RdM b M A op o n (p :: r).length 1 0) (some b) else fX12_goesUp_0 (Ym b) g (RdM b M (upN A 4 p (nI (n - 1))) op (if 4 ≤ t 0 p ∧ t 0 p ≤ 8 then o + 1 else o) n r.length 0 0) (some b)) := by
  obtain ⟨hPT, hDT0, hTC, hA, hop, hFr, hO, ho⟩ := hP
  have hl := hPT.2.1
  have hpn := (hPT.2.2.2.2.1 p List.mem_cons_self).1
  have hn := hPT.1
  have hk := (hPT.2.2.2.2.2 p hpn).2.1
  have hlen : (p :: r).length = r.length + 1 := List.length_cons
  have hA0 := hA.1 0 (by omega) (by decide) p hpn
  rw [if_neg (c := 0 = 2 ∧ p = 0) (by omega)] at hA0
  have e1 : nI (p :: r).length - 1 = nI r.length := by rw [hlen, show (1 : Int32) = nI 1 from rfl, pk_sub (by omega), Nat.add_sub_cancel]
  have hqA : ∀ {o fl mo d}, gA (Ym b) 14 (some (b + 17)) (nI p) (RdM b M A op o n d fl mo) = some (nI (t 0 p)) := fun {o fl mo d} => by
    rw [show b + 17 = b + (17 + 0) from rfl, qA (by omega) (by omega), hA0]
  have h100 : ∀ (k0 : HS → Option Nat → Option HS), fX12_goesUp_100 k0 (Ym b) (RdM b M A op o n (p :: r).length 0 0) (some b) (nI p) = k0 (RdM b M (upN A 4 p (nI (n - 1))) op (if 4 ≤ t 0 p ∧ t 0 p ≤ 8 then o + 1 else o) n r.length 0 0) (some b) := by
    intro k0
    have h122 : ∀ (x : Int32) (o1 : Nat), nI o + x = nI o1 → fX12_goesUp_122 k0 (Ym b) (RdM b M A op o n (p :: r).length 0 0) (some b) (nI p) (some b) (nI o) x = k0 (RdM b M (upN A 4 p (nI (n - 1))) op o1 n r.length 0 0) (some b) := by
      intro x o1 hx
      unfold fX12_goesUp_122
      refine bnd (w1220 hx) ?_
      refine bnd (mR1227 hB.1) ?_
      refine bnd q1221 ?_
      rw [show nI n - 1 = nI (n - 1) from by rw [show (1 : Int32) = nI 1 from rfl, pk_sub (by omega)]]
      refine bnd (wA (c := 4) (by omega) (by omega)) ?_
      refine bnd q1235 ?_
      refine bnd (w1235 e1) ?_
      rfl
    unfold fX12_goesUp_100
    refine bnd q1220 ?_
    refine bnd (mR1223 hB.1) ?_
    refine bnd hqA ?_
    refine bnd (r_isList hk) ?_
    by_cases q : 4 ≤ t 0 p ∧ t 0 p ≤ 8
    · rw [if_pos q, if_pos q]
      refine ifN (by decide) ?_
      exact h122 1 (o + 1) (nI_1 o)
    · rw [if_neg q, if_neg q]
      refine ifP rfl ?_
      exact h122 0 o (Int32.add_zero _)
  rw [fX12_goesUp_0]
  refine bnd q1235 ?_
  refine ifN (by rw [hlen]; exact nI_nle (by omega) (by omega)) ?_
  refine bnd q1236 ?_
  refine ifP rfl ?_
  refine bnd q1222 ?_
  refine ifP rfl ?_
  refine bnd (mR1234 hB.1) ?_
  refine bnd q1235 ?_
  rw [e1]
  refine bnd (qO (by omega)) ?_
  rw [hop.1]
  refine bnd mrcv ?_
  refine bnd (r_here hB ho) ?_
  refine bnd (mR1223 hB.1) ?_
  refine bnd hqA ?_
  refine bnd (r_isList hk) ?_
  have h74l : 4 ≤ t 0 p ∧ t 0 p ≤ 8 → ∀ (x : Int32), (x = 41 ↔ (o < K ∧ L o = 41)) → fX12_goesUp_74 (fX12_goesUp_0 (Ym b) g) (Ym b) (RdM b M A op o n (p :: r).length 0 0) (some b) (nI p) x = (if (4 ≤ t 0 p ∧ t 0 p ≤ 8) ∧ ¬ (o < K ∧ L o = 41) then fX12_goesUp_0 (Ym b) g (RdM b M A op o n (p :: r).length 1 0) (some b) else fX12_goesUp_0 (Ym b) g (RdM b M (upN A 4 p (nI (n - 1))) op (if 4 ≤ t 0 p ∧ t 0 p ≤ 8 then o + 1 else o) n r.length 0 0) (some b)) := by
    intro q x hx
    unfold fX12_goesUp_74
    refine bnd (mR1223 hB.1) ?_
    refine bnd hqA ?_
    refine bnd (r_isList hk) ?_
    rw [if_pos q]
    refine ifN (by decide) ?_
    by_cases h41 : o < K ∧ L o = 41
    · rw [if_neg (c := (4 ≤ t 0 p ∧ t 0 p ≤ 8) ∧ ¬ (o < K ∧ L o = 41)) (fun y => y.2 h41)]
      refine ifP (hx.mpr h41) ?_
      exact h100 _
    · rw [if_pos (c := (4 ≤ t 0 p ∧ t 0 p ≤ 8) ∧ ¬ (o < K ∧ L o = 41)) ⟨q, h41⟩]
      refine ifN (fun y => h41 (hx.mp y)) ?_
      refine bnd (w1222 (Or.inr rfl)) ?_
      rfl
  by_cases q : 4 ≤ t 0 p ∧ t 0 p ≤ 8
  · rw [if_pos q]
    refine ifN (by decide) ?_
    obtain ⟨c, ⟨h1, h2, h3, h4⟩ | ⟨h2, h4⟩⟩ := hr_rng hB o
    · rw [h4]
      have q41 : nI c = 41 ↔ (o < K ∧ L o = 41) := ⟨fun y => ⟨h2, by rw [h3]; exact (nI_eq (a := c) (b := 41) (by omega) (by decide)).mp y⟩, fun y => by rw [← h3, y.2]; rfl⟩
      by_cases h44 : c = 44
      · rw [if_pos (c := (4 ≤ t 0 p ∧ t 0 p ≤ 8) ∧ o < K ∧ L o = 44) ⟨q, h2, by omega⟩]
        refine ifP (by rw [h44]; rfl) ?_
        refine bnd (w1236 (Or.inr rfl)) ?_
        refine bnd q1220 ?_
        refine bnd (w1220 (nI_1 o)) ?_
        rfl
      · rw [if_neg (c := (4 ≤ t 0 p ∧ t 0 p ≤ 8) ∧ o < K ∧ L o = 44) (fun y => h44 (by omega))]
        refine ifN (nIn h44 (by omega) (by omega)) ?_
        exact h74l q _ q41
    · rw [h4, if_neg (c := (4 ≤ t 0 p ∧ t 0 p ≤ 8) ∧ o < K ∧ L o = 44) (fun y => h2 y.2.1)]
      refine ifN (by decide) ?_
      exact h74l q _ ⟨fun y => absurd y (by decide), fun y => absurd y.1 h2⟩
  · rw [if_neg q]
    refine ifP rfl ?_
    rw [if_neg (c := (4 ≤ t 0 p ∧ t 0 p ≤ 8) ∧ o < K ∧ L o = 44) (fun y => q y.1), if_neg (c := (4 ≤ t 0 p ∧ t 0 p ≤ 8) ∧ ¬ (o < K ∧ L o = 41)) (fun y => q y.1)]
    unfold fX12_goesUp_74
    refine bnd (mR1223 hB.1) ?_
    refine bnd hqA ?_
    refine bnd (r_isList hk) ?_
    rw [if_neg q]
    refine ifP rfl ?_
    have := h100 (fX12_goesUp_0 (Ym b) g)
    rw [if_neg q] at this ⊢
    exact this
/-- the mid state: the one that is closed next -/
theorem mid_close (hP : PST z T a K Y S0 n t (p :: r) o S A op) (he : e < n) (h0 : 0 < e) (h2 : t 2 e = p) (h4 : t 4 e = n - 1) (hL : LM n t e o) (hl : 4 ≤ t 0 p ∧ t 0 p ≤ 8 → o + 1 ≤ K) : PST z T a K Y S0 n t r (if 4 ≤ t 0 p ∧ t 0 p ≤ 8 then o + 1 else o) (OFS S a (if 4 ≤ t 0 p ∧ t 0 p ≤ 8 then o + 1 else o)) (upN A 4 p (nI (n - 1))) op ∧ LM n t p (if 4 ≤ t 0 p ∧ t 0 p ≤ 8 then o + 1 else o) ∧ t 4 p = n - 1 ∧ (r = [] → p = 0) ∧ ∀ q r1, r = q :: r1 → 0 < p ∧ t 2 p = q := by
  have hPT := hP.1
  have hm := pt_mid hPT he h0 h2
  have hc := lm_close hPT he h0 h2 h4 hL
  refine ⟨pst_ofs (pst_close hP hm.1) ?_, ?_, (hPT.2.2.2.2.1 p List.mem_cons_self).2.2, hPT.2.2.2.1.2.1, hPT.2.2.2.1.2.2.1⟩
  · by_cases q : 4 ≤ t 0 p ∧ t 0 p ≤ 8
    · rw [if_pos q]; exact hl q
    · rw [if_neg q]; exact hP.2.2.2.2.2.2.2
  · by_cases q : 4 ≤ t 0 p ∧ t 0 p ≤ 8
    · rw [if_pos q] at hc ⊢; exact hc
    · rw [if_neg q] at hc ⊢; exact hc
/-- what is shown of a depth -/
def SIMD (z T a b K : Nat) (L : Nat → Nat) (Y : LY) (S0 M : HS) (d : Nat) : Prop := ∀ S A op n t stk o F, PST z T a K Y S0 n t stk o S A op → EX n t stk → LE n t stk o → d + stk.length = 12 → 26 ≤ F + n → SFAIL z T a b K S0 M n stk.length F A op o (fX5_readNode Y d S (some a) (stk.head?.map (nda z T)) (nI (stk.length + 1))) ∨ SOK z T a b K Y S0 M n stk.length F A op o t stk n (fX5_readNode Y d S (some a) (stk.head?.map (nda z T)) (nI (stk.length + 1)))
/-- a node with one child -/
theorem sim_one (hBA : BAS z T a b K L Y S0 M) (hS : SIMD z T a b K L Y S0 M d) (hP : PST z T a K Y S0 n t (p :: r) o S A op) (hE : EX n t (p :: r)) (hL : LE n t (p :: r) o) (hd : d + (p :: r).length = 12) (hF : 26 ≤ F + n) (hk : 9 ≤ t 0 p) : ∃ S3 q, (q = 0 ∨ q = 1) ∧ fX5_readNode Y d S (some a) (some (nda z T p)) (nI ((p :: r).length + 1)) = some (S3, q) ∧ (SFAIL z T a b K S0 M n (p :: r).length F A op o (some (S3, q)) ∨ SOK z T a b K Y S0 M n (p :: r).length F A op o t r p (some (S3, q))) := by
  rcases hS S A op n t (p :: r) o F hP hE hL hd hF with h | h
  · obtain ⟨S1, o1, A1, op1, n1, d1, h1, h2⟩ := h
    exact ⟨S1, 0, Or.inl rfl, h1, Or.inl ⟨S1, o1, A1, op1, n1, d1, rfl, h2⟩⟩
  · obtain ⟨S1, o1, A1, op1, n1, t1, g, F1, h1, h2, h3, h4, h5, h6, h7, h8, h9, h10, h11⟩ := h
    have hq := h7 p r rfl
    have hl := h3.1.2.1
    rw [List.length_cons] at hl
    have hp0 : t1 0 p = t 0 p := h8 p ((hP.1.2.2.2.2.1 p List.mem_cons_self).1)
    have hnl : ¬ (4 ≤ t1 0 p ∧ t1 0 p ≤ 8) := by omega
    have hm := mid_close h3 h2 hq.1 hq.2 h5 h4 (fun q => absurd q hnl)
    rw [if_neg hnl] at hm
    have hofs : OFS S1 a o1 = S1 := OFS_self h3.2.2.2.2.2.2.1.2.2.2
    rw [hofs] at hm
    refine ⟨S1, 1, Or.inr rfl, h1, Or.inr ⟨S1, o1, _, op1, n1, t1, g - 1, F1, rfl, h2, hm.1, hm.2.1, hm.2.2.1, hm.2.2.2.1, hm.2.2.2.2, h8, ?_, h10, ?_⟩⟩
    · obtain ⟨g1, rfl⟩ : ∃ g1, g = g1 + 1 := ⟨g - 1, by rw [List.length_cons] at h11; omega⟩
      rw [h9, r_up_step hBA.2.2.1 h3, if_neg (fun y => hnl y.1), if_neg (fun y => hnl y.1), if_neg hnl]
      rfl
    · rw [List.length_cons] at h11
      omega
/-- a list's children -/
theorem sim_list (hBA : BAS z T a b K L Y S0 M) (hS : SIMD z T a b K L Y S0 M d) (hk : 4 ≤ k ∧ k ≤ 8) : ∀ (m i fuel : Nat) (S : HS) (A : Nat → Nat → Int32) (op : Nat → Int32) (n : Nat) (t : TT) (o F : Nat), i + m = 24 → m < fuel → i + p + 1 ≤ n → t 0 p = k → PST z T a K Y S0 n t (p :: r) o S A op → EX n t (p :: r) → LE n t (p :: r) o → d + (p :: r).length = 12 → 26 ≤ F + n → ∃ S3 q, (q = 0 ∨ q = 1) ∧ fX5_readList_13 (fX5_readNode Y d) Y fuel S (some a) (some (nda z T p)) (nI (p :: r).length) (nI i) = some (S3, q) ∧ (SFAIL z T a b K S0 M n (p :: r).length F A op o (some (S3, q)) ∨ SOK z T a b K Y S0 M n (p :: r).length F A op o t r p (some (S3, q)))
  | _, _, 0, _, _, _, _, _, _, _, _, h, _, _, _, _, _, _, _ => absurd h (Nat.not_lt_zero _)
  | 0, i, fuel + 1, S, A, op, n, t, o, F, hi, _, hin, _, hP, _, _, _, _ => by
    have := hP.1.1
    omega
  | m + 1, i, fuel + 1, S, A, op, n, t, o, F, hi, hf, hin, htk, hP, hE, hL, hd, hF => by
    have hn24 := hP.1.1
    have hY := hBA.1
    rw [fX5_readList_13]
    have hrcv := po_rcv hP.2.2.2.2.2.2.1
    have head : ∀ (res : Option (HS × Int32)), ((fX5_readNode Y d S (some a) (some (nda z T p)) (nI ((p :: r).length + 1))).bind fun q24 => if q24.2 = 0 then some (q24.1, (0 : Int32)) else (rcv Y 5 (some a)).bind fun _ => (fX5_skip Y q24.1 (some a) 44).bind fun q35 => if q35.2 = 0 then (rcv Y 5 (some a)).bind fun _ => (fX5_skip Y q35.1 (some a) 41).bind fun q44 => (zr q44.2).bind fun z47 => some (q44.1, z47) else fX5_readList_13 (fX5_readNode Y d) Y fuel q35.1 (some a) (some (nda z T p)) (nI (p :: r).length) (nI i + 1)) = res → (if 24 ≤ nI i then some (S, (0 : Int32)) else (rcv Y 5 (some a)).bind fun _ => (fX5_readNode Y d S (some a) (some (nda z T p)) (nI (p :: r).length + 1)).bind fun q24 => if q24.2 = 0 then some (q24.1, 0) else (rcv Y 5 (some a)).bind fun _ => (fX5_skip Y q24.1 (some a) 44).bind fun q35 => if q35.2 = 0 then (rcv Y 5 (some a)).bind fun _ => (fX5_skip Y q35.1 (some a) 41).bind fun q44 => (zr q44.2).bind fun z47 => some (q44.1, z47) else fX5_readList_13 (fX5_readNode Y d) Y fuel q35.1 (some a) (some (nda z T p)) (nI (p :: r).length) (nI i + 1)) = res := by
      intro res hres
      rw [if_neg (show ¬ (24 : Int32) ≤ nI i from nI_ge (b := 24) (by omega) (by decide)), nI_1 (p :: r).length]
      exact bnd hrcv hres
    rcases hS S A op n t (p :: r) o F hP hE hL hd hF with h | h
    · obtain ⟨S1, o1, A1, op1, n1, d1, h1, h2⟩ := h
      refine ⟨S1, 0, Or.inl rfl, head _ (bnd h1 (if_pos rfl)), Or.inl ⟨S1, o1, A1, op1, n1, d1, rfl, h2⟩⟩
    · obtain ⟨S1, o1, A1, op1, n1, t1, g, F1, h1, h2, h3, h4, h5, h6, h7, h8, h9, h10, h11⟩ := h
      have hq := h7 p r rfl
      have hl := h3.1.2.1
      have hn1 := h3.1.1
      have hp0 : t1 0 p = t 0 p := h8 p ((hP.1.2.2.2.2.1 p List.mem_cons_self).1)
      have hil : 4 ≤ t1 0 p ∧ t1 0 p ≤ 8 := by omega
      have ho1 := h3.2.2.2.2.2.2.2
      have hT1 := TXC_frg h3.2.2.2.2.2.1 hBA.2.2.2.1 hBA.2.2.2.2.2 hBA.2.1
      have hO1 := h3.2.2.2.2.2.2.1
      have hsk := c_skip hY hT1 hO1 ho1 (c := 44) (by omega)
      rw [List.length_cons] at h11
      obtain ⟨g1, rfl⟩ : ∃ g1, g = g1 + 1 := ⟨g - 1, by omega⟩
      rw [r_up_step hBA.2.2.1 h3] at h9
      by_cases h44 : o1 < K ∧ L o1 = 44
      · rw [if_pos h44] at hsk
        rw [if_pos ⟨hil, h44⟩] at h9
        obtain ⟨g2, rfl⟩ : ∃ g2, g1 = g2 + 1 := ⟨g1 - 1, by omega⟩
        rw [r_up_m (by omega)] at h9
        have hP2 := pst_ofs (o1 := o1 + 1) h3 (by omega)
        have hL2 := le_comma h3.1 h2 hq.1 hq.2 h5 h4
        have hE2 : EX n1 t1 (p :: r) := Or.inr ⟨by omega, p, r, rfl, Or.inl hil.2⟩
        obtain ⟨S3, q, hq01, hr, hres⟩ := sim_list hBA hS hk m (i + 1) fuel (OFS S1 a (o1 + 1)) A1 op1 n1 t1 (o1 + 1) F1 (by omega) (by omega) (by omega) (by omega) hP2 hE2 hL2 hd (by omega)
        refine ⟨S3, q, hq01, head _ (bnd h1 ?_), ?_⟩
        · refine ifN (show ¬ (1 : Int32) = 0 by decide) ?_
          refine bnd (po_rcv hO1) ?_
          refine bnd hsk ?_
          refine ifN (show ¬ (1 : Int32) = 0 by decide) ?_
          rw [nI_1]
          exact hr
        · have h9' : fX12_readTree_25 (Ym b) F (RdM b M A op o n (p :: r).length 0 1) (some b) = fX12_readTree_25 (Ym b) F1 (RdM b M A1 op1 (o1 + 1) n1 (p :: r).length 0 1) (some b) := h9
          rcases hres with ⟨S4, o4, A4, op4, n4, d4, e1, e2, e3, e4, e5, e6⟩ | ⟨S4, o4, A4, op4, n4, t4, g4, F4, e1, e2, e3, e4, e5, e6, e7, e8, e9, e10, e11⟩
          · exact Or.inl ⟨S4, o4, A4, op4, n4, d4, e1, e2, e3, e4, h9'.trans e5, e6⟩
          · exact Or.inr ⟨S4, o4, A4, op4, n4, t4, g4, F4, e1, by omega, e3, e4, e5, e6, e7, fun j hj => (e8 j (by omega)).trans (h8 j hj), h9'.trans e9, by omega, e11⟩
      · rw [if_neg h44] at hsk
        rw [if_neg (fun y => h44 y.2)] at h9
        have hsk2 := c_skip hY hT1 hO1 ho1 (c := 41) (by omega)
        by_cases h41 : o1 < K ∧ L o1 = 41
        · rw [if_pos h41] at hsk2
          rw [if_neg (fun y => y.2 h41)] at h9
          have hm := mid_close h3 h2 hq.1 hq.2 h5 h4 (fun _ => by omega)
          refine ⟨OFS S1 a (o1 + 1), 1, Or.inr rfl, head _ (bnd h1 ?_), Or.inr ?_⟩
          · refine ifN (show ¬ (1 : Int32) = 0 by decide) ?_
            refine bnd (po_rcv hO1) ?_
            refine bnd hsk ?_
            refine ifP rfl ?_
            refine bnd (po_rcv hO1) ?_
            refine bnd hsk2 ?_
            exact bnd zr_1 rfl
          · rw [if_pos hil] at hm h9
            exact ⟨_, o1 + 1, _, op1, n1, t1, g1, F1, rfl, h2, hm.1, hm.2.1, hm.2.2.1, hm.2.2.2.1, hm.2.2.2.2, h8, h9, h10, by omega⟩
        · rw [if_neg h41] at hsk2
          rw [if_pos ⟨hil, h41⟩] at h9
          obtain ⟨g2, rfl⟩ : ∃ g2, g1 = g2 + 1 := ⟨g1 - 1, by omega⟩
          rw [r_up_f (by omega)] at h9
          obtain ⟨f1, rfl⟩ : ∃ f1, F1 = f1 + 1 := ⟨F1 - 1, by omega⟩
          have h9' : fX12_readTree_25 (Ym b) F (RdM b M A op o n (p :: r).length 0 1) (some b) = fX12_readTree_25 (Ym b) (f1 + 1) (RdM b M A1 op1 o1 n1 (p :: r).length 1 0) (some b) := h9
          refine ⟨S1, 0, Or.inl rfl, head _ (bnd h1 ?_), Or.inl ⟨S1, o1, A1, op1, n1, (p :: r).length, rfl, h3.2.2.2.2.2.1, hO1.2.2.2, ho1, h9'.trans r_25_out, staa_of h3.2.2.2.1.2.2⟩⟩
          refine ifN (show ¬ (1 : Int32) = 0 by decide) ?_
          refine bnd (po_rcv hO1) ?_
          refine bnd hsk ?_
          refine ifP rfl ?_
          refine bnd (po_rcv hO1) ?_
          refine bnd hsk2 ?_
          exact bnd zr_0 rfl
theorem sim_d (hBA : BAS z T a b K L Y S0 M) : ∀ d, SIMD z T a b K L Y S0 M d
  | 0 => by
    intro S A op n t stk o F hP _ _ hd _
    have := hP.1.2.1
    omega
  | d + 1 => by
    intro S A op n t stk o F hP hE hL hd hF
    have ih := sim_d hBA d
    have hPT := hP.1
    have hn24 := hPT.1
    have hl10 := hPT.2.1
    have hB := hBA.2.2.1
    have ho := hP.2.2.2.2.2.2.2
    obtain ⟨F2, rfl⟩ : ∃ F2, F = F2 + 2 := ⟨F - 2, by omega⟩
    have fail : (pls 0 (hr L K o) = -1 ∨ stk.length = 10 ∨ n = 24) → SFAIL z T a b K S0 M n stk.length (F2 + 2) A op o (fX5_readNode Y (d + 1) S (some a) (stk.head?.map (nda z T)) (nI (stk.length + 1))) := fun h => by
      refine ⟨S, o, A, op, n, stk.length, c_begin_no hBA hP h, hP.2.2.2.2.2.1, hP.2.2.2.2.2.2.1.2.2.2, ho, r_25_no (by omega) (by omega) (r_begins_no hB ho hn24 hl10 ?_), staa_of hP.2.2.2.1.2.2⟩
      rcases h with h | h | h
      · exact Or.inl h
      · exact Or.inr (Or.inr h)
      · exact Or.inr (Or.inl h)
    rcases pls_cases hB o with hk | ⟨k, hk, hkd, hoK⟩
    · exact Or.inl (fail (Or.inl hk))
    · by_cases hl : stk.length = 10
      · exact Or.inl (fail (Or.inr (Or.inl hl)))
      · by_cases hn : n = 24
        · exact Or.inl (fail (Or.inr (Or.inr hn)))
        · obtain ⟨S3, hG, hO3, hF3, hC⟩ := c_begin_ok (d := d) hBA hP hE hk (by omega) (by omega) hkd hoK
          have hJ := jb_of hBA hP hE hk (by omega) (by omega) hoK hG hO3 hF3
          have hbg := r_begins_ok (A := A) hB ho (show n < 24 by omega) (by omega) hk hkd hP.2.2.2.2.1 hE
          rcases jh_all (A := A) (op := op) (kN := fX5_readNode Y d) (dp := nI (stk.length + 1)) hk hJ with hjf | ⟨hk4, hjl⟩ | ⟨hk4, hji⟩
          · obtain ⟨S2, o1, ρ1, c1, c2, c3, c4, c5, c6⟩ := hjf
            rw [c5] at hbg
            exact Or.inl ⟨S2, o1, _, op, n + 1, stk.length, hC S2 0 (Or.inl rfl) c1, FRG_trans (FRG_trans hF3 FRG_ofs) (FRG_hfr (by omega) c2), c3, c4, r_25_no (by omega) (by omega) hbg, staa_rw hP.2.2.2.1.2.2 c6⟩
          · obtain ⟨S2, o1, nb, key, s, w, ek, es, ew, ρ1, c1, c2, c3, c4, c5, c6, c7, c8⟩ := hjl
            rw [c4] at hbg
            obtain ⟨p1, p2, p3, p4, p5, p6, p7, p8⟩ := pst_new hBA hP hE hk (by omega) (by omega) hG hO3 hF3 c2 c5 c7
            rw [if_neg (by omega)] at p1
            have hX : NXN n k t (HT t n k stk nb key s w ek es ew) stk := HT_nx
            have e4 := hX.1 4 (by omega)
            refine Or.inr ⟨S2, o1, _, op, n + 1, HT t n k stk nb key s w ek es ew, FU, F2 + 1, hC S2 1 (Or.inr rfl) c1, by omega, ⟨p1, p2, p3, ⟨p4, fun i hi his => ?_, p5⟩, hP.2.2.2.2.1, p6, p7, c3⟩, lm_leaf hPT hE hL hX hk4 (by rw [p8]; omega), ?_, ?_, ?_, fun i hi => ?_, r_25_leaf hbg, by omega, by unfold FU; omega⟩
            · by_cases hin : i = n
              · subst hin
                rw [e4, show att t i k stk 4 i = i from att_n]
                exact (if_pos rfl).trans c6
              · rw [e4, att_out hin his]
                exact (if_neg hin).trans (hP.2.2.2.1.2.1 i (by omega) his)
            · rw [e4, show att t n k stk 4 n = n from att_n]
              omega
            · intro q
              rcases hE with ⟨h, -⟩ | ⟨-, p, r, h, -⟩
              · exact h
              · rw [q] at h; cases h
            · intro p r q
              rcases hE with ⟨-, h⟩ | ⟨h, -⟩
              · rw [q] at h; cases h
              · refine ⟨h, ?_⟩
                rw [hX.1 2 (by omega), show att t n k stk 2 n = stk.headD 0 from att_n, q]
                rfl
            · exact hX.2 0 i (by omega) (by decide) (by decide)
          · obtain ⟨S2, o1, nb, key, s, w, ek, es, ew, ρ1, c2, c3, c4, c5, c7, c8, c9, c10⟩ := hji
            rw [c4] at hbg
            obtain ⟨p1, p2, p3, p4, p5, p6, p7, p8⟩ := pst_new hBA hP hE hk (by omega) (by omega) hG hO3 hF3 c2 c5 c7
            rw [if_pos hk4] at p1
            have hX : NXN n k t (HT t n k stk nb key s w ek es ew) stk := HT_nx
            generalize ht1 : HT t n k stk nb key s w ek es ew = t1 at p1 p2 p3 p4 p5 p8 hX
            have e4 := hX.1 4 (by omega)
            have e0n : t1 0 n = k := by rw [hX.1 0 (by omega)]; exact att_n
            have hop2 : OPR (n :: stk) (upd op stk.length (nI n)) := ⟨pk_us, opr_upd stk op _ _ (Nat.le_refl _) hP.2.2.2.2.1⟩
            have hP2 : PST z T a K Y S0 (n + 1) t1 (n :: stk) o1 S2 (RW A n ρ1) (upd op stk.length (nI n)) := ⟨p1, p2, p3, ⟨p4, fun i hi his => by
              have hin : i ≠ n := fun q => his (by rw [q]; exact List.mem_cons_self)
              rw [e4, att_out hin (fun q => his (List.mem_cons_of_mem _ q))]
              exact (if_neg hin).trans (hP.2.2.2.1.2.1 i (by omega) (fun q => his (List.mem_cons_of_mem _ q))), p5⟩, hop2, p6, p7, c3⟩
            have h11 : t1 11 n = 0 := by rw [hX.1 11 (by omega)]; exact att_n
            have hE2 : EX (n + 1) t1 (n :: stk) := Or.inr ⟨by omega, n, stk, rfl, Or.inr h11⟩
            have hL2 : LE (n + 1) t1 (n :: stk) o1 := le_inner hPT hE hL hX hk4 (by rw [p8]; omega)
            have hd2 : d + (n :: stk).length = 12 := by rw [List.length_cons]; omega
            have hr25 : fX12_readTree_25 (Ym b) (F2 + 2) (RdM b M A op o n stk.length 0 1) (some b) = fX12_readTree_25 (Ym b) (F2 + 1) (RdM b M (RW A n ρ1) (upd op stk.length (nI n)) o1 (n + 1) (n :: stk).length 0 1) (some b) := r_25_in hbg
            have fin : ∀ S5 q, fX5_readNode Y (d + 1) S (some a) (stk.head?.map (nda z T)) (nI (stk.length + 1)) = some (S5, q) → (SFAIL z T a b K S0 M (n + 1) (n :: stk).length (F2 + 1) (RW A n ρ1) (upd op stk.length (nI n)) o1 (some (S5, q)) ∨ SOK z T a b K Y S0 M (n + 1) (n :: stk).length (F2 + 1) (RW A n ρ1) (upd op stk.length (nI n)) o1 t1 stk n (some (S5, q))) → SFAIL z T a b K S0 M n stk.length (F2 + 2) A op o (fX5_readNode Y (d + 1) S (some a) (stk.head?.map (nda z T)) (nI (stk.length + 1))) ∨ SOK z T a b K Y S0 M n stk.length (F2 + 2) A op o t stk n (fX5_readNode Y (d + 1) S (some a) (stk.head?.map (nda z T)) (nI (stk.length + 1))) := by
              intro S5 q hcl hh
              rw [hcl]
              rcases hh with ⟨S4, o4, A4, op4, n4, d4, e1, e2, e3, e4, e5, e6⟩ | ⟨S4, o4, A4, op4, n4, t4, g4, F4, e1, e2, e3, e4, e5, e6, e7, e8, e9, e10, e11⟩
              · exact Or.inl ⟨S4, o4, A4, op4, n4, d4, e1, e2, e3, e4, hr25.trans e5, e6⟩
              · exact Or.inr ⟨S4, o4, A4, op4, n4, t4, g4, F4, e1, by omega, e3, e4, e5, e6, e7, fun j hj => (e8 j (by omega)).trans (hX.2 0 j (by omega) (by decide) (by decide)), hr25.trans e9, by omega, e11⟩
            by_cases hk8 : k ≤ 8
            · obtain ⟨S5, q, hq, hr, hh⟩ := sim_list hBA ih ⟨hk4, hk8⟩ 24 0 FU S2 (RW A n ρ1) (upd op stk.length (nI n)) (n + 1) t1 o1 (F2 + 1) (by omega) (by unfold FU; omega) (by omega) e0n hP2 hE2 hL2 hd2 (by omega)
              exact fin S5 q (hC S5 q hq (c9 hk8 S5 q hq hr)) hh
            · obtain ⟨S5, q, hq, hr, hh⟩ := sim_one hBA ih hP2 hE2 hL2 hd2 (F := F2 + 1) (by omega) (by omega)
              refine fin S5 q (hC S5 q hq (c10 (by omega) S5 q hq ?_)) hh
              rw [nI_1]
              exact hr
end SIM2
