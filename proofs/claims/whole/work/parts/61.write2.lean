/-! write: the reference -/
def OM (b : Nat) (M : HS) (k : Nat) (w : Nat → Int32) : HS := (upN M.1 1207 b (nI k), M.2.1, va_up M.2.2.1 (b + 5) w, M.2.2.2)
def MW (b : Nat) (M : HS) (f : HS → Option HS) (L : List Nat) : Prop := ∀ k w, k + L.length ≤ 200 → f (OM b M k w) = some (OM b M (k + L.length) (app w k L))
section WRM
variable {z b q T n i j k c f a d x key s n0 e : Nat} {M M1 S S1 : HS} {v : Int32} {v1 w : Nat → Int32} {t : TT} {L L1 L2 : List Nat}
theorem OMA {k : Nat} {w : Nat → Int32} : OM b M (k + (L1 ++ L2).length) (app w k (L1 ++ L2)) = OM b M (k + L1.length + L2.length) (app (app w k L1) (k + L1.length) L2) := by
  rw [app_app, List.length_append, Nat.add_assoc]
theorem OMC {k : Nat} {w : Nat → Int32} {d : Nat} : OM b M (k + (d :: L2).length) (app w k (d :: L2)) = OM b M (k + 1 + L2.length) (app (upd w k (nI d)) (k + 1) L2) := by
  rw [app, List.length_cons, show k + (L2.length + 1) = k + 1 + L2.length by omega]
theorem OM_same : SameM b M (OM b M k w) := ⟨fun f a _ h7 _ => upN_ne (Or.inl h7), rfl, fun a _ _ _ h5 => va_up_ne _ _ h5⟩
theorem OM_1208 : (OM b M k w).1 1208 b = M.1 1208 b := by
  show upN M.1 1207 b (nI k) 1208 b = _
  rw [upN_ne (Or.inl (by decide))]
theorem qT (hX : MX b n t M) {c : Nat} (hc : c < 11) (h2 : c ≠ 2) (hi : i < n) : gA (Ym b) 14 (some (b + (6 + c))) (nI i) M = some (nI (t c i)) := by
  have hn := hX.2.2.1
  have hl : lnM (6 + c) = 24 := by
    have : ∀ c, c < 11 → lnM (6 + c) = 24 := by decide +kernel
    exact this c hc
  rw [mA (by omega) (by omega), hX.2.1 c hc i hi, if_neg (fun h => h2 h.1)]
theorem qT2 (hX : MX b n t M) (hi : i < n) : gA (Ym b) 14 (some (b + (6 + 2))) (nI i) M = some (if i = 0 then -1 else nI (t 2 i)) := by
  have hn := hX.2.2.1
  rw [mA (by omega) (by show i < 24; omega), hX.2.1 2 (by omega) i hi]
  by_cases h0 : i = 0
  · rw [if_pos ⟨rfl, h0⟩, if_pos h0]
  · rw [if_neg (fun h => h0 h.2), if_neg h0]
theorem r_writes (hX : MX b n t M) (hk : k < 200) : fX12_writes (Ym b) (OM b M k w) (some b) (nI d) = some (OM b M (k + 1) (upd w k (nI d))) := by
  have hX' : MX b n t (OM b M k w) := MX_same OM_same hX
  have e7 : ∀ {A : Nat → Nat → Int32} {B : HS}, (upN A 1207 b (nI k), B.2).1 1207 b = nI k := upN_self
  unfold fX12_writes
  refine bnd (mR1205 hX'.1) ?_
  refine bnd (a := nI k) (by rw [mIo]; exact congrArg some upN_self) ?_
  refine bnd (mpA (by omega) (show k < 200 from hk)) ?_
  refine bnd (a := nI k) (by rw [mIo]; exact congrArg some upN_self) ?_
  rw [nI_1]
  refine bnd mpI ?_
  show some (upN (upN M.1 1207 b (nI k)) 1207 b (nI (k + 1)), M.2.1, upN (va_up M.2.2.1 (b + 5) w) (b + 5) k (nI d), M.2.2.2) = some (upN M.1 1207 b (nI (k + 1)), M.2.1, va_up M.2.2.1 (b + 5) (upd w k (nI d)), M.2.2.2)
  have g1 : upN (upN M.1 1207 b (nI k)) 1207 b (nI (k + 1)) = upN M.1 1207 b (nI (k + 1)) := by
    funext g q
    unfold upN
    split <;> rfl
  have g2 : upN (va_up M.2.2.1 (b + 5) w) (b + 5) k (nI d) = va_up M.2.2.1 (b + 5) (upd w k (nI d)) := by
    funext q y
    unfold upN va_up upd
    by_cases hq : q = b + 5 <;> by_cases hy : y = k <;> simp [hq, hy]
  rw [g1, g2]
theorem r_deed (hX : MX b n t M) (hs : s ≤ 6) (hx : x ≤ 99) : MW b M (fun q => fX12_writesDeed (Ym b) q (some b) (nI key) (nI s) (nI x)) (clL key s x) := by
  have h86 : ∀ k w, k < 200 → fX12_writesDeed_86 (Ym b) (OM b M k w) (some b) (nI x) = some (OM b M (k + 1) (upd w k (nI (48 + x % 10)))) := by
    intro k w hk
    have e1 : nI x - nI x / 10 * 10 = nI (x % 10) := pk_rem (d := 10) (by omega) (by decide) (by decide)
    unfold fX12_writesDeed_86
    rw [e1, show (48 : Int32) = nI 48 from rfl, nI_add]
    refine bnd mrcv ?_
    refine bnd (r_writes hX hk) ?_
    rfl
  have h66 : ∀ k w c, k + 1 + (numL x).length ≤ 200 → fX12_writesDeed_66 (Ym b) (OM b M k w) (some b) (nI x) (some b) (nI c) = some (OM b M (k + 1 + (numL x).length) (app (upd w k (nI c)) (k + 1) (numL x))) := by
    intro k w c hk
    have e2 : nI x / 10 = nI (x / 10) := pk_div (d := 10) (by omega) (by decide) (by decide)
    unfold fX12_writesDeed_66
    refine bnd mrcv ?_
    refine bnd (r_writes hX (by omega)) ?_
    unfold numL at hk ⊢
    by_cases h : x < 10
    · rw [if_pos h] at hk ⊢
      have hk : k + 1 + 1 ≤ 200 := hk
      refine ifP (show nI x ≤ 9 from nI_le (b := 9) (by omega) (by decide)) ?_
      exact h86 _ _ (by omega)
    · rw [if_neg h] at hk ⊢
      have hk : k + 1 + 2 ≤ 200 := hk
      refine ifN (show ¬ nI x ≤ 9 from nI_ge (a := 9) (by omega) (by omega)) ?_
      refine bnd mrcv ?_
      rw [e2, show (48 : Int32) = nI 48 from rfl, nI_add]
      refine bnd (r_writes hX (by omega)) ?_
      exact h86 _ _ (by omega)
  intro k w hk
  show fX12_writesDeed (Ym b) (OM b M k w) (some b) (nI key) (nI s) (nI x) = _
  unfold clL at hk ⊢
  unfold fX12_writesDeed
  by_cases h0 : s = 0
  · rw [if_pos h0]
    refine ifP (by rw [h0]; rfl) rfl
  · rw [if_neg h0, List.length_cons, List.length_cons] at hk
    rw [if_neg h0, OMC, OMC]
    refine ifN (nI_ne0 (by omega) (by omega)) ?_
    refine bnd mrcv ?_
    rw [show (48 : Int32) = nI 48 from rfl, nI_add]
    refine bnd (r_writes hX (by omega)) ?_
    have hs' : s = 1 ∨ s = 2 ∨ s = 3 ∨ s = 4 ∨ s = 5 ∨ s = 6 := by omega
    rcases hs' with rfl | rfl | rfl | rfl | rfl | rfl
    · refine ifP rfl ?_
      exact h66 _ _ 60 (by omega)
    · refine ifN (by decide) ?_
      refine ifP (by decide) ?_
      exact h66 _ _ 61 (by omega)
    · refine ifN (by decide) ?_
      refine ifN (by decide) ?_
      refine ifP (by decide) ?_
      exact h66 _ _ 62 (by omega)
    · refine ifN (by decide) ?_
      refine ifN (by decide) ?_
      refine ifN (by decide) ?_
      refine ifP (by decide) ?_
      exact h66 _ _ 58 (by omega)
    · refine ifN (by decide) ?_
      refine ifN (by decide) ?_
      refine ifN (by decide) ?_
      refine ifN (by decide) ?_
      refine ifP (by decide) ?_
      exact h66 _ _ 43 (by omega)
    · refine ifN (by decide) ?_
      refine ifN (by decide) ?_
      refine ifN (by decide) ?_
      refine ifN (by decide) ?_
      refine ifN (by decide) ?_
      exact h66 _ _ 45 (by omega)
theorem r_isList {Y : LY} {S : HS} (hk : k < 15) : fX12_isList Y S (nI k) = some (if 4 ≤ k ∧ k ≤ 8 then 1 else 0) := by
  unfold fX12_isList
  have key : ∀ k, k < 15 → (if nI k < 4 then some (0 : Int32) else if 8 < nI k then some 0 else some 1) = some (if 4 ≤ k ∧ k ≤ 8 then 1 else 0) := by decide +kernel
  exact key k hk
theorem r_letter {Y : LY} {S : HS} (hk : k < 15) : fX12_letter Y S (nI k) = some (nI (ltr k)) := by
  have hk' : k = 0 ∨ k = 1 ∨ k = 2 ∨ k = 3 ∨ k = 4 ∨ k = 5 ∨ k = 6 ∨ k = 7 ∨ k = 8 ∨ k = 9 ∨ k = 10 ∨ k = 11 ∨ k = 12 ∨ k = 13 ∨ k = 14 := by omega
  unfold fX12_letter
  rcases hk' with rfl | rfl | rfl | rfl | rfl | rfl | rfl | rfl | rfl | rfl | rfl | rfl | rfl | rfl | rfl <;> rfl
theorem r_node (hX : MX b n t M) (hi : i < n) : MW b M (fun q => fX12_writesNode (Ym b) q (some b) (nI i)) (headL t i) := by
  have hn := hX.2.2.1
  have hkd := wf_kind hX.2.2 hi
  have hrg := wf_rng hX.2.2 hi
  have hX' : ∀ {k w}, MX b n t (OM b M k w) := MX_same OM_same hX
  have h94 : MW b M (fun q => fX12_writesNode_94 (Ym b) q (some b) (nI i) (nI (t 0 i))) (clL (t 8 i) (t 9 i) (t 10 i) ++ (if 4 ≤ t 0 i ∧ t 0 i ≤ 8 then [40] else [])) := by
    intro k w hk
    show fX12_writesNode_94 (Ym b) (OM b M k w) (some b) (nI i) (nI (t 0 i)) = _
    rw [OMA]
    rw [List.length_append] at hk
    unfold fX12_writesNode_94
    refine bnd (mR1217 hX'.1) (bnd (qT (c := 8) hX' (by omega) (by omega) hi) ?_)
    refine bnd (mR1218 hX'.1) (bnd (qT (c := 9) hX' (by omega) (by omega) hi) ?_)
    refine bnd (mR1219 hX'.1) (bnd (qT (c := 10) hX' (by omega) (by omega) hi) ?_)
    refine bnd mrcv ?_
    refine bnd (r_deed hX hrg.2.2.2.2.2.1 hrg.2.2.2.2.2.2 k w (by omega)) ?_
    refine bnd (r_isList hkd) ?_
    by_cases h : 4 ≤ t 0 i ∧ t 0 i ≤ 8
    · rw [if_pos h] at hk
      have hk : k + ((clL (t 8 i) (t 9 i) (t 10 i)).length + 1) ≤ 200 := hk
      rw [if_pos h, if_pos h]
      refine ifN (by decide) ?_
      refine bnd mrcv ?_
      refine bnd (r_writes (d := 40) hX (by omega)) ?_
      rfl
    · rw [if_neg h, if_neg h]
      refine ifP rfl ?_
      rfl
  have h57 : MW b M (fun q => fX12_writesNode_57 (Ym b) q (some b) (nI i) (nI (t 0 i))) (clL (t 5 i) (t 6 i) (t 7 i) ++ ((if t 9 i = 0 then [] else 126 :: clL (t 8 i) (t 9 i) (t 10 i)) ++ (if 4 ≤ t 0 i ∧ t 0 i ≤ 8 then [40] else []))) := by
    intro k w hk
    show fX12_writesNode_57 (Ym b) (OM b M k w) (some b) (nI i) (nI (t 0 i)) = _
    rw [OMA]
    rw [List.length_append] at hk
    unfold fX12_writesNode_57
    refine bnd (mR1214 hX'.1) (bnd (qT (c := 5) hX' (by omega) (by omega) hi) ?_)
    refine bnd (mR1215 hX'.1) (bnd (qT (c := 6) hX' (by omega) (by omega) hi) ?_)
    refine bnd (mR1216 hX'.1) (bnd (qT (c := 7) hX' (by omega) (by omega) hi) ?_)
    refine bnd mrcv ?_
    refine bnd (r_deed hX hrg.2.2.1 hrg.2.2.2.1 k w (by omega)) ?_
    refine bnd (mR1218 hX'.1) (bnd (qT (c := 9) hX' (by omega) (by omega) hi) ?_)
    by_cases h : t 9 i = 0
    · rw [if_pos h] at hk
      rw [if_pos h]
      refine ifP (show nI (t 9 i) ≤ 0 by rw [h]; decide) ?_
      have e0 : clL (t 8 i) (t 9 i) (t 10 i) = [] := if_pos h
      have g := h94 (k + (clL (t 5 i) (t 6 i) (t 7 i)).length) (app w k (clL (t 5 i) (t 6 i) (t 7 i)))
      rw [e0] at g
      exact g (by omega)
    · rw [if_neg h] at hk
      rw [if_neg h, List.cons_append, OMC]
      rw [List.cons_append, List.length_cons] at hk
      refine ifN (show ¬ nI (t 9 i) ≤ 0 from nI_nle (by omega) (by omega)) ?_
      refine bnd mrcv ?_
      refine bnd (r_writes (d := 126) hX (by omega)) ?_
      exact h94 _ _ (by omega)
  have h44 : MW b M (fun q => fX12_writesNode_44 (Ym b) q (some b) (nI i) (nI (t 0 i))) ([48 + t 1 i] ++ (clL (t 5 i) (t 6 i) (t 7 i) ++ ((if t 9 i = 0 then [] else 126 :: clL (t 8 i) (t 9 i) (t 10 i)) ++ (if 4 ≤ t 0 i ∧ t 0 i ≤ 8 then [40] else [])))) := by
    intro k w hk
    show fX12_writesNode_44 (Ym b) (OM b M k w) (some b) (nI i) (nI (t 0 i)) = _
    rw [OMA]
    rw [List.length_append] at hk
    have hk : k + (1 + _) ≤ 200 := hk
    unfold fX12_writesNode_44
    refine bnd (mR1210 hX'.1) (bnd (qT (c := 1) hX' (by omega) (by omega) hi) ?_)
    rw [show (48 : Int32) = nI 48 from rfl, nI_add]
    refine bnd mrcv ?_
    refine bnd (r_writes (d := 48 + t 1 i) hX (by omega)) ?_
    exact h57 (k + 1) _ (show k + 1 + _ ≤ 200 by omega)
  intro k w hk
  show fX12_writesNode (Ym b) (OM b M k w) (some b) (nI i) = _
  unfold headL at hk ⊢
  rw [OMC]
  rw [List.length_cons] at hk
  unfold fX12_writesNode
  refine bnd (mR1209 hX'.1) (bnd (qT (c := 0) hX' (by omega) (by omega) hi) ?_)
  refine bnd (r_letter hkd) ?_
  refine bnd mrcv ?_
  refine bnd (r_writes (d := ltr (t 0 i)) hX (by omega)) ?_
  have hN : (t 0 i < 2 ∨ t 0 i = 8 ∨ t 0 i = 10 ∨ t 0 i = 11 ∨ t 0 i = 13 ∨ t 0 i = 14) → fX12_writesNode_44 (Ym b) (OM b M (k + 1) (upd w k (nI (ltr (t 0 i))))) (some b) (nI i) (nI (t 0 i)) = some (OM b M (k + 1 + ((if t 0 i < 2 ∨ t 0 i = 8 ∨ t 0 i = 10 ∨ t 0 i = 11 ∨ t 0 i = 13 ∨ t 0 i = 14 then [48 + t 1 i] else []) ++ (clL (t 5 i) (t 6 i) (t 7 i) ++ ((if t 9 i = 0 then [] else 126 :: clL (t 8 i) (t 9 i) (t 10 i)) ++ (if 4 ≤ t 0 i ∧ t 0 i ≤ 8 then [40] else [])))).length) (app (upd w k (nI (ltr (t 0 i)))) (k + 1) ((if t 0 i < 2 ∨ t 0 i = 8 ∨ t 0 i = 10 ∨ t 0 i = 11 ∨ t 0 i = 13 ∨ t 0 i = 14 then [48 + t 1 i] else []) ++ (clL (t 5 i) (t 6 i) (t 7 i) ++ ((if t 9 i = 0 then [] else 126 :: clL (t 8 i) (t 9 i) (t 10 i)) ++ (if 4 ≤ t 0 i ∧ t 0 i ≤ 8 then [40] else [])))))) := by
    intro h
    rw [if_pos h] at hk ⊢
    exact h44 _ _ (by omega)
  have hM : ¬ (t 0 i < 2 ∨ t 0 i = 8 ∨ t 0 i = 10 ∨ t 0 i = 11 ∨ t 0 i = 13 ∨ t 0 i = 14) → fX12_writesNode_57 (Ym b) (OM b M (k + 1) (upd w k (nI (ltr (t 0 i))))) (some b) (nI i) (nI (t 0 i)) = some (OM b M (k + 1 + ((if t 0 i < 2 ∨ t 0 i = 8 ∨ t 0 i = 10 ∨ t 0 i = 11 ∨ t 0 i = 13 ∨ t 0 i = 14 then [48 + t 1 i] else []) ++ (clL (t 5 i) (t 6 i) (t 7 i) ++ ((if t 9 i = 0 then [] else 126 :: clL (t 8 i) (t 9 i) (t 10 i)) ++ (if 4 ≤ t 0 i ∧ t 0 i ≤ 8 then [40] else [])))).length) (app (upd w k (nI (ltr (t 0 i)))) (k + 1) ((if t 0 i < 2 ∨ t 0 i = 8 ∨ t 0 i = 10 ∨ t 0 i = 11 ∨ t 0 i = 13 ∨ t 0 i = 14 then [48 + t 1 i] else []) ++ (clL (t 5 i) (t 6 i) (t 7 i) ++ ((if t 9 i = 0 then [] else 126 :: clL (t 8 i) (t 9 i) (t 10 i)) ++ (if 4 ≤ t 0 i ∧ t 0 i ≤ 8 then [40] else [])))))) := by
    intro h
    rw [if_neg h] at hk ⊢
    rw [List.nil_append] at hk ⊢
    exact h57 _ _ (by omega)
  by_cases c2 : t 0 i < 2
  · refine ifP (show nI (t 0 i) < 2 from nI_lt (b := 2) c2 (by decide)) ?_
    exact hN (by omega)
  refine ifN (show ¬ nI (t 0 i) < 2 from nI_nlt (b := 2) (by omega) (by omega)) ?_
  by_cases c8 : t 0 i = 8
  · refine ifP (nIe c8) ?_
    exact hN (by omega)
  refine ifN (nIn c8 (by omega) (by omega)) ?_
  by_cases c10 : t 0 i = 10
  · refine ifP (nIe c10) ?_
    exact hN (by omega)
  refine ifN (nIn c10 (by omega) (by omega)) ?_
  by_cases c11 : t 0 i = 11
  · refine ifP (nIe c11) ?_
    exact hN (by omega)
  refine ifN (nIn c11 (by omega) (by omega)) ?_
  by_cases c13 : t 0 i < 13
  · refine ifP (show nI (t 0 i) < 13 from nI_lt (b := 13) c13 (by decide)) ?_
    exact hM (by omega)
  · refine ifN (show ¬ nI (t 0 i) < 13 from nI_nlt (b := 13) (by omega) (by omega)) ?_
    exact hN (by omega)
theorem r_51 (hX : MX b n t M) (h08 : M.1 1208 b = nI n) (hn0 : n0 < n) {k18 : HS → Option Nat → Int32 → Option (HS × Int32)} : ∀ (f fuel e k : Nat) (w : Nat → Int32), e < n → e < f → f < fuel → t 4 e = n0 → k + (bhF t f e).length ≤ 200 → fX12_write_51 k18 (Ym b) fuel (OM b M k w) (some b) (nI n0) (if e = 0 then -1 else nI (t 2 e)) = k18 (OM b M (k + (bhF t f e).length) (app w k (bhF t f e))) (some b) (nI (n0 + 1))
  | 0, _, _, _, _, _, h, _, _, _ => absurd h (Nat.not_lt_zero _)
  | _, 0, _, _, _, _, _, h, _, _ => absurd h (Nat.not_lt_zero _)
  | f + 1, fuel + 1, e, k, w, he, hef, hff, hl, hk => by
    have hn := hX.2.2.1
    have hW := hX.2.2
    have hX' : ∀ {k w}, MX b n t (OM b M k w) := MX_same OM_same hX
    have e08 : ∀ {k w}, gI (Ym b) 12 1208 (some b) (OM b M k w) = some (nI n) := by
      intro k w
      rw [mIo]
      exact congrArg some (show upN M.1 1207 b (nI k) 1208 b = nI n by rw [upN_ne (Or.inl (by decide))]; exact h08)
    rw [bhF] at hk ⊢
    rw [fX12_write_51]
    by_cases h0 : e = 0
    · rw [if_pos h0, if_pos h0]
      have h1 := (hW.2.1 (by omega)).2
      rw [h0, h1] at hl
      refine ifP (by decide) ?_
      unfold fX12_write_93
      refine bnd e08 ?_
      rw [nI_1]
      refine ifP (nI_le (by omega) (by omega)) ?_
      rfl
    · have hu := wf_up hW he (by omega)
      have hun : t 2 e < n := by omega
      rw [if_neg h0] at hk
      rw [if_neg h0, if_neg h0]
      refine ifN (nI_pos (by omega)) ?_
      refine bnd (mR1213 hX'.1) (bnd (qT (c := 4) hX' (by omega) (by omega) hun) ?_)
      by_cases h4 : t 4 e < t 4 (t 2 e)
      · obtain ⟨j, hj, hje⟩ := hu.2.2.2.1
        have hlu := wf_last hW hun
        have hend := wf_end hW hun
        have hj1 : j + 1 < t 11 (t 2 e) := by
          by_cases q : j + 1 < t 11 (t 2 e)
          · exact q
          · have : j + 1 = t 11 (t 2 e) := by omega
            rw [← this, cN, hje] at hend
            omega
        have hc1 := wf_ch hW hun hj1
        rw [cN, hje, hl] at hc1
        have hkl : ¬ 9 ≤ t 0 (t 2 e) := fun q => by have := wf_one hW hun q; omega
        have hkd := wf_kind hW hun
        rw [if_pos h4] at hk
        rw [if_pos h4]
        refine ifN (fun q => by have := (nI_eq (by omega) (by omega)).mp q; omega) ?_
        unfold fX12_write_93
        refine bnd e08 ?_
        rw [nI_1]
        refine ifN (nI_ge (by omega) (by omega)) ?_
        refine bnd (mR1209 hX'.1) ?_
        refine bnd (mR1211 hX'.1) ?_
        refine bnd (qT2 hX' (by omega)) ?_
        rw [if_neg (by omega), hc1.2.2.1]
        refine bnd (qT (c := 0) hX' (by omega) (by omega) hun) ?_
        refine bnd (r_isList hkd) ?_
        rw [if_pos (show 4 ≤ t 0 (t 2 e) ∧ t 0 (t 2 e) ≤ 8 by omega)]
        refine ifN (by decide) ?_
        refine bnd mrcv ?_
        have hk : k + 1 ≤ 200 := hk
        refine bnd (r_writes (d := 44) hX (by omega)) ?_
        rfl
      · have hlu := wf_last hW hun
        obtain ⟨j, hj, hje⟩ := hu.2.2.2.1
        have hle := (wf_ch hW hun hj).2.2.2.1
        rw [hje] at hle
        have heq : t 4 (t 2 e) = n0 := by omega
        have hkd := wf_kind hW hun
        rw [if_neg h4, List.length_append] at hk
        rw [if_neg h4, OMA, heq]
        refine ifP rfl ?_
        refine bnd (mR1209 hX'.1) (bnd (qT (c := 0) hX' (by omega) (by omega) hun) ?_)
        refine bnd (r_isList hkd) ?_
        by_cases hl8 : 4 ≤ t 0 (t 2 e) ∧ t 0 (t 2 e) ≤ 8
        · rw [if_pos hl8] at hk
          rw [if_pos hl8, if_pos hl8]
          have hk : k + (1 + (bhF t f (t 2 e)).length) ≤ 200 := hk
          refine ifN (by decide) ?_
          refine bnd mrcv ?_
          refine bnd (r_writes (d := 41) hX (by omega)) ?_
          refine bnd (mR1211 hX'.1) ?_
          refine bnd (qT2 hX' hun) ?_
          exact r_51 hX h08 hn0 f fuel (t 2 e) (k + 1) _ hun (by omega) (by omega) heq (by omega)
        · rw [if_neg hl8] at hk
          rw [if_neg hl8, if_neg hl8]
          refine ifP rfl ?_
          refine bnd (mR1211 hX'.1) ?_
          refine bnd (qT2 hX' hun) ?_
          exact r_51 hX h08 hn0 f fuel (t 2 e) k w hun (by omega) (by omega) heq (by simpa using hk)
theorem r_18 (hX : MX b n t M) (h08 : M.1 1208 b = nI n) (hlen : (txtL t n).length ≤ 70) (w : Nat → Int32) : ∀ (d fuel i : Nat), i + d = n → d < fuel → fX12_write_18 (Ym b) fuel (OM b M (txtL t i).length (app w 0 (txtL t i))) (some b) (nI i) = some (OM b M (txtL t n).length (app w 0 (txtL t n)), nI (txtL t n).length)
  | _, 0, _, _, h => absurd h (Nat.not_lt_zero _)
  | 0, fuel + 1, i, hi, _ => by
    have hn := hX.2.2.1
    have : i = n := by omega
    subst this
    rw [fX12_write_18]
    refine bnd (a := nI i) ?_ ?_
    · rw [mIo]
      exact congrArg some (OM_1208.trans h08)
    refine ifP (nI_le (Nat.le_refl _) (by omega)) ?_
    refine bnd (a := nI (txtL t i).length) ?_ rfl
    rw [mIo]
    exact congrArg some upN_self
  | d + 1, fuel + 1, i, hi, hf => by
    have hn := hX.2.2.1
    have hW := hX.2.2
    have hin : i < n := by omega
    have hkd := wf_kind hW hin
    have hX' : ∀ {k w}, MX b n t (OM b M k w) := MX_same OM_same hX
    have ih := r_18 hX h08 hlen w d fuel (i + 1) (by omega) (by omega)
    have hm := txtL_mono (t := t) (n - (i + 1)) (i + 1)
    rw [show i + 1 + (n - (i + 1)) = n by omega, txtL, List.length_append, List.length_append] at hm
    rw [txtL, app_app, app_app, List.length_append, List.length_append, Nat.zero_add, ← Nat.add_assoc] at ih
    rw [fX12_write_18]
    refine bnd (a := nI n) ?_ ?_
    · rw [mIo]
      exact congrArg some (OM_1208.trans h08)
    refine ifN (nI_ge (by omega) (by omega)) ?_
    refine bnd mrcv ?_
    refine bnd (r_node hX hin _ _ (by omega)) ?_
    refine bnd (mR1209 hX'.1) (bnd (qT (c := 0) hX' (by omega) (by omega) hin) ?_)
    by_cases h3 : t 0 i ≤ 3
    · refine ifP (show nI (t 0 i) ≤ 3 from nI_le (b := 3) h3 (by decide)) ?_
      refine bnd (mR1211 hX'.1) ?_
      refine bnd (qT2 hX' hin) ?_
      have hbe : behL t i = bhF t 24 i := if_neg (by omega)
      rw [hbe] at ih hm
      have hl := (wf_leaf hW hin (by omega)).1
      exact (r_51 hX h08 hin 24 FU i _ _ hin (by omega) (by unfold FU; omega) hl (by omega)).trans ih
    · refine ifN (show ¬ nI (t 0 i) ≤ 3 from nI_ge (a := 3) (by omega) (by omega)) ?_
      have hbe : behL t i = [] := if_pos (by omega)
      rw [hbe] at ih
      rw [nI_1]
      exact ih
theorem OM_0 : (upN M.1 1207 b 0, M.2) = OM b M 0 (M.2.2.1 (b + 5)) := by
  unfold OM
  have : va_up M.2.2.1 (b + 5) (M.2.2.1 (b + 5)) = M.2.2.1 := by
    funext q
    by_cases h : q = b + 5
    · subst h; rw [va_up_self]
    · rw [va_up_ne _ _ h]
  rw [this]
  rfl
theorem r_write (hX : MX b n t M) (h08 : M.1 1208 b = nI n) (h0 : 0 < n) (hlen : (txtL t n).length ≤ 70) : fX12_write (Ym b) M (some b) = some (OM b M (txtL t n).length (app (M.2.2.1 (b + 5)) 0 (txtL t n)), nI (txtL t n).length) := by
  have hn := hX.2.2.1
  unfold fX12_write
  refine bnd (a := nI n) (by rw [mIo]; exact congrArg some h08) ?_
  refine ifN (nI_ne0 h0 (by omega)) ?_
  refine bnd mpI ?_
  rw [OM_0]
  exact r_18 hX h08 hlen (M.2.2.1 (b + 5)) n FU 0 (by omega) (by unfold FU; omega)
/-- all its codes are characters -/
theorem numL_le (hx : x ≤ 99) : ∀ y ∈ numL x, y ≤ 127 := by
  unfold numL
  intro y hy
  split at hy
  · simp at hy; omega
  · simp at hy; omega
theorem clL_le (hk : key ≤ 7) (hs : s ≤ 6) (hx : x ≤ 99) : ∀ y ∈ clL key s x, y ≤ 127 := by
  have h : ∀ s, s < 7 → sgN s ≤ 127 := by decide +kernel
  unfold clL
  intro y hy
  split at hy
  · cases hy
  · rcases List.mem_cons.mp hy with rfl | hy
    · omega
    · rcases List.mem_cons.mp hy with rfl | hy
      · exact h s (by omega)
      · exact numL_le hx y hy
theorem bhF_le : ∀ (f e : Nat), ∀ y ∈ bhF t f e, y ≤ 127
  | 0, _, y, hy => by cases hy
  | f + 1, e, y, hy => by
    rw [bhF] at hy
    split at hy
    · cases hy
    · split at hy
      · simp at hy; omega
      · rcases List.mem_append.mp hy with hy | hy
        · split at hy
          · simp at hy; omega
          · cases hy
        · exact bhF_le f _ y hy
theorem headL_le (hW : WF n t) (hi : i < n) : ∀ y ∈ headL t i, y ≤ 127 := by
  have hr := wf_rng hW hi
  have hk := wf_kind hW hi
  have h : ∀ s, s < 15 → ltr s ≤ 127 := by decide +kernel
  unfold headL
  intro y hy
  rcases List.mem_cons.mp hy with rfl | hy
  · exact h _ hk
  · rcases List.mem_append.mp hy with hy | hy
    · split at hy
      · simp at hy; omega
      · cases hy
    · rcases List.mem_append.mp hy with hy | hy
      · exact clL_le hr.2.1 hr.2.2.1 hr.2.2.2.1 y hy
      · rcases List.mem_append.mp hy with hy | hy
        · split at hy
          · cases hy
          · rcases List.mem_cons.mp hy with rfl | hy
            · omega
            · exact clL_le hr.2.2.2.2.1 hr.2.2.2.2.2.1 hr.2.2.2.2.2.2 y hy
        · split at hy
          · simp at hy; omega
          · cases hy
theorem txtL_le (hW : WF n t) : ∀ m, m ≤ n → ∀ y ∈ txtL t m, y ≤ 127
  | 0, _, y, hy => by cases hy
  | m + 1, h, y, hy => by
    rw [txtL] at hy
    rcases List.mem_append.mp hy with hy | hy
    · exact txtL_le hW m (by omega) y hy
    · rcases List.mem_append.mp hy with hy | hy
      · exact headL_le hW (by omega) y hy
      · unfold behL at hy
        split at hy
        · cases hy
        · exact bhF_le 24 m y hy
/-! the call -/
/-- a layout with one more object behind the class' pool -/
theorem ExY_new (ha : z + 269 ≤ a) : ExY z ((Yc z).1 ++ [a], va_up (Yc z).2.1 a c, (Yc z).2.2) := by
  intro o ho
  refine ⟨fun c1 => ?_, rfl⟩
  unfold chk
  have h1 : va_up (Yc z).2.1 a c (z + o) = (Yc z).2.1 (z + o) := va_up_ne _ _ (by omega)
  show (decide (z + o ∈ (Yc z).1 ++ [a]) && (va_up (Yc z).2.1 a c (z + o) == c1)) = _
  rw [h1]
  have h2 : (z + o ∈ (Yc z).1 ++ [a]) ↔ (z + o ∈ (Yc z).1) := by
    rw [List.mem_append, List.mem_singleton]
    exact ⟨fun h => h.elim id (fun h => by omega), Or.inl⟩
  rw [decide_eq_decide.mpr h2]
/-- two heaps that agree on the class' pool -/
def AGR (z : Nat) (S S1 : HS) : Prop := ∀ a, z ≤ a → a < z + 269 → (∀ f, S1.1 f a = S.1 f a ∧ S1.2.1 f a = S.2.1 f a) ∧ S1.2.2.1 a = S.2.2.1 a ∧ S1.2.2.2 a = S.2.2.2 a
theorem FixC_agr (h : AGR z S S1) (hF : FixC z S) : FixC z S1 := by
  have r : ∀ f o, o < 269 → S1.2.1 f (z + o) = S.2.1 f (z + o) := fun f o ho => ((h (z + o) (by omega) (by omega)).1 f).2
  have q : ∀ o, o < 269 → S1.2.2.2 (z + o) = S.2.2.2 (z + o) := fun o ho => (h (z + o) (by omega) (by omega)).2.2
  unfold FixC at *
  obtain ⟨h1, h2, h3, h4, h5, h6, h7, h8, h9, h10, h11, h12, h13, h14, h15, h16, h17, h18, h19, h20, h21, h22, h23, h24, h25, h26, h27, hT⟩ := hF
  refine ⟨by rw [r _ _ (by decide)]; exact h1, by rw [r _ _ (by decide)]; exact h2, by rw [r _ _ (by decide)]; exact h3, by rw [r _ _ (by decide)]; exact h4, by rw [r _ _ (by decide)]; exact h5, by rw [r _ _ (by decide)]; exact h6, by rw [r _ _ (by decide)]; exact h7, by rw [r _ _ (by decide)]; exact h8, by rw [r _ _ (by decide)]; exact h9, by rw [r _ _ (by decide)]; exact h10, by rw [r _ _ (by decide)]; exact h11, by rw [r _ _ (by decide)]; exact h12, by rw [r _ _ (by decide)]; exact h13, by rw [r _ _ (by decide)]; exact h14, by rw [r _ _ (by decide)]; exact h15, by rw [r _ _ (by decide)]; exact h16, by rw [r _ _ (by decide)]; exact h17, by rw [r _ _ (by decide)]; exact h18, by rw [r _ _ (by decide)]; exact h19, by rw [r _ _ (by decide)]; exact h20, by rw [r _ _ (by decide)]; exact h21, by rw [r _ _ (by decide)]; exact h22, by rw [r _ _ (by decide)]; exact h23, by rw [r _ _ (by decide)]; exact h24, by rw [r _ _ (by decide)]; exact h25, by rw [r _ _ (by decide)]; exact h26, fun i hi => ?_, fun T hTT => ⟨?_, fun i hi => ?_⟩⟩
  · rw [q _ (by decide), q _ (by decide)]; exact h27 i hi
  · have hk := kd_T hTT
    rw [r _ _ hk.1]; exact (hT T hTT).1
  · have hk := kd_T hTT
    have hd := kd_nd hTT hi
    obtain ⟨g1, g2, g3, g4, g5⟩ := (hT T hTT).2 i hi
    unfold nda at *
    refine ⟨by rw [q _ hk.2.2.1]; exact g1, by rw [r _ _ hd.1]; exact g2, by rw [r _ _ hd.1]; exact g3, by rw [r _ _ hd.1]; exact g4, ?_⟩
    rw [((h (z + (T + 2 + 4 * i)) (by omega) (by omega)).1 400).1]; exact g5
theorem TreeC_agr (h : AGR z S S1) (hT : isT T) (hn : n ≤ 24) (hTr : TreeC z T n t S) : TreeC z T n t S1 := by
  intro i hi
  have k1 := kd_nd hT (i := i) (by omega)
  have k2 := kd_cl hT (i := i) (by omega)
  have k3 := kd_en hT (i := i) (by omega)
  have a1 := (h (nda z T i) (by unfold nda; omega) (by unfold nda; omega)).1
  have a2 := (h (cla z T i) (by unfold cla; omega) (by unfold cla; omega)).1
  have a3 := (h (ena z T i) (by unfold ena; omega) (by unfold ena; omega)).1
  have g := hTr i hi
  rw [(a1 404).1, (a1 405).1, (a1 406).1, (a1 407).1, (a1 408).2, (a1 409).2, (a1 410).2, (a1 412).2, (a1 413).2, (a2 100).1, (a2 101).1, (a2 102).1, (a2 103).1, (a2 104).2, (a3 100).1, (a3 101).1, (a3 102).1, (a3 103).1, (a3 104).2]
  exact g
theorem OS_SC (hC : CX z T n t S) {v c l : Nat → Int32} {u : Nat → Option Nat} {p : Option Nat} {tr : TR} : OS z (SC z T n S v c u l p tr) k w = SC z T n (OS z S k w) v c u l p tr := by
  have e1 : upN (SC1 z T n S.1 v c l tr.1) 701 (z + 3) (nI k) = SC1 z T n (upN S.1 701 (z + 3) (nI k)) v c l tr.1 := SC1_wI (by omega) (fun i _ => by have := lf_ge (z := z) (i := i) hC.1; omega)
  have e3 : va_up (SC3 z S.2.2.1 v tr) (z + 4) w = SC3 z (va_up S.2.2.1 (z + 4) w) v tr := by
    funext a j
    unfold SC3
    by_cases h4 : a = z + 4
    · subst h4
      rw [va_up_self, va_up_self, if_neg (by omega), if_neg (by omega), if_neg (by omega)]
    · rw [va_up_ne _ _ h4, va_up_ne _ _ h4]
  show (upN (SC1 z T n S.1 v c l tr.1) 701 (z + 3) (nI k), SC2 z T n S.2.1 u p, va_up (SC3 z S.2.2.1 v tr) (z + 4) w, S.2.2.2) = _
  rw [e1, e3]
  rfl
theorem OM_SV : OM b (SV b M v1) k w = SV b (OM b M k w) v1 := by
  have e : va_up (va_up M.2.2.1 (b + 1) v1) (b + 5) w = va_up (va_up M.2.2.1 (b + 5) w) (b + 1) v1 := by
    funext a
    by_cases h5 : a = b + 5
    · subst h5
      rw [va_up_self, va_up_ne _ _ (show b + 5 ≠ b + 1 by omega), va_up_self]
    · rw [va_up_ne _ _ h5]
      by_cases h1 : a = b + 1
      · subst h1; rw [va_up_self, va_up_self]
      · rw [va_up_ne _ _ h1, va_up_ne _ _ h1, va_up_ne _ _ h5]
  show (upN M.1 1207 b (nI k), M.2.1, va_up (va_up M.2.2.1 (b + 1) v1) (b + 5) w, M.2.2.2) = _
  rw [e]
  rfl
/-- write: the class makes one object at N.1; what it leaves agrees on the pool with a heap that is related -/
theorem x_write (h : REL z b q S M) {N : Nat × Nat} (hN : z + 269 ≤ N.1) : ∃ S1 S2 M1 Y1 N1 r, fX11_write (Yc z) S N (some z) = some ((Y1, S1, N1), r) ∧ fX12_write (Ym b) M (some b) = some (M1, r) ∧ REL z b q S2 M1 ∧ AGR z S1 S2 ∧ N.1 ≤ N1.1 ∧ N1.1 ≤ N.1 + 1 ∧ N.2 ≤ N1.2 ∧ N1.2 ≤ N.2 + 2 ∧ (∀ a, a < N.1 → (a ∈ Y1.1 ↔ a ∈ (Yc z).1) ∧ Y1.2.1 a = (Yc z).2.1 a ∧ Y1.2.2 a = (Yc z).2.2 a) := by
  obtain ⟨T, n, t, S0, M0, v, c, u, l, p, tr, rfl, rfl, hSt, hSI, hq⟩ := REL_to h
  have hC := hSt.1
  have hn := CX_n hC
  by_cases h0 : n = 0
  · subst h0
    refine ⟨_, _, _, Yc z, N, -1004, ?_, ?_, h, fun a _ _ => ⟨fun _ => ⟨rfl, rfl⟩, rfl, rfl⟩, Nat.le_refl _, by omega, Nat.le_refl _, by omega, fun a _ => ⟨Iff.rfl, rfl, rfl⟩⟩
    · unfold fX11_write
      refine bnd (w1107 hC hSt.2.2.1) ?_
      refine bnd (w801 hC hSt.2.2.1) ?_
      exact if_pos rfl
    · unfold fX12_write
      refine bnd (m1208 hSt.2.2.2.1) ?_
      exact if_pos rfl
  · have hlen := hSt.2.2.2.2.2.2.2.1
    have hXv : MX b n t (SV b M0 v) := MX_same (M := M0) ⟨fun _ _ _ _ _ => rfl, rfl, fun a h1 _ _ _ => show va_up M0.2.2.1 (b + 1) v a = M0.2.2.1 a from va_up_ne _ _ h1⟩ hSt.2.1
    have hr := r_write hXv (show (SV b M0 v).1 1208 b = nI n from hSt.2.2.2.1) (by omega) hlen
    rw [OM_SV] at hr
    have hMs : SameM b M0 (OM b M0 (txtL t n).length (app ((SV b M0 v).2.2.1 (b + 5)) 0 (txtL t n))) := OM_same
    -- the heap with the new object
    have hY := ExY_new (z := z) (c := 10) hN
    generalize hS : SC z T n S0 v c u l p tr = S at *
    have hCS : FixC z S := by rw [← hS]; exact fixSC hC
    have hTS : TreeC z T n t S := by
      rw [← hS]
      exact (STAT_SC hSt).1.2.2.2
    have h801 : S.1 801 (z + T) = nI n := by rw [← hS]; exact (STAT_SC hSt).2.2.1.2.2
    have h1107 : S.2.1 1107 z = some (z + T) := by rw [← hS]; exact (STAT_SC hSt).2.2.1.1
    have h1101 : S.2.1 1101 z = some (z + 3) := by
      have := cR1101_0 hCS
      rw [show gR (Yc z) 11 1101 (some z) S = some (S.2.1 1101 z) from cR (o := 0) (c := 11) (by decide) rfl] at this
      exact Option.some.inj this
    have hA1 : AGR z S ((fun f b => if b = N.1 then 0 else S.1 f b), (fun f b => if b = N.1 then none else S.2.1 f b), S.2.2) := fun a h1 h2 => ⟨fun f => ⟨if_neg (by omega), if_neg (by omega)⟩, rfl, rfl⟩
    have hA2 : AGR z S ((fun f b => if b = N.1 then 0 else S.1 f b), upN (upN (fun f b => if b = N.1 then none else S.2.1 f b) 1000 N.1 (some (z + T))) 1001 N.1 (some (z + 3)), S.2.2) := fun a h1 h2 => ⟨fun f => ⟨if_neg (by omega), by
      show upN (upN _ 1000 N.1 (some (z + T))) 1001 N.1 (some (z + 3)) f a = _
      rw [upN_ne (Or.inr (by omega)), upN_ne (Or.inr (by omega))]
      exact if_neg (by omega)⟩, rfl, rfl⟩
    have hK : z + T < z + 269 := by have := (kd_T hC.1).1; omega
    have hchk : chk ((Yc z).1 ++ [N.1], va_up (Yc z).2.1 N.1 10, (Yc z).2.2) 10 N.1 = true := by
      unfold chk
      show (decide (N.1 ∈ (Yc z).1 ++ [N.1]) && (va_up (Yc z).2.1 N.1 10 N.1 == 10)) = true
      rw [va_up_self]
      simp
    have hWO : WO z T N.1 ((Yc z).1 ++ [N.1], va_up (Yc z).2.1 N.1 10, (Yc z).2.2) ((fun f b => if b = N.1 then 0 else S.1 f b), upN (upN (fun f b => if b = N.1 then none else S.2.1 f b) 1000 N.1 (some (z + T))) 1001 N.1 (some (z + 3)), S.2.2) := by
      refine ⟨hchk, ?_, upN_self⟩
      show upN (upN (fun f b => if b = N.1 then none else S.2.1 f b) 1000 N.1 (some (z + T))) 1001 N.1 (some (z + 3)) 1000 N.1 = _
      rw [upN_ne (Or.inl (by decide)), upN_self]
    have hw := o_write hY (FixC_agr hA2 hCS) hWO hC.1 (TreeC_agr hA2 hC.1 hn hTS) hC.2.1 (show (if z + T = N.1 then (0 : Int32) else S.1 801 (z + T)) = nI n by rw [if_neg (by omega)]; exact h801) hlen
    -- the result
    refine ⟨OS z ((fun f b => if b = N.1 then 0 else S.1 f b), upN (upN (fun f b => if b = N.1 then none else S.2.1 f b) 1000 N.1 (some (z + T))) 1001 N.1 (some (z + 3)), S.2.2) (txtL t n).length (app (S.2.2.1 (z + 4)) 0 (txtL t n)), OS z S (txtL t n).length (app (S.2.2.1 (z + 4)) 0 (txtL t n)), _, ((Yc z).1 ++ [N.1], va_up (Yc z).2.1 N.1 10, (Yc z).2.2), (N.1 + 1, N.2 + 2), nI (txtL t n).length, ?_, hr, ?_, ?_, by show N.1 ≤ N.1 + 1; omega, Nat.le_refl _, by show N.2 ≤ N.2 + 2; omega, Nat.le_refl _, ?_⟩
    · unfold fX11_write
      refine bnd (gR_of (o := 0) (by decide) rfl h1107) ?_
      refine bnd (gI_of (kd_T hC.1).1 (kd_T hC.1).2.1 h801) ?_
      refine ifN (nI_ne0 (by omega) (by omega)) ?_
      refine bnd (a := (N.1, ((Yc z).1 ++ [N.1], va_up (Yc z).2.1 N.1 10, (Yc z).2.2), ((fun f b => if b = N.1 then 0 else S.1 f b), (fun f b => if b = N.1 then none else S.2.1 f b), S.2.2), (N.1 + 1, N.2 + 2))) ?_ ?_
      · unfold newO
        exact if_pos ⟨Nat.le_refl _, Nat.le_refl _⟩
      refine bnd (dR_of hY (o := 0) (by decide) rfl (x := some (z + T)) ((if_neg (by omega)).trans h1107)) ?_
      refine bnd (dR_of hY (o := 0) (by decide) rfl (x := some (z + 3)) ((if_neg (by omega)).trans h1101)) ?_
      refine bnd (a := ((fun f b => if b = N.1 then 0 else S.1 f b), upN (upN (fun f b => if b = N.1 then none else S.2.1 f b) 1000 N.1 (some (z + T))) 1001 N.1 (some (z + 3)), S.2.2)) ?_ ?_
      · unfold fX10_init
        refine ifN (by intro e; cases e) ?_
        refine bnd (a := ((fun f b => if b = N.1 then 0 else S.1 f b), upN (fun f b => if b = N.1 then none else S.2.1 f b) 1000 N.1 (some (z + T)), S.2.2)) ?_ ?_
        · show (if chk _ 10 N.1 = true then _ else none) = _
          rw [if_pos hchk]
        · refine bnd (a := ((fun f b => if b = N.1 then 0 else S.1 f b), upN (upN (fun f b => if b = N.1 then none else S.2.1 f b) 1000 N.1 (some (z + T))) 1001 N.1 (some (z + 3)), S.2.2)) ?_ rfl
          show (if chk _ 10 N.1 = true then _ else none) = _
          rw [if_pos hchk]
      refine bnd (wo_rcv hWO) ?_
      refine bnd hw ?_
      refine bnd (dR_of hY (o := 0) (by decide) rfl (x := some (z + 3)) ?_) ?_
      · show upN (upN _ 1000 N.1 (some (z + T))) 1001 N.1 (some (z + 3)) 1101 (z + 0) = _
        rw [upN_ne (Or.inr (by omega)), upN_ne (Or.inr (by omega))]
        exact (if_neg (by omega)).trans h1101
      refine bnd (dI_of hY (o := 3) (by decide) rfl (x := nI (txtL t n).length) upN_self) ?_
      rfl
    · rw [← hS, OS_SC hC]
      refine REL_of (STAT_same OS_same hMs ?_ ?_ hSt) hSI hq
      · obtain ⟨k, g1, g2, g3, g4⟩ := hSt.2.2.2.2.1
        refine ⟨k, g1, ?_, ?_, fun j hj => ?_⟩
        · show upN S0.1 701 (z + 3) _ 701 (z + 1) = _
          rw [upN_ne (Or.inr (by omega))]; exact g2
        · exact (upN_ne (F := M0.1) (f := 1207) (a := b) (g := 1206) (a1 := b) (x := nI (txtL t n).length) (Or.inl (by decide))).trans g3
        · show ∃ d, d ≤ 127 ∧ va_up S0.2.2.1 (z + 4) _ (z + 2) j = nI d ∧ va_up M0.2.2.1 (b + 5) _ (b + 4) j = nI d
          rw [va_up_ne _ _ (by omega), va_up_ne _ _ (by omega)]
          exact g4 j hj
      · refine ⟨(txtL t n).length, hlen, upN_self, upN_self, fun j hj => ⟨(txtL t n).getD j 0, ?_, ?_, ?_⟩⟩
        · have hm : (txtL t n).getD j 0 ∈ txtL t n := by
            rw [List.getD_eq_getElem?_getD, List.getElem?_eq_getElem hj]
            exact List.getElem_mem hj
          exact txtL_le hC.2.1 n (Nat.le_refl _) _ hm
        · show va_up S0.2.2.1 (z + 4) _ (z + 4) j = _
          rw [va_up_self]
          have := app_in (txtL t n) ((SC z T n S0 v c u l p tr).2.2.1 (z + 4)) 0 j hj
          rw [Nat.zero_add] at this
          exact this
        · show va_up M0.2.2.1 (b + 5) _ (b + 5) j = _
          rw [va_up_self]
          have := app_in (txtL t n) ((SV b M0 v).2.2.1 (b + 5)) 0 j hj
          rw [Nat.zero_add] at this
          exact this
    · intro a h1 h2
      have g := hA2 a h1 h2
      refine ⟨fun f => ⟨?_, ?_⟩, ?_, ?_⟩
      · show upN S.1 701 (z + 3) _ f a = upN (fun f b => if b = N.1 then 0 else S.1 f b) 701 (z + 3) _ f a
        unfold upN
        show (if f = 701 ∧ a = z + 3 then nI (txtL t n).length else S.1 f a) = (if f = 701 ∧ a = z + 3 then nI (txtL t n).length else (if a = N.1 then 0 else S.1 f a))
        rw [if_neg (c := a = N.1) (by omega)]
      · exact ((g.1 f).2).symm
      · rfl
      · rfl
    · intro a ha
      refine ⟨?_, ?_, rfl⟩
      · show a ∈ (Yc z).1 ++ [N.1] ↔ _
        rw [List.mem_append, List.mem_singleton]
        exact ⟨fun h => h.elim id (fun h => by omega), Or.inl⟩
      · show va_up (Yc z).2.1 N.1 10 a = _
        rw [va_up_ne _ _ (by omega)]
end WRM
