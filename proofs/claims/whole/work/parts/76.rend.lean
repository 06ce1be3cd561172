/-! readTree: the reference's end -/
def RdE (b : Nat) (M : HS) (A : Nat → Nat → Int32) (op : Nat → Int32) (o n d : Nat) (fl : Int32) : HS := (upN (RdM b M A op o n d fl 0).1 1206 b 0, (RdM b M A op o n d fl 0).2)
/-- columns are copied: all of the rows before j, the first c of row j -/
def CPX (b : Nat) (M : HS) (A : Nat → Nat → Int32) (j c : Nat) : HS := (M.1, M.2.1, (fun a i => if (b + 6 ≤ a ∧ a < b + 17) ∧ (i < j ∨ (i = j ∧ a < b + 6 + c)) then A (a - (b + 6)) i else M.2.2.1 a i), M.2.2.2)
def VX (v : Nat → Int32) (j : Nat) : Nat → Int32 := fun k => if k < j ∧ ¬ (264 ≤ k ∧ k < 272) then 0 else v k
section REND
variable {b n i j k c d e o o1 K x : Nat} {L : Nat → Nat} {M : HS} {A : Nat → Nat → Int32} {op : Nat → Int32} {fl mo : Int32} {v : Nat → Int32}
theorem SV_self (h : M.2.2.1 (b + 1) = v) : SV b M v = M := by
  have e : va_up M.2.2.1 (b + 1) v = M.2.2.1 := by
    funext a
    by_cases ha : a = b + 1
    · subst ha; rw [va_up_self, h]
    · rw [va_up_ne _ _ ha]
  show (M.1, M.2.1, va_up M.2.2.1 (b + 1) v, M.2.2.2) = M
  rw [e]
theorem w1206 : pI (Ym b) 12 1206 (some b) 0 (RdM b M A op o n d fl 0) = some (RdE b M A op o n d fl) := mpI
theorem e_I {f : Nat} {x : Int32} (hf : f ≠ 1206) (h : gI (Ym b) 12 f (some b) (RdM b M A op o n d fl 0) = some x) : gI (Ym b) 12 f (some b) (RdE b M A op o n d fl) = some x := by
  rw [mIo] at h ⊢
  have e : (RdE b M A op o n d fl).1 f b = (RdM b M A op o n d fl 0).1 f b := upN_ne (Or.inl hf)
  rw [e]
  exact h
theorem r_62_f (hB : MB b K L M) : fX12_readTree_62 (Ym b) (RdM b M A op o n d 1 0) (some b) = some (RdE b M A op o n d 1, -2000 - nI o) := by
  have h83 : ∀ x : Int32, (1 ||| x = 1) → fX12_readTree_83 (Ym b) (RdM b M A op o n d 1 0) (some b) (some b) 1 x = some (RdE b M A op o n d 1, -2000 - nI o) := by
    intro x hx
    unfold fX12_readTree_83
    rw [hx]
    refine bnd (w1222 (Or.inr rfl)) ?_
    refine bnd w1206 ?_
    refine bnd (e_I (by decide) q1222) ?_
    refine ifN (by decide) ?_
    refine bnd (e_I (by decide) q1220) ?_
    rfl
  unfold fX12_readTree_62
  refine bnd q1222 ?_
  refine bnd q1220 ?_
  refine bnd (q1206 hB) ?_
  by_cases h : nI K ≤ nI o
  · refine ifP h ?_
    exact h83 0 (by decide)
  · refine ifN h ?_
    exact h83 1 (by decide)
theorem r_62_s (hB : MB b K L M) (ho : o < K) : fX12_readTree_62 (Ym b) (RdM b M A op o n d 0 0) (some b) = some (RdE b M A op o n d 1, -2000 - nI o) := by
  have := hB.2.2.1
  unfold fX12_readTree_62
  refine bnd q1222 ?_
  refine bnd q1220 ?_
  refine bnd (q1206 hB) ?_
  refine ifN (nI_ge ho (by omega)) ?_
  unfold fX12_readTree_83
  refine bnd (w1222 (Or.inr rfl)) ?_
  refine bnd w1206 ?_
  refine bnd (e_I (by decide) q1222) ?_
  refine ifN (by decide) ?_
  refine bnd (e_I (by decide) q1220) ?_
  rfl
theorem r_62_ok (hB : MB b K L M) (ho : K ≤ o) (ho2 : o ≤ K) : fX12_readTree_62 (Ym b) (RdM b M A op o n d 0 0) (some b) = fX12_readTree_118 (Ym b) FU (upN (RdE b M A op o n d 0).1 1208 b (nI n), (RdE b M A op o n d 0).2) (some b) 0 := by
  have := hB.2.2.1
  unfold fX12_readTree_62
  refine bnd q1222 ?_
  refine bnd q1220 ?_
  refine bnd (q1206 hB) ?_
  refine ifP (nI_le ho (by omega)) ?_
  unfold fX12_readTree_83
  refine bnd (w1222 (Or.inl rfl)) ?_
  refine bnd (a := RdE b M A op o n d 0) w1206 ?_
  refine bnd (a := (0 : Int32)) (e_I (by decide) q1222) ?_
  refine ifP rfl ?_
  refine bnd (a := nI n) (e_I (by decide) q1221) ?_
  refine bnd mpI ?_
  rfl
/-! the rows are copied -/
theorem CPX_fix (h : FixM b M) : FixM b (CPX b M A j c) := h
theorem cpx_w (hc : c < 11) (hj : j < 24) : pA (Ym b) 14 (some (b + (6 + c))) (nI j) (A c j) (CPX b M A j c) = some (CPX b M A j (c + 1)) := by
  have hl : lnM (6 + c) = 24 := by
    have : ∀ c, c < 11 → lnM (6 + c) = 24 := by decide +kernel
    exact this c hc
  rw [mpA (by omega) (by omega)]
  have e : upN (CPX b M A j c).2.2.1 (b + (6 + c)) j (A c j) = (CPX b M A j (c + 1)).2.2.1 := by
    funext a i
    show (if a = b + (6 + c) ∧ i = j then A c j else if (b + 6 ≤ a ∧ a < b + 17) ∧ (i < j ∨ (i = j ∧ a < b + 6 + c)) then A (a - (b + 6)) i else M.2.2.1 a i) = (if (b + 6 ≤ a ∧ a < b + 17) ∧ (i < j ∨ (i = j ∧ a < b + 6 + (c + 1))) then A (a - (b + 6)) i else M.2.2.1 a i)
    by_cases h : a = b + (6 + c) ∧ i = j
    · rw [if_pos h, if_pos (by omega), h.1, h.2, show b + (6 + c) - (b + 6) = c by omega]
    · rw [if_neg h]
      by_cases h2 : (b + 6 ≤ a ∧ a < b + 17) ∧ (i < j ∨ (i = j ∧ a < b + 6 + c))
      · rw [if_pos h2, if_pos (by omega)]
      · rw [if_neg h2, if_neg (by omega)]
  rw [e]
  rfl
theorem cpx_g (hA : M.2.2.1 (b + (17 + c)) j = A c j) (hc : c < 11) (hj : j < 24) {c1 : Nat} : gA (Ym b) 14 (some (b + (17 + c))) (nI j) (CPX b M A j c1) = some (A c j) := by
  have hl := lnM_n c hc
  rw [mA (by omega) (by omega)]
  have e : (CPX b M A j c1).2.2.1 (b + (17 + c)) j = M.2.2.1 (b + (17 + c)) j := if_neg (by omega)
  rw [e, hA]
theorem cpx_next : CPX b M A j 11 = CPX b M A (j + 1) 0 := by
  have e : (CPX b M A j 11).2.2.1 = (CPX b M A (j + 1) 0).2.2.1 := by
    funext a i
    show (if (b + 6 ≤ a ∧ a < b + 17) ∧ (i < j ∨ (i = j ∧ a < b + 6 + 11)) then A (a - (b + 6)) i else M.2.2.1 a i) = (if (b + 6 ≤ a ∧ a < b + 17) ∧ (i < j + 1 ∨ (i = j + 1 ∧ a < b + 6 + 0)) then A (a - (b + 6)) i else M.2.2.1 a i)
    by_cases h : (b + 6 ≤ a ∧ a < b + 17) ∧ (i < j ∨ (i = j ∧ a < b + 6 + 11))
    · rw [if_pos h, if_pos (by omega)]
    · rw [if_neg h, if_neg (by omega)]
  show (M.1, M.2.1, (CPX b M A j 11).2.2.1, M.2.2.2) = _
  rw [e]
  rfl
theorem cpx_0 : CPX b M A 0 0 = M := by
  have e : (CPX b M A 0 0).2.2.1 = M.2.2.1 := by
    funext a i
    exact if_neg (by omega)
  show (M.1, M.2.1, (CPX b M A 0 0).2.2.1, M.2.2.2) = _
  rw [e]
theorem r_118 (hF : FixM b M) (h1208 : M.1 1208 b = nI n) (hn : n ≤ 24) (hA : ∀ c, c < 11 → ∀ i, M.2.2.1 (b + (17 + c)) i = A c i) : ∀ (d fuel j : Nat), j + d = n → d < fuel → fX12_readTree_118 (Ym b) fuel (CPX b M A j 0) (some b) (nI j) = fX12_readTree_266 (Ym b) FU (CPX b M A n 0) (some b) 0
  | _, 0, _, _, h => absurd h (Nat.not_lt_zero _)
  | 0, fuel + 1, j, hj, _ => by
    have : j = n := by omega
    subst this
    rw [fX12_readTree_118]
    refine bnd (a := nI j) (by rw [mIo]; exact congrArg some h1208) ?_
    exact if_pos (nI_le (Nat.le_refl _) (by omega))
  | d + 1, fuel + 1, j, hj, hf => by
    have ih := r_118 hF h1208 hn hA d fuel (j + 1) (by omega) (by omega)
    rw [← cpx_next] at ih
    rw [fX12_readTree_118]
    refine bnd (a := nI n) (by rw [mIo]; exact congrArg some h1208) ?_
    refine ifN (nI_ge (by omega) (by omega)) ?_
    refine bnd (mR1209 (CPX_fix hF)) (bnd (mR1223 (CPX_fix hF)) (bnd (cpx_g (c := 0) (hA 0 (by omega) j) (by omega) (by omega)) (bnd (cpx_w (c := 0) (by omega) (by omega)) ?_)))
    refine bnd (mR1210 (CPX_fix hF)) (bnd (mR1224 (CPX_fix hF)) (bnd (cpx_g (c := 1) (hA 1 (by omega) j) (by omega) (by omega)) (bnd (cpx_w (c := 1) (by omega) (by omega)) ?_)))
    refine bnd (mR1211 (CPX_fix hF)) (bnd (mR1225 (CPX_fix hF)) (bnd (cpx_g (c := 2) (hA 2 (by omega) j) (by omega) (by omega)) (bnd (cpx_w (c := 2) (by omega) (by omega)) ?_)))
    refine bnd (mR1212 (CPX_fix hF)) (bnd (mR1226 (CPX_fix hF)) (bnd (cpx_g (c := 3) (hA 3 (by omega) j) (by omega) (by omega)) (bnd (cpx_w (c := 3) (by omega) (by omega)) ?_)))
    refine bnd (mR1213 (CPX_fix hF)) (bnd (mR1227 (CPX_fix hF)) (bnd (cpx_g (c := 4) (hA 4 (by omega) j) (by omega) (by omega)) (bnd (cpx_w (c := 4) (by omega) (by omega)) ?_)))
    refine bnd (mR1214 (CPX_fix hF)) (bnd (mR1228 (CPX_fix hF)) (bnd (cpx_g (c := 5) (hA 5 (by omega) j) (by omega) (by omega)) (bnd (cpx_w (c := 5) (by omega) (by omega)) ?_)))
    refine bnd (mR1215 (CPX_fix hF)) (bnd (mR1229 (CPX_fix hF)) (bnd (cpx_g (c := 6) (hA 6 (by omega) j) (by omega) (by omega)) (bnd (cpx_w (c := 6) (by omega) (by omega)) ?_)))
    refine bnd (mR1216 (CPX_fix hF)) (bnd (mR1230 (CPX_fix hF)) (bnd (cpx_g (c := 7) (hA 7 (by omega) j) (by omega) (by omega)) (bnd (cpx_w (c := 7) (by omega) (by omega)) ?_)))
    refine bnd (mR1217 (CPX_fix hF)) (bnd (mR1231 (CPX_fix hF)) (bnd (cpx_g (c := 8) (hA 8 (by omega) j) (by omega) (by omega)) (bnd (cpx_w (c := 8) (by omega) (by omega)) ?_)))
    refine bnd (mR1218 (CPX_fix hF)) (bnd (mR1232 (CPX_fix hF)) (bnd (cpx_g (c := 9) (hA 9 (by omega) j) (by omega) (by omega)) (bnd (cpx_w (c := 9) (by omega) (by omega)) ?_)))
    refine bnd (mR1219 (CPX_fix hF)) (bnd (mR1233 (CPX_fix hF)) (bnd (cpx_g (c := 10) (hA 10 (by omega) j) (by omega) (by omega)) (bnd (cpx_w (c := 10) (by omega) (by omega)) ?_)))
    rw [nI_1]
    exact ih
theorem VX_next (hj : ¬ (264 ≤ j ∧ j < 272)) : upd (VX v j) j 0 = VX v (j + 1) := by
  funext k
  unfold upd VX
  by_cases hk : k = j
  · subst hk
    rw [if_pos rfl, if_pos ⟨by omega, hj⟩]
  · rw [if_neg hk]
    by_cases h : k < j ∧ ¬ (264 ≤ k ∧ k < 272)
    · rw [if_pos h, if_pos (by omega)]
    · rw [if_neg h, if_neg (by omega)]
theorem VX_keep (hj : 264 ≤ j ∧ j < 272) : upd (VX v j) j (VX v j j) = VX v (j + 1) := by
  funext k
  unfold upd VX
  by_cases hk : k = j
  · subst hk
    rw [if_pos rfl, if_neg (by omega), if_neg (by omega)]
  · rw [if_neg hk]
    by_cases h : k < j ∧ ¬ (264 ≤ k ∧ k < 272)
    · rw [if_pos h, if_pos (by omega)]
    · rw [if_neg h, if_neg (by omega)]
theorem r_266 (hF : FixM b M) (h1208 : M.1 1208 b = nI n) : ∀ (d fuel j : Nat), j + d = 355 → d < fuel → fX12_readTree_266 (Ym b) fuel (SV b M (VX v j)) (some b) (nI j) = some (SV b (upN M.1 1203 b 0, M.2) (upd (VX v 355) 284 (-1)), nI n)
  | _, 0, _, _, h => absurd h (Nat.not_lt_zero _)
  | 0, fuel + 1, j, hj, _ => by
    have : j = 355 := by omega
    subst this
    rw [fX12_readTree_266]
    refine ifP (by decide) ?_
    refine bnd (mR1200 (SV_fix hF)) ?_
    refine bnd (SV_pA (j := 284) (by omega)) ?_
    refine bnd (mpZ (Or.inl rfl)) ?_
    refine bnd (a := nI n) ?_ rfl
    rw [mIo]
    exact congrArg some h1208
  | d + 1, fuel + 1, j, hj, hf => by
    have ih := r_266 hF h1208 d fuel (j + 1) (by omega) (by omega)
    rw [fX12_readTree_266]
    refine ifN (show ¬ (355 : Int32) ≤ nI j from nI_ge (b := 355) (by omega) (by decide)) ?_
    refine bnd (mR1200 (SV_fix hF)) ?_
    by_cases h1 : j < 264
    · refine ifP (show nI j < 264 from nI_lt (b := 264) h1 (by decide)) ?_
      refine bnd (SV_pA (by omega)) ?_
      rw [VX_next (by omega), nI_1]
      exact ih
    · refine ifN (show ¬ nI j < 264 from nI_nlt (b := 264) (by omega) (by omega)) ?_
      by_cases h2 : 272 ≤ j
      · refine ifP (show (272 : Int32) ≤ nI j from nI_le (a := 272) h2 (by omega)) ?_
        refine bnd (SV_pA (by omega)) ?_
        rw [VX_next (by omega), nI_1]
        exact ih
      · refine ifN (show ¬ (272 : Int32) ≤ nI j from nI_ge (b := 272) (by omega) (by decide)) ?_
        refine bnd (mR1200 (SV_fix hF)) ?_
        refine bnd (SV_gA (by omega)) ?_
        refine bnd (SV_pA (by omega)) ?_
        rw [VX_keep (by omega), nI_1]
        exact ih
theorem VX_0 : VX v 0 = v := by
  funext k
  exact if_neg (fun q => absurd q.1 (Nat.not_lt_zero _))
theorem RdE_fix (h : FixM b M) : FixM b (RdE b M A op o n d fl) := h
theorem RdE_A (hc : c < 11) : (RdE b M A op o n d fl).2.2.1 (b + (17 + c)) = A c := RdM_A (M := M) (A := A) (op := op) (o := o) (n := n) (d := d) (fl := fl) (mo := 0) hc
theorem RdE_lo (hk : k < 17) : (RdE b M A op o n d fl).2.2.1 (b + k) = M.2.2.1 (b + k) := RdM_lo (M := M) (A := A) (op := op) (o := o) (n := n) (d := d) (fl := fl) (mo := 0) hk
theorem RdE_1206 : (RdE b M A op o n d fl).1 1206 b = 0 := upN_self
theorem RdE_I {f : Nat} (h : f ≠ 1206 ∧ f ≠ 1220 ∧ f ≠ 1221 ∧ f ≠ 1222 ∧ f ≠ 1235 ∧ f ≠ 1236) : (RdE b M A op o n d fl).1 f b = M.1 f b := by
  refine (upN_ne (Or.inl h.1)).trans ?_
  show (if b = b then (if f = 1220 then _ else if f = 1221 then _ else if f = 1222 then _ else if f = 1235 then _ else if f = 1236 then _ else M.1 f b) else _) = _
  rw [if_pos rfl, if_neg h.2.1, if_neg h.2.2.1, if_neg h.2.2.2.1, if_neg h.2.2.2.2.1, if_neg h.2.2.2.2.2]
/-- the whole end, when the text is a tree -/
def M9 (b : Nat) (M : HS) (A : Nat → Nat → Int32) (op : Nat → Int32) (o n : Nat) : HS := (upN (upN (RdE b M A op o n 0 0).1 1208 b (nI n)) 1203 b 0, (CPX b (upN (RdE b M A op o n 0 0).1 1208 b (nI n), (RdE b M A op o n 0 0).2) A n 0).2)
theorem r_end_all (hB : MB b K L M) (ho : K ≤ o) (ho2 : o ≤ K) (hn : n ≤ 24) (hv : M.2.2.1 (b + 1) = v) : fX12_readTree_62 (Ym b) (RdM b M A op o n 0 0 0) (some b) = some (SV b (M9 b M A op o n) (upd (VX v 355) 284 (-1)), nI n) := by
  rw [r_62_ok hB ho ho2]
  have h8 : (upN (RdE b M A op o n 0 0).1 1208 b (nI n)) 1208 b = nI n := upN_self
  have h118 := r_118 (M := (upN (RdE b M A op o n 0 0).1 1208 b (nI n), (RdE b M A op o n 0 0).2)) (A := A) (b := b) (n := n) hB.1 h8 hn (fun c hc i => congrFun (RdE_A (M := M) (A := A) (op := op) (o := o) (n := n) (d := 0) (fl := 0) hc) i) n FU 0 (by omega) (by unfold FU; omega)
  rw [cpx_0] at h118
  refine h118.trans ?_
  have hrow : (CPX b (upN (RdE b M A op o n 0 0).1 1208 b (nI n), (RdE b M A op o n 0 0).2) A n 0).2.2.1 (b + 1) = v := by
    funext i
    refine (if_neg (by omega)).trans ?_
    exact congrFun ((RdE_lo (M := M) (A := A) (op := op) (o := o) (n := n) (d := 0) (fl := 0) (k := 1) (by omega)).trans hv) i
  have h266 := r_266 (M := CPX b (upN (RdE b M A op o n 0 0).1 1208 b (nI n), (RdE b M A op o n 0 0).2) A n 0) (v := v) (b := b) (n := n) hB.1 h8 355 FU 0 rfl (by decide)
  rw [VX_0, SV_self hrow] at h266
  exact h266
/-- the beginning -/
theorem RdM_init : fX12_readTree (Ym b) M (some b) = fX12_readTree_25 (Ym b) FU (RdM b M (fun c => M.2.2.1 (b + 17 + c)) (M.2.2.1 (b + 28)) 0 0 0 0 1) (some b) := by
  have e : (upN (upN (upN (upN (upN M.1 1220 b 0) 1221 b 0) 1235 b 0) 1222 b 0) 1236 b 1, M.2) = RdM b M (fun c => M.2.2.1 (b + 17 + c)) (M.2.2.1 (b + 28)) 0 0 0 0 1 := by
    have e1 : upN (upN (upN (upN (upN M.1 1220 b 0) 1221 b 0) 1235 b 0) 1222 b 0) 1236 b 1 = (RdM b M (fun c => M.2.2.1 (b + 17 + c)) (M.2.2.1 (b + 28)) 0 0 0 0 1).1 := by
      funext f a
      unfold upN RdM
      by_cases ha : a = b
      · by_cases h1 : f = 1220
        · subst h1; simp [ha]; rfl
        · by_cases h2 : f = 1221
          · subst h2; simp [ha]; rfl
          · by_cases h3 : f = 1222
            · subst h3; simp [ha]
            · by_cases h4 : f = 1235
              · subst h4; simp [ha]; rfl
              · by_cases h5 : f = 1236
                · subst h5; simp [ha]
                · simp [ha, h1, h2, h3, h4, h5]
      · simp [ha]
    have e3 : M.2.2.1 = (RdM b M (fun c => M.2.2.1 (b + 17 + c)) (M.2.2.1 (b + 28)) 0 0 0 0 1).2.2.1 := by
      funext a
      show _ = (if b + 17 ≤ a ∧ a < b + 28 then M.2.2.1 (b + 17 + (a - (b + 17))) else if a = b + 28 then M.2.2.1 (b + 28) else M.2.2.1 a)
      by_cases h1 : b + 17 ≤ a ∧ a < b + 28
      · rw [if_pos h1, show b + 17 + (a - (b + 17)) = a by omega]
      · rw [if_neg h1]
        by_cases h2 : a = b + 28
        · rw [if_pos h2, h2]
        · rw [if_neg h2]
    exact Prod.ext e1 (Prod.ext rfl (Prod.ext e3 rfl))
  unfold fX12_readTree
  refine bnd mpI (bnd mpI (bnd mpI (bnd (mpZ (Or.inl rfl)) (bnd (mpZ (Or.inr rfl)) ?_))))
  rw [← e]
end REND
