/-! readTree: the reference's small methods, over an explicit heap -/
def RdM (b : Nat) (M : HS) (A : Nat → Nat → Int32) (op : Nat → Int32) (o n d : Nat) (fl mo : Int32) : HS :=
  ((fun f a => if a = b then (if f = 1220 then nI o else if f = 1221 then nI n else if f = 1222 then fl else if f = 1235 then nI d else if f = 1236 then mo else M.1 f a) else M.1 f a), M.2.1, (fun a => if b + 17 ≤ a ∧ a < b + 28 then A (a - (b + 17)) else if a = b + 28 then op else M.2.2.1 a), M.2.2.2)
/-- the text that both read -/
def MB (b K : Nat) (L : Nat → Nat) (M : HS) : Prop := FixM b M ∧ M.1 1206 b = nI K ∧ K ≤ 70 ∧ ∀ j, j < K → L j ≤ 127 ∧ M.2.2.1 (b + 4) j = nI (L j)
def hr (L : Nat → Nat) (K o : Nat) : Int32 := if o < K then nI (L o) else -1
def dgt (L : Nat → Nat) (K lo hi o : Nat) : Option Nat := if o < K ∧ 48 + lo ≤ L o ∧ L o ≤ 48 + hi then some (L o - 48) else none
def sgE (e c : Nat) : Nat := if e = 0 then (if c = 60 then 1 else if c = 61 then 2 else if c = 62 then 3 else 0) else (if c = 58 then 4 else if c = 43 then 5 else if c = 45 then 6 else 0)
def sgO (L : Nat → Nat) (K e o : Nat) : Nat := if o < K then sgE e (L o) else 0
/-- a clause that is read: where it ends, its key, sign and number -/
def CL (L : Nat → Nat) (K e o o1 key s w : Nat) : Prop := dgt L K 0 7 o = some key ∧ s = sgO L K e (o + 1) ∧ s ≠ 0 ∧ ∃ d1, dgt L K 0 9 (o + 2) = some d1 ∧ ((dgt L K 0 9 (o + 3) = none ∧ w = d1 ∧ o1 = o + 3) ∨ ∃ d2, dgt L K 0 9 (o + 3) = some d2 ∧ w = 10 * d1 + d2 ∧ o1 = o + 4)
/-- one that isn't: where it breaks off -/
def CLF (L : Nat → Nat) (K e o o1 : Nat) : Prop := (dgt L K 0 7 o = none ∧ o1 = o) ∨ (∃ key, dgt L K 0 7 o = some key ∧ sgO L K e (o + 1) = 0 ∧ o1 = o + 1) ∨ (∃ key, dgt L K 0 7 o = some key ∧ sgO L K e (o + 1) ≠ 0 ∧ dgt L K 0 9 (o + 2) = none ∧ o1 = o + 2)
/-- row n of a table -/
def RW (A : Nat → Nat → Int32) (n : Nat) (ρ : Nat → Int32) : Nat → Nat → Int32 := fun c i => if i = n then ρ c else A c i
def STRR (ρ : Nat → Int32) : Prop := (∃ k, k ≤ 7 ∧ ρ 5 = nI k) ∧ (∃ k, k ≤ 99 ∧ ρ 7 = nI k) ∧ (∃ k, k ≤ 7 ∧ ρ 8 = nI k) ∧ (∃ k, k ≤ 99 ∧ ρ 10 = nI k)
section RRD
variable {b n i j k c d e o o1 K key s w m x : Nat} {L : Nat → Nat} {M : HS} {A : Nat → Nat → Int32} {op ρ : Nat → Int32} {fl mo v : Int32}
theorem cl_tot (L : Nat → Nat) (K e o : Nat) : (∃ o1 key s w, CL L K e o o1 key s w) ∨ ∃ o1, CLF L K e o o1 := by
  cases h1 : dgt L K 0 7 o with
  | none => exact Or.inr ⟨o, Or.inl ⟨h1, rfl⟩⟩
  | some key =>
    by_cases h2 : sgO L K e (o + 1) = 0
    · exact Or.inr ⟨_, Or.inr (Or.inl ⟨key, h1, h2, rfl⟩)⟩
    · cases h3 : dgt L K 0 9 (o + 2) with
      | none => exact Or.inr ⟨_, Or.inr (Or.inr ⟨key, h1, h2, h3, rfl⟩)⟩
      | some d1 =>
        cases h4 : dgt L K 0 9 (o + 3) with
        | none => exact Or.inl ⟨_, key, _, d1, h1, rfl, h2, d1, h3, Or.inl ⟨h4, rfl, rfl⟩⟩
        | some d2 => exact Or.inl ⟨_, key, _, _, h1, rfl, h2, d1, h3, Or.inr ⟨d2, h4, rfl, rfl⟩⟩
theorem dgt_in {lo hi : Nat} (h : dgt L K lo hi o = some x) : o < K ∧ lo ≤ x ∧ x ≤ hi ∧ L o = 48 + x := by
  unfold dgt at h
  split at h
  · rename_i q
    cases h
    omega
  · cases h
theorem sgE_le (e c : Nat) : sgE e c ≤ 6 ∧ (e = 0 → sgE e c ≤ 3) ∧ (e ≠ 0 → sgE e c = 0 ∨ 4 ≤ sgE e c) := by
  unfold sgE
  by_cases h : e = 0
  · rw [if_pos h]
    refine ⟨?_, fun _ => ?_, fun q => absurd h q⟩ <;> (split; omega; split; omega; split <;> omega)
  · rw [if_neg h]
    refine ⟨?_, fun q => absurd q h, fun _ => ?_⟩ <;> (split; omega; split; omega; split <;> omega)
theorem cl_in (h : CL L K e o o1 key s w) : o1 ≤ K ∧ key ≤ 7 ∧ 1 ≤ s ∧ s ≤ 6 ∧ w ≤ 99 ∧ (e = 0 → s ≤ 3) ∧ (e ≠ 0 → 4 ≤ s) ∧ o + 2 + (numL w).length ≤ o1 := by
  obtain ⟨h1, h2, h3, d1, h4, h5⟩ := h
  have g1 := dgt_in h1
  have g4 := dgt_in h4
  have hs := sgE_le e (L (o + 1))
  have hs2 : s = sgE e (L (o + 1)) := by
    rw [h2]
    unfold sgO
    rw [if_pos (by omega)]
  have hw : w ≤ 99 ∧ o1 ≤ K ∧ o + 2 + (numL w).length ≤ o1 := by
    unfold numL
    rcases h5 with ⟨h6, rfl, rfl⟩ | ⟨d2, h6, rfl, rfl⟩
    · rw [if_pos (by omega)]
      exact ⟨by omega, by omega, Nat.le_refl _⟩
    · have g6 := dgt_in h6
      refine ⟨by omega, by omega, ?_⟩
      split
      · show o + 2 + 1 ≤ o + 4
        omega
      · exact Nat.le_refl _
  clear h5
  refine ⟨hw.2.1, by omega, by omega, by omega, hw.1, fun q => by have := hs.2.1 q; omega, fun q => by have := hs.2.2 q; omega, hw.2.2⟩
theorem clf_in (ho : o ≤ K) (h : CLF L K e o o1) : o1 ≤ K := by
  rcases h with ⟨-, rfl⟩ | ⟨key, h1, -, rfl⟩ | ⟨key, h1, h2, -, rfl⟩
  · exact ho
  · have := dgt_in h1; omega
  · have := dgt_in h1
    unfold sgO at h2
    split at h2
    · omega
    · exact absurd rfl h2
/-! reads and writes -/
theorem RdM_fix (h : FixM b M) : FixM b (RdM b M A op o n d fl mo) := h
theorem q1220 : gI (Ym b) 12 1220 (some b) (RdM b M A op o n d fl mo) = some (nI o) := by rw [mIo]; exact congrArg some (if_pos rfl)
theorem q1221 : gI (Ym b) 12 1221 (some b) (RdM b M A op o n d fl mo) = some (nI n) := by rw [mIo]; exact congrArg some (if_pos rfl)
theorem q1222 : gI (Ym b) 12 1222 (some b) (RdM b M A op o n d fl mo) = some fl := by rw [mIo]; exact congrArg some (if_pos rfl)
theorem q1235 : gI (Ym b) 12 1235 (some b) (RdM b M A op o n d fl mo) = some (nI d) := by rw [mIo]; exact congrArg some (if_pos rfl)
theorem q1236 : gI (Ym b) 12 1236 (some b) (RdM b M A op o n d fl mo) = some mo := by rw [mIo]; exact congrArg some (if_pos rfl)
theorem q1206 (h : MB b K L M) : gI (Ym b) 12 1206 (some b) (RdM b M A op o n d fl mo) = some (nI K) := by rw [mIo]; exact congrArg some ((if_pos rfl).trans h.2.1)
theorem w1220 {x : Int32} (hx : x = nI m) : pI (Ym b) 12 1220 (some b) x (RdM b M A op o n d fl mo) = some (RdM b M A op m n d fl mo) := by
  subst hx
  rw [mpI]
  have e : upN (RdM b M A op o n d fl mo).1 1220 b (nI m) = (RdM b M A op m n d fl mo).1 := by
    funext f a
    unfold upN RdM
    by_cases ha : a = b <;> by_cases hf : f = 1220 <;> simp [ha, hf]
  rw [e]
  rfl
theorem w1221 {x : Int32} (hx : x = nI m) : pI (Ym b) 12 1221 (some b) x (RdM b M A op o n d fl mo) = some (RdM b M A op o m d fl mo) := by
  subst hx
  rw [mpI]
  have e : upN (RdM b M A op o n d fl mo).1 1221 b (nI m) = (RdM b M A op o m d fl mo).1 := by
    funext f a
    unfold upN RdM
    by_cases ha : a = b <;> by_cases hf : f = 1221 <;> simp [ha, hf]
  rw [e]
  rfl
theorem w1222 (hv : v = 0 ∨ v = 1) : pZ (Ym b) 12 1222 (some b) v (RdM b M A op o n d fl mo) = some (RdM b M A op o n d v mo) := by
  rw [mpZ hv]
  have e : upN (RdM b M A op o n d fl mo).1 1222 b v = (RdM b M A op o n d v mo).1 := by
    funext f a
    unfold upN RdM
    by_cases ha : a = b <;> by_cases hf : f = 1222 <;> simp [ha, hf]
  rw [e]
  rfl
theorem w1235 {x : Int32} (hx : x = nI m) : pI (Ym b) 12 1235 (some b) x (RdM b M A op o n d fl mo) = some (RdM b M A op o n m fl mo) := by
  subst hx
  rw [mpI]
  have e : upN (RdM b M A op o n d fl mo).1 1235 b (nI m) = (RdM b M A op o n m fl mo).1 := by
    funext f a
    unfold upN RdM
    by_cases ha : a = b <;> by_cases hf : f = 1235 <;> simp [ha, hf]
  rw [e]
  rfl
theorem w1236 (hv : v = 0 ∨ v = 1) : pZ (Ym b) 12 1236 (some b) v (RdM b M A op o n d fl mo) = some (RdM b M A op o n d fl v) := by
  rw [mpZ hv]
  have e : upN (RdM b M A op o n d fl mo).1 1236 b v = (RdM b M A op o n d fl v).1 := by
    funext f a
    unfold upN RdM
    by_cases ha : a = b <;> by_cases hf : f = 1236 <;> simp [ha, hf]
  rw [e]
  rfl
theorem lnM_n : ∀ c, c < 11 → lnM (17 + c) = 24 := by decide +kernel
theorem RdM_A (hc : c < 11) : (RdM b M A op o n d fl mo).2.2.1 (b + (17 + c)) = A c := by
  show (if b + 17 ≤ b + (17 + c) ∧ b + (17 + c) < b + 28 then A (b + (17 + c) - (b + 17)) else _) = _
  rw [if_pos (by omega), show b + (17 + c) - (b + 17) = c by omega]
theorem RdM_op : (RdM b M A op o n d fl mo).2.2.1 (b + 28) = op := by
  show (if b + 17 ≤ b + 28 ∧ b + 28 < b + 28 then _ else if b + 28 = b + 28 then op else _) = _
  rw [if_neg (by omega), if_pos rfl]
theorem RdM_lo (hk : k < 17) : (RdM b M A op o n d fl mo).2.2.1 (b + k) = M.2.2.1 (b + k) := by
  show (if b + 17 ≤ b + k ∧ b + k < b + 28 then _ else if b + k = b + 28 then op else _) = _
  rw [if_neg (by omega), if_neg (by omega)]
theorem qA (hc : c < 11) (hi : i < 24) : gA (Ym b) 14 (some (b + (17 + c))) (nI i) (RdM b M A op o n d fl mo) = some (A c i) := by
  have hl := lnM_n c hc
  rw [mA (by omega) (by omega), RdM_A hc]
theorem wA (hc : c < 11) (hi : i < 24) : pA (Ym b) 14 (some (b + (17 + c))) (nI i) v (RdM b M A op o n d fl mo) = some (RdM b M (upN A c i v) op o n d fl mo) := by
  have hl := lnM_n c hc
  rw [mpA (by omega) (by omega)]
  have e : upN (RdM b M A op o n d fl mo).2.2.1 (b + (17 + c)) i v = (RdM b M (upN A c i v) op o n d fl mo).2.2.1 := by
    funext a j
    by_cases ha : a = b + (17 + c)
    · subst ha
      rw [RdM_A hc]
      unfold upN
      rw [RdM_A hc]
      by_cases hj : j = i
      · rw [if_pos ⟨rfl, hj⟩, if_pos ⟨rfl, hj⟩]
      · rw [if_neg (fun q => hj q.2), if_neg (fun q => hj q.2)]
    · unfold upN
      rw [if_neg (fun q => ha q.1)]
      show (if b + 17 ≤ a ∧ a < b + 28 then A (a - (b + 17)) else if a = b + 28 then op else M.2.2.1 a) j = (if b + 17 ≤ a ∧ a < b + 28 then (fun b1 => if a - (b + 17) = c ∧ b1 = i then v else A (a - (b + 17)) b1) else if a = b + 28 then op else M.2.2.1 a) j
      by_cases h1 : b + 17 ≤ a ∧ a < b + 28
      · rw [if_pos h1, if_pos h1, if_neg (c := a - (b + 17) = c ∧ j = i) (fun q => ha (by omega))]
      · rw [if_neg h1, if_neg h1]
  rw [e]
  rfl
theorem qO (hj : j < 11) : gA (Ym b) 14 (some (b + 28)) (nI j) (RdM b M A op o n d fl mo) = some (op j) := by
  rw [mA (k := 28) (by omega) (by exact hj), RdM_op]
theorem wO (hj : j < 11) : pA (Ym b) 14 (some (b + 28)) (nI j) v (RdM b M A op o n d fl mo) = some (RdM b M A (upd op j v) o n d fl mo) := by
  rw [mpA (k := 28) (by omega) (by exact hj)]
  have e : upN (RdM b M A op o n d fl mo).2.2.1 (b + 28) j v = (RdM b M A (upd op j v) o n d fl mo).2.2.1 := by
    funext a i
    by_cases ha : a = b + 28
    · subst ha
      rw [RdM_op]
      unfold upN
      rw [RdM_op]
      unfold upd
      by_cases hj : i = j
      · rw [if_pos ⟨rfl, hj⟩, if_pos hj]
      · rw [if_neg (fun q => hj q.2), if_neg hj]
    · unfold upN
      rw [if_neg (fun q => ha q.1)]
      show (if b + 17 ≤ a ∧ a < b + 28 then A (a - (b + 17)) else if a = b + 28 then op else M.2.2.1 a) i = (if b + 17 ≤ a ∧ a < b + 28 then A (a - (b + 17)) else if a = b + 28 then upd op j v else M.2.2.1 a) i
      rw [if_neg ha, if_neg ha]
  rw [e]
  rfl
theorem RW_self : RW A n (fun c => A c n) = A := by
  funext c i
  unfold RW
  split
  · rename_i h; rw [h]
  · rfl
theorem RW_up : upN (RW A n ρ) c n v = RW A n (upd ρ c v) := by
  funext c1 i
  unfold upN RW upd
  by_cases h : i = n <;> by_cases h1 : c1 = c <;> simp [h, h1]
/-- a write to row n -/
theorem wRow (hc : c < 11) (hn : n < 24) : pA (Ym b) 14 (some (b + (17 + c))) (nI n) v (RdM b M (RW A n ρ) op o m d fl mo) = some (RdM b M (RW A n (upd ρ c v)) op o m d fl mo) := by
  rw [wA hc hn, RW_up]
theorem r_here (h : MB b K L M) (ho : o ≤ K) : fX12_here (Ym b) (RdM b M A op o n d fl mo) (some b) = some (hr L K o) := by
  obtain ⟨hF, hK, hK70, hT⟩ := id h
  unfold fX12_here hr
  refine bnd q1220 ?_
  refine bnd (q1206 h) ?_
  by_cases hlt : o < K
  · rw [if_pos hlt]
    refine ifN (nI_ge hlt (by omega)) ?_
    refine bnd (mR1204 (RdM_fix hF)) ?_
    refine bnd q1220 ?_
    refine bnd (mA (k := 4) (by omega) (show o < 70 by omega)) ?_
    rw [RdM_lo (by omega)]
    exact congrArg some (hT o hlt).2
  · rw [if_neg hlt]
    exact if_pos (nI_le (by omega) (by omega))
theorem hr_rng (h : MB b K L M) (o : Nat) : ∃ c, (c ≤ 127 ∧ o < K ∧ L o = c ∧ hr L K o = nI c) ∨ (¬ o < K ∧ hr L K o = -1) := by
  unfold hr
  by_cases hlt : o < K
  · exact ⟨L o, Or.inl ⟨(h.2.2.2 o hlt).1, hlt, rfl, if_pos hlt⟩⟩
  · exact ⟨0, Or.inr ⟨hlt, if_neg hlt⟩⟩
theorem dg_tab : ∀ c, c < 128 → ∀ lo, lo < 10 → ∀ hi, hi < 10 → (if nI c - 48 < nI lo then (0 : Int32) else if nI hi < nI c - 48 then 0 else 1) = (if 48 + lo ≤ c ∧ c ≤ 48 + hi then 1 else 0) := by decide +kernel
theorem dg_neg : ∀ lo, lo < 10 → ((-1 : Int32) - 48 < nI lo) := by decide +kernel
theorem dg_val : ∀ c, c < 128 → 48 ≤ c → nI c - 48 = nI (c - 48) := by decide +kernel
theorem r_in (h : MB b K L M) {Y : LY} {S : HS} {lo hi : Nat} (hlo : lo < 10) (hhi : hi < 10) : fX12_isIn Y S (hr L K o - 48) (nI lo) (nI hi) = some (if (dgt L K lo hi o).isSome then 1 else 0) := by
  unfold fX12_isIn dgt
  obtain ⟨c, ⟨h1, h2, h3, h4⟩ | ⟨h2, h4⟩⟩ := hr_rng h o
  · rw [h4, h3]
    have := dg_tab c (by omega) lo hlo hi hhi
    by_cases q : 48 + lo ≤ c ∧ c ≤ 48 + hi
    · rw [if_pos q] at this
      rw [if_pos (c := o < K ∧ 48 + lo ≤ c ∧ c ≤ 48 + hi) ⟨h2, q⟩]
      by_cases a1 : nI c - 48 < nI lo
      · rw [if_pos a1] at this; exact absurd this (by decide)
      · rw [if_neg a1] at this ⊢
        by_cases a2 : nI hi < nI c - 48
        · rw [if_pos a2] at this; exact absurd this (by decide)
        · rw [if_neg a2]; rfl
    · rw [if_neg q] at this
      rw [if_neg (c := o < K ∧ 48 + lo ≤ c ∧ c ≤ 48 + hi) (fun z => q z.2)]
      by_cases a1 : nI c - 48 < nI lo
      · rw [if_pos a1]; rfl
      · rw [if_neg a1] at this ⊢
        by_cases a2 : nI hi < nI c - 48
        · rw [if_pos a2]; rfl
        · rw [if_neg a2] at this; exact absurd this (by decide)
  · rw [h4, if_pos (dg_neg lo hlo), if_neg (c := o < K ∧ 48 + lo ≤ L o ∧ L o ≤ 48 + hi) (fun z => h2 z.1)]
    rfl
theorem r_dig (h : MB b K L M) (ho : o ≤ K) {lo hi : Nat} (hlo : lo < 10) (hhi : hi < 10) : (∀ x, dgt L K lo hi o = some x → fX12_digit (Ym b) (RdM b M A op o n d 0 mo) (some b) (nI lo) (nI hi) = some (RdM b M A op (o + 1) n d 0 mo, nI x)) ∧ (dgt L K lo hi o = none → fX12_digit (Ym b) (RdM b M A op o n d 0 mo) (some b) (nI lo) (nI hi) = some (RdM b M A op o n d 1 mo, 0)) := by
  refine ⟨fun x hx => ?_, fun hx => ?_⟩
  · have hi' := r_in (o := o) h (Y := Ym b) (S := RdM b M A op o n d 0 mo) hlo hhi
    rw [hx] at hi'
    have g := dgt_in hx
    have hv : hr L K o - 48 = nI x := by
      unfold hr
      rw [if_pos g.1, dg_val _ (by have := (h.2.2.2 o g.1).1; omega) (by omega), g.2.2.2, Nat.add_sub_cancel_left]
    unfold fX12_digit
    refine bnd mrcv ?_
    refine bnd (r_here h ho) ?_
    refine bnd q1222 ?_
    refine bnd (a := (1 : Int32)) hi' ?_
    refine ifN (by decide) ?_
    unfold fX12_digit_27
    refine bnd (w1222 (Or.inl rfl)) ?_
    refine bnd q1220 ?_
    refine bnd q1222 ?_
    refine ifP rfl ?_
    refine bnd (w1220 (nI_1 o)) ?_
    refine bnd q1222 ?_
    rw [hv]
    exact if_pos rfl
  · have hi' := r_in (o := o) h (Y := Ym b) (S := RdM b M A op o n d 0 mo) hlo hhi
    rw [hx] at hi'
    unfold fX12_digit
    refine bnd mrcv ?_
    refine bnd (r_here h ho) ?_
    refine bnd q1222 ?_
    refine bnd (a := (0 : Int32)) hi' ?_
    refine ifP rfl ?_
    unfold fX12_digit_27
    refine bnd (w1222 (Or.inr rfl)) ?_
    refine bnd q1220 ?_
    refine bnd q1222 ?_
    refine ifN (by decide) ?_
    refine bnd (w1220 (Int32.add_zero _)) ?_
    refine bnd q1222 ?_
    exact if_neg (by decide)
theorem r_sg75 {o1 : Nat} (hs : s ≤ 6) : fX12_sign_75 (Ym b) (RdM b M A op o n d 0 mo) (some b) (nI s) = some (if s = 0 then RdM b M A op o n d 1 mo else RdM b M A op (o + 1) n d 0 mo, nI s) := by
  unfold fX12_sign_75
  refine bnd q1222 ?_
  by_cases h0 : s = 0
  · subst h0
    rw [if_pos rfl]
    refine ifP rfl ?_
    unfold fX12_sign_90
    refine bnd (w1222 (Or.inr rfl)) ?_
    refine bnd q1220 ?_
    refine bnd q1222 ?_
    refine ifN (by decide) ?_
    refine bnd (w1220 (Int32.add_zero _)) ?_
    rfl
  · rw [if_neg h0]
    refine ifN (nI_ne0 (by omega) (by omega)) ?_
    unfold fX12_sign_90
    refine bnd (w1222 (Or.inl rfl)) ?_
    refine bnd q1220 ?_
    refine bnd q1222 ?_
    refine ifP rfl ?_
    refine bnd (w1220 (nI_1 o)) ?_
    rfl
theorem r_sign (h : MB b K L M) (ho : o ≤ K) (he : e = 0 ∨ e = 1) : fX12_sign (Ym b) (RdM b M A op o n d 0 mo) (some b) (nI e) = some (if sgO L K e o = 0 then RdM b M A op o n d 1 mo else RdM b M A op (o + 1) n d 0 mo, nI (sgO L K e o)) := by
  unfold fX12_sign
  refine bnd mrcv ?_
  refine bnd (r_here h ho) ?_
  have tb : ∀ c, c < 128 → ∀ k : Nat, k = 60 ∨ k = 61 ∨ k = 62 ∨ k = 58 ∨ k = 43 ∨ k = 45 → ((nI c = nI k) ↔ c = k) := fun c hc k hk => nI_eq (by omega) (by omega)
  obtain ⟨c, ⟨h1, h2, h3, h4⟩ | ⟨h2, h4⟩⟩ := hr_rng h o
  · rw [h4]
    unfold sgO
    rw [if_pos h2, h3]
    unfold sgE
    rcases he with rfl | rfl
    · refine ifP rfl ?_
      rw [if_pos rfl]
      by_cases c1 : c = 60
      · refine ifP (by rw [c1]; rfl) ?_
        rw [if_pos c1]
        exact r_sg75 (o1 := 0) (s := 1) (by omega)
      · refine ifN (fun q => c1 ((tb c (by omega) 60 (by omega)).mp q)) ?_
        rw [if_neg c1]
        by_cases c2 : c = 61
        · refine ifP (by rw [c2]; rfl) ?_
          rw [if_pos c2]
          exact r_sg75 (o1 := 0) (s := 2) (by omega)
        · refine ifN (fun q => c2 ((tb c (by omega) 61 (by omega)).mp q)) ?_
          rw [if_neg c2]
          by_cases c3 : c = 62
          · refine ifP (by rw [c3]; rfl) ?_
            rw [if_pos c3]
            exact r_sg75 (o1 := 0) (s := 3) (by omega)
          · refine ifN (fun q => c3 ((tb c (by omega) 62 (by omega)).mp q)) ?_
            rw [if_neg c3]
            exact r_sg75 (o1 := 0) (s := 0) (by omega)
    · refine ifN (by decide) ?_
      rw [if_neg (c := (1 : Nat) = 0) (by decide)]
      by_cases c1 : c = 58
      · refine ifP (by rw [c1]; rfl) ?_
        rw [if_pos c1]
        exact r_sg75 (o1 := 0) (s := 4) (by omega)
      · refine ifN (fun q => c1 ((tb c (by omega) 58 (by omega)).mp q)) ?_
        rw [if_neg c1]
        by_cases c2 : c = 43
        · refine ifP (by rw [c2]; rfl) ?_
          rw [if_pos c2]
          exact r_sg75 (o1 := 0) (s := 5) (by omega)
        · refine ifN (fun q => c2 ((tb c (by omega) 43 (by omega)).mp q)) ?_
          rw [if_neg c2]
          by_cases c3 : c = 45
          · refine ifP (by rw [c3]; rfl) ?_
            rw [if_pos c3]
            exact r_sg75 (o1 := 0) (s := 6) (by omega)
          · refine ifN (fun q => c3 ((tb c (by omega) 45 (by omega)).mp q)) ?_
            rw [if_neg c3]
            exact r_sg75 (o1 := 0) (s := 0) (by omega)
  · rw [h4]
    unfold sgO
    rw [if_neg h2]
    rcases he with rfl | rfl
    · refine ifP rfl ?_
      refine ifN (by decide) ?_
      refine ifN (by decide) ?_
      refine ifN (by decide) ?_
      exact r_sg75 (o1 := 0) (s := 0) (by omega)
    · refine ifN (by decide) ?_
      refine ifN (by decide) ?_
      refine ifN (by decide) ?_
      refine ifN (by decide) ?_
      exact r_sg75 (o1 := 0) (s := 0) (by omega)
theorem r_worth (h : MB b K L M) (ho : o ≤ K) : (∀ d1, dgt L K 0 9 o = some d1 → (dgt L K 0 9 (o + 1) = none → fX12_worth (Ym b) (RdM b M A op o n d 0 mo) (some b) = some (RdM b M A op (o + 1) n d 0 mo, nI d1)) ∧ ∀ d2, dgt L K 0 9 (o + 1) = some d2 → fX12_worth (Ym b) (RdM b M A op o n d 0 mo) (some b) = some (RdM b M A op (o + 2) n d 0 mo, nI (10 * d1 + d2))) ∧ (dgt L K 0 9 o = none → fX12_worth (Ym b) (RdM b M A op o n d 0 mo) (some b) = some (RdM b M A op o n d 1 mo, 0)) := by
  have isd : ∀ S, o + 1 ≤ K → fX12_isIn (Ym b) S (hr L K (o + 1)) 48 57 = some (if (dgt L K 0 9 (o + 1)).isSome then 1 else 0) := by
    intro S hK
    have tb : ∀ c, c < 128 → (if nI c < 48 then (0 : Int32) else if 57 < nI c then 0 else 1) = (if 48 ≤ c ∧ c ≤ 57 then 1 else 0) := by decide +kernel
    unfold fX12_isIn dgt
    obtain ⟨c, ⟨h1, h2, h3, h4⟩ | ⟨h2, h4⟩⟩ := hr_rng h (o + 1)
    · rw [h4, h3]
      have := tb c (by omega)
      by_cases q : 48 ≤ c ∧ c ≤ 57
      · rw [if_pos q] at this
        rw [if_pos (c := o + 1 < K ∧ 48 + 0 ≤ c ∧ c ≤ 48 + 9) ⟨h2, by omega, by omega⟩]
        by_cases a1 : nI c < 48
        · rw [if_pos a1] at this; exact absurd this (by decide)
        · rw [if_neg a1] at this ⊢
          by_cases a2 : 57 < nI c
          · rw [if_pos a2] at this; exact absurd this (by decide)
          · rw [if_neg a2]; rfl
      · rw [if_neg q] at this
        rw [if_neg (c := o + 1 < K ∧ 48 + 0 ≤ c ∧ c ≤ 48 + 9) (fun z => q ⟨by omega, by omega⟩)]
        by_cases a1 : nI c < 48
        · rw [if_pos a1]; rfl
        · rw [if_neg a1] at this ⊢
          by_cases a2 : 57 < nI c
          · rw [if_pos a2]; rfl
          · rw [if_neg a2] at this; exact absurd this (by decide)
    · rw [h4, if_pos (show (-1 : Int32) < 48 by decide), if_neg (c := o + 1 < K ∧ 48 + 0 ≤ L (o + 1) ∧ L (o + 1) ≤ 48 + 9) (fun z => h2 z.1)]
      rfl
  refine ⟨fun d1 h1 => ?_, fun h1 => ?_⟩
  · have g := dgt_in h1
    refine ⟨fun h2 => ?_, fun d2 h2 => ?_⟩
    · have e := isd (RdM b M A op (o + 1) n d 0 mo) (by omega)
      rw [h2] at e
      unfold fX12_worth
      refine bnd mrcv ?_
      refine bnd ((r_dig h ho (lo := 0) (hi := 9) (by omega) (by omega)).1 d1 h1) ?_
      refine bnd q1222 ?_
      refine ifP rfl ?_
      refine bnd mrcv ?_
      refine bnd (r_here h (by omega)) ?_
      refine bnd (a := (0 : Int32)) e ?_
      exact if_pos rfl
    · have e := isd (RdM b M A op (o + 1) n d 0 mo) (by omega)
      rw [h2] at e
      unfold fX12_worth
      refine bnd mrcv ?_
      refine bnd ((r_dig h ho (lo := 0) (hi := 9) (by omega) (by omega)).1 d1 h1) ?_
      refine bnd q1222 ?_
      refine ifP rfl ?_
      refine bnd mrcv ?_
      refine bnd (r_here h (by omega)) ?_
      refine bnd (a := (1 : Int32)) e ?_
      refine ifN (by decide) ?_
      refine bnd mrcv ?_
      refine bnd ((r_dig h (o := o + 1) (by omega) (lo := 0) (hi := 9) (by omega) (by omega)).1 d2 h2) ?_
      show some (RdM b M A op (o + 1 + 1) n d 0 mo, 10 * nI d1 + nI d2) = _
      rw [show (10 : Int32) = nI 10 from rfl, pk_mul, nI_add]
  · unfold fX12_worth
    refine bnd mrcv ?_
    refine bnd ((r_dig h ho (lo := 0) (hi := 9) (by omega) (by omega)).2 h1) ?_
    refine bnd q1222 ?_
    exact if_neg (by decide)
end RRD
