/-! the layouts of the two pools (printed by gen_lay.py): the class' from address z, the reference's from address b -/
def kdC (o : Nat) : Nat := if o < 75 then [11, 7, 13, 7, 13, 9, 0, 14, 2, 14, 14, 6, 15, 0, 14, 2, 14, 14, 3, 3, 3, 3, 3, 3, 3, 3, 3, 3, 3, 3, 3, 3, 3, 3, 3, 3, 3, 3, 3, 3, 3, 3, 6, 15, 0, 14, 2, 14, 14, 3, 3, 3, 3, 3, 3, 3, 3, 3, 3, 3, 3, 3, 3, 3, 3, 3, 3, 3, 3, 3, 3, 3, 3, 8, 16].getD o 0 else if o < 171 then [4, 1, 1, 3].getD ((o - 75) % 4) 0 else if o < 173 then [8, 16].getD (o - 171) 0 else [4, 1, 1, 3].getD ((o - 173) % 4) 0
def lnC (o : Nat) : Nat := if o < 75 then [0, 0, 70, 0, 70, 0, 0, 8, 0, 30, 30, 0, 24, 0, 8, 0, 30, 30, 0, 0, 0, 0, 0, 0, 0, 0, 0, 0, 0, 0, 0, 0, 0, 0, 0, 0, 0, 0, 0, 0, 0, 0, 0, 24, 0, 8, 0, 30, 30, 0, 0, 0, 0, 0, 0, 0, 0, 0, 0, 0, 0, 0, 0, 0, 0, 0, 0, 0, 0, 0, 0, 0, 0, 0, 24].getD o 0 else if o = 172 then 24 else 0
def Yc (z : Nat) : LY := (List.range' z 269, fun q => kdC (q - z), fun q => lnC (q - z))
def lnM (o : Nat) : Nat := [0, 355, 355, 355, 70, 200, 24, 24, 24, 24, 24, 24, 24, 24, 24, 24, 24, 24, 24, 24, 24, 24, 24, 24, 24, 24, 24, 24, 11].getD o 0
def Ym (b : Nat) : LY := (List.range' b 29, fun q => if q = b then 12 else 14, fun q => lnM (q - b))
theorem Yc_chk {z o c : Nat} (h : o < 269) (hk : kdC o = c) : chk (Yc z) c (z + o) = true := by
  unfold chk Yc
  simp only [Bool.and_eq_true, decide_eq_true_eq, beq_iff_eq, List.mem_range'_1]
  exact ⟨by omega, by rw [Nat.add_sub_cancel_left]; exact hk⟩
theorem Yc_len {z o : Nat} : (Yc z).2.2 (z + o) = lnC o := by
  show lnC (z + o - z) = _
  rw [Nat.add_sub_cancel_left]
theorem Ym_chk0 {b : Nat} : chk (Ym b) 12 b = true := by
  unfold chk Ym
  simp only [Bool.and_eq_true, decide_eq_true_eq, beq_iff_eq, List.mem_range'_1]
  exact ⟨by omega, by simp⟩
theorem Ym_chk {b k : Nat} (h : 1 ≤ k ∧ k ≤ 28) : chk (Ym b) 14 (b + k) = true := by
  unfold chk Ym
  simp only [Bool.and_eq_true, decide_eq_true_eq, beq_iff_eq, List.mem_range'_1]
  exact ⟨by omega, by rw [if_neg (by omega)]⟩
theorem Ym_len {b k : Nat} : (Ym b).2.2 (b + k) = lnM k := by
  show lnM (b + k - b) = _
  rw [Nat.add_sub_cancel_left]
theorem inr_nI {j n : Nat} (h : j < n) (hn : n < 2 ^ 31) : inr (nI j) n = true := by
  unfold inr
  rw [nI_clamp (by omega)]
  simp only [Bool.and_eq_true, Bool.not_eq_true', decide_eq_false_iff_not, decide_eq_true_eq]
  exact ⟨nI_pos (by omega), h⟩
section PRIM
variable {z b c f o k j : Nat} {S : HS} {v : Int32} {w : Option Nat}
/-! on the class' pool -/
theorem cI (h : o < 269) (hk : kdC o = c) : gI (Yc z) c f (some (z + o)) S = some (S.1 f (z + o)) := by
  show (if chk (Yc z) c (z + o) = true then some (S.1 f (z + o)) else none) = _
  rw [if_pos (Yc_chk h hk)]
theorem cR (h : o < 269) (hk : kdC o = c) : gR (Yc z) c f (some (z + o)) S = some (S.2.1 f (z + o)) := by
  show (if chk (Yc z) c (z + o) = true then some (S.2.1 f (z + o)) else none) = _
  rw [if_pos (Yc_chk h hk)]
theorem cpI (h : o < 269) (hk : kdC o = c) : pI (Yc z) c f (some (z + o)) v S = some (upN S.1 f (z + o) v, S.2) := by
  show (if chk (Yc z) c (z + o) = true then _ else none) = _
  rw [if_pos (Yc_chk h hk)]
theorem cpR (h : o < 269) (hk : kdC o = c) : pR (Yc z) c f (some (z + o)) w S = some (S.1, upN S.2.1 f (z + o) w, S.2.2) := by
  show (if chk (Yc z) c (z + o) = true then _ else none) = _
  rw [if_pos (Yc_chk h hk)]
theorem cpZ (h : o < 269) (hk : kdC o = c) (hv : v = 0 ∨ v = 1) : pZ (Yc z) c f (some (z + o)) v S = some (upN S.1 f (z + o) v, S.2) := by
  unfold pZ
  rw [if_pos hv, cpI h hk]
theorem crcv (h : o < 269) (hk : kdC o = c) : rcv (Yc z) c (some (z + o)) = some () := by
  show (if chk (Yc z) c (z + o) = true then _ else none) = _
  rw [if_pos (Yc_chk h hk)]
theorem cA (h : o < 269) (hk : kdC o = k) (hj : j < lnC o) : gA (Yc z) k (some (z + o)) (nI j) S = some (S.2.2.1 (z + o) j) := by
  have hl : lnC o < 2 ^ 31 := by
    unfold lnC
    split
    · rename_i h75
      have : ∀ o, o < 75 → [0, 0, 70, 0, 70, 0, 0, 8, 0, 30, 30, 0, 24, 0, 8, 0, 30, 30, 0, 0, 0, 0, 0, 0, 0, 0, 0, 0, 0, 0, 0, 0, 0, 0, 0, 0, 0, 0, 0, 0, 0, 0, 0, 24, 0, 8, 0, 30, 30, 0, 0, 0, 0, 0, 0, 0, 0, 0, 0, 0, 0, 0, 0, 0, 0, 0, 0, 0, 0, 0, 0, 0, 0, 0, 24].getD o 0 < 2 ^ 31 := by decide +kernel
      exact this o h75
    · split <;> decide
  show (if (chk (Yc z) k (z + o) && inr (nI j) ((Yc z).2.2 (z + o))) = true then some (S.2.2.1 (z + o) (nI j).toNatClampNeg) else none) = _
  rw [Yc_len, Yc_chk h hk, inr_nI hj hl, nI_clamp (by omega)]
  rfl
theorem cQ (h : o < 269) (hk : kdC o = k) (hj : j < lnC o) : gQ (Yc z) k (some (z + o)) (nI j) S = some (S.2.2.2 (z + o) j) := by
  have hl : lnC o < 2 ^ 31 := by
    unfold lnC
    split
    · rename_i h75
      have : ∀ o, o < 75 → [0, 0, 70, 0, 70, 0, 0, 8, 0, 30, 30, 0, 24, 0, 8, 0, 30, 30, 0, 0, 0, 0, 0, 0, 0, 0, 0, 0, 0, 0, 0, 0, 0, 0, 0, 0, 0, 0, 0, 0, 0, 0, 0, 24, 0, 8, 0, 30, 30, 0, 0, 0, 0, 0, 0, 0, 0, 0, 0, 0, 0, 0, 0, 0, 0, 0, 0, 0, 0, 0, 0, 0, 0, 0, 24].getD o 0 < 2 ^ 31 := by decide +kernel
      exact this o h75
    · split <;> decide
  show (if (chk (Yc z) k (z + o) && inr (nI j) ((Yc z).2.2 (z + o))) = true then some (S.2.2.2 (z + o) (nI j).toNatClampNeg) else none) = _
  rw [Yc_len, Yc_chk h hk, inr_nI hj hl, nI_clamp (by omega)]
  rfl
theorem cwA (h : o < 269) (hk : kdC o = k) (hj : j < lnC o) : pA (Yc z) k (some (z + o)) (nI j) v S = some (S.1, S.2.1, upN S.2.2.1 (z + o) j v, S.2.2.2) := by
  have hl : lnC o < 2 ^ 31 := by
    unfold lnC
    split
    · rename_i h75
      have : ∀ o, o < 75 → [0, 0, 70, 0, 70, 0, 0, 8, 0, 30, 30, 0, 24, 0, 8, 0, 30, 30, 0, 0, 0, 0, 0, 0, 0, 0, 0, 0, 0, 0, 0, 0, 0, 0, 0, 0, 0, 0, 0, 0, 0, 0, 0, 24, 0, 8, 0, 30, 30, 0, 0, 0, 0, 0, 0, 0, 0, 0, 0, 0, 0, 0, 0, 0, 0, 0, 0, 0, 0, 0, 0, 0, 0, 0, 24].getD o 0 < 2 ^ 31 := by decide +kernel
      exact this o h75
    · split <;> decide
  show (if (chk (Yc z) k (z + o) && inr (nI j) ((Yc z).2.2 (z + o))) = true then some (S.1, S.2.1, upN S.2.2.1 (z + o) (nI j).toNatClampNeg v, S.2.2.2) else none) = _
  rw [Yc_len, Yc_chk h hk, inr_nI hj hl, nI_clamp (by omega)]
  rfl
theorem caL (h : o < 269) (hk : kdC o = k) : aL (Yc z) k (some (z + o)) = some (nI (lnC o)) := by
  show (if chk (Yc z) k (z + o) = true then some (Int32.ofNat ((Yc z).2.2 (z + o))) else none) = _
  rw [if_pos (Yc_chk h hk), Yc_len]
  rfl
/-! on the reference's pool -/
theorem mIo : gI (Ym b) 12 f (some b) S = some (S.1 f b) := by
  show (if chk (Ym b) 12 b = true then some (S.1 f b) else none) = _
  rw [if_pos Ym_chk0]
theorem mRo : gR (Ym b) 12 f (some b) S = some (S.2.1 f b) := by
  show (if chk (Ym b) 12 b = true then some (S.2.1 f b) else none) = _
  rw [if_pos Ym_chk0]
theorem mpI : pI (Ym b) 12 f (some b) v S = some (upN S.1 f b v, S.2) := by
  show (if chk (Ym b) 12 b = true then _ else none) = _
  rw [if_pos Ym_chk0]
theorem mpZ (hv : v = 0 ∨ v = 1) : pZ (Ym b) 12 f (some b) v S = some (upN S.1 f b v, S.2) := by
  unfold pZ
  rw [if_pos hv, mpI]
theorem mrcv : rcv (Ym b) 12 (some b) = some () := by
  show (if chk (Ym b) 12 b = true then _ else none) = _
  rw [if_pos Ym_chk0]
theorem lnM_lt {k : Nat} : lnM k < 2 ^ 31 := by
  by_cases h : k < 29
  · have : ∀ k, k < 29 → lnM k < 2 ^ 31 := by decide +kernel
    exact this k h
  · unfold lnM
    rw [List.getD_eq_getElem?_getD, List.getElem?_eq_none (by show 29 ≤ k; omega)]
    decide
theorem mA (h : 1 ≤ k ∧ k ≤ 28) (hj : j < lnM k) : gA (Ym b) 14 (some (b + k)) (nI j) S = some (S.2.2.1 (b + k) j) := by
  have hl : lnM k < 2 ^ 31 := lnM_lt
  show (if (chk (Ym b) 14 (b + k) && inr (nI j) ((Ym b).2.2 (b + k))) = true then some (S.2.2.1 (b + k) (nI j).toNatClampNeg) else none) = _
  rw [Ym_len, Ym_chk h, inr_nI hj hl, nI_clamp (by omega)]
  rfl
theorem mpA (h : 1 ≤ k ∧ k ≤ 28) (hj : j < lnM k) : pA (Ym b) 14 (some (b + k)) (nI j) v S = some (S.1, S.2.1, upN S.2.2.1 (b + k) j v, S.2.2.2) := by
  have hl : lnM k < 2 ^ 31 := lnM_lt
  show (if (chk (Ym b) 14 (b + k) && inr (nI j) ((Ym b).2.2 (b + k))) = true then some (S.1, S.2.1, upN S.2.2.1 (b + k) (nI j).toNatClampNeg v, S.2.2.2) else none) = _
  rw [Ym_len, Ym_chk h, inr_nI hj hl, nI_clamp (by omega)]
  rfl
end PRIM
def FixM (b : Nat) (S : HS) : Prop := S.2.1 1200 b = some (b + 1) ∧ S.2.1 1201 b = some (b + 2) ∧ S.2.1 1202 b = some (b + 3) ∧ S.2.1 1204 b = some (b + 4) ∧ S.2.1 1205 b = some (b + 5) ∧ S.2.1 1209 b = some (b + 6) ∧ S.2.1 1210 b = some (b + 7) ∧ S.2.1 1211 b = some (b + 8) ∧ S.2.1 1212 b = some (b + 9) ∧ S.2.1 1213 b = some (b + 10) ∧ S.2.1 1214 b = some (b + 11) ∧ S.2.1 1215 b = some (b + 12) ∧ S.2.1 1216 b = some (b + 13) ∧ S.2.1 1217 b = some (b + 14) ∧ S.2.1 1218 b = some (b + 15) ∧ S.2.1 1219 b = some (b + 16) ∧ S.2.1 1223 b = some (b + 17) ∧ S.2.1 1224 b = some (b + 18) ∧ S.2.1 1225 b = some (b + 19) ∧ S.2.1 1226 b = some (b + 20) ∧ S.2.1 1227 b = some (b + 21) ∧ S.2.1 1228 b = some (b + 22) ∧ S.2.1 1229 b = some (b + 23) ∧ S.2.1 1230 b = some (b + 24) ∧ S.2.1 1231 b = some (b + 25) ∧ S.2.1 1232 b = some (b + 26) ∧ S.2.1 1233 b = some (b + 27) ∧ S.2.1 1234 b = some (b + 28)
theorem mR1200 {b : Nat} {S : HS} (h : FixM b S) : gR (Ym b) 12 1200 (some b) S = some (some (b + 1)) := by rw [mRo, h.1]
theorem mR1201 {b : Nat} {S : HS} (h : FixM b S) : gR (Ym b) 12 1201 (some b) S = some (some (b + 2)) := by rw [mRo, h.2.1]
theorem mR1202 {b : Nat} {S : HS} (h : FixM b S) : gR (Ym b) 12 1202 (some b) S = some (some (b + 3)) := by rw [mRo, h.2.2.1]
theorem mR1204 {b : Nat} {S : HS} (h : FixM b S) : gR (Ym b) 12 1204 (some b) S = some (some (b + 4)) := by rw [mRo, h.2.2.2.1]
theorem mR1205 {b : Nat} {S : HS} (h : FixM b S) : gR (Ym b) 12 1205 (some b) S = some (some (b + 5)) := by rw [mRo, h.2.2.2.2.1]
theorem mR1209 {b : Nat} {S : HS} (h : FixM b S) : gR (Ym b) 12 1209 (some b) S = some (some (b + 6)) := by rw [mRo, h.2.2.2.2.2.1]
theorem mR1210 {b : Nat} {S : HS} (h : FixM b S) : gR (Ym b) 12 1210 (some b) S = some (some (b + 7)) := by rw [mRo, h.2.2.2.2.2.2.1]
theorem mR1211 {b : Nat} {S : HS} (h : FixM b S) : gR (Ym b) 12 1211 (some b) S = some (some (b + 8)) := by rw [mRo, h.2.2.2.2.2.2.2.1]
theorem mR1212 {b : Nat} {S : HS} (h : FixM b S) : gR (Ym b) 12 1212 (some b) S = some (some (b + 9)) := by rw [mRo, h.2.2.2.2.2.2.2.2.1]
theorem mR1213 {b : Nat} {S : HS} (h : FixM b S) : gR (Ym b) 12 1213 (some b) S = some (some (b + 10)) := by rw [mRo, h.2.2.2.2.2.2.2.2.2.1]
theorem mR1214 {b : Nat} {S : HS} (h : FixM b S) : gR (Ym b) 12 1214 (some b) S = some (some (b + 11)) := by rw [mRo, h.2.2.2.2.2.2.2.2.2.2.1]
theorem mR1215 {b : Nat} {S : HS} (h : FixM b S) : gR (Ym b) 12 1215 (some b) S = some (some (b + 12)) := by rw [mRo, h.2.2.2.2.2.2.2.2.2.2.2.1]
theorem mR1216 {b : Nat} {S : HS} (h : FixM b S) : gR (Ym b) 12 1216 (some b) S = some (some (b + 13)) := by rw [mRo, h.2.2.2.2.2.2.2.2.2.2.2.2.1]
theorem mR1217 {b : Nat} {S : HS} (h : FixM b S) : gR (Ym b) 12 1217 (some b) S = some (some (b + 14)) := by rw [mRo, h.2.2.2.2.2.2.2.2.2.2.2.2.2.1]
theorem mR1218 {b : Nat} {S : HS} (h : FixM b S) : gR (Ym b) 12 1218 (some b) S = some (some (b + 15)) := by rw [mRo, h.2.2.2.2.2.2.2.2.2.2.2.2.2.2.1]
theorem mR1219 {b : Nat} {S : HS} (h : FixM b S) : gR (Ym b) 12 1219 (some b) S = some (some (b + 16)) := by rw [mRo, h.2.2.2.2.2.2.2.2.2.2.2.2.2.2.2.1]
theorem mR1223 {b : Nat} {S : HS} (h : FixM b S) : gR (Ym b) 12 1223 (some b) S = some (some (b + 17)) := by rw [mRo, h.2.2.2.2.2.2.2.2.2.2.2.2.2.2.2.2.1]
theorem mR1224 {b : Nat} {S : HS} (h : FixM b S) : gR (Ym b) 12 1224 (some b) S = some (some (b + 18)) := by rw [mRo, h.2.2.2.2.2.2.2.2.2.2.2.2.2.2.2.2.2.1]
theorem mR1225 {b : Nat} {S : HS} (h : FixM b S) : gR (Ym b) 12 1225 (some b) S = some (some (b + 19)) := by rw [mRo, h.2.2.2.2.2.2.2.2.2.2.2.2.2.2.2.2.2.2.1]
theorem mR1226 {b : Nat} {S : HS} (h : FixM b S) : gR (Ym b) 12 1226 (some b) S = some (some (b + 20)) := by rw [mRo, h.2.2.2.2.2.2.2.2.2.2.2.2.2.2.2.2.2.2.2.1]
theorem mR1227 {b : Nat} {S : HS} (h : FixM b S) : gR (Ym b) 12 1227 (some b) S = some (some (b + 21)) := by rw [mRo, h.2.2.2.2.2.2.2.2.2.2.2.2.2.2.2.2.2.2.2.2.1]
theorem mR1228 {b : Nat} {S : HS} (h : FixM b S) : gR (Ym b) 12 1228 (some b) S = some (some (b + 22)) := by rw [mRo, h.2.2.2.2.2.2.2.2.2.2.2.2.2.2.2.2.2.2.2.2.2.1]
theorem mR1229 {b : Nat} {S : HS} (h : FixM b S) : gR (Ym b) 12 1229 (some b) S = some (some (b + 23)) := by rw [mRo, h.2.2.2.2.2.2.2.2.2.2.2.2.2.2.2.2.2.2.2.2.2.2.1]
theorem mR1230 {b : Nat} {S : HS} (h : FixM b S) : gR (Ym b) 12 1230 (some b) S = some (some (b + 24)) := by rw [mRo, h.2.2.2.2.2.2.2.2.2.2.2.2.2.2.2.2.2.2.2.2.2.2.2.1]
theorem mR1231 {b : Nat} {S : HS} (h : FixM b S) : gR (Ym b) 12 1231 (some b) S = some (some (b + 25)) := by rw [mRo, h.2.2.2.2.2.2.2.2.2.2.2.2.2.2.2.2.2.2.2.2.2.2.2.2.1]
theorem mR1232 {b : Nat} {S : HS} (h : FixM b S) : gR (Ym b) 12 1232 (some b) S = some (some (b + 26)) := by rw [mRo, h.2.2.2.2.2.2.2.2.2.2.2.2.2.2.2.2.2.2.2.2.2.2.2.2.2.1]
theorem mR1233 {b : Nat} {S : HS} (h : FixM b S) : gR (Ym b) 12 1233 (some b) S = some (some (b + 27)) := by rw [mRo, h.2.2.2.2.2.2.2.2.2.2.2.2.2.2.2.2.2.2.2.2.2.2.2.2.2.2.1]
theorem mR1234 {b : Nat} {S : HS} (h : FixM b S) : gR (Ym b) 12 1234 (some b) S = some (some (b + 28)) := by rw [mRo, h.2.2.2.2.2.2.2.2.2.2.2.2.2.2.2.2.2.2.2.2.2.2.2.2.2.2.2]
def nda (z T i : Nat) : Nat := z + (T + 2 + 4 * i)
def cla (z T i : Nat) : Nat := z + (T + 3 + 4 * i)
def ena (z T i : Nat) : Nat := z + (T + 4 + 4 * i)
def lfa (z T i : Nat) : Nat := z + (T + 5 + 4 * i)
def isT (T : Nat) : Prop := T = 73 ∨ T = 171
/-- what stays in the class' pool: the references between its fixed parts -/
def FixC (z : Nat) (S : HS) : Prop := S.2.1 1100 (z + 0) = some (z + 1) ∧ S.2.1 1101 (z + 0) = some (z + 3) ∧ S.2.1 1102 (z + 0) = some (z + 5) ∧ S.2.1 1103 (z + 0) = some (z + 6) ∧ S.2.1 1104 (z + 0) = some (z + 8) ∧ S.2.1 1105 (z + 0) = some (z + 11) ∧ S.2.1 1106 (z + 0) = some (z + 42) ∧ S.2.1 700 (z + 1) = some (z + 2) ∧ S.2.1 700 (z + 3) = some (z + 4) ∧ S.2.1 900 (z + 5) = some (z + 6) ∧ S.2.1 901 (z + 5) = some (z + 8) ∧ S.2.1 0 (z + 6) = some (z + 7) ∧ S.2.1 0 (z + 13) = some (z + 14) ∧ S.2.1 0 (z + 44) = some (z + 45) ∧ S.2.1 209 (z + 8) = some (z + 9) ∧ S.2.1 210 (z + 8) = some (z + 10) ∧ S.2.1 209 (z + 15) = some (z + 16) ∧ S.2.1 210 (z + 15) = some (z + 17) ∧ S.2.1 209 (z + 46) = some (z + 47) ∧ S.2.1 210 (z + 46) = some (z + 48) ∧ S.2.1 600 (z + 11) = some (z + 12) ∧ S.2.1 601 (z + 11) = some (z + 13) ∧ S.2.1 602 (z + 11) = some (z + 15) ∧ S.2.1 600 (z + 42) = some (z + 43) ∧ S.2.1 601 (z + 42) = some (z + 44) ∧ S.2.1 602 (z + 42) = some (z + 46) ∧ (∀ i, i < 24 → S.2.2.2 (z + 12) i = some (z + (18 + i)) ∧ S.2.2.2 (z + 43) i = some (z + (49 + i))) ∧
  ∀ T, isT T → S.2.1 800 (z + T) = some (z + (T + 1)) ∧ ∀ i, i < 24 → S.2.2.2 (z + (T + 1)) i = some (nda z T i) ∧ S.2.1 401 (nda z T i) = some (cla z T i) ∧ S.2.1 402 (nda z T i) = some (ena z T i) ∧ S.2.1 403 (nda z T i) = some (lfa z T i) ∧ S.1 400 (nda z T i) = nI i
theorem cR1100_0 {z : Nat} {S : HS} (h : FixC z S) : gR (Yc z) 11 1100 (some z) S = some (some (z + 1)) := (cR (z := z) (o := 0) (c := 11) (f := 1100) (S := S) (by decide) rfl).trans (congrArg some (h.1))
theorem cR1101_0 {z : Nat} {S : HS} (h : FixC z S) : gR (Yc z) 11 1101 (some z) S = some (some (z + 3)) := (cR (z := z) (o := 0) (c := 11) (f := 1101) (S := S) (by decide) rfl).trans (congrArg some (h.2.1))
theorem cR1102_0 {z : Nat} {S : HS} (h : FixC z S) : gR (Yc z) 11 1102 (some z) S = some (some (z + 5)) := (cR (z := z) (o := 0) (c := 11) (f := 1102) (S := S) (by decide) rfl).trans (congrArg some (h.2.2.1))
theorem cR1103_0 {z : Nat} {S : HS} (h : FixC z S) : gR (Yc z) 11 1103 (some z) S = some (some (z + 6)) := (cR (z := z) (o := 0) (c := 11) (f := 1103) (S := S) (by decide) rfl).trans (congrArg some (h.2.2.2.1))
theorem cR1104_0 {z : Nat} {S : HS} (h : FixC z S) : gR (Yc z) 11 1104 (some z) S = some (some (z + 8)) := (cR (z := z) (o := 0) (c := 11) (f := 1104) (S := S) (by decide) rfl).trans (congrArg some (h.2.2.2.2.1))
theorem cR1105_0 {z : Nat} {S : HS} (h : FixC z S) : gR (Yc z) 11 1105 (some z) S = some (some (z + 11)) := (cR (z := z) (o := 0) (c := 11) (f := 1105) (S := S) (by decide) rfl).trans (congrArg some (h.2.2.2.2.2.1))
theorem cR1106_0 {z : Nat} {S : HS} (h : FixC z S) : gR (Yc z) 11 1106 (some z) S = some (some (z + 42)) := (cR (z := z) (o := 0) (c := 11) (f := 1106) (S := S) (by decide) rfl).trans (congrArg some (h.2.2.2.2.2.2.1))
theorem cR700_1 {z : Nat} {S : HS} (h : FixC z S) : gR (Yc z) 7 700 (some (z + 1)) S = some (some (z + 2)) := (cR (z := z) (o := 1) (c := 7) (f := 700) (S := S) (by decide) rfl).trans (congrArg some (h.2.2.2.2.2.2.2.1))
theorem cR700_3 {z : Nat} {S : HS} (h : FixC z S) : gR (Yc z) 7 700 (some (z + 3)) S = some (some (z + 4)) := (cR (z := z) (o := 3) (c := 7) (f := 700) (S := S) (by decide) rfl).trans (congrArg some (h.2.2.2.2.2.2.2.2.1))
theorem cR900_5 {z : Nat} {S : HS} (h : FixC z S) : gR (Yc z) 9 900 (some (z + 5)) S = some (some (z + 6)) := (cR (z := z) (o := 5) (c := 9) (f := 900) (S := S) (by decide) rfl).trans (congrArg some (h.2.2.2.2.2.2.2.2.2.1))
theorem cR901_5 {z : Nat} {S : HS} (h : FixC z S) : gR (Yc z) 9 901 (some (z + 5)) S = some (some (z + 8)) := (cR (z := z) (o := 5) (c := 9) (f := 901) (S := S) (by decide) rfl).trans (congrArg some (h.2.2.2.2.2.2.2.2.2.2.1))
theorem cR0_6 {z : Nat} {S : HS} (h : FixC z S) : gR (Yc z) 0 0 (some (z + 6)) S = some (some (z + 7)) := (cR (z := z) (o := 6) (c := 0) (f := 0) (S := S) (by decide) rfl).trans (congrArg some (h.2.2.2.2.2.2.2.2.2.2.2.1))
theorem cR0_13 {z : Nat} {S : HS} (h : FixC z S) : gR (Yc z) 0 0 (some (z + 13)) S = some (some (z + 14)) := (cR (z := z) (o := 13) (c := 0) (f := 0) (S := S) (by decide) rfl).trans (congrArg some (h.2.2.2.2.2.2.2.2.2.2.2.2.1))
theorem cR0_44 {z : Nat} {S : HS} (h : FixC z S) : gR (Yc z) 0 0 (some (z + 44)) S = some (some (z + 45)) := (cR (z := z) (o := 44) (c := 0) (f := 0) (S := S) (by decide) rfl).trans (congrArg some (h.2.2.2.2.2.2.2.2.2.2.2.2.2.1))
theorem cR209_8 {z : Nat} {S : HS} (h : FixC z S) : gR (Yc z) 2 209 (some (z + 8)) S = some (some (z + 9)) := (cR (z := z) (o := 8) (c := 2) (f := 209) (S := S) (by decide) rfl).trans (congrArg some (h.2.2.2.2.2.2.2.2.2.2.2.2.2.2.1))
theorem cR210_8 {z : Nat} {S : HS} (h : FixC z S) : gR (Yc z) 2 210 (some (z + 8)) S = some (some (z + 10)) := (cR (z := z) (o := 8) (c := 2) (f := 210) (S := S) (by decide) rfl).trans (congrArg some (h.2.2.2.2.2.2.2.2.2.2.2.2.2.2.2.1))
theorem cR209_15 {z : Nat} {S : HS} (h : FixC z S) : gR (Yc z) 2 209 (some (z + 15)) S = some (some (z + 16)) := (cR (z := z) (o := 15) (c := 2) (f := 209) (S := S) (by decide) rfl).trans (congrArg some (h.2.2.2.2.2.2.2.2.2.2.2.2.2.2.2.2.1))
theorem cR210_15 {z : Nat} {S : HS} (h : FixC z S) : gR (Yc z) 2 210 (some (z + 15)) S = some (some (z + 17)) := (cR (z := z) (o := 15) (c := 2) (f := 210) (S := S) (by decide) rfl).trans (congrArg some (h.2.2.2.2.2.2.2.2.2.2.2.2.2.2.2.2.2.1))
theorem cR209_46 {z : Nat} {S : HS} (h : FixC z S) : gR (Yc z) 2 209 (some (z + 46)) S = some (some (z + 47)) := (cR (z := z) (o := 46) (c := 2) (f := 209) (S := S) (by decide) rfl).trans (congrArg some (h.2.2.2.2.2.2.2.2.2.2.2.2.2.2.2.2.2.2.1))
theorem cR210_46 {z : Nat} {S : HS} (h : FixC z S) : gR (Yc z) 2 210 (some (z + 46)) S = some (some (z + 48)) := (cR (z := z) (o := 46) (c := 2) (f := 210) (S := S) (by decide) rfl).trans (congrArg some (h.2.2.2.2.2.2.2.2.2.2.2.2.2.2.2.2.2.2.2.1))
theorem cR600_11 {z : Nat} {S : HS} (h : FixC z S) : gR (Yc z) 6 600 (some (z + 11)) S = some (some (z + 12)) := (cR (z := z) (o := 11) (c := 6) (f := 600) (S := S) (by decide) rfl).trans (congrArg some (h.2.2.2.2.2.2.2.2.2.2.2.2.2.2.2.2.2.2.2.2.1))
theorem cR601_11 {z : Nat} {S : HS} (h : FixC z S) : gR (Yc z) 6 601 (some (z + 11)) S = some (some (z + 13)) := (cR (z := z) (o := 11) (c := 6) (f := 601) (S := S) (by decide) rfl).trans (congrArg some (h.2.2.2.2.2.2.2.2.2.2.2.2.2.2.2.2.2.2.2.2.2.1))
theorem cR602_11 {z : Nat} {S : HS} (h : FixC z S) : gR (Yc z) 6 602 (some (z + 11)) S = some (some (z + 15)) := (cR (z := z) (o := 11) (c := 6) (f := 602) (S := S) (by decide) rfl).trans (congrArg some (h.2.2.2.2.2.2.2.2.2.2.2.2.2.2.2.2.2.2.2.2.2.2.1))
theorem cR600_42 {z : Nat} {S : HS} (h : FixC z S) : gR (Yc z) 6 600 (some (z + 42)) S = some (some (z + 43)) := (cR (z := z) (o := 42) (c := 6) (f := 600) (S := S) (by decide) rfl).trans (congrArg some (h.2.2.2.2.2.2.2.2.2.2.2.2.2.2.2.2.2.2.2.2.2.2.2.1))
theorem cR601_42 {z : Nat} {S : HS} (h : FixC z S) : gR (Yc z) 6 601 (some (z + 42)) S = some (some (z + 44)) := (cR (z := z) (o := 42) (c := 6) (f := 601) (S := S) (by decide) rfl).trans (congrArg some (h.2.2.2.2.2.2.2.2.2.2.2.2.2.2.2.2.2.2.2.2.2.2.2.2.1))
theorem cR602_42 {z : Nat} {S : HS} (h : FixC z S) : gR (Yc z) 6 602 (some (z + 42)) S = some (some (z + 46)) := (cR (z := z) (o := 42) (c := 6) (f := 602) (S := S) (by decide) rfl).trans (congrArg some (h.2.2.2.2.2.2.2.2.2.2.2.2.2.2.2.2.2.2.2.2.2.2.2.2.2.1))
theorem kd_nd {T i : Nat} (hT : isT T) (hi : i < 24) : T + 2 + 4 * i < 269 ∧ kdC (T + 2 + 4 * i) = 4 := by
  have : ∀ i, i < 24 → (73 + 2 + 4 * i < 269 ∧ kdC (73 + 2 + 4 * i) = 4) ∧ (171 + 2 + 4 * i < 269 ∧ kdC (171 + 2 + 4 * i) = 4) := by decide +kernel
  rcases hT with rfl | rfl
  · exact (this i hi).1
  · exact (this i hi).2
theorem kd_cl {T i : Nat} (hT : isT T) (hi : i < 24) : T + 3 + 4 * i < 269 ∧ kdC (T + 3 + 4 * i) = 1 := by
  have : ∀ i, i < 24 → (73 + 3 + 4 * i < 269 ∧ kdC (73 + 3 + 4 * i) = 1) ∧ (171 + 3 + 4 * i < 269 ∧ kdC (171 + 3 + 4 * i) = 1) := by decide +kernel
  rcases hT with rfl | rfl
  · exact (this i hi).1
  · exact (this i hi).2
theorem kd_en {T i : Nat} (hT : isT T) (hi : i < 24) : T + 4 + 4 * i < 269 ∧ kdC (T + 4 + 4 * i) = 1 := by
  have : ∀ i, i < 24 → (73 + 4 + 4 * i < 269 ∧ kdC (73 + 4 + 4 * i) = 1) ∧ (171 + 4 + 4 * i < 269 ∧ kdC (171 + 4 + 4 * i) = 1) := by decide +kernel
  rcases hT with rfl | rfl
  · exact (this i hi).1
  · exact (this i hi).2
theorem kd_lf {T i : Nat} (hT : isT T) (hi : i < 24) : T + 5 + 4 * i < 269 ∧ kdC (T + 5 + 4 * i) = 3 := by
  have : ∀ i, i < 24 → (73 + 5 + 4 * i < 269 ∧ kdC (73 + 5 + 4 * i) = 3) ∧ (171 + 5 + 4 * i < 269 ∧ kdC (171 + 5 + 4 * i) = 3) := by decide +kernel
  rcases hT with rfl | rfl
  · exact (this i hi).1
  · exact (this i hi).2
theorem kd_T {T : Nat} (hT : isT T) : T < 269 ∧ kdC T = 8 ∧ T + 1 < 269 ∧ kdC (T + 1) = 16 ∧ lnC (T + 1) = 24 := by
  rcases hT with rfl | rfl <;> decide
section TREE
variable {z T i f : Nat} {S : HS} {v : Int32} {w : Option Nat}
theorem ndI (hT : isT T) (hi : i < 24) : gI (Yc z) 4 f (some (nda z T i)) S = some (S.1 f (nda z T i)) := cI (kd_nd hT hi).1 (kd_nd hT hi).2
theorem ndR (hT : isT T) (hi : i < 24) : gR (Yc z) 4 f (some (nda z T i)) S = some (S.2.1 f (nda z T i)) := cR (kd_nd hT hi).1 (kd_nd hT hi).2
theorem ndpI (hT : isT T) (hi : i < 24) : pI (Yc z) 4 f (some (nda z T i)) v S = some (upN S.1 f (nda z T i) v, S.2) := cpI (kd_nd hT hi).1 (kd_nd hT hi).2
theorem ndpR (hT : isT T) (hi : i < 24) : pR (Yc z) 4 f (some (nda z T i)) w S = some (S.1, upN S.2.1 f (nda z T i) w, S.2.2) := cpR (kd_nd hT hi).1 (kd_nd hT hi).2
theorem ndpZ (hT : isT T) (hi : i < 24) (hv : v = 0 ∨ v = 1) : pZ (Yc z) 4 f (some (nda z T i)) v S = some (upN S.1 f (nda z T i) v, S.2) := cpZ (kd_nd hT hi).1 (kd_nd hT hi).2 hv
theorem ndrcv (hT : isT T) (hi : i < 24) : rcv (Yc z) 4 (some (nda z T i)) = some () := crcv (kd_nd hT hi).1 (kd_nd hT hi).2
theorem clI (hT : isT T) (hi : i < 24) : gI (Yc z) 1 f (some (cla z T i)) S = some (S.1 f (cla z T i)) := cI (kd_cl hT hi).1 (kd_cl hT hi).2
theorem clR (hT : isT T) (hi : i < 24) : gR (Yc z) 1 f (some (cla z T i)) S = some (S.2.1 f (cla z T i)) := cR (kd_cl hT hi).1 (kd_cl hT hi).2
theorem clpI (hT : isT T) (hi : i < 24) : pI (Yc z) 1 f (some (cla z T i)) v S = some (upN S.1 f (cla z T i) v, S.2) := cpI (kd_cl hT hi).1 (kd_cl hT hi).2
theorem clpR (hT : isT T) (hi : i < 24) : pR (Yc z) 1 f (some (cla z T i)) w S = some (S.1, upN S.2.1 f (cla z T i) w, S.2.2) := cpR (kd_cl hT hi).1 (kd_cl hT hi).2
theorem clpZ (hT : isT T) (hi : i < 24) (hv : v = 0 ∨ v = 1) : pZ (Yc z) 1 f (some (cla z T i)) v S = some (upN S.1 f (cla z T i) v, S.2) := cpZ (kd_cl hT hi).1 (kd_cl hT hi).2 hv
theorem clrcv (hT : isT T) (hi : i < 24) : rcv (Yc z) 1 (some (cla z T i)) = some () := crcv (kd_cl hT hi).1 (kd_cl hT hi).2
theorem enI (hT : isT T) (hi : i < 24) : gI (Yc z) 1 f (some (ena z T i)) S = some (S.1 f (ena z T i)) := cI (kd_en hT hi).1 (kd_en hT hi).2
theorem enR (hT : isT T) (hi : i < 24) : gR (Yc z) 1 f (some (ena z T i)) S = some (S.2.1 f (ena z T i)) := cR (kd_en hT hi).1 (kd_en hT hi).2
theorem enpI (hT : isT T) (hi : i < 24) : pI (Yc z) 1 f (some (ena z T i)) v S = some (upN S.1 f (ena z T i) v, S.2) := cpI (kd_en hT hi).1 (kd_en hT hi).2
theorem enpR (hT : isT T) (hi : i < 24) : pR (Yc z) 1 f (some (ena z T i)) w S = some (S.1, upN S.2.1 f (ena z T i) w, S.2.2) := cpR (kd_en hT hi).1 (kd_en hT hi).2
theorem enpZ (hT : isT T) (hi : i < 24) (hv : v = 0 ∨ v = 1) : pZ (Yc z) 1 f (some (ena z T i)) v S = some (upN S.1 f (ena z T i) v, S.2) := cpZ (kd_en hT hi).1 (kd_en hT hi).2 hv
theorem enrcv (hT : isT T) (hi : i < 24) : rcv (Yc z) 1 (some (ena z T i)) = some () := crcv (kd_en hT hi).1 (kd_en hT hi).2
theorem lfI (hT : isT T) (hi : i < 24) : gI (Yc z) 3 f (some (lfa z T i)) S = some (S.1 f (lfa z T i)) := cI (kd_lf hT hi).1 (kd_lf hT hi).2
theorem lfR (hT : isT T) (hi : i < 24) : gR (Yc z) 3 f (some (lfa z T i)) S = some (S.2.1 f (lfa z T i)) := cR (kd_lf hT hi).1 (kd_lf hT hi).2
theorem lfpI (hT : isT T) (hi : i < 24) : pI (Yc z) 3 f (some (lfa z T i)) v S = some (upN S.1 f (lfa z T i) v, S.2) := cpI (kd_lf hT hi).1 (kd_lf hT hi).2
theorem lfpR (hT : isT T) (hi : i < 24) : pR (Yc z) 3 f (some (lfa z T i)) w S = some (S.1, upN S.2.1 f (lfa z T i) w, S.2.2) := cpR (kd_lf hT hi).1 (kd_lf hT hi).2
theorem lfpZ (hT : isT T) (hi : i < 24) (hv : v = 0 ∨ v = 1) : pZ (Yc z) 3 f (some (lfa z T i)) v S = some (upN S.1 f (lfa z T i) v, S.2) := cpZ (kd_lf hT hi).1 (kd_lf hT hi).2 hv
theorem lfrcv (hT : isT T) (hi : i < 24) : rcv (Yc z) 3 (some (lfa z T i)) = some () := crcv (kd_lf hT hi).1 (kd_lf hT hi).2
theorem nd400 (h : FixC z S) (hT : isT T) (hi : i < 24) : gI (Yc z) 4 400 (some (nda z T i)) S = some (nI i) := by rw [ndI hT hi, ((h.2.2.2.2.2.2.2.2.2.2.2.2.2.2.2.2.2.2.2.2.2.2.2.2.2.2.2 T hT).2 i hi).2.2.2.2]
theorem nd401 (h : FixC z S) (hT : isT T) (hi : i < 24) : gR (Yc z) 4 401 (some (nda z T i)) S = some (some (cla z T i)) := by rw [ndR hT hi, ((h.2.2.2.2.2.2.2.2.2.2.2.2.2.2.2.2.2.2.2.2.2.2.2.2.2.2.2 T hT).2 i hi).2.1]
theorem nd402 (h : FixC z S) (hT : isT T) (hi : i < 24) : gR (Yc z) 4 402 (some (nda z T i)) S = some (some (ena z T i)) := by rw [ndR hT hi, ((h.2.2.2.2.2.2.2.2.2.2.2.2.2.2.2.2.2.2.2.2.2.2.2.2.2.2.2 T hT).2 i hi).2.2.1]
theorem nd403 (h : FixC z S) (hT : isT T) (hi : i < 24) : gR (Yc z) 4 403 (some (nda z T i)) S = some (some (lfa z T i)) := by rw [ndR hT hi, ((h.2.2.2.2.2.2.2.2.2.2.2.2.2.2.2.2.2.2.2.2.2.2.2.2.2.2.2 T hT).2 i hi).2.2.2.1]
theorem cR800 (h : FixC z S) (hT : isT T) : gR (Yc z) 8 800 (some (z + T)) S = some (some (z + (T + 1))) := by rw [cR (kd_T hT).1 (kd_T hT).2.1, (h.2.2.2.2.2.2.2.2.2.2.2.2.2.2.2.2.2.2.2.2.2.2.2.2.2.2.2 T hT).1]
theorem cQnode (h : FixC z S) (hT : isT T) (hi : i < 24) : gQ (Yc z) 16 (some (z + (T + 1))) (nI i) S = some (some (nda z T i)) := by rw [cQ (kd_T hT).2.2.1 (kd_T hT).2.2.2.1 (by rw [(kd_T hT).2.2.2.2]; exact hi), ((h.2.2.2.2.2.2.2.2.2.2.2.2.2.2.2.2.2.2.2.2.2.2.2.2.2.2.2 T hT).2 i hi).1]
end TREE
