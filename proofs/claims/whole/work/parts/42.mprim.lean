/-! the reference's engine on the array v: its small methods -/
def SV (b : Nat) (M : HS) (v : Nat → Int32) : HS := (M.1, M.2.1, va_up M.2.2.1 (b + 1) v, M.2.2.2)
theorem nIx {a k : Nat} (h : a ≠ k) (ha : a < 2 ^ 31) (hk : k < 2 ^ 31) : ¬ nI a = (OfNat.ofNat k : Int32) := fun e => h ((nI_eq ha hk).mp e)
theorem nIe {a k : Nat} (h : a = k) : nI a = (OfNat.ofNat k : Int32) := by rw [h]; rfl
section MP
variable {b n i j k w : Nat} {M : HS} {v : Nat → Int32} {t : TT} {x y : Int32}
theorem SV_v : (SV b M v).2.2.1 (b + 1) = v := va_up_self _ _ _
theorem SV_k (h : k ≠ 1) : (SV b M v).2.2.1 (b + k) = M.2.2.1 (b + k) := va_up_ne _ _ (by omega)
theorem SV_pA (hj : j < 355) : pA (Ym b) 14 (some (b + 1)) (nI j) x (SV b M v) = some (SV b M (upd v j x)) := by
  rw [mpA (by omega) (by exact hj)]
  show some (M.1, M.2.1, upN (va_up M.2.2.1 (b + 1) v) (b + 1) j x, M.2.2.2) = some (M.1, M.2.1, va_up M.2.2.1 (b + 1) (upd v j x), M.2.2.2)
  congr 4
  funext a q
  unfold upN va_up upd
  by_cases ha : a = b + 1 <;> by_cases hq : q = j <;> simp [ha, hq]
theorem SV_gA (hj : j < 355) : gA (Ym b) 14 (some (b + 1)) (nI j) (SV b M v) = some (v j) := by
  rw [mA (by omega) (by exact hj), SV_v]
theorem SV_fix (h : FixM b M) : FixM b (SV b M v) := h
theorem TreeM_SV (h : TreeM b n t M) : TreeM b n t (SV b M v) := by
  intro c hc i hi
  rw [SV_k (by omega)]
  exact h c hc i hi
theorem mT0 (h : TreeM b n t M) (hn : n ≤ 24) {c : Nat} (hc : c < 11) (hi : i < n) : gA (Ym b) 14 (some (b + (6 + c))) (nI i) (SV b M v) = some (if c = 2 ∧ i = 0 then -1 else nI (t c i)) := by
  have hl : lnM (6 + c) = 24 := by
    have : ∀ c, c < 11 → lnM (6 + c) = 24 := by decide +kernel
    exact this c hc
  rw [mA (by omega) (by omega), TreeM_SV h c hc i hi]
theorem mT (h : TreeM b n t M) (hn : n ≤ 24) {c : Nat} (hc : c < 11) (h2 : c ≠ 2) (hi : i < n) : gA (Ym b) 14 (some (b + (6 + c))) (nI i) (SV b M v) = some (nI (t c i)) := by
  rw [mT0 h hn hc hi, if_neg (fun h => h2 h.1)]
theorem mT2 (h : TreeM b n t M) (hn : n ≤ 24) (hi : i < n) : gA (Ym b) 14 (some (b + (6 + 2))) (nI i) (SV b M v) = some (if i = 0 then -1 else nI (t 2 i)) := by
  rw [mT0 h hn (by omega) hi]
  by_cases h0 : i = 0
  · rw [if_pos ⟨rfl, h0⟩, if_pos h0]
  · rw [if_neg (fun h => h0 h.2), if_neg h0]
theorem ix11 : (11 : Int32) * nI n + nI w = nI (11 * n + w) := by
  rw [show (11 : Int32) = nI 11 from rfl, pk_mul, nI_add]
theorem m_of (hM : FixM b M) (hx : x = nI w) (h : 11 * n + w < 355) : fX12_of (Ym b) (SV b M v) (some b) (nI n) x = some (v (11 * n + w)) := by
  subst hx
  unfold fX12_of
  rw [mR1200 (SV_fix hM), Option.bind_some, ix11, SV_gA h]
  rfl
theorem m_sets (hM : FixM b M) (hx : x = nI w) (h : 11 * n + w < 355) : fX12_sets (Ym b) (SV b M v) (some b) (nI n) x y = some (SV b M (upd v (11 * n + w) y)) := by
  subst hx
  unfold fX12_sets
  rw [mR1200 (SV_fix hM), Option.bind_some, ix11, SV_pA h]
  rfl
theorem m_adds (hM : FixM b M) (hx : x = nI w) (h : 11 * n + w < 355) : fX12_adds (Ym b) (SV b M v) (some b) (nI n) x = some (SV b M (upd v (11 * n + w) (v (11 * n + w) + 1))) := by
  subst hx
  unfold fX12_adds
  rw [mR1200 (SV_fix hM), Option.bind_some, ix11, SV_gA h, Option.bind_some, SV_pA h]
  rfl
theorem nI_neg1 : ¬ (0 : Int32) ≤ -1 := by decide
/-- the place of a key's value for a node -/
def plN (t : TT) (key i : Nat) : Nat := match scO t key i with | none => 264 + key | some u => 11 * u + 4
theorem scF_lt (hW : WF n t) {key : Nat} : ∀ (f u : Nat), u < n → ∀ w, scF t key f u = some w → w ≤ u ∧ t 0 w = 14 ∧ t 1 w = key
  | 0, _, _, _, h => by cases h
  | f + 1, u, hu, w, h => by
    rw [scF] at h
    by_cases h1 : t 0 u = 14 ∧ t 1 u = key
    · rw [if_pos h1] at h
      cases h
      exact ⟨Nat.le_refl _, h1⟩
    · rw [if_neg h1] at h
      by_cases h2 : u = 0
      · rw [if_pos h2] at h
        cases h
      · rw [if_neg h2] at h
        have hp := ((hW.2.2 u hu).2.2.2.2.2.1 (by omega)).1
        have := scF_lt hW f (t 2 u) (by omega) w h
        exact ⟨by omega, this.2⟩
theorem scO_lt (hW : WF n t) {key : Nat} (hi : i < n) (h : scO t key i = some w) : w < i ∧ t 0 w = 14 ∧ t 1 w = key := by
  unfold scO at h
  by_cases h0 : i = 0
  · rw [if_pos h0] at h
    cases h
  · rw [if_neg h0] at h
    have hp := ((hW.2.2 i hi).2.2.2.2.2.1 (by omega)).1
    have := scF_lt hW 24 (t 2 i) (by omega) w h
    exact ⟨by omega, this.2⟩
theorem plN_lt (hW : WF n t) {key : Nat} (hk : key ≤ 7) (hi : i < n) : plN t key i < 355 := by
  unfold plN
  have hn := hW.1
  cases h : scO t key i with
  | none => show 264 + key < 355; omega
  | some u =>
    have := (scO_lt hW hi h).1
    show 11 * u + 4 < 355
    omega
theorem m_place50 {key u : Nat} (hu : u < 24) : fX12_place_50 (Ym b) (SV b M v) (nI key) (nI u) = some (nI (11 * u + 4)) := by
  unfold fX12_place_50
  rw [if_neg (nI_pos (by omega)), show (4 : Int32) = nI 4 from rfl, ix11]
theorem m_place15 (hM : FixM b M) (hT : TreeM b n t M) (hW : WF n t) {key : Nat} (hk : key ≤ 7) : ∀ (f fuel u : Nat), u < n → u < f → u < fuel → fX12_place_15 (Ym b) (SV b M v) (fuel + 1) (some b) (nI key) (nI u) = some (nI (match scF t key f u with | none => 264 + key | some w => 11 * w + 4))
  | 0, _, _, _, h, _ => absurd h (Nat.not_lt_zero _)
  | f + 1, fuel, u, hu, hf, hfu => by
    have hn := hW.1
    have hWu := hW.2.2 u hu
    rw [fX12_place_15, if_neg (nI_pos (by omega)), mR1209 (SV_fix hM), Option.bind_some, show b + 6 = b + (6 + 0) from rfl, mT hT hn (by omega) (by omega) hu, Option.bind_some]
    have up : ((gR (Ym b) 12 1211 (some b) (SV b M v)).bind fun v41 => (gA (Ym b) 14 v41 (nI u) (SV b M v)).bind fun v45 => fX12_place_15 (Ym b) (SV b M v) fuel (some b) (nI key) v45) = some (nI (match (if u = 0 then none else scF t key f (t 2 u)) with | none => 264 + key | some w => 11 * w + 4)) := by
      rw [mR1211 (SV_fix hM), Option.bind_some, show b + 8 = b + (6 + 2) from rfl, mT2 hT hn hu, Option.bind_some]
      by_cases h0 : u = 0
      · rw [if_pos h0, if_pos h0]
        cases fuel with
        | zero => omega
        | succ fuel =>
          rw [fX12_place_15, if_pos (by decide)]
          unfold fX12_place_50
          rw [if_pos (by decide), show (264 : Int32) = nI 264 from rfl, nI_add]
      · rw [if_neg h0, if_neg h0]
        have hp := (hWu.2.2.2.2.2.1 (by omega)).1
        cases fuel with
        | zero => omega
        | succ fuel => exact m_place15 hM hT hW hk f fuel (t 2 u) (by omega) (by omega) (by omega)
    by_cases h1 : t 0 u = 14
    · rw [if_pos (nIe h1), mR1210 (SV_fix hM), Option.bind_some, show b + 7 = b + (6 + 1) from rfl, mT hT hn (by omega) (by omega) hu, Option.bind_some]
      by_cases h2 : t 1 u = key
      · rw [if_pos (by rw [h2]), m_place50 (by omega), scF, if_pos ⟨h1, h2⟩]
      · rw [if_neg (fun h => h2 ((nI_eq (by omega) (by omega)).mp h)), up, scF, if_neg (c := t 0 u = 14 ∧ t 1 u = key) (fun h => h2 h.2)]
    · rw [if_neg (nIx h1 (by have := hWu.2.1; omega) (by omega)), up, scF, if_neg (c := t 0 u = 14 ∧ t 1 u = key) (fun h => h1 h.1)]
theorem m_place (hM : FixM b M) (hT : TreeM b n t M) (hW : WF n t) {key : Nat} (hk : key ≤ 7) (hi : i < n) : fX12_place (Ym b) (SV b M v) (some b) (nI i) (nI key) = some (nI (plN t key i)) := by
  have hn := hW.1
  have hWi := hW.2.2 i hi
  unfold fX12_place
  rw [if_pos (nI_pos' (by omega)), mR1211 (SV_fix hM), Option.bind_some, show b + 8 = b + (6 + 2) from rfl, mT2 hT hn hi, Option.bind_some]
  unfold plN scO
  by_cases h0 : i = 0
  · rw [if_pos h0, if_pos h0, show FU = 1999 + 1 from rfl, fX12_place_15, if_pos (by decide)]
    unfold fX12_place_50
    rw [if_pos (by decide), show (264 : Int32) = nI 264 from rfl, nI_add]
  · rw [if_neg h0, if_neg h0]
    have hp := (hWi.2.2.2.2.2.1 (by omega)).1
    exact m_place15 hM hT hW hk 24 1999 (t 2 i) (by omega) (by omega) (by omega)
def jclamp (x : Int32) : Int32 := if x ≤ 999 then if (-999) ≤ x then x else -999 else 999
/-- what an effect makes of a value -/
def eff (s : Nat) (x y : Int32) : Int32 := jclamp (if s = 4 then x else if s = 5 then y + x else y - x)
theorem m_does46 (hM : FixM b M) (hj : j < 355) : fX12_does_46 (Ym b) (SV b M v) (some b) (nI j) x = some (SV b M (upd v j (jclamp x))) := by
  unfold fX12_does_46 jclamp
  rw [mR1200 (SV_fix hM), Option.bind_some]
  by_cases h1 : x ≤ 999
  · rw [if_pos h1, if_pos h1]
    by_cases h2 : (-999 : Int32) ≤ x
    · rw [if_pos h2, if_pos h2, SV_pA hj]; rfl
    · rw [if_neg h2, if_neg h2, SV_pA hj]; rfl
  · rw [if_neg h1, if_neg h1, SV_pA hj]; rfl
theorem m_does (hM : FixM b M) (hT : TreeM b n t M) (hW : WF n t) {key s : Nat} (hk : key ≤ 7) (hs : s < 7) (hi : i < n) : fX12_does (Ym b) (SV b M v) (some b) (nI i) (nI key) (nI s) x = some (SV b M (upd v (plN t key i) (eff s x (v (plN t key i))))) := by
  have hl := plN_lt hW hk hi
  unfold fX12_does
  rw [mrcv, Option.bind_some, m_place hM hT hW hk hi, Option.bind_some]
  unfold eff
  by_cases h4 : s = 4
  · rw [if_pos (nIe h4), if_pos h4, m_does46 hM hl]
  · rw [if_neg (nIx h4 (by omega) (by omega)), if_neg h4]
    by_cases h5 : s = 5
    · rw [if_pos (nIe h5), if_pos h5, mR1200 (SV_fix hM), Option.bind_some, SV_gA hl, Option.bind_some, m_does46 hM hl]
    · rw [if_neg (nIx h5 (by omega) (by omega)), if_neg h5, mR1200 (SV_fix hM), Option.bind_some, SV_gA hl, Option.bind_some, m_does46 hM hl]
def hld (s : Nat) (x y : Int32) : Int32 := if s = 1 then (if y ≤ x then 0 else 1) else if s = 2 then (if x = y then 1 else 0) else (if x ≤ y then 0 else 1)
theorem m_holds (hM : FixM b M) (hT : TreeM b n t M) (hW : WF n t) (hi : i < n) : fX12_holds (Ym b) (SV b M v) (some b) (nI i) = some (hld (t 6 i) (v (plN t (t 5 i) i)) (nI (t 7 i))) := by
  have hn := hW.1
  have hr := (hW.2.2 i hi).2.2.2.2.2.2.2.1
  have hl := plN_lt hW hr.2.1 hi
  unfold fX12_holds hld
  rw [mR1200 (SV_fix hM), Option.bind_some, mR1214 (SV_fix hM), Option.bind_some, show b + 11 = b + (6 + 5) from rfl, mT hT hn (by omega) (by omega) hi, Option.bind_some, mrcv, Option.bind_some, m_place hM hT hW hr.2.1 hi, Option.bind_some, SV_gA hl, Option.bind_some, mR1215 (SV_fix hM), Option.bind_some, show b + 12 = b + (6 + 6) from rfl, mT hT hn (by omega) (by omega) hi, Option.bind_some]
  by_cases h1 : t 6 i = 1
  · rw [if_pos (nIe h1), if_pos h1, mR1216 (SV_fix hM), Option.bind_some, show b + 13 = b + (6 + 7) from rfl, mT hT hn (by omega) (by omega) hi, Option.bind_some]
    split <;> rfl
  · rw [if_neg (nIx h1 (by omega) (by omega)), if_neg h1, Option.bind_some, mT hT hn (by omega) (by omega) hi, Option.bind_some]
    by_cases h2 : t 6 i = 2
    · rw [if_pos (nIe h2), if_pos h2, mR1216 (SV_fix hM), Option.bind_some, show b + 13 = b + (6 + 7) from rfl, mT hT hn (by omega) (by omega) hi, Option.bind_some]
      split <;> rfl
    · rw [if_neg (nIx h2 (by omega) (by omega)), if_neg h2, mR1216 (SV_fix hM), Option.bind_some, show b + 13 = b + (6 + 7) from rfl, mT hT hn (by omega) (by omega) hi, Option.bind_some]
      split <;> rfl
/-- an entry in the trace -/
def tellV (v : Nat → Int32) (i : Nat) (r : Int32) : Nat → Int32 := fun k => if 297 ≤ k ∧ k < 355 then v (k - 2) else if k = 295 then nI i else if k = 296 then r else if k = 294 then (if 30 ≤ v 294 then v 294 else v 294 + 1) else v k
theorem m_tells3 (hM : FixM b M) {r : Int32} : ∀ (k fuel : Nat) (u : Nat → Int32), k < 59 → k < fuel → (u = fun m => if 296 + k < m ∧ m < 355 then v (m - 2) else v m) → fX12_tells_3 (Ym b) fuel (SV b M u) (some b) (nI i) r (nI (k + 1)) = some (SV b M (tellV v i r))
  | _, 0, _, _, h, _ => absurd h (Nat.not_lt_zero _)
  | 0, fuel + 1, u, _, _, hu => by
    have e1 : tellV v i r = upd (upd (upd u 295 (nI i)) 296 r) 294 (if 30 ≤ v 294 then v 294 else v 294 + 1) := by
      funext m
      unfold tellV upd
      rw [hu]
      by_cases a : m = 294
      · subst a; simp
      · by_cases c : m = 296
        · subst c; simp
        · by_cases d : m = 295
          · subst d; simp
          · simp only [a, c, d, if_false]
            by_cases g : 297 ≤ m ∧ m < 355
            · rw [if_pos g, if_pos (by omega)]
            · rw [if_neg g, if_neg (by omega)]
    have e2 : upd (upd u 295 (nI i)) 296 r 294 = v 294 := by
      unfold upd
      rw [hu]
      simp
    rw [fX12_tells_3, if_pos (by decide), mR1200 (SV_fix hM), Option.bind_some, show (295 : Int32) = nI 295 from rfl, SV_pA (by omega), Option.bind_some, mR1200 (SV_fix hM), Option.bind_some, show (296 : Int32) = nI 296 from rfl, SV_pA (by omega), Option.bind_some, mR1200 (SV_fix hM), Option.bind_some, show (294 : Int32) = nI 294 from rfl, SV_gA (by omega), Option.bind_some, Option.bind_some, SV_gA (by omega), Option.bind_some, e2, e1]
    by_cases h30 : (30 : Int32) ≤ v 294
    · rw [if_pos h30, if_pos h30, SV_pA (by omega), Option.bind_some, Int32.add_zero]
    · rw [if_neg h30, if_neg h30, SV_pA (by omega), Option.bind_some]
  | k + 1, fuel + 1, u, hk, hf, hu => by
    rw [fX12_tells_3, if_neg (show ¬ nI (k + 1 + 1) < 2 from nI_nlt (show 2 ≤ k + 1 + 1 by omega) (by omega)), mR1200 (SV_fix hM), Option.bind_some, Option.bind_some, show (295 : Int32) = nI 295 from rfl, nI_add, show (2 : Int32) = nI 2 from rfl, pk_sub (by omega), SV_gA (by omega), Option.bind_some, SV_pA (by omega), Option.bind_some, pk_m1]
    refine m_tells3 hM k fuel _ (by omega) (by omega) ?_
    funext m
    unfold upd
    rw [hu]
    by_cases a : m = 295 + (k + 1 + 1)
    · subst a
      simp only [if_true]
      rw [if_neg (by omega), if_pos (by omega)]
    · rw [if_neg a]
      by_cases c : 296 + (k + 1) < m ∧ m < 355
      · exact (if_pos c).trans (if_pos (by omega)).symm
      · exact (if_neg c).trans (if_neg (by omega)).symm
theorem m_tells (hM : FixM b M) {r : Int32} : fX12_tells (Ym b) (SV b M v) (some b) (nI i) r = some (SV b M (tellV v i r)) := by
  unfold fX12_tells
  refine m_tells3 hM (v := v) 58 FU v (by omega) (by decide) ?_
  funext m
  rw [if_neg (by omega)]
end MP
