/-! write: the class -/
/-- a layout that holds the class' pool -/
def ExY (z : Nat) (Y : LY) : Prop := ∀ o, o < 269 → (∀ c, chk Y c (z + o) = chk (Yc z) c (z + o)) ∧ Y.2.2 (z + o) = (Yc z).2.2 (z + o)
def app (w : Nat → Int32) : Nat → List Nat → Nat → Int32
  | _, [] => w
  | k, x :: L => app (upd w k (nI x)) (k + 1) L
def OS (z : Nat) (S : HS) (k : Nat) (w : Nat → Int32) : HS := (upN S.1 701 (z + 3) (nI k), S.2.1, va_up S.2.2.1 (z + 4) w, S.2.2.2)
def CW (z : Nat) (S : HS) (f : HS → Option HS) (L : List Nat) : Prop := ∀ k w, k + L.length ≤ 70 → f (OS z S k w) = some (OS z S (k + L.length) (app w k L))
section WRT
variable {z T n i j k o c f a d x : Nat} {S : HS} {Y : LY} {v : Int32} {w : Nat → Int32} {r : Option Nat} {t : TT} {L L1 L2 : List Nat}
theorem dchk (hY : ExY z Y) (h : o < 269) (hk : kdC o = c) : chk Y c (z + o) = true := ((hY o h).1 c).trans (Yc_chk h hk)
theorem dlen (hY : ExY z Y) (h : o < 269) : Y.2.2 (z + o) = lnC o := ((hY o h).2).trans Yc_len
theorem dI (hY : ExY z Y) (h : o < 269) (hk : kdC o = c) : gI Y c f (some (z + o)) S = some (S.1 f (z + o)) := by
  show (if chk Y c (z + o) = true then some (S.1 f (z + o)) else none) = _
  rw [if_pos (dchk hY h hk)]
theorem dR (hY : ExY z Y) (h : o < 269) (hk : kdC o = c) : gR Y c f (some (z + o)) S = some (S.2.1 f (z + o)) := by
  show (if chk Y c (z + o) = true then some (S.2.1 f (z + o)) else none) = _
  rw [if_pos (dchk hY h hk)]
theorem dpI (hY : ExY z Y) (h : o < 269) (hk : kdC o = c) : pI Y c f (some (z + o)) v S = some (upN S.1 f (z + o) v, S.2) := by
  show (if chk Y c (z + o) = true then _ else none) = _
  rw [if_pos (dchk hY h hk)]
theorem dpR (hY : ExY z Y) (h : o < 269) (hk : kdC o = c) : pR Y c f (some (z + o)) r S = some (S.1, upN S.2.1 f (z + o) r, S.2.2) := by
  show (if chk Y c (z + o) = true then _ else none) = _
  rw [if_pos (dchk hY h hk)]
theorem dpZ (hY : ExY z Y) (h : o < 269) (hk : kdC o = c) (hv : v = 0 ∨ v = 1) : pZ Y c f (some (z + o)) v S = some (upN S.1 f (z + o) v, S.2) := by
  unfold pZ
  rw [if_pos hv, dpI hY h hk]
theorem dpC (hY : ExY z Y) (h : o < 269) (hk : kdC o = c) (hv : vp_nar .char v = v) : pC Y c f (some (z + o)) v S = some (upN S.1 f (z + o) v, S.2) := by
  unfold pC
  rw [if_pos hv, dpI hY h hk]
theorem drcv (hY : ExY z Y) (h : o < 269) (hk : kdC o = c) : rcv Y c (some (z + o)) = some () := by
  show (if chk Y c (z + o) = true then _ else none) = _
  rw [if_pos (dchk hY h hk)]
theorem lnC_lt (o : Nat) : lnC o < 2 ^ 31 := by
  unfold lnC
  split
  · rename_i h75
    have : ∀ o, o < 75 → [0, 0, 70, 0, 70, 0, 0, 8, 0, 30, 30, 0, 24, 0, 8, 0, 30, 30, 0, 0, 0, 0, 0, 0, 0, 0, 0, 0, 0, 0, 0, 0, 0, 0, 0, 0, 0, 0, 0, 0, 0, 0, 0, 24, 0, 8, 0, 30, 30, 0, 0, 0, 0, 0, 0, 0, 0, 0, 0, 0, 0, 0, 0, 0, 0, 0, 0, 0, 0, 0, 0, 0, 0, 0, 24].getD o 0 < 2 ^ 31 := by decide +kernel
    exact this o h75
  · split <;> decide
theorem dA (hY : ExY z Y) (h : o < 269) (hk : kdC o = c) (hj : j < lnC o) : gA Y c (some (z + o)) (nI j) S = some (S.2.2.1 (z + o) j) := by
  have hl := lnC_lt o
  show (if (chk Y c (z + o) && inr (nI j) (Y.2.2 (z + o))) = true then some (S.2.2.1 (z + o) (nI j).toNatClampNeg) else none) = _
  rw [dlen hY h, dchk hY h hk, inr_nI hj hl, nI_clamp (by omega)]
  rfl
theorem dwA (hY : ExY z Y) (h : o < 269) (hk : kdC o = c) (hj : j < lnC o) : pA Y c (some (z + o)) (nI j) v S = some (S.1, S.2.1, upN S.2.2.1 (z + o) j v, S.2.2.2) := by
  have hl := lnC_lt o
  show (if (chk Y c (z + o) && inr (nI j) (Y.2.2 (z + o))) = true then some (S.1, S.2.1, upN S.2.2.1 (z + o) (nI j).toNatClampNeg v, S.2.2.2) else none) = _
  rw [dlen hY h, dchk hY h hk, inr_nI hj hl, nI_clamp (by omega)]
  rfl
theorem dQ (hY : ExY z Y) (h : o < 269) (hk : kdC o = c) (hj : j < lnC o) : gQ Y c (some (z + o)) (nI j) S = some (S.2.2.2 (z + o) j) := by
  have hl := lnC_lt o
  show (if (chk Y c (z + o) && inr (nI j) (Y.2.2 (z + o))) = true then some (S.2.2.2 (z + o) (nI j).toNatClampNeg) else none) = _
  rw [dlen hY h, dchk hY h hk, inr_nI hj hl, nI_clamp (by omega)]
  rfl
theorem daL (hY : ExY z Y) (h : o < 269) (hk : kdC o = c) : aL Y c (some (z + o)) = some (nI (lnC o)) := by
  show (if chk Y c (z + o) = true then some (Int32.ofNat (Y.2.2 (z + o))) else none) = _
  rw [if_pos (dchk hY h hk), dlen hY h]
  rfl
theorem dI_of (hY : ExY z Y) (ho : o < 269) (hk : kdC o = c) {x : Int32} (h : S.1 f (z + o) = x) : gI Y c f (some (z + o)) S = some x := by rw [dI hY ho hk, h]
theorem dR_of (hY : ExY z Y) (ho : o < 269) (hk : kdC o = c) {x : Option Nat} (h : S.2.1 f (z + o) = x) : gR Y c f (some (z + o)) S = some x := by rw [dR hY ho hk, h]
theorem FixT (hF : FixC z S) (hT : isT T) : S.2.1 800 (z + T) = some (z + (T + 1)) ∧ ∀ i, i < 24 → S.2.2.2 (z + (T + 1)) i = some (nda z T i) ∧ S.2.1 401 (nda z T i) = some (cla z T i) ∧ S.2.1 402 (nda z T i) = some (ena z T i) ∧ S.2.1 403 (nda z T i) = some (lfa z T i) ∧ S.1 400 (nda z T i) = nI i := hF.2.2.2.2.2.2.2.2.2.2.2.2.2.2.2.2.2.2.2.2.2.2.2.2.2.2.2 T hT
theorem eN (hY : ExY z Y) (hT : isT T) (hi : i < 24) : gI Y 4 f (some (nda z T i)) S = some (S.1 f (nda z T i)) := dI hY (kd_nd hT hi).1 (kd_nd hT hi).2
theorem eNR (hY : ExY z Y) (hT : isT T) (hi : i < 24) : gR Y 4 f (some (nda z T i)) S = some (S.2.1 f (nda z T i)) := dR hY (kd_nd hT hi).1 (kd_nd hT hi).2
theorem eNrcv (hY : ExY z Y) (hT : isT T) (hi : i < 24) : rcv Y 4 (some (nda z T i)) = some () := drcv hY (kd_nd hT hi).1 (kd_nd hT hi).2
theorem eC (hY : ExY z Y) (hT : isT T) (hi : i < 24) : gI Y 1 f (some (cla z T i)) S = some (S.1 f (cla z T i)) := dI hY (kd_cl hT hi).1 (kd_cl hT hi).2
theorem eE (hY : ExY z Y) (hT : isT T) (hi : i < 24) : gI Y 1 f (some (ena z T i)) S = some (S.1 f (ena z T i)) := dI hY (kd_en hT hi).1 (kd_en hT hi).2
theorem d_at (hY : ExY z Y) (hF : FixC z S) (h801 : S.1 801 (z + T) = nI n) (hT : isT T) (hn : n ≤ 24) (hi : i < n) : fX8_nodeAt Y S (some (z + T)) (nI i) = some (some (nda z T i)) := by
  have hK := kd_T hT
  unfold fX8_nodeAt
  refine ifN (nI_pos (by omega)) ?_
  refine bnd (dI_of hY hK.1 hK.2.1 h801) ?_
  refine ifN (nI_ge (by omega) (by omega)) ?_
  refine bnd (dR_of hY hK.1 hK.2.1 (FixT hF hT).1) ?_
  refine bnd (daL hY hK.2.2.1 hK.2.2.2.1) ?_
  rw [hK.2.2.2.2]
  refine ifP (nI_lt (by omega) (by omega)) ?_
  refine bnd (dR_of hY hK.1 hK.2.1 (FixT hF hT).1) ?_
  refine bnd (dQ hY hK.2.2.1 hK.2.2.2.1 (by rw [hK.2.2.2.2]; omega)) ?_
  rw [((FixT hF hT).2 i (by omega)).1]
theorem d_at0 (hY : ExY z Y) (h801 : S.1 801 (z + T) = nI n) (hT : isT T) (hn : n ≤ 24) (hi : n ≤ i) (hi2 : i < 2 ^ 31) : fX8_nodeAt Y S (some (z + T)) (nI i) = some none := by
  have hK := kd_T hT
  unfold fX8_nodeAt
  refine ifN (nI_pos hi2) ?_
  refine bnd (dI_of hY hK.1 hK.2.1 h801) ?_
  exact if_pos (nI_le hi hi2)
theorem app_app : ∀ (L1 : List Nat) (w : Nat → Int32) (k : Nat), app w k (L1 ++ L2) = app (app w k L1) (k + L1.length) L2
  | [], _, _ => rfl
  | x :: L1, w, k => by
    rw [List.cons_append, app, app, app_app L1, List.length_cons, show k + 1 + L1.length = k + (L1.length + 1) by omega]
theorem app_lo : ∀ (L : List Nat) (w : Nat → Int32) (k : Nat), j < k → app w k L j = w j
  | [], _, _, _ => rfl
  | x :: L, w, k, h => by rw [app, app_lo L _ _ (by omega), pk_un (by omega)]
theorem app_in : ∀ (L : List Nat) (w : Nat → Int32) (k j : Nat), j < L.length → app w k L (k + j) = nI (L.getD j 0)
  | [], _, _, _, h => absurd h (Nat.not_lt_zero _)
  | x :: L, w, k, 0, _ => by
    rw [app, app_lo L _ _ (by omega), Nat.add_zero, pk_us]
    rfl
  | x :: L, w, k, j + 1, h => by
    rw [app, show k + (j + 1) = k + 1 + j by omega, app_in L _ _ j (by simpa using h)]
    rfl
theorem CW_nil : CW z S some [] := fun _ _ _ => rfl
theorem CW_bind {g1 g2 : HS → Option HS} (h1 : CW z S g1 L1) (h2 : CW z S g2 L2) : CW z S (fun s => (g1 s).bind g2) (L1 ++ L2) := by
  intro k w hk
  rw [List.length_append] at hk
  show (g1 (OS z S k w)).bind g2 = _
  rw [h1 k w (by omega), Option.bind_some, h2 _ _ (by omega), app_app, List.length_append, Nat.add_assoc]
theorem CW_cong {g1 g2 : HS → Option HS} (h1 : CW z S g1 L) (h : ∀ k w, g2 (OS z S k w) = g1 (OS z S k w)) : CW z S g2 L := fun k w hk => by rw [h, h1 k w hk]
theorem nar_pl (hd : d ≤ 127) : vp_nar .char (nI d) = nI d := by
  have : ∀ d, d < 128 → vp_nar .char (nI d) = nI d := by decide +kernel
  exact this d (by omega)
theorem o_add (hY : ExY z Y) (hF : FixC z S) {v : Int32} (hv : vp_nar .char v = nI d) : CW z S (fun s => fX7_add Y s (some (z + 3)) v) [d] := by
  intro k w hk
  have hk : k + 1 ≤ 70 := hk
  show fX7_add Y (OS z S k w) (some (z + 3)) v = _
  have e1 : (OS z S k w).1 701 (z + 3) = nI k := upN_self
  have e2 : (OS z S k w).2.1 700 (z + 3) = some (z + 4) := hF.2.2.2.2.2.2.2.2.1
  unfold fX7_add
  refine bnd (dI_of hY (o := 3) (by decide) rfl e1) ?_
  refine bnd (dR_of hY (o := 3) (by decide) rfl e2) ?_
  refine bnd (daL hY (o := 4) (by decide) rfl) ?_
  refine ifN (show ¬ nI 70 ≤ nI k from nI_ge (by omega) (by omega)) ?_
  refine bnd (dR_of hY (o := 3) (by decide) rfl e2) ?_
  refine bnd (dI_of hY (o := 3) (by decide) rfl e1) ?_
  rw [hv]
  refine bnd (dwA hY (o := 4) (c := 13) (by decide) rfl (show k < 70 by omega)) ?_
  refine bnd (dI_of hY (o := 3) (by decide) rfl (x := nI k) upN_self) ?_
  rw [nI_1]
  refine bnd (dpI hY (o := 3) (by decide) rfl) ?_
  show some (upN (upN S.1 701 (z + 3) (nI k)) 701 (z + 3) (nI (k + 1)), S.2.1, upN (va_up S.2.2.1 (z + 4) w) (z + 4) k (nI d), S.2.2.2) = some (upN S.1 701 (z + 3) (nI (k + 1)), S.2.1, va_up S.2.2.1 (z + 4) (upd w k (nI d)), S.2.2.2)
  have g1 : upN (upN S.1 701 (z + 3) (nI k)) 701 (z + 3) (nI (k + 1)) = upN S.1 701 (z + 3) (nI (k + 1)) := by
    funext g q
    unfold upN
    split <;> rfl
  have g2 : upN (va_up S.2.2.1 (z + 4) w) (z + 4) k (nI d) = va_up S.2.2.1 (z + 4) (upd w k (nI d)) := by
    funext q y
    unfold upN va_up upd
    by_cases hq : q = z + 4 <;> by_cases hy : y = k <;> simp [hq, hy]
  rw [g1, g2]
/-- the writer's own object -/
def WO (z T a : Nat) (Y : LY) (S : HS) : Prop := chk Y 10 a = true ∧ S.2.1 1000 a = some (z + T) ∧ S.2.1 1001 a = some (z + 3)
theorem wo_rcv (h : WO z T a Y S) : rcv Y 10 (some a) = some () := by
  show (if chk Y 10 a = true then _ else none) = _
  rw [if_pos h.1]
theorem wo_1001 (h : WO z T a Y S) {k : Nat} {w : Nat → Int32} : gR Y 10 1001 (some a) (OS z S k w) = some (some (z + 3)) := by
  show (if chk Y 10 a = true then some (S.2.1 1001 a) else none) = _
  rw [if_pos h.1, h.2.2]
theorem wo_1000 (h : WO z T a Y S) {k : Nat} {w : Nat → Int32} : gR Y 10 1000 (some a) (OS z S k w) = some (some (z + T)) := by
  show (if chk Y 10 a = true then some (S.2.1 1000 a) else none) = _
  rw [if_pos h.1, h.2.1]
theorem OS_same : SameC z S (OS z S k w) := ⟨fun f a hf => upN_ne (Or.inl hf), rfl, rfl, fun a _ h4 => va_up_ne _ _ h4⟩
theorem OS_fix (hF : FixC z S) : FixC z (OS z S k w) := FixC_congr (fun _ _ _ => rfl) (fun a => show upN S.1 701 (z + 3) (nI k) 400 a = S.1 400 a from upN_ne (Or.inl (by decide))) rfl hF
theorem OSA {k : Nat} {w : Nat → Int32} : OS z S (k + (L1 ++ L2).length) (app w k (L1 ++ L2)) = OS z S (k + L1.length + L2.length) (app (app w k L1) (k + L1.length) L2) := by
  rw [app_app, List.length_append, Nat.add_assoc]
theorem OSC {k : Nat} {w : Nat → Int32} {d : Nat} : OS z S (k + (d :: L2).length) (app w k (d :: L2)) = OS z S (k + 1 + L2.length) (app (upd w k (nI d)) (k + 1) L2) := by
  rw [app, List.length_cons, show k + (L2.length + 1) = k + 1 + L2.length by omega]
theorem dig (x : Nat) (hx : x ≤ 99) : vp_nar .char (((48 + (nI x - nI x / 10 * 10)).toUInt32 % 65536).toInt32) = nI (48 + x % 10) ∧ vp_nar .char (((48 + (nI x / 10)).toUInt32 % 65536).toInt32) = nI (48 + x / 10) := by
  have e1 : nI x - nI x / 10 * 10 = nI (x % 10) := pk_rem (d := 10) (by omega) (by decide) (by decide)
  have e2 : nI x / 10 = nI (x / 10) := pk_div (d := 10) (by omega) (by decide) (by decide)
  rw [e1, e2, show (48 : Int32) = nI 48 from rfl, nI_add, nI_add]
  exact ⟨nar_code (by omega), nar_code (by omega)⟩
theorem o_num (hY : ExY z Y) (hF : FixC z S) (hW : WO z T a Y S) (hx : x ≤ 99) : CW z S (fun s => fX10_writeNumber Y s (some a) (nI x)) (numL x) := by
  have hd := dig x hx
  have h21 : CW z S (fun s => fX10_writeNumber_21 Y s (some a) (nI x)) [48 + x % 10] := by
    intro k w hk
    show fX10_writeNumber_21 Y (OS z S k w) (some a) (nI x) = _
    unfold fX10_writeNumber_21
    refine bnd (wo_1001 hW) ?_
    refine bnd (drcv hY (o := 3) (by decide) rfl) ?_
    refine bnd (o_add hY hF hd.1 k w hk) ?_
    rfl
  intro k w hk
  show fX10_writeNumber Y (OS z S k w) (some a) (nI x) = _
  unfold numL at hk ⊢
  unfold fX10_writeNumber
  by_cases h : x < 10
  · rw [if_pos h] at hk ⊢
    refine ifP (show nI x < 10 from nI_lt (b := 10) h (by decide)) ?_
    exact h21 k w hk
  · rw [if_neg h] at hk ⊢
    have hk : k + 2 ≤ 70 := hk
    refine ifN (show ¬ nI x < 10 from nI_nlt (a := x) (b := 10) (by omega) (by omega)) ?_
    refine bnd (wo_1001 hW) ?_
    refine bnd (drcv hY (o := 3) (by decide) rfl) ?_
    refine bnd (o_add hY hF hd.2 k w (show k + 1 ≤ 70 by omega)) ?_
    exact h21 (k + 1) _ (show k + 1 + 1 ≤ 70 by omega)
/-- a clause -/
theorem o_clause (hY : ExY z Y) (hF : FixC z S) (hW : WO z T a Y S) {e key s x : Nat} (ho : e < 269 ∧ kdC e = 1) (hk : key ≤ 7) (hs : 1 ≤ s ∧ s ≤ 6) (hx : x ≤ 99) (h1 : S.1 101 (z + e) = nI key) (h2 : S.1 102 (z + e) = sgC s) (h3 : S.1 103 (z + e) = nI x) : CW z S (fun q => fX10_writeClause Y q (some a) (some (z + e))) (clL key s x) := by
  have hsg : vp_nar .char (sgC s) = nI (sgN s) := by
    have : ∀ s, s < 7 → 1 ≤ s → vp_nar .char (sgC s) = nI (sgN s) := by decide +kernel
    exact this s (by omega) hs.1
  have e1 : numL key = [48 + key] := by
    unfold numL
    rw [if_pos (by omega), Nat.mod_eq_of_lt (by omega)]
  have hn := o_num (x := key) hY hF hW (by omega)
  rw [e1] at hn
  intro k w hk2
  show fX10_writeClause Y (OS z S k w) (some a) (some (z + e)) = _
  have hw7 : ∀ k w f, f ≠ 701 → (OS z S k w).1 f (z + e) = S.1 f (z + e) := fun k w f hf => upN_ne (Or.inl hf)
  unfold clL at hk2 ⊢
  rw [if_neg (by omega)] at hk2 ⊢
  rw [List.length_cons, List.length_cons] at hk2
  rw [OSC, OSC]
  unfold fX10_writeClause
  refine bnd (dI_of hY ho.1 ho.2 ((hw7 _ _ _ (by decide)).trans h1)) ?_
  refine bnd (wo_rcv hW) ?_
  refine bnd (hn k w (show k + 1 ≤ 70 by omega)) ?_
  refine bnd (wo_1001 hW) ?_
  refine bnd (dI_of hY ho.1 ho.2 ((hw7 _ _ _ (by decide)).trans h2)) ?_
  refine bnd (drcv hY (o := 3) (by decide) rfl) ?_
  refine bnd (o_add hY hF hsg (k + 1) _ (show k + 1 + 1 ≤ 70 by omega)) ?_
  refine bnd (dI_of hY ho.1 ho.2 ((hw7 _ _ _ (by decide)).trans h3)) ?_
  refine bnd (wo_rcv hW) ?_
  refine bnd (o_num hY hF hW hx (k + 1 + 1) _ (by omega)) ?_
  rfl
theorem o_hasList (hY : ExY z Y) (hT : isT T) (hTr : TreeC z T n t S) (hW : WF n t) (hi : i < n) : fX4_hasList Y S (some (nda z T i)) = some (if 4 ≤ t 0 i ∧ t 0 i ≤ 8 then 1 else 0) := by
  have hn := hW.1
  have hk := wf_kind hW hi
  have e : gI Y 4 404 (some (nda z T i)) S = some (nI (t 0 i)) := by rw [eN hY hT (by omega), (hTr i hi).1]
  unfold fX4_hasList
  refine bnd e ?_
  by_cases h : t 0 i < 4
  · refine ifP (show nI (t 0 i) < 4 from nI_lt (b := 4) h (by decide)) ?_
    rw [if_neg (by omega)]
  · refine ifN (show ¬ nI (t 0 i) < 4 from nI_nlt (b := 4) (by omega) (by omega)) ?_
    refine bnd e ?_
    by_cases h8 : 8 < t 0 i
    · refine ifP (show 8 < nI (t 0 i) from nI_lt (a := 8) h8 (by omega)) ?_
      rw [if_neg (by omega)]
    · refine ifN (show ¬ 8 < nI (t 0 i) from nI_nlt (a := 8) (by omega) (by decide)) ?_
      rw [if_pos (by omega)]
theorem o_hasN (hY : ExY z Y) (hT : isT T) (hTr : TreeC z T n t S) (hW : WF n t) (hi : i < n) : fX10_hasNumber Y S r (some (nda z T i)) = some (if t 0 i < 2 ∨ t 0 i = 8 ∨ t 0 i = 10 ∨ t 0 i = 11 ∨ t 0 i = 13 ∨ t 0 i = 14 then 1 else 0) := by
  have hn := hW.1
  have hk := wf_kind hW hi
  have e : gI Y 4 404 (some (nda z T i)) S = some (nI (t 0 i)) := by rw [eN hY hT (by omega), (hTr i hi).1]
  unfold fX10_hasNumber
  refine bnd e ?_
  have key : ∀ k, k < 15 → (if nI k = 0 then some (1 : Int32) else if nI k = 1 then some 1 else if nI k = 2 then some 0 else if nI k = 3 then some 0 else if nI k = 4 then some 0 else if nI k = 5 then some 0 else if nI k = 6 then some 0 else if nI k = 7 then some 0 else if nI k = 8 then some 1 else if nI k = 9 then some 0 else if nI k = 10 then some 1 else if nI k = 11 then some 1 else if nI k = 12 then some 0 else if nI k = 13 then some 1 else if nI k = 14 then some 1 else some 0) = some (if k < 2 ∨ k = 8 ∨ k = 10 ∨ k = 11 ∨ k = 13 ∨ k = 14 then 1 else 0) := by decide +kernel
  exact key _ hk
/-- what stands of a node ahead of its children -/
theorem o_head (hY : ExY z Y) (hF : FixC z S) (hWO : WO z T a Y S) (hT : isT T) (hTr : TreeC z T n t S) (hW : WF n t) (hi : i < n) : CW z S (fun q => fX10_writeHead Y q (some a) (some (nda z T i))) (headL t i) := by
  have hn := hW.1
  have hkd := wf_kind hW hi
  have hrg := wf_rng hW hi
  have hF' : ∀ {k w}, FixC z (OS z S k w) := OS_fix hF
  have hTr' : ∀ {k w}, TreeC z T n t (OS z S k w) := TreeC_same OS_same hTr
  have e404 : ∀ {k w}, gI Y 4 404 (some (nda z T i)) (OS z S k w) = some (nI (t 0 i)) := by intro k w; rw [eN hY hT (by omega), (hTr' i hi).1]
  have e405 : ∀ {k w}, gI Y 4 405 (some (nda z T i)) (OS z S k w) = some (nI (t 1 i)) := by intro k w; rw [eN hY hT (by omega), (hTr' i hi).2.1]
  have e401 : ∀ {k w}, gR Y 4 401 (some (nda z T i)) (OS z S k w) = some (some (cla z T i)) := by intro k w; rw [eNR hY hT (by omega), ((FixT hF' hT).2 i (by omega)).2.1]
  have e402 : ∀ {k w}, gR Y 4 402 (some (nda z T i)) (OS z S k w) = some (some (ena z T i)) := by intro k w; rw [eNR hY hT (by omega), ((FixT hF' hT).2 i (by omega)).2.2.1]
  have hTi := hTr i hi
  have hC6 : t 6 i ≠ 0 → CW z S (fun q => fX10_writeClause Y q (some a) (some (cla z T i))) (clL (t 5 i) (t 6 i) (t 7 i)) := fun h6 => by
    have g := hTi.2.2.2.2.2.2.2.2.2.2.1 h6
    exact o_clause hY hF hWO (kd_cl hT (by omega)) hrg.2.1 (by omega) hrg.2.2.2.1 g.1 g.2.1 g.2.2.1
  have hC9 : t 9 i ≠ 0 → CW z S (fun q => fX10_writeClause Y q (some a) (some (ena z T i))) (clL (t 8 i) (t 9 i) (t 10 i)) := fun h9 => by
    have g := hTi.2.2.2.2.2.2.2.2.2.2.2.2 h9
    exact o_clause hY hF hWO (kd_en hT (by omega)) hrg.2.2.2.2.1 (by omega) hrg.2.2.2.2.2.2 g.1 g.2.1 g.2.2.1
  have h96 : CW z S (fun q => fX10_writeHead_96 Y q (some a) (some (nda z T i))) (if 4 ≤ t 0 i ∧ t 0 i ≤ 8 then [40] else []) := by
    intro k w hk
    show fX10_writeHead_96 Y (OS z S k w) (some a) (some (nda z T i)) = _
    unfold fX10_writeHead_96
    refine bnd (eNrcv hY hT (by omega)) ?_
    refine bnd (o_hasList hY hT hTr' hW hi) ?_
    by_cases h : 4 ≤ t 0 i ∧ t 0 i ≤ 8
    · rw [if_pos h] at hk
      rw [if_pos h, if_pos h]
      refine ifN (by decide) ?_
      refine bnd (wo_1001 hWO) ?_
      refine bnd (drcv hY (o := 3) (by decide) rfl) ?_
      refine bnd (o_add hY hF (d := 40) (nar_pl (by decide)) k w hk) ?_
      rfl
    · rw [if_neg h, if_neg h]
      refine ifP rfl ?_
      rfl
  have h69 : CW z S (fun q => fX10_writeHead_69 Y q (some a) (some (nda z T i))) ((if t 9 i = 0 then [] else 126 :: clL (t 8 i) (t 9 i) (t 10 i)) ++ (if 4 ≤ t 0 i ∧ t 0 i ≤ 8 then [40] else [])) := by
    intro k w hk
    show fX10_writeHead_69 Y (OS z S k w) (some a) (some (nda z T i)) = _
    rw [OSA]
    rw [List.length_append] at hk
    unfold fX10_writeHead_69
    refine bnd e402 ?_
    refine bnd (a := if t 9 i = 0 then 0 else 1) ?_ ?_
    · rw [eE hY hT (by omega), (hTr' i hi).2.2.2.2.2.2.2.2.2.2.2.1]
    by_cases h : t 9 i = 0
    · rw [if_pos h] at hk
      rw [if_pos h, if_pos h]
      refine ifP rfl ?_
      exact h96 k w (by simpa using hk)
    · rw [if_neg h] at hk
      rw [if_neg h, if_neg h]
      rw [List.length_cons] at hk
      refine ifN (by decide) ?_
      refine bnd (wo_1001 hWO) ?_
      refine bnd (drcv hY (o := 3) (by decide) rfl) ?_
      refine bnd (o_add hY hF (d := 126) (nar_pl (by decide)) k w (show k + 1 ≤ 70 by omega)) ?_
      refine bnd e402 ?_
      refine bnd (wo_rcv hWO) ?_
      refine bnd (hC9 h (k + 1) _ (by omega)) ?_
      rw [List.length_cons, show k + ((clL (t 8 i) (t 9 i) (t 10 i)).length + 1) = k + 1 + (clL (t 8 i) (t 9 i) (t 10 i)).length by omega]
      exact h96 _ _ (by omega)
  have h51 : CW z S (fun q => fX10_writeHead_51 Y q (some a) (some (nda z T i))) (clL (t 5 i) (t 6 i) (t 7 i) ++ ((if t 9 i = 0 then [] else 126 :: clL (t 8 i) (t 9 i) (t 10 i)) ++ (if 4 ≤ t 0 i ∧ t 0 i ≤ 8 then [40] else []))) := by
    intro k w hk
    show fX10_writeHead_51 Y (OS z S k w) (some a) (some (nda z T i)) = _
    rw [OSA]
    rw [List.length_append] at hk
    unfold fX10_writeHead_51
    refine bnd e401 ?_
    refine bnd (a := if t 6 i = 0 then 0 else 1) ?_ ?_
    · rw [eC hY hT (by omega), (hTr' i hi).2.2.2.2.2.2.2.2.2.1]
    by_cases h : t 6 i = 0
    · have hc : clL (t 5 i) (t 6 i) (t 7 i) = [] := if_pos h
      rw [hc] at hk
      rw [if_pos h, hc]
      refine ifP rfl ?_
      exact h69 k w (by simpa using hk)
    · rw [if_neg h]
      refine ifN (by decide) ?_
      refine bnd e401 ?_
      refine bnd (wo_rcv hWO) ?_
      refine bnd (hC6 h k _ (by omega)) ?_
      exact h69 _ _ (by omega)
  have h35 : CW z S (fun q => fX10_writeHead_35 Y q (some a) (some (nda z T i))) ((if t 0 i < 2 ∨ t 0 i = 8 ∨ t 0 i = 10 ∨ t 0 i = 11 ∨ t 0 i = 13 ∨ t 0 i = 14 then [48 + t 1 i] else []) ++ (clL (t 5 i) (t 6 i) (t 7 i) ++ ((if t 9 i = 0 then [] else 126 :: clL (t 8 i) (t 9 i) (t 10 i)) ++ (if 4 ≤ t 0 i ∧ t 0 i ≤ 8 then [40] else [])))) := by
    intro k w hk
    show fX10_writeHead_35 Y (OS z S k w) (some a) (some (nda z T i)) = _
    rw [OSA]
    rw [List.length_append] at hk
    unfold fX10_writeHead_35
    refine bnd (wo_rcv hWO) ?_
    refine bnd (o_hasN hY hT hTr' hW hi) ?_
    by_cases h : t 0 i < 2 ∨ t 0 i = 8 ∨ t 0 i = 10 ∨ t 0 i = 11 ∨ t 0 i = 13 ∨ t 0 i = 14
    · rw [if_pos h] at hk
      rw [if_pos h, if_pos h]
      refine ifN (by decide) ?_
      refine bnd e405 ?_
      refine bnd (wo_rcv hWO) ?_
      have hnum := o_num (x := t 1 i) hY hF hWO (by omega) k w
      unfold numL at hnum
      rw [if_pos (by omega), Nat.mod_eq_of_lt (by omega)] at hnum
      have hk : k + (1 + _) ≤ 70 := hk
      refine bnd (hnum (show k + 1 ≤ 70 by omega)) ?_
      exact h51 _ _ (by show k + 1 + _ ≤ 70; omega)
    · rw [if_neg h] at hk
      rw [if_neg h, if_neg h]
      refine ifP rfl ?_
      exact h51 k w (by simpa using hk)
  intro k w hk
  show fX10_writeHead Y (OS z S k w) (some a) (some (nda z T i)) = _
  unfold headL at hk ⊢
  rw [OSC]
  rw [List.length_cons] at hk
  unfold fX10_writeHead
  refine bnd e404 ?_
  refine ifN (nI_pos (by omega)) ?_
  refine bnd e404 ?_
  refine ifN (show ¬ sLen 0 ≤ nI (t 0 i) from nI_ge (b := 15) (by omega) (by decide)) ?_
  refine bnd (wo_1001 hWO) ?_
  refine bnd e404 ?_
  have hch : ∀ k, k < 15 → sCh 0 (nI k) = some (nI (ltr k)) ∧ ltr k ≤ 127 := by decide +kernel
  refine bnd (hch _ hkd).1 ?_
  refine bnd (drcv hY (o := 3) (by decide) rfl) ?_
  refine bnd (o_add hY hF (d := ltr (t 0 i)) (nar_pl (hch _ hkd).2) k w (show k + 1 ≤ 70 by omega)) ?_
  exact h35 (k + 1) _ (show k + 1 + _ ≤ 70 by omega)
/-- what stands behind a leaf -/
theorem o_beh10 (hY : ExY z Y) (hF : FixC z S) (hWO : WO z T a Y S) (hT : isT T) (hTr : TreeC z T n t S) (hW : WF n t) : ∀ (f fuel e : Nat), e < n → e < f → f < fuel → CW z S (fun q => fX10_writeBehind_10 Y fuel q (some a) (some (nda z T e))) (bhF t f e)
  | 0, _, _, _, h, _ => absurd h (Nat.not_lt_zero _)
  | _, 0, _, _, _, h => absurd h (Nat.not_lt_zero _)
  | f + 1, fuel + 1, e, he, hef, hff => by
    have hn := hW.1
    have hTr' : ∀ {k w}, TreeC z T n t (OS z S k w) := TreeC_same OS_same hTr
    have e409 : ∀ {k w}, gR Y 4 409 (some (nda z T e)) (OS z S k w) = some (if e = 0 then none else some (nda z T (t 2 e))) := by intro k w; rw [eNR hY hT (by omega), (hTr' e he).2.2.2.2.2.1]
    have e412 : ∀ {k w}, gR Y 4 412 (some (nda z T e)) (OS z S k w) = some (if e = 0 then none else if t 4 e < t 4 (t 2 e) then some (nda z T (t 4 e + 1)) else none) := by intro k w; rw [eNR hY hT (by omega), (hTr' e he).2.2.2.2.2.2.2.1]
    intro k w hk
    show fX10_writeBehind_10 Y (fuel + 1) (OS z S k w) (some a) (some (nda z T e)) = _
    rw [bhF] at hk ⊢
    rw [fX10_writeBehind_10]
    refine bnd e409 ?_
    by_cases h0 : e = 0
    · rw [if_pos h0, if_pos h0]
      refine ifP rfl ?_
      rfl
    · have hu := wf_up hW he (by omega)
      rw [if_neg h0] at hk
      rw [if_neg h0, if_neg h0]
      refine ifN (by intro e; cases e) ?_
      refine bnd e412 ?_
      rw [if_neg h0]
      by_cases h4 : t 4 e < t 4 (t 2 e)
      · rw [if_pos h4] at hk
        rw [if_pos h4, if_pos h4]
        refine ifN (by intro e; cases e) ?_
        refine bnd (wo_1001 hWO) ?_
        refine bnd (drcv hY (o := 3) (by decide) rfl) ?_
        refine bnd (o_add hY hF (d := 44) (nar_pl (by decide)) k w hk) ?_
        rfl
      · rw [if_neg h4, List.length_append] at hk
        rw [if_neg h4, if_neg h4, OSA]
        refine ifP rfl ?_
        refine bnd e409 ?_
        rw [if_neg h0]
        refine bnd (eNrcv hY hT (by omega)) ?_
        refine bnd (o_hasList hY hT hTr' hW (by omega)) ?_
        by_cases hl : 4 ≤ t 0 (t 2 e) ∧ t 0 (t 2 e) ≤ 8
        · rw [if_pos hl] at hk
          rw [if_pos hl, if_pos hl]
          have hk : k + (1 + (bhF t f (t 2 e)).length) ≤ 70 := hk
          refine ifN (by decide) ?_
          refine bnd (wo_1001 hWO) ?_
          refine bnd (drcv hY (o := 3) (by decide) rfl) ?_
          refine bnd (o_add hY hF (d := 41) (nar_pl (by decide)) k w (show k + 1 ≤ 70 by omega)) ?_
          refine bnd e409 ?_
          rw [if_neg h0]
          exact o_beh10 hY hF hWO hT hTr hW f fuel (t 2 e) (by omega) (by omega) (by omega) (k + 1) _ (by omega)
        · rw [if_neg hl] at hk
          rw [if_neg hl, if_neg hl]
          refine ifP rfl ?_
          refine bnd e409 ?_
          rw [if_neg h0]
          exact o_beh10 hY hF hWO hT hTr hW f fuel (t 2 e) (by omega) (by omega) (by omega) k w (by simpa using hk)
theorem o_beh (hY : ExY z Y) (hF : FixC z S) (hWO : WO z T a Y S) (hT : isT T) (hTr : TreeC z T n t S) (hW : WF n t) (hi : i < n) : CW z S (fun q => fX10_writeBehind Y q (some a) (some (nda z T i))) (behL t i) := by
  have hn := hW.1
  intro k w hk
  have e410 : gR Y 4 410 (some (nda z T i)) (OS z S k w) = some (if 4 ≤ t 0 i then some (nda z T (i + 1)) else none) := by rw [eNR hY hT (by omega), ((TreeC_same OS_same hTr) i hi).2.2.2.2.2.2.1]
  show fX10_writeBehind Y (OS z S k w) (some a) (some (nda z T i)) = _
  unfold behL at hk ⊢
  unfold fX10_writeBehind
  refine bnd e410 ?_
  by_cases h : 4 ≤ t 0 i
  · rw [if_pos h, if_pos h]
    exact if_neg (by intro e; cases e)
  · rw [if_neg h] at hk
    rw [if_neg h, if_neg h]
    refine ifP rfl ?_
    exact o_beh10 hY hF hWO hT hTr hW 24 FU i hi (by omega) (by unfold FU; omega) k w hk
theorem txtL_mono : ∀ (d m : Nat), (txtL t m).length ≤ (txtL t (m + d)).length
  | 0, _ => Nat.le_refl _
  | d + 1, m => by
    have := txtL_mono d m
    rw [show m + (d + 1) = (m + d) + 1 from rfl, txtL, List.length_append]
    omega
theorem o_tree (hY : ExY z Y) (hF : FixC z S) (hWO : WO z T a Y S) (hT : isT T) (hTr : TreeC z T n t S) (hW : WF n t) (h801 : S.1 801 (z + T) = nI n) (hlen : (txtL t n).length ≤ 70) (w : Nat → Int32) : ∀ (d fuel i : Nat), i + d = 24 → d < fuel → fX10_writeTree_9 Y fuel (OS z S (txtL t (min i n)).length (app w 0 (txtL t (min i n)))) (some a) (nI i) = some (OS z S (txtL t n).length (app w 0 (txtL t n)))
  | _, 0, _, _, h => absurd h (Nat.not_lt_zero _)
  | 0, fuel + 1, i, hi, _ => by
    have hn := hW.1
    have : i = 24 := by omega
    subst this
    rw [fX10_writeTree_9, show min 24 n = n by omega]
    exact if_pos (by decide)
  | d + 1, fuel + 1, i, hi, hf => by
    have hn := hW.1
    have ih := o_tree hY hF hWO hT hTr hW h801 hlen w d fuel (i + 1) (by omega) (by omega)
    have h801' : ∀ {k w}, (OS z S k w).1 801 (z + T) = nI n := fun {k w} => by
      show upN S.1 701 (z + 3) (nI k) 801 (z + T) = nI n
      rw [upN_ne (Or.inl (by decide))]
      exact h801
    rw [fX10_writeTree_9]
    refine ifN (show ¬ (24 : Int32) ≤ nI i from nI_ge (b := 24) (by omega) (by decide)) ?_
    refine bnd (wo_1000 hWO) ?_
    refine bnd (drcv hY (kd_T hT).1 (kd_T hT).2.1) ?_
    by_cases hin : i < n
    · have hm := txtL_mono (t := t) (n - (i + 1)) (i + 1)
      rw [show i + 1 + (n - (i + 1)) = n by omega, txtL, List.length_append, List.length_append] at hm
      rw [show min (i + 1) n = i + 1 by omega, txtL, app_app, app_app, List.length_append, List.length_append, Nat.zero_add, ← Nat.add_assoc] at ih
      refine bnd (d_at hY (OS_fix hF) h801' hT hn hin) ?_
      refine ifN (by intro e; cases e) ?_
      refine bnd (wo_rcv hWO) ?_
      rw [show min i n = i by omega]
      refine bnd (o_head hY hF hWO hT hTr hW hin _ _ (by omega)) ?_
      refine bnd (wo_rcv hWO) ?_
      refine bnd (o_beh hY hF hWO hT hTr hW hin _ _ (by omega)) ?_
      rw [nI_1]
      exact ih
    · rw [show min (i + 1) n = n by omega] at ih
      refine bnd (d_at0 hY h801' hT hn (by omega) (by omega)) ?_
      refine ifP rfl ?_
      rw [nI_1, show min i n = n by omega]
      exact ih
theorem OS_0 : (upN S.1 701 (z + 3) 0, S.2) = OS z S 0 (S.2.2.1 (z + 4)) := by
  unfold OS
  have : va_up S.2.2.1 (z + 4) (S.2.2.1 (z + 4)) = S.2.2.1 := by
    funext q
    by_cases h : q = z + 4
    · subst h; rw [va_up_self]
    · rw [va_up_ne _ _ h]
  rw [this]
  rfl
theorem o_write (hY : ExY z Y) (hF : FixC z S) (hWO : WO z T a Y S) (hT : isT T) (hTr : TreeC z T n t S) (hW : WF n t) (h801 : S.1 801 (z + T) = nI n) (hlen : (txtL t n).length ≤ 70) : fX10_writeTree Y S (some a) = some (OS z S (txtL t n).length (app (S.2.2.1 (z + 4)) 0 (txtL t n))) := by
  have h1 : gR Y 10 1001 (some a) S = some (some (z + 3)) := by
    show (if chk Y 10 a = true then some (S.2.1 1001 a) else none) = _
    rw [if_pos hWO.1, hWO.2.2]
  unfold fX10_writeTree
  refine bnd h1 ?_
  refine bnd (drcv hY (o := 3) (by decide) rfl) ?_
  refine bnd (a := OS z S 0 (S.2.2.1 (z + 4))) ?_ ?_
  · unfold fX7_clear
    refine bnd (dpI hY (o := 3) (by decide) rfl) ?_
    rw [OS_0]
  · exact o_tree hY hF hWO hT hTr hW h801 hlen (S.2.2.1 (z + 4)) 24 FU 0 rfl (by decide)
end WRT
