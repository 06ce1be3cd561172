theorem bnd {α β : Type} {x : Option α} {f : α → Option β} {a : α} {r : Option β} (h : x = some a) (g : f a = r) : x.bind f = r := by rw [h]; exact g
theorem ifP {α : Type} {c : Prop} [Decidable c] {a b r : α} (hc : c) (h : a = r) : (if c then a else b) = r := by rw [if_pos hc]; exact h
theorem ifN {α : Type} {c : Prop} [Decidable c] {a b r : α} (hc : ¬ c) (h : b = r) : (if c then a else b) = r := by rw [if_neg hc]; exact h
def MX (b n : Nat) (t : TT) (M : HS) : Prop := FixM b M ∧ TreeM b n t M ∧ WF n t
section WF
variable {b n i j k w : Nat} {M : HS} {v : Nat → Int32} {t : TT} {x y : Int32}
theorem wf_last (hW : WF n t) (hi : i < n) : i ≤ t 4 i ∧ t 4 i < n := (hW.2.2 i hi).1
theorem wf_kind (hW : WF n t) (hi : i < n) : t 0 i < 15 := (hW.2.2 i hi).2.1
theorem wf_leaf (hW : WF n t) (hi : i < n) (h : t 0 i < 4) : t 4 i = i ∧ t 11 i = 0 := (hW.2.2 i hi).2.2.1 h
theorem wf_inner (hW : WF n t) (hi : i < n) (h : 4 ≤ t 0 i) : 1 ≤ t 11 i ∧ cN t i (t 11 i) = t 4 i + 1 ∧ ∀ j, j < t 11 i → cN t i j ≤ t 4 i ∧ t 2 (cN t i j) = i ∧ t 4 (cN t i j) ≤ t 4 i := (hW.2.2 i hi).2.2.2.1 h
theorem wf_one (hW : WF n t) (hi : i < n) (h : 9 ≤ t 0 i) : t 11 i = 1 := (hW.2.2 i hi).2.2.2.2.1 h
theorem wf_up (hW : WF n t) (hi : i < n) (h : 0 < i) : t 2 i < i ∧ i ≤ t 4 (t 2 i) ∧ 4 ≤ t 0 (t 2 i) ∧ (∃ j, j < t 11 (t 2 i) ∧ cN t (t 2 i) j = i) ∧ t 3 i = t 3 (t 2 i) + 1 := (hW.2.2 i hi).2.2.2.2.2.1 h
theorem wf_depth (hW : WF n t) (hi : i < n) : t 3 i ≤ 10 := (hW.2.2 i hi).2.2.2.2.2.2.1
theorem wf_rng (hW : WF n t) (hi : i < n) : t 1 i ≤ 9 ∧ t 5 i ≤ 7 ∧ t 6 i ≤ 6 ∧ t 7 i ≤ 99 ∧ t 8 i ≤ 7 ∧ t 9 i ≤ 6 ∧ t 10 i ≤ 99 := (hW.2.2 i hi).2.2.2.2.2.2.2.1
theorem wf_end (hW : WF n t) (hi : i < n) : cN t i (t 11 i) = t 4 i + 1 := by
  by_cases h : t 0 i < 4
  · obtain ⟨h1, h2⟩ := wf_leaf hW hi h
    rw [h1, h2]; rfl
  · exact (wf_inner hW hi (by omega)).2.1
theorem wf_ch (hW : WF n t) (hi : i < n) (hj : j < t 11 i) : 4 ≤ t 0 i ∧ cN t i j ≤ t 4 i ∧ t 2 (cN t i j) = i ∧ t 4 (cN t i j) ≤ t 4 i ∧ cN t i j < n := by
  by_cases h : t 0 i < 4
  · obtain ⟨h1, h2⟩ := wf_leaf hW hi h
    omega
  · have h2 := (wf_inner hW hi (by omega)).2.2 j hj
    have h3 := wf_last hW hi
    exact ⟨by omega, h2.1, h2.2.1, h2.2.2, by omega⟩
theorem wf_cN (hW : WF n t) (hi : i < n) : ∀ j, j ≤ t 11 i → i + j + 1 ≤ cN t i j
  | 0, _ => Nat.le_refl _
  | j + 1, h => by
    have h1 := wf_cN hW hi j (by omega)
    have h2 := wf_ch hW hi (j := j) (by omega)
    have h3 := wf_last hW h2.2.2.2.2
    rw [cN]
    omega
theorem wf_num (hW : WF n t) (hi : i < n) : t 11 i ≤ 23 := by
  have h1 := wf_cN hW hi (t 11 i) (Nat.le_refl _)
  have h2 := wf_last hW hi
  rw [wf_end hW hi] at h1
  have := hW.1
  omega
theorem wf_cNlt (hW : WF n t) (hi : i < n) : ∀ (d j : Nat), j + d ≤ t 11 i → cN t i j + d ≤ cN t i (j + d)
  | 0, j, _ => Nat.le_refl _
  | d + 1, j, h => by
    have h1 := wf_cNlt hW hi d j (by omega)
    have h2 := wf_ch hW hi (j := j + d) (by omega)
    have h3 := wf_last hW h2.2.2.2.2
    rw [show j + (d + 1) = (j + d) + 1 from rfl, cN]
    omega
theorem wf_cNinj (hW : WF n t) (hi : i < n) (hj : j < t 11 i) (hk : k < t 11 i) (h : cN t i j = cN t i k) : j = k := by
  rcases Nat.lt_trichotomy j k with h1 | h1 | h1
  · have := wf_cNlt hW hi (k - j) j (by omega)
    rw [show j + (k - j) = k by omega] at this
    omega
  · exact h1
  · have := wf_cNlt hW hi (j - k) k (by omega)
    rw [show k + (j - k) = j by omega] at this
    omega
end WF
section ML
variable {b n i j k w : Nat} {M : HS} {v : Nat → Int32} {t : TT} {x y : Int32}
theorem xT (hX : MX b n t M) {c : Nat} (hc : c < 11) (h2 : c ≠ 2) (hi : i < n) : gA (Ym b) 14 (some (b + (6 + c))) (nI i) (SV b M v) = some (nI (t c i)) := mT hX.2.1 hX.2.2.1 hc h2 hi
theorem m_ch38 (hX : MX b n t M) (hi : i < n) (hk : k ≤ t 11 i) : fX12_childOf_38 (Ym b) (SV b M v) (some b) (nI i) (nI (cN t i k)) = some (if k < t 11 i then nI (cN t i k) else -1) := by
  have hn := hX.2.2.1
  have hl := wf_last hX.2.2 hi
  have hkd := wf_kind hX.2.2 hi
  unfold fX12_childOf_38
  refine bnd (mR1213 (SV_fix hX.1)) (bnd (xT (c := 4) hX (by omega) (by omega) hi) ?_)
  by_cases h : k < t 11 i
  · have hc := wf_ch hX.2.2 hi h
    rw [if_pos h]
    refine ifN (nI_nlt (by omega) (by omega)) ?_
    refine bnd (mR1209 (SV_fix hX.1)) (bnd (xT (c := 0) hX (by omega) (by omega) hi) ?_)
    refine ifN (nI_ge (a := 3) (by omega) (by omega)) ?_
    rfl
  · have he : k = t 11 i := by omega
    subst he
    rw [wf_end hX.2.2 hi, if_neg h]
    refine ifP (nI_lt (by omega) (by omega)) ?_
    rfl
theorem m_ch7 (hX : MX b n t M) (hi : i < n) (hj : j < 2 ^ 31) : ∀ (m fuel k : Nat), k + m = t 11 i → m < fuel → k ≤ j → fX12_childOf_7 (Ym b) (SV b M v) fuel (some b) (nI i) (nI j) (nI (cN t i k)) (nI k) = some (if j < t 11 i then nI (cN t i j) else -1)
  | _, 0, _, _, h, _ => absurd h (Nat.not_lt_zero _)
  | m, fuel + 1, k, he, hm, hkj => by
    have hn := hX.2.2.1
    have hl := wf_last hX.2.2 hi
    have hnum := wf_num hX.2.2 hi
    rw [fX12_childOf_7]
    by_cases h1 : j ≤ k
    · have : k = j := by omega
      subst this
      refine ifP (nI_le (by omega) (by omega)) ?_
      exact m_ch38 hX hi (by omega)
    · refine ifN (nI_ge (by omega) (by omega)) ?_
      refine bnd (mR1213 (SV_fix hX.1)) (bnd (xT (c := 4) hX (by omega) (by omega) hi) ?_)
      cases m with
      | zero =>
        have : k = t 11 i := by omega
        subst this
        rw [if_neg (show ¬ j < t 11 i by omega)]
        have h38 := m_ch38 (v := v) hX hi (Nat.le_refl (t 11 i))
        rw [if_neg (Nat.lt_irrefl _)] at h38
        rw [h38, wf_end hX.2.2 hi]
        refine ifP (nI_lt (by omega) (by omega)) ?_
        rfl
      | succ m =>
        have hc := wf_ch hX.2.2 hi (j := k) (by omega)
        refine ifN (nI_nlt (by omega) (by omega)) ?_
        refine bnd (mR1213 (SV_fix hX.1)) (bnd (xT (c := 4) hX (by omega) (by omega) hc.2.2.2.2) ?_)
        rw [nI_1, nI_1]
        exact m_ch7 hX hi hj m fuel (k + 1) (by omega) (by omega) (by omega)
theorem m_childOf (hX : MX b n t M) (hi : i < n) (hj : j < 2 ^ 31) : fX12_childOf (Ym b) (SV b M v) (some b) (nI i) (nI j) = some (if j < t 11 i then nI (cN t i j) else -1) := by
  have hnum := wf_num hX.2.2 hi
  unfold fX12_childOf
  rw [nI_1]
  exact m_ch7 hX hi hj (t 11 i) FU 0 (by omega) (by unfold FU; omega) (by omega)
theorem m_child (hX : MX b n t M) (hi : i < n) (hj : j < t 11 i) : fX12_childOf (Ym b) (SV b M v) (some b) (nI i) (nI j) = some (nI (cN t i j)) := by
  have hnum := wf_num hX.2.2 hi
  rw [m_childOf hX hi (by omega), if_pos hj]
theorem m_chn2 (hX : MX b n t M) (hi : i < n) : ∀ (m fuel k : Nat), k + m = t 11 i → m < fuel → fX12_children_2 (Ym b) (SV b M v) fuel (some b) (nI i) (nI k) = some (nI (t 11 i))
  | _, 0, _, _, h => absurd h (Nat.not_lt_zero _)
  | m, fuel + 1, k, he, hm => by
    have hn := hX.2.2.1
    have hnum := wf_num hX.2.2 hi
    rw [fX12_children_2]
    refine bnd mrcv ?_
    refine bnd (m_childOf hX hi (by omega)) ?_
    cases m with
    | zero =>
      have : k = t 11 i := by omega
      subst this
      rw [if_neg (Nat.lt_irrefl _)]
      refine ifP (by decide) ?_
      rfl
    | succ m =>
      have hc := wf_ch hX.2.2 hi (j := k) (by omega)
      rw [if_pos (show k < t 11 i by omega)]
      refine ifN (nI_pos (by omega)) ?_
      rw [nI_1]
      exact m_chn2 hX hi m fuel (k + 1) (by omega) (by omega)
theorem m_children (hX : MX b n t M) (hi : i < n) : fX12_children (Ym b) (SV b M v) (some b) (nI i) = some (nI (t 11 i)) := by
  have hnum := wf_num hX.2.2 hi
  unfold fX12_children
  exact m_chn2 hX hi (t 11 i) FU 0 (by omega) (by unfold FU; omega)
/-- a node's end is run -/
def endV (t : TT) (v : Nat → Int32) (i : Nat) : Nat → Int32 :=
  if t 9 i = 0 then v else upd (upd v (plN t (t 8 i) i) (eff (t 9 i) (nI (t 10 i)) (v (plN t (t 8 i) i)))) 291 (upd v (plN t (t 8 i) i) (eff (t 9 i) (nI (t 10 i)) (v (plN t (t 8 i) i))) 291 + 1)
theorem m_ends (hX : MX b n t M) (hi : i < n) : fX12_ends (Ym b) (SV b M v) (some b) (nI i) = some (SV b M (endV t v i)) := by
  have hn := hX.2.2.1
  have hr := wf_rng hX.2.2 hi
  unfold fX12_ends endV
  refine bnd (mR1218 (SV_fix hX.1)) (bnd (xT (c := 9) hX (by omega) (by omega) hi) ?_)
  by_cases h : t 9 i = 0
  · rw [if_pos h]
    refine ifP (nIe h) ?_
    rfl
  · rw [if_neg h]
    refine ifN (nI_ne0 (by omega) (by omega)) ?_
    refine bnd (mR1217 (SV_fix hX.1)) (bnd (xT (c := 8) hX (by omega) (by omega) hi) ?_)
    refine bnd (mR1218 (SV_fix hX.1)) (bnd (xT (c := 9) hX (by omega) (by omega) hi) ?_)
    refine bnd (mR1219 (SV_fix hX.1)) (bnd (xT (c := 10) hX (by omega) (by omega) hi) ?_)
    refine bnd mrcv ?_
    refine bnd (m_does hX.1 hX.2.1 hX.2.2 hr.2.2.2.2.1 (by omega) hi) ?_
    refine bnd (mR1200 (SV_fix hX.1)) ?_
    refine bnd (SV_gA (j := 291) (by omega)) ?_
    refine bnd (SV_pA (j := 291) (by omega)) ?_
    rfl
/-- one node is aborted -/
def abV1 (t : TT) (v : Nat → Int32) (k : Nat) : Nat → Int32 :=
  let v1 := upd v (11 * k + 0) 0
  let v2 := upd v1 (11 * k + 9) (v1 (11 * k + 9) + 1)
  let v3 := upd v2 290 (v2 290 + 1)
  endV t (tellV v3 k 4) k
def abV (t : TT) (v : Nat → Int32) (k : Nat) : Nat → Int32 := if v (11 * k + 0) = 0 then v else abV1 t v k
/-- the running ones of lo, .., lo + m - 1 are aborted, the last first -/
def stopV (t : TT) (lo : Nat) : Nat → (Nat → Int32) → Nat → Int32
  | 0, v => v
  | m + 1, v => stopV t lo m (abV t v (lo + m))
theorem plN_ne (hW : WF n t) {key : Nat} (hk : key ≤ 7) (hi : i < n) : plN t key i < 272 ∧ (plN t key i < 264 → plN t key i % 11 = 4) := by
  unfold plN
  have hn := hW.1
  cases h : scO t key i with
  | none => exact ⟨show 264 + key < 272 by omega, fun h => absurd h (by show ¬ 264 + key < 264; omega)⟩
  | some u =>
    have := (scO_lt hW hi h).1
    exact ⟨show 11 * u + 4 < 272 by omega, fun _ => by show (11 * u + 4) % 11 = 4; omega⟩
theorem endV_290 (hX : MX b n t M) (hi : i < n) : endV t v i 290 = v 290 := by
  have hp := plN_ne hX.2.2 (wf_rng hX.2.2 hi).2.2.2.2.1 hi
  unfold endV
  split
  · rfl
  · rw [pk_un (by omega), pk_un (by omega)]
theorem tellV_lo (h : k < 294) : tellV v i x k = v k := by
  unfold tellV
  rw [if_neg (by omega), if_neg (by omega), if_neg (by omega), if_neg (by omega)]
theorem abV1_290 (hX : MX b n t M) (hk : k < n) : abV1 t v k 290 = v 290 + 1 := by
  have hn := hX.2.2.1
  unfold abV1
  rw [endV_290 hX hk, tellV_lo (by omega), pk_us, pk_un (by omega), pk_un (by omega)]
theorem i32a (l x y : Int32) : l + 1 + (x - (y + 1)) = l + (x - y) := by grind
theorem i32b (l x : Int32) : l + (x - x) = l := by grind
theorem m_ab9 (hX : MX b n t M) (lo : Nat) : ∀ (m fuel : Nat) (v : Nat → Int32) (c : Int32), lo + m ≤ n → m < fuel → fX12_aborts_9 (Ym b) fuel (SV b M v) (some b) (nI lo) c (nI (lo + m) + (-1)) = some (SV b M (stopV t lo m v), c + (stopV t lo m v 290 - v 290))
  | _, 0, _, _, _, h => absurd h (Nat.not_lt_zero _)
  | 0, fuel + 1, v, c, hle, hm => by
    have hn := hX.2.2.1
    rw [fX12_aborts_9, stopV, i32b]
    refine ifP ?_ rfl
    cases lo with
    | zero => decide
    | succ lo =>
      rw [Nat.add_zero, pk_m1]
      exact nI_lt (by omega) (by omega)
  | m + 1, fuel + 1, v, c, hle, hm => by
    have hn := hX.2.2.1
    rw [fX12_aborts_9, show lo + (m + 1) = lo + m + 1 from rfl, pk_m1, stopV]
    refine ifN (nI_nlt (by omega) (by omega)) ?_
    refine bnd mrcv ?_
    refine bnd (m_of (w := 0) hX.1 rfl (by omega)) ?_
    by_cases h : v (11 * (lo + m) + 0) = 0
    · refine ifP h ?_
      rw [abV, if_pos h]
      exact m_ab9 hX lo m fuel v c (by omega) (by omega)
    · refine ifN h ?_
      rw [abV, if_neg h]
      refine bnd mrcv ?_
      refine bnd (m_sets (w := 0) hX.1 rfl (by omega)) ?_
      refine bnd mrcv ?_
      refine bnd (m_adds (w := 9) hX.1 rfl (by omega)) ?_
      refine bnd (mR1200 (SV_fix hX.1)) ?_
      refine bnd (SV_gA (j := 290) (by omega)) ?_
      refine bnd (SV_pA (j := 290) (by omega)) ?_
      refine bnd mrcv ?_
      refine bnd (m_tells hX.1) ?_
      refine bnd mrcv ?_
      refine bnd (m_ends hX (by omega)) ?_
      refine (m_ab9 hX lo m fuel (abV1 t v (lo + m)) (c + 1) (by omega) (by omega)).trans ?_
      rw [abV1_290 hX (by omega), i32a]
theorem m_aborts (hX : MX b n t M) (hi : i < n) : fX12_aborts (Ym b) (SV b M v) (some b) (nI i) = some (SV b M (stopV t i (t 4 i + 1 - i) v), stopV t i (t 4 i + 1 - i) v 290 - v 290) := by
  have hn := hX.2.2.1
  have hl := wf_last hX.2.2 hi
  unfold fX12_aborts
  refine bnd (mR1213 (SV_fix hX.1)) (bnd (xT (c := 4) hX (by omega) (by omega) hi) ?_)
  have h := m_ab9 hX i (t 4 i + 1 - i) FU v 0 (by omega) (by unfold FU; omega)
  rw [show i + (t 4 i + 1 - i) = t 4 i + 1 by omega, pk_m1, Int32.zero_add] at h
  exact h
/-- two neighbouring ranges -/
theorem stopV_cat (t : TT) (lo : Nat) : ∀ (m : Nat) (k : Nat) (v : Nat → Int32), stopV t lo (k + m) v = stopV t lo k (stopV t (lo + k) m v)
  | 0, _, _ => rfl
  | m + 1, k, v => by
    rw [show k + (m + 1) = (k + m) + 1 from rfl, stopV, stopV, stopV_cat t lo m k, Nat.add_assoc]
/-- the children from j on, the last first -/
theorem m_go110 (hX : MX b n t M) (hi : i < n) {g : Int32} : ∀ (m fuel : Nat) (v : Nat → Int32), m ≤ t 11 i → m < fuel → fX12_goesOn_110 (Ym b) fuel (SV b M v) (some b) (nI i) g (nI m + (-1)) = some (SV b M (stopV t (i + 1) (cN t i m - (i + 1)) v), if g < nI (t 1 i) then 3 else 2)
  | _, 0, _, _, h => absurd h (Nat.not_lt_zero _)
  | 0, fuel + 1, v, _, hm => by
    rw [fX12_goesOn_110, show cN t i 0 - (i + 1) = 0 from Nat.sub_self _, stopV]
    refine ifP (by decide) ?_
    refine bnd (mR1210 (SV_fix hX.1)) (bnd (xT (c := 1) hX (by omega) (by omega) hi) ?_)
    split <;> rfl
  | m + 1, fuel + 1, v, hle, hm => by
    have hn := hX.2.2.1
    have hnum := wf_num hX.2.2 hi
    have hc := wf_ch hX.2.2 hi (j := m) (by omega)
    have hl := wf_last hX.2.2 hc.2.2.2.2
    have hs := wf_cN hX.2.2 hi m (by omega)
    rw [fX12_goesOn_110, pk_m1]
    refine ifN (nI_pos (by omega)) ?_
    refine bnd mrcv ?_
    refine bnd (m_child hX hi (by omega)) ?_
    refine bnd mrcv ?_
    refine bnd (m_aborts hX hc.2.2.2.2) ?_
    refine (m_go110 hX hi m fuel _ (by omega) (by omega)).trans ?_
    rw [cN]
    have e := stopV_cat t (i + 1) (t 4 (cN t i m) + 1 - cN t i m) (cN t i m - (i + 1)) v
    rw [show cN t i m - (i + 1) + (t 4 (cN t i m) + 1 - cN t i m) = t 4 (cN t i m) + 1 - (i + 1) by omega, show i + 1 + (cN t i m - (i + 1)) = cN t i m by omega] at e
    rw [e]
theorem m_he163 (hX : MX b n t M) (hi : i < n) {g : Int32} : ∀ (m fuel j : Nat) (v : Nat → Int32), j + 1 + m ≤ t 11 i → m < fuel → fX12_hears_163 (Ym b) fuel (SV b M v) (some b) (nI i) g (nI j) (nI (j + m)) = some (SV b M (stopV t (cN t i (j + 1)) (cN t i (j + 1 + m) - cN t i (j + 1)) v), g)
  | _, 0, _, _, _, h => absurd h (Nat.not_lt_zero _)
  | 0, fuel + 1, j, v, hle, hm => by
    have hnum := wf_num hX.2.2 hi
    rw [fX12_hears_163, Nat.add_zero, Nat.add_zero, Nat.sub_self, stopV]
    refine ifP (nI_le (by omega) (by omega)) ?_
    rfl
  | m + 1, fuel + 1, j, v, hle, hm => by
    have hn := hX.2.2.1
    have hnum := wf_num hX.2.2 hi
    have hc := wf_ch hX.2.2 hi (j := j + (m + 1)) (by omega)
    have hl := wf_last hX.2.2 hc.2.2.2.2
    have hs := wf_cNlt hX.2.2 hi m (j + 1) (by omega)
    rw [show j + 1 + m = j + (m + 1) by omega] at hs
    rw [fX12_hears_163]
    refine ifN (nI_ge (by omega) (by omega)) ?_
    refine bnd mrcv ?_
    refine bnd (m_child hX hi (by omega)) ?_
    refine bnd mrcv ?_
    refine bnd (m_aborts hX hc.2.2.2.2) ?_
    rw [show j + (m + 1) = j + m + 1 from rfl, pk_m1]
    refine (m_he163 hX hi m fuel j _ (by omega) (by omega)).trans ?_
    rw [show cN t i (j + 1 + (m + 1)) = t 4 (cN t i (j + (m + 1))) + 1 from by rw [show j + 1 + (m + 1) = (j + (m + 1)) + 1 by omega]; rfl, show j + 1 + m = j + (m + 1) by omega]
    have e := stopV_cat t (cN t i (j + 1)) (t 4 (cN t i (j + (m + 1))) + 1 - cN t i (j + (m + 1))) (cN t i (j + (m + 1)) - cN t i (j + 1)) v
    rw [show cN t i (j + (m + 1)) - cN t i (j + 1) + (t 4 (cN t i (j + (m + 1))) + 1 - cN t i (j + (m + 1))) = t 4 (cN t i (j + (m + 1))) + 1 - cN t i (j + 1) by omega, show cN t i (j + 1) + (cN t i (j + (m + 1)) - cN t i (j + 1)) = cN t i (j + (m + 1)) by omega] at e
    rw [e]
    rfl
theorem m_asks (hX : MX b n t M) (hi : i < n) (hj : j < t 11 i) : fX12_asks (Ym b) (SV b M v) (some b) (nI i) (nI j) = some (SV b M (upd (upd v (11 * i + 5) (nI j)) 284 (nI (cN t i j))), 0) := by
  have hn := hX.2.2.1
  unfold fX12_asks
  refine bnd mrcv ?_
  refine bnd (m_sets (w := 5) hX.1 rfl (by omega)) ?_
  refine bnd (mR1200 (SV_fix hX.1)) ?_
  refine bnd mrcv ?_
  refine bnd (m_child hX hi hj) ?_
  refine bnd (SV_pA (j := 284) (by omega)) ?_
  rfl
/-- how many bits of the first m are set -/
def bitN (x : Int32) : Nat → Nat
  | 0 => 0
  | m + 1 => bitN x m + (if bitOf x m = true then 1 else 0)
end ML
