/-! readTree: a node's beginning, both programs -/
def TCR (z T n : Nat) (t : TT) (S : HS) : Prop := (∀ i, i < n → NS z T t i S) ∧ (∀ i, i < n → ND z T t i S) ∧ (∀ i, i < n → LVZ z T i S) ∧ S.1 801 (z + T) = nI n
def STC (t : TT) (A : Nat → Nat → Int32) (i : Nat) : Prop := (A 5 i = nI (t 5 i) ∧ t 5 i ≤ 7) ∧ (A 7 i = nI (t 7 i) ∧ t 7 i ≤ 99) ∧ (A 8 i = nI (t 8 i) ∧ t 8 i ≤ 7) ∧ (A 10 i = nI (t 10 i) ∧ t 10 i ≤ 99)
def ARR (n : Nat) (t : TT) (stk : List Nat) (A : Nat → Nat → Int32) : Prop := (∀ c, c < 11 → c ≠ 4 → ∀ i, i < n → A c i = if c = 2 ∧ i = 0 then -1 else nI (t c i)) ∧ (∀ i, i < n → i ∉ stk → A 4 i = nI (t 4 i)) ∧ ∀ i, i < 24 → STC t A i
def STAA (A : Nat → Nat → Int32) : Prop := ∀ i, i < 24 → STRR (fun c => A c i)
def OPR : List Nat → (Nat → Int32) → Prop
  | [], _ => True
  | s :: r, op => op r.length = nI s ∧ OPR r op
/-- what stays while a text is read -/
def BAS (z T a b K : Nat) (L : Nat → Nat) (Y : LY) (S0 M : HS) : Prop := ExY z Y ∧ isT T ∧ MB b K L M ∧ TXC z K L S0 ∧ FixC z S0 ∧ z + 269 ≤ a
/-- the state between two nodes -/
def PST (z T a K : Nat) (Y : LY) (S0 : HS) (n : Nat) (t : TT) (stk : List Nat) (o : Nat) (S : HS) (A : Nat → Nat → Int32) (op : Nat → Int32) : Prop := PT n t stk ∧ (∀ i, i < n → DT t i) ∧ TCR z T n t S ∧ ARR n t stk A ∧ OPR stk op ∧ FRG z T a S0 S ∧ PO z T a Y S o ∧ o ≤ K
/-- the tree with a node more and its data -/
def HT (t : TT) (n k : Nat) (stk : List Nat) (nb key s w ek es ew : Nat) : TT := fun c i => if i = n then (if c = 1 then nb else if c = 5 then key else if c = 6 then s else if c = 7 then w else if c = 8 then ek else if c = 9 then es else if c = 10 then ew else att t n k stk c n) else att t n k stk c i
def vUp (n : Nat) (stk : List Nat) : Int32 := if n = 0 then -1 else nI (stk.headD 0)
section BEG
variable {z T a b n i j k c d e o o1 K key s w nb ek es ew m x p : Nat} {L : Nat → Nat} {M S S0 S1 S2 S3 : HS} {Y : LY} {v dp : Int32} {t t1 : TT} {A : Nat → Nat → Int32} {op ρ : Nat → Int32} {kN : HS → Option Nat → Option Nat → Int32 → Option (HS × Int32)} {stk r : List Nat}
theorem FRG_rfl : FRG z T a S S := ⟨rfl, fun _ _ _ _ _ => ⟨rfl, rfl⟩, fun _ => rfl, fun _ _ _ => rfl⟩
theorem FRG_trans (h1 : FRG z T a S S1) (h2 : FRG z T a S1 S2) : FRG z T a S S2 := ⟨h2.1.trans h1.1, fun f x a1 a2 a3 => ⟨((h2.2.1 f x a1 a2 a3).1).trans (h1.2.1 f x a1 a2 a3).1, ((h2.2.1 f x a1 a2 a3).2).trans (h1.2.1 f x a1 a2 a3).2⟩, fun x => (h2.2.2.1 x).trans (h1.2.2.1 x), fun f x q => (h2.2.2.2 f x q).trans (h1.2.2.2 f x q)⟩
theorem FRG_ofs : FRG z T a S (OFS S a o) := ⟨rfl, fun f x _ _ h => ⟨upN_ne (by by_cases q : f = 502; exact Or.inr (fun q1 => h ⟨q, q1⟩); exact Or.inl q), rfl⟩, fun _ => rfl, fun _ _ _ => rfl⟩
theorem FRG_hfr (hn : n < 24) (h : HFR z T a n S S1) : FRG z T a S S1 := by
  have hr : ∀ x, x = nda z T n ∨ x = cla z T n ∨ x = ena z T n → reg z T x := fun x q => hof_reg hn (by unfold HOFn; omega)
  refine ⟨h.1, fun f x h1 h2 h3 => ⟨h.2.1 f x h3 (fun q => h1 (hr x (Or.inl q.2))) (fun q => h1 (hr x (Or.inr q.2))), h.2.2 f x (fun q => h1 (hr x (Or.inr q.2)))⟩, fun x => h.2.1 400 x (by omega) (by omega) (by omega), fun f x q => h.2.2 f x (fun y => q (Or.inl y.1))⟩
theorem FixC_frg (h : FRG z T a S S1) (hF : FixC z S) : FixC z S1 := by
  have key : ∀ f ∈ fixR, ¬ (f = 104 ∨ f = 302 ∨ (408 ≤ f ∧ f ≤ 413)) := by decide
  exact FixC_congr (fun f x hf => h.2.2.2 f x (key f (by simpa using hf))) h.2.2.1 (by rw [h.1]) hF
theorem TXC_frg (h : FRG z T a S S1) (hT : TXC z K L S) (ha : z + 269 ≤ a) (hTT : isT T) : TXC z K L S1 := by
  have hr : ¬ reg z T (z + 1) := by unfold reg; omega
  have h1 := h.2.1 701 (z + 1) hr (by omega) (by omega)
  have h2 := h.2.1 700 (z + 1) hr (by omega) (by omega)
  refine ⟨h1.1.trans hT.1, h2.2.trans hT.2.1, hT.2.2.1, fun j hj => ⟨(hT.2.2.2 j hj).1, ?_⟩⟩
  rw [h.1]
  exact (hT.2.2.2 j hj).2
theorem HT_shape (h : c = 0 ∨ c = 2 ∨ c = 3 ∨ c = 4 ∨ c = 11) : HT t n k stk nb key s w ek es ew c = att t n k stk c := by
  funext i
  unfold HT
  by_cases hi : i = n
  · rw [if_pos hi, if_neg (by omega), if_neg (by omega), if_neg (by omega), if_neg (by omega), if_neg (by omega), if_neg (by omega), if_neg (by omega), hi]
  · rw [if_neg hi]
theorem HT_nx : NXN n k t (HT t n k stk nb key s w ek es ew) stk := ⟨fun c h => HT_shape h, fun c i h h4 h11 => (if_neg h).trans (att_c h h4 h11)⟩
theorem att_nx : NXN n k t (att t n k stk) stk := ⟨fun _ _ => rfl, fun _ _ h h4 h11 => att_c h h4 h11⟩
theorem scO_n (h : ∀ j, j < n → t1 0 j = t 0 j ∧ t1 1 j = t 1 j ∧ t1 2 j = t 2 j) (h2 : t1 2 n = t 2 n) (hp : ∀ j, j ≤ n → 0 < j → t 2 j < j) : scO t1 key n = scO t key n := by
  unfold scO
  by_cases h0 : n = 0
  · rw [if_pos h0, if_pos h0]
  · rw [if_neg h0, if_neg h0, h2, scF_congr h (fun j hj h1 => hp j (by omega) h1) 24 (t 2 n) (hp n (Nat.le_refl _) (by omega))]
theorem opr_upd : ∀ (stk : List Nat) (op : Nat → Int32) (m : Nat) (x : Int32), stk.length ≤ m → OPR stk op → OPR stk (upd op m x)
  | [], _, _, _, _, _ => trivial
  | s :: r, op, m, x, h, hO => by
    rw [List.length_cons] at h
    exact ⟨(pk_un (by omega)).trans hO.1, opr_upd r op m x (by omega) hO.2⟩
theorem staa_of (h : ∀ i, i < 24 → STC t A i) : STAA A := fun i hi => ⟨⟨_, (h i hi).1.2, (h i hi).1.1⟩, ⟨_, (h i hi).2.1.2, (h i hi).2.1.1⟩, ⟨_, (h i hi).2.2.1.2, (h i hi).2.2.1.1⟩, ⟨_, (h i hi).2.2.2.2, (h i hi).2.2.2.1⟩⟩
theorem staa_rw (h : ∀ i, i < 24 → STC t A i) (hr : STRR ρ) : STAA (RW A n ρ) := fun i hi => by
  by_cases q : i = n
  · have e : (fun c => RW A n ρ c i) = ρ := by
      funext c
      exact if_pos q
    rw [e]
    exact hr
  · have e : (fun c => RW A n ρ c i) = fun c => A c i := by
      funext c
      exact if_neg q
    rw [e]
    exact staa_of h i hi
/-! the reference's beginning -/
theorem kd_tab : ∀ c, c < 128 → (if nI c = 33 then some (9 : Int32) else if nI c = 61 then some 3 else if nI c = 63 then some 2 else if nI c = 70 then some 7 else if nI c = 83 then some 6 else if nI c = 97 then some 0 else if nI c = 102 then some 5 else if nI c = 103 then some 12 else if nI c = 108 then some 14 else if nI c = 112 then some 8 else if nI c = 114 then some 10 else if nI c = 115 then some 4 else if nI c = 116 then some 11 else if nI c = 119 then some 13 else if nI c = 120 then some 1 else some (-1)) = some (pls 0 (nI c)) := by decide +kernel
theorem pls_tab : ∀ c, c < 128 → pls 0 (nI c) = -1 ∨ ∃ k, k < 15 ∧ pls 0 (nI c) = nI k := by
  have h : ∀ c, c < 128 → pls 0 (nI c) = -1 ∨ ((pls 0 (nI c)).toNatClampNeg < 15 ∧ pls 0 (nI c) = nI (pls 0 (nI c)).toNatClampNeg) := by decide +kernel
  intro c hc
  rcases h c hc with h | h
  · exact Or.inl h
  · exact Or.inr ⟨_, h⟩
theorem r_kind (hB : MB b K L M) (o : Nat) {S : HS} : fX12_kindOf (Ym b) S (hr L K o) = some (pls 0 (hr L K o)) := by
  obtain ⟨c, ⟨h1, h2, h3, h4⟩ | ⟨h2, h4⟩⟩ := hr_rng hB o
  · rw [h4]
    unfold fX12_kindOf
    exact kd_tab c (by omega)
  · rw [h4]
    rfl
theorem pls_cases (hB : MB b K L M) (o : Nat) : pls 0 (hr L K o) = -1 ∨ ∃ k, k < 15 ∧ pls 0 (hr L K o) = nI k ∧ o < K := by
  obtain ⟨c, ⟨h1, h2, h3, h4⟩ | ⟨h2, h4⟩⟩ := hr_rng hB o
  · rw [h4]
    rcases pls_tab c (by omega) with h | ⟨k, g1, g2⟩
    · exact Or.inl h
    · exact Or.inr ⟨k, g1, g2, h2⟩
  · rw [h4]
    exact Or.inl (if_neg (by decide))
theorem r_40_f {l1 : Int32} : fX12_begins_40 (Ym b) (RdM b M A op o n d 0 0) (some b) l1 (some b) 0 1 = some (RdM b M A op o n d 1 0) := by
  unfold fX12_begins_40
  refine bnd (w1222 (Or.inr rfl)) ?_
  refine bnd q1222 ?_
  exact if_neg (by decide)
theorem r_begins_no (hB : MB b K L M) (ho : o ≤ K) (hn : n ≤ 24) (hd : d ≤ 10) (h : pls 0 (hr L K o) = -1 ∨ n = 24 ∨ d = 10) : fX12_begins (Ym b) (RdM b M A op o n d 0 0) (some b) = some (RdM b M A op o n d 1 0) := by
  unfold fX12_begins
  refine bnd mrcv ?_
  refine bnd (r_here hB ho) ?_
  refine bnd (r_kind hB o) ?_
  refine bnd q1222 ?_
  by_cases h1 : pls 0 (hr L K o) < 0
  · refine ifP h1 ?_
    exact r_40_f
  · refine ifN h1 ?_
    refine bnd q1221 ?_
    by_cases h2 : n = 24
    · refine ifP (by rw [h2]; rfl) ?_
      exact r_40_f
    · refine ifN (nIn h2 (by omega) (by omega)) ?_
      refine bnd q1235 ?_
      by_cases h3 : d = 10
      · refine ifP (by rw [h3]; rfl) ?_
        exact r_40_f
      · rcases h with h | h | h
        · rw [h] at h1
          exact absurd (by decide) h1
        · exact absurd h h2
        · exact absurd h h3
/-- the row that the reference writes first -/
def row0 (A : Nat → Nat → Int32) (n k : Nat) : Nat → Int32 := upd (upd (upd (upd (fun c => A c n) 0 (nI k)) 1 0) 6 0) 9 0
theorem r_begins_ok (hB : MB b K L M) (ho : o ≤ K) (hn : n < 24) (hl : stk.length < 10) (hk : k < 15) (hkd : pls 0 (hr L K o) = nI k) (hop : OPR stk op) (hE : EX n t stk) : fX12_begins (Ym b) (RdM b M A op o n stk.length 0 0) (some b) = DSP b (RdM b M (RW A n (upd (upd (row0 A n k) 2 (vUp n stk)) 3 (nI (stk.length + 1)))) op (o + 1) (n + 1) stk.length 0 0) k n := by
  have h40 : fX12_begins_40 (Ym b) (RdM b M A op o n stk.length 0 0) (some b) (nI k) (some b) 0 0 = DSP b (RdM b M (RW A n (upd (upd (row0 A n k) 2 (vUp n stk)) 3 (nI (stk.length + 1)))) op (o + 1) (n + 1) stk.length 0 0) k n := by
    unfold fX12_begins_40
    refine bnd (w1222 (Or.inl rfl)) ?_
    refine bnd q1222 ?_
    refine ifP (by decide) ?_
    refine bnd q1220 ?_
    refine bnd (w1220 (nI_1 o)) ?_
    refine bnd q1221 ?_
    refine bnd q1221 ?_
    refine bnd (w1221 (nI_1 n)) ?_
    refine bnd (mR1223 hB.1) ?_
    refine bnd (a := RdM b M (RW A n (upd (fun c => A c n) 0 (nI k))) op (o + 1) (n + 1) stk.length (0 ||| 0) 0) ?_ ?_
    · rw [show b + 17 = b + (17 + 0) from rfl, wA (by omega) hn]
      have e : upN A 0 n (nI k) = RW A n (upd (fun c => A c n) 0 (nI k)) := by
        have := RW_up (A := A) (n := n) (ρ := fun c => A c n) (c := 0) (v := nI k)
        rw [RW_self] at this
        exact this
      rw [e]
    refine bnd (mR1224 hB.1) ?_
    refine bnd (wRow (c := 1) (by omega) hn) ?_
    refine bnd (mR1229 hB.1) ?_
    refine bnd (wRow (c := 6) (by omega) hn) ?_
    refine bnd (mR1232 hB.1) ?_
    refine bnd (wRow (c := 9) (by omega) hn) ?_
    refine bnd (mR1225 hB.1) ?_
    refine bnd q1235 ?_
    rcases hE with ⟨rfl, rfl⟩ | ⟨h0, p, r, rfl, -⟩
    · refine ifP rfl ?_
      refine r_132 hB hn ?_
      rfl
    · have hlen : (p :: r).length = r.length + 1 := List.length_cons
      refine ifN (by rw [hlen]; exact nI_ne0 (by omega) (by omega)) ?_
      refine bnd (mR1234 hB.1) ?_
      refine bnd q1235 ?_
      have e1 : nI (p :: r).length - 1 = nI r.length := by rw [hlen, show (1 : Int32) = nI 1 from rfl, pk_sub (by omega), Nat.add_sub_cancel]
      rw [e1]
      refine bnd (qO (by rw [hlen] at hl; omega)) ?_
      rw [hop.1]
      have ev : vUp n (p :: r) = nI p := if_neg (by omega)
      rw [ev]
      refine r_132 hB hn ?_
      rfl
  unfold fX12_begins
  refine bnd mrcv ?_
  refine bnd (r_here hB ho) ?_
  refine bnd (r_kind hB o) ?_
  refine bnd q1222 ?_
  rw [hkd]
  refine ifN (nI_pos (by omega)) ?_
  refine bnd q1221 ?_
  refine ifN (nIn (show n ≠ 24 by omega) (by omega) (by omega)) ?_
  refine bnd q1235 ?_
  refine ifN (nIn (show stk.length ≠ 10 by omega) (by omega) (by omega)) ?_
  exact h40
/-- the reference's loop, a round -/
theorem r_25 {f : Nat} : fX12_readTree_25 (Ym b) (f + 1) (RdM b M A op o n d 0 1) (some b) = (fX12_begins (Ym b) (RdM b M A op o n d 0 0) (some b)).bind fun S45 => (gI (Ym b) 12 1236 (some b) S45).bind fun v49 => if v49 = 0 then (rcv (Ym b) 12 (some b)).bind fun _ => (fX12_goesUp (Ym b) S45 (some b)).bind fun S56 => fX12_readTree_25 (Ym b) f S56 (some b) else fX12_readTree_25 (Ym b) f S45 (some b) := by
  rw [fX12_readTree_25]
  refine bnd q1236 ?_
  refine ifN (by decide) ?_
  refine bnd q1222 ?_
  refine ifP rfl ?_
  refine bnd (w1236 (Or.inl rfl)) ?_
  refine bnd mrcv ?_
  rfl
theorem r_25_out {f : Nat} {fl : Int32} : fX12_readTree_25 (Ym b) (f + 1) (RdM b M A op o n d fl 0) (some b) = fX12_readTree_62 (Ym b) (RdM b M A op o n d fl 0) (some b) := by
  rw [fX12_readTree_25]
  refine bnd q1236 ?_
  exact if_pos rfl
theorem r_up_f {g : Nat} (hd : d < 2 ^ 31) : fX12_goesUp_0 (Ym b) (g + 1) (RdM b M A op o n d 1 0) (some b) = some (RdM b M A op o n d 1 0) := by
  rw [fX12_goesUp_0]
  refine bnd q1235 ?_
  by_cases h : d = 0
  · subst h
    exact if_pos (by decide)
  · refine ifN (nI_nle (by omega) hd) ?_
    refine bnd q1236 ?_
    refine ifP rfl ?_
    refine bnd q1222 ?_
    exact if_neg (by decide)
theorem r_up_m {g : Nat} (hd : d < 2 ^ 31) {fl : Int32} : fX12_goesUp_0 (Ym b) (g + 1) (RdM b M A op o n d fl 1) (some b) = some (RdM b M A op o n d fl 1) := by
  rw [fX12_goesUp_0]
  refine bnd q1235 ?_
  by_cases h : d = 0
  · subst h
    exact if_pos (by decide)
  · refine ifN (nI_nle (by omega) hd) ?_
    refine bnd q1236 ?_
    exact if_neg (by decide)
/-- a head that fails, in the loop -/
theorem r_25_no {f : Nat} (hd : d < 2 ^ 31) {A1 : Nat → Nat → Int32} {op1 : Nat → Int32} {o1 n1 d1 : Nat} (hd1 : d1 < 2 ^ 31) (h : fX12_begins (Ym b) (RdM b M A op o n d 0 0) (some b) = some (RdM b M A1 op1 o1 n1 d1 1 0)) : fX12_readTree_25 (Ym b) (f + 2) (RdM b M A op o n d 0 1) (some b) = fX12_readTree_62 (Ym b) (RdM b M A1 op1 o1 n1 d1 1 0) (some b) := by
  rw [r_25, h]
  show (gI (Ym b) 12 1236 (some b) (RdM b M A1 op1 o1 n1 d1 1 0)).bind _ = _
  refine bnd q1236 ?_
  refine ifP rfl ?_
  refine bnd mrcv ?_
  refine bnd (show fX12_goesUp (Ym b) _ (some b) = _ from r_up_f (g := 1999) hd1) ?_
  exact r_25_out
theorem r_25_leaf {f : Nat} {A1 : Nat → Nat → Int32} {op1 : Nat → Int32} {o1 n1 d1 : Nat} (h : fX12_begins (Ym b) (RdM b M A op o n d 0 0) (some b) = some (RdM b M A1 op1 o1 n1 d1 0 0)) : fX12_readTree_25 (Ym b) (f + 1) (RdM b M A op o n d 0 1) (some b) = (fX12_goesUp_0 (Ym b) FU (RdM b M A1 op1 o1 n1 d1 0 0) (some b)).bind fun S56 => fX12_readTree_25 (Ym b) f S56 (some b) := by
  rw [r_25, h]
  show (gI (Ym b) 12 1236 (some b) (RdM b M A1 op1 o1 n1 d1 0 0)).bind _ = _
  refine bnd q1236 ?_
  refine ifP rfl ?_
  refine bnd mrcv ?_
  rfl
theorem r_25_in {f : Nat} {A1 : Nat → Nat → Int32} {op1 : Nat → Int32} {o1 n1 d1 : Nat} (h : fX12_begins (Ym b) (RdM b M A op o n d 0 0) (some b) = some (RdM b M A1 op1 o1 n1 d1 0 1)) : fX12_readTree_25 (Ym b) (f + 1) (RdM b M A op o n d 0 1) (some b) = fX12_readTree_25 (Ym b) f (RdM b M A1 op1 o1 n1 d1 0 1) (some b) := by
  rw [r_25, h]
  show (gI (Ym b) 12 1236 (some b) (RdM b M A1 op1 o1 n1 d1 0 1)).bind _ = _
  refine bnd q1236 ?_
  exact if_neg (by decide)
/-! the class' beginning -/
theorem c_begin_no (hBA : BAS z T a b K L Y S0 M) (hP : PST z T a K Y S0 n t stk o S A op) {up : Option Nat} (h : pls 0 (hr L K o) = -1 ∨ stk.length = 10 ∨ n = 24) : fX5_readNode Y (d + 1) S (some a) up (nI (stk.length + 1)) = some (S, 0) := by
  obtain ⟨hY, hTT, hB, hT, hF, ha⟩ := hBA
  obtain ⟨hPT, hDT, hTC, hA, hop, hFr, hO, ho⟩ := hP
  have hT2 := TXC_frg hFr hT ha hTT
  have hl := hPT.2.1
  rw [fX5_readNode]
  refine bnd (po_rcv hO) ?_
  refine bnd (c_place hY hT2 hO ho (by omega)) ?_
  by_cases h1 : pls 0 (hr L K o) < 0
  · exact if_pos h1
  · refine ifN h1 ?_
    by_cases h2 : stk.length = 10
    · rw [h2]
      exact if_neg (by decide)
    · refine ifP (show nI (stk.length + 1) ≤ 10 from nI_le (b := 10) (by omega) (by decide)) ?_
      refine bnd (po_501 hO) ?_
      refine bnd (drcv hY (kd_T hTT).1 (kd_T hTT).2.1) ?_
      have h24 : n = 24 := by
        rcases h with h | h | h
        · rw [h] at h1
          exact absurd (by decide) h1
        · exact absurd h h2
        · exact h
      have hK := kd_T hTT
      refine bnd (a := (S, none)) ?_ (if_pos rfl)
      unfold fX8_grow
      refine bnd (dI_of hY hK.1 hK.2.1 hTC.2.2.2) ?_
      refine ifN (nI_pos (by have := hPT.1; omega)) ?_
      refine bnd (dI_of hY hK.1 hK.2.1 hTC.2.2.2) ?_
      refine bnd (dR_of hY hK.1 hK.2.1 (FixT (FixC_frg hFr hF) hTT).1) ?_
      refine bnd (daL hY hK.2.2.1 hK.2.2.2.1) ?_
      rw [hK.2.2.2.2, h24]
      exact if_neg (by decide)
theorem c_begin_ok (hBA : BAS z T a b K L Y S0 M) (hP : PST z T a K Y S0 n t stk o S A op) (hE : EX n t stk) (hk : k < 15) (hn : n < 24) (hl : stk.length < 10) (hkd : pls 0 (hr L K o) = nI k) (hoK : o < K) : ∃ S3, GSP z T n stk S S3 (nI k) (nI (stk.length + 1)) (stk.head?.map (nda z T)) (if n = 0 then none else some (nda z T (n - 1))) ∧ PO z T a Y S3 o ∧ FRG z T a S0 S3 ∧ ∀ S4 r, (r = 0 ∨ r = 1) → fX5_readRest (fX5_readNode Y d) Y (OFS S3 a (o + 1)) (some a) (some (nda z T n)) (nI (stk.length + 1)) = some (S4, r) → fX5_readNode Y (d + 1) S (some a) (stk.head?.map (nda z T)) (nI (stk.length + 1)) = some (S4, r) := by
  obtain ⟨hY, hTT, hB, hT, hF, ha⟩ := hBA
  obtain ⟨hPT, hDT, hTC, hA, hop, hFr, hO, ho⟩ := hP
  have hT2 := TXC_frg hFr hT ha hTT
  obtain ⟨S3, hg, hG⟩ := c_growG (k := k) hY hTT (FixC_frg hFr hF) hPT hE hn hTC.2.2.2 hTC.1
  have hfr3 : FRG z T a S S3 := g_FRG hPT hn hG (fun p r e q hq => by
    have hp := hPT.2.2.2.2.1 p (by rw [e]; exact List.mem_cons_self)
    have hN := (hTC.1 p hp.1).2.2.2.2.2.2.1
    rw [hq] at hN
    split at hN
    · cases hN
    · have h2 := (hPT.2.2.2.2.2 p hp.1).2.2.2.1.2 (t 11 p - 1) (by omega)
      have h3 := (hPT.2.2.2.2.2 p hp.1).1
      rw [Option.some.inj hN]
      exact nda_reg (by omega))
  have hareg : ¬ reg z T a := by
    unfold reg
    rcases hTT with rfl | rfl <;> omega
  have hO3 : PO z T a Y S3 o := by
    have hT269 := (kd_T hTT).1
    have hnh : ¬ HOFn z T n a := fun q => hareg (hof_reg hn q)
    refine ⟨hO.1, (hfr3.2.2.2 500 a (by omega)).trans hO.2.1, (hfr3.2.2.2 501 a (by omega)).trans hO.2.2.1, ?_⟩
    rw [hG.1 502 a hnh (by omega) (by omega)]
    exact hO.2.2.2
  refine ⟨S3, hG, hO3, FRG_trans hFr hfr3, fun S4 r hr hres => ?_⟩
  rw [fX5_readNode]
  refine bnd (po_rcv hO) ?_
  refine bnd (c_place hY hT2 hO ho (by omega)) ?_
  rw [hkd]
  refine ifN (nI_pos (by omega)) ?_
  refine ifP (show nI (stk.length + 1) ≤ 10 from nI_le (b := 10) (by omega) (by decide)) ?_
  refine bnd (po_501 hO) ?_
  refine bnd (drcv hY (kd_T hTT).1 (kd_T hTT).2.1) ?_
  refine bnd hg ?_
  refine ifN (by intro e; cases e) ?_
  refine bnd (po_502 hO3) ?_
  refine bnd (po_w502 hO3 (nI_1 o)) ?_
  refine bnd (po_rcv hO3) ?_
  refine bnd hres ?_
  exact bnd (zr_r hr) rfl
end BEG
