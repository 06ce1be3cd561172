/-! the class' small methods on the live state -/
theorem nI_xor (a b : Nat) : nI a ^^^ nI b = nI (a ^^^ b) := by
  apply Int32.toBitVec_inj.mp
  rw [Int32.toBitVec_xor]
  show BitVec.ofNat 32 a ^^^ BitVec.ofNat 32 b = BitVec.ofNat 32 (a ^^^ b)
  apply BitVec.eq_of_getLsbD_eq
  intro i hi
  simp [hi, BitVec.getLsbD_ofNat]
theorem jj_clamp (x : Int32) : jmax (-999) (jmin 999 x) = jclamp x := by
  have a1 : (999 : Int32).toInt = 999 := by decide
  have a2 : (-999 : Int32).toInt = -999 := by decide
  unfold jmax jmin jclamp
  simp only [Int32.lt_iff_toInt_lt, Int32.le_iff_toInt_le, a1, a2]
  by_cases h1 : x.toInt < 999
  · rw [if_pos h1, if_pos (show x.toInt ≤ 999 by omega)]
    by_cases h2 : -999 < x.toInt
    · rw [if_pos h2, if_pos (show -999 ≤ x.toInt by omega)]
    · rw [if_neg h2]
      by_cases h3 : -999 ≤ x.toInt
      · rw [if_pos h3]
        apply Int32.toInt_inj.mp
        omega
      · rw [if_neg h3]
  · rw [if_neg h1, a1, if_pos (by omega)]
    by_cases h2 : x.toInt ≤ 999
    · rw [if_pos h2, if_pos (show -999 ≤ x.toInt by omega)]
      apply Int32.toInt_inj.mp
      omega
    · rw [if_neg h2]
theorem k_fmod {Y : LY} {S : HS} {q : Nat} (h : q < 2 ^ 31) : fJ9_floorMod_7cf53 Y S (nI q) 30 = some (nI (q % 30)) := by
  unfold fJ9_floorMod_7cf53
  have e : nI q - nI q / 30 * 30 = nI (q % 30) := pk_rem (d := 30) h (by decide) (by decide)
  rw [if_neg (by decide), e]
  refine ifP ?_ rfl
  show 0 ≤ nI q ^^^ nI 30
  rw [nI_xor]
  exact nI_pos' (Nat.xor_lt_two_pow h (by decide))
def IT (v : Nat → Int32) (tr : TR) : Prop := v 294 = nI (min tr.1 30) ∧ ∀ j, j < min tr.1 30 → tr.2.1 ((tr.1 - 1 - j) % 30) = v (295 + 2 * j) ∧ tr.2.2 ((tr.1 - 1 - j) % 30) = v (296 + 2 * j)
def tellX (tr : TR) (i : Nat) (r : Int32) : TR := (tr.1 + 1, upd tr.2.1 (tr.1 % 30) (nI i), upd tr.2.2 (tr.1 % 30) r)
theorem IT_lo {v v1 : Nat → Int32} {tr : TR} (h : ∀ k, 294 ≤ k → v1 k = v k) (hI : IT v tr) : IT v1 tr := by
  refine ⟨by rw [h _ (Nat.le_refl _)]; exact hI.1, fun j hj => ?_⟩
  rw [h _ (by omega), h _ (by omega)]
  exact hI.2 j hj
theorem IT_upd {v : Nat → Int32} {tr : TR} {k : Nat} {x : Int32} (hk : k < 294) (hI : IT v tr) : IT (upd v k x) tr := IT_lo (fun j hj => pk_un (by omega)) hI
theorem IT_tell {v : Nat → Int32} {tr : TR} {i : Nat} {r : Int32} (hI : IT v tr) : IT (tellV v i r) (tellX tr i r) := by
  have e294 : tellV v i r 294 = nI (min (tr.1 + 1) 30) := by
    show (if 30 ≤ v 294 then v 294 else v 294 + 1) = _
    rw [hI.1]
    by_cases h : 30 ≤ tr.1
    · rw [if_pos (show (30 : Int32) ≤ nI (min tr.1 30) from nI_le (a := 30) (by omega) (by omega)), show min tr.1 30 = min (tr.1 + 1) 30 by omega]
    · rw [if_neg (show ¬ (30 : Int32) ≤ nI (min tr.1 30) from nI_ge (b := 30) (by omega) (by omega)), nI_1, show min tr.1 30 + 1 = min (tr.1 + 1) 30 by omega]
  refine ⟨e294, fun j hj => ?_⟩
  have hj : j < min (tr.1 + 1) 30 := hj
  show upd tr.2.1 (tr.1 % 30) (nI i) ((tr.1 + 1 - 1 - j) % 30) = tellV v i r (295 + 2 * j) ∧ upd tr.2.2 (tr.1 % 30) r ((tr.1 + 1 - 1 - j) % 30) = tellV v i r (296 + 2 * j)
  cases j with
  | zero =>
    rw [show (tr.1 + 1 - 1 - 0) % 30 = tr.1 % 30 by omega, pk_us, pk_us]
    exact ⟨rfl, rfl⟩
  | succ j =>
    have hne : (tr.1 + 1 - 1 - (j + 1)) % 30 ≠ tr.1 % 30 := by omega
    have h := hI.2 j (by omega)
    rw [pk_un hne, pk_un hne, show tr.1 + 1 - 1 - (j + 1) = tr.1 - 1 - j by omega, h.1, h.2]
    unfold tellV
    rw [if_pos (by omega), if_pos (by omega)]
    exact ⟨congrArg v (by omega), congrArg v (by omega)⟩
theorem endV_hi {v : Nat → Int32} {t : TT} {n i : Nat} (hW : WF n t) (hi : i < n) {k : Nat} (hk : 294 ≤ k) : endV t v i k = v k := by
  have hp := plN_ne hW (wf_rng hW hi).2.2.2.2.1 hi
  unfold endV
  split
  · rfl
  · rw [pk_un (by omega), pk_un (by omega)]
section KY
variable {z T n i j a f g w k key s : Nat} {S0 : HS} {v v1 c l : Nat → Int32} {u : Nat → Option Nat} {p p1 : Option Nat} {tr : TR} {x r : Int32} {t : TT}
theorem k_val (hC : CX z T n t S0) (hi : i < n) (hk : key ≤ 7) : fX0_valueIn (Yc z) (SC z T n S0 v c u l p tr) (some (z + 6)) ((scO t key i).map (nda z T)) (nI key) = some (v (plN t key i)) := by
  unfold fX0_valueIn plN
  cases h : scO t key i with
  | none =>
    refine ifP rfl ?_
    refine ifN (nI_pos (by omega)) ?_
    refine bnd (k0 hC) ?_
    refine bnd (caL (o := 7) (by decide) rfl) ?_
    refine ifP (nI_lt (b := 8) (by omega) (by decide)) ?_
    refine bnd (k0 hC) ?_
    refine bnd (kg (by omega)) ?_
    rfl
  | some q =>
    have hq := (scO_lt hC.2.1 hi h).1
    refine ifN (by intro e; cases e) ?_
    refine bnd (k403 hC (by omega)) ?_
    refine bnd (kL (w := 4) hC (by omega) rfl) ?_
    rfl
theorem k_put (hC : CX z T n t S0) (hi : i < n) (hk : key ≤ 7) : fX0_put (Yc z) (SC z T n S0 v c u l p tr) (some (z + 6)) ((scO t key i).map (nda z T)) (nI key) x = some (SC z T n S0 (upd v (plN t key i) x) c u l p tr) := by
  unfold fX0_put plN
  cases h : scO t key i with
  | none =>
    refine ifP rfl ?_
    refine ifN (nI_pos (by omega)) ?_
    refine bnd (k0 hC) ?_
    refine bnd (caL (o := 7) (by decide) rfl) ?_
    refine ifN (nI_ge (b := 8) (by omega) (by decide)) ?_
    refine bnd (k0 hC) ?_
    refine bnd (kgp hC (by omega)) ?_
    rfl
  | some q =>
    have hq := (scO_lt hC.2.1 hi h).1
    refine ifN (by intro e; cases e) ?_
    refine bnd (k403 hC (by omega)) ?_
    refine bnd (kLp (w := 4) hC (by omega) rfl) ?_
    rfl
def ClA (z T n : Nat) (t : TT) (S0 : HS) (a key s w i : Nat) : Prop := ∀ v c u l p tr, gR (Yc z) 1 104 (some a) (SC z T n S0 v c u l p tr) = some ((scO t key i).map (nda z T)) ∧ gI (Yc z) 1 101 (some a) (SC z T n S0 v c u l p tr) = some (nI key) ∧ gI (Yc z) 1 102 (some a) (SC z T n S0 v c u l p tr) = some (sgC s) ∧ gI (Yc z) 1 103 (some a) (SC z T n S0 v c u l p tr) = some (nI w)
theorem clA_cl (hC : CX z T n t S0) (hi : i < n) (h : t 6 i ≠ 0) : ClA z T n t S0 (cla z T i) (t 5 i) (t 6 i) (t 7 i) i := by
  intro v c u l p tr
  have hT := (hC.2.2.2 i hi).2.2.2.2.2.2.2.2.2.2.1 h
  rw [clR' hC hi, clI' hC hi, clI' hC hi, clI' hC hi, hT.1, hT.2.1, hT.2.2.1, hT.2.2.2]
  exact ⟨rfl, rfl, rfl, rfl⟩
theorem clA_en (hC : CX z T n t S0) (hi : i < n) (h : t 9 i ≠ 0) : ClA z T n t S0 (ena z T i) (t 8 i) (t 9 i) (t 10 i) i := by
  intro v c u l p tr
  have hT := (hC.2.2.2 i hi).2.2.2.2.2.2.2.2.2.2.2.2 h
  rw [enR' hC hi, enI' hC hi, enI' hC hi, enI' hC hi, hT.1, hT.2.1, hT.2.2.1, hT.2.2.2]
  exact ⟨rfl, rfl, rfl, rfl⟩
theorem k_chg69 (hC : CX z T n t S0) (hi : i < n) (hk : key ≤ 7) (hA : ClA z T n t S0 a key s w i) : fX0_change_69 (Yc z) (SC z T n S0 v c u l p tr) (some (z + 6)) (some a) x = some (SC z T n S0 (upd v (plN t key i) (jclamp x)) c u l p tr) := by
  unfold fX0_change_69
  refine bnd (hA v c u l p tr).1 ?_
  refine bnd (hA v c u l p tr).2.1 ?_
  refine bnd (crcv (o := 6) (by decide) rfl) ?_
  rw [jj_clamp]
  refine bnd (k_put hC hi hk) ?_
  rfl
theorem k_change (hC : CX z T n t S0) (hi : i < n) (hk : key ≤ 7) (hA : ClA z T n t S0 a key s w i) (hs : 4 ≤ s ∧ s ≤ 6) : fX0_change (Yc z) (SC z T n S0 v c u l p tr) (some (z + 6)) (some a) = some (SC z T n S0 (upd v (plN t key i) (eff s (nI w) (v (plN t key i)))) c u l p tr) := by
  have hB := hA v c u l p tr
  unfold fX0_change
  refine bnd hB.1 ?_
  refine bnd hB.2.1 ?_
  refine bnd (crcv (o := 6) (by decide) rfl) ?_
  refine bnd (k_val hC hi hk) ?_
  refine bnd hB.2.2.1 ?_
  unfold eff
  have h3 : s = 4 ∨ s = 5 ∨ s = 6 := by omega
  rcases h3 with rfl | rfl | rfl
  · refine ifN (by decide) ?_
    refine ifN (by decide) ?_
    refine bnd hB.2.2.2 ?_
    exact k_chg69 hC hi hk hA
  · refine ifP (by decide) ?_
    refine bnd hB.2.2.2 ?_
    exact k_chg69 hC hi hk hA
  · refine ifN (by decide) ?_
    refine ifP (by decide) ?_
    refine bnd hB.2.2.2 ?_
    exact k_chg69 hC hi hk hA
theorem k_fulfils (hC : CX z T n t S0) (hi : i < n) (hk : key ≤ 7) (hA : ClA z T n t S0 a key s w i) (hs : 1 ≤ s ∧ s ≤ 3) : fX0_fulfils (Yc z) (SC z T n S0 v c u l p tr) (some (z + 6)) (some a) = some (hld s (v (plN t key i)) (nI w)) := by
  have hB := hA v c u l p tr
  unfold fX0_fulfils
  refine bnd hB.1 ?_
  refine bnd hB.2.1 ?_
  refine bnd (crcv (o := 6) (by decide) rfl) ?_
  refine bnd (k_val hC hi hk) ?_
  refine bnd hB.2.2.1 ?_
  unfold hld
  have h3 : s = 1 ∨ s = 2 ∨ s = 3 := by omega
  rcases h3 with rfl | rfl | rfl
  · refine ifP (by decide) ?_
    refine bnd hB.2.2.2 ?_
    show _ = some (if nI w ≤ v (plN t key i) then 0 else 1)
    split <;> rfl
  · refine ifN (by decide) ?_
    refine ifN (by decide) ?_
    refine bnd hB.2.2.2 ?_
    show _ = some (if v (plN t key i) = nI w then 1 else 0)
    split <;> rfl
  · refine ifN (by decide) ?_
    refine ifP (by decide) ?_
    refine bnd hB.2.2.2 ?_
    show _ = some (if v (plN t key i) ≤ nI w then 0 else 1)
    split <;> rfl
theorem relV_tell (h : relV k) : tellV v i r k = v k := tellV_lo (by unfold relV at h; omega)
theorem k_enter (hC : CX z T n t S0) (hi : i < n) (hq : tr.1 < 2 ^ 31) : fX2_enter (Yc z) (SC z T n S0 v c u l p tr) (some (z + 8)) (some (nda z T i)) r = some (SC z T n S0 (tellV v i r) c u l p (tellX tr i r)) := by
  unfold fX2_enter
  refine bnd (k208 hC) ?_
  refine bnd (k_fmod hq) ?_
  refine bnd (k209 hC) ?_
  refine bnd (k400 hC hi) ?_
  refine bnd (cwA (o := 9) (k := 14) (by decide) rfl (show tr.1 % 30 < 30 by omega)) ?_
  refine bnd (show gR (Yc z) 2 210 (some (z + 8)) _ = some (some (z + 10)) from (cR (o := 8) (c := 2) (by decide) rfl).trans ((cR (o := 8) (c := 2) (by decide) rfl).symm.trans (k210 (v := v) (c := c) (u := u) (l := l) (p := p) (tr := tr) hC))) ?_
  refine bnd (cwA (o := 10) (k := 14) (by decide) rfl (show tr.1 % 30 < 30 by omega)) ?_
  refine bnd (show gI (Yc z) 2 208 (some (z + 8)) _ = some (nI tr.1) from (cI (o := 8) (c := 2) (by decide) rfl).trans ((cI (o := 8) (c := 2) (by decide) rfl).symm.trans (k208 (v := v) (c := c) (u := u) (l := l) (p := p) (tr := tr) hC))) ?_
  rw [nI_1]
  refine bnd (cpI (o := 8) (c := 2) (by decide) rfl) ?_
  have hn := CX_n hC
  rw [SC_congr (v := v) (v1 := tellV v i r) hn (fun k hk => relV_tell hk)]
  show some (upN (SC1 z T n S0.1 v c l tr.1) 208 (z + 8) (nI (tr.1 + 1)), SC2 z T n S0.2.1 u p, upN (upN (SC3 z S0.2.2.1 v tr) (z + 9) (tr.1 % 30) (nI i)) (z + 10) (tr.1 % 30) r, S0.2.2.2) = some (SC1 z T n S0.1 v c l (tr.1 + 1), SC2 z T n S0.2.1 u p, SC3 z S0.2.2.1 v (tellX tr i r), S0.2.2.2)
  have e1 : upN (SC1 z T n S0.1 v c l tr.1) 208 (z + 8) (nI (tr.1 + 1)) = SC1 z T n S0.1 v c l (tr.1 + 1) := by
    funext g a
    unfold upN SC1
    cases e : lx z T n a with
    | none =>
      show (if g = 208 ∧ a = z + 8 then nI (tr.1 + 1) else if a = z + 8 then lvG S0.1 v tr.1 g a else S0.1 g a) = (if a = z + 8 then lvG S0.1 v (tr.1 + 1) g a else S0.1 g a)
      by_cases ha : a = z + 8
      · rw [if_pos ha, if_pos ha]
        by_cases hg : g = 208
        · subst hg
          rw [if_pos ⟨rfl, ha⟩]
          rfl
        · rw [if_neg (fun q => hg q.1)]
          unfold lvG
          cases plG g with
          | none => show (if g = 208 then _ else _) = (if g = 208 then _ else _); rw [if_neg hg, if_neg hg]
          | some w => rfl
      · rw [if_neg ha, if_neg ha, if_neg (fun q => ha q.2)]
    | some j =>
      have hj := lx_some e
      rw [if_neg (fun q => lf_ne8 hC.1 (q.2.symm.trans hj.1))]
  have e3 : upN (upN (SC3 z S0.2.2.1 v tr) (z + 9) (tr.1 % 30) (nI i)) (z + 10) (tr.1 % 30) r = SC3 z S0.2.2.1 v (tellX tr i r) := by
    funext a j
    unfold upN SC3 tellX
    by_cases h7 : a = z + 7
    · subst h7
      simp
    · by_cases h9 : a = z + 9
      · subst h9
        simp [upd]
      · by_cases h10 : a = z + 10
        · subst h10
          simp [upd]
        · simp [h7, h9, h10]
  rw [e1, e3]
theorem k_end85 (hC : CX z T n t S0) (hi : i < n) (hq : tr.1 < 2 ^ 31) : fX9_endRun_85 (Yc z) (SC z T n S0 v c u l p tr) (some (z + 5)) (some (nda z T i)) r = some (SC z T n S0 (endV t (tellV v i r) i) c u l p (tellX tr i r)) := by
  have hr := wf_rng hC.2.1 hi
  have hk := (hC.2.1.2.2 i hi).2.2.2.2.2.2.2.2.2.2.2.2
  unfold fX9_endRun_85 endV
  refine bnd (k901 hC) ?_
  refine bnd (crcv (o := 8) (by decide) rfl) ?_
  refine bnd (k_enter hC hi hq) ?_
  refine bnd (k402 hC hi) ?_
  refine bnd (ken0 hC hi) ?_
  by_cases h : t 9 i = 0
  · rw [if_pos h, if_pos h]
    refine ifP rfl ?_
    rfl
  · rw [if_neg h, if_neg h]
    refine ifN (by decide) ?_
    refine bnd (k900 hC) ?_
    refine bnd (k402 hC hi) ?_
    refine bnd (crcv (o := 6) (by decide) rfl) ?_
    refine bnd (k_change hC hi (by omega) (clA_en hC hi h) (by rcases Nat.lt_or_ge (t 0 i) 2 with h2 | h2; have := hk.1 h2; omega; have := hk.2.1 h2; omega)) ?_
    refine bnd (k901 hC) ?_
    refine bnd (kG (w := 291) hC rfl) ?_
    refine bnd (kGp (w := 291) hC rfl) ?_
    rfl
theorem k_end4 (hC : CX z T n t S0) (hi : i < n) (hq : tr.1 < 2 ^ 31) : fX9_endRun (Yc z) (SC z T n S0 v c u l p tr) (some (z + 5)) (some (nda z T i)) 4 = some (SC z T n S0 (abV1 t v i) c u l p (tellX tr i 4)) := by
  unfold fX9_endRun
  refine bnd (k403 hC hi) ?_
  refine bnd (kLz (w := 0) hC hi rfl (Or.inl rfl)) ?_
  refine ifN (by decide) ?_
  refine ifN (by decide) ?_
  refine bnd (kL (w := 9) hC hi rfl) ?_
  refine bnd (kLp (w := 9) hC hi rfl) ?_
  refine bnd (k901 hC) ?_
  refine bnd (kG (w := 290) hC rfl) ?_
  refine bnd (kGp (w := 290) hC rfl) ?_
  exact k_end85 hC hi hq
/-- a run ends with success or failure -/
def endR (t : TT) (v : Nat → Int32) (i : Nat) (r : Int32) (w : Nat) : Nat → Int32 := endV t (tellV (upd (upd v (11 * i + 0) 0) (11 * i + w) (upd v (11 * i + 0) 0 (11 * i + w) + 1)) i r) i
theorem k_end2 (hC : CX z T n t S0) (hi : i < n) (hq : tr.1 < 2 ^ 31) : fX9_endRun (Yc z) (SC z T n S0 v c u l p tr) (some (z + 5)) (some (nda z T i)) 2 = some (SC z T n S0 (endR t v i 2 7) c u l p (tellX tr i 2)) := by
  unfold fX9_endRun
  refine bnd (k403 hC hi) ?_
  refine bnd (kLz (w := 0) hC hi rfl (Or.inl rfl)) ?_
  refine ifP rfl ?_
  refine bnd (kL (w := 7) hC hi rfl) ?_
  refine bnd (kLp (w := 7) hC hi rfl) ?_
  exact k_end85 hC hi hq
theorem k_end3 (hC : CX z T n t S0) (hi : i < n) (hq : tr.1 < 2 ^ 31) : fX9_endRun (Yc z) (SC z T n S0 v c u l p tr) (some (z + 5)) (some (nda z T i)) 3 = some (SC z T n S0 (endR t v i 3 8) c u l p (tellX tr i 3)) := by
  unfold fX9_endRun
  refine bnd (k403 hC hi) ?_
  refine bnd (kLz (w := 0) hC hi rfl (Or.inl rfl)) ?_
  refine ifN (by decide) ?_
  refine ifP rfl ?_
  refine bnd (kL (w := 8) hC hi rfl) ?_
  refine bnd (kLp (w := 8) hC hi rfl) ?_
  exact k_end85 hC hi hq
theorem IT_endV (hW : WF n t) (hi : i < n) (h : IT v tr) : IT (endV t v i) tr := IT_lo (fun _ hk => endV_hi hW hi hk) h
theorem IT_ab (hW : WF n t) (hi : i < n) (h : IT v tr) : IT (abV1 t v i) (tellX tr i 4) := by
  have hn := hW.1
  exact IT_endV hW hi (IT_tell (IT_upd (by omega) (IT_upd (by omega) (IT_upd (by omega) h))))
theorem IT_endR (hW : WF n t) (hi : i < n) (hw : w ≤ 10) (h : IT v tr) : IT (endR t v i r w) (tellX tr i r) := by
  have hn := hW.1
  exact IT_endV hW hi (IT_tell (IT_upd (by omega) (IT_upd (by omega) h)))
theorem k_sb10 (hC : CX z T n t S0) (lo : Nat) (hlo : lo < n) : ∀ (m fuel : Nat) (v : Nat → Int32) (tr : TR), lo + m ≤ n → m < fuel → IT v tr → tr.1 + m < 2 ^ 31 → ∃ tr1, fX9_stopBack_10 (Yc z) fuel (SC z T n S0 v c u l p tr) (some (z + 5)) (some (nda z T lo)) (if lo + m = 0 then none else some (nda z T (lo + m - 1))) = some (SC z T n S0 (stopV t lo m v) c u l p tr1) ∧ IT (stopV t lo m v) tr1 ∧ tr1.1 ≤ tr.1 + m
  | _, 0, _, _, _, h, _, _ => absurd h (Nat.not_lt_zero _)
  | 0, fuel + 1, v, tr, hle, hm, hI, hq => by
    have hn := CX_n hC
    refine ⟨tr, ?_, hI, Nat.le_refl _⟩
    rw [fX9_stopBack_10, stopV]
    by_cases h0 : lo = 0
    · rw [if_pos (show lo + 0 = 0 by omega)]
      refine ifP rfl ?_
      rfl
    · rw [if_neg (show ¬ lo + 0 = 0 by omega)]
      refine ifN (by intro e; cases e) ?_
      refine bnd (k400 hC (by omega)) ?_
      refine bnd (k400 hC (by omega)) ?_
      refine ifP (nI_lt (by omega) (by omega)) ?_
      rfl
  | m + 1, fuel + 1, v, tr, hle, hm, hI, hq => by
    have hn := CX_n hC
    rw [if_neg (show ¬ lo + (m + 1) = 0 by omega), show lo + (m + 1) - 1 = lo + m by omega, fX9_stopBack_10, stopV]
    by_cases h : v (11 * (lo + m) + 0) = 0
    · obtain ⟨tr1, e, hI1, hq1⟩ := k_sb10 hC lo hlo m fuel v tr (by omega) (by omega) hI (by omega)
      refine ⟨tr1, ?_, by rw [abV, if_pos h]; exact hI1, by omega⟩
      refine ifN (by intro e; cases e) ?_
      refine bnd (k400 hC (by omega)) ?_
      refine bnd (k400 hC (by omega)) ?_
      refine ifN (nI_nlt (by omega) (by omega)) ?_
      refine bnd (k403 hC (by omega)) ?_
      refine bnd (kL (w := 0) hC (by omega) rfl) ?_
      refine ifP h ?_
      refine bnd (k408 hC (by omega)) ?_
      rw [abV, if_pos h]
      exact e
    · obtain ⟨tr1, e, hI1, hq1⟩ := k_sb10 hC lo hlo m fuel (abV1 t v (lo + m)) (tellX tr (lo + m) 4) (by omega) (by omega) (IT_ab hC.2.1 (by omega) hI) (by show tr.1 + 1 + m < 2 ^ 31; omega)
      refine ⟨tr1, ?_, by rw [abV, if_neg h]; exact hI1, Nat.le_trans hq1 (by show tr.1 + 1 + m ≤ _; omega)⟩
      refine ifN (by intro e; cases e) ?_
      refine bnd (k400 hC (by omega)) ?_
      refine bnd (k400 hC (by omega)) ?_
      refine ifN (nI_nlt (by omega) (by omega)) ?_
      refine bnd (k403 hC (by omega)) ?_
      refine bnd (kL (w := 0) hC (by omega) rfl) ?_
      refine ifN h ?_
      refine bnd (crcv (o := 5) (by decide) rfl) ?_
      refine bnd (k_end4 hC (by omega) (by omega)) ?_
      refine bnd (k408 hC (by omega)) ?_
      rw [abV, if_neg h]
      exact e
/-- stopBack from a node's last below down to a node within it -/
theorem k_stop (hC : CX z T n t S0) (hi : i < n) (hj : j ≤ t 4 i) (hI : IT v tr) (hq : tr.1 + 24 < 2 ^ 31) : ∃ tr1, fX9_stopBack (Yc z) (SC z T n S0 v c u l p tr) (some (z + 5)) (some (nda z T i)) (some (nda z T j)) = some (SC z T n S0 (stopV t j (t 4 i + 1 - j) v) c u l p tr1) ∧ IT (stopV t j (t 4 i + 1 - j) v) tr1 ∧ tr1.1 ≤ tr.1 + 24 := by
  have hn := CX_n hC
  have hl := wf_last hC.2.1 hi
  obtain ⟨tr1, e, hI1, hq1⟩ := k_sb10 (c := c) (u := u) (l := l) (p := p) hC j (by omega) (t 4 i + 1 - j) FU v tr (by omega) (by unfold FU; omega) hI (by omega)
  refine ⟨tr1, ?_, hI1, by omega⟩
  unfold fX9_stopBack
  refine ifN (by intro e; cases e) ?_
  refine bnd (k413 hC hi) ?_
  rw [if_neg (by omega), show j + (t 4 i + 1 - j) - 1 = t 4 i by omega] at e
  exact e
theorem k_stop0 : fX9_stopBack (Yc z) (SC z T n S0 v c u l p tr) (some (z + 5)) (some (nda z T i)) none = some (SC z T n S0 v c u l p tr) := by
  unfold fX9_stopBack
  exact if_pos rfl
end KY
