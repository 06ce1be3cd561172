/-! a whole tick -/
/-- what is pending -/
def PEN (z T n : Nat) (t : TT) (v : Nat → Int32) (p : Option Nat) : Prop := (p = none ∧ v 284 = -1) ∨ ∃ i, i < n ∧ p = some (nda z T i) ∧ v 284 = nI i ∧ v 272 = nI (t 3 i - 1) ∧ PTH t v (t 3 i - 1) i
/-- what holds of the live state between calls -/
def SI (z T n : Nat) (t : TT) (v c : Nat → Int32) (u : Nat → Option Nat) (l : Nat → Int32) (p : Option Nat) (tr : TR) : Prop := RB n t v ∧ IT v tr ∧ RS z T n t v c u l ∧ PEN z T n t v p
/-- the budgets -/
def BU (m : Nat) (L4 L2 : Int32) : Prop := (∃ k, k < 2 ^ 31 ∧ L4 = nI k ∧ L2 = nI k) ∨ ∃ k s, m ≤ k ∧ 0 < k ∧ k < 2 ^ 31 ∧ L4 = nI k ∧ 1 ≤ s ∧ s + m < 2 ^ 31 ∧ L2 = 0 - nI s
theorem i32c (a b : Int32) : 0 - a + (-1) = 0 - (a + 1) := by grind
theorem i32d {a : Int32} (h : 0 - a = 0) : a = 0 := by grind
theorem BU_step {m : Nat} {L4 L2 : Int32} (h : BU (m + 2) L4 L2) (h0 : L4 ≠ 0) : BU (m + 1) (L4 + (-1)) (L2 + (-1)) := by
  rcases h with ⟨k, h1, rfl, rfl⟩ | ⟨k, s, h1, h2, h3, rfl, h4, h5, rfl⟩
  · cases k with
    | zero => exact absurd rfl h0
    | succ k => exact Or.inl ⟨k, by omega, pk_m1 k, pk_m1 k⟩
  · cases k with
    | zero => omega
    | succ k => exact Or.inr ⟨k, s + 1, by omega, by omega, by omega, pk_m1 k, by omega, by omega, by rw [i32c _ 0, nI_1]⟩
theorem BU_0 {m : Nat} {L4 L2 : Int32} (h : BU m L4 L2) : (L4 = 0 ∧ L2 = 0) ∨ (¬ L4 ≤ 0 ∧ L4 ≠ 0 ∧ ¬ L2 = 0) := by
  rcases h with ⟨k, h1, rfl, rfl⟩ | ⟨k, s, h1, h2, h3, rfl, h4, h5, rfl⟩
  · by_cases h0 : k = 0
    · subst h0; exact Or.inl ⟨rfl, rfl⟩
    · exact Or.inr ⟨nI_nle (by omega) h1, nI_ne0 (by omega) h1, nI_ne0 (by omega) h1⟩
  · exact Or.inr ⟨nI_nle (by omega) h3, nI_ne0 (by omega) h3, fun h => nI_ne0 (by omega) (by omega) (i32d h)⟩
section GOES
variable {b z T n i j k w lo m ch d e x : Nat} {S0 M : HS} {v v0 v1 c c1 l l1 : Nat → Int32} {u u1 : Nat → Option Nat} {p : Option Nat} {tr tr1 : TR} {r : Int32} {t : TT}
/-- how a tick comes out: both programs stop at the same state -/
def OUTT (z T n b : Nat) (t : TT) (S0 M : HS) (q : Nat) (A B : Option (HS × Int32)) : Prop := ∃ v1 c1 u1 l1 p1 tr1 r1, A = some (SC z T n S0 v1 c1 u1 l1 p1 tr1, r1) ∧ B = some (SV b M v1, r1) ∧ SI z T n t v1 c1 u1 l1 p1 tr1 ∧ tr1.1 ≤ q
set_option maxRecDepth 100000 in
theorem j_go (hC : CX z T n t S0) (hX : MX b n t M) : ∀ (m i f1 f2 : Nat) (v c : Nat → Int32) (u : Nat → Option Nat) (l : Nat → Int32) (p : Option Nat) (tr : TR) (L4 L2 : Int32), n ≤ i + m → m < f1 → m < f2 → HL z T n t i v c u l tr → BU (m + 1) L4 L2 → (L4 = 0 → p = some (nda z T i)) → tr.1 + 300 * m < 2 ^ 31 → OUTT z T n b t S0 M (tr.1 + 300 * m) (fX9_perform_25 (Yc z) f1 (SC z T n S0 v c u l p tr) (some (z + 5)) (some (nda z T i)) L4) (fX12_goes_31 (Ym b) f2 (SV b M v) (some b) L2)
  | _, _, 0, _, _, _, _, _, _, _, _, _, _, h, _, _, _, _, _ => absurd h (Nat.not_lt_zero _)
  | _, _, _, 0, _, _, _, _, _, _, _, _, _, _, h, _, _, _, _ => absurd h (Nat.not_lt_zero _)
  | 0, i, _ + 1, _ + 1, _, _, _, _, _, _, _, _, h, _, _, hH, _, _, _ => by
    have := hH.1
    omega
  | m + 1, i, f1 + 1, f2 + 1, v, c, u, l, p, tr, L4, L2, hm, hf1, hf2, hH, hBU, hp, hq => by
    have hn := CX_n hC
    have hW := hC.2.1
    obtain ⟨hi, hB, hI, hR, h284, h272, hPT⟩ := hH
    have hd := wf_dep1 hW hi
    rcases BU_0 hBU with ⟨h4, h2⟩ | ⟨h4, h4', h2⟩
    · subst h4
      subst h2
      have hp := hp rfl
      refine ⟨upd v 293 (v 293 + 1), c, u, l, p, tr, 5, ?_, ?_, ⟨fun q hq => ⟨by rw [pk_un (by omega)]; exact (hB q hq).1, fun h => by rw [pk_un (by omega)]; exact (hB q hq).2 h⟩, IT_upd (by omega) hI, fun q hq h1 => ?_, Or.inr ⟨i, hi, hp, by rw [pk_un (by omega)]; exact h284, by rw [pk_un (by omega)]; exact h272, PTH_congr hW _ i hi (by omega) (fun k hk => pk_un (by omega)) hPT⟩⟩, by omega⟩
      · rw [fX9_perform_25]
        refine ifP (by decide) ?_
        refine bnd (k901 hC) ?_
        refine bnd (kG (w := 293) hC rfl) ?_
        refine bnd (kGp (w := 293) hC rfl) ?_
        rfl
      · rw [fX12_goes_31]
        refine ifP rfl ?_
        refine bnd (mR1200 (SV_fix hX.1)) ?_
        refine bnd (SV_gA (j := 293) (by omega)) ?_
        refine bnd (SV_pA (j := 293) (by omega)) ?_
        rfl
      · rw [pk_un (by omega)] at h1
        exact rs_congr (pk_un (by omega)) (pk_un (by omega)) (pk_un (by omega)) rfl rfl (fun _ _ => rfl) (hR q hq h1)
    · have gw : ∀ k, k < 272 ∨ 284 < k → upd (upd (upd v 284 (-1)) (273 + (t 3 i - 1)) (nI i)) 272 (nI (t 3 i)) k = v k := fun k hk => by rw [pk_un (by omega), pk_un (by omega), pk_un (by omega)]
      have gL : LOC1 i v (upd (upd (upd v 284 (-1)) (273 + (t 3 i - 1)) (nI i)) 272 (nI (t 3 i))) ∨ True := Or.inr trivial
      have eB0 : ∀ q, ((fX12_enters (Ym b) (SV b M (upd (upd (upd v 284 (-1)) (273 + (t 3 i - 1)) (nI i)) 272 (nI (t 3 i)))) (some b) (nI i)).bind fun q102 => fX12_goes_107 (fX12_goes_31 (Ym b) f2) (Ym b) FU q102.1 (some b) (L2 + (-1)) q102.2) = q → fX12_goes_31 (Ym b) (f2 + 1) (SV b M v) (some b) L2 = q := by
        intro q h
        rw [fX12_goes_31]
        refine ifN h2 ?_
        refine bnd (mR1200 (SV_fix hX.1)) ?_
        refine bnd (SV_gA (j := 284) (by omega)) ?_
        rw [h284]
        refine bnd (mR1200 (SV_fix hX.1)) ?_
        refine bnd (SV_pA (j := 284) (by omega)) ?_
        refine bnd (mR1200 (SV_fix hX.1)) ?_
        refine bnd (mR1200 (SV_fix hX.1)) ?_
        refine bnd (SV_gA (j := 272) (by omega)) ?_
        rw [pk_un (by omega), h272, show (273 : Int32) = nI 273 from rfl, nI_add]
        refine bnd (SV_pA (j := 273 + (t 3 i - 1)) (by omega)) ?_
        refine bnd (mR1200 (SV_fix hX.1)) ?_
        refine bnd (SV_gA (j := 272) (by omega)) ?_
        rw [pk_un (by omega), pk_un (by omega), h272, nI_1]
        refine bnd (SV_pA (j := 272) (by omega)) ?_
        refine bnd mrcv ?_
        rw [show t 3 i - 1 + 1 = t 3 i by omega]
        exact h
      have eA0 : ∀ q, ((fX9_beginVisit (Yc z) (SC z T n S0 (upd (upd (upd v 284 (-1)) (273 + (t 3 i - 1)) (nI i)) 272 (nI (t 3 i))) c u l none tr) (some (z + 5)) (some (nda z T i))).bind fun q40 => fX9_perform_48 (fX9_perform_25 (Yc z) f1) (Yc z) FU q40.1 (some (z + 5)) L4 q40.2 (some (nda z T i))) = q → fX9_perform_25 (Yc z) (f1 + 1) (SC z T n S0 v c u l p tr) (some (z + 5)) (some (nda z T i)) L4 = q := by
        intro q h
        rw [SC_congr (v := v) hn (fun k hk => gw k (by unfold relV at hk; omega))] at h
        rw [fX9_perform_25]
        refine ifN h4 ?_
        refine bnd (k901 hC) ?_
        refine bnd (kNp hC) ?_
        refine bnd (crcv (o := 5) (by decide) rfl) ?_
        exact h
      have w284 : upd (upd (upd v 284 (-1)) (273 + (t 3 i - 1)) (nI i)) 272 (nI (t 3 i)) 284 = -1 := by rw [pk_un (by omega), pk_un (by omega), pk_us]
      have wst : upd (upd (upd v 284 (-1)) (273 + (t 3 i - 1)) (nI i)) 272 (nI (t 3 i)) (273 + (t 3 i - 1)) = nI i := by rw [pk_un (by omega), pk_us]
      have w272 : upd (upd (upd v 284 (-1)) (273 + (t 3 i - 1)) (nI i)) 272 (nI (t 3 i)) 272 = nI (t 3 i) := pk_us
      have wPT : PTH t (upd (upd (upd v 284 (-1)) (273 + (t 3 i - 1)) (nI i)) 272 (nI (t 3 i))) (t 3 i - 1) i := by
        -- the stack below the new place is as it was
        have key : ∀ (d x : Nat), x < n → t 3 x = d + 1 → d < t 3 i → PTH t v d x → PTH t (upd (upd (upd v 284 (-1)) (273 + (t 3 i - 1)) (nI i)) 272 (nI (t 3 i))) d x := by
          intro d
          induction d with
          | zero => exact fun _ _ _ _ _ => trivial
          | succ d ih =>
            intro x hx hdx hlt hP
            have hdx1 := wf_dep1 hW hx
            have hu := wf_up hW hx (by omega)
            refine ⟨by rw [pk_un (by omega), pk_un (by omega), pk_un (by omega)]; exact hP.1, ?_, ih (t 2 x) (by omega) (by omega) (by omega) hP.2.2⟩
            have hPA := hP.2.1
            unfold PA at *
            rw [gw _ (by omega), gw _ (by omega), gw _ (by omega), gw _ (by omega), gw _ (by omega)]
            exact hPA
        exact key _ i hi (by omega) (by omega) hPT
      generalize hw : upd (upd (upd v 284 (-1)) (273 + (t 3 i - 1)) (nI i)) 272 (nI (t 3 i)) = W at *
      obtain ⟨v1, c1, u1, l1, p1, tr1, r1, jA, jB, ⟨hO, hL, hB1, hI1, h11, hr1⟩, jq⟩ := j_enter (b := b) (M := M) (v := W) (c := c) (u := u) (l := l) (tr := tr) hC hX hi (fun q hq => ⟨by rw [gw _ (by omega)]; exact (hB q hq).1, fun h => by rw [gw _ (by omega)]; exact (hB q hq).2 h⟩) (IT_lo (fun k hk => gw k (by omega)) hI) w284 (fun q hq h1 => by
        rw [gw _ (by omega)] at h1
        exact rs_congr (gw _ (by omega)) (gw _ (by omega)) (gw _ (by omega)) rfl rfl (fun _ _ => rfl) (hR q hq h1)) (by omega)
      have hPT1 : PTH t v1 (t 3 i - 1) i := PTH_congr hW _ i hi (by omega) hL.one wPT
      have s272 : v1 272 = nI (t 3 i) := by rw [hL 272 (by omega), w272]
      have sst : v1 (273 + (t 3 i - 1)) = nI i := by rw [hL _ (by omega), wst]
      rcases hO with ⟨rfl, ch, hch, hPc, hc284, rfl⟩ | ⟨hr3, hc284, rfl⟩
      · have hHc := HL_child hC hi hPc hB1 hI1 (fun m hm h1 => hr1 m hm h1 (Or.inr (Or.inl rfl))) hc284 s272 sst hPT1
        obtain ⟨v2, c2, u2, l2, p2, tr2, r2, a1, a2, a3, a4⟩ := j_go hC hX m ch f1 f2 v1 c1 u1 l1 (some (nda z T ch)) tr1 (L4 + (-1)) (L2 + (-1)) (by omega) (by omega) (by omega) hHc (BU_step hBU h4') (fun _ => rfl) (by omega)
        refine ⟨v2, c2, u2, l2, p2, tr2, r2, ?_, ?_, a3, by omega⟩
        · refine eA0 _ ?_
          refine bnd jA ?_
          rw [show FU = 1999 + 1 from rfl]
          exact (k_48s hC).trans a1
        · refine eB0 _ ?_
          refine bnd jB ?_
          rw [show FU = 1999 + 1 from rfl, fX12_goes_107]
          refine ifP (show (0 : Int32) ≤ 0 by decide) ?_
          exact a2
      · have hup := j_up (i0 := i) (L4 := L4) (L2 := L2 + (-1)) (k25 := fX9_perform_25 (Yc z) f1) (k31 := fX12_goes_31 (Ym b) f2) hC hX (t 3 i - 1) i FU FU v1 c1 u1 l1 tr1 r1 (by omega) (by unfold FU; omega) (by unfold FU; omega) hr3 hi (wf_last hW hi).1 ⟨hB1, hI1, h11, hc284, fun q hq hne h1 => hr1 q hq h1 (Or.inl hne)⟩ (fun h1 => hr1 i hi h11 (Or.inr (Or.inr h1))) hPT1 sst (by rw [s272, show t 3 i - 1 + 1 = t 3 i by omega]) (by omega)
        have eA1 : ∀ q, fX9_perform_48 (fX9_perform_25 (Yc z) f1) (Yc z) FU (SC z T n S0 v1 c1 u1 l1 none tr1) (some (z + 5)) L4 r1 (some (nda z T i)) = q → fX9_perform_25 (Yc z) (f1 + 1) (SC z T n S0 v c u l p tr) (some (z + 5)) (some (nda z T i)) L4 = q := by
          intro q h
          refine eA0 _ ?_
          refine bnd jA ?_
          exact h
        have eB1 : ∀ q, fX12_goes_107 (fX12_goes_31 (Ym b) f2) (Ym b) FU (SV b M v1) (some b) (L2 + (-1)) r1 = q → fX12_goes_31 (Ym b) (f2 + 1) (SV b M v) (some b) L2 = q := by
          intro q h
          refine eB0 _ ?_
          refine bnd jB ?_
          exact h
        rcases hup with ⟨v2, c2, u2, l2, tr2, r2, a1, a2, a3, a4, a5, a6, a7, a8⟩ | ⟨ch, v2, c2, u2, l2, tr2, a1, a2, a3, a4, a5⟩
        · exact ⟨v2, c2, u2, l2, none, tr2, r2, eA1 _ a1, eB1 _ a2, ⟨a4, a5, a6, Or.inl ⟨rfl, a7⟩⟩, by omega⟩
        · obtain ⟨v3, c3, u3, l3, p3, tr3, r3, b1, b2, b3, b4⟩ := j_go hC hX m ch f1 f2 v2 c2 u2 l2 (some (nda z T ch)) tr2 (L4 + (-1)) (L2 + (-1)) (by omega) (by omega) (by omega) a2 (BU_step hBU h4') (fun _ => rfl) (by omega)
          exact ⟨v3, c3, u3, l3, p3, tr3, r3, eA1 _ (a3.trans b1), eB1 _ (a4.trans b2), b3, by omega⟩
set_option maxRecDepth 100000 in
theorem j_perform (hC : CX z T n t S0) (hX : MX b n t M) (h0 : 0 < n) (hS : SI z T n t v c u l p tr) {L4 L2 : Int32} (hBU : BU 25 L4 L2) (hL : L4 ≠ 0) (hq : tr.1 + 7200 < 2 ^ 31) : OUTT z T n b t S0 M (tr.1 + 7200) (fX9_perform (Yc z) (SC z T n S0 v c u l p tr) (some (z + 5)) (some (nda z T 0)) L4) (fX12_goes (Ym b) (SV b M v) (some b) L2) := by
  have hn := CX_n hC
  have hW := hC.2.1
  obtain ⟨hB, hI, hR, hP⟩ := hS
  rcases hP with ⟨rfl, h284⟩ | ⟨i, hi, rfl, h284, h272, hPT⟩
  · have g : ∀ k, k ≠ 284 → k ≠ 272 → upd (upd v 284 0) 272 0 k = v k := fun k h1 h2 => by rw [pk_un h2, pk_un h1]
    have h1 := (hW.2.1 h0).1
    obtain ⟨v3, c3, u3, l3, p3, tr3, r3, b1, b2, b3, b4⟩ := j_go hC hX 24 0 FU FU (upd (upd v 284 0) 272 0) c u l none tr L4 L2 (by omega) (by decide) (by decide) ⟨h0, fun q hq => ⟨by rw [g _ (by omega) (by omega)]; exact (hB q hq).1, fun h => by rw [g _ (by omega) (by omega)]; exact (hB q hq).2 h⟩, IT_lo (fun k hk => g k (by omega) (by omega)) hI, fun q hq h1 => by
        rw [g _ (by omega) (by omega)] at h1
        exact rs_congr (g _ (by omega) (by omega)) (g _ (by omega) (by omega)) (g _ (by omega) (by omega)) rfl rfl (fun _ _ => rfl) (hR q hq h1), by rw [pk_un (by omega), pk_us]; rfl, by rw [pk_us, h1]; rfl, by rw [h1]; trivial⟩ hBU (fun h => absurd h hL) (by omega)
    refine ⟨v3, c3, u3, l3, p3, tr3, r3, ?_, ?_, b3, b4⟩
    · unfold fX9_perform
      refine bnd (k901 hC) ?_
      refine bnd (kN hC) ?_
      refine ifP rfl ?_
      rw [SC_congr (v := v) hn (fun k hk => g k (by unfold relV at hk; omega) (by unfold relV at hk; omega))] at b1
      exact b1
    · unfold fX12_goes
      refine bnd (mR1200 (SV_fix hX.1)) ?_
      refine bnd (SV_gA (j := 284) (by omega)) ?_
      rw [h284]
      refine ifN (by decide) ?_
      refine bnd (mR1200 (SV_fix hX.1)) ?_
      refine bnd (SV_pA (j := 284) (by omega)) ?_
      refine bnd (mR1200 (SV_fix hX.1)) ?_
      refine bnd (SV_pA (j := 272) (by omega)) ?_
      exact b2
  · obtain ⟨v3, c3, u3, l3, p3, tr3, r3, b1, b2, b3, b4⟩ := j_go hC hX 24 i FU FU v c u l (some (nda z T i)) tr L4 L2 (by omega) (by decide) (by decide) ⟨hi, hB, hI, hR, h284, h272, hPT⟩ hBU (fun h => absurd h hL) (by omega)
    refine ⟨v3, c3, u3, l3, p3, tr3, r3, ?_, ?_, b3, b4⟩
    · unfold fX9_perform
      refine bnd (k901 hC) ?_
      refine bnd (kN hC) ?_
      refine ifN (by intro e; cases e) ?_
      refine bnd (k901 hC) ?_
      refine bnd (kN hC) ?_
      exact b1
    · unfold fX12_goes
      refine bnd (mR1200 (SV_fix hX.1)) ?_
      refine bnd (SV_gA (j := 284) (by omega)) ?_
      rw [h284]
      refine ifP (nI_pos' (by omega)) ?_
      exact b2
end GOES
