/-! take and giveBack -/
def isO (o : Nat) : Prop := o = 11 ∨ o = 42
def CPS (z n : Nat) (dO eO : Nat → Nat) (bD lD bE lE : Nat) (S S1 : HS) : Prop :=
  (∀ i, i < n → (∀ f, lfF f → S1.1 f (z + dO i) = S.1 f (z + eO i)) ∧ S1.2.1 302 (z + dO i) = S.2.1 302 (z + eO i)) ∧
  (∀ f, lgF f → S1.1 f (z + lD) = S.1 f (z + lE)) ∧ S1.2.1 200 (z + lD) = S.2.1 200 (z + lE) ∧
  (∀ k, k < 8 → S1.2.2.1 (z + (bD + 1)) k = S.2.2.1 (z + (bE + 1)) k) ∧ (∀ k, k < 30 → S1.2.2.1 (z + (lD + 1)) k = S.2.2.1 (z + (lE + 1)) k ∧ S1.2.2.1 (z + (lD + 2)) k = S.2.2.1 (z + (lE + 2)) k) ∧
  (∀ f a, ¬ (lfF f ∧ ∃ j, j < n ∧ a = z + dO j) → ¬ (lgF f ∧ a = z + lD) → S1.1 f a = S.1 f a) ∧
  (∀ f a, ¬ (f = 302 ∧ ∃ j, j < n ∧ a = z + dO j) → ¬ (f = 200 ∧ a = z + lD) → S1.2.1 f a = S.2.1 f a) ∧
  (∀ a k, ¬ (a = z + (bD + 1) ∧ k < 8) → ¬ ((a = z + (lD + 1) ∨ a = z + (lD + 2)) ∧ k < 30) → S1.2.2.1 a k = S.2.2.1 a k) ∧ S1.2.2.2 = S.2.2.2
def PLF (z n i : Nat) (dO eO : Nat → Nat) (S S1 : HS) : Prop :=
  (∀ j, j < n → j < i → (∀ f, lfF f → S1.1 f (z + dO j) = S.1 f (z + eO j)) ∧ S1.2.1 302 (z + dO j) = S.2.1 302 (z + eO j)) ∧
  (∀ f a, ¬ (lfF f ∧ ∃ j, j < n ∧ j < i ∧ a = z + dO j) → S1.1 f a = S.1 f a) ∧
  (∀ f a, ¬ (f = 302 ∧ ∃ j, j < n ∧ j < i ∧ a = z + dO j) → S1.2.1 f a = S.2.1 f a) ∧ S1.2.2 = S.2.2
section SNAPS
variable {z b q T n i j k w f a d o : Nat} {S0 S1 S2 M0 M1 S M : HS} {v v1 c l : Nat → Int32} {u : Nat → Option Nat} {p : Option Nat} {tr tr1 : TR} {t : TT} {x y r : Int32} {dO eO : Nat → Nat}
theorem oK (ho : isO o) : o + 40 < 269 ∧ kdC o = 6 ∧ kdC (o + 1) = 15 ∧ lnC (o + 1) = 24 ∧ kdC (o + 2) = 0 ∧ kdC (o + 3) = 14 ∧ lnC (o + 3) = 8 ∧ kdC (o + 4) = 2 ∧ kdC (o + 5) = 14 ∧ lnC (o + 5) = 30 ∧ kdC (o + 6) = 14 ∧ lnC (o + 6) = 30 ∧ ∀ i, i < 24 → kdC (o + 7 + i) = 3 := by
  have h1 : ∀ i, i < 24 → kdC (11 + 7 + i) = 3 := by decide +kernel
  have h2 : ∀ i, i < 24 → kdC (42 + 7 + i) = 3 := by decide +kernel
  rcases ho with rfl | rfl
  · exact ⟨by decide, by decide, by decide, by decide, by decide, by decide, by decide, by decide, by decide, by decide, by decide, by decide, h1⟩
  · exact ⟨by decide, by decide, by decide, by decide, by decide, by decide, by decide, by decide, by decide, by decide, by decide, by decide, h2⟩
theorem oF (ho : isO o) (h : FixC z S) : S.2.1 600 (z + o) = some (z + (o + 1)) ∧ S.2.1 601 (z + o) = some (z + (o + 2)) ∧ S.2.1 602 (z + o) = some (z + (o + 4)) ∧ S.2.1 0 (z + (o + 2)) = some (z + (o + 3)) ∧ S.2.1 209 (z + (o + 4)) = some (z + (o + 5)) ∧ S.2.1 210 (z + (o + 4)) = some (z + (o + 6)) ∧ ∀ i, i < 24 → S.2.2.2 (z + (o + 1)) i = some (z + (o + 7 + i)) := by
  have hrow := h.2.2.2.2.2.2.2.2.2.2.2.2.2.2.2.2.2.2.2.2.2.2.2.2.2.2.1
  rcases ho with rfl | rfl
  · refine ⟨Option.some.inj ((cR (o := 11) (c := 6) (by decide) rfl).symm.trans (cR600_11 h)), Option.some.inj ((cR (o := 11) (c := 6) (by decide) rfl).symm.trans (cR601_11 h)), Option.some.inj ((cR (o := 11) (c := 6) (by decide) rfl).symm.trans (cR602_11 h)), Option.some.inj ((cR (o := 13) (c := 0) (by decide) rfl).symm.trans (cR0_13 h)), Option.some.inj ((cR (o := 15) (c := 2) (by decide) rfl).symm.trans (cR209_15 h)), Option.some.inj ((cR (o := 15) (c := 2) (by decide) rfl).symm.trans (cR210_15 h)), fun i hi => ?_⟩
    exact (hrow i hi).1
  · refine ⟨Option.some.inj ((cR (o := 42) (c := 6) (by decide) rfl).symm.trans (cR600_42 h)), Option.some.inj ((cR (o := 42) (c := 6) (by decide) rfl).symm.trans (cR601_42 h)), Option.some.inj ((cR (o := 42) (c := 6) (by decide) rfl).symm.trans (cR602_42 h)), Option.some.inj ((cR (o := 44) (c := 0) (by decide) rfl).symm.trans (cR0_44 h)), Option.some.inj ((cR (o := 46) (c := 2) (by decide) rfl).symm.trans (cR209_46 h)), Option.some.inj ((cR (o := 46) (c := 2) (by decide) rfl).symm.trans (cR210_46 h)), fun i hi => ?_⟩
    exact (hrow i hi).2
theorem atg_big (h801 : S.1 801 (z + T) = nI n) (hT : isT T) (h0 : ¬ x < 0) (h : nI n ≤ x) : fX8_nodeAt (Yc z) S (some (z + T)) x = some none := by
  unfold fX8_nodeAt
  refine ifN h0 ?_
  refine bnd (gI_of (kd_T hT).1 (kd_T hT).2.1 h801) ?_
  exact if_pos h
theorem atg_in (hF : FixC z S) (h801 : S.1 801 (z + T) = nI n) (hT : isT T) (hn : n ≤ 24) (hi : i < n) : fX8_nodeAt (Yc z) S (some (z + T)) (nI i) = some (some (nda z T i)) := by
  have hK := kd_T hT
  unfold fX8_nodeAt
  refine ifN (nI_pos (by omega)) ?_
  refine bnd (gI_of hK.1 hK.2.1 h801) ?_
  refine ifN (nI_ge (by omega) (by omega)) ?_
  refine bnd (cR800 hF hT) ?_
  refine bnd (caL hK.2.2.1 hK.2.2.2.1) ?_
  rw [hK.2.2.2.2]
  refine ifP (nI_lt (by omega) (by omega)) ?_
  refine bnd (cR800 hF hT) ?_
  refine bnd (cQnode hF hT (by omega)) ?_
  rfl
theorem PLF_fix (h : PLF z n i dO eO S S1) (hF : FixC z S) : FixC z S1 := FixC_congr (fun f a hf => h.2.2.1 f a (by rintro ⟨rfl, _⟩; exact absurd hf (by decide))) (fun a => h.2.1 400 a (by rintro ⟨h, _⟩; unfold lfF at h; omega)) (by rw [h.2.2.2]) hF
theorem PLF_801 (h : PLF z n i dO eO S S1) : S1.1 801 a = S.1 801 a := h.2.1 801 a (by rintro ⟨h, _⟩; unfold lfF at h; omega)
theorem PLF_step (hd : ∀ i j, i < 24 → j < 24 → dO i = dO j → i = j) (hde : ∀ i j, i < 24 → j < 24 → dO i ≠ eO j) (hi : i < n) (hn : n ≤ 24) (h : PLF z n i dO eO S S1) (h1 : (∀ f, lfF f → S2.1 f (z + dO i) = S1.1 f (z + eO i)) ∧ S2.2.1 302 (z + dO i) = S1.2.1 302 (z + eO i) ∧ (∀ f a, ¬ (lfF f ∧ a = z + dO i) → S2.1 f a = S1.1 f a) ∧ (∀ f a, ¬ (f = 302 ∧ a = z + dO i) → S2.2.1 f a = S1.2.1 f a) ∧ S2.2.2 = S1.2.2) : PLF z n (i + 1) dO eO S S2 := by
  have hE1 : ∀ f j, j < n → S1.1 f (z + eO j) = S.1 f (z + eO j) := fun f j hj => h.2.1 f _ (by rintro ⟨_, k, hk, _, he⟩; exact hde k j (by omega) (by omega) (by omega))
  have hE2 : ∀ f j, j < n → S1.2.1 f (z + eO j) = S.2.1 f (z + eO j) := fun f j hj => h.2.2.1 f _ (by rintro ⟨_, k, hk, _, he⟩; exact hde k j (by omega) (by omega) (by omega))
  refine ⟨fun j hj hji => ?_, fun f a hf => ?_, fun f a hf => ?_, h1.2.2.2.2.trans h.2.2.2⟩
  · by_cases e : j = i
    · subst e
      exact ⟨fun f hf => by rw [h1.1 f hf, hE1 f j hj], by rw [h1.2.1, hE2 302 j hj]⟩
    · have hne : dO j ≠ dO i := fun q => e (hd j i (by omega) (by omega) q)
      have h2 := h.1 j hj (by omega)
      exact ⟨fun f hf => by rw [h1.2.2.1 f _ (by omega)]; exact h2.1 f hf, by rw [h1.2.2.2.1 302 _ (by omega)]; exact h2.2⟩
  · rw [h1.2.2.1 f a (fun q => hf ⟨q.1, i, hi, by omega, q.2⟩)]
    exact h.2.1 f a (fun ⟨q1, k, q2, q3, q4⟩ => hf ⟨q1, k, q2, by omega, q4⟩)
  · rw [h1.2.2.2.1 f a (fun q => hf ⟨q.1, i, hi, by omega, q.2⟩)]
    exact h.2.2.1 f a (fun ⟨q1, k, q2, q3, q4⟩ => hf ⟨q1, k, q2, by omega, q4⟩)
theorem PLF_0 : PLF z n 0 dO eO S S := ⟨fun j _ h => absurd h (Nat.not_lt_zero _), fun _ _ _ => rfl, fun _ _ _ => rfl, rfl⟩
theorem PLF_skip (h : PLF z n i dO eO S S1) (hi : n ≤ i) : PLF z n (i + 1) dO eO S S1 :=
  ⟨fun j h1 _ => h.1 j h1 (by omega), fun f a hf => h.2.1 f a (fun ⟨q1, k, q2, q3, q4⟩ => hf ⟨q1, k, q2, by omega, q4⟩), fun f a hf => h.2.2.1 f a (fun ⟨q1, k, q2, q3, q4⟩ => hf ⟨q1, k, q2, by omega, q4⟩), h.2.2.2⟩
/-- behind the lives: the board and the ledger -/
theorem k_tail {bD lD bE lE : Nat} (hb : (bD = 6 ∧ lD = 8 ∧ isO (bE - 2) ∧ lE = bE + 2 ∧ 2 ≤ bE) ∨ (bE = 6 ∧ lE = 8 ∧ isO (bD - 2) ∧ lD = bD + 2 ∧ 2 ≤ bD)) (hF : FixC z S) (h : PLF z n 24 dO eO S S1) (hn : n ≤ 24) : ∃ S2 S3, fX0_copyFrom (Yc z) S1 (some (z + bD)) (some (z + bE)) = some S2 ∧ (∀ f a, S2.2.1 f a = S1.2.1 f a) ∧ fX2_copyFrom (Yc z) S2 (some (z + lD)) (some (z + lE)) = some S3 ∧ CPS z n dO eO bD lD bE lE S S3 := by
  have hF1 := PLF_fix h hF
  have hnums : (bD + 1 < 269 ∧ kdC bD = 0 ∧ kdC (bD + 1) = 14 ∧ lnC (bD + 1) = 8 ∧ lD + 2 < 269 ∧ kdC lD = 2 ∧ kdC (lD + 1) = 14 ∧ kdC (lD + 2) = 14 ∧ lnC (lD + 1) = 30 ∧ lnC (lD + 2) = 30 ∧ bE + 1 < 269 ∧ kdC bE = 0 ∧ kdC (bE + 1) = 14 ∧ lnC (bE + 1) = 8 ∧ lE + 2 < 269 ∧ kdC lE = 2 ∧ kdC (lE + 1) = 14 ∧ kdC (lE + 2) = 14 ∧ lnC (lE + 1) = 30 ∧ lnC (lE + 2) = 30) ∧ (lD + 2 < lE ∨ lE + 2 < lD) ∧ (bD + 1 ≠ lE + 1 ∧ bD + 1 ≠ lE + 2 ∧ bD + 1 ≠ lD + 1 ∧ bD + 1 ≠ lD + 2) := by
    rcases hb with ⟨rfl, rfl, ho, rfl, h2⟩ | ⟨rfl, rfl, ho, rfl, h2⟩
    · obtain ⟨e, rfl⟩ : ∃ e, bE = e + 2 := ⟨bE - 2, by omega⟩
      rcases ho with ho | ho
      · have : e = 11 := by omega
        subst this; decide
      · have : e = 42 := by omega
        subst this; decide
    · obtain ⟨e, rfl⟩ : ∃ e, bD = e + 2 := ⟨bD - 2, by omega⟩
      rcases ho with ho | ho
      · have : e = 11 := by omega
        subst this; decide
      · have : e = 42 := by omega
        subst this; decide
  have hrefs : ∀ {S : HS}, FixC z S → S.2.1 0 (z + bD) = some (z + (bD + 1)) ∧ S.2.1 0 (z + bE) = some (z + (bE + 1)) ∧ S.2.1 209 (z + lD) = some (z + (lD + 1)) ∧ S.2.1 210 (z + lD) = some (z + (lD + 2)) ∧ S.2.1 209 (z + lE) = some (z + (lE + 1)) ∧ S.2.1 210 (z + lE) = some (z + (lE + 2)) := by
    intro S hF
    have a1 := Option.some.inj ((cR (o := 6) (c := 0) (by decide) rfl).symm.trans (cR0_6 hF))
    have a2 := Option.some.inj ((cR (o := 8) (c := 2) (by decide) rfl).symm.trans (cR209_8 hF))
    have a3 := Option.some.inj ((cR (o := 8) (c := 2) (by decide) rfl).symm.trans (cR210_8 hF))
    rcases hb with ⟨rfl, rfl, ho, rfl, h2⟩ | ⟨rfl, rfl, ho, rfl, h2⟩
    · obtain ⟨e, rfl⟩ : ∃ e, bE = e + 2 := ⟨bE - 2, by omega⟩
      have g := oF ho hF
      exact ⟨a1, g.2.2.2.1, a2, a3, g.2.2.2.2.1, g.2.2.2.2.2.1⟩
    · obtain ⟨e, rfl⟩ : ∃ e, bD = e + 2 := ⟨bD - 2, by omega⟩
      have g := oF ho hF
      exact ⟨g.2.2.2.1, a1, g.2.2.2.2.1, g.2.2.2.2.2.1, a2, a3⟩
  obtain ⟨⟨n1, n2, n3, n4, n5, n6, n7, n8, n9, n10, m1, m2, m3, m4, m5, m6, m7, m8, m9, m10⟩, hl, hg⟩ := hnums
  have r1 := hrefs hF1
  have c0 := k_cp0 (z := z) (S := S1) n1 n2 n3 n4 m1 m2 m3 m4 r1.1 r1.2.1
  obtain ⟨S3, c2, s1, s2, s3, s4, s5, s6, s7⟩ := k_cp2 (z := z) (S := (S1.1, S1.2.1, va_up S1.2.2.1 (z + (bD + 1)) (fun k => if k < 8 then S1.2.2.1 (z + (bE + 1)) k else S1.2.2.1 (z + (bD + 1)) k), S1.2.2.2)) n5 n6 n7 n8 n9 n10 m5 m6 m7 m8 m9 m10 hl r1.2.2.1 r1.2.2.2.1 r1.2.2.2.2.1 r1.2.2.2.2.2
  have hAI : S1.2.2.1 = S.2.2.1 := by rw [h.2.2.2]
  refine ⟨_, S3, c0, fun _ _ => rfl, c2, fun i hi => ⟨fun f hf => ?_, ?_⟩, fun f hf => ?_, ?_, fun k hk => ?_, fun k hk => ⟨?_, ?_⟩, fun f a h1 h2 => ?_, fun f a h1 h2 => ?_, fun a k h1 h2 => ?_, ?_⟩
  · rw [s4 f _ (by rintro ⟨q, _⟩; unfold lfF at hf; unfold lgF at q; omega)]
    exact (h.1 i hi (by omega)).1 f hf
  · rw [s5 302 _ (by omega)]
    exact (h.1 i hi (by omega)).2
  · rw [s1 f hf]
    exact h.2.1 f _ (by rintro ⟨q, _⟩; unfold lfF at q; unfold lgF at hf; omega)
  · rw [s2]
    exact h.2.2.1 200 _ (by omega)
  · rw [s6 _ _ (by omega)]
    show va_up S1.2.2.1 (z + (bD + 1)) _ (z + (bD + 1)) k = _
    rw [va_up_self, if_pos hk, hAI]
  · rw [(s3 k hk).1]
    show va_up S1.2.2.1 (z + (bD + 1)) _ (z + (lE + 1)) k = _
    rw [va_up_ne _ _ (by omega), hAI]
  · rw [(s3 k hk).2]
    show va_up S1.2.2.1 (z + (bD + 1)) _ (z + (lE + 2)) k = _
    rw [va_up_ne _ _ (by omega), hAI]
  · rw [s4 f a h2]
    exact h.2.1 f a (fun ⟨q1, k, q2, _, q4⟩ => h1 ⟨q1, k, q2, q4⟩)
  · rw [s5 f a h2]
    exact h.2.2.1 f a (fun ⟨q1, k, q2, _, q4⟩ => h1 ⟨q1, k, q2, q4⟩)
  · rw [s6 a k h2]
    show va_up S1.2.2.1 (z + (bD + 1)) _ a k = _
    by_cases e : a = z + (bD + 1)
    · subst e
      rw [va_up_self, if_neg (fun q => h1 ⟨rfl, q⟩), hAI]
    · rw [va_up_ne _ _ e, hAI]
  · rw [s7]
    show S1.2.2.2 = _
    rw [h.2.2.2]
theorem k_take (ho : isO o) (hF : FixC z S) (hT : isT T) (h801 : S.1 801 (z + T) = nI n) (hn : n ≤ 24) (h01 : ∀ i, i < n → S.1 300 (z + (T + 5 + 4 * i)) = 0 ∨ S.1 300 (z + (T + 5 + 4 * i)) = 1) : ∃ S3, fX6_take (Yc z) S (some (z + o)) (some (z + T)) (some (z + 6)) (some (z + 8)) = some S3 ∧ CPS z n (fun i => o + 7 + i) (fun i => T + 5 + 4 * i) (o + 2) (o + 4) 6 8 S S3 := by
  have hO := oK ho
  have hd : ∀ i j, i < 24 → j < 24 → (fun i => o + 7 + i) i = (fun i => o + 7 + i) j → i = j := fun i j _ _ h => by have h : o + 7 + i = o + 7 + j := h; omega
  have hde : ∀ i j, i < 24 → j < 24 → (fun i => o + 7 + i) i ≠ (fun i => T + 5 + 4 * i) j := fun i j h1 h2 h => by
    have h : o + 7 + i = T + 5 + 4 * j := h
    rcases ho with rfl | rfl <;> rcases hT with rfl | rfl <;> omega
  have loop : ∀ (d fuel i : Nat) (S1 : HS), i + d = 24 → d < fuel → PLF z n i (fun i => o + 7 + i) (fun i => T + 5 + 4 * i) S S1 → ∃ S3, fX6_take_3 (Yc z) fuel S1 (some (z + o)) (some (z + T)) (some (z + 6)) (some (z + 8)) (nI i) = some S3 ∧ CPS z n (fun i => o + 7 + i) (fun i => T + 5 + 4 * i) (o + 2) (o + 4) 6 8 S S3 := by
    intro d
    induction d with
    | zero =>
      intro fuel i S1 hi hf hP
      obtain ⟨fuel, rfl⟩ : ∃ g, fuel = g + 1 := ⟨fuel - 1, by omega⟩
      have hi : i = 24 := by omega
      subst hi
      have hF1 := PLF_fix hP hF
      have g := oF ho hF1
      obtain ⟨S2, S3, c0, e2, c2, hc⟩ := k_tail (bD := o + 2) (lD := o + 4) (bE := 6) (lE := 8) (Or.inr ⟨rfl, rfl, ho, rfl, by omega⟩) hF hP hn
      refine ⟨S3, ?_, hc⟩
      rw [fX6_take_3]
      refine bnd (gR_of (by omega) hO.2.1 g.1) ?_
      refine bnd (caL (by omega) hO.2.2.1) ?_
      rw [hO.2.2.2.1]
      refine ifP (nI_le (Nat.le_refl _) (by decide)) ?_
      refine bnd (gR_of (by omega) hO.2.1 g.2.1) ?_
      refine bnd (crcv (by omega) hO.2.2.2.2.1) ?_
      refine bnd c0 ?_
      refine bnd (gR_of (by omega) hO.2.1 (x := some (z + (o + 4))) (by rw [e2]; exact g.2.2.1)) ?_
      refine bnd (crcv (by omega) hO.2.2.2.2.2.2.2.1) ?_
      refine bnd c2 ?_
      rfl
    | succ d ih =>
      intro fuel i S1 hi hf hP
      obtain ⟨fuel, rfl⟩ : ∃ g, fuel = g + 1 := ⟨fuel - 1, by omega⟩
      have hF1 := PLF_fix hP hF
      have g := oF ho hF1
      have h801' : S1.1 801 (z + T) = nI n := by rw [PLF_801 hP]; exact h801
      by_cases hin : i < n
      · have hk := kd_lf hT (i := i) (by omega)
        have h300 : S1.1 300 (z + (T + 5 + 4 * i)) = 0 ∨ S1.1 300 (z + (T + 5 + 4 * i)) = 1 := by
          rw [hP.2.1 300 _ (by rintro ⟨_, k, hk1, _, he⟩; have he : z + (T + 5 + 4 * i) = z + (o + 7 + k) := he; exact hde k i (by omega) (by omega) (by show o + 7 + k = T + 5 + 4 * i; omega))]
          exact h01 i hin
        obtain ⟨S2, c3, hs⟩ := k_cp3 (z := z) (S := S1) (o1 := o + 7 + i) (o2 := T + 5 + 4 * i) (by omega) (hO.2.2.2.2.2.2.2.2.2.2.2.2 i (by omega)) hk.1 hk.2 (hde i i (by omega) (by omega)) h300
        obtain ⟨S3, e3, hc⟩ := ih fuel (i + 1) S2 (by omega) (by omega) (PLF_step hd hde hin hn hP hs)
        refine ⟨S3, ?_, hc⟩
        rw [fX6_take_3]
        refine bnd (gR_of (by omega) hO.2.1 g.1) ?_
        refine bnd (caL (by omega) hO.2.2.1) ?_
        rw [hO.2.2.2.1]
        refine ifN (nI_ge (by omega) (by decide)) ?_
        refine bnd (crcv (kd_T hT).1 (kd_T hT).2.1) ?_
        refine bnd (atg_in hF1 h801' hT hn hin) ?_
        refine ifN (by intro e; cases e) ?_
        refine bnd (gR_of (by omega) hO.2.1 g.1) ?_
        refine bnd (cQ (by omega) hO.2.2.1 (by rw [hO.2.2.2.1]; omega)) ?_
        rw [g.2.2.2.2.2.2 i (by omega)]
        refine bnd (nd403 hF1 hT (by omega)) ?_
        refine bnd (crcv (by omega) (hO.2.2.2.2.2.2.2.2.2.2.2.2 i (by omega))) ?_
        refine bnd c3 ?_
        rw [nI_1]
        exact e3
      · obtain ⟨S3, e3, hc⟩ := ih fuel (i + 1) S1 (by omega) (by omega) (PLF_skip hP (by omega))
        refine ⟨S3, ?_, hc⟩
        rw [fX6_take_3]
        refine bnd (gR_of (by omega) hO.2.1 g.1) ?_
        refine bnd (caL (by omega) hO.2.2.1) ?_
        rw [hO.2.2.2.1]
        refine ifN (nI_ge (by omega) (by decide)) ?_
        refine bnd (crcv (kd_T hT).1 (kd_T hT).2.1) ?_
        refine bnd (atg_big h801' hT (nI_pos (by omega)) (nI_le (by omega) (by omega))) ?_
        refine ifP rfl ?_
        rw [nI_1]
        exact e3
  unfold fX6_take
  exact loop 24 FU 0 S rfl (by decide) PLF_0
theorem k_give (ho : isO o) (hF : FixC z S) (hT : isT T) (h801 : S.1 801 (z + T) = nI n) (hn : n ≤ 24) (h01 : ∀ i, i < n → S.1 300 (z + (o + 7 + i)) = 0 ∨ S.1 300 (z + (o + 7 + i)) = 1) : ∃ S3, fX6_giveBack (Yc z) S (some (z + o)) (some (z + T)) (some (z + 6)) (some (z + 8)) = some S3 ∧ CPS z n (fun i => T + 5 + 4 * i) (fun i => o + 7 + i) 6 8 (o + 2) (o + 4) S S3 := by
  have hO := oK ho
  have hd : ∀ i j, i < 24 → j < 24 → (fun i => T + 5 + 4 * i) i = (fun i => T + 5 + 4 * i) j → i = j := fun i j _ _ h => by have h : T + 5 + 4 * i = T + 5 + 4 * j := h; omega
  have hde : ∀ i j, i < 24 → j < 24 → (fun i => T + 5 + 4 * i) i ≠ (fun i => o + 7 + i) j := fun i j h1 h2 h => by
    have h : T + 5 + 4 * i = o + 7 + j := h
    rcases ho with rfl | rfl <;> rcases hT with rfl | rfl <;> omega
  have loop : ∀ (d fuel i : Nat) (S1 : HS), i + d = 24 → d < fuel → PLF z n i (fun i => T + 5 + 4 * i) (fun i => o + 7 + i) S S1 → ∃ S3, fX6_giveBack_3 (Yc z) fuel S1 (some (z + o)) (some (z + T)) (some (z + 6)) (some (z + 8)) (nI i) = some S3 ∧ CPS z n (fun i => T + 5 + 4 * i) (fun i => o + 7 + i) 6 8 (o + 2) (o + 4) S S3 := by
    intro d
    induction d with
    | zero =>
      intro fuel i S1 hi hf hP
      obtain ⟨fuel, rfl⟩ : ∃ g, fuel = g + 1 := ⟨fuel - 1, by omega⟩
      have hi : i = 24 := by omega
      subst hi
      have hF1 := PLF_fix hP hF
      have g := oF ho hF1
      obtain ⟨S2, S3, c0, e2, c2, hc⟩ := k_tail (bD := 6) (lD := 8) (bE := o + 2) (lE := o + 4) (Or.inl ⟨rfl, rfl, ho, rfl, by omega⟩) hF hP hn
      refine ⟨S3, ?_, hc⟩
      rw [fX6_giveBack_3]
      refine bnd (gR_of (by omega) hO.2.1 g.1) ?_
      refine bnd (caL (by omega) hO.2.2.1) ?_
      rw [hO.2.2.2.1]
      refine ifP (nI_le (Nat.le_refl _) (by decide)) ?_
      refine bnd (gR_of (by omega) hO.2.1 g.2.1) ?_
      refine bnd (crcv (o := 6) (by decide) rfl) ?_
      refine bnd c0 ?_
      refine bnd (gR_of (by omega) hO.2.1 (x := some (z + (o + 4))) (by rw [e2]; exact g.2.2.1)) ?_
      refine bnd (crcv (o := 8) (by decide) rfl) ?_
      refine bnd c2 ?_
      rfl
    | succ d ih =>
      intro fuel i S1 hi hf hP
      obtain ⟨fuel, rfl⟩ : ∃ g, fuel = g + 1 := ⟨fuel - 1, by omega⟩
      have hF1 := PLF_fix hP hF
      have g := oF ho hF1
      have h801' : S1.1 801 (z + T) = nI n := by rw [PLF_801 hP]; exact h801
      by_cases hin : i < n
      · have hk := kd_lf hT (i := i) (by omega)
        have h300 : S1.1 300 (z + (o + 7 + i)) = 0 ∨ S1.1 300 (z + (o + 7 + i)) = 1 := by
          rw [hP.2.1 300 _ (by rintro ⟨_, k, hk1, _, he⟩; have he : z + (o + 7 + i) = z + (T + 5 + 4 * k) := he; exact hde k i (by omega) (by omega) (by show T + 5 + 4 * k = o + 7 + i; omega))]
          exact h01 i hin
        obtain ⟨S2, c3, hs⟩ := k_cp3 (z := z) (S := S1) (o1 := T + 5 + 4 * i) (o2 := o + 7 + i) hk.1 hk.2 (by omega) (hO.2.2.2.2.2.2.2.2.2.2.2.2 i (by omega)) (hde i i (by omega) (by omega)) h300
        obtain ⟨S3, e3, hc⟩ := ih fuel (i + 1) S2 (by omega) (by omega) (PLF_step hd hde hin hn hP hs)
        refine ⟨S3, ?_, hc⟩
        rw [fX6_giveBack_3]
        refine bnd (gR_of (by omega) hO.2.1 g.1) ?_
        refine bnd (caL (by omega) hO.2.2.1) ?_
        rw [hO.2.2.2.1]
        refine ifN (nI_ge (by omega) (by decide)) ?_
        refine bnd (crcv (kd_T hT).1 (kd_T hT).2.1) ?_
        refine bnd (atg_in hF1 h801' hT hn hin) ?_
        refine ifN (by intro e; cases e) ?_
        refine bnd (nd403 hF1 hT (by omega)) ?_
        refine bnd (gR_of (by omega) hO.2.1 g.1) ?_
        refine bnd (cQ (by omega) hO.2.2.1 (by rw [hO.2.2.2.1]; omega)) ?_
        rw [g.2.2.2.2.2.2 i (by omega)]
        refine bnd (lfrcv hT (by omega)) ?_
        refine bnd c3 ?_
        rw [nI_1]
        exact e3
      · obtain ⟨S3, e3, hc⟩ := ih fuel (i + 1) S1 (by omega) (by omega) (PLF_skip hP (by omega))
        refine ⟨S3, ?_, hc⟩
        rw [fX6_giveBack_3]
        refine bnd (gR_of (by omega) hO.2.1 g.1) ?_
        refine bnd (caL (by omega) hO.2.2.1) ?_
        rw [hO.2.2.2.1]
        refine ifN (nI_ge (by omega) (by decide)) ?_
        refine bnd (crcv (kd_T hT).1 (kd_T hT).2.1) ?_
        refine bnd (atg_big h801' hT (nI_pos (by omega)) (nI_le (by omega) (by omega))) ?_
        refine ifP rfl ?_
        rw [nI_1]
        exact e3
  unfold fX6_giveBack
  exact loop 24 FU 0 S rfl (by decide) PLF_0
end SNAPS
