/-! readTree: the reference's head of a node -/
section RHD
variable {b n i j k c d e o o1 K key s w m x : Nat} {L : Nat → Nat} {M : HS} {A : Nat → Nat → Int32} {op ρ : Nat → Int32} {fl mo v : Int32}
theorem str5 (h : STRR ρ) (hk : k ≤ 7) : STRR (upd ρ 5 (nI k)) := ⟨⟨k, hk, rfl⟩, h.2.1, h.2.2.1, h.2.2.2⟩
theorem str7 (h : STRR ρ) (hk : k ≤ 99) : STRR (upd ρ 7 (nI k)) := ⟨h.1, ⟨k, hk, rfl⟩, h.2.2.1, h.2.2.2⟩
theorem str8 (h : STRR ρ) (hk : k ≤ 7) : STRR (upd ρ 8 (nI k)) := ⟨h.1, h.2.1, ⟨k, hk, rfl⟩, h.2.2.2⟩
theorem str10 (h : STRR ρ) (hk : k ≤ 99) : STRR (upd ρ 10 (nI k)) := ⟨h.1, h.2.1, h.2.2.1, ⟨k, hk, rfl⟩⟩
theorem str1 (h : STRR ρ) : STRR (upd ρ 1 v) := h
theorem str6 (h : STRR ρ) : STRR (upd ρ 6 v) := h
theorem str9 (h : STRR ρ) : STRR (upd ρ 9 v) := h
theorem r_deed_ok (h : MB b K L M) (ho : o ≤ K) (he : e = 0 ∨ e = 1) (hn : n < 24) (hC : CL L K e o o1 key s w) : fX12_deed (Ym b) (RdM b M (RW A n ρ) op o m d 0 mo) (some b) (nI n) (nI e) = some (RdM b M (RW A n (upd (upd (upd ρ 5 (nI key)) 6 (nI s)) 7 (nI w))) op o1 m d 0 mo) := by
  obtain ⟨h1, h2, h3, d1, h4, h5⟩ := hC
  have g1 := dgt_in h1
  have g4 := dgt_in h4
  unfold fX12_deed
  refine bnd (mR1228 h.1) ?_
  refine bnd mrcv ?_
  refine bnd ((r_dig h ho (lo := 0) (hi := 7) (by omega) (by omega)).1 key h1) ?_
  refine bnd (wRow (c := 5) (by omega) hn) ?_
  refine bnd q1222 ?_
  refine ifP rfl ?_
  refine bnd (mR1229 h.1) ?_
  refine bnd mrcv ?_
  refine bnd (r_sign (o := o + 1) h (by omega) he) ?_
  rw [← h2, if_neg h3]
  refine bnd (wRow (c := 6) (by omega) hn) ?_
  unfold fX12_deed_31
  refine bnd q1222 ?_
  refine ifP rfl ?_
  refine bnd (mR1230 h.1) ?_
  refine bnd mrcv ?_
  rcases h5 with ⟨h6, rfl, rfl⟩ | ⟨d2, h6, rfl, rfl⟩
  · refine bnd (((r_worth (o := o + 2) h (by omega)).1 _ h4).1 h6) ?_
    refine bnd (wRow (c := 7) (by omega) hn) ?_
    rfl
  · refine bnd (((r_worth (o := o + 2) h (by omega)).1 _ h4).2 d2 h6) ?_
    refine bnd (wRow (c := 7) (by omega) hn) ?_
    rfl
theorem r_deed_no (h : MB b K L M) (ho : o ≤ K) (he : e = 0 ∨ e = 1) (hn : n < 24) (hC : CLF L K e o o1) : ∃ ρ1, (STRR ρ → STRR ρ1) ∧ fX12_deed (Ym b) (RdM b M (RW A n ρ) op o m d 0 mo) (some b) (nI n) (nI e) = some (RdM b M (RW A n ρ1) op o1 m d 1 mo) := by
  unfold fX12_deed
  rcases hC with ⟨h1, rfl⟩ | ⟨key, h1, h2, rfl⟩ | ⟨key, h1, h2, h3, rfl⟩
  · refine ⟨upd ρ 5 (nI 0), fun q => str5 q (by omega), ?_⟩
    refine bnd (mR1228 h.1) ?_
    refine bnd mrcv ?_
    refine bnd ((r_dig h ho (lo := 0) (hi := 7) (by omega) (by omega)).2 h1) ?_
    refine bnd (wRow (c := 5) (by omega) hn) ?_
    refine bnd q1222 ?_
    refine ifN (by decide) ?_
    unfold fX12_deed_31
    refine bnd q1222 ?_
    exact if_neg (by decide)
  · have g1 := dgt_in h1
    refine ⟨upd (upd ρ 5 (nI key)) 6 (nI 0), fun q => str6 (str5 q (by omega)), ?_⟩
    refine bnd (mR1228 h.1) ?_
    refine bnd mrcv ?_
    refine bnd ((r_dig h ho (lo := 0) (hi := 7) (by omega) (by omega)).1 key h1) ?_
    refine bnd (wRow (c := 5) (by omega) hn) ?_
    refine bnd q1222 ?_
    refine ifP rfl ?_
    refine bnd (mR1229 h.1) ?_
    refine bnd mrcv ?_
    refine bnd (r_sign (o := o + 1) h (by omega) he) ?_
    rw [h2, if_pos rfl]
    refine bnd (wRow (c := 6) (by omega) hn) ?_
    unfold fX12_deed_31
    refine bnd q1222 ?_
    exact if_neg (by decide)
  · have g1 := dgt_in h1
    refine ⟨upd (upd (upd ρ 5 (nI key)) 6 (nI (sgO L K e (o + 1)))) 7 (nI 0), fun q => str7 (str6 (str5 q (by omega))) (by omega), ?_⟩
    have g2 : o + 2 ≤ K := by
      unfold sgO at h2
      split at h2
      · omega
      · exact absurd rfl h2
    refine bnd (mR1228 h.1) ?_
    refine bnd mrcv ?_
    refine bnd ((r_dig h ho (lo := 0) (hi := 7) (by omega) (by omega)).1 key h1) ?_
    refine bnd (wRow (c := 5) (by omega) hn) ?_
    refine bnd q1222 ?_
    refine ifP rfl ?_
    refine bnd (mR1229 h.1) ?_
    refine bnd mrcv ?_
    refine bnd (r_sign (o := o + 1) h (by omega) he) ?_
    rw [if_neg h2]
    refine bnd (wRow (c := 6) (by omega) hn) ?_
    unfold fX12_deed_31
    refine bnd q1222 ?_
    refine ifP rfl ?_
    refine bnd (mR1230 h.1) ?_
    refine bnd mrcv ?_
    refine bnd ((r_worth (o := o + 2) h g2).2 h3) ?_
    refine bnd (wRow (c := 7) (by omega) hn) ?_
    rfl
theorem r_end_ok (h : MB b K L M) (ho : o + 1 ≤ K) (hn : n < 24) (hC : CL L K 1 (o + 1) o1 key s w) : fX12_end (Ym b) (RdM b M (RW A n ρ) op o m d 0 mo) (some b) (nI n) = some (RdM b M (RW A n (upd (upd (upd ρ 8 (nI key)) 9 (nI s)) 10 (nI w))) op o1 m d 0 mo) := by
  obtain ⟨h1, h2, h3, d1, h4, h5⟩ := hC
  have g1 := dgt_in h1
  have g4 := dgt_in h4
  unfold fX12_end
  refine bnd q1220 ?_
  refine bnd (w1220 (nI_1 o)) ?_
  refine bnd (mR1231 h.1) ?_
  refine bnd mrcv ?_
  refine bnd ((r_dig h ho (lo := 0) (hi := 7) (by omega) (by omega)).1 key h1) ?_
  refine bnd (wRow (c := 8) (by omega) hn) ?_
  refine bnd q1222 ?_
  refine ifP rfl ?_
  refine bnd (mR1232 h.1) ?_
  refine bnd mrcv ?_
  refine bnd (r_sign (o := o + 1 + 1) (e := 1) h (by omega) (Or.inr rfl)) ?_
  rw [← h2, if_neg h3]
  refine bnd (wRow (c := 9) (by omega) hn) ?_
  unfold fX12_end_41
  refine bnd q1222 ?_
  refine ifP rfl ?_
  refine bnd (mR1233 h.1) ?_
  refine bnd mrcv ?_
  rcases h5 with ⟨h6, rfl, rfl⟩ | ⟨d2, h6, rfl, rfl⟩
  · refine bnd (((r_worth (o := o + 1 + 2) h (by omega)).1 _ h4).1 h6) ?_
    refine bnd (wRow (c := 10) (by omega) hn) ?_
    rfl
  · refine bnd (((r_worth (o := o + 1 + 2) h (by omega)).1 _ h4).2 d2 h6) ?_
    refine bnd (wRow (c := 10) (by omega) hn) ?_
    rfl
theorem r_end_no (h : MB b K L M) (ho : o + 1 ≤ K) (hn : n < 24) (hC : CLF L K 1 (o + 1) o1) : ∃ ρ1, (STRR ρ → STRR ρ1) ∧ fX12_end (Ym b) (RdM b M (RW A n ρ) op o m d 0 mo) (some b) (nI n) = some (RdM b M (RW A n ρ1) op o1 m d 1 mo) := by
  unfold fX12_end
  rcases hC with ⟨h1, rfl⟩ | ⟨key, h1, h2, rfl⟩ | ⟨key, h1, h2, h3, rfl⟩
  · refine ⟨upd ρ 8 (nI 0), fun q => str8 q (by omega), ?_⟩
    refine bnd q1220 ?_
    refine bnd (w1220 (nI_1 o)) ?_
    refine bnd (mR1231 h.1) ?_
    refine bnd mrcv ?_
    refine bnd ((r_dig h ho (lo := 0) (hi := 7) (by omega) (by omega)).2 h1) ?_
    refine bnd (wRow (c := 8) (by omega) hn) ?_
    refine bnd q1222 ?_
    refine ifN (by decide) ?_
    unfold fX12_end_41
    refine bnd q1222 ?_
    exact if_neg (by decide)
  · have g1 := dgt_in h1
    refine ⟨upd (upd ρ 8 (nI key)) 9 (nI 0), fun q => str9 (str8 q (by omega)), ?_⟩
    refine bnd q1220 ?_
    refine bnd (w1220 (nI_1 o)) ?_
    refine bnd (mR1231 h.1) ?_
    refine bnd mrcv ?_
    refine bnd ((r_dig h ho (lo := 0) (hi := 7) (by omega) (by omega)).1 key h1) ?_
    refine bnd (wRow (c := 8) (by omega) hn) ?_
    refine bnd q1222 ?_
    refine ifP rfl ?_
    refine bnd (mR1232 h.1) ?_
    refine bnd mrcv ?_
    refine bnd (r_sign (o := o + 1 + 1) (e := 1) h (by omega) (Or.inr rfl)) ?_
    rw [h2, if_pos rfl]
    refine bnd (wRow (c := 9) (by omega) hn) ?_
    unfold fX12_end_41
    refine bnd q1222 ?_
    exact if_neg (by decide)
  · have g1 := dgt_in h1
    refine ⟨upd (upd (upd ρ 8 (nI key)) 9 (nI (sgO L K 1 (o + 1 + 1)))) 10 (nI 0), fun q => str10 (str9 (str8 q (by omega))) (by omega), ?_⟩
    have g2 : o + 1 + 2 ≤ K := by
      unfold sgO at h2
      split at h2
      · omega
      · exact absurd rfl h2
    refine bnd q1220 ?_
    refine bnd (w1220 (nI_1 o)) ?_
    refine bnd (mR1231 h.1) ?_
    refine bnd mrcv ?_
    refine bnd ((r_dig h ho (lo := 0) (hi := 7) (by omega) (by omega)).1 key h1) ?_
    refine bnd (wRow (c := 8) (by omega) hn) ?_
    refine bnd q1222 ?_
    refine ifP rfl ?_
    refine bnd (mR1232 h.1) ?_
    refine bnd mrcv ?_
    refine bnd (r_sign (o := o + 1 + 1) (e := 1) h (by omega) (Or.inr rfl)) ?_
    rw [if_neg h2]
    refine bnd (wRow (c := 9) (by omega) hn) ?_
    unfold fX12_end_41
    refine bnd q1222 ?_
    refine ifP rfl ?_
    refine bnd (mR1233 h.1) ?_
    refine bnd mrcv ?_
    refine bnd ((r_worth (o := o + 1 + 2) h g2).2 h3) ?_
    refine bnd (wRow (c := 10) (by omega) hn) ?_
    rfl
/-! the end of the head -/
theorem r_321_f (hf : fl ≠ 0) {l1 l2 : Int32} : fX12_begins_321 (Ym b) (RdM b M A op o m d fl mo) (some b) l1 l2 = some (RdM b M A op o m d fl mo) := by
  unfold fX12_begins_321
  refine bnd q1222 ?_
  exact if_neg hf
theorem r_321_leaf (h : MB b K L M) (hk : k < 4) (hn : n < 24) : fX12_begins_321 (Ym b) (RdM b M (RW A n ρ) op o m d 0 mo) (some b) (nI k) (nI n) = some (RdM b M (RW A n (upd ρ 4 (nI n))) op o m d 0 mo) := by
  unfold fX12_begins_321
  refine bnd q1222 ?_
  refine ifP rfl ?_
  refine bnd q1220 ?_
  refine bnd (a := (0 : Int32)) ((r_isList (by omega)).trans (by rw [if_neg (by omega)])) ?_
  refine ifP rfl ?_
  unfold fX12_begins_346
  refine bnd (w1220 (Int32.add_zero _)) ?_
  refine ifN (show ¬ (4 : Int32) ≤ nI k from nI_ge (b := 4) hk (by decide)) ?_
  refine bnd (mR1227 h.1) ?_
  refine bnd (wRow (c := 4) (by omega) hn) ?_
  rfl
theorem r_346_in (h : MB b K L M) (hk : 4 ≤ k) (hk2 : k < 15) (hd : d < 10) {v : Int32} (hv : nI o + v = nI o1) : fX12_begins_346 (Ym b) (RdM b M A op o m d 0 mo) (some b) (nI k) (nI n) (some b) (nI o) v = some (RdM b M A (upd op d (nI n)) o1 m (d + 1) 0 1) := by
  unfold fX12_begins_346
  refine bnd (w1220 hv) ?_
  refine ifP (show (4 : Int32) ≤ nI k from nI_le (a := 4) hk (by omega)) ?_
  refine bnd (mR1234 h.1) ?_
  refine bnd q1235 ?_
  refine bnd (wO (by omega)) ?_
  refine bnd q1235 ?_
  refine bnd (w1235 (nI_1 d)) ?_
  refine bnd (w1236 (Or.inr rfl)) ?_
  rfl
theorem r_321_list (h : MB b K L M) (hk : 4 ≤ k ∧ k ≤ 8) (hd : d < 10) : fX12_begins_321 (Ym b) (RdM b M A op o m d 0 mo) (some b) (nI k) (nI n) = some (RdM b M A (upd op d (nI n)) (o + 1) m (d + 1) 0 1) := by
  unfold fX12_begins_321
  refine bnd q1222 ?_
  refine ifP rfl ?_
  refine bnd q1220 ?_
  refine bnd (a := (1 : Int32)) ((r_isList (by omega)).trans (by rw [if_pos hk])) ?_
  refine ifN (by decide) ?_
  exact r_346_in h (by omega) (by omega) hd (nI_1 o)
theorem r_321_one (h : MB b K L M) (hk : 9 ≤ k ∧ k < 15) (hd : d < 10) : fX12_begins_321 (Ym b) (RdM b M A op o m d 0 mo) (some b) (nI k) (nI n) = some (RdM b M A (upd op d (nI n)) o m (d + 1) 0 1) := by
  unfold fX12_begins_321
  refine bnd q1222 ?_
  refine ifP rfl ?_
  refine bnd q1220 ?_
  refine bnd (a := (0 : Int32)) ((r_isList (by omega)).trans (by rw [if_neg (by omega)])) ?_
  refine ifP rfl ?_
  exact r_346_in h (by omega) (by omega) hd (Int32.add_zero _)
theorem r_300_no (hk : k < 15) (hk2 : ¬ (4 ≤ k ∧ k ≤ 8)) {S : HS} : fX12_begins_300 (Ym b) S (some b) (nI k) (nI n) = fX12_begins_321 (Ym b) S (some b) (nI k) (nI n) := by
  unfold fX12_begins_300
  refine bnd (a := (0 : Int32)) ((r_isList hk).trans (by rw [if_neg hk2])) ?_
  exact if_pos rfl
/-- a list's sign of beginning -/
theorem r_300_list (h : MB b K L M) (ho : o ≤ K) (hk : 4 ≤ k ∧ k ≤ 8) (hd : d < 10) : fX12_begins_300 (Ym b) (RdM b M A op o m d 0 mo) (some b) (nI k) (nI n) = some (if o < K ∧ L o = 40 then RdM b M A (upd op d (nI n)) (o + 1) m (d + 1) 0 1 else RdM b M A op o m d 1 mo) := by
  unfold fX12_begins_300
  refine bnd (a := (1 : Int32)) ((r_isList (by omega)).trans (by rw [if_pos hk])) ?_
  refine ifN (by decide) ?_
  refine bnd mrcv ?_
  refine bnd (r_here h ho) ?_
  obtain ⟨c, ⟨h1, h2, h3, h4⟩ | ⟨h2, h4⟩⟩ := hr_rng h o
  · rw [h4, h3]
    by_cases hc : c = 40
    · rw [if_pos (c := o < K ∧ c = 40) ⟨h2, hc⟩]
      refine ifP (by rw [hc]; rfl) ?_
      exact r_321_list h hk hd
    · rw [if_neg (c := o < K ∧ c = 40) (fun q => hc q.2)]
      refine ifN (nIn hc (by omega) (by omega)) ?_
      refine bnd (w1222 (Or.inr rfl)) ?_
      exact r_321_f (by decide)
  · rw [h4, if_neg (c := o < K ∧ L o = 40) (fun q => h2 q.1)]
    refine ifN (by decide) ?_
    refine bnd (w1222 (Or.inr rfl)) ?_
    exact r_321_f (by decide)
theorem r_274_hi (hk : 2 ≤ k) (hk2 : k < 15) : fX12_begins_274 (Ym b) (RdM b M A op o m d fl mo) (some b) (nI k) (nI n) = fX12_begins_300 (Ym b) (RdM b M A op o m d fl mo) (some b) (nI k) (nI n) := by
  unfold fX12_begins_274
  refine bnd q1222 ?_
  by_cases hf : fl = 0
  · refine ifP hf ?_
    exact if_pos (show (2 : Int32) ≤ nI k from nI_le (a := 2) hk (by omega))
  · exact if_neg hf
theorem r_274_f (hf : fl ≠ 0) : fX12_begins_274 (Ym b) (RdM b M A op o m d fl mo) (some b) (nI k) (nI n) = fX12_begins_300 (Ym b) (RdM b M A op o m d fl mo) (some b) (nI k) (nI n) := by
  unfold fX12_begins_274
  refine bnd q1222 ?_
  exact if_neg hf
theorem r_219_f (hf : fl ≠ 0) {l1 l2 : Int32} : fX12_begins_219 (Ym b) (RdM b M A op o m d fl mo) (some b) l1 l2 = some (RdM b M A op o m d fl mo) := by
  unfold fX12_begins_219
  refine bnd q1222 ?_
  exact if_neg hf
/-- an action's end -/
theorem r_274_lo (h : MB b K L M) (ho : o ≤ K) (hk : k < 2) : fX12_begins_274 (Ym b) (RdM b M A op o m d 0 mo) (some b) (nI k) (nI n) = (if o < K ∧ L o = 126 then (fX12_end (Ym b) (RdM b M A op o m d 0 mo) (some b) (nI n)).bind fun S297 => fX12_begins_321 (Ym b) S297 (some b) (nI k) (nI n) else fX12_begins_321 (Ym b) (RdM b M A op o m d 0 mo) (some b) (nI k) (nI n)) := by
  have e300 : ∀ S, fX12_begins_300 (Ym b) S (some b) (nI k) (nI n) = fX12_begins_321 (Ym b) S (some b) (nI k) (nI n) := fun S => r_300_no (by omega) (by omega)
  unfold fX12_begins_274
  refine bnd q1222 ?_
  refine ifP rfl ?_
  refine ifN (show ¬ (2 : Int32) ≤ nI k from nI_ge (b := 2) hk (by decide)) ?_
  refine bnd mrcv ?_
  refine bnd (r_here h ho) ?_
  obtain ⟨c, ⟨h1, h2, h3, h4⟩ | ⟨h2, h4⟩⟩ := hr_rng h o
  · rw [h4, h3]
    by_cases hc : c = 126
    · rw [if_pos (c := o < K ∧ c = 126) ⟨h2, hc⟩]
      refine ifP (by rw [hc]; rfl) ?_
      refine bnd mrcv ?_
      simp only [e300]
    · rw [if_neg (c := o < K ∧ c = 126) (fun q => hc q.2)]
      refine ifN (nIn hc (by omega) (by omega)) ?_
      exact e300 _
  · rw [h4, if_neg (c := o < K ∧ L o = 126) (fun q => h2 q.1)]
    refine ifN (by decide) ?_
    exact e300 _
theorem isdig (h : MB b K L M) (o : Nat) {Y : LY} {S : HS} : fX12_isIn Y S (hr L K o) 48 57 = some (if (dgt L K 0 9 o).isSome then 1 else 0) := by
  have tb : ∀ c, c < 128 → (if nI c < 48 then (0 : Int32) else if 57 < nI c then 0 else 1) = (if 48 ≤ c ∧ c ≤ 57 then 1 else 0) := by decide +kernel
  unfold fX12_isIn dgt
  obtain ⟨c, ⟨h1, h2, h3, h4⟩ | ⟨h2, h4⟩⟩ := hr_rng h o
  · rw [h4, h3]
    have := tb c (by omega)
    by_cases q : 48 ≤ c ∧ c ≤ 57
    · rw [if_pos q] at this
      rw [if_pos (c := o < K ∧ 48 + 0 ≤ c ∧ c ≤ 48 + 9) ⟨h2, by omega, by omega⟩]
      by_cases a1 : nI c < 48
      · rw [if_pos a1] at this; exact absurd this (by decide)
      · rw [if_neg a1] at this ⊢
        by_cases a2 : 57 < nI c
        · rw [if_pos a2] at this; exact absurd this (by decide)
        · rw [if_neg a2]; rfl
    · rw [if_neg q] at this
      rw [if_neg (c := o < K ∧ 48 + 0 ≤ c ∧ c ≤ 48 + 9) (fun z => q ⟨by omega, by omega⟩)]
      by_cases a1 : nI c < 48
      · rw [if_pos a1]; rfl
      · rw [if_neg a1] at this ⊢
        by_cases a2 : 57 < nI c
        · rw [if_pos a2]; rfl
        · rw [if_neg a2] at this; exact absurd this (by decide)
  · rw [h4, if_pos (show (-1 : Int32) < 48 by decide), if_neg (c := o < K ∧ 48 + 0 ≤ L o ∧ L o ≤ 48 + 9) (fun z => h2 z.1)]
    rfl
/-- an action's effect -/
theorem r_244_lo (h : MB b K L M) (ho : o ≤ K) (hk : k < 2) : fX12_begins_244 (Ym b) (RdM b M A op o m d 0 mo) (some b) (nI k) (nI n) = (if (dgt L K 0 9 o).isSome = true then (fX12_deed (Ym b) (RdM b M A op o m d 0 mo) (some b) (nI n) (nI 1)).bind fun S271 => fX12_begins_274 (Ym b) S271 (some b) (nI k) (nI n) else fX12_begins_274 (Ym b) (RdM b M A op o m d 0 mo) (some b) (nI k) (nI n)) := by
  unfold fX12_begins_244
  refine ifN (nIn (show k ≠ 3 by omega) (by omega) (by omega)) ?_
  refine ifN (show ¬ (2 : Int32) ≤ nI k from nI_ge (b := 2) hk (by decide)) ?_
  refine bnd mrcv ?_
  refine bnd (r_here h ho) ?_
  refine bnd (isdig h o) ?_
  by_cases hs : (dgt L K 0 9 o).isSome = true
  · rw [if_pos hs, if_pos hs]
    refine ifN (by decide) ?_
    refine bnd mrcv ?_
    rfl
  · rw [if_neg hs, if_neg hs]
    exact if_pos rfl
end RHD
