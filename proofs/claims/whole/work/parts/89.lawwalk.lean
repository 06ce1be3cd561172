/-! THE LAW: its loop, its start -/
theorem lw_more {L i : Nat} (hL : L ≤ 1536) (hi : i ≤ L) (h : ¬ Int32.ofNat L - 3 < nI i) : i + 2 < L := by
  rcases Nat.lt_or_ge L 3 with q | q
  · exfalso
    apply h
    have h1 : ∀ L, L < 3 → ∀ i, i < 3 → Int32.ofNat L - 3 < nI i := by decide +kernel
    exact h1 L q i (by omega)
  · have e : Int32.ofNat L - 3 = nI (L - 3) := by
      have e1 : nI L = nI (L - 3) + 3 := by
        have := nI_add (L - 3) 3
        rw [show L - 3 + 3 = L by omega] at this
        exact this.symm
      show nI L - 3 = _
      rw [e1, Int32.add_sub_cancel]
    rw [e] at h
    rcases Nat.lt_or_ge (i + 2) L with g | g
    · exact g
    · exact absurd (nI_lt (by omega) (by omega)) h
theorem ce_lay {G : GG} {Y Y1 : LY} {S : HS} {a : Nat} (hk : Y1.2.1 a = Y.2.1 a) (hl : 13 ≤ Y.2.1 a → Y1.2.2 a = Y.2.2 a) : ce G Y1 S a = ce G Y S a := by
  by_cases h : 13 ≤ Y.2.1 a
  · exact ce_agr hk (hl h) (fun f => ⟨rfl, rfl⟩) rfl rfl
  · rw [ce_obj (c := Y.2.1 a) (by omega) hk, ce_obj (c := Y.2.1 a) (by omega) rfl]
theorem lw_lay {G : GG} {β cN : Nat} {L : List (Nat × Nat)} {Y Y1 : LY} {S : HS} {H : Heap} (hg : GRO (β + 1) L (YO cN β) Y1) (hY : Y.1 = List.range' β (L.length + 1)) (hk0 : Y.2.1 β = cN) (hc : cN < 13) (hk : ∀ o, o < L.length → ∃ c n, L[o]? = some (c, n) ∧ Y.2.1 (β + 1 + o) = c ∧ (13 ≤ c → Y.2.2 (β + 1 + o) = n)) (h : WP G Y1 S H) : WP G Y S H := by
  refine WP_sub h (fun a ha => ?_)
  rw [hY, List.mem_range'_1] at ha
  obtain ⟨g1, g2, g3⟩ := hg
  by_cases ha0 : a = β
  · subst ha0
    refine ⟨by rw [g1]; exact List.mem_append_left _ List.mem_cons_self, ce_lay ((g3 a (by omega)).1.trans hk0.symm) (fun h => by omega)⟩
  · obtain ⟨o, rfl⟩ : ∃ o, a = β + 1 + o := ⟨a - (β + 1), by omega⟩
    obtain ⟨c, n, e1, e2, e3⟩ := hk o (by omega)
    obtain ⟨k1, k2⟩ := g2 o c n e1
    refine ⟨by rw [g1]; exact List.mem_append_right _ (List.mem_range'_1.mpr ⟨by omega, by omega⟩), ce_lay (k1.trans e2.symm) (fun h => ?_)⟩
    rw [e2] at h
    rw [k2 h, e3 h]
theorem LR_len : LR.length = 268 := by decide +kernel
theorem LR_all : (List.range 268).all (fun o => match LR[o]? with | some q => kdC (o + 1) == q.1 && (decide (q.1 < 13) || lnC (o + 1) == q.2) | none => false) = true := by decide +kernel
theorem LM_len : LM28.length = 28 := by decide +kernel
theorem LM_all : (List.range 28).all (fun o => match LM28[o]? with | some q => q.1 == 14 && lnM (o + 1) == q.2 | none => false) = true := by decide +kernel
theorem LR_ok {o : Nat} (ho : o < 268) : ∃ c n, LR[o]? = some (c, n) ∧ kdC (o + 1) = c ∧ (13 ≤ c → lnC (o + 1) = n) := by
  have h := List.all_eq_true.mp LR_all o (List.mem_range.mpr ho)
  cases hq : LR[o]? with
  | none => rw [hq] at h; cases h
  | some q =>
    rw [hq] at h
    simp only [Bool.and_eq_true, Bool.or_eq_true, beq_iff_eq, decide_eq_true_eq] at h
    exact ⟨q.1, q.2, rfl, h.1, fun h13 => h.2.resolve_left (by omega)⟩
theorem LM_ok {o : Nat} (ho : o < 28) : ∃ c n, LM28[o]? = some (c, n) ∧ 14 = c ∧ lnM (o + 1) = n := by
  have h := List.all_eq_true.mp LM_all o (List.mem_range.mpr ho)
  cases hq : LM28[o]? with
  | none => rw [hq] at h; cases h
  | some q =>
    rw [hq] at h
    simp only [Bool.and_eq_true, beq_iff_eq] at h
    exact ⟨q.1, q.2, rfl, h.1.symm, h.2⟩
theorem lw_layC {G : GG} {z : Nat} {Y1 : LY} {S : HS} {H : Heap} (hg : GRO (z + 1) LR (YO 11 z) Y1) (h : WP G Y1 S H) : WP G (Yc z) S H := by
  refine lw_lay hg (by rw [LR_len]; rfl) (by show kdC (z - z) = 11; rw [Nat.sub_self]; rfl) (by decide) (fun o ho => ?_) h
  rw [LR_len] at ho
  obtain ⟨c, n, e1, e2, e3⟩ := LR_ok ho
  refine ⟨c, n, e1, ?_, fun h => ?_⟩
  · show kdC (z + 1 + o - z) = c
    rw [show z + 1 + o - z = o + 1 by omega]
    exact e2
  · show lnC (z + 1 + o - z) = n
    rw [show z + 1 + o - z = o + 1 by omega]
    exact e3 h
theorem lw_layM {G : GG} {b : Nat} {Y1 : LY} {S : HS} {H : Heap} (hg : GRO (b + 1) LM28 (YO 12 b) Y1) (h : WP G Y1 S H) : WP G (Ym b) S H := by
  refine lw_lay hg (by rw [LM_len]; rfl) (by show (if b = b then 12 else 14) = 12; rw [if_pos rfl]) (by decide) (fun o ho => ?_) h
  rw [LM_len] at ho
  obtain ⟨c, n, e1, e2, e3⟩ := LM_ok ho
  refine ⟨c, n, e1, ?_, fun h => ?_⟩
  · show (if b + 1 + o = b then 12 else 14) = c
    rw [if_neg (by omega)]
    exact e2
  · show lnM (b + 1 + o - b) = n
    rw [show b + 1 + o - b = o + 1 by omega]
    exact e3
set_option maxHeartbeats 4000000 in
set_option maxRecDepth 100000 in
theorem law_loop {p : Program} {l : Launch} {e : Env} {s : State} {m : MethodId} {below : List Frame} {meth : Method} {c : Code} {G : GG} {b L : Nat} {xs : Nat → Int32} (hL : L ≤ 1536) (C0 : lw_At p s m meth c b L xs) (X : Cx p room_1 s m #[Value.ref b] meth c RL code 4 2048 84000 (fun q : Nat => s.heap.size ≤ q) G ret) :
    ∀ (n k : Nat), 3 * k ≤ L → L + 1 ≤ 3 * k + n → ∀ (z : Nat) (Sc Sm : HS) (H : Heap) (locs : List Loc), s.heap.size ≤ z → REL z (z + 269) (360000 * k) Sc Sm → LW G z s Sc Sm H locs → ∀ (ls : Array Slot), lv_has ls 4 [(0, .ref b), (1, .ref z), (2, .ref (z + 269)), (3, .int (nI (3 * k)))] → W p l e room_1 s m #[Value.ref b] below meth c H locs (298 + k) (4527 + 3 * k) (lw_Z below #[Value.ref b] s) (F0 m 18 ls []) := by
  obtain ⟨hx, hb, hr, hml, hown, hts, hX, hbl, hlocks, hgv⟩ := C0
  have hbA : ¬ (fun q : Nat => s.heap.size ≤ q) b := Nat.not_le.mpr hbl
  intro n
  induction n with
  | zero =>
    intro k h1 h2
    exact absurd h2 (by omega)
  | succ n ih =>
    intro k hk hn z Sc Sm H locs hz hR hW ls hl
    refine lv_iload_n hx hb dW_18 rfl (lv_at hl 3 rfl) ?_
    refine lv_aload_n hx hb dW_19 rfl (lv_at hl 0 rfl) ?_
    refine va_slen hx hb hX hbl hbA hW.2.2 dW_20 ?_
    refine lv_iconst (v := 3) hx hb dW_21 (by decide) ?_
    refine lv_isub hx hb dW_22 ?_
    refine lv_icmp_gt (tgt := 547) hx hb dW_23 (by decide) (fun _ => ?_) (fun h => ?_)
    · refine lv_iconst (v := 1) hx hb dW_547 (by decide) ?_
      refine va_forget (fun q hq => hW.2.2.2.2 q hq) ?_
      refine W.widen (k := 600000) (n := 7302250) (by omega) (by omega) ?_
      exact lw_ret hx hb hr hlocks dW_548
    · have hlt := lw_more hL hk h
      have i1 : vp_in (nI (3 * k) + 1) L := by
        rw [nI_1]
        exact vp_in_nI (by omega) (by omega)
      have i2 : vp_in (nI (3 * k) + 2) L := by
        show vp_in (nI (3 * k) + nI 2) L
        rw [nI_add]
        exact vp_in_nI (by omega) (by omega)
      have hq : 360000 * k + 400000 < 2 ^ 31 := by omega
      have hcs : 298 + k + 1 ≤ room_1.cells ∧ 4527 + 3 * k + 3 ≤ room_1.slots := ⟨by show 298 + k + 1 ≤ 600000; omega, by show 4527 + 3 * k + 3 ≤ 7302250; omega⟩
      have KC : ∀ (S1 M1 : HS) (H1 : Heap) (locs1 : List Loc), REL z (z + 269) (360000 * k + 360000) S1 M1 → LW G z s S1 M1 H1 locs1 → W p l e room_1 s m #[Value.ref b] below meth c H1 locs1 (298 + k + 1) (4527 + 3 * k + 3) (lw_Z below #[Value.ref b] s) (F0 m 541 ls []) := by
        intro S1 M1 H1 locs1 hR1 hW1
        refine lv_iinc (v := nI (3 * (k + 1))) (lv' := [(3, .int (nI (3 * (k + 1)))), (0, .ref b), (1, .ref z), (2, .ref (z + 269))]) hx hb dW_541 hl (k := 3) rfl ?_ (by decide) rfl (fun ls hl => ?_)
        · show nI (3 * k) + nI 3 = _
          rw [nI_add]
          rfl
        · refine lv_goto (tgt := 18) hx hb dW_544 (by decide) ?_
          refine W.cs (by omega) (by omega) (ih (k + 1) (by omega) (by omega) z S1 M1 H1 locs1 hz (REL_mono (by omega) hR1) hW1 ls (lv_sub hl [1, 2, 3, 0] rfl))
      refine lv_aload_n hx hb dW_26 rfl (lv_at hl 0 rfl) ?_
      refine lv_iload_n hx hb dW_27 rfl (lv_at hl 3 rfl) ?_
      refine va_sld hx hb hX hbl hbA hW.2.2 (vp_in_nI (by omega) (by omega)) dW_28 ?_
      refine lv_bipush (v := 31) hx hb dW_29 (by decide) ?_
      refine lv_iand hx hb dW_31 ?_
      obtain ⟨j, hj, e2⟩ := pk_andE (xs (nI (3 * k)).toNatClampNeg) (m := 31) 5 (by decide)
      rw [e2]
      clear e2
      match j, hj with
      | 0, _ => exact lv_tableIn (off := 92) (tgt := 124) hx hb dW_32 (by decide +kernel) (by decide +kernel) (by decide +kernel) (by decide) (lc_append X hz hX hbl hq hR hW hl i1 i2 hcs KC)
      | 1, _ => exact lv_tableIn (off := 125) (tgt := 157) hx hb dW_32 (by decide +kernel) (by decide +kernel) (by decide +kernel) (by decide) (lc_readTree X hz hX hbl hq hR hW hl i1 i2 hcs KC)
      | 2, _ => exact lv_tableIn (off := 138) (tgt := 170) hx hb dW_32 (by decide +kernel) (by decide +kernel) (by decide +kernel) (by decide) (lc_set X hz hX hbl hq hR hW hl i1 i2 hcs KC)
      | 3, _ => exact lv_tableIn (off := 171) (tgt := 203) hx hb dW_32 (by decide +kernel) (by decide +kernel) (by decide +kernel) (by decide) (lc_value X hz hX hbl hq hR hW hl i1 i2 hcs KC)
      | 4, _ => exact lv_tableIn (off := 204) (tgt := 236) hx hb dW_32 (by decide +kernel) (by decide +kernel) (by decide +kernel) (by decide) (lc_tick X hz hX hbl hq hR hW hl i1 i2 hcs KC)
      | 5, _ => exact lv_tableIn (off := 227) (tgt := 259) hx hb dW_32 (by decide +kernel) (by decide +kernel) (by decide +kernel) (by decide) (lc_run X hz hX hbl hq hR hW hl i1 i2 hcs KC)
      | 6, _ => exact lv_tableIn (off := 250) (tgt := 282) hx hb dW_32 (by decide +kernel) (by decide +kernel) (by decide +kernel) (by decide) (lc_foresee X hz hX hbl hq hR hW hl i1 i2 hcs KC)
      | 7, _ => exact lv_tableIn (off := 263) (tgt := 295) hx hb dW_32 (by decide +kernel) (by decide +kernel) (by decide +kernel) (by decide) (lc_ticksToGo X hz hX hbl hq hR hW hl i1 i2 hcs KC)
      | 8, _ => exact lv_tableIn (off := 276) (tgt := 308) hx hb dW_32 (by decide +kernel) (by decide +kernel) (by decide +kernel) (by decide) (lc_abort X hz hX hbl hq hR hW hl i1 i2 hcs KC)
      | 9, _ => exact lv_tableIn (off := 289) (tgt := 321) hx hb dW_32 (by decide +kernel) (by decide +kernel) (by decide +kernel) (by decide) (lc_node X hz hX hbl hq hR hW hl i1 i2 hcs KC)
      | 10, _ => exact lv_tableIn (off := 322) (tgt := 354) hx hb dW_32 (by decide +kernel) (by decide +kernel) (by decide +kernel) (by decide) (lc_child X hz hX hbl hq hR hW hl i1 i2 hcs KC)
      | 11, _ => exact lv_tableIn (off := 355) (tgt := 387) hx hb dW_32 (by decide +kernel) (by decide +kernel) (by decide +kernel) (by decide) (lc_underWay X hz hX hbl hq hR hW hl i1 i2 hcs KC)
      | 12, _ => exact lv_tableIn (off := 378) (tgt := 410) hx hb dW_32 (by decide +kernel) (by decide +kernel) (by decide +kernel) (by decide) (lc_pending X hz hX hbl hq hR hW hl i1 i2 hcs KC)
      | 13, _ => exact lv_tableIn (off := 391) (tgt := 423) hx hb dW_32 (by decide +kernel) (by decide +kernel) (by decide +kernel) (by decide) (lc_trace X hz hX hbl hq hR hW hl i1 i2 hcs KC)
      | 14, _ => exact lv_tableIn (off := 424) (tgt := 456) hx hb dW_32 (by decide +kernel) (by decide +kernel) (by decide +kernel) (by decide) (lc_count X hz hX hbl hq hR hW hl i1 i2 hcs KC)
      | 15, _ => exact lv_tableIn (off := 447) (tgt := 479) hx hb dW_32 (by decide +kernel) (by decide +kernel) (by decide +kernel) (by decide) (lc_write X hz hX hbl hq hR hW hl i1 i2 hcs KC)
      | 16, _ => exact lv_tableIn (off := 460) (tgt := 492) hx hb dW_32 (by decide +kernel) (by decide +kernel) (by decide +kernel) (by decide) (lc_written X hz hX hbl hq hR hW hl i1 i2 hcs KC)
      | 17, _ => exact lv_tableIn (off := 483) (tgt := 515) hx hb dW_32 (by decide +kernel) (by decide +kernel) (by decide +kernel) (by decide) (lc_save X hz hX hbl hq hR hW hl i1 i2 hcs KC)
      | 18, _ => exact lv_tableIn (off := 496) (tgt := 528) hx hb dW_32 (by decide +kernel) (by decide +kernel) (by decide +kernel) (by decide) (lc_restore X hz hX hbl hq hR hW hl i1 i2 hcs KC)
      | j + 19, hj =>
        refine lv_tableOut (tgt := 541) hx hb dW_32 (Or.inr ?_) (by decide) ?_
        · rw [nI_toInt (by omega)]
          omega
        · exact W.widen (k := 298 + k + 1) (n := 4527 + 3 * k + 3) (by omega) (by omega) (KC Sc Sm _ _ (REL_mono (by omega) hR) hW)
set_option maxHeartbeats 4000000 in
set_option maxRecDepth 100000 in
/-- THE LAW, from its entry -/
theorem whole_start {p : Program} {e : Env} {s : State} {m : MethodId} {below : List Frame} {meth : Method} {c : Code} (l : Launch) (hflags : l.flags = flags0) {b L : Nat} {xs : Nat → Int32} (hL : L ≤ 1536) (C0 : lw_At p s m meth c b L xs) : W p l e room_1 s m #[Value.ref b] below meth c s.heap [] 0 0 (lw_Z below #[Value.ref b] s) (entryFrame m ([Value.ref b] : List Value).toArray 4) := by
  obtain ⟨hx, hb, hr, hml, hown, hts, hX, hbl, hlocks, hgv⟩ := id C0
  have hts1 : ∀ w ∈ tables_1, w.before #[Value.ref b] s = true := fun w hw => hts w (List.mem_append_right _ hw)
  have htb : ∀ w ∈ TBL, w.before #[Value.ref b] s = true := fun w hw => hts w (tbl_in w hw)
  obtain ⟨D, cA, hK⟩ := ls_KK hts1 htb
  obtain ⟨kS, vS, hST⟩ := ls_STR hts1 hgv
  have X : Cx p room_1 s m #[Value.ref b] meth c RL code 4 2048 84000 (fun q : Nat => s.heap.size ≤ q) (D, cA, kS, vS) ret := ⟨⟨hx, hb, hml, hown, htb⟩, hK kS vS, hST D cA, hlocks, hr, by decide, by decide, Nat.zero_le _, Nat.zero_le _⟩
  have hl := lv_entry ([.ref b]) (n := 4) (Nat.le_of_ble_eq_true rfl)
  rw [lg_entry_eq]
  generalize (lg_sl ([.ref b]) ++ List.replicate (4 - (lg_sl ([.ref b])).length) Slot.unset).toArray = ls at hl ⊢
  have hl : lv_has ls 4 [(0, .ref b)] := hl
  generalize (D, cA, kS, vS) = G at X
  obtain ⟨z, hz⟩ : ∃ z, z = s.heap.size := ⟨_, rfl⟩
  refine rq_new (cells := 0) (slots := 0) X dW_0 nkL_7 hz.symm va_S.rf ⟨by decide, by decide⟩ (fun H1 hP1 hf1 hz1 hS1 => ?_)
  refine lv_dup hx hb dW_3 rfl ?_
  obtain ⟨Y1, S1, f1, g1, hI⟩ := i_runner (Y := YO 11 z) (S := SO) (z := z) (m := 0) (by unfold chk YO; simp)
  refine rq_callI (N := (z + 1, 0)) (rest := [.ref z]) X dW_4 ciL_9 (tb_of (tb1 23 rfl) rfl) pyX11_init (mX11_init l f1) ⟨Nat.le_of_ble_eq_true rfl, Nat.le_of_ble_eq_true rfl⟩ ⟨hP1, WD_of (by unfold YO; simp) (fun q hq => by rw [show q = z from List.mem_singleton.mp hq]; show s.heap.size ≤ z; omega), hS1⟩ (fun _ h => h) hz1 ⟨by decide, by decide⟩ rfl (Nat.le_of_ble_eq_true rfl) hl.1 (fun H2 locs2 hP2 hf2 hz2 hS2 => ?_)
  have hPc : WP G (Yc z) S1 H2 := lw_layC g1 hP2
  have hz2 : H2.size = z + 269 := hz2
  refine lv_astore_n (lv' := [(1, .ref z), (0, .ref b)]) hx hb dW_7 rfl hl (by decide) rfl (fun ls hl => ?_)
  refine rq_new X dW_8 nkL_10 hz2 hS2 ⟨by decide, by decide⟩ (fun H3 hP3 hf3 hz3 hS3 => ?_)
  have hPc : WP G (Yc z) S1 H3 := WP_keep hPc (fun q hq => hf3 q (WP_lt hPc hq))
  refine lv_dup hx hb dW_11 rfl ?_
  obtain ⟨Y2, S2, f2, g2, hF, hi0, hr1, hr2⟩ := i_model (Y := YO 12 (z + 269)) (S := SO) (b := z + 269) (m := 0) (by unfold chk YO; simp)
  refine rq_callI (N := (z + 269 + 1, 0)) (rest := [.ref (z + 269)]) X dW_12 ciL_12 (tb_of (tb4 125 rfl) rfl) pyX12_init (mX12_init l f2) ⟨Nat.le_of_ble_eq_true rfl, Nat.le_of_ble_eq_true rfl⟩ ⟨hP3, WD_of (by unfold YO; simp) (fun q hq => by rw [show q = z + 269 from List.mem_singleton.mp hq]; show s.heap.size ≤ z + 269; omega), hS3⟩ (fun _ h => h) hz3 ⟨by decide, by decide⟩ rfl (Nat.le_of_ble_eq_true rfl) hl.1 (fun H4 locs4 hP4 hf4 hz4 hS4 => ?_)
  have hPc : WP G (Yc z) S1 H4 := WP_keep hPc (fun q hq => hf4 q (WP_lt hPc hq) (fun h => by have h1 : q = z + 269 := List.mem_singleton.mp h; have h2 := yc_mem.mp hq; omega))
  have hPm : WP G (Ym (z + 269)) S2 H4 := lw_layM g2 hP4
  refine lv_astore_n (lv' := [(2, .ref (z + 269)), (1, .ref z), (0, .ref b)]) hx hb dW_15 rfl hl (by decide) rfl (fun ls hl => ?_)
  refine lv_iconst (v := 0) hx hb dW_16 (by decide) ?_
  refine lv_istore_n (lv' := [(3, .int 0), (2, .ref (z + 269)), (1, .ref z), (0, .ref b)]) hx hb dW_17 rfl hl (by decide) rfl (fun ls hl => ?_)
  exact law_loop hL C0 X (L + 1) 0 (Nat.zero_le _) (by omega) z S1 S2 _ _ (Nat.le_of_eq hz.symm) (rel_init hI hF (fun g => (hi0 g).trans rfl) hr1 hr2) ⟨hPc, hPm, hS4⟩ ls (lv_sub hl [3, 2, 1, 0] rfl)
