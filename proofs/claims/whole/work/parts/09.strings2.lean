/-! charAt, indexOf on the String constants, and their rows -/
theorem js_b : ∀ i, i < 3 → ∀ j, j < lenJS.getD i 0 → ((((bytJS.getD i []).getD j 0) &&& 255).toUInt32 % 65536).toInt32 = (bytJS.getD i []).getD j 0 := by decide +kernel
theorem js_l : ∀ i, i < 3 → (bytJS.getD i []).length = lenJS.getD i 0 ∧ lenJS.getD i 0 < 100 := by decide +kernel
theorem js_c : ∀ n, n < 256 → ∀ i, i < 3 → ∀ b ∈ bytJS.getD i [], (b = (nI n).toInt8.toInt32 ↔ b = nI n) := by decide +kernel
theorem js_out : ∀ i, i < 3 → ∀ b ∈ bytJS.getD i [], ¬ b < 0 ∧ ¬ 255 < b := by decide +kernel
theorem inr_of {k : Int32} {n : Nat} (h : inr k n = true) (hn : n < 2 ^ 31) : ¬ k < 0 ∧ k < nI n ∧ ∃ j, j < n ∧ k = nI j := by
  obtain ⟨j, hj, rfl⟩ := vp_in_of (inr_in h) hn
  exact ⟨nI_pos (by omega), nI_lt hj (by omega), j, hj, rfl⟩
theorem sIxF_out {c : Int32} : ∀ (l : List Int32) (k : Nat), (∀ b ∈ l, ¬ b = c) → sIxF c l k = -1
  | [], _, _ => rfl
  | b :: l, k, h => by
    rw [sIxF, if_neg (h b List.mem_cons_self)]
    exact sIxF_out l (k + 1) (fun w hw => h w (List.mem_cons_of_mem _ hw))
set_option maxRecDepth 100000 in
set_option maxHeartbeats 4000000 in
theorem mJ_l1charAt (l : Launch) {G : GG} {Y : LY} {S : HS} {i : Nat} (hi : i < 3) {k : Int32} (hk : inr k (lenJS.getD i 0) = true) : MM l yJ1_charAt_3b067 cJ1_charAt_3b067 2 (some .char) 2 43 G Y S [.ref (G.2.2.2 i), .int k] S (some (.int ((bytJS.getD i []).getD k.toNatClampNeg 0))) := by
  obtain ⟨h0, h1, j, hj, hkj⟩ := inr_of hk (by have := (js_l i hi).2; omega)
  have hv := js_b i hi j hj
  rw [show j = k.toNatClampNeg by rw [hkj, nI_clamp (by have := (js_l i hi).2; omega)]] at hv
  refine mm_of2 (by decide +kernel) (Nat.le_of_ble_eq_true rfl) (c1c (ca _) (c1c (ci _) c1n)) ?_
  intro p e R s m args below meth c X H locs ls hP hl
  have X : Cx p R s m args meth c RJ1 cJ1_charAt_3b067 2 2 43 (fun q => q ∈ Y.1) G (some .char) := X
  have hx := X.1.1
  have hb := X.1.2.1
  have hl : LV ls 2 [(0, .ref (G.2.2.2 i)), (1, .int k)] := hl
  refine lv_iload_n hx hb dJ1_charAt_3b067_0 rfl (hl.at 1 rfl) ?_
  refine lv_aload_n hx hb dJ1_charAt_3b067_1 rfl (hl.at 0 rfl) ?_
  refine rs_tlen X hi dJ1_charAt_3b067_2 hP ?_
  refine rw_callSv (As := [.int k, .int (sLen i)]) X dJ1_charAt_3b067_3 clJ1_9 pyJ0_checkIndex_df160 (mJ_check l h0 h1) (by decide) hP rfl (catL c1n (Nat.le_of_ble_eq_true rfl)) hl.1.1 (fun H locs hP => ?_)
  refine lv_aload_n hx hb dJ1_charAt_3b067_6 rfl (hl.at 0 rfl) ?_
  refine lv_iload_n hx hb dJ1_charAt_3b067_7 rfl (hl.at 1 rfl) ?_
  refine va_tb hx hb (X.2.2.1.1.1 i hi).2.2.2 hP.2.2 (inr_in hk) rfl dJ1_charAt_3b067_8 ?_
  refine lv_sipush (v := 255) hx hb dJ1_charAt_3b067_9 (by decide) ?_
  refine lv_iand hx hb dJ1_charAt_3b067_12 ?_
  refine lv_i2c (v := (bytJS.getD i []).getD k.toNatClampNeg 0) hx hb dJ1_charAt_3b067_13 hv ?_
  exact rw_xret X rfl (by rw [← hv]; exact pk_nc _) dJ1_charAt_3b067_14 hP
set_option maxRecDepth 100000 in
set_option maxHeartbeats 4000000 in
theorem mJ_charAt (l : Launch) {G : GG} {Y : LY} {S : HS} {i : Nat} (hi : i < 3) {k : Int32} (hk : inr k (lenJS.getD i 0) = true) : MM l yJ0_charAt_5068e cJ0_charAt_5068e 2 (some .char) 3 64 G Y S [.ref (G.2.2.1 i), .int k] S (some (.int ((bytJS.getD i []).getD k.toNatClampNeg 0))) := by
  obtain ⟨h0, h1, j, hj, hkj⟩ := inr_of hk (by have := (js_l i hi).2; omega)
  have hv := js_b i hi j hj
  rw [show j = k.toNatClampNeg by rw [hkj, nI_clamp (by have := (js_l i hi).2; omega)]] at hv
  refine mm_of2 (by decide +kernel) (Nat.le_of_ble_eq_true rfl) (c1c (ca _) (c1c (ci _) c1n)) ?_
  intro p e R s m args below meth c X H locs ls hP hl
  have X : Cx p R s m args meth c RJ0 cJ0_charAt_5068e 2 3 64 (fun q => q ∈ Y.1) G (some .char) := X
  have hx := X.1.1
  have hb := X.1.2.1
  have hl : LV ls 2 [(0, .ref (G.2.2.1 i)), (1, .int k)] := hl
  refine lv_aload_n hx hb dJ0_charAt_5068e_0 rfl (hl.at 0 rfl) ?_
  refine rw_callK (As := []) X hi dJ0_charAt_5068e_1 clJ0_492 pyJ0_isLatin1_aae02 (mJ_isLatin1 l hi) (by decide) rfl hP rfl (catL c1n (Nat.le_of_ble_eq_true rfl)) hl.1.1 (fun H locs hP => ?_)
  refine W.eq (g2 := F0 m 4 ls [.int 1]) rfl ?_
  refine lv_if_eq (tgt := 16) hx hb dJ0_charAt_5068e_4 (by decide) (fun c => absurd c (by decide)) (fun _ => ?_)
  refine lv_aload_n hx hb dJ0_charAt_5068e_7 rfl (hl.at 0 rfl) ?_
  refine vk_getf hx hb (X.2.2.1.1.1 i hi).2.2.1 hP.2.2 X.1.2.2.2.1 (X.1.2.2.2.2 _ tbJ9) (fun _ h => h) dJ0_charAt_5068e_8 ?_
  refine lv_iload_n hx hb dJ0_charAt_5068e_11 rfl (hl.at 1 rfl) ?_
  refine rw_callSi (As := [.ref (G.2.2.2 i), .int k]) X dJ0_charAt_5068e_12 clJ0_495 pyJ1_charAt_3b067 (mJ_l1charAt l hi hk) (by decide) hP rfl (catL c1n (Nat.le_of_ble_eq_true rfl)) hl.1.1 (fun H locs hP => ?_)
  exact rw_xret X rfl (by rw [← hv]; exact pk_nc _) dJ0_charAt_5068e_15 hP
set_option maxRecDepth 100000 in
set_option maxHeartbeats 4000000 in
theorem wJ_ixc {p : Program} {l : Launch} {e : Env} {R : Room} {s : State} {m : MethodId} {args : Array Value} {below : List Frame} {meth : Method} {c : Code} {G : GG} {Y : LY} {S : HS} {i n : Nat} (hi : i < 3) (hn : n < 256)
    (X : Cx p R s m args meth c RJ1 cJ1_indexOfChar_4cfef 6 0 0 (fun q => q ∈ Y.1) G (some .int)) : ∀ (L : List Int32) (k : Nat), k ≤ lenJS.getD i 0 → (bytJS.getD i []).drop k = L → ∀ (H : Heap) (locs : List Loc) (ls : Array Slot), HP (fun q => q ∈ Y.1) G Y s S H locs → LV ls 6 [(5, .int (nI k)), (4, .int (nI n).toInt8.toInt32), (0, .ref (G.2.2.2 i)), (3, .int (sLen i))] → W p l e R s m args below meth c H locs 0 0 (MQ below (QI G Y S (some (.int (sIxF (nI n) L k)))) args s 0 0 (fun q => q ∈ Y.1)) (F0 m 7 ls []) := by
  have hx := X.1.1
  have hb := X.1.2.1
  obtain ⟨hlen, h100⟩ := js_l i hi
  intro L
  induction L with
  | nil =>
    intro k hk hd H locs ls hP hl
    have hkl : k = lenJS.getD i 0 := by
      have := congrArg List.length hd
      rw [List.length_drop, hlen] at this
      rw [List.length_nil] at this
      omega
    refine lv_iload hx hb dJ1_indexOfChar_4cfef_7 (hl.at 0 rfl) ?_
    refine lv_iload_n hx hb dJ1_indexOfChar_4cfef_9 rfl (hl.at 3 rfl) ?_
    refine lv_icmp_ge (tgt := 31) hx hb dJ1_indexOfChar_4cfef_10 (by decide) (fun c => ?_) (fun c => ?_)
    · refine lv_iconst (v := -1) hx hb dJ1_indexOfChar_4cfef_31 (by decide) ?_
      exact rw_iret X dJ1_indexOfChar_4cfef_32 hP
    · exact absurd (nI_le (by omega) (by omega)) c
  | cons b L ih =>
    intro k hk hd H locs ls hP hl
    have hkl : k < (bytJS.getD i []).length := by
      have := congrArg List.length hd
      rw [List.length_drop, List.length_cons] at this
      omega
    have hbk : (bytJS.getD i []).getD k 0 = b ∧ (bytJS.getD i []).drop (k + 1) = L ∧ b ∈ bytJS.getD i [] := by
      have e1 : (bytJS.getD i [])[k]? = some b := by
        have := congrArg (fun l => l[0]?) hd
        simp only [List.getElem?_drop, Nat.add_zero, List.getElem?_cons_zero] at this
        exact this
      refine ⟨by rw [List.getD_eq_getElem?_getD, e1]; rfl, ?_, List.mem_of_getElem? e1⟩
      have := congrArg (fun l => l.drop 1) hd
      simpa [List.drop_drop, Nat.add_comm] using this
    obtain ⟨hb1, hb2, hb3⟩ := hbk
    refine lv_iload hx hb dJ1_indexOfChar_4cfef_7 (hl.at 0 rfl) ?_
    refine lv_iload_n hx hb dJ1_indexOfChar_4cfef_9 rfl (hl.at 3 rfl) ?_
    refine lv_icmp_ge (tgt := 31) hx hb dJ1_indexOfChar_4cfef_10 (by decide) (fun c => absurd c (nI_ge (by omega) (by omega))) (fun c => ?_)
    refine lv_aload_n hx hb dJ1_indexOfChar_4cfef_13 rfl (hl.at 2 rfl) ?_
    refine lv_iload hx hb dJ1_indexOfChar_4cfef_14 (hl.at 0 rfl) ?_
    refine va_tb (v := .int b) hx hb (X.2.2.1.1.1 i hi).2.2.2 hP.2.2 (vp_in_nI (by omega) (by omega)) (by rw [nI_clamp (by omega), hb1]) dJ1_indexOfChar_4cfef_16 ?_
    refine lv_iload hx hb dJ1_indexOfChar_4cfef_17 (hl.at 1 rfl) ?_
    refine lv_icmp_ne (tgt := 25) hx hb dJ1_indexOfChar_4cfef_19 (by decide) (fun c2 => ?_) (fun c2 => ?_)
    · rw [sIxF, if_neg (fun h => c2 ((js_c n hn i hi b hb3).mpr h))]
      refine rv_iinc (k := 0) (d := 1) X dJ1_indexOfChar_4cfef_25 hl rfl (by decide) (by decide) rfl (fun ls hl => ?_)
      have hl : LV ls 6 [(5, .int (nI (k + 1))), (4, .int (nI n).toInt8.toInt32), (0, .ref (G.2.2.2 i)), (3, .int (sLen i))] := by rw [nI_succ]; exact hl
      refine lv_goto (tgt := 7) hx hb dJ1_indexOfChar_4cfef_28 (by decide) ?_
      exact ih (k + 1) (by omega) hb2 H locs ls hP hl
    · rw [sIxF, if_pos ((js_c n hn i hi b hb3).mp c2)]
      refine lv_iload hx hb dJ1_indexOfChar_4cfef_22 (hl.at 0 rfl) ?_
      exact rw_iret X dJ1_indexOfChar_4cfef_24 hP
set_option maxRecDepth 100000 in
set_option maxHeartbeats 4000000 in
theorem mJ_ixc (l : Launch) {G : GG} {Y : LY} {S : HS} {i n : Nat} (hi : i < 3) (hn : n < 256) : MM l yJ1_indexOfChar_4cfef cJ1_indexOfChar_4cfef 6 (some .int) 0 0 G Y S [.ref (G.2.2.2 i), .int (nI n), .int 0, .int (sLen i)] S (some (.int (sIxF (nI n) (bytJS.getD i []) 0))) := by
  refine mm_of2 (by decide +kernel) (Nat.le_of_ble_eq_true rfl) (c1c (ca _) (c1c (ci _) (c1c (ci _) (c1c (ci _) c1n)))) ?_
  intro p e R s m args below meth c X H locs ls hP hl
  have X : Cx p R s m args meth c RJ1 cJ1_indexOfChar_4cfef 6 0 0 (fun q => q ∈ Y.1) G (some .int) := X
  have hx := X.1.1
  have hb := X.1.2.1
  have hl : LV ls 6 [(0, .ref (G.2.2.2 i)), (1, .int (nI n)), (2, .int 0), (3, .int (sLen i))] := hl
  refine lv_iload_n hx hb dJ1_indexOfChar_4cfef_0 rfl (hl.at 1 rfl) ?_
  refine lv_i2b hx hb dJ1_indexOfChar_4cfef_1 rfl ?_
  refine rv_istore X dJ1_indexOfChar_4cfef_2 hl (by decide) rfl (fun ls hl => ?_)
  have hl : LV ls 6 [(4, .int (nI n).toInt8.toInt32), (0, .ref (G.2.2.2 i)), (1, .int (nI n)), (2, .int 0), (3, .int (sLen i))] := hl
  refine lv_iload_n hx hb dJ1_indexOfChar_4cfef_4 rfl (hl.at 3 rfl) ?_
  refine rv_istore X dJ1_indexOfChar_4cfef_5 hl (by decide) rfl (fun ls hl => ?_)
  have hl : LV ls 6 [(5, .int 0), (4, .int (nI n).toInt8.toInt32), (0, .ref (G.2.2.2 i)), (1, .int (nI n)), (2, .int 0), (3, .int (sLen i))] := hl
  have hl2 : LV ls 6 [(5, .int (nI 0)), (4, .int (nI n).toInt8.toInt32), (0, .ref (G.2.2.2 i)), (3, .int (sLen i))] := by rw [nI_0]; exact hl.sub [0, 1, 2, 5] rfl
  exact wJ_ixc hi hn X _ 0 (Nat.zero_le _) rfl _ _ _ hP hl2
set_option maxRecDepth 100000 in
set_option maxHeartbeats 4000000 in
theorem mJ_l1ix (l : Launch) {G : GG} {Y : LY} {S : HS} {i : Nat} (hi : i < 3) {k : Int32} : MM l yJ1_indexOf_4cfef cJ1_indexOf_4cfef 4 (some .int) 1 40 G Y S [.ref (G.2.2.2 i), .int k, .int 0, .int (sLen i)] S (some (.int (sIxF k (bytJS.getD i []) 0))) := by
  refine mm_of2 (by decide +kernel) (Nat.le_of_ble_eq_true rfl) (c1c (ca _) (c1c (ci _) (c1c (ci _) (c1c (ci _) c1n)))) ?_
  intro p e R s m args below meth c X H locs ls hP hl
  have X : Cx p R s m args meth c RJ1 cJ1_indexOf_4cfef 4 1 40 (fun q => q ∈ Y.1) G (some .int) := X
  have hx := X.1.1
  have hb := X.1.2.1
  have hl : LV ls 4 [(0, .ref (G.2.2.2 i)), (1, .int k), (2, .int 0), (3, .int (sLen i))] := hl
  obtain ⟨hlen, h100⟩ := js_l i hi
  refine lv_iload_n hx hb dJ1_indexOf_4cfef_0 rfl (hl.at 1 rfl) ?_
  refine rw_callSi (As := [.int k]) X dJ1_indexOf_4cfef_1 clJ1_88 pyJ1_canEncode_9a6ad (mJ_canEncode l) (by decide) hP rfl (catL c1n (Nat.le_of_ble_eq_true rfl)) hl.1.1 (fun H locs hP => ?_)
  by_cases hc : k < 0 ∨ 255 < k
  · have e0 : (if k < 0 then (0 : Int32) else if 255 < k then 0 else 1) = 0 := by
      rcases hc with hc | hc
      · rw [if_pos hc]
      · by_cases h2 : k < 0
        · rw [if_pos h2]
        · rw [if_neg h2, if_pos hc]
    rw [e0]
    refine lv_if_ne (tgt := 9) hx hb dJ1_indexOf_4cfef_4 (by decide) (fun c => absurd rfl c) (fun _ => ?_)
    refine lv_iconst (v := -1) hx hb dJ1_indexOf_4cfef_7 (by decide) ?_
    have e1 : sIxF k (bytJS.getD i []) 0 = -1 := sIxF_out _ _ (fun b hb h => by
      have := js_out i hi b hb
      rw [h] at this
      rcases hc with hc | hc
      · exact this.1 hc
      · exact this.2 hc)
    rw [e1]
    exact rw_iret X dJ1_indexOf_4cfef_8 hP
  · have hc1 : ¬ k < 0 := fun h => hc (Or.inl h)
    have hc2 : ¬ 255 < k := fun h => hc (Or.inr h)
    rw [if_neg hc1, if_neg hc2]
    obtain ⟨n, hn, rfl⟩ := nI_of2 (M := 255) (n := 255) (by decide) hc1 (by
      rw [Int32.le_iff_toInt_le]
      rw [Int32.lt_iff_toInt_lt] at hc2
      omega)
    refine lv_if_ne (tgt := 9) hx hb dJ1_indexOf_4cfef_4 (by decide) (fun _ => ?_) (fun c => absurd c (by decide))
    refine lv_iload_n hx hb dJ1_indexOf_4cfef_9 rfl (hl.at 2 rfl) ?_
    refine lv_iconst (v := 0) hx hb dJ1_indexOf_4cfef_10 (by decide) ?_
    refine rv_max X mlJ1_92 ⟨Nat.le_of_ble_eq_true rfl, Nat.le_of_ble_eq_true rfl⟩ c1n hl.1.1 dJ1_indexOf_4cfef_11 ?_
    rw [show jmax 0 0 = 0 from rfl]
    refine rv_istore_n X dJ1_indexOf_4cfef_14 rfl hl (by decide) rfl (fun ls hl => ?_)
    have hl : LV ls 4 [(2, .int 0), (0, .ref (G.2.2.2 i)), (1, .int (nI n)), (3, .int (sLen i))] := hl
    refine lv_iload_n hx hb dJ1_indexOf_4cfef_15 rfl (hl.at 3 rfl) ?_
    refine lv_aload_n hx hb dJ1_indexOf_4cfef_16 rfl (hl.at 1 rfl) ?_
    refine rs_tlen X hi dJ1_indexOf_4cfef_17 hP ?_
    refine rv_min X mlJ1_38 ⟨Nat.le_of_ble_eq_true rfl, Nat.le_of_ble_eq_true rfl⟩ c1n hl.1.1 dJ1_indexOf_4cfef_18 ?_
    rw [show jmin (sLen i) (sLen i) = sLen i by unfold jmin; exact ite_self _]
    refine rv_istore_n X dJ1_indexOf_4cfef_21 rfl hl (by decide) rfl (fun ls hl => ?_)
    have hl : LV ls 4 [(3, .int (sLen i)), (2, .int 0), (0, .ref (G.2.2.2 i)), (1, .int (nI n))] := hl
    refine lv_iload_n hx hb dJ1_indexOf_4cfef_22 rfl (hl.at 1 rfl) ?_
    refine lv_iload_n hx hb dJ1_indexOf_4cfef_23 rfl (hl.at 0 rfl) ?_
    have hpos : (0 : Int32) < sLen i := by
      have : ∀ i, i < 3 → (0 : Int32) < sLen i := by decide +kernel
      exact this i hi
    refine lv_icmp_lt (tgt := 29) hx hb dJ1_indexOf_4cfef_24 (by decide) (fun _ => ?_) (fun c => absurd hpos c)
    refine lv_aload_n hx hb dJ1_indexOf_4cfef_29 rfl (hl.at 2 rfl) ?_
    refine lv_iload_n hx hb dJ1_indexOf_4cfef_30 rfl (hl.at 3 rfl) ?_
    refine lv_iload_n hx hb dJ1_indexOf_4cfef_31 rfl (hl.at 1 rfl) ?_
    refine lv_iload_n hx hb dJ1_indexOf_4cfef_32 rfl (hl.at 0 rfl) ?_
    refine rw_callSi (As := [.ref (G.2.2.2 i), .int (nI n), .int 0, .int (sLen i)]) X dJ1_indexOf_4cfef_33 clJ1_95 pyJ1_indexOfChar_4cfef (mJ_ixc l hi (by omega)) (by decide) hP rfl (catL c1n (Nat.le_of_ble_eq_true rfl)) hl.1.1 (fun H locs hP => ?_)
    exact rw_iret X dJ1_indexOf_4cfef_36 hP
set_option maxRecDepth 100000 in
set_option maxHeartbeats 4000000 in
theorem mJ_ix2 (l : Launch) {G : GG} {Y : LY} {S : HS} {i : Nat} (hi : i < 3) {k : Int32} : MM l yJ0_indexOf_7cf53 cJ0_indexOf_7cf53 3 (some .int) 2 63 G Y S [.ref (G.2.2.1 i), .int k, .int 0] S (some (.int (sIxF k (bytJS.getD i []) 0))) := by
  refine mm_of2 (by decide +kernel) (Nat.le_of_ble_eq_true rfl) (c1c (ca _) (c1c (ci _) (c1c (ci _) c1n))) ?_
  intro p e R s m args below meth c X H locs ls hP hl
  have X : Cx p R s m args meth c RJ0 cJ0_indexOf_7cf53 3 2 63 (fun q => q ∈ Y.1) G (some .int) := X
  have hx := X.1.1
  have hb := X.1.2.1
  have hl : LV ls 3 [(0, .ref (G.2.2.1 i)), (1, .int k), (2, .int 0)] := hl
  refine lv_aload_n hx hb dJ0_indexOf_7cf53_0 rfl (hl.at 0 rfl) ?_
  refine rw_callK (As := []) X hi dJ0_indexOf_7cf53_1 clJ0_492 pyJ0_isLatin1_aae02 (mJ_isLatin1 l hi) (by decide) rfl hP rfl (catL c1n (Nat.le_of_ble_eq_true rfl)) hl.1.1 (fun H locs hP => ?_)
  refine W.eq (g2 := F0 m 4 ls [.int 1]) rfl ?_
  refine lv_if_eq (tgt := 23) hx hb dJ0_indexOf_7cf53_4 (by decide) (fun c => absurd c (by decide)) (fun _ => ?_)
  refine lv_aload_n hx hb dJ0_indexOf_7cf53_7 rfl (hl.at 0 rfl) ?_
  refine vk_getf hx hb (X.2.2.1.1.1 i hi).2.2.1 hP.2.2 X.1.2.2.2.1 (X.1.2.2.2.2 _ tbJ9) (fun _ h => h) dJ0_indexOf_7cf53_8 ?_
  refine lv_iload_n hx hb dJ0_indexOf_7cf53_11 rfl (hl.at 1 rfl) ?_
  refine lv_iload_n hx hb dJ0_indexOf_7cf53_12 rfl (hl.at 2 rfl) ?_
  refine lv_aload_n hx hb dJ0_indexOf_7cf53_13 rfl (hl.at 0 rfl) ?_
  refine rw_callK (As := []) X hi dJ0_indexOf_7cf53_14 clJ0_505 pyJ0_length_8abf5 (mJ_length l hi) (by decide) rfl hP rfl (catL (c1c (ci _) (c1c (ci _) (c1c (ca _) c1n))) (Nat.le_of_ble_eq_true rfl)) hl.1.1 (fun H locs hP => ?_)
  refine W.eq (g2 := F0 m 17 ls [.int (sLen i), .int 0, .int k, .ref (G.2.2.2 i)]) rfl ?_
  refine rw_callSi (As := [.ref (G.2.2.2 i), .int k, .int 0, .int (sLen i)]) X dJ0_indexOf_7cf53_17 clJ0_637 pyJ1_indexOf_4cfef (mJ_l1ix l hi) (by decide) hP rfl (catL c1n (Nat.le_of_ble_eq_true rfl)) hl.1.1 (fun H locs hP => ?_)
  refine lv_goto (tgt := 36) hx hb dJ0_indexOf_7cf53_20 (by decide) ?_
  exact rw_iret X dJ0_indexOf_7cf53_36 hP
set_option maxRecDepth 100000 in
set_option maxHeartbeats 4000000 in
theorem mJ_ix1 (l : Launch) {G : GG} {Y : LY} {S : HS} {i : Nat} (hi : i < 3) {k : Int32} : MM l yJ0_indexOf_0f7a4 cJ0_indexOf_0f7a4 2 (some .int) 3 85 G Y S [.ref (G.2.2.1 i), .int k] S (some (.int (sIxF k (bytJS.getD i []) 0))) := by
  refine mm_of2 (by decide +kernel) (Nat.le_of_ble_eq_true rfl) (c1c (ca _) (c1c (ci _) c1n)) ?_
  intro p e R s m args below meth c X H locs ls hP hl
  have X : Cx p R s m args meth c RJ0 cJ0_indexOf_0f7a4 2 3 85 (fun q => q ∈ Y.1) G (some .int) := X
  have hx := X.1.1
  have hb := X.1.2.1
  have hl : LV ls 2 [(0, .ref (G.2.2.1 i)), (1, .int k)] := hl
  refine lv_aload_n hx hb dJ0_indexOf_0f7a4_0 rfl (hl.at 0 rfl) ?_
  refine lv_iload_n hx hb dJ0_indexOf_0f7a4_1 rfl (hl.at 1 rfl) ?_
  refine lv_iconst (v := 0) hx hb dJ0_indexOf_0f7a4_2 (by decide) ?_
  refine rw_callK (As := [.int k, .int 0]) X hi dJ0_indexOf_0f7a4_3 clJ0_633 pyJ0_indexOf_7cf53 (mJ_ix2 l hi) (by decide) rfl hP rfl (catL c1n (Nat.le_of_ble_eq_true rfl)) hl.1.1 (fun H locs hP => ?_)
  exact rw_iret X dJ0_indexOf_0f7a4_6 hP
section RT
variable {p : Program} {l : Launch} {e : Env} {R : Room} {s : State} {m : MethodId} {args : Array Value} {below : List Frame} {meth : Method} {c : Code} {H : Heap} {locs : List Loc} {Q : State → Prop}
variable {own : String} {cc : ByteArray} {nL nf nl : Nat} {A : Nat → Prop} {G : GG} {rt : Option FieldType} {Y : LY} {S S1 : HS} {pc : Nat} {ls : Array Slot} {rest : List Value}
theorem rs_len (X : Cx p R s m args meth c own cc nL nf nl A G rt) {index i : Nat} (hC : CLv own index yJ0_length_8abf5 cJ0_length_8abf5 1 (some .int)) (hi : i < 3) (hroom : 8 ≤ nf ∧ 400 ≤ nl) (hcat : (rest.map fun v => v.category).sum ≤ 8) (hsz : ls.size = nL) (hdg : decode cc pc = .ok (.invokevirtual index, 3)) (hP : HP A G Y s S H locs)
    (kk : ∀ (H1 : Heap) (locs1 : List Loc), HP A G Y s S H1 locs1 → W p l e R s m args below meth c H1 locs1 0 0 Q (F0 m (pc + 3) ls (.int (sLen i) :: rest))) : W p l e R s m args below meth c H locs 0 0 Q (F0 m pc ls (.ref (G.2.2.1 i) :: rest)) :=
  rw_callK (As := []) X hi hdg hC pyJ0_length_8abf5 (mJ_length l hi) (by omega) rfl hP rfl hcat hsz kk
theorem rs_ch (X : Cx p R s m args meth c own cc nL nf nl A G rt) {index i : Nat} {k v : Int32} (hC : CLv own index yJ0_charAt_5068e cJ0_charAt_5068e 2 (some .char)) (h : sCh i k = some v) (hroom : 8 ≤ nf ∧ 400 ≤ nl) (hcat : (rest.map fun v => v.category).sum ≤ 8) (hsz : ls.size = nL) (hdg : decode cc pc = .ok (.invokevirtual index, 3)) (hP : HP A G Y s S H locs)
    (kk : ∀ (H1 : Heap) (locs1 : List Loc), HP A G Y s S H1 locs1 → W p l e R s m args below meth c H1 locs1 0 0 Q (F0 m (pc + 3) ls (.int v :: rest))) : W p l e R s m args below meth c H locs 0 0 Q (F0 m pc ls (.int k :: .ref (G.2.2.1 i) :: rest)) := by
  unfold sCh at h
  by_cases hc : (decide (i < 3) && inr k (lenJS.getD i 0)) = true
  · rw [if_pos hc] at h
    cases h
    rw [Bool.and_eq_true, decide_eq_true_eq] at hc
    exact rw_callK (As := [.int k]) X hc.1 hdg hC pyJ0_charAt_5068e (mJ_charAt l hc.1 hc.2) (by omega) rfl hP rfl hcat hsz kk
  · rw [if_neg hc] at h
    cases h
theorem rs_ix (X : Cx p R s m args meth c own cc nL nf nl A G rt) {index i : Nat} {k v : Int32} (hC : CLv own index yJ0_indexOf_0f7a4 cJ0_indexOf_0f7a4 2 (some .int)) (h : sIx i k = some v) (hroom : 8 ≤ nf ∧ 400 ≤ nl) (hcat : (rest.map fun v => v.category).sum ≤ 8) (hsz : ls.size = nL) (hdg : decode cc pc = .ok (.invokevirtual index, 3)) (hP : HP A G Y s S H locs)
    (kk : ∀ (H1 : Heap) (locs1 : List Loc), HP A G Y s S H1 locs1 → W p l e R s m args below meth c H1 locs1 0 0 Q (F0 m (pc + 3) ls (.int v :: rest))) : W p l e R s m args below meth c H locs 0 0 Q (F0 m pc ls (.int k :: .ref (G.2.2.1 i) :: rest)) := by
  unfold sIx at h
  by_cases hc : i < 3
  · rw [if_pos hc] at h
    cases h
    exact rw_callK (As := [.int k]) X hc hdg hC pyJ0_indexOf_0f7a4 (mJ_ix1 l hc) (by omega) rfl hP rfl hcat hsz kk
  · rw [if_neg hc] at h
    cases h
end RT
