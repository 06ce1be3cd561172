/-! printed by wip/whole/gen/gen_parts.py: 17.parser -/
theorem dX5_readDigit_0 : decode cX5_readDigit 0 = .ok (.aload_n 0, 1) := by decide +kernel
theorem dX5_readDigit_1 : decode cX5_readDigit 1 = .ok (.getfield 15, 3) := by decide +kernel
theorem dX5_readDigit_4 : decode cX5_readDigit 4 = .ok (.aload_n 0, 1) := by decide +kernel
theorem dX5_readDigit_5 : decode cX5_readDigit 5 = .ok (.getfield 9, 3) := by decide +kernel
theorem dX5_readDigit_8 : decode cX5_readDigit 8 = .ok (.invokevirtual 89, 3) := by decide +kernel
theorem dX5_readDigit_11 : decode cX5_readDigit 11 = .ok (.bipush 48, 2) := by decide +kernel
theorem dX5_readDigit_13 : decode cX5_readDigit 13 = .ok (.isub, 1) := by decide +kernel
theorem dX5_readDigit_14 : decode cX5_readDigit 14 = .ok (.istore_n 3, 1) := by decide +kernel
theorem dX5_readDigit_15 : decode cX5_readDigit 15 = .ok (.iload_n 3, 1) := by decide +kernel
theorem dX5_readDigit_16 : decode cX5_readDigit 16 = .ok (.iload_n 1, 1) := by decide +kernel
theorem dX5_readDigit_17 : decode cX5_readDigit 17 = .ok (.if_icmp .lt 8, 3) := by decide +kernel
theorem dX5_readDigit_20 : decode cX5_readDigit 20 = .ok (.iload_n 3, 1) := by decide +kernel
theorem dX5_readDigit_21 : decode cX5_readDigit 21 = .ok (.iload_n 2, 1) := by decide +kernel
theorem dX5_readDigit_22 : decode cX5_readDigit 22 = .ok (.if_icmp .le 5, 3) := by decide +kernel
theorem dX5_readDigit_25 : decode cX5_readDigit 25 = .ok (.iconst (-1), 1) := by decide +kernel
theorem dX5_readDigit_26 : decode cX5_readDigit 26 = .ok (.ireturn, 1) := by decide +kernel
theorem dX5_readDigit_27 : decode cX5_readDigit 27 = .ok (.aload_n 0, 1) := by decide +kernel
theorem dX5_readDigit_28 : decode cX5_readDigit 28 = .ok (.dup, 1) := by decide +kernel
theorem dX5_readDigit_29 : decode cX5_readDigit 29 = .ok (.getfield 9, 3) := by decide +kernel
theorem dX5_readDigit_32 : decode cX5_readDigit 32 = .ok (.iconst 1, 1) := by decide +kernel
theorem dX5_readDigit_33 : decode cX5_readDigit 33 = .ok (.iadd, 1) := by decide +kernel
theorem dX5_readDigit_34 : decode cX5_readDigit 34 = .ok (.putfield 9, 3) := by decide +kernel
theorem dX5_readDigit_37 : decode cX5_readDigit 37 = .ok (.iload_n 3, 1) := by decide +kernel
theorem dX5_readDigit_38 : decode cX5_readDigit 38 = .ok (.ireturn, 1) := by decide +kernel
theorem pyX5_readDigit : PY yX5_readDigit 2 := ⟨by decide +kernel, by decide +kernel, by decide +kernel⟩
def fX5_readDigit (Y : LY) (S : HS) (l0 : Option Nat) (l1 : Int32) (l2 : Int32) : Option (HS × Int32) :=
  (gR Y 5 500 l0 S).bind fun v1 =>
  (gI Y 5 502 l0 S).bind fun v5 =>
  (rcv Y 7 v1).bind fun _ =>
  (fX7_codeAt Y S v1 v5).bind fun v8 =>
  if (v8 - 48) < l1 then
    some (S, (-1))
  else
    if (v8 - 48) ≤ l2 then
      (gI Y 5 502 l0 S).bind fun v29 =>
      (pI Y 5 502 l0 (v29 + 1) S).bind fun S34 =>
      some (S34, (v8 - 48))
    else
      some (S, (-1))
set_option maxRecDepth 100000 in
set_option maxHeartbeats 4000000 in
theorem mX5_readDigit (l : Launch) {G : GG} {Y : LY} {S : HS} {l0 : Option Nat} {l1 : Int32} {l2 : Int32} {res : HS × Int32} (hf : fX5_readDigit Y S l0 l1 l2 = some res) : MM l yX5_readDigit cX5_readDigit 4 (some .int) 1 21 G Y S [va_rf l0, .int l1, .int l2] res.1 (some (.int res.2)) := by
  refine mm_of2 (plainFor_of_name (by decide +kernel)) (Nat.le_of_ble_eq_true rfl) (c1c (cr _) (c1c (ci _) (c1c (ci _) c1n))) ?_
  intro p e R s m args below meth c X H locs ls hP hl
  have X : Cx p R s m args meth c RX5 cX5_readDigit 4 1 21 (fun q => q ∈ Y.1) G (some .int) := X
  have hx := X.1.1
  have hb := X.1.2.1
  have hl : LV ls 4 [(0, va_rf l0), (1, .int l1), (2, .int l2)] := hl
  unfold fX5_readDigit at hf
  refine rw_aload_n X dX5_readDigit_0 rfl (hl.at 0 rfl) ?_
  obtain ⟨v1, e1, hf⟩ := ob hf
  refine rw_getR X dX5_readDigit_1 fl5_15 e1 rfl hP ?_
  refine rw_aload_n X dX5_readDigit_4 rfl (hl.at 0 rfl) ?_
  obtain ⟨v5, e5, hf⟩ := ob hf
  refine rw_getI X dX5_readDigit_5 fl5_9 e5 rfl hP ?_
  obtain ⟨u8, r8, hf⟩ := ob hf
  obtain ⟨v8, e8, hf⟩ := ob hf
  refine rw_callVi (As := [.int v5]) X dX5_readDigit_8 clX5_89 pyX7_codeAt (mX7_codeAt l e8) (by decide) r8 rfl hP rfl (catL c1n (Nat.le_of_ble_eq_true rfl)) hl.1.1 (fun H locs hP => ?_)
  refine lv_bipush (v := 48) hx hb dX5_readDigit_11 (by decide) ?_
  refine lv_isub hx hb dX5_readDigit_13 ?_
  refine rv_istore_n X dX5_readDigit_14 rfl hl (by decide) rfl (fun ls hl => ?_)
  have hl : LV ls 4 [(3, .int (v8 - 48)), (0, va_rf l0), (1, .int l1), (2, .int l2)] := hl
  refine lv_iload_n hx hb dX5_readDigit_15 rfl (hl.at 0 rfl) ?_
  refine lv_iload_n hx hb dX5_readDigit_16 rfl (hl.at 2 rfl) ?_
  refine lv_icmp_lt hx hb (tgt := 25) dX5_readDigit_17 (by decide) (fun c17 => ?_) (fun c17 => ?_)
  · have hf := ifp hf c17
    refine lv_iconst (v := (-1)) hx hb dX5_readDigit_25 (by decide) ?_
    cases hf
    exact rw_iret X dX5_readDigit_26 hP
  · have hf := ifn hf c17
    refine lv_iload_n hx hb dX5_readDigit_20 rfl (hl.at 0 rfl) ?_
    refine lv_iload_n hx hb dX5_readDigit_21 rfl (hl.at 3 rfl) ?_
    refine lv_icmp_le hx hb (tgt := 27) dX5_readDigit_22 (by decide) (fun c22 => ?_) (fun c22 => ?_)
    · have hf := ifp hf c22
      refine rw_aload_n X dX5_readDigit_27 rfl (hl.at 1 rfl) ?_
      refine lv_dup hx hb dX5_readDigit_28 (cr _) ?_
      obtain ⟨v29, e29, hf⟩ := ob hf
      refine rw_getI X dX5_readDigit_29 fl5_9 e29 rfl hP ?_
      refine lv_iconst (v := 1) hx hb dX5_readDigit_32 (by decide) ?_
      refine lv_iadd hx hb dX5_readDigit_33 ?_
      obtain ⟨S34, e34, hf⟩ := ob hf
      refine rw_putI X dX5_readDigit_34 fl5_9 fw5_2 e34 rfl hP (fun H locs hP => ?_)
      refine lv_iload_n hx hb dX5_readDigit_37 rfl (hl.at 0 rfl) ?_
      cases hf
      exact rw_iret X dX5_readDigit_38 hP
    · have hf := ifn hf c22
      refine lv_iconst (v := (-1)) hx hb dX5_readDigit_25 (by decide) ?_
      cases hf
      exact rw_iret X dX5_readDigit_26 hP
theorem dX5_readNumber_0 : decode cX5_readNumber 0 = .ok (.aload_n 0, 1) := by decide +kernel
theorem dX5_readNumber_1 : decode cX5_readNumber 1 = .ok (.iload_n 2, 1) := by decide +kernel
theorem dX5_readNumber_2 : decode cX5_readNumber 2 = .ok (.iload_n 3, 1) := by decide +kernel
theorem dX5_readNumber_3 : decode cX5_readNumber 3 = .ok (.invokevirtual 82, 3) := by decide +kernel
theorem dX5_readNumber_6 : decode cX5_readNumber 6 = .ok (.istore 4, 2) := by decide +kernel
theorem dX5_readNumber_8 : decode cX5_readNumber 8 = .ok (.iload 4, 2) := by decide +kernel
theorem dX5_readNumber_10 : decode cX5_readNumber 10 = .ok (.ifCond .ge 5, 3) := by decide +kernel
theorem dX5_readNumber_13 : decode cX5_readNumber 13 = .ok (.iconst 0, 1) := by decide +kernel
theorem dX5_readNumber_14 : decode cX5_readNumber 14 = .ok (.ireturn, 1) := by decide +kernel
theorem dX5_readNumber_15 : decode cX5_readNumber 15 = .ok (.aload_n 1, 1) := by decide +kernel
theorem dX5_readNumber_16 : decode cX5_readNumber 16 = .ok (.iload 4, 2) := by decide +kernel
theorem dX5_readNumber_18 : decode cX5_readNumber 18 = .ok (.putfield 86, 3) := by decide +kernel
theorem dX5_readNumber_21 : decode cX5_readNumber 21 = .ok (.iconst 1, 1) := by decide +kernel
theorem dX5_readNumber_22 : decode cX5_readNumber 22 = .ok (.ireturn, 1) := by decide +kernel
theorem pyX5_readNumber : PY yX5_readNumber 3 := ⟨by decide +kernel, by decide +kernel, by decide +kernel⟩
def fX5_readNumber (Y : LY) (S : HS) (l0 : Option Nat) (l1 : Option Nat) (l2 : Int32) (l3 : Int32) : Option (HS × Int32) :=
  (rcv Y 5 l0).bind fun _ =>
  (fX5_readDigit Y S l0 l2 l3).bind fun q3 =>
  if 0 ≤ q3.2 then
    (pI Y 4 405 l1 q3.2 q3.1).bind fun S18 =>
    some (S18, 1)
  else
    some (q3.1, 0)
set_option maxRecDepth 100000 in
set_option maxHeartbeats 4000000 in
theorem mX5_readNumber (l : Launch) {G : GG} {Y : LY} {S : HS} {l0 : Option Nat} {l1 : Option Nat} {l2 : Int32} {l3 : Int32} {res : HS × Int32} (hf : fX5_readNumber Y S l0 l1 l2 l3 = some res) : MM l yX5_readNumber cX5_readNumber 5 (some .boolean) 2 44 G Y S [va_rf l0, va_rf l1, .int l2, .int l3] res.1 (some (.int res.2)) := by
  refine mm_of2 (plainFor_of_name (by decide +kernel)) (Nat.le_of_ble_eq_true rfl) (c1c (cr _) (c1c (cr _) (c1c (ci _) (c1c (ci _) c1n)))) ?_
  intro p e R s m args below meth c X H locs ls hP hl
  have X : Cx p R s m args meth c RX5 cX5_readNumber 5 2 44 (fun q => q ∈ Y.1) G (some .boolean) := X
  have hx := X.1.1
  have hb := X.1.2.1
  have hl : LV ls 5 [(0, va_rf l0), (1, va_rf l1), (2, .int l2), (3, .int l3)] := hl
  unfold fX5_readNumber at hf
  refine rw_aload_n X dX5_readNumber_0 rfl (hl.at 0 rfl) ?_
  refine lv_iload_n hx hb dX5_readNumber_1 rfl (hl.at 2 rfl) ?_
  refine lv_iload_n hx hb dX5_readNumber_2 rfl (hl.at 3 rfl) ?_
  obtain ⟨u3, r3, hf⟩ := ob hf
  obtain ⟨q3, e3, hf⟩ := ob hf
  refine rw_callVi (As := [.int l2, .int l3]) X dX5_readNumber_3 clX5_82 pyX5_readDigit (mX5_readDigit l e3) (by decide) r3 rfl hP rfl (catL c1n (Nat.le_of_ble_eq_true rfl)) hl.1.1 (fun H locs hP => ?_)
  refine rv_istore X dX5_readNumber_6 hl (by decide) rfl (fun ls hl => ?_)
  have hl : LV ls 5 [(4, .int q3.2), (0, va_rf l0), (1, va_rf l1), (2, .int l2), (3, .int l3)] := hl
  refine lv_iload hx hb dX5_readNumber_8 (hl.at 0 rfl) ?_
  refine lv_if_ge hx hb (tgt := 15) dX5_readNumber_10 (by decide) (fun c10 => ?_) (fun c10 => ?_)
  · have hf := ifp hf c10
    refine rw_aload_n X dX5_readNumber_15 rfl (hl.at 2 rfl) ?_
    refine lv_iload hx hb dX5_readNumber_16 (hl.at 0 rfl) ?_
    obtain ⟨S18, e18, hf⟩ := ob hf
    refine rw_putI X dX5_readNumber_18 fl5_86 fw4_5 e18 rfl hP (fun H locs hP => ?_)
    refine lv_iconst (v := 1) hx hb dX5_readNumber_21 (by decide) ?_
    cases hf
    exact rw_zret X (by first | exact Or.inl rfl | exact Or.inr rfl) dX5_readNumber_22 hP
  · have hf := ifn hf c10
    refine lv_iconst (v := 0) hx hb dX5_readNumber_13 (by decide) ?_
    cases hf
    exact rw_zret X (by first | exact Or.inl rfl | exact Or.inr rfl) dX5_readNumber_14 hP
theorem dX5_placeIn_0 : decode cX5_placeIn 0 = .ok (.aload_n 0, 1) := by decide +kernel
theorem dX5_placeIn_1 : decode cX5_placeIn 1 = .ok (.getfield 15, 3) := by decide +kernel
theorem dX5_placeIn_4 : decode cX5_placeIn 4 = .ok (.aload_n 0, 1) := by decide +kernel
theorem dX5_placeIn_5 : decode cX5_placeIn 5 = .ok (.getfield 9, 3) := by decide +kernel
theorem dX5_placeIn_8 : decode cX5_placeIn 8 = .ok (.invokevirtual 89, 3) := by decide +kernel
theorem dX5_placeIn_11 : decode cX5_placeIn 11 = .ok (.istore_n 2, 1) := by decide +kernel
theorem dX5_placeIn_12 : decode cX5_placeIn 12 = .ok (.iload_n 2, 1) := by decide +kernel
theorem dX5_placeIn_13 : decode cX5_placeIn 13 = .ok (.ifCond .ge 7, 3) := by decide +kernel
theorem dX5_placeIn_16 : decode cX5_placeIn 16 = .ok (.iconst (-1), 1) := by decide +kernel
theorem dX5_placeIn_17 : decode cX5_placeIn 17 = .ok (.goto 9, 3) := by decide +kernel
theorem dX5_placeIn_20 : decode cX5_placeIn 20 = .ok (.aload_n 1, 1) := by decide +kernel
theorem dX5_placeIn_21 : decode cX5_placeIn 21 = .ok (.iload_n 2, 1) := by decide +kernel
theorem dX5_placeIn_22 : decode cX5_placeIn 22 = .ok (.i2c, 1) := by decide +kernel
theorem dX5_placeIn_23 : decode cX5_placeIn 23 = .ok (.invokevirtual 127, 3) := by decide +kernel
theorem dX5_placeIn_26 : decode cX5_placeIn 26 = .ok (.ireturn, 1) := by decide +kernel
theorem pyX5_placeIn : PY yX5_placeIn 1 := ⟨by decide +kernel, by decide +kernel, by decide +kernel⟩
def fX5_placeIn (Y : LY) (S : HS) (l0 : Option Nat) (l1 : Nat) : Option (Int32) :=
  (gR Y 5 500 l0 S).bind fun v1 =>
  (gI Y 5 502 l0 S).bind fun v5 =>
  (rcv Y 7 v1).bind fun _ =>
  (fX7_codeAt Y S v1 v5).bind fun v8 =>
  if 0 ≤ v8 then
    (sIx l1 ((v8.toUInt32 % 65536).toInt32)).bind fun v23 =>
    some v23
  else
    some (-1)
set_option maxRecDepth 100000 in
set_option maxHeartbeats 4000000 in
theorem mX5_placeIn (l : Launch) {G : GG} {Y : LY} {S : HS} {l0 : Option Nat} {l1 : Nat} {res : Int32} (hf : fX5_placeIn Y S l0 l1 = some res) (hl1 : l1 < 3) : MM l yX5_placeIn cX5_placeIn 3 (some .int) 8 400 G Y S [va_rf l0, .ref (G.2.2.1 l1)] S (some (.int res)) := by
  refine mm_of2 (plainFor_of_name (by decide +kernel)) (Nat.le_of_ble_eq_true rfl) (c1c (cr _) (c1c (ca _) c1n)) ?_
  intro p e R s m args below meth c X H locs ls hP hl
  have X : Cx p R s m args meth c RX5 cX5_placeIn 3 8 400 (fun q => q ∈ Y.1) G (some .int) := X
  have hx := X.1.1
  have hb := X.1.2.1
  have hl : LV ls 3 [(0, va_rf l0), (1, .ref (G.2.2.1 l1))] := hl
  unfold fX5_placeIn at hf
  refine rw_aload_n X dX5_placeIn_0 rfl (hl.at 0 rfl) ?_
  obtain ⟨v1, e1, hf⟩ := ob hf
  refine rw_getR X dX5_placeIn_1 fl5_15 e1 rfl hP ?_
  refine rw_aload_n X dX5_placeIn_4 rfl (hl.at 0 rfl) ?_
  obtain ⟨v5, e5, hf⟩ := ob hf
  refine rw_getI X dX5_placeIn_5 fl5_9 e5 rfl hP ?_
  obtain ⟨u8, r8, hf⟩ := ob hf
  obtain ⟨v8, e8, hf⟩ := ob hf
  refine rw_callVi (As := [.int v5]) X dX5_placeIn_8 clX5_89 pyX7_codeAt (mX7_codeAt l e8) (by decide) r8 rfl hP rfl (catL c1n (Nat.le_of_ble_eq_true rfl)) hl.1.1 (fun H locs hP => ?_)
  refine rv_istore_n X dX5_placeIn_11 rfl hl (by decide) rfl (fun ls hl => ?_)
  have hl : LV ls 3 [(2, .int v8), (0, va_rf l0), (1, .ref (G.2.2.1 l1))] := hl
  refine lv_iload_n hx hb dX5_placeIn_12 rfl (hl.at 0 rfl) ?_
  refine lv_if_ge hx hb (tgt := 20) dX5_placeIn_13 (by decide) (fun c13 => ?_) (fun c13 => ?_)
  · have hf := ifp hf c13
    refine lv_aload_n hx hb dX5_placeIn_20 rfl (hl.at 2 rfl) ?_
    refine lv_iload_n hx hb dX5_placeIn_21 rfl (hl.at 0 rfl) ?_
    refine lv_i2c hx hb dX5_placeIn_22 rfl ?_
    obtain ⟨v23, e23, hf⟩ := ob hf
    refine rs_ix X clX5_127 e23 (by decide) (catL c1n (Nat.le_of_ble_eq_true rfl)) hl.1.1 dX5_placeIn_23 hP (fun H locs hP => ?_)
    cases hf
    exact rw_iret X dX5_placeIn_26 hP
  · have hf := ifn hf c13
    refine lv_iconst (v := (-1)) hx hb dX5_placeIn_16 (by decide) ?_
    refine lv_goto (tgt := 26) hx hb dX5_placeIn_17 (by decide) ?_
    cases hf
    exact rw_iret X dX5_placeIn_26 hP
theorem dX5_readClause_0 : decode cX5_readClause 0 = .ok (.aload_n 0, 1) := by decide +kernel
theorem dX5_readClause_1 : decode cX5_readClause 1 = .ok (.iconst 0, 1) := by decide +kernel
theorem dX5_readClause_2 : decode cX5_readClause 2 = .ok (.bipush 7, 2) := by decide +kernel
theorem dX5_readClause_4 : decode cX5_readClause 4 = .ok (.invokevirtual 82, 3) := by decide +kernel
theorem dX5_readClause_7 : decode cX5_readClause 7 = .ok (.istore 4, 2) := by decide +kernel
theorem dX5_readClause_9 : decode cX5_readClause 9 = .ok (.iload 4, 2) := by decide +kernel
theorem dX5_readClause_11 : decode cX5_readClause 11 = .ok (.ifCond .ge 7, 3) := by decide +kernel
theorem dX5_readClause_14 : decode cX5_readClause 14 = .ok (.iconst (-1), 1) := by decide +kernel
theorem dX5_readClause_15 : decode cX5_readClause 15 = .ok (.goto 8, 3) := by decide +kernel
theorem dX5_readClause_18 : decode cX5_readClause 18 = .ok (.aload_n 0, 1) := by decide +kernel
theorem dX5_readClause_19 : decode cX5_readClause 19 = .ok (.aload_n 3, 1) := by decide +kernel
theorem dX5_readClause_20 : decode cX5_readClause 20 = .ok (.invokevirtual 39, 3) := by decide +kernel
theorem dX5_readClause_23 : decode cX5_readClause 23 = .ok (.istore 5, 2) := by decide +kernel
theorem dX5_readClause_25 : decode cX5_readClause 25 = .ok (.iload 5, 2) := by decide +kernel
theorem dX5_readClause_27 : decode cX5_readClause 27 = .ok (.ifCond .lt 12, 3) := by decide +kernel
theorem dX5_readClause_30 : decode cX5_readClause 30 = .ok (.iload 5, 2) := by decide +kernel
theorem dX5_readClause_32 : decode cX5_readClause 32 = .ok (.aload_n 3, 1) := by decide +kernel
theorem dX5_readClause_33 : decode cX5_readClause 33 = .ok (.invokevirtual 96, 3) := by decide +kernel
theorem dX5_readClause_36 : decode cX5_readClause 36 = .ok (.if_icmp .lt 5, 3) := by decide +kernel
theorem dX5_readClause_39 : decode cX5_readClause 39 = .ok (.iconst 0, 1) := by decide +kernel
theorem dX5_readClause_40 : decode cX5_readClause 40 = .ok (.ireturn, 1) := by decide +kernel
theorem dX5_readClause_41 : decode cX5_readClause 41 = .ok (.aload_n 0, 1) := by decide +kernel
theorem dX5_readClause_42 : decode cX5_readClause 42 = .ok (.dup, 1) := by decide +kernel
theorem dX5_readClause_43 : decode cX5_readClause 43 = .ok (.getfield 9, 3) := by decide +kernel
theorem dX5_readClause_46 : decode cX5_readClause 46 = .ok (.iconst 1, 1) := by decide +kernel
theorem dX5_readClause_47 : decode cX5_readClause 47 = .ok (.iadd, 1) := by decide +kernel
theorem dX5_readClause_48 : decode cX5_readClause 48 = .ok (.putfield 9, 3) := by decide +kernel
theorem dX5_readClause_51 : decode cX5_readClause 51 = .ok (.aload_n 0, 1) := by decide +kernel
theorem dX5_readClause_52 : decode cX5_readClause 52 = .ok (.iconst 0, 1) := by decide +kernel
theorem dX5_readClause_53 : decode cX5_readClause 53 = .ok (.bipush 9, 2) := by decide +kernel
theorem dX5_readClause_55 : decode cX5_readClause 55 = .ok (.invokevirtual 82, 3) := by decide +kernel
theorem dX5_readClause_58 : decode cX5_readClause 58 = .ok (.istore 6, 2) := by decide +kernel
theorem dX5_readClause_60 : decode cX5_readClause 60 = .ok (.iload 6, 2) := by decide +kernel
theorem dX5_readClause_62 : decode cX5_readClause 62 = .ok (.ifCond .ge 5, 3) := by decide +kernel
theorem dX5_readClause_65 : decode cX5_readClause 65 = .ok (.iconst 0, 1) := by decide +kernel
theorem dX5_readClause_66 : decode cX5_readClause 66 = .ok (.ireturn, 1) := by decide +kernel
theorem dX5_readClause_67 : decode cX5_readClause 67 = .ok (.aload_n 0, 1) := by decide +kernel
theorem dX5_readClause_68 : decode cX5_readClause 68 = .ok (.iconst 0, 1) := by decide +kernel
theorem dX5_readClause_69 : decode cX5_readClause 69 = .ok (.bipush 9, 2) := by decide +kernel
theorem dX5_readClause_71 : decode cX5_readClause 71 = .ok (.invokevirtual 82, 3) := by decide +kernel
theorem dX5_readClause_74 : decode cX5_readClause 74 = .ok (.istore 7, 2) := by decide +kernel
theorem dX5_readClause_76 : decode cX5_readClause 76 = .ok (.aload_n 2, 1) := by decide +kernel
theorem dX5_readClause_77 : decode cX5_readClause 77 = .ok (.iconst 1, 1) := by decide +kernel
theorem dX5_readClause_78 : decode cX5_readClause 78 = .ok (.putfield 101, 3) := by decide +kernel
theorem dX5_readClause_81 : decode cX5_readClause 81 = .ok (.aload_n 2, 1) := by decide +kernel
theorem dX5_readClause_82 : decode cX5_readClause 82 = .ok (.iload 4, 2) := by decide +kernel
theorem dX5_readClause_84 : decode cX5_readClause 84 = .ok (.putfield 107, 3) := by decide +kernel
theorem dX5_readClause_87 : decode cX5_readClause 87 = .ok (.aload_n 2, 1) := by decide +kernel
theorem dX5_readClause_88 : decode cX5_readClause 88 = .ok (.aload_n 3, 1) := by decide +kernel
theorem dX5_readClause_89 : decode cX5_readClause 89 = .ok (.iload 5, 2) := by decide +kernel
theorem dX5_readClause_91 : decode cX5_readClause 91 = .ok (.invokevirtual 110, 3) := by decide +kernel
theorem dX5_readClause_94 : decode cX5_readClause 94 = .ok (.putfield 114, 3) := by decide +kernel
theorem dX5_readClause_97 : decode cX5_readClause 97 = .ok (.aload_n 2, 1) := by decide +kernel
theorem dX5_readClause_98 : decode cX5_readClause 98 = .ok (.iload 7, 2) := by decide +kernel
theorem dX5_readClause_100 : decode cX5_readClause 100 = .ok (.ifCond .ge 8, 3) := by decide +kernel
theorem dX5_readClause_103 : decode cX5_readClause 103 = .ok (.iload 6, 2) := by decide +kernel
theorem dX5_readClause_105 : decode cX5_readClause 105 = .ok (.goto 11, 3) := by decide +kernel
theorem dX5_readClause_108 : decode cX5_readClause 108 = .ok (.bipush 10, 2) := by decide +kernel
theorem dX5_readClause_110 : decode cX5_readClause 110 = .ok (.iload 6, 2) := by decide +kernel
theorem dX5_readClause_112 : decode cX5_readClause 112 = .ok (.imul, 1) := by decide +kernel
theorem dX5_readClause_113 : decode cX5_readClause 113 = .ok (.iload 7, 2) := by decide +kernel
theorem dX5_readClause_115 : decode cX5_readClause 115 = .ok (.iadd, 1) := by decide +kernel
theorem dX5_readClause_116 : decode cX5_readClause 116 = .ok (.putfield 118, 3) := by decide +kernel
theorem dX5_readClause_119 : decode cX5_readClause 119 = .ok (.aload_n 2, 1) := by decide +kernel
theorem dX5_readClause_120 : decode cX5_readClause 120 = .ok (.aload_n 1, 1) := by decide +kernel
theorem dX5_readClause_121 : decode cX5_readClause 121 = .ok (.iload 4, 2) := by decide +kernel
theorem dX5_readClause_123 : decode cX5_readClause 123 = .ok (.invokevirtual 119, 3) := by decide +kernel
theorem dX5_readClause_126 : decode cX5_readClause 126 = .ok (.putfield 123, 3) := by decide +kernel
theorem dX5_readClause_129 : decode cX5_readClause 129 = .ok (.iconst 1, 1) := by decide +kernel
theorem dX5_readClause_130 : decode cX5_readClause 130 = .ok (.ireturn, 1) := by decide +kernel
theorem pyX5_readClause : PY yX5_readClause 3 := ⟨by decide +kernel, by decide +kernel, by decide +kernel⟩
def fX5_readClause_116 (Y : LY) (S : HS) (l1 : Option Nat) (l2 : Option Nat) (l4 : Int32) (s0 : Option Nat) (s1 : Int32) : Option (HS × Int32) :=
  (pI Y 1 103 s0 s1 S).bind fun S116 =>
  (rcv Y 4 l1).bind fun _ =>
  (fX4_scopeOf Y S116 l1 l4).bind fun v123 =>
  (pR Y 1 104 l2 v123 S116).bind fun S126 =>
  some (S126, 1)
set_option maxRecDepth 100000 in
set_option maxHeartbeats 4000000 in
theorem wX5_readClause_116 {p : Program} {l : Launch} {e : Env} {R : Room} {s : State} {m : MethodId} {args : Array Value} {below : List Frame} {meth : Method} {c : Code} {G : GG} {Y : LY} {res : HS × Int32} (X : Cx p R s m args meth c RX5 cX5_readClause 8 9 422 (fun q => q ∈ Y.1) G (some .boolean)) : ∀ (S : HS) (l1 : Option Nat) (l2 : Option Nat) (l4 : Int32) (s0 : Option Nat) (s1 : Int32), fX5_readClause_116 Y S l1 l2 l4 s0 s1 = some res → ∀ (H : Heap) (locs : List Loc) (ls : Array Slot), HP (fun q => q ∈ Y.1) G Y s S H locs → LV ls 8 [(1, va_rf l1), (2, va_rf l2), (4, .int l4)] → W p l e R s m args below meth c H locs 0 0 (MQ below (QI G Y res.1 (some (.int res.2))) args s 0 0 (fun q => q ∈ Y.1)) (F0 m 116 ls (.int s1 :: (va_rf s0 :: []))) := by
  have hx := X.1.1
  have hb := X.1.2.1
  intro S l1 l2 l4 s0 s1 hf H locs ls hP hl
  unfold fX5_readClause_116 at hf
  obtain ⟨S116, e116, hf⟩ := ob hf
  refine rw_putI X dX5_readClause_116 fl5_118 fw1_3 e116 rfl hP (fun H locs hP => ?_)
  refine rw_aload_n X dX5_readClause_119 rfl (hl.at 1 rfl) ?_
  refine rw_aload_n X dX5_readClause_120 rfl (hl.at 0 rfl) ?_
  refine lv_iload hx hb dX5_readClause_121 (hl.at 2 rfl) ?_
  obtain ⟨u123, r123, hf⟩ := ob hf
  obtain ⟨v123, e123, hf⟩ := ob hf
  refine rw_callVr (As := [.int l4]) X dX5_readClause_123 clX5_119 pyX4_scopeOf (mX4_scopeOf l e123) (by decide) r123 rfl hP rfl (catL (c1c (cr _) c1n) (Nat.le_of_ble_eq_true rfl)) hl.1.1 (fun H locs hP => ?_)
  obtain ⟨S126, e126, hf⟩ := ob hf
  refine rw_putR X dX5_readClause_126 fl5_123 fw1_4 e126 rfl hP (fun H locs hP => ?_)
  refine lv_iconst (v := 1) hx hb dX5_readClause_129 (by decide) ?_
  cases hf
  exact rw_zret X (by first | exact Or.inl rfl | exact Or.inr rfl) dX5_readClause_130 hP
def fX5_readClause_23 (Y : LY) (S : HS) (l0 : Option Nat) (l1 : Option Nat) (l2 : Option Nat) (l3 : Nat) (l4 : Int32) (s0 : Int32) : Option (HS × Int32) :=
  if s0 < 0 then
    some (S, 0)
  else
    if s0 < (sLen l3) then
      (gI Y 5 502 l0 S).bind fun v43 =>
      (pI Y 5 502 l0 (v43 + 1) S).bind fun S48 =>
      (rcv Y 5 l0).bind fun _ =>
      (fX5_readDigit Y S48 l0 0 9).bind fun q55 =>
      if 0 ≤ q55.2 then
        (rcv Y 5 l0).bind fun _ =>
        (fX5_readDigit Y q55.1 l0 0 9).bind fun q71 =>
        (pZ Y 1 100 l2 1 q71.1).bind fun S78 =>
        (pI Y 1 101 l2 l4 S78).bind fun S84 =>
        (sCh l3 s0).bind fun v91 =>
        (pC Y 1 102 l2 v91 S84).bind fun S94 =>
        if 0 ≤ q71.2 then
          fX5_readClause_116 Y S94 l1 l2 l4 l2 ((10 * q55.2) + q71.2)
        else
          fX5_readClause_116 Y S94 l1 l2 l4 l2 q55.2
      else
        some (q55.1, 0)
    else
      some (S, 0)
set_option maxRecDepth 100000 in
set_option maxHeartbeats 4000000 in
theorem wX5_readClause_23 {p : Program} {l : Launch} {e : Env} {R : Room} {s : State} {m : MethodId} {args : Array Value} {below : List Frame} {meth : Method} {c : Code} {G : GG} {Y : LY} {res : HS × Int32} (X : Cx p R s m args meth c RX5 cX5_readClause 8 9 422 (fun q => q ∈ Y.1) G (some .boolean)) : ∀ (S : HS) (l0 : Option Nat) (l1 : Option Nat) (l2 : Option Nat) (l3 : Nat) (l4 : Int32) (s0 : Int32) (hl3 : l3 < 3), fX5_readClause_23 Y S l0 l1 l2 l3 l4 s0 = some res → ∀ (H : Heap) (locs : List Loc) (ls : Array Slot), HP (fun q => q ∈ Y.1) G Y s S H locs → LV ls 8 [(0, va_rf l0), (1, va_rf l1), (2, va_rf l2), (3, .ref (G.2.2.1 l3)), (4, .int l4)] → W p l e R s m args below meth c H locs 0 0 (MQ below (QI G Y res.1 (some (.int res.2))) args s 0 0 (fun q => q ∈ Y.1)) (F0 m 23 ls (.int s0 :: [])) := by
  have hx := X.1.1
  have hb := X.1.2.1
  intro S l0 l1 l2 l3 l4 s0 hl3 hf H locs ls hP hl
  unfold fX5_readClause_23 at hf
  refine rv_istore X dX5_readClause_23 hl (by decide) rfl (fun ls hl => ?_)
  have hl : LV ls 8 [(5, .int s0), (0, va_rf l0), (1, va_rf l1), (2, va_rf l2), (3, .ref (G.2.2.1 l3)), (4, .int l4)] := hl
  refine lv_iload hx hb dX5_readClause_25 (hl.at 0 rfl) ?_
  refine lv_if_lt hx hb (tgt := 39) dX5_readClause_27 (by decide) (fun c27 => ?_) (fun c27 => ?_)
  · have hf := ifp hf c27
    refine lv_iconst (v := 0) hx hb dX5_readClause_39 (by decide) ?_
    cases hf
    exact rw_zret X (by first | exact Or.inl rfl | exact Or.inr rfl) dX5_readClause_40 hP
  · have hf := ifn hf c27
    refine lv_iload hx hb dX5_readClause_30 (hl.at 0 rfl) ?_
    refine lv_aload_n hx hb dX5_readClause_32 rfl (hl.at 4 rfl) ?_
    refine rs_len X clX5_96 (i := l3) (by first | decide | assumption) (by decide) (catL (c1c (ci _) c1n) (Nat.le_of_ble_eq_true rfl)) hl.1.1 dX5_readClause_33 hP (fun H locs hP => ?_)
    refine lv_icmp_lt hx hb (tgt := 41) dX5_readClause_36 (by decide) (fun c36 => ?_) (fun c36 => ?_)
    · have hf := ifp hf c36
      refine rw_aload_n X dX5_readClause_41 rfl (hl.at 1 rfl) ?_
      refine lv_dup hx hb dX5_readClause_42 (cr _) ?_
      obtain ⟨v43, e43, hf⟩ := ob hf
      refine rw_getI X dX5_readClause_43 fl5_9 e43 rfl hP ?_
      refine lv_iconst (v := 1) hx hb dX5_readClause_46 (by decide) ?_
      refine lv_iadd hx hb dX5_readClause_47 ?_
      obtain ⟨S48, e48, hf⟩ := ob hf
      refine rw_putI X dX5_readClause_48 fl5_9 fw5_2 e48 rfl hP (fun H locs hP => ?_)
      refine rw_aload_n X dX5_readClause_51 rfl (hl.at 1 rfl) ?_
      refine lv_iconst (v := 0) hx hb dX5_readClause_52 (by decide) ?_
      refine lv_bipush (v := 9) hx hb dX5_readClause_53 (by decide) ?_
      obtain ⟨u55, r55, hf⟩ := ob hf
      obtain ⟨q55, e55, hf⟩ := ob hf
      refine rw_callVi (As := [.int 0, .int 9]) X dX5_readClause_55 clX5_82 pyX5_readDigit (mX5_readDigit l e55) (by decide) r55 rfl hP rfl (catL c1n (Nat.le_of_ble_eq_true rfl)) hl.1.1 (fun H locs hP => ?_)
      refine rv_istore X dX5_readClause_58 hl (by decide) rfl (fun ls hl => ?_)
      have hl : LV ls 8 [(6, .int q55.2), (5, .int s0), (0, va_rf l0), (1, va_rf l1), (2, va_rf l2), (3, .ref (G.2.2.1 l3)), (4, .int l4)] := hl
      refine lv_iload hx hb dX5_readClause_60 (hl.at 0 rfl) ?_
      refine lv_if_ge hx hb (tgt := 67) dX5_readClause_62 (by decide) (fun c62 => ?_) (fun c62 => ?_)
      · have hf := ifp hf c62
        refine rw_aload_n X dX5_readClause_67 rfl (hl.at 2 rfl) ?_
        refine lv_iconst (v := 0) hx hb dX5_readClause_68 (by decide) ?_
        refine lv_bipush (v := 9) hx hb dX5_readClause_69 (by decide) ?_
        obtain ⟨u71, r71, hf⟩ := ob hf
        obtain ⟨q71, e71, hf⟩ := ob hf
        refine rw_callVi (As := [.int 0, .int 9]) X dX5_readClause_71 clX5_82 pyX5_readDigit (mX5_readDigit l e71) (by decide) r71 rfl hP rfl (catL c1n (Nat.le_of_ble_eq_true rfl)) hl.1.1 (fun H locs hP => ?_)
        refine rv_istore X dX5_readClause_74 hl (by decide) rfl (fun ls hl => ?_)
        have hl : LV ls 8 [(7, .int q71.2), (6, .int q55.2), (5, .int s0), (0, va_rf l0), (1, va_rf l1), (2, va_rf l2), (3, .ref (G.2.2.1 l3)), (4, .int l4)] := hl
        refine rw_aload_n X dX5_readClause_76 rfl (hl.at 5 rfl) ?_
        refine lv_iconst (v := 1) hx hb dX5_readClause_77 (by decide) ?_
        obtain ⟨S78, e78, hf⟩ := ob hf
        refine rw_putZ X dX5_readClause_78 fl5_101 fw1_0 e78 rfl hP (fun H locs hP => ?_)
        refine rw_aload_n X dX5_readClause_81 rfl (hl.at 5 rfl) ?_
        refine lv_iload hx hb dX5_readClause_82 (hl.at 7 rfl) ?_
        obtain ⟨S84, e84, hf⟩ := ob hf
        refine rw_putI X dX5_readClause_84 fl5_107 fw1_1 e84 rfl hP (fun H locs hP => ?_)
        refine rw_aload_n X dX5_readClause_87 rfl (hl.at 5 rfl) ?_
        refine lv_aload_n hx hb dX5_readClause_88 rfl (hl.at 6 rfl) ?_
        refine lv_iload hx hb dX5_readClause_89 (hl.at 2 rfl) ?_
        obtain ⟨v91, e91, hf⟩ := ob hf
        refine rs_ch X clX5_110 e91 (by decide) (catL (c1c (cr _) c1n) (Nat.le_of_ble_eq_true rfl)) hl.1.1 dX5_readClause_91 hP (fun H locs hP => ?_)
        obtain ⟨S94, e94, hf⟩ := ob hf
        refine rw_putC X dX5_readClause_94 fl5_114 fw1_2 e94 rfl hP (fun H locs hP => ?_)
        refine rw_aload_n X dX5_readClause_97 rfl (hl.at 5 rfl) ?_
        refine lv_iload hx hb dX5_readClause_98 (hl.at 0 rfl) ?_
        refine lv_if_ge hx hb (tgt := 108) dX5_readClause_100 (by decide) (fun c100 => ?_) (fun c100 => ?_)
        · have hf := ifp hf c100
          refine lv_bipush (v := 10) hx hb dX5_readClause_108 (by decide) ?_
          refine lv_iload hx hb dX5_readClause_110 (hl.at 1 rfl) ?_
          refine lv_imul hx hb dX5_readClause_112 ?_
          refine lv_iload hx hb dX5_readClause_113 (hl.at 0 rfl) ?_
          refine lv_iadd hx hb dX5_readClause_115 ?_
          exact wX5_readClause_116 X S94 l1 l2 l4 l2 ((10 * q55.2) + q71.2) hf _ _ _ hP (hl.sub [4, 5, 7] rfl)
        · have hf := ifn hf c100
          refine lv_iload hx hb dX5_readClause_103 (hl.at 1 rfl) ?_
          refine lv_goto (tgt := 116) hx hb dX5_readClause_105 (by decide) ?_
          exact wX5_readClause_116 X S94 l1 l2 l4 l2 q55.2 hf _ _ _ hP (hl.sub [4, 5, 7] rfl)
      · have hf := ifn hf c62
        refine lv_iconst (v := 0) hx hb dX5_readClause_65 (by decide) ?_
        cases hf
        exact rw_zret X (by first | exact Or.inl rfl | exact Or.inr rfl) dX5_readClause_66 hP
    · have hf := ifn hf c36
      refine lv_iconst (v := 0) hx hb dX5_readClause_39 (by decide) ?_
      cases hf
      exact rw_zret X (by first | exact Or.inl rfl | exact Or.inr rfl) dX5_readClause_40 hP
def fX5_readClause (Y : LY) (S : HS) (l0 : Option Nat) (l1 : Option Nat) (l2 : Option Nat) (l3 : Nat) : Option (HS × Int32) :=
  (rcv Y 5 l0).bind fun _ =>
  (fX5_readDigit Y S l0 0 7).bind fun q4 =>
  if 0 ≤ q4.2 then
    (rcv Y 5 l0).bind fun _ =>
    (fX5_placeIn Y q4.1 l0 l3).bind fun v20 =>
    fX5_readClause_23 Y q4.1 l0 l1 l2 l3 q4.2 v20
  else
    fX5_readClause_23 Y q4.1 l0 l1 l2 l3 q4.2 (-1)
set_option maxRecDepth 100000 in
set_option maxHeartbeats 4000000 in
theorem mX5_readClause (l : Launch) {G : GG} {Y : LY} {S : HS} {l0 : Option Nat} {l1 : Option Nat} {l2 : Option Nat} {l3 : Nat} {res : HS × Int32} (hf : fX5_readClause Y S l0 l1 l2 l3 = some res) (hl3 : l3 < 3) : MM l yX5_readClause cX5_readClause 8 (some .boolean) 9 422 G Y S [va_rf l0, va_rf l1, va_rf l2, .ref (G.2.2.1 l3)] res.1 (some (.int res.2)) := by
  refine mm_of2 (plainFor_of_name (by decide +kernel)) (Nat.le_of_ble_eq_true rfl) (c1c (cr _) (c1c (cr _) (c1c (cr _) (c1c (ca _) c1n)))) ?_
  intro p e R s m args below meth c X H locs ls hP hl
  have X : Cx p R s m args meth c RX5 cX5_readClause 8 9 422 (fun q => q ∈ Y.1) G (some .boolean) := X
  have hx := X.1.1
  have hb := X.1.2.1
  have hl : LV ls 8 [(0, va_rf l0), (1, va_rf l1), (2, va_rf l2), (3, .ref (G.2.2.1 l3))] := hl
  unfold fX5_readClause at hf
  refine rw_aload_n X dX5_readClause_0 rfl (hl.at 0 rfl) ?_
  refine lv_iconst (v := 0) hx hb dX5_readClause_1 (by decide) ?_
  refine lv_bipush (v := 7) hx hb dX5_readClause_2 (by decide) ?_
  obtain ⟨u4, r4, hf⟩ := ob hf
  obtain ⟨q4, e4, hf⟩ := ob hf
  refine rw_callVi (As := [.int 0, .int 7]) X dX5_readClause_4 clX5_82 pyX5_readDigit (mX5_readDigit l e4) (by decide) r4 rfl hP rfl (catL c1n (Nat.le_of_ble_eq_true rfl)) hl.1.1 (fun H locs hP => ?_)
  refine rv_istore X dX5_readClause_7 hl (by decide) rfl (fun ls hl => ?_)
  have hl : LV ls 8 [(4, .int q4.2), (0, va_rf l0), (1, va_rf l1), (2, va_rf l2), (3, .ref (G.2.2.1 l3))] := hl
  refine lv_iload hx hb dX5_readClause_9 (hl.at 0 rfl) ?_
  refine lv_if_ge hx hb (tgt := 18) dX5_readClause_11 (by decide) (fun c11 => ?_) (fun c11 => ?_)
  · have hf := ifp hf c11
    refine rw_aload_n X dX5_readClause_18 rfl (hl.at 1 rfl) ?_
    refine lv_aload_n hx hb dX5_readClause_19 rfl (hl.at 4 rfl) ?_
    obtain ⟨u20, r20, hf⟩ := ob hf
    obtain ⟨v20, e20, hf⟩ := ob hf
    refine rw_callVi (As := [.ref (G.2.2.1 l3)]) X dX5_readClause_20 clX5_39 pyX5_placeIn (mX5_placeIn l e20 (by first | decide | assumption)) (by decide) r20 rfl hP rfl (catL c1n (Nat.le_of_ble_eq_true rfl)) hl.1.1 (fun H locs hP => ?_)
    exact wX5_readClause_23 X q4.1 l0 l1 l2 l3 q4.2 v20 (by first | decide | assumption) hf _ _ _ hP (hl.sub [1, 2, 3, 4, 0] rfl)
  · have hf := ifn hf c11
    refine lv_iconst (v := (-1)) hx hb dX5_readClause_14 (by decide) ?_
    refine lv_goto (tgt := 23) hx hb dX5_readClause_15 (by decide) ?_
    exact wX5_readClause_23 X q4.1 l0 l1 l2 l3 q4.2 (-1) (by first | decide | assumption) hf _ _ _ hP (hl.sub [1, 2, 3, 4, 0] rfl)
theorem dX5_skip_0 : decode cX5_skip 0 = .ok (.aload_n 0, 1) := by decide +kernel
theorem dX5_skip_1 : decode cX5_skip 1 = .ok (.getfield 15, 3) := by decide +kernel
theorem dX5_skip_4 : decode cX5_skip 4 = .ok (.aload_n 0, 1) := by decide +kernel
theorem dX5_skip_5 : decode cX5_skip 5 = .ok (.getfield 9, 3) := by decide +kernel
theorem dX5_skip_8 : decode cX5_skip 8 = .ok (.invokevirtual 89, 3) := by decide +kernel
theorem dX5_skip_11 : decode cX5_skip 11 = .ok (.iload_n 1, 1) := by decide +kernel
theorem dX5_skip_12 : decode cX5_skip 12 = .ok (.if_icmp .eq 5, 3) := by decide +kernel
theorem dX5_skip_15 : decode cX5_skip 15 = .ok (.iconst 0, 1) := by decide +kernel
theorem dX5_skip_16 : decode cX5_skip 16 = .ok (.ireturn, 1) := by decide +kernel
theorem dX5_skip_17 : decode cX5_skip 17 = .ok (.aload_n 0, 1) := by decide +kernel
theorem dX5_skip_18 : decode cX5_skip 18 = .ok (.dup, 1) := by decide +kernel
theorem dX5_skip_19 : decode cX5_skip 19 = .ok (.getfield 9, 3) := by decide +kernel
theorem dX5_skip_22 : decode cX5_skip 22 = .ok (.iconst 1, 1) := by decide +kernel
theorem dX5_skip_23 : decode cX5_skip 23 = .ok (.iadd, 1) := by decide +kernel
theorem dX5_skip_24 : decode cX5_skip 24 = .ok (.putfield 9, 3) := by decide +kernel
theorem dX5_skip_27 : decode cX5_skip 27 = .ok (.iconst 1, 1) := by decide +kernel
theorem dX5_skip_28 : decode cX5_skip 28 = .ok (.ireturn, 1) := by decide +kernel
theorem pyX5_skip : PY yX5_skip 1 := ⟨by decide +kernel, by decide +kernel, by decide +kernel⟩
def fX5_skip (Y : LY) (S : HS) (l0 : Option Nat) (l1 : Int32) : Option (HS × Int32) :=
  (gR Y 5 500 l0 S).bind fun v1 =>
  (gI Y 5 502 l0 S).bind fun v5 =>
  (rcv Y 7 v1).bind fun _ =>
  (fX7_codeAt Y S v1 v5).bind fun v8 =>
  if v8 = l1 then
    (gI Y 5 502 l0 S).bind fun v19 =>
    (pI Y 5 502 l0 (v19 + 1) S).bind fun S24 =>
    some (S24, 1)
  else
    some (S, 0)
set_option maxRecDepth 100000 in
set_option maxHeartbeats 4000000 in
theorem mX5_skip (l : Launch) {G : GG} {Y : LY} {S : HS} {l0 : Option Nat} {l1 : Int32} {res : HS × Int32} (hf : fX5_skip Y S l0 l1 = some res) : MM l yX5_skip cX5_skip 2 (some .boolean) 1 21 G Y S [va_rf l0, .int l1] res.1 (some (.int res.2)) := by
  refine mm_of2 (plainFor_of_name (by decide +kernel)) (Nat.le_of_ble_eq_true rfl) (c1c (cr _) (c1c (ci _) c1n)) ?_
  intro p e R s m args below meth c X H locs ls hP hl
  have X : Cx p R s m args meth c RX5 cX5_skip 2 1 21 (fun q => q ∈ Y.1) G (some .boolean) := X
  have hx := X.1.1
  have hb := X.1.2.1
  have hl : LV ls 2 [(0, va_rf l0), (1, .int l1)] := hl
  unfold fX5_skip at hf
  refine rw_aload_n X dX5_skip_0 rfl (hl.at 0 rfl) ?_
  obtain ⟨v1, e1, hf⟩ := ob hf
  refine rw_getR X dX5_skip_1 fl5_15 e1 rfl hP ?_
  refine rw_aload_n X dX5_skip_4 rfl (hl.at 0 rfl) ?_
  obtain ⟨v5, e5, hf⟩ := ob hf
  refine rw_getI X dX5_skip_5 fl5_9 e5 rfl hP ?_
  obtain ⟨u8, r8, hf⟩ := ob hf
  obtain ⟨v8, e8, hf⟩ := ob hf
  refine rw_callVi (As := [.int v5]) X dX5_skip_8 clX5_89 pyX7_codeAt (mX7_codeAt l e8) (by decide) r8 rfl hP rfl (catL c1n (Nat.le_of_ble_eq_true rfl)) hl.1.1 (fun H locs hP => ?_)
  refine lv_iload_n hx hb dX5_skip_11 rfl (hl.at 1 rfl) ?_
  refine lv_icmp_eq hx hb (tgt := 17) dX5_skip_12 (by decide) (fun c12 => ?_) (fun c12 => ?_)
  · have hf := ifp hf c12
    refine rw_aload_n X dX5_skip_17 rfl (hl.at 0 rfl) ?_
    refine lv_dup hx hb dX5_skip_18 (cr _) ?_
    obtain ⟨v19, e19, hf⟩ := ob hf
    refine rw_getI X dX5_skip_19 fl5_9 e19 rfl hP ?_
    refine lv_iconst (v := 1) hx hb dX5_skip_22 (by decide) ?_
    refine lv_iadd hx hb dX5_skip_23 ?_
    obtain ⟨S24, e24, hf⟩ := ob hf
    refine rw_putI X dX5_skip_24 fl5_9 fw5_2 e24 rfl hP (fun H locs hP => ?_)
    refine lv_iconst (v := 1) hx hb dX5_skip_27 (by decide) ?_
    cases hf
    exact rw_zret X (by first | exact Or.inl rfl | exact Or.inr rfl) dX5_skip_28 hP
  · have hf := ifn hf c12
    refine lv_iconst (v := 0) hx hb dX5_skip_15 (by decide) ?_
    cases hf
    exact rw_zret X (by first | exact Or.inl rfl | exact Or.inr rfl) dX5_skip_16 hP
theorem dX5_readEffects_0 : decode cX5_readEffects 0 = .ok (.aload_n 0, 1) := by decide +kernel
theorem dX5_readEffects_1 : decode cX5_readEffects 1 = .ok (.getfield 15, 3) := by decide +kernel
theorem dX5_readEffects_4 : decode cX5_readEffects 4 = .ok (.aload_n 0, 1) := by decide +kernel
theorem dX5_readEffects_5 : decode cX5_readEffects 5 = .ok (.getfield 9, 3) := by decide +kernel
theorem dX5_readEffects_8 : decode cX5_readEffects 8 = .ok (.invokevirtual 89, 3) := by decide +kernel
theorem dX5_readEffects_11 : decode cX5_readEffects 11 = .ok (.istore_n 2, 1) := by decide +kernel
theorem dX5_readEffects_12 : decode cX5_readEffects 12 = .ok (.iload_n 2, 1) := by decide +kernel
theorem dX5_readEffects_13 : decode cX5_readEffects 13 = .ok (.bipush 48, 2) := by decide +kernel
theorem dX5_readEffects_15 : decode cX5_readEffects 15 = .ok (.if_icmp .lt 25, 3) := by decide +kernel
theorem dX5_readEffects_18 : decode cX5_readEffects 18 = .ok (.iload_n 2, 1) := by decide +kernel
theorem dX5_readEffects_19 : decode cX5_readEffects 19 = .ok (.bipush 57, 2) := by decide +kernel
theorem dX5_readEffects_21 : decode cX5_readEffects 21 = .ok (.if_icmp .gt 19, 3) := by decide +kernel
theorem dX5_readEffects_24 : decode cX5_readEffects 24 = .ok (.aload_n 0, 1) := by decide +kernel
theorem dX5_readEffects_25 : decode cX5_readEffects 25 = .ok (.aload_n 1, 1) := by decide +kernel
theorem dX5_readEffects_26 : decode cX5_readEffects 26 = .ok (.aload_n 1, 1) := by decide +kernel
theorem dX5_readEffects_27 : decode cX5_readEffects 27 = .ok (.getfield 63, 3) := by decide +kernel
theorem dX5_readEffects_30 : decode cX5_readEffects 30 = .ok (.ldc 73, 2) := by decide +kernel
theorem dX5_readEffects_32 : decode cX5_readEffects 32 = .ok (.invokevirtual 69, 3) := by decide +kernel
theorem dX5_readEffects_35 : decode cX5_readEffects 35 = .ok (.ifCond .ne 5, 3) := by decide +kernel
theorem dX5_readEffects_38 : decode cX5_readEffects 38 = .ok (.iconst 0, 1) := by decide +kernel
theorem dX5_readEffects_39 : decode cX5_readEffects 39 = .ok (.ireturn, 1) := by decide +kernel
theorem dX5_readEffects_40 : decode cX5_readEffects 40 = .ok (.aload_n 0, 1) := by decide +kernel
theorem dX5_readEffects_41 : decode cX5_readEffects 41 = .ok (.bipush 126, 2) := by decide +kernel
theorem dX5_readEffects_43 : decode cX5_readEffects 43 = .ok (.invokevirtual 78, 3) := by decide +kernel
theorem dX5_readEffects_46 : decode cX5_readEffects 46 = .ok (.ifCond .eq 17, 3) := by decide +kernel
theorem dX5_readEffects_49 : decode cX5_readEffects 49 = .ok (.aload_n 0, 1) := by decide +kernel
theorem dX5_readEffects_50 : decode cX5_readEffects 50 = .ok (.aload_n 1, 1) := by decide +kernel
theorem dX5_readEffects_51 : decode cX5_readEffects 51 = .ok (.aload_n 1, 1) := by decide +kernel
theorem dX5_readEffects_52 : decode cX5_readEffects 52 = .ok (.getfield 93, 3) := by decide +kernel
theorem dX5_readEffects_55 : decode cX5_readEffects 55 = .ok (.ldc 73, 2) := by decide +kernel
theorem dX5_readEffects_57 : decode cX5_readEffects 57 = .ok (.invokevirtual 69, 3) := by decide +kernel
theorem dX5_readEffects_60 : decode cX5_readEffects 60 = .ok (.ifCond .eq 7, 3) := by decide +kernel
theorem dX5_readEffects_63 : decode cX5_readEffects 63 = .ok (.iconst 1, 1) := by decide +kernel
theorem dX5_readEffects_64 : decode cX5_readEffects 64 = .ok (.goto 4, 3) := by decide +kernel
theorem dX5_readEffects_67 : decode cX5_readEffects 67 = .ok (.iconst 0, 1) := by decide +kernel
theorem dX5_readEffects_68 : decode cX5_readEffects 68 = .ok (.ireturn, 1) := by decide +kernel
theorem pyX5_readEffects : PY yX5_readEffects 1 := ⟨by decide +kernel, by decide +kernel, by decide +kernel⟩
def fX5_readEffects_40 (Y : LY) (S : HS) (l0 : Option Nat) (l1 : Option Nat) : Option (HS × Int32) :=
  (rcv Y 5 l0).bind fun _ =>
  (fX5_skip Y S l0 126).bind fun q43 =>
  if q43.2 = 0 then
    some (q43.1, 1)
  else
    (gR Y 4 402 l1 q43.1).bind fun v52 =>
    (rcv Y 5 l0).bind fun _ =>
    (fX5_readClause Y q43.1 l0 l1 v52 2).bind fun q57 =>
    if q57.2 = 0 then
      some (q57.1, 0)
    else
      some (q57.1, 1)
set_option maxRecDepth 100000 in
set_option maxHeartbeats 4000000 in
theorem wX5_readEffects_40 {p : Program} {l : Launch} {e : Env} {R : Room} {s : State} {m : MethodId} {args : Array Value} {below : List Frame} {meth : Method} {c : Code} {G : GG} {Y : LY} {res : HS × Int32} (X : Cx p R s m args meth c RX5 cX5_readEffects 3 10 449 (fun q => q ∈ Y.1) G (some .boolean)) : ∀ (S : HS) (l0 : Option Nat) (l1 : Option Nat), fX5_readEffects_40 Y S l0 l1 = some res → ∀ (H : Heap) (locs : List Loc) (ls : Array Slot), HP (fun q => q ∈ Y.1) G Y s S H locs → LV ls 3 [(0, va_rf l0), (1, va_rf l1)] → W p l e R s m args below meth c H locs 0 0 (MQ below (QI G Y res.1 (some (.int res.2))) args s 0 0 (fun q => q ∈ Y.1)) (F0 m 40 ls []) := by
  have hx := X.1.1
  have hb := X.1.2.1
  intro S l0 l1 hf H locs ls hP hl
  unfold fX5_readEffects_40 at hf
  refine rw_aload_n X dX5_readEffects_40 rfl (hl.at 0 rfl) ?_
  refine lv_bipush (v := 126) hx hb dX5_readEffects_41 (by decide) ?_
  obtain ⟨u43, r43, hf⟩ := ob hf
  obtain ⟨q43, e43, hf⟩ := ob hf
  refine rw_callVi (As := [.int 126]) X dX5_readEffects_43 clX5_78 pyX5_skip (mX5_skip l e43) (by decide) r43 rfl hP rfl (catL c1n (Nat.le_of_ble_eq_true rfl)) hl.1.1 (fun H locs hP => ?_)
  refine lv_if_eq hx hb (tgt := 63) dX5_readEffects_46 (by decide) (fun c46 => ?_) (fun c46 => ?_)
  · have hf := ifp hf c46
    refine lv_iconst (v := 1) hx hb dX5_readEffects_63 (by decide) ?_
    refine lv_goto (tgt := 68) hx hb dX5_readEffects_64 (by decide) ?_
    cases hf
    exact rw_zret X (by first | exact Or.inl rfl | exact Or.inr rfl) dX5_readEffects_68 hP
  · have hf := ifn hf c46
    refine rw_aload_n X dX5_readEffects_49 rfl (hl.at 0 rfl) ?_
    refine rw_aload_n X dX5_readEffects_50 rfl (hl.at 1 rfl) ?_
    refine rw_aload_n X dX5_readEffects_51 rfl (hl.at 1 rfl) ?_
    obtain ⟨v52, e52, hf⟩ := ob hf
    refine rw_getR X dX5_readEffects_52 fl5_93 e52 rfl hP ?_
    refine va_ldcS hx hb X.1.2.2.2.1 X.2.2.1.2.2.2.2.1 dX5_readEffects_55 ?_
    obtain ⟨u57, r57, hf⟩ := ob hf
    obtain ⟨q57, e57, hf⟩ := ob hf
    refine rw_callVi (As := [va_rf l1, va_rf v52, .ref (G.2.2.1 2)]) X dX5_readEffects_57 clX5_69 pyX5_readClause (mX5_readClause l e57 (by first | decide | assumption)) (by decide) r57 rfl hP rfl (catL c1n (Nat.le_of_ble_eq_true rfl)) hl.1.1 (fun H locs hP => ?_)
    refine lv_if_eq hx hb (tgt := 67) dX5_readEffects_60 (by decide) (fun c60 => ?_) (fun c60 => ?_)
    · have hf := ifp hf c60
      refine lv_iconst (v := 0) hx hb dX5_readEffects_67 (by decide) ?_
      cases hf
      exact rw_zret X (by first | exact Or.inl rfl | exact Or.inr rfl) dX5_readEffects_68 hP
    · have hf := ifn hf c60
      refine lv_iconst (v := 1) hx hb dX5_readEffects_63 (by decide) ?_
      refine lv_goto (tgt := 68) hx hb dX5_readEffects_64 (by decide) ?_
      cases hf
      exact rw_zret X (by first | exact Or.inl rfl | exact Or.inr rfl) dX5_readEffects_68 hP
def fX5_readEffects (Y : LY) (S : HS) (l0 : Option Nat) (l1 : Option Nat) : Option (HS × Int32) :=
  (gR Y 5 500 l0 S).bind fun v1 =>
  (gI Y 5 502 l0 S).bind fun v5 =>
  (rcv Y 7 v1).bind fun _ =>
  (fX7_codeAt Y S v1 v5).bind fun v8 =>
  if v8 < 48 then
    fX5_readEffects_40 Y S l0 l1
  else
    if 57 < v8 then
      fX5_readEffects_40 Y S l0 l1
    else
      (gR Y 4 401 l1 S).bind fun v27 =>
      (rcv Y 5 l0).bind fun _ =>
      (fX5_readClause Y S l0 l1 v27 2).bind fun q32 =>
      if q32.2 = 0 then
        some (q32.1, 0)
      else
        fX5_readEffects_40 Y q32.1 l0 l1
set_option maxRecDepth 100000 in
set_option maxHeartbeats 4000000 in
theorem mX5_readEffects (l : Launch) {G : GG} {Y : LY} {S : HS} {l0 : Option Nat} {l1 : Option Nat} {res : HS × Int32} (hf : fX5_readEffects Y S l0 l1 = some res) : MM l yX5_readEffects cX5_readEffects 3 (some .boolean) 10 449 G Y S [va_rf l0, va_rf l1] res.1 (some (.int res.2)) := by
  refine mm_of2 (plainFor_of_name (by decide +kernel)) (Nat.le_of_ble_eq_true rfl) (c1c (cr _) (c1c (cr _) c1n)) ?_
  intro p e R s m args below meth c X H locs ls hP hl
  have X : Cx p R s m args meth c RX5 cX5_readEffects 3 10 449 (fun q => q ∈ Y.1) G (some .boolean) := X
  have hx := X.1.1
  have hb := X.1.2.1
  have hl : LV ls 3 [(0, va_rf l0), (1, va_rf l1)] := hl
  unfold fX5_readEffects at hf
  refine rw_aload_n X dX5_readEffects_0 rfl (hl.at 0 rfl) ?_
  obtain ⟨v1, e1, hf⟩ := ob hf
  refine rw_getR X dX5_readEffects_1 fl5_15 e1 rfl hP ?_
  refine rw_aload_n X dX5_readEffects_4 rfl (hl.at 0 rfl) ?_
  obtain ⟨v5, e5, hf⟩ := ob hf
  refine rw_getI X dX5_readEffects_5 fl5_9 e5 rfl hP ?_
  obtain ⟨u8, r8, hf⟩ := ob hf
  obtain ⟨v8, e8, hf⟩ := ob hf
  refine rw_callVi (As := [.int v5]) X dX5_readEffects_8 clX5_89 pyX7_codeAt (mX7_codeAt l e8) (by decide) r8 rfl hP rfl (catL c1n (Nat.le_of_ble_eq_true rfl)) hl.1.1 (fun H locs hP => ?_)
  refine rv_istore_n X dX5_readEffects_11 rfl hl (by decide) rfl (fun ls hl => ?_)
  have hl : LV ls 3 [(2, .int v8), (0, va_rf l0), (1, va_rf l1)] := hl
  refine lv_iload_n hx hb dX5_readEffects_12 rfl (hl.at 0 rfl) ?_
  refine lv_bipush (v := 48) hx hb dX5_readEffects_13 (by decide) ?_
  refine lv_icmp_lt hx hb (tgt := 40) dX5_readEffects_15 (by decide) (fun c15 => ?_) (fun c15 => ?_)
  · have hf := ifp hf c15
    exact wX5_readEffects_40 X S l0 l1 hf _ _ _ hP (hl.sub [1, 2] rfl)
  · have hf := ifn hf c15
    refine lv_iload_n hx hb dX5_readEffects_18 rfl (hl.at 0 rfl) ?_
    refine lv_bipush (v := 57) hx hb dX5_readEffects_19 (by decide) ?_
    refine lv_icmp_gt hx hb (tgt := 40) dX5_readEffects_21 (by decide) (fun c21 => ?_) (fun c21 => ?_)
    · have hf := ifp hf c21
      exact wX5_readEffects_40 X S l0 l1 hf _ _ _ hP (hl.sub [1, 2] rfl)
    · have hf := ifn hf c21
      refine rw_aload_n X dX5_readEffects_24 rfl (hl.at 1 rfl) ?_
      refine rw_aload_n X dX5_readEffects_25 rfl (hl.at 2 rfl) ?_
      refine rw_aload_n X dX5_readEffects_26 rfl (hl.at 2 rfl) ?_
      obtain ⟨v27, e27, hf⟩ := ob hf
      refine rw_getR X dX5_readEffects_27 fl5_63 e27 rfl hP ?_
      refine va_ldcS hx hb X.1.2.2.2.1 X.2.2.1.2.2.2.2.1 dX5_readEffects_30 ?_
      obtain ⟨u32, r32, hf⟩ := ob hf
      obtain ⟨q32, e32, hf⟩ := ob hf
      refine rw_callVi (As := [va_rf l1, va_rf v27, .ref (G.2.2.1 2)]) X dX5_readEffects_32 clX5_69 pyX5_readClause (mX5_readClause l e32 (by first | decide | assumption)) (by decide) r32 rfl hP rfl (catL c1n (Nat.le_of_ble_eq_true rfl)) hl.1.1 (fun H locs hP => ?_)
      refine lv_if_ne hx hb (tgt := 40) dX5_readEffects_35 (by decide) (fun c35 => ?_) (fun c35 => ?_)
      · have hf := ifn hf c35
        exact wX5_readEffects_40 X q32.1 l0 l1 hf _ _ _ hP (hl.sub [1, 2] rfl)
      · have hf := ifp hf c35
        refine lv_iconst (v := 0) hx hb dX5_readEffects_38 (by decide) ?_
        cases hf
        exact rw_zret X (by first | exact Or.inl rfl | exact Or.inr rfl) dX5_readEffects_39 hP
theorem dX5_readList_0 : decode cX5_readList 0 = .ok (.aload_n 0, 1) := by decide +kernel
theorem dX5_readList_1 : decode cX5_readList 1 = .ok (.bipush 40, 2) := by decide +kernel
theorem dX5_readList_3 : decode cX5_readList 3 = .ok (.invokevirtual 78, 3) := by decide +kernel
theorem dX5_readList_6 : decode cX5_readList 6 = .ok (.ifCond .ne 5, 3) := by decide +kernel
theorem dX5_readList_9 : decode cX5_readList 9 = .ok (.iconst 0, 1) := by decide +kernel
theorem dX5_readList_10 : decode cX5_readList 10 = .ok (.ireturn, 1) := by decide +kernel
theorem dX5_readList_11 : decode cX5_readList 11 = .ok (.iconst 0, 1) := by decide +kernel
theorem dX5_readList_12 : decode cX5_readList 12 = .ok (.istore_n 3, 1) := by decide +kernel
theorem dX5_readList_13 : decode cX5_readList 13 = .ok (.iload_n 3, 1) := by decide +kernel
theorem dX5_readList_14 : decode cX5_readList 14 = .ok (.bipush 24, 2) := by decide +kernel
theorem dX5_readList_16 : decode cX5_readList 16 = .ok (.if_icmp .ge 38, 3) := by decide +kernel
theorem dX5_readList_19 : decode cX5_readList 19 = .ok (.aload_n 0, 1) := by decide +kernel
theorem dX5_readList_20 : decode cX5_readList 20 = .ok (.aload_n 1, 1) := by decide +kernel
theorem dX5_readList_21 : decode cX5_readList 21 = .ok (.iload_n 2, 1) := by decide +kernel
theorem dX5_readList_22 : decode cX5_readList 22 = .ok (.iconst 1, 1) := by decide +kernel
theorem dX5_readList_23 : decode cX5_readList 23 = .ok (.iadd, 1) := by decide +kernel
theorem dX5_readList_24 : decode cX5_readList 24 = .ok (.invokevirtual 28, 3) := by decide +kernel
theorem dX5_readList_27 : decode cX5_readList 27 = .ok (.ifCond .ne 5, 3) := by decide +kernel
theorem dX5_readList_30 : decode cX5_readList 30 = .ok (.iconst 0, 1) := by decide +kernel
theorem dX5_readList_31 : decode cX5_readList 31 = .ok (.ireturn, 1) := by decide +kernel
theorem dX5_readList_32 : decode cX5_readList 32 = .ok (.aload_n 0, 1) := by decide +kernel
theorem dX5_readList_33 : decode cX5_readList 33 = .ok (.bipush 44, 2) := by decide +kernel
theorem dX5_readList_35 : decode cX5_readList 35 = .ok (.invokevirtual 78, 3) := by decide +kernel
theorem dX5_readList_38 : decode cX5_readList 38 = .ok (.ifCond .ne 10, 3) := by decide +kernel
theorem dX5_readList_41 : decode cX5_readList 41 = .ok (.aload_n 0, 1) := by decide +kernel
theorem dX5_readList_42 : decode cX5_readList 42 = .ok (.bipush 41, 2) := by decide +kernel
theorem dX5_readList_44 : decode cX5_readList 44 = .ok (.invokevirtual 78, 3) := by decide +kernel
theorem dX5_readList_47 : decode cX5_readList 47 = .ok (.ireturn, 1) := by decide +kernel
theorem dX5_readList_48 : decode cX5_readList 48 = .ok (.iinc 3 1, 3) := by decide +kernel
theorem dX5_readList_51 : decode cX5_readList 51 = .ok (.goto (-38), 3) := by decide +kernel
theorem dX5_readList_54 : decode cX5_readList 54 = .ok (.iconst 0, 1) := by decide +kernel
theorem dX5_readList_55 : decode cX5_readList 55 = .ok (.ireturn, 1) := by decide +kernel
theorem pyX5_readList : PY yX5_readList 2 := ⟨by decide +kernel, by decide +kernel, by decide +kernel⟩
theorem pyX5_readNode : PY yX5_readNode 2 := ⟨by decide +kernel, by decide +kernel, by decide +kernel⟩
def fX5_readList_13 (kN : HS → Option Nat → Option Nat → Int32 → Option (HS × Int32)) (Y : LY) : Nat → HS → Option Nat → Option Nat → Int32 → Int32 → Option (HS × Int32)
  | 0, _, _, _, _, _ => none
  | n + 1, S, l0, l1, l2, l3 =>
    if 24 ≤ l3 then
      some (S, 0)
    else
      (rcv Y 5 l0).bind fun _ =>
      (kN S l0 l1 (l2 + 1)).bind fun q24 =>
      if q24.2 = 0 then
        some (q24.1, 0)
      else
        (rcv Y 5 l0).bind fun _ =>
        (fX5_skip Y q24.1 l0 44).bind fun q35 =>
        if q35.2 = 0 then
          (rcv Y 5 l0).bind fun _ =>
          (fX5_skip Y q35.1 l0 41).bind fun q44 =>
          (zr q44.2).bind fun z47 =>
          some (q44.1, z47)
        else
          fX5_readList_13 kN Y n q35.1 l0 l1 l2 (l3 + 1)
set_option maxRecDepth 100000 in
set_option maxHeartbeats 4000000 in
theorem wX5_readList_13 {p : Program} {l : Launch} {e : Env} {R : Room} {s : State} {m : MethodId} {args : Array Value} {below : List Frame} {meth : Method} {c : Code} {G : GG} {Y : LY} {res : HS × Int32} {kN : HS → Option Nat → Option Nat → Int32 → Option (HS × Int32)} {rfN rlN : Nat} (X : Cx p R s m args meth c RX5 cX5_readList 4 (rfN + 12) (rlN + 600) (fun q => q ∈ Y.1) G (some .boolean)) (hkN : ∀ (S : HS) (a b : Option Nat) (k : Int32) (res : HS × Int32), kN S a b k = some res → MM l yX5_readNode cX5_readNode 5 (some .boolean) rfN rlN G Y S [va_rf a, va_rf b, .int k] res.1 (some (.int res.2))) : ∀ (n : Nat) (S : HS) (l0 : Option Nat) (l1 : Option Nat) (l2 : Int32) (l3 : Int32), fX5_readList_13 kN Y n S l0 l1 l2 l3 = some res → ∀ (H : Heap) (locs : List Loc) (ls : Array Slot), HP (fun q => q ∈ Y.1) G Y s S H locs → LV ls 4 [(0, va_rf l0), (1, va_rf l1), (2, .int l2), (3, .int l3)] → W p l e R s m args below meth c H locs 0 0 (MQ below (QI G Y res.1 (some (.int res.2))) args s 0 0 (fun q => q ∈ Y.1)) (F0 m 13 ls []) := by
  have hx := X.1.1
  have hb := X.1.2.1
  intro n
  induction n with
  | zero =>
    intro S l0 l1 l2 l3 hf
    cases hf
  | succ n ih =>
    intro S l0 l1 l2 l3 hf H locs ls hP hl
    rw [fX5_readList_13] at hf
    refine lv_iload_n hx hb dX5_readList_13 rfl (hl.at 3 rfl) ?_
    refine lv_bipush (v := 24) hx hb dX5_readList_14 (by decide) ?_
    refine lv_icmp_ge hx hb (tgt := 54) dX5_readList_16 (by decide) (fun c16 => ?_) (fun c16 => ?_)
    · have hf := ifp hf c16
      refine lv_iconst (v := 0) hx hb dX5_readList_54 (by decide) ?_
      cases hf
      exact rw_zret X (by first | exact Or.inl rfl | exact Or.inr rfl) dX5_readList_55 hP
    · have hf := ifn hf c16
      refine rw_aload_n X dX5_readList_19 rfl (hl.at 0 rfl) ?_
      refine rw_aload_n X dX5_readList_20 rfl (hl.at 1 rfl) ?_
      refine lv_iload_n hx hb dX5_readList_21 rfl (hl.at 2 rfl) ?_
      refine lv_iconst (v := 1) hx hb dX5_readList_22 (by decide) ?_
      refine lv_iadd hx hb dX5_readList_23 ?_
      obtain ⟨u24, r24, hf⟩ := ob hf
      obtain ⟨q24, e24, hf⟩ := ob hf
      refine rw_callVi (As := [va_rf l1, .int (l2 + 1)]) X dX5_readList_24 clX5_28 pyX5_readNode (hkN _ _ _ _ _ e24) (by omega) r24 rfl hP rfl (catL c1n (Nat.le_of_ble_eq_true rfl)) hl.1.1 (fun H locs hP => ?_)
      refine lv_if_ne hx hb (tgt := 32) dX5_readList_27 (by decide) (fun c27 => ?_) (fun c27 => ?_)
      · have hf := ifn hf c27
        refine rw_aload_n X dX5_readList_32 rfl (hl.at 0 rfl) ?_
        refine lv_bipush (v := 44) hx hb dX5_readList_33 (by decide) ?_
        obtain ⟨u35, r35, hf⟩ := ob hf
        obtain ⟨q35, e35, hf⟩ := ob hf
        refine rw_callVi (As := [.int 44]) X dX5_readList_35 clX5_78 pyX5_skip (mX5_skip l e35) (by omega) r35 rfl hP rfl (catL c1n (Nat.le_of_ble_eq_true rfl)) hl.1.1 (fun H locs hP => ?_)
        refine lv_if_ne hx hb (tgt := 48) dX5_readList_38 (by decide) (fun c38 => ?_) (fun c38 => ?_)
        · have hf := ifn hf c38
          refine rv_iinc (k := 3) (d := 1) X dX5_readList_48 hl rfl (by decide) (by decide) rfl (fun ls hl => ?_)
          have hl : LV ls 4 [(3, .int (l3 + 1)), (0, va_rf l0), (1, va_rf l1), (2, .int l2)] := hl
          refine lv_goto (tgt := 13) hx hb dX5_readList_51 (by decide) ?_
          exact ih q35.1 l0 l1 l2 (l3 + 1) hf _ _ _ hP (hl.sub [1, 2, 3, 0] rfl)
        · have hf := ifp hf c38
          refine rw_aload_n X dX5_readList_41 rfl (hl.at 0 rfl) ?_
          refine lv_bipush (v := 41) hx hb dX5_readList_42 (by decide) ?_
          obtain ⟨u44, r44, hf⟩ := ob hf
          obtain ⟨q44, e44, hf⟩ := ob hf
          refine rw_callVi (As := [.int 41]) X dX5_readList_44 clX5_78 pyX5_skip (mX5_skip l e44) (by omega) r44 rfl hP rfl (catL c1n (Nat.le_of_ble_eq_true rfl)) hl.1.1 (fun H locs hP => ?_)
          obtain ⟨z47, ez47, hf⟩ := ob hf
          obtain ⟨hz47, rfl⟩ := zr_some ez47
          cases hf
          exact rw_zret X hz47 dX5_readList_47 hP
      · have hf := ifp hf c27
        refine lv_iconst (v := 0) hx hb dX5_readList_30 (by decide) ?_
        cases hf
        exact rw_zret X (by first | exact Or.inl rfl | exact Or.inr rfl) dX5_readList_31 hP
def fX5_readList (kN : HS → Option Nat → Option Nat → Int32 → Option (HS × Int32)) (Y : LY) (S : HS) (l0 : Option Nat) (l1 : Option Nat) (l2 : Int32) : Option (HS × Int32) :=
  (rcv Y 5 l0).bind fun _ =>
  (fX5_skip Y S l0 40).bind fun q3 =>
  if q3.2 = 0 then
    some (q3.1, 0)
  else
    fX5_readList_13 kN Y FU q3.1 l0 l1 l2 0
set_option maxRecDepth 100000 in
set_option maxHeartbeats 4000000 in
theorem mX5_readList (l : Launch) {G : GG} {Y : LY} {S : HS} {l0 : Option Nat} {l1 : Option Nat} {l2 : Int32} {res : HS × Int32} {kN : HS → Option Nat → Option Nat → Int32 → Option (HS × Int32)} {rfN rlN : Nat} (hkN : ∀ (S : HS) (a b : Option Nat) (k : Int32) (res : HS × Int32), kN S a b k = some res → MM l yX5_readNode cX5_readNode 5 (some .boolean) rfN rlN G Y S [va_rf a, va_rf b, .int k] res.1 (some (.int res.2))) (hf : fX5_readList kN Y S l0 l1 l2 = some res) : MM l yX5_readList cX5_readList 4 (some .boolean) (rfN + 12) (rlN + 600) G Y S [va_rf l0, va_rf l1, .int l2] res.1 (some (.int res.2)) := by
  refine mm_of2 (plainFor_of_name (by decide +kernel)) (Nat.le_of_ble_eq_true rfl) (c1c (cr _) (c1c (cr _) (c1c (ci _) c1n))) ?_
  intro p e R s m args below meth c X H locs ls hP hl
  have X : Cx p R s m args meth c RX5 cX5_readList 4 (rfN + 12) (rlN + 600) (fun q => q ∈ Y.1) G (some .boolean) := X
  have hx := X.1.1
  have hb := X.1.2.1
  have hl : LV ls 4 [(0, va_rf l0), (1, va_rf l1), (2, .int l2)] := hl
  unfold fX5_readList at hf
  refine rw_aload_n X dX5_readList_0 rfl (hl.at 0 rfl) ?_
  refine lv_bipush (v := 40) hx hb dX5_readList_1 (by decide) ?_
  obtain ⟨u3, r3, hf⟩ := ob hf
  obtain ⟨q3, e3, hf⟩ := ob hf
  refine rw_callVi (As := [.int 40]) X dX5_readList_3 clX5_78 pyX5_skip (mX5_skip l e3) (by omega) r3 rfl hP rfl (catL c1n (Nat.le_of_ble_eq_true rfl)) hl.1.1 (fun H locs hP => ?_)
  refine lv_if_ne hx hb (tgt := 11) dX5_readList_6 (by decide) (fun c6 => ?_) (fun c6 => ?_)
  · have hf := ifn hf c6
    refine lv_iconst (v := 0) hx hb dX5_readList_11 (by decide) ?_
    refine rv_istore_n X dX5_readList_12 rfl hl (by decide) rfl (fun ls hl => ?_)
    have hl : LV ls 4 [(3, .int 0), (0, va_rf l0), (1, va_rf l1), (2, .int l2)] := hl
    exact wX5_readList_13 X hkN FU q3.1 l0 l1 l2 0 hf _ _ _ hP (hl.sub [1, 2, 3, 0] rfl)
  · have hf := ifp hf c6
    refine lv_iconst (v := 0) hx hb dX5_readList_9 (by decide) ?_
    cases hf
    exact rw_zret X (by first | exact Or.inl rfl | exact Or.inr rfl) dX5_readList_10 hP
theorem dX5_readRest_0 : decode cX5_readRest 0 = .ok (.aload_n 1, 1) := by decide +kernel
theorem dX5_readRest_1 : decode cX5_readRest 1 = .ok (.getfield 50, 3) := by decide +kernel
theorem dX5_readRest_4 : decode cX5_readRest 4 = .ok (.tableswitch 273 0 14 #[76, 76, 101, 113, 125, 125, 125, 125, 132, 273, 158, 158, 186, 217, 245], 76) := by decide +kernel
theorem dX5_readRest_80 : decode cX5_readRest 80 = .ok (.aload_n 0, 1) := by decide +kernel
theorem dX5_readRest_81 : decode cX5_readRest 81 = .ok (.aload_n 1, 1) := by decide +kernel
theorem dX5_readRest_82 : decode cX5_readRest 82 = .ok (.iconst 0, 1) := by decide +kernel
theorem dX5_readRest_83 : decode cX5_readRest 83 = .ok (.bipush 9, 2) := by decide +kernel
theorem dX5_readRest_85 : decode cX5_readRest 85 = .ok (.invokevirtual 55, 3) := by decide +kernel
theorem dX5_readRest_88 : decode cX5_readRest 88 = .ok (.ifCond .eq 15, 3) := by decide +kernel
theorem dX5_readRest_91 : decode cX5_readRest 91 = .ok (.aload_n 0, 1) := by decide +kernel
theorem dX5_readRest_92 : decode cX5_readRest 92 = .ok (.aload_n 1, 1) := by decide +kernel
theorem dX5_readRest_93 : decode cX5_readRest 93 = .ok (.invokevirtual 59, 3) := by decide +kernel
theorem dX5_readRest_96 : decode cX5_readRest 96 = .ok (.ifCond .eq 7, 3) := by decide +kernel
theorem dX5_readRest_99 : decode cX5_readRest 99 = .ok (.iconst 1, 1) := by decide +kernel
theorem dX5_readRest_100 : decode cX5_readRest 100 = .ok (.goto 4, 3) := by decide +kernel
theorem dX5_readRest_103 : decode cX5_readRest 103 = .ok (.iconst 0, 1) := by decide +kernel
theorem dX5_readRest_104 : decode cX5_readRest 104 = .ok (.ireturn, 1) := by decide +kernel
theorem dX5_readRest_105 : decode cX5_readRest 105 = .ok (.aload_n 0, 1) := by decide +kernel
theorem dX5_readRest_106 : decode cX5_readRest 106 = .ok (.aload_n 1, 1) := by decide +kernel
theorem dX5_readRest_107 : decode cX5_readRest 107 = .ok (.aload_n 1, 1) := by decide +kernel
theorem dX5_readRest_108 : decode cX5_readRest 108 = .ok (.getfield 63, 3) := by decide +kernel
theorem dX5_readRest_111 : decode cX5_readRest 111 = .ok (.ldc 67, 2) := by decide +kernel
theorem dX5_readRest_113 : decode cX5_readRest 113 = .ok (.invokevirtual 69, 3) := by decide +kernel
theorem dX5_readRest_116 : decode cX5_readRest 116 = .ok (.ireturn, 1) := by decide +kernel
theorem dX5_readRest_117 : decode cX5_readRest 117 = .ok (.aload_n 0, 1) := by decide +kernel
theorem dX5_readRest_118 : decode cX5_readRest 118 = .ok (.aload_n 1, 1) := by decide +kernel
theorem dX5_readRest_119 : decode cX5_readRest 119 = .ok (.aload_n 1, 1) := by decide +kernel
theorem dX5_readRest_120 : decode cX5_readRest 120 = .ok (.getfield 63, 3) := by decide +kernel
theorem dX5_readRest_123 : decode cX5_readRest 123 = .ok (.ldc 73, 2) := by decide +kernel
theorem dX5_readRest_125 : decode cX5_readRest 125 = .ok (.invokevirtual 69, 3) := by decide +kernel
theorem dX5_readRest_128 : decode cX5_readRest 128 = .ok (.ireturn, 1) := by decide +kernel
theorem dX5_readRest_129 : decode cX5_readRest 129 = .ok (.aload_n 0, 1) := by decide +kernel
theorem dX5_readRest_130 : decode cX5_readRest 130 = .ok (.aload_n 1, 1) := by decide +kernel
theorem dX5_readRest_131 : decode cX5_readRest 131 = .ok (.iload_n 2, 1) := by decide +kernel
theorem dX5_readRest_132 : decode cX5_readRest 132 = .ok (.invokevirtual 75, 3) := by decide +kernel
theorem dX5_readRest_135 : decode cX5_readRest 135 = .ok (.ireturn, 1) := by decide +kernel
theorem dX5_readRest_136 : decode cX5_readRest 136 = .ok (.aload_n 0, 1) := by decide +kernel
theorem dX5_readRest_137 : decode cX5_readRest 137 = .ok (.aload_n 1, 1) := by decide +kernel
theorem dX5_readRest_138 : decode cX5_readRest 138 = .ok (.iconst 0, 1) := by decide +kernel
theorem dX5_readRest_139 : decode cX5_readRest 139 = .ok (.bipush 9, 2) := by decide +kernel
theorem dX5_readRest_141 : decode cX5_readRest 141 = .ok (.invokevirtual 55, 3) := by decide +kernel
theorem dX5_readRest_144 : decode cX5_readRest 144 = .ok (.ifCond .eq 16, 3) := by decide +kernel
theorem dX5_readRest_147 : decode cX5_readRest 147 = .ok (.aload_n 0, 1) := by decide +kernel
theorem dX5_readRest_148 : decode cX5_readRest 148 = .ok (.aload_n 1, 1) := by decide +kernel
theorem dX5_readRest_149 : decode cX5_readRest 149 = .ok (.iload_n 2, 1) := by decide +kernel
theorem dX5_readRest_150 : decode cX5_readRest 150 = .ok (.invokevirtual 75, 3) := by decide +kernel
theorem dX5_readRest_153 : decode cX5_readRest 153 = .ok (.ifCond .eq 7, 3) := by decide +kernel
theorem dX5_readRest_156 : decode cX5_readRest 156 = .ok (.iconst 1, 1) := by decide +kernel
theorem dX5_readRest_157 : decode cX5_readRest 157 = .ok (.goto 4, 3) := by decide +kernel
theorem dX5_readRest_160 : decode cX5_readRest 160 = .ok (.iconst 0, 1) := by decide +kernel
theorem dX5_readRest_161 : decode cX5_readRest 161 = .ok (.ireturn, 1) := by decide +kernel
theorem dX5_readRest_162 : decode cX5_readRest 162 = .ok (.aload_n 0, 1) := by decide +kernel
theorem dX5_readRest_163 : decode cX5_readRest 163 = .ok (.aload_n 1, 1) := by decide +kernel
theorem dX5_readRest_164 : decode cX5_readRest 164 = .ok (.iconst 1, 1) := by decide +kernel
theorem dX5_readRest_165 : decode cX5_readRest 165 = .ok (.bipush 9, 2) := by decide +kernel
theorem dX5_readRest_167 : decode cX5_readRest 167 = .ok (.invokevirtual 55, 3) := by decide +kernel
theorem dX5_readRest_170 : decode cX5_readRest 170 = .ok (.ifCond .eq 18, 3) := by decide +kernel
theorem dX5_readRest_173 : decode cX5_readRest 173 = .ok (.aload_n 0, 1) := by decide +kernel
theorem dX5_readRest_174 : decode cX5_readRest 174 = .ok (.aload_n 1, 1) := by decide +kernel
theorem dX5_readRest_175 : decode cX5_readRest 175 = .ok (.iload_n 2, 1) := by decide +kernel
theorem dX5_readRest_176 : decode cX5_readRest 176 = .ok (.iconst 1, 1) := by decide +kernel
theorem dX5_readRest_177 : decode cX5_readRest 177 = .ok (.iadd, 1) := by decide +kernel
theorem dX5_readRest_178 : decode cX5_readRest 178 = .ok (.invokevirtual 28, 3) := by decide +kernel
theorem dX5_readRest_181 : decode cX5_readRest 181 = .ok (.ifCond .eq 7, 3) := by decide +kernel
theorem dX5_readRest_184 : decode cX5_readRest 184 = .ok (.iconst 1, 1) := by decide +kernel
theorem dX5_readRest_185 : decode cX5_readRest 185 = .ok (.goto 4, 3) := by decide +kernel
theorem dX5_readRest_188 : decode cX5_readRest 188 = .ok (.iconst 0, 1) := by decide +kernel
theorem dX5_readRest_189 : decode cX5_readRest 189 = .ok (.ireturn, 1) := by decide +kernel
theorem dX5_readRest_190 : decode cX5_readRest 190 = .ok (.aload_n 0, 1) := by decide +kernel
theorem dX5_readRest_191 : decode cX5_readRest 191 = .ok (.aload_n 1, 1) := by decide +kernel
theorem dX5_readRest_192 : decode cX5_readRest 192 = .ok (.aload_n 1, 1) := by decide +kernel
theorem dX5_readRest_193 : decode cX5_readRest 193 = .ok (.getfield 63, 3) := by decide +kernel
theorem dX5_readRest_196 : decode cX5_readRest 196 = .ok (.ldc 67, 2) := by decide +kernel
theorem dX5_readRest_198 : decode cX5_readRest 198 = .ok (.invokevirtual 69, 3) := by decide +kernel
theorem dX5_readRest_201 : decode cX5_readRest 201 = .ok (.ifCond .eq 18, 3) := by decide +kernel
theorem dX5_readRest_204 : decode cX5_readRest 204 = .ok (.aload_n 0, 1) := by decide +kernel
theorem dX5_readRest_205 : decode cX5_readRest 205 = .ok (.aload_n 1, 1) := by decide +kernel
theorem dX5_readRest_206 : decode cX5_readRest 206 = .ok (.iload_n 2, 1) := by decide +kernel
theorem dX5_readRest_207 : decode cX5_readRest 207 = .ok (.iconst 1, 1) := by decide +kernel
theorem dX5_readRest_208 : decode cX5_readRest 208 = .ok (.iadd, 1) := by decide +kernel
theorem dX5_readRest_209 : decode cX5_readRest 209 = .ok (.invokevirtual 28, 3) := by decide +kernel
theorem dX5_readRest_212 : decode cX5_readRest 212 = .ok (.ifCond .eq 7, 3) := by decide +kernel
theorem dX5_readRest_215 : decode cX5_readRest 215 = .ok (.iconst 1, 1) := by decide +kernel
theorem dX5_readRest_216 : decode cX5_readRest 216 = .ok (.goto 4, 3) := by decide +kernel
theorem dX5_readRest_219 : decode cX5_readRest 219 = .ok (.iconst 0, 1) := by decide +kernel
theorem dX5_readRest_220 : decode cX5_readRest 220 = .ok (.ireturn, 1) := by decide +kernel
theorem dX5_readRest_221 : decode cX5_readRest 221 = .ok (.aload_n 0, 1) := by decide +kernel
theorem dX5_readRest_222 : decode cX5_readRest 222 = .ok (.aload_n 1, 1) := by decide +kernel
theorem dX5_readRest_223 : decode cX5_readRest 223 = .ok (.iconst 0, 1) := by decide +kernel
theorem dX5_readRest_224 : decode cX5_readRest 224 = .ok (.bipush 9, 2) := by decide +kernel
theorem dX5_readRest_226 : decode cX5_readRest 226 = .ok (.invokevirtual 55, 3) := by decide +kernel
theorem dX5_readRest_229 : decode cX5_readRest 229 = .ok (.ifCond .eq 18, 3) := by decide +kernel
theorem dX5_readRest_232 : decode cX5_readRest 232 = .ok (.aload_n 0, 1) := by decide +kernel
theorem dX5_readRest_233 : decode cX5_readRest 233 = .ok (.aload_n 1, 1) := by decide +kernel
theorem dX5_readRest_234 : decode cX5_readRest 234 = .ok (.iload_n 2, 1) := by decide +kernel
theorem dX5_readRest_235 : decode cX5_readRest 235 = .ok (.iconst 1, 1) := by decide +kernel
theorem dX5_readRest_236 : decode cX5_readRest 236 = .ok (.iadd, 1) := by decide +kernel
theorem dX5_readRest_237 : decode cX5_readRest 237 = .ok (.invokevirtual 28, 3) := by decide +kernel
theorem dX5_readRest_240 : decode cX5_readRest 240 = .ok (.ifCond .eq 7, 3) := by decide +kernel
theorem dX5_readRest_243 : decode cX5_readRest 243 = .ok (.iconst 1, 1) := by decide +kernel
theorem dX5_readRest_244 : decode cX5_readRest 244 = .ok (.goto 4, 3) := by decide +kernel
theorem dX5_readRest_247 : decode cX5_readRest 247 = .ok (.iconst 0, 1) := by decide +kernel
theorem dX5_readRest_248 : decode cX5_readRest 248 = .ok (.ireturn, 1) := by decide +kernel
theorem dX5_readRest_249 : decode cX5_readRest 249 = .ok (.aload_n 0, 1) := by decide +kernel
theorem dX5_readRest_250 : decode cX5_readRest 250 = .ok (.aload_n 1, 1) := by decide +kernel
theorem dX5_readRest_251 : decode cX5_readRest 251 = .ok (.iconst 0, 1) := by decide +kernel
theorem dX5_readRest_252 : decode cX5_readRest 252 = .ok (.bipush 7, 2) := by decide +kernel
theorem dX5_readRest_254 : decode cX5_readRest 254 = .ok (.invokevirtual 55, 3) := by decide +kernel
theorem dX5_readRest_257 : decode cX5_readRest 257 = .ok (.ifCond .eq 18, 3) := by decide +kernel
theorem dX5_readRest_260 : decode cX5_readRest 260 = .ok (.aload_n 0, 1) := by decide +kernel
theorem dX5_readRest_261 : decode cX5_readRest 261 = .ok (.aload_n 1, 1) := by decide +kernel
theorem dX5_readRest_262 : decode cX5_readRest 262 = .ok (.iload_n 2, 1) := by decide +kernel
theorem dX5_readRest_263 : decode cX5_readRest 263 = .ok (.iconst 1, 1) := by decide +kernel
theorem dX5_readRest_264 : decode cX5_readRest 264 = .ok (.iadd, 1) := by decide +kernel
theorem dX5_readRest_265 : decode cX5_readRest 265 = .ok (.invokevirtual 28, 3) := by decide +kernel
theorem dX5_readRest_268 : decode cX5_readRest 268 = .ok (.ifCond .eq 7, 3) := by decide +kernel
theorem dX5_readRest_271 : decode cX5_readRest 271 = .ok (.iconst 1, 1) := by decide +kernel
theorem dX5_readRest_272 : decode cX5_readRest 272 = .ok (.goto 4, 3) := by decide +kernel
theorem dX5_readRest_275 : decode cX5_readRest 275 = .ok (.iconst 0, 1) := by decide +kernel
theorem dX5_readRest_276 : decode cX5_readRest 276 = .ok (.ireturn, 1) := by decide +kernel
theorem dX5_readRest_277 : decode cX5_readRest 277 = .ok (.aload_n 0, 1) := by decide +kernel
theorem dX5_readRest_278 : decode cX5_readRest 278 = .ok (.aload_n 1, 1) := by decide +kernel
theorem dX5_readRest_279 : decode cX5_readRest 279 = .ok (.iload_n 2, 1) := by decide +kernel
theorem dX5_readRest_280 : decode cX5_readRest 280 = .ok (.iconst 1, 1) := by decide +kernel
theorem dX5_readRest_281 : decode cX5_readRest 281 = .ok (.iadd, 1) := by decide +kernel
theorem dX5_readRest_282 : decode cX5_readRest 282 = .ok (.invokevirtual 28, 3) := by decide +kernel
theorem dX5_readRest_285 : decode cX5_readRest 285 = .ok (.ireturn, 1) := by decide +kernel
theorem pyX5_readRest : PY yX5_readRest 2 := ⟨by decide +kernel, by decide +kernel, by decide +kernel⟩
def fX5_readRest_80 (kN : HS → Option Nat → Option Nat → Int32 → Option (HS × Int32)) (Y : LY) (S : HS) (l0 : Option Nat) (l1 : Option Nat) : Option (HS × Int32) :=
  (rcv Y 5 l0).bind fun _ =>
  (fX5_readNumber Y S l0 l1 0 9).bind fun q85 =>
  if q85.2 = 0 then
    some (q85.1, 0)
  else
    (rcv Y 5 l0).bind fun _ =>
    (fX5_readEffects Y q85.1 l0 l1).bind fun q93 =>
    if q93.2 = 0 then
      some (q93.1, 0)
    else
      some (q93.1, 1)
set_option maxRecDepth 100000 in
set_option maxHeartbeats 4000000 in
theorem wX5_readRest_80 {p : Program} {l : Launch} {e : Env} {R : Room} {s : State} {m : MethodId} {args : Array Value} {below : List Frame} {meth : Method} {c : Code} {G : GG} {Y : LY} {res : HS × Int32} {kN : HS → Option Nat → Option Nat → Int32 → Option (HS × Int32)} {rfN rlN : Nat} (X : Cx p R s m args meth c RX5 cX5_readRest 3 (rfN + 24) (rlN + 1200) (fun q => q ∈ Y.1) G (some .boolean)) (hkN : ∀ (S : HS) (a b : Option Nat) (k : Int32) (res : HS × Int32), kN S a b k = some res → MM l yX5_readNode cX5_readNode 5 (some .boolean) rfN rlN G Y S [va_rf a, va_rf b, .int k] res.1 (some (.int res.2))) : ∀ (S : HS) (l0 : Option Nat) (l1 : Option Nat), fX5_readRest_80 kN Y S l0 l1 = some res → ∀ (H : Heap) (locs : List Loc) (ls : Array Slot), HP (fun q => q ∈ Y.1) G Y s S H locs → LV ls 3 [(0, va_rf l0), (1, va_rf l1)] → W p l e R s m args below meth c H locs 0 0 (MQ below (QI G Y res.1 (some (.int res.2))) args s 0 0 (fun q => q ∈ Y.1)) (F0 m 80 ls []) := by
  have hx := X.1.1
  have hb := X.1.2.1
  intro S l0 l1 hf H locs ls hP hl
  unfold fX5_readRest_80 at hf
  refine rw_aload_n X dX5_readRest_80 rfl (hl.at 0 rfl) ?_
  refine rw_aload_n X dX5_readRest_81 rfl (hl.at 1 rfl) ?_
  refine lv_iconst (v := 0) hx hb dX5_readRest_82 (by decide) ?_
  refine lv_bipush (v := 9) hx hb dX5_readRest_83 (by decide) ?_
  obtain ⟨u85, r85, hf⟩ := ob hf
  obtain ⟨q85, e85, hf⟩ := ob hf
  refine rw_callVi (As := [va_rf l1, .int 0, .int 9]) X dX5_readRest_85 clX5_55 pyX5_readNumber (mX5_readNumber l e85) (by omega) r85 rfl hP rfl (catL c1n (Nat.le_of_ble_eq_true rfl)) hl.1.1 (fun H locs hP => ?_)
  refine lv_if_eq hx hb (tgt := 103) dX5_readRest_88 (by decide) (fun c88 => ?_) (fun c88 => ?_)
  · have hf := ifp hf c88
    refine lv_iconst (v := 0) hx hb dX5_readRest_103 (by decide) ?_
    cases hf
    exact rw_zret X (by first | exact Or.inl rfl | exact Or.inr rfl) dX5_readRest_104 hP
  · have hf := ifn hf c88
    refine rw_aload_n X dX5_readRest_91 rfl (hl.at 0 rfl) ?_
    refine rw_aload_n X dX5_readRest_92 rfl (hl.at 1 rfl) ?_
    obtain ⟨u93, r93, hf⟩ := ob hf
    obtain ⟨q93, e93, hf⟩ := ob hf
    refine rw_callVi (As := [va_rf l1]) X dX5_readRest_93 clX5_59 pyX5_readEffects (mX5_readEffects l e93) (by omega) r93 rfl hP rfl (catL c1n (Nat.le_of_ble_eq_true rfl)) hl.1.1 (fun H locs hP => ?_)
    refine lv_if_eq hx hb (tgt := 103) dX5_readRest_96 (by decide) (fun c96 => ?_) (fun c96 => ?_)
    · have hf := ifp hf c96
      refine lv_iconst (v := 0) hx hb dX5_readRest_103 (by decide) ?_
      cases hf
      exact rw_zret X (by first | exact Or.inl rfl | exact Or.inr rfl) dX5_readRest_104 hP
    · have hf := ifn hf c96
      refine lv_iconst (v := 1) hx hb dX5_readRest_99 (by decide) ?_
      refine lv_goto (tgt := 104) hx hb dX5_readRest_100 (by decide) ?_
      cases hf
      exact rw_zret X (by first | exact Or.inl rfl | exact Or.inr rfl) dX5_readRest_104 hP
def fX5_readRest_277 (kN : HS → Option Nat → Option Nat → Int32 → Option (HS × Int32)) (Y : LY) (S : HS) (l0 : Option Nat) (l1 : Option Nat) (l2 : Int32) : Option (HS × Int32) :=
  (rcv Y 5 l0).bind fun _ =>
  (kN S l0 l1 (l2 + 1)).bind fun q282 =>
  (zr q282.2).bind fun z285 =>
  some (q282.1, z285)
set_option maxRecDepth 100000 in
set_option maxHeartbeats 4000000 in
theorem wX5_readRest_277 {p : Program} {l : Launch} {e : Env} {R : Room} {s : State} {m : MethodId} {args : Array Value} {below : List Frame} {meth : Method} {c : Code} {G : GG} {Y : LY} {res : HS × Int32} {kN : HS → Option Nat → Option Nat → Int32 → Option (HS × Int32)} {rfN rlN : Nat} (X : Cx p R s m args meth c RX5 cX5_readRest 3 (rfN + 24) (rlN + 1200) (fun q => q ∈ Y.1) G (some .boolean)) (hkN : ∀ (S : HS) (a b : Option Nat) (k : Int32) (res : HS × Int32), kN S a b k = some res → MM l yX5_readNode cX5_readNode 5 (some .boolean) rfN rlN G Y S [va_rf a, va_rf b, .int k] res.1 (some (.int res.2))) : ∀ (S : HS) (l0 : Option Nat) (l1 : Option Nat) (l2 : Int32), fX5_readRest_277 kN Y S l0 l1 l2 = some res → ∀ (H : Heap) (locs : List Loc) (ls : Array Slot), HP (fun q => q ∈ Y.1) G Y s S H locs → LV ls 3 [(0, va_rf l0), (1, va_rf l1), (2, .int l2)] → W p l e R s m args below meth c H locs 0 0 (MQ below (QI G Y res.1 (some (.int res.2))) args s 0 0 (fun q => q ∈ Y.1)) (F0 m 277 ls []) := by
  have hx := X.1.1
  have hb := X.1.2.1
  intro S l0 l1 l2 hf H locs ls hP hl
  unfold fX5_readRest_277 at hf
  refine rw_aload_n X dX5_readRest_277 rfl (hl.at 0 rfl) ?_
  refine rw_aload_n X dX5_readRest_278 rfl (hl.at 1 rfl) ?_
  refine lv_iload_n hx hb dX5_readRest_279 rfl (hl.at 2 rfl) ?_
  refine lv_iconst (v := 1) hx hb dX5_readRest_280 (by decide) ?_
  refine lv_iadd hx hb dX5_readRest_281 ?_
  obtain ⟨u282, r282, hf⟩ := ob hf
  obtain ⟨q282, e282, hf⟩ := ob hf
  refine rw_callVi (As := [va_rf l1, .int (l2 + 1)]) X dX5_readRest_282 clX5_28 pyX5_readNode (hkN _ _ _ _ _ e282) (by omega) r282 rfl hP rfl (catL c1n (Nat.le_of_ble_eq_true rfl)) hl.1.1 (fun H locs hP => ?_)
  obtain ⟨z285, ez285, hf⟩ := ob hf
  obtain ⟨hz285, rfl⟩ := zr_some ez285
  cases hf
  exact rw_zret X hz285 dX5_readRest_285 hP
def fX5_readRest_162 (kN : HS → Option Nat → Option Nat → Int32 → Option (HS × Int32)) (Y : LY) (S : HS) (l0 : Option Nat) (l1 : Option Nat) (l2 : Int32) : Option (HS × Int32) :=
  (rcv Y 5 l0).bind fun _ =>
  (fX5_readNumber Y S l0 l1 1 9).bind fun q167 =>
  if q167.2 = 0 then
    some (q167.1, 0)
  else
    (rcv Y 5 l0).bind fun _ =>
    (kN q167.1 l0 l1 (l2 + 1)).bind fun q178 =>
    if q178.2 = 0 then
      some (q178.1, 0)
    else
      some (q178.1, 1)
set_option maxRecDepth 100000 in
set_option maxHeartbeats 4000000 in
theorem wX5_readRest_162 {p : Program} {l : Launch} {e : Env} {R : Room} {s : State} {m : MethodId} {args : Array Value} {below : List Frame} {meth : Method} {c : Code} {G : GG} {Y : LY} {res : HS × Int32} {kN : HS → Option Nat → Option Nat → Int32 → Option (HS × Int32)} {rfN rlN : Nat} (X : Cx p R s m args meth c RX5 cX5_readRest 3 (rfN + 24) (rlN + 1200) (fun q => q ∈ Y.1) G (some .boolean)) (hkN : ∀ (S : HS) (a b : Option Nat) (k : Int32) (res : HS × Int32), kN S a b k = some res → MM l yX5_readNode cX5_readNode 5 (some .boolean) rfN rlN G Y S [va_rf a, va_rf b, .int k] res.1 (some (.int res.2))) : ∀ (S : HS) (l0 : Option Nat) (l1 : Option Nat) (l2 : Int32), fX5_readRest_162 kN Y S l0 l1 l2 = some res → ∀ (H : Heap) (locs : List Loc) (ls : Array Slot), HP (fun q => q ∈ Y.1) G Y s S H locs → LV ls 3 [(0, va_rf l0), (1, va_rf l1), (2, .int l2)] → W p l e R s m args below meth c H locs 0 0 (MQ below (QI G Y res.1 (some (.int res.2))) args s 0 0 (fun q => q ∈ Y.1)) (F0 m 162 ls []) := by
  have hx := X.1.1
  have hb := X.1.2.1
  intro S l0 l1 l2 hf H locs ls hP hl
  unfold fX5_readRest_162 at hf
  refine rw_aload_n X dX5_readRest_162 rfl (hl.at 0 rfl) ?_
  refine rw_aload_n X dX5_readRest_163 rfl (hl.at 1 rfl) ?_
  refine lv_iconst (v := 1) hx hb dX5_readRest_164 (by decide) ?_
  refine lv_bipush (v := 9) hx hb dX5_readRest_165 (by decide) ?_
  obtain ⟨u167, r167, hf⟩ := ob hf
  obtain ⟨q167, e167, hf⟩ := ob hf
  refine rw_callVi (As := [va_rf l1, .int 1, .int 9]) X dX5_readRest_167 clX5_55 pyX5_readNumber (mX5_readNumber l e167) (by omega) r167 rfl hP rfl (catL c1n (Nat.le_of_ble_eq_true rfl)) hl.1.1 (fun H locs hP => ?_)
  refine lv_if_eq hx hb (tgt := 188) dX5_readRest_170 (by decide) (fun c170 => ?_) (fun c170 => ?_)
  · have hf := ifp hf c170
    refine lv_iconst (v := 0) hx hb dX5_readRest_188 (by decide) ?_
    cases hf
    exact rw_zret X (by first | exact Or.inl rfl | exact Or.inr rfl) dX5_readRest_189 hP
  · have hf := ifn hf c170
    refine rw_aload_n X dX5_readRest_173 rfl (hl.at 0 rfl) ?_
    refine rw_aload_n X dX5_readRest_174 rfl (hl.at 1 rfl) ?_
    refine lv_iload_n hx hb dX5_readRest_175 rfl (hl.at 2 rfl) ?_
    refine lv_iconst (v := 1) hx hb dX5_readRest_176 (by decide) ?_
    refine lv_iadd hx hb dX5_readRest_177 ?_
    obtain ⟨u178, r178, hf⟩ := ob hf
    obtain ⟨q178, e178, hf⟩ := ob hf
    refine rw_callVi (As := [va_rf l1, .int (l2 + 1)]) X dX5_readRest_178 clX5_28 pyX5_readNode (hkN _ _ _ _ _ e178) (by omega) r178 rfl hP rfl (catL c1n (Nat.le_of_ble_eq_true rfl)) hl.1.1 (fun H locs hP => ?_)
    refine lv_if_eq hx hb (tgt := 188) dX5_readRest_181 (by decide) (fun c181 => ?_) (fun c181 => ?_)
    · have hf := ifp hf c181
      refine lv_iconst (v := 0) hx hb dX5_readRest_188 (by decide) ?_
      cases hf
      exact rw_zret X (by first | exact Or.inl rfl | exact Or.inr rfl) dX5_readRest_189 hP
    · have hf := ifn hf c181
      refine lv_iconst (v := 1) hx hb dX5_readRest_184 (by decide) ?_
      refine lv_goto (tgt := 189) hx hb dX5_readRest_185 (by decide) ?_
      cases hf
      exact rw_zret X (by first | exact Or.inl rfl | exact Or.inr rfl) dX5_readRest_189 hP
def fX5_readRest (kN : HS → Option Nat → Option Nat → Int32 → Option (HS × Int32)) (Y : LY) (S : HS) (l0 : Option Nat) (l1 : Option Nat) (l2 : Int32) : Option (HS × Int32) :=
  (gI Y 4 404 l1 S).bind fun v1 =>
  if v1 = 0 then
    fX5_readRest_80 kN Y S l0 l1
  else
  if v1 = 1 then
    fX5_readRest_80 kN Y S l0 l1
  else
  if v1 = 2 then
    (gR Y 4 401 l1 S).bind fun v108 =>
    (rcv Y 5 l0).bind fun _ =>
    (fX5_readClause Y S l0 l1 v108 1).bind fun q113 =>
    (zr q113.2).bind fun z116 =>
    some (q113.1, z116)
  else
  if v1 = 3 then
    (gR Y 4 401 l1 S).bind fun v120 =>
    (rcv Y 5 l0).bind fun _ =>
    (fX5_readClause Y S l0 l1 v120 2).bind fun q125 =>
    (zr q125.2).bind fun z128 =>
    some (q125.1, z128)
  else
  if v1 = 4 then
    (rcv Y 5 l0).bind fun _ =>
    (fX5_readList kN Y S l0 l1 l2).bind fun q132 =>
    (zr q132.2).bind fun z135 =>
    some (q132.1, z135)
  else
  if v1 = 5 then
    (rcv Y 5 l0).bind fun _ =>
    (fX5_readList kN Y S l0 l1 l2).bind fun q132 =>
    (zr q132.2).bind fun z135 =>
    some (q132.1, z135)
  else
  if v1 = 6 then
    (rcv Y 5 l0).bind fun _ =>
    (fX5_readList kN Y S l0 l1 l2).bind fun q132 =>
    (zr q132.2).bind fun z135 =>
    some (q132.1, z135)
  else
  if v1 = 7 then
    (rcv Y 5 l0).bind fun _ =>
    (fX5_readList kN Y S l0 l1 l2).bind fun q132 =>
    (zr q132.2).bind fun z135 =>
    some (q132.1, z135)
  else
  if v1 = 8 then
    (rcv Y 5 l0).bind fun _ =>
    (fX5_readNumber Y S l0 l1 0 9).bind fun q141 =>
    if q141.2 = 0 then
      some (q141.1, 0)
    else
      (rcv Y 5 l0).bind fun _ =>
      (fX5_readList kN Y q141.1 l0 l1 l2).bind fun q150 =>
      if q150.2 = 0 then
        some (q150.1, 0)
      else
        some (q150.1, 1)
  else
  if v1 = 9 then
    fX5_readRest_277 kN Y S l0 l1 l2
  else
  if v1 = 10 then
    fX5_readRest_162 kN Y S l0 l1 l2
  else
  if v1 = 11 then
    fX5_readRest_162 kN Y S l0 l1 l2
  else
  if v1 = 12 then
    (gR Y 4 401 l1 S).bind fun v193 =>
    (rcv Y 5 l0).bind fun _ =>
    (fX5_readClause Y S l0 l1 v193 1).bind fun q198 =>
    if q198.2 = 0 then
      some (q198.1, 0)
    else
      (rcv Y 5 l0).bind fun _ =>
      (kN q198.1 l0 l1 (l2 + 1)).bind fun q209 =>
      if q209.2 = 0 then
        some (q209.1, 0)
      else
        some (q209.1, 1)
  else
  if v1 = 13 then
    (rcv Y 5 l0).bind fun _ =>
    (fX5_readNumber Y S l0 l1 0 9).bind fun q226 =>
    if q226.2 = 0 then
      some (q226.1, 0)
    else
      (rcv Y 5 l0).bind fun _ =>
      (kN q226.1 l0 l1 (l2 + 1)).bind fun q237 =>
      if q237.2 = 0 then
        some (q237.1, 0)
      else
        some (q237.1, 1)
  else
  if v1 = 14 then
    (rcv Y 5 l0).bind fun _ =>
    (fX5_readNumber Y S l0 l1 0 7).bind fun q254 =>
    if q254.2 = 0 then
      some (q254.1, 0)
    else
      (rcv Y 5 l0).bind fun _ =>
      (kN q254.1 l0 l1 (l2 + 1)).bind fun q265 =>
      if q265.2 = 0 then
        some (q265.1, 0)
      else
        some (q265.1, 1)
  else
  fX5_readRest_277 kN Y S l0 l1 l2
set_option maxRecDepth 100000 in
set_option maxHeartbeats 4000000 in
theorem mX5_readRest (l : Launch) {G : GG} {Y : LY} {S : HS} {l0 : Option Nat} {l1 : Option Nat} {l2 : Int32} {res : HS × Int32} {kN : HS → Option Nat → Option Nat → Int32 → Option (HS × Int32)} {rfN rlN : Nat} (hkN : ∀ (S : HS) (a b : Option Nat) (k : Int32) (res : HS × Int32), kN S a b k = some res → MM l yX5_readNode cX5_readNode 5 (some .boolean) rfN rlN G Y S [va_rf a, va_rf b, .int k] res.1 (some (.int res.2))) (hf : fX5_readRest kN Y S l0 l1 l2 = some res) : MM l yX5_readRest cX5_readRest 3 (some .boolean) (rfN + 24) (rlN + 1200) G Y S [va_rf l0, va_rf l1, .int l2] res.1 (some (.int res.2)) := by
  refine mm_of2 (plainFor_of_name (by decide +kernel)) (Nat.le_of_ble_eq_true rfl) (c1c (cr _) (c1c (cr _) (c1c (ci _) c1n))) ?_
  intro p e R s m args below meth c X H locs ls hP hl
  have X : Cx p R s m args meth c RX5 cX5_readRest 3 (rfN + 24) (rlN + 1200) (fun q => q ∈ Y.1) G (some .boolean) := X
  have hx := X.1.1
  have hb := X.1.2.1
  have hl : LV ls 3 [(0, va_rf l0), (1, va_rf l1), (2, .int l2)] := hl
  unfold fX5_readRest at hf
  refine rw_aload_n X dX5_readRest_0 rfl (hl.at 1 rfl) ?_
  obtain ⟨v1, e1, hf⟩ := ob hf
  refine rw_getI X dX5_readRest_1 fl5_50 e1 rfl hP ?_
  by_cases c4_0 : v1 = 0
  · have hf := ifp hf c4_0
    refine lv_tableIn (tgt := 80) hx hb dX5_readRest_4 (by rw [c4_0]; decide) (by rw [c4_0]; decide) (by rw [c4_0]; rfl) (by decide) ?_
    exact wX5_readRest_80 X hkN S l0 l1 hf _ _ _ hP (hl.sub [0, 1] rfl)
  have hf := ifn hf c4_0
  by_cases c4_1 : v1 = 1
  · have hf := ifp hf c4_1
    refine lv_tableIn (tgt := 80) hx hb dX5_readRest_4 (by rw [c4_1]; decide) (by rw [c4_1]; decide) (by rw [c4_1]; rfl) (by decide) ?_
    exact wX5_readRest_80 X hkN S l0 l1 hf _ _ _ hP (hl.sub [0, 1] rfl)
  have hf := ifn hf c4_1
  by_cases c4_2 : v1 = 2
  · have hf := ifp hf c4_2
    refine lv_tableIn (tgt := 105) hx hb dX5_readRest_4 (by rw [c4_2]; decide) (by rw [c4_2]; decide) (by rw [c4_2]; rfl) (by decide) ?_
    refine rw_aload_n X dX5_readRest_105 rfl (hl.at 0 rfl) ?_
    refine rw_aload_n X dX5_readRest_106 rfl (hl.at 1 rfl) ?_
    refine rw_aload_n X dX5_readRest_107 rfl (hl.at 1 rfl) ?_
    obtain ⟨v108, e108, hf⟩ := ob hf
    refine rw_getR X dX5_readRest_108 fl5_63 e108 rfl hP ?_
    refine va_ldcS hx hb X.1.2.2.2.1 X.2.2.1.2.2.2.1 dX5_readRest_111 ?_
    obtain ⟨u113, r113, hf⟩ := ob hf
    obtain ⟨q113, e113, hf⟩ := ob hf
    refine rw_callVi (As := [va_rf l1, va_rf v108, .ref (G.2.2.1 1)]) X dX5_readRest_113 clX5_69 pyX5_readClause (mX5_readClause l e113 (by first | decide | assumption)) (by omega) r113 rfl hP rfl (catL c1n (Nat.le_of_ble_eq_true rfl)) hl.1.1 (fun H locs hP => ?_)
    obtain ⟨z116, ez116, hf⟩ := ob hf
    obtain ⟨hz116, rfl⟩ := zr_some ez116
    cases hf
    exact rw_zret X hz116 dX5_readRest_116 hP
  have hf := ifn hf c4_2
  by_cases c4_3 : v1 = 3
  · have hf := ifp hf c4_3
    refine lv_tableIn (tgt := 117) hx hb dX5_readRest_4 (by rw [c4_3]; decide) (by rw [c4_3]; decide) (by rw [c4_3]; rfl) (by decide) ?_
    refine rw_aload_n X dX5_readRest_117 rfl (hl.at 0 rfl) ?_
    refine rw_aload_n X dX5_readRest_118 rfl (hl.at 1 rfl) ?_
    refine rw_aload_n X dX5_readRest_119 rfl (hl.at 1 rfl) ?_
    obtain ⟨v120, e120, hf⟩ := ob hf
    refine rw_getR X dX5_readRest_120 fl5_63 e120 rfl hP ?_
    refine va_ldcS hx hb X.1.2.2.2.1 X.2.2.1.2.2.2.2.1 dX5_readRest_123 ?_
    obtain ⟨u125, r125, hf⟩ := ob hf
    obtain ⟨q125, e125, hf⟩ := ob hf
    refine rw_callVi (As := [va_rf l1, va_rf v120, .ref (G.2.2.1 2)]) X dX5_readRest_125 clX5_69 pyX5_readClause (mX5_readClause l e125 (by first | decide | assumption)) (by omega) r125 rfl hP rfl (catL c1n (Nat.le_of_ble_eq_true rfl)) hl.1.1 (fun H locs hP => ?_)
    obtain ⟨z128, ez128, hf⟩ := ob hf
    obtain ⟨hz128, rfl⟩ := zr_some ez128
    cases hf
    exact rw_zret X hz128 dX5_readRest_128 hP
  have hf := ifn hf c4_3
  by_cases c4_4 : v1 = 4
  · have hf := ifp hf c4_4
    refine lv_tableIn (tgt := 129) hx hb dX5_readRest_4 (by rw [c4_4]; decide) (by rw [c4_4]; decide) (by rw [c4_4]; rfl) (by decide) ?_
    refine rw_aload_n X dX5_readRest_129 rfl (hl.at 0 rfl) ?_
    refine rw_aload_n X dX5_readRest_130 rfl (hl.at 1 rfl) ?_
    refine lv_iload_n hx hb dX5_readRest_131 rfl (hl.at 2 rfl) ?_
    obtain ⟨u132, r132, hf⟩ := ob hf
    obtain ⟨q132, e132, hf⟩ := ob hf
    refine rw_callVi (As := [va_rf l1, .int l2]) X dX5_readRest_132 clX5_75 pyX5_readList (mX5_readList l hkN e132) (by omega) r132 rfl hP rfl (catL c1n (Nat.le_of_ble_eq_true rfl)) hl.1.1 (fun H locs hP => ?_)
    obtain ⟨z135, ez135, hf⟩ := ob hf
    obtain ⟨hz135, rfl⟩ := zr_some ez135
    cases hf
    exact rw_zret X hz135 dX5_readRest_135 hP
  have hf := ifn hf c4_4
  by_cases c4_5 : v1 = 5
  · have hf := ifp hf c4_5
    refine lv_tableIn (tgt := 129) hx hb dX5_readRest_4 (by rw [c4_5]; decide) (by rw [c4_5]; decide) (by rw [c4_5]; rfl) (by decide) ?_
    refine rw_aload_n X dX5_readRest_129 rfl (hl.at 0 rfl) ?_
    refine rw_aload_n X dX5_readRest_130 rfl (hl.at 1 rfl) ?_
    refine lv_iload_n hx hb dX5_readRest_131 rfl (hl.at 2 rfl) ?_
    obtain ⟨u132, r132, hf⟩ := ob hf
    obtain ⟨q132, e132, hf⟩ := ob hf
    refine rw_callVi (As := [va_rf l1, .int l2]) X dX5_readRest_132 clX5_75 pyX5_readList (mX5_readList l hkN e132) (by omega) r132 rfl hP rfl (catL c1n (Nat.le_of_ble_eq_true rfl)) hl.1.1 (fun H locs hP => ?_)
    obtain ⟨z135, ez135, hf⟩ := ob hf
    obtain ⟨hz135, rfl⟩ := zr_some ez135
    cases hf
    exact rw_zret X hz135 dX5_readRest_135 hP
  have hf := ifn hf c4_5
  by_cases c4_6 : v1 = 6
  · have hf := ifp hf c4_6
    refine lv_tableIn (tgt := 129) hx hb dX5_readRest_4 (by rw [c4_6]; decide) (by rw [c4_6]; decide) (by rw [c4_6]; rfl) (by decide) ?_
    refine rw_aload_n X dX5_readRest_129 rfl (hl.at 0 rfl) ?_
    refine rw_aload_n X dX5_readRest_130 rfl (hl.at 1 rfl) ?_
    refine lv_iload_n hx hb dX5_readRest_131 rfl (hl.at 2 rfl) ?_
    obtain ⟨u132, r132, hf⟩ := ob hf
    obtain ⟨q132, e132, hf⟩ := ob hf
    refine rw_callVi (As := [va_rf l1, .int l2]) X dX5_readRest_132 clX5_75 pyX5_readList (mX5_readList l hkN e132) (by omega) r132 rfl hP rfl (catL c1n (Nat.le_of_ble_eq_true rfl)) hl.1.1 (fun H locs hP => ?_)
    obtain ⟨z135, ez135, hf⟩ := ob hf
    obtain ⟨hz135, rfl⟩ := zr_some ez135
    cases hf
    exact rw_zret X hz135 dX5_readRest_135 hP
  have hf := ifn hf c4_6
  by_cases c4_7 : v1 = 7
  · have hf := ifp hf c4_7
    refine lv_tableIn (tgt := 129) hx hb dX5_readRest_4 (by rw [c4_7]; decide) (by rw [c4_7]; decide) (by rw [c4_7]; rfl) (by decide) ?_
    refine rw_aload_n X dX5_readRest_129 rfl (hl.at 0 rfl) ?_
    refine rw_aload_n X dX5_readRest_130 rfl (hl.at 1 rfl) ?_
    refine lv_iload_n hx hb dX5_readRest_131 rfl (hl.at 2 rfl) ?_
    obtain ⟨u132, r132, hf⟩ := ob hf
    obtain ⟨q132, e132, hf⟩ := ob hf
    refine rw_callVi (As := [va_rf l1, .int l2]) X dX5_readRest_132 clX5_75 pyX5_readList (mX5_readList l hkN e132) (by omega) r132 rfl hP rfl (catL c1n (Nat.le_of_ble_eq_true rfl)) hl.1.1 (fun H locs hP => ?_)
    obtain ⟨z135, ez135, hf⟩ := ob hf
    obtain ⟨hz135, rfl⟩ := zr_some ez135
    cases hf
    exact rw_zret X hz135 dX5_readRest_135 hP
  have hf := ifn hf c4_7
  by_cases c4_8 : v1 = 8
  · have hf := ifp hf c4_8
    refine lv_tableIn (tgt := 136) hx hb dX5_readRest_4 (by rw [c4_8]; decide) (by rw [c4_8]; decide) (by rw [c4_8]; rfl) (by decide) ?_
    refine rw_aload_n X dX5_readRest_136 rfl (hl.at 0 rfl) ?_
    refine rw_aload_n X dX5_readRest_137 rfl (hl.at 1 rfl) ?_
    refine lv_iconst (v := 0) hx hb dX5_readRest_138 (by decide) ?_
    refine lv_bipush (v := 9) hx hb dX5_readRest_139 (by decide) ?_
    obtain ⟨u141, r141, hf⟩ := ob hf
    obtain ⟨q141, e141, hf⟩ := ob hf
    refine rw_callVi (As := [va_rf l1, .int 0, .int 9]) X dX5_readRest_141 clX5_55 pyX5_readNumber (mX5_readNumber l e141) (by omega) r141 rfl hP rfl (catL c1n (Nat.le_of_ble_eq_true rfl)) hl.1.1 (fun H locs hP => ?_)
    refine lv_if_eq hx hb (tgt := 160) dX5_readRest_144 (by decide) (fun c144 => ?_) (fun c144 => ?_)
    · have hf := ifp hf c144
      refine lv_iconst (v := 0) hx hb dX5_readRest_160 (by decide) ?_
      cases hf
      exact rw_zret X (by first | exact Or.inl rfl | exact Or.inr rfl) dX5_readRest_161 hP
    · have hf := ifn hf c144
      refine rw_aload_n X dX5_readRest_147 rfl (hl.at 0 rfl) ?_
      refine rw_aload_n X dX5_readRest_148 rfl (hl.at 1 rfl) ?_
      refine lv_iload_n hx hb dX5_readRest_149 rfl (hl.at 2 rfl) ?_
      obtain ⟨u150, r150, hf⟩ := ob hf
      obtain ⟨q150, e150, hf⟩ := ob hf
      refine rw_callVi (As := [va_rf l1, .int l2]) X dX5_readRest_150 clX5_75 pyX5_readList (mX5_readList l hkN e150) (by omega) r150 rfl hP rfl (catL c1n (Nat.le_of_ble_eq_true rfl)) hl.1.1 (fun H locs hP => ?_)
      refine lv_if_eq hx hb (tgt := 160) dX5_readRest_153 (by decide) (fun c153 => ?_) (fun c153 => ?_)
      · have hf := ifp hf c153
        refine lv_iconst (v := 0) hx hb dX5_readRest_160 (by decide) ?_
        cases hf
        exact rw_zret X (by first | exact Or.inl rfl | exact Or.inr rfl) dX5_readRest_161 hP
      · have hf := ifn hf c153
        refine lv_iconst (v := 1) hx hb dX5_readRest_156 (by decide) ?_
        refine lv_goto (tgt := 161) hx hb dX5_readRest_157 (by decide) ?_
        cases hf
        exact rw_zret X (by first | exact Or.inl rfl | exact Or.inr rfl) dX5_readRest_161 hP
  have hf := ifn hf c4_8
  by_cases c4_9 : v1 = 9
  · have hf := ifp hf c4_9
    refine lv_tableIn (tgt := 277) hx hb dX5_readRest_4 (by rw [c4_9]; decide) (by rw [c4_9]; decide) (by rw [c4_9]; rfl) (by decide) ?_
    exact wX5_readRest_277 X hkN S l0 l1 l2 hf _ _ _ hP (hl.sub [0, 1, 2] rfl)
  have hf := ifn hf c4_9
  by_cases c4_10 : v1 = 10
  · have hf := ifp hf c4_10
    refine lv_tableIn (tgt := 162) hx hb dX5_readRest_4 (by rw [c4_10]; decide) (by rw [c4_10]; decide) (by rw [c4_10]; rfl) (by decide) ?_
    exact wX5_readRest_162 X hkN S l0 l1 l2 hf _ _ _ hP (hl.sub [0, 1, 2] rfl)
  have hf := ifn hf c4_10
  by_cases c4_11 : v1 = 11
  · have hf := ifp hf c4_11
    refine lv_tableIn (tgt := 162) hx hb dX5_readRest_4 (by rw [c4_11]; decide) (by rw [c4_11]; decide) (by rw [c4_11]; rfl) (by decide) ?_
    exact wX5_readRest_162 X hkN S l0 l1 l2 hf _ _ _ hP (hl.sub [0, 1, 2] rfl)
  have hf := ifn hf c4_11
  by_cases c4_12 : v1 = 12
  · have hf := ifp hf c4_12
    refine lv_tableIn (tgt := 190) hx hb dX5_readRest_4 (by rw [c4_12]; decide) (by rw [c4_12]; decide) (by rw [c4_12]; rfl) (by decide) ?_
    refine rw_aload_n X dX5_readRest_190 rfl (hl.at 0 rfl) ?_
    refine rw_aload_n X dX5_readRest_191 rfl (hl.at 1 rfl) ?_
    refine rw_aload_n X dX5_readRest_192 rfl (hl.at 1 rfl) ?_
    obtain ⟨v193, e193, hf⟩ := ob hf
    refine rw_getR X dX5_readRest_193 fl5_63 e193 rfl hP ?_
    refine va_ldcS hx hb X.1.2.2.2.1 X.2.2.1.2.2.2.1 dX5_readRest_196 ?_
    obtain ⟨u198, r198, hf⟩ := ob hf
    obtain ⟨q198, e198, hf⟩ := ob hf
    refine rw_callVi (As := [va_rf l1, va_rf v193, .ref (G.2.2.1 1)]) X dX5_readRest_198 clX5_69 pyX5_readClause (mX5_readClause l e198 (by first | decide | assumption)) (by omega) r198 rfl hP rfl (catL c1n (Nat.le_of_ble_eq_true rfl)) hl.1.1 (fun H locs hP => ?_)
    refine lv_if_eq hx hb (tgt := 219) dX5_readRest_201 (by decide) (fun c201 => ?_) (fun c201 => ?_)
    · have hf := ifp hf c201
      refine lv_iconst (v := 0) hx hb dX5_readRest_219 (by decide) ?_
      cases hf
      exact rw_zret X (by first | exact Or.inl rfl | exact Or.inr rfl) dX5_readRest_220 hP
    · have hf := ifn hf c201
      refine rw_aload_n X dX5_readRest_204 rfl (hl.at 0 rfl) ?_
      refine rw_aload_n X dX5_readRest_205 rfl (hl.at 1 rfl) ?_
      refine lv_iload_n hx hb dX5_readRest_206 rfl (hl.at 2 rfl) ?_
      refine lv_iconst (v := 1) hx hb dX5_readRest_207 (by decide) ?_
      refine lv_iadd hx hb dX5_readRest_208 ?_
      obtain ⟨u209, r209, hf⟩ := ob hf
      obtain ⟨q209, e209, hf⟩ := ob hf
      refine rw_callVi (As := [va_rf l1, .int (l2 + 1)]) X dX5_readRest_209 clX5_28 pyX5_readNode (hkN _ _ _ _ _ e209) (by omega) r209 rfl hP rfl (catL c1n (Nat.le_of_ble_eq_true rfl)) hl.1.1 (fun H locs hP => ?_)
      refine lv_if_eq hx hb (tgt := 219) dX5_readRest_212 (by decide) (fun c212 => ?_) (fun c212 => ?_)
      · have hf := ifp hf c212
        refine lv_iconst (v := 0) hx hb dX5_readRest_219 (by decide) ?_
        cases hf
        exact rw_zret X (by first | exact Or.inl rfl | exact Or.inr rfl) dX5_readRest_220 hP
      · have hf := ifn hf c212
        refine lv_iconst (v := 1) hx hb dX5_readRest_215 (by decide) ?_
        refine lv_goto (tgt := 220) hx hb dX5_readRest_216 (by decide) ?_
        cases hf
        exact rw_zret X (by first | exact Or.inl rfl | exact Or.inr rfl) dX5_readRest_220 hP
  have hf := ifn hf c4_12
  by_cases c4_13 : v1 = 13
  · have hf := ifp hf c4_13
    refine lv_tableIn (tgt := 221) hx hb dX5_readRest_4 (by rw [c4_13]; decide) (by rw [c4_13]; decide) (by rw [c4_13]; rfl) (by decide) ?_
    refine rw_aload_n X dX5_readRest_221 rfl (hl.at 0 rfl) ?_
    refine rw_aload_n X dX5_readRest_222 rfl (hl.at 1 rfl) ?_
    refine lv_iconst (v := 0) hx hb dX5_readRest_223 (by decide) ?_
    refine lv_bipush (v := 9) hx hb dX5_readRest_224 (by decide) ?_
    obtain ⟨u226, r226, hf⟩ := ob hf
    obtain ⟨q226, e226, hf⟩ := ob hf
    refine rw_callVi (As := [va_rf l1, .int 0, .int 9]) X dX5_readRest_226 clX5_55 pyX5_readNumber (mX5_readNumber l e226) (by omega) r226 rfl hP rfl (catL c1n (Nat.le_of_ble_eq_true rfl)) hl.1.1 (fun H locs hP => ?_)
    refine lv_if_eq hx hb (tgt := 247) dX5_readRest_229 (by decide) (fun c229 => ?_) (fun c229 => ?_)
    · have hf := ifp hf c229
      refine lv_iconst (v := 0) hx hb dX5_readRest_247 (by decide) ?_
      cases hf
      exact rw_zret X (by first | exact Or.inl rfl | exact Or.inr rfl) dX5_readRest_248 hP
    · have hf := ifn hf c229
      refine rw_aload_n X dX5_readRest_232 rfl (hl.at 0 rfl) ?_
      refine rw_aload_n X dX5_readRest_233 rfl (hl.at 1 rfl) ?_
      refine lv_iload_n hx hb dX5_readRest_234 rfl (hl.at 2 rfl) ?_
      refine lv_iconst (v := 1) hx hb dX5_readRest_235 (by decide) ?_
      refine lv_iadd hx hb dX5_readRest_236 ?_
      obtain ⟨u237, r237, hf⟩ := ob hf
      obtain ⟨q237, e237, hf⟩ := ob hf
      refine rw_callVi (As := [va_rf l1, .int (l2 + 1)]) X dX5_readRest_237 clX5_28 pyX5_readNode (hkN _ _ _ _ _ e237) (by omega) r237 rfl hP rfl (catL c1n (Nat.le_of_ble_eq_true rfl)) hl.1.1 (fun H locs hP => ?_)
      refine lv_if_eq hx hb (tgt := 247) dX5_readRest_240 (by decide) (fun c240 => ?_) (fun c240 => ?_)
      · have hf := ifp hf c240
        refine lv_iconst (v := 0) hx hb dX5_readRest_247 (by decide) ?_
        cases hf
        exact rw_zret X (by first | exact Or.inl rfl | exact Or.inr rfl) dX5_readRest_248 hP
      · have hf := ifn hf c240
        refine lv_iconst (v := 1) hx hb dX5_readRest_243 (by decide) ?_
        refine lv_goto (tgt := 248) hx hb dX5_readRest_244 (by decide) ?_
        cases hf
        exact rw_zret X (by first | exact Or.inl rfl | exact Or.inr rfl) dX5_readRest_248 hP
  have hf := ifn hf c4_13
  by_cases c4_14 : v1 = 14
  · have hf := ifp hf c4_14
    refine lv_tableIn (tgt := 249) hx hb dX5_readRest_4 (by rw [c4_14]; decide) (by rw [c4_14]; decide) (by rw [c4_14]; rfl) (by decide) ?_
    refine rw_aload_n X dX5_readRest_249 rfl (hl.at 0 rfl) ?_
    refine rw_aload_n X dX5_readRest_250 rfl (hl.at 1 rfl) ?_
    refine lv_iconst (v := 0) hx hb dX5_readRest_251 (by decide) ?_
    refine lv_bipush (v := 7) hx hb dX5_readRest_252 (by decide) ?_
    obtain ⟨u254, r254, hf⟩ := ob hf
    obtain ⟨q254, e254, hf⟩ := ob hf
    refine rw_callVi (As := [va_rf l1, .int 0, .int 7]) X dX5_readRest_254 clX5_55 pyX5_readNumber (mX5_readNumber l e254) (by omega) r254 rfl hP rfl (catL c1n (Nat.le_of_ble_eq_true rfl)) hl.1.1 (fun H locs hP => ?_)
    refine lv_if_eq hx hb (tgt := 275) dX5_readRest_257 (by decide) (fun c257 => ?_) (fun c257 => ?_)
    · have hf := ifp hf c257
      refine lv_iconst (v := 0) hx hb dX5_readRest_275 (by decide) ?_
      cases hf
      exact rw_zret X (by first | exact Or.inl rfl | exact Or.inr rfl) dX5_readRest_276 hP
    · have hf := ifn hf c257
      refine rw_aload_n X dX5_readRest_260 rfl (hl.at 0 rfl) ?_
      refine rw_aload_n X dX5_readRest_261 rfl (hl.at 1 rfl) ?_
      refine lv_iload_n hx hb dX5_readRest_262 rfl (hl.at 2 rfl) ?_
      refine lv_iconst (v := 1) hx hb dX5_readRest_263 (by decide) ?_
      refine lv_iadd hx hb dX5_readRest_264 ?_
      obtain ⟨u265, r265, hf⟩ := ob hf
      obtain ⟨q265, e265, hf⟩ := ob hf
      refine rw_callVi (As := [va_rf l1, .int (l2 + 1)]) X dX5_readRest_265 clX5_28 pyX5_readNode (hkN _ _ _ _ _ e265) (by omega) r265 rfl hP rfl (catL c1n (Nat.le_of_ble_eq_true rfl)) hl.1.1 (fun H locs hP => ?_)
      refine lv_if_eq hx hb (tgt := 275) dX5_readRest_268 (by decide) (fun c268 => ?_) (fun c268 => ?_)
      · have hf := ifp hf c268
        refine lv_iconst (v := 0) hx hb dX5_readRest_275 (by decide) ?_
        cases hf
        exact rw_zret X (by first | exact Or.inl rfl | exact Or.inr rfl) dX5_readRest_276 hP
      · have hf := ifn hf c268
        refine lv_iconst (v := 1) hx hb dX5_readRest_271 (by decide) ?_
        refine lv_goto (tgt := 276) hx hb dX5_readRest_272 (by decide) ?_
        cases hf
        exact rw_zret X (by first | exact Or.inl rfl | exact Or.inr rfl) dX5_readRest_276 hP
  have hf := ifn hf c4_14
  have t4_0 := tsw (k := 0) (v := 0) (by decide) c4_0
  have t4_1 := tsw (k := 1) (v := 1) (by decide) c4_1
  have t4_2 := tsw (k := 2) (v := 2) (by decide) c4_2
  have t4_3 := tsw (k := 3) (v := 3) (by decide) c4_3
  have t4_4 := tsw (k := 4) (v := 4) (by decide) c4_4
  have t4_5 := tsw (k := 5) (v := 5) (by decide) c4_5
  have t4_6 := tsw (k := 6) (v := 6) (by decide) c4_6
  have t4_7 := tsw (k := 7) (v := 7) (by decide) c4_7
  have t4_8 := tsw (k := 8) (v := 8) (by decide) c4_8
  have t4_9 := tsw (k := 9) (v := 9) (by decide) c4_9
  have t4_10 := tsw (k := 10) (v := 10) (by decide) c4_10
  have t4_11 := tsw (k := 11) (v := 11) (by decide) c4_11
  have t4_12 := tsw (k := 12) (v := 12) (by decide) c4_12
  have t4_13 := tsw (k := 13) (v := 13) (by decide) c4_13
  have t4_14 := tsw (k := 14) (v := 14) (by decide) c4_14
  refine lv_tableOut (tgt := 277) hx hb dX5_readRest_4 (by omega) (by decide) ?_
  exact wX5_readRest_277 X hkN S l0 l1 l2 hf _ _ _ hP (hl.sub [0, 1, 2] rfl)
theorem dX5_readNode_0 : decode cX5_readNode 0 = .ok (.aload_n 0, 1) := by decide +kernel
theorem dX5_readNode_1 : decode cX5_readNode 1 = .ok (.ldc 37, 2) := by decide +kernel
theorem dX5_readNode_3 : decode cX5_readNode 3 = .ok (.invokevirtual 39, 3) := by decide +kernel
theorem dX5_readNode_6 : decode cX5_readNode 6 = .ok (.istore_n 3, 1) := by decide +kernel
theorem dX5_readNode_7 : decode cX5_readNode 7 = .ok (.iload_n 3, 1) := by decide +kernel
theorem dX5_readNode_8 : decode cX5_readNode 8 = .ok (.ifCond .lt 9, 3) := by decide +kernel
theorem dX5_readNode_11 : decode cX5_readNode 11 = .ok (.iload_n 2, 1) := by decide +kernel
theorem dX5_readNode_12 : decode cX5_readNode 12 = .ok (.bipush 10, 2) := by decide +kernel
theorem dX5_readNode_14 : decode cX5_readNode 14 = .ok (.if_icmp .le 5, 3) := by decide +kernel
theorem dX5_readNode_17 : decode cX5_readNode 17 = .ok (.iconst 0, 1) := by decide +kernel
theorem dX5_readNode_18 : decode cX5_readNode 18 = .ok (.ireturn, 1) := by decide +kernel
theorem dX5_readNode_19 : decode cX5_readNode 19 = .ok (.aload_n 0, 1) := by decide +kernel
theorem dX5_readNode_20 : decode cX5_readNode 20 = .ok (.getfield 19, 3) := by decide +kernel
theorem dX5_readNode_23 : decode cX5_readNode 23 = .ok (.iload_n 3, 1) := by decide +kernel
theorem dX5_readNode_24 : decode cX5_readNode 24 = .ok (.aload_n 1, 1) := by decide +kernel
theorem dX5_readNode_25 : decode cX5_readNode 25 = .ok (.invokevirtual 43, 3) := by decide +kernel
theorem dX5_readNode_28 : decode cX5_readNode 28 = .ok (.astore 4, 2) := by decide +kernel
theorem dX5_readNode_30 : decode cX5_readNode 30 = .ok (.aload 4, 2) := by decide +kernel
theorem dX5_readNode_32 : decode cX5_readNode 32 = .ok (.ifnonnull 5, 3) := by decide +kernel
theorem dX5_readNode_35 : decode cX5_readNode 35 = .ok (.iconst 0, 1) := by decide +kernel
theorem dX5_readNode_36 : decode cX5_readNode 36 = .ok (.ireturn, 1) := by decide +kernel
theorem dX5_readNode_37 : decode cX5_readNode 37 = .ok (.aload_n 0, 1) := by decide +kernel
theorem dX5_readNode_38 : decode cX5_readNode 38 = .ok (.dup, 1) := by decide +kernel
theorem dX5_readNode_39 : decode cX5_readNode 39 = .ok (.getfield 9, 3) := by decide +kernel
theorem dX5_readNode_42 : decode cX5_readNode 42 = .ok (.iconst 1, 1) := by decide +kernel
theorem dX5_readNode_43 : decode cX5_readNode 43 = .ok (.iadd, 1) := by decide +kernel
theorem dX5_readNode_44 : decode cX5_readNode 44 = .ok (.putfield 9, 3) := by decide +kernel
theorem dX5_readNode_47 : decode cX5_readNode 47 = .ok (.aload_n 0, 1) := by decide +kernel
theorem dX5_readNode_48 : decode cX5_readNode 48 = .ok (.aload 4, 2) := by decide +kernel
theorem dX5_readNode_50 : decode cX5_readNode 50 = .ok (.iload_n 2, 1) := by decide +kernel
theorem dX5_readNode_51 : decode cX5_readNode 51 = .ok (.invokevirtual 47, 3) := by decide +kernel
theorem dX5_readNode_54 : decode cX5_readNode 54 = .ok (.ireturn, 1) := by decide +kernel
def fX5_readNode (Y : LY) : Nat → HS → Option Nat → Option Nat → Int32 → Option (HS × Int32)
  | 0, _, _, _, _ => none
  | d + 1, S, l0, l1, l2 =>
    (rcv Y 5 l0).bind fun _ =>
    (fX5_placeIn Y S l0 0).bind fun v3 =>
    if v3 < 0 then
      some (S, 0)
    else
      if l2 ≤ 10 then
        (gR Y 5 501 l0 S).bind fun v20 =>
        (rcv Y 8 v20).bind fun _ =>
        (fX8_grow Y S v20 v3 l1).bind fun q25 =>
        if q25.2 = none then
          some (q25.1, 0)
        else
          (gI Y 5 502 l0 q25.1).bind fun v39 =>
          (pI Y 5 502 l0 (v39 + 1) q25.1).bind fun S44 =>
          (rcv Y 5 l0).bind fun _ =>
          (fX5_readRest (fX5_readNode Y d) Y S44 l0 q25.2 l2).bind fun q51 =>
          (zr q51.2).bind fun z54 =>
          some (q51.1, z54)
      else
        some (S, 0)
set_option maxRecDepth 100000 in
set_option maxHeartbeats 4000000 in
theorem mX5_readNode (l : Launch) {G : GG} {Y : LY} : ∀ (d : Nat) (S : HS) (l0 : Option Nat) (l1 : Option Nat) (l2 : Int32) (res : HS × Int32), fX5_readNode Y d S l0 l1 l2 = some res → MM l yX5_readNode cX5_readNode 5 (some .boolean) (36 * d) (2000 * d) G Y S [va_rf l0, va_rf l1, .int l2] res.1 (some (.int res.2)) := by
  intro d
  induction d with
  | zero =>
    intro S l0 l1 l2 res hf
    cases hf
  | succ d ih =>
  intro S l0 l1 l2 res hf
  refine mm_of2 (plainFor_of_name (by decide +kernel)) (Nat.le_of_ble_eq_true rfl) (c1c (cr _) (c1c (cr _) (c1c (ci _) c1n))) ?_
  intro p e R s m args below meth c X H locs ls hP hl
  have X : Cx p R s m args meth c RX5 cX5_readNode 5 (36 * (d + 1)) (2000 * (d + 1)) (fun q => q ∈ Y.1) G (some .boolean) := X
  have hx := X.1.1
  have hb := X.1.2.1
  have hl : LV ls 5 [(0, va_rf l0), (1, va_rf l1), (2, .int l2)] := hl
  rw [fX5_readNode] at hf
  refine rw_aload_n X dX5_readNode_0 rfl (hl.at 0 rfl) ?_
  refine va_ldcS hx hb X.1.2.2.2.1 X.2.2.1.2.2.1 dX5_readNode_1 ?_
  obtain ⟨u3, r3, hf⟩ := ob hf
  obtain ⟨v3, e3, hf⟩ := ob hf
  refine rw_callVi (As := [.ref (G.2.2.1 0)]) X dX5_readNode_3 clX5_39 pyX5_placeIn (mX5_placeIn l e3 (by first | decide | assumption)) (by omega) r3 rfl hP rfl (catL c1n (Nat.le_of_ble_eq_true rfl)) hl.1.1 (fun H locs hP => ?_)
  refine rv_istore_n X dX5_readNode_6 rfl hl (by decide) rfl (fun ls hl => ?_)
  have hl : LV ls 5 [(3, .int v3), (0, va_rf l0), (1, va_rf l1), (2, .int l2)] := hl
  refine lv_iload_n hx hb dX5_readNode_7 rfl (hl.at 0 rfl) ?_
  refine lv_if_lt hx hb (tgt := 17) dX5_readNode_8 (by decide) (fun c8 => ?_) (fun c8 => ?_)
  · have hf := ifp hf c8
    refine lv_iconst (v := 0) hx hb dX5_readNode_17 (by decide) ?_
    cases hf
    exact rw_zret X (by first | exact Or.inl rfl | exact Or.inr rfl) dX5_readNode_18 hP
  · have hf := ifn hf c8
    refine lv_iload_n hx hb dX5_readNode_11 rfl (hl.at 3 rfl) ?_
    refine lv_bipush (v := 10) hx hb dX5_readNode_12 (by decide) ?_
    refine lv_icmp_le hx hb (tgt := 19) dX5_readNode_14 (by decide) (fun c14 => ?_) (fun c14 => ?_)
    · have hf := ifp hf c14
      refine rw_aload_n X dX5_readNode_19 rfl (hl.at 1 rfl) ?_
      obtain ⟨v20, e20, hf⟩ := ob hf
      refine rw_getR X dX5_readNode_20 fl5_19 e20 rfl hP ?_
      refine lv_iload_n hx hb dX5_readNode_23 rfl (hl.at 0 rfl) ?_
      refine rw_aload_n X dX5_readNode_24 rfl (hl.at 2 rfl) ?_
      obtain ⟨u25, r25, hf⟩ := ob hf
      obtain ⟨q25, e25, hf⟩ := ob hf
      refine rw_callVr (As := [.int v3, va_rf l1]) X dX5_readNode_25 clX5_43 pyX8_grow (mX8_grow l e25) (by omega) r25 rfl hP rfl (catL c1n (Nat.le_of_ble_eq_true rfl)) hl.1.1 (fun H locs hP => ?_)
      refine rv_astore X dX5_readNode_28 hl (by decide) rfl (fun ls hl => ?_)
      have hl : LV ls 5 [(4, va_rf q25.2), (3, .int v3), (0, va_rf l0), (1, va_rf l1), (2, .int l2)] := hl
      refine rw_aload X dX5_readNode_30 (hl.at 0 rfl) ?_
      refine rw_ifnonnull X (tgt := 37) dX5_readNode_32 (by decide) (fun c32 => ?_) (fun c32 => ?_)
      · have hf := ifn hf c32
        refine rw_aload_n X dX5_readNode_37 rfl (hl.at 2 rfl) ?_
        refine lv_dup hx hb dX5_readNode_38 (cr _) ?_
        obtain ⟨v39, e39, hf⟩ := ob hf
        refine rw_getI X dX5_readNode_39 fl5_9 e39 rfl hP ?_
        refine lv_iconst (v := 1) hx hb dX5_readNode_42 (by decide) ?_
        refine lv_iadd hx hb dX5_readNode_43 ?_
        obtain ⟨S44, e44, hf⟩ := ob hf
        refine rw_putI X dX5_readNode_44 fl5_9 fw5_2 e44 rfl hP (fun H locs hP => ?_)
        refine rw_aload_n X dX5_readNode_47 rfl (hl.at 2 rfl) ?_
        refine rw_aload X dX5_readNode_48 (hl.at 0 rfl) ?_
        refine lv_iload_n hx hb dX5_readNode_50 rfl (hl.at 4 rfl) ?_
        obtain ⟨u51, r51, hf⟩ := ob hf
        obtain ⟨q51, e51, hf⟩ := ob hf
        refine rw_callVi (As := [va_rf q25.2, .int l2]) X dX5_readNode_51 clX5_47 pyX5_readRest (mX5_readRest l ih e51) (by omega) r51 rfl hP rfl (catL c1n (Nat.le_of_ble_eq_true rfl)) hl.1.1 (fun H locs hP => ?_)
        obtain ⟨z54, ez54, hf⟩ := ob hf
        obtain ⟨hz54, rfl⟩ := zr_some ez54
        cases hf
        exact rw_zret X hz54 dX5_readNode_54 hP
      · have hf := ifp hf c32
        refine lv_iconst (v := 0) hx hb dX5_readNode_35 (by decide) ?_
        cases hf
        exact rw_zret X (by first | exact Or.inl rfl | exact Or.inr rfl) dX5_readNode_36 hP
    · have hf := ifn hf c14
      refine lv_iconst (v := 0) hx hb dX5_readNode_17 (by decide) ?_
      cases hf
      exact rw_zret X (by first | exact Or.inl rfl | exact Or.inr rfl) dX5_readNode_18 hP
theorem dX5_parse_0 : decode cX5_parse 0 = .ok (.aload_n 0, 1) := by decide +kernel
theorem dX5_parse_1 : decode cX5_parse 1 = .ok (.getfield 19, 3) := by decide +kernel
theorem dX5_parse_4 : decode cX5_parse 4 = .ok (.iconst 0, 1) := by decide +kernel
theorem dX5_parse_5 : decode cX5_parse 5 = .ok (.putfield 23, 3) := by decide +kernel
theorem dX5_parse_8 : decode cX5_parse 8 = .ok (.aload_n 0, 1) := by decide +kernel
theorem dX5_parse_9 : decode cX5_parse 9 = .ok (.aconst_null, 1) := by decide +kernel
theorem dX5_parse_10 : decode cX5_parse 10 = .ok (.iconst 1, 1) := by decide +kernel
theorem dX5_parse_11 : decode cX5_parse 11 = .ok (.invokevirtual 28, 3) := by decide +kernel
theorem dX5_parse_14 : decode cX5_parse 14 = .ok (.ifCond .eq 21, 3) := by decide +kernel
theorem dX5_parse_17 : decode cX5_parse 17 = .ok (.aload_n 0, 1) := by decide +kernel
theorem dX5_parse_18 : decode cX5_parse 18 = .ok (.getfield 9, 3) := by decide +kernel
theorem dX5_parse_21 : decode cX5_parse 21 = .ok (.aload_n 0, 1) := by decide +kernel
theorem dX5_parse_22 : decode cX5_parse 22 = .ok (.getfield 15, 3) := by decide +kernel
theorem dX5_parse_25 : decode cX5_parse 25 = .ok (.getfield 32, 3) := by decide +kernel
theorem dX5_parse_28 : decode cX5_parse 28 = .ok (.if_icmp .ne 7, 3) := by decide +kernel
theorem dX5_parse_31 : decode cX5_parse 31 = .ok (.iconst 1, 1) := by decide +kernel
theorem dX5_parse_32 : decode cX5_parse 32 = .ok (.goto 4, 3) := by decide +kernel
theorem dX5_parse_35 : decode cX5_parse 35 = .ok (.iconst 0, 1) := by decide +kernel
theorem dX5_parse_36 : decode cX5_parse 36 = .ok (.istore_n 1, 1) := by decide +kernel
theorem dX5_parse_37 : decode cX5_parse 37 = .ok (.iload_n 1, 1) := by decide +kernel
theorem dX5_parse_38 : decode cX5_parse 38 = .ok (.ifCond .eq 13, 3) := by decide +kernel
theorem dX5_parse_41 : decode cX5_parse 41 = .ok (.aload_n 0, 1) := by decide +kernel
theorem dX5_parse_42 : decode cX5_parse 42 = .ok (.getfield 19, 3) := by decide +kernel
theorem dX5_parse_45 : decode cX5_parse 45 = .ok (.getfield 23, 3) := by decide +kernel
theorem dX5_parse_48 : decode cX5_parse 48 = .ok (.goto 11, 3) := by decide +kernel
theorem dX5_parse_51 : decode cX5_parse 51 = .ok (.sipush (-2000), 3) := by decide +kernel
theorem dX5_parse_54 : decode cX5_parse 54 = .ok (.aload_n 0, 1) := by decide +kernel
theorem dX5_parse_55 : decode cX5_parse 55 = .ok (.getfield 9, 3) := by decide +kernel
theorem dX5_parse_58 : decode cX5_parse 58 = .ok (.isub, 1) := by decide +kernel
theorem dX5_parse_59 : decode cX5_parse 59 = .ok (.ireturn, 1) := by decide +kernel
theorem pyX5_parse : PY yX5_parse 0 := ⟨by decide +kernel, by decide +kernel, by decide +kernel⟩
def fX5_parse_36 (Y : LY) (S : HS) (l0 : Option Nat) (s0 : Int32) : Option (HS × Int32) :=
  if s0 = 0 then
    (gI Y 5 502 l0 S).bind fun v55 =>
    some (S, ((-2000) - v55))
  else
    (gR Y 5 501 l0 S).bind fun v42 =>
    (gI Y 8 801 v42 S).bind fun v45 =>
    some (S, v45)
set_option maxRecDepth 100000 in
set_option maxHeartbeats 4000000 in
theorem wX5_parse_36 {p : Program} {l : Launch} {e : Env} {R : Room} {s : State} {m : MethodId} {args : Array Value} {below : List Frame} {meth : Method} {c : Code} {G : GG} {Y : LY} {res : HS × Int32} (X : Cx p R s m args meth c RX5 cX5_parse 2 433 24024 (fun q => q ∈ Y.1) G (some .int)) : ∀ (S : HS) (l0 : Option Nat) (s0 : Int32), fX5_parse_36 Y S l0 s0 = some res → ∀ (H : Heap) (locs : List Loc) (ls : Array Slot), HP (fun q => q ∈ Y.1) G Y s S H locs → LV ls 2 [(0, va_rf l0)] → W p l e R s m args below meth c H locs 0 0 (MQ below (QI G Y res.1 (some (.int res.2))) args s 0 0 (fun q => q ∈ Y.1)) (F0 m 36 ls (.int s0 :: [])) := by
  have hx := X.1.1
  have hb := X.1.2.1
  intro S l0 s0 hf H locs ls hP hl
  unfold fX5_parse_36 at hf
  refine rv_istore_n X dX5_parse_36 rfl hl (by decide) rfl (fun ls hl => ?_)
  have hl : LV ls 2 [(1, .int s0), (0, va_rf l0)] := hl
  refine lv_iload_n hx hb dX5_parse_37 rfl (hl.at 0 rfl) ?_
  refine lv_if_eq hx hb (tgt := 51) dX5_parse_38 (by decide) (fun c38 => ?_) (fun c38 => ?_)
  · have hf := ifp hf c38
    refine lv_sipush (v := (-2000)) hx hb dX5_parse_51 (by decide) ?_
    refine rw_aload_n X dX5_parse_54 rfl (hl.at 1 rfl) ?_
    obtain ⟨v55, e55, hf⟩ := ob hf
    refine rw_getI X dX5_parse_55 fl5_9 e55 rfl hP ?_
    refine lv_isub hx hb dX5_parse_58 ?_
    cases hf
    exact rw_iret X dX5_parse_59 hP
  · have hf := ifn hf c38
    refine rw_aload_n X dX5_parse_41 rfl (hl.at 1 rfl) ?_
    obtain ⟨v42, e42, hf⟩ := ob hf
    refine rw_getR X dX5_parse_42 fl5_19 e42 rfl hP ?_
    obtain ⟨v45, e45, hf⟩ := ob hf
    refine rw_getI X dX5_parse_45 fl5_23 e45 rfl hP ?_
    refine lv_goto (tgt := 59) hx hb dX5_parse_48 (by decide) ?_
    cases hf
    exact rw_iret X dX5_parse_59 hP
def fX5_parse (Y : LY) (S : HS) (l0 : Option Nat) : Option (HS × Int32) :=
  (gR Y 5 501 l0 S).bind fun v1 =>
  (pI Y 8 801 v1 0 S).bind fun S5 =>
  (rcv Y 5 l0).bind fun _ =>
  (fX5_readNode Y 12 S5 l0 none 1).bind fun q11 =>
  if q11.2 = 0 then
    fX5_parse_36 Y q11.1 l0 0
  else
    (gI Y 5 502 l0 q11.1).bind fun v18 =>
    (gR Y 5 500 l0 q11.1).bind fun v22 =>
    (gI Y 7 701 v22 q11.1).bind fun v25 =>
    if v18 = v25 then
      fX5_parse_36 Y q11.1 l0 1
    else
      fX5_parse_36 Y q11.1 l0 0
set_option maxRecDepth 100000 in
set_option maxHeartbeats 4000000 in
theorem mX5_parse (l : Launch) {G : GG} {Y : LY} {S : HS} {l0 : Option Nat} {res : HS × Int32} (hf : fX5_parse Y S l0 = some res) : MM l yX5_parse cX5_parse 2 (some .int) 433 24024 G Y S [va_rf l0] res.1 (some (.int res.2)) := by
  refine mm_of2 (plainFor_of_name (by decide +kernel)) (Nat.le_of_ble_eq_true rfl) (c1c (cr _) c1n) ?_
  intro p e R s m args below meth c X H locs ls hP hl
  have X : Cx p R s m args meth c RX5 cX5_parse 2 433 24024 (fun q => q ∈ Y.1) G (some .int) := X
  have hx := X.1.1
  have hb := X.1.2.1
  have hl : LV ls 2 [(0, va_rf l0)] := hl
  unfold fX5_parse at hf
  refine rw_aload_n X dX5_parse_0 rfl (hl.at 0 rfl) ?_
  obtain ⟨v1, e1, hf⟩ := ob hf
  refine rw_getR X dX5_parse_1 fl5_19 e1 rfl hP ?_
  refine lv_iconst (v := 0) hx hb dX5_parse_4 (by decide) ?_
  obtain ⟨S5, e5, hf⟩ := ob hf
  refine rw_putI X dX5_parse_5 fl5_23 fw8_1 e5 rfl hP (fun H locs hP => ?_)
  refine rw_aload_n X dX5_parse_8 rfl (hl.at 0 rfl) ?_
  refine lv_null hx hb dX5_parse_9 ?_
  refine W.eq (g2 := F0 m 10 ls (va_rf none :: (va_rf l0 :: []))) rfl ?_
  refine lv_iconst (v := 1) hx hb dX5_parse_10 (by decide) ?_
  obtain ⟨u11, r11, hf⟩ := ob hf
  obtain ⟨q11, e11, hf⟩ := ob hf
  refine rw_callVi (As := [va_rf none, .int 1]) X dX5_parse_11 clX5_28 pyX5_readNode (mX5_readNode l 12 _ _ _ _ _ e11) (by decide) r11 rfl hP rfl (catL c1n (Nat.le_of_ble_eq_true rfl)) hl.1.1 (fun H locs hP => ?_)
  refine lv_if_eq hx hb (tgt := 35) dX5_parse_14 (by decide) (fun c14 => ?_) (fun c14 => ?_)
  · have hf := ifp hf c14
    refine lv_iconst (v := 0) hx hb dX5_parse_35 (by decide) ?_
    exact wX5_parse_36 X q11.1 l0 0 hf _ _ _ hP (hl.sub [0] rfl)
  · have hf := ifn hf c14
    refine rw_aload_n X dX5_parse_17 rfl (hl.at 0 rfl) ?_
    obtain ⟨v18, e18, hf⟩ := ob hf
    refine rw_getI X dX5_parse_18 fl5_9 e18 rfl hP ?_
    refine rw_aload_n X dX5_parse_21 rfl (hl.at 0 rfl) ?_
    obtain ⟨v22, e22, hf⟩ := ob hf
    refine rw_getR X dX5_parse_22 fl5_15 e22 rfl hP ?_
    obtain ⟨v25, e25, hf⟩ := ob hf
    refine rw_getI X dX5_parse_25 fl5_32 e25 rfl hP ?_
    refine lv_icmp_ne hx hb (tgt := 35) dX5_parse_28 (by decide) (fun c28 => ?_) (fun c28 => ?_)
    · have hf := ifn hf c28
      refine lv_iconst (v := 0) hx hb dX5_parse_35 (by decide) ?_
      exact wX5_parse_36 X q11.1 l0 0 hf _ _ _ hP (hl.sub [0] rfl)
    · have hf := ifp hf c28
      refine lv_iconst (v := 1) hx hb dX5_parse_31 (by decide) ?_
      refine lv_goto (tgt := 36) hx hb dX5_parse_32 (by decide) ?_
      exact wX5_parse_36 X q11.1 l0 1 hf _ _ _ hP (hl.sub [0] rfl)
