/-! printed by wip/whole/gen/gen_parts.py: 16.writer -/
theorem dX10_hasNumber_0 : decode cX10_hasNumber 0 = .ok (.aload_n 1, 1) := by decide +kernel
theorem dX10_hasNumber_1 : decode cX10_hasNumber 1 = .ok (.getfield 37, 3) := by decide +kernel
theorem dX10_hasNumber_4 : decode cX10_hasNumber 4 = .ok (.tableswitch 78 0 14 #[76, 76, 78, 78, 78, 78, 78, 78, 76, 78, 76, 76, 78, 76, 76], 76) := by decide +kernel
theorem dX10_hasNumber_80 : decode cX10_hasNumber 80 = .ok (.iconst 1, 1) := by decide +kernel
theorem dX10_hasNumber_81 : decode cX10_hasNumber 81 = .ok (.ireturn, 1) := by decide +kernel
theorem dX10_hasNumber_82 : decode cX10_hasNumber 82 = .ok (.iconst 0, 1) := by decide +kernel
theorem dX10_hasNumber_83 : decode cX10_hasNumber 83 = .ok (.ireturn, 1) := by decide +kernel
theorem pyX10_hasNumber : PY yX10_hasNumber 1 := ⟨by decide +kernel, by decide +kernel, by decide +kernel⟩
def fX10_hasNumber (Y : LY) (S : HS) (l0 : Option Nat) (l1 : Option Nat) : Option (Int32) :=
  (gI Y 4 404 l1 S).bind fun v1 =>
  if v1 = 0 then
    some 1
  else
  if v1 = 1 then
    some 1
  else
  if v1 = 2 then
    some 0
  else
  if v1 = 3 then
    some 0
  else
  if v1 = 4 then
    some 0
  else
  if v1 = 5 then
    some 0
  else
  if v1 = 6 then
    some 0
  else
  if v1 = 7 then
    some 0
  else
  if v1 = 8 then
    some 1
  else
  if v1 = 9 then
    some 0
  else
  if v1 = 10 then
    some 1
  else
  if v1 = 11 then
    some 1
  else
  if v1 = 12 then
    some 0
  else
  if v1 = 13 then
    some 1
  else
  if v1 = 14 then
    some 1
  else
  some 0
set_option maxRecDepth 100000 in
set_option maxHeartbeats 4000000 in
theorem mX10_hasNumber (l : Launch) {G : GG} {Y : LY} {S : HS} {l0 : Option Nat} {l1 : Option Nat} {res : Int32} (hf : fX10_hasNumber Y S l0 l1 = some res) : MM l yX10_hasNumber cX10_hasNumber 2 (some .boolean) 0 0 G Y S [va_rf l0, va_rf l1] S (some (.int res)) := by
  refine mm_of2 (plainFor_of_name (by decide +kernel)) (Nat.le_of_ble_eq_true rfl) (c1c (cr _) (c1c (cr _) c1n)) ?_
  intro p e R s m args below meth c X H locs ls hP hl
  have X : Cx p R s m args meth c RX10 cX10_hasNumber 2 0 0 (fun q => q ∈ Y.1) G (some .boolean) := X
  have hx := X.1.1
  have hb := X.1.2.1
  have hl : LV ls 2 [(0, va_rf l0), (1, va_rf l1)] := hl
  unfold fX10_hasNumber at hf
  refine rw_aload_n X dX10_hasNumber_0 rfl (hl.at 1 rfl) ?_
  obtain ⟨v1, e1, hf⟩ := ob hf
  refine rw_getI X dX10_hasNumber_1 fl10_37 e1 rfl hP ?_
  by_cases c4_0 : v1 = 0
  · have hf := ifp hf c4_0
    refine lv_tableIn (tgt := 80) hx hb dX10_hasNumber_4 (by rw [c4_0]; decide) (by rw [c4_0]; decide) (by rw [c4_0]; rfl) (by decide) ?_
    refine lv_iconst (v := 1) hx hb dX10_hasNumber_80 (by decide) ?_
    cases hf
    exact rw_zret X (by decide) dX10_hasNumber_81 hP
  have hf := ifn hf c4_0
  by_cases c4_1 : v1 = 1
  · have hf := ifp hf c4_1
    refine lv_tableIn (tgt := 80) hx hb dX10_hasNumber_4 (by rw [c4_1]; decide) (by rw [c4_1]; decide) (by rw [c4_1]; rfl) (by decide) ?_
    refine lv_iconst (v := 1) hx hb dX10_hasNumber_80 (by decide) ?_
    cases hf
    exact rw_zret X (by decide) dX10_hasNumber_81 hP
  have hf := ifn hf c4_1
  by_cases c4_2 : v1 = 2
  · have hf := ifp hf c4_2
    refine lv_tableIn (tgt := 82) hx hb dX10_hasNumber_4 (by rw [c4_2]; decide) (by rw [c4_2]; decide) (by rw [c4_2]; rfl) (by decide) ?_
    refine lv_iconst (v := 0) hx hb dX10_hasNumber_82 (by decide) ?_
    cases hf
    exact rw_zret X (by decide) dX10_hasNumber_83 hP
  have hf := ifn hf c4_2
  by_cases c4_3 : v1 = 3
  · have hf := ifp hf c4_3
    refine lv_tableIn (tgt := 82) hx hb dX10_hasNumber_4 (by rw [c4_3]; decide) (by rw [c4_3]; decide) (by rw [c4_3]; rfl) (by decide) ?_
    refine lv_iconst (v := 0) hx hb dX10_hasNumber_82 (by decide) ?_
    cases hf
    exact rw_zret X (by decide) dX10_hasNumber_83 hP
  have hf := ifn hf c4_3
  by_cases c4_4 : v1 = 4
  · have hf := ifp hf c4_4
    refine lv_tableIn (tgt := 82) hx hb dX10_hasNumber_4 (by rw [c4_4]; decide) (by rw [c4_4]; decide) (by rw [c4_4]; rfl) (by decide) ?_
    refine lv_iconst (v := 0) hx hb dX10_hasNumber_82 (by decide) ?_
    cases hf
    exact rw_zret X (by decide) dX10_hasNumber_83 hP
  have hf := ifn hf c4_4
  by_cases c4_5 : v1 = 5
  · have hf := ifp hf c4_5
    refine lv_tableIn (tgt := 82) hx hb dX10_hasNumber_4 (by rw [c4_5]; decide) (by rw [c4_5]; decide) (by rw [c4_5]; rfl) (by decide) ?_
    refine lv_iconst (v := 0) hx hb dX10_hasNumber_82 (by decide) ?_
    cases hf
    exact rw_zret X (by decide) dX10_hasNumber_83 hP
  have hf := ifn hf c4_5
  by_cases c4_6 : v1 = 6
  · have hf := ifp hf c4_6
    refine lv_tableIn (tgt := 82) hx hb dX10_hasNumber_4 (by rw [c4_6]; decide) (by rw [c4_6]; decide) (by rw [c4_6]; rfl) (by decide) ?_
    refine lv_iconst (v := 0) hx hb dX10_hasNumber_82 (by decide) ?_
    cases hf
    exact rw_zret X (by decide) dX10_hasNumber_83 hP
  have hf := ifn hf c4_6
  by_cases c4_7 : v1 = 7
  · have hf := ifp hf c4_7
    refine lv_tableIn (tgt := 82) hx hb dX10_hasNumber_4 (by rw [c4_7]; decide) (by rw [c4_7]; decide) (by rw [c4_7]; rfl) (by decide) ?_
    refine lv_iconst (v := 0) hx hb dX10_hasNumber_82 (by decide) ?_
    cases hf
    exact rw_zret X (by decide) dX10_hasNumber_83 hP
  have hf := ifn hf c4_7
  by_cases c4_8 : v1 = 8
  · have hf := ifp hf c4_8
    refine lv_tableIn (tgt := 80) hx hb dX10_hasNumber_4 (by rw [c4_8]; decide) (by rw [c4_8]; decide) (by rw [c4_8]; rfl) (by decide) ?_
    refine lv_iconst (v := 1) hx hb dX10_hasNumber_80 (by decide) ?_
    cases hf
    exact rw_zret X (by decide) dX10_hasNumber_81 hP
  have hf := ifn hf c4_8
  by_cases c4_9 : v1 = 9
  · have hf := ifp hf c4_9
    refine lv_tableIn (tgt := 82) hx hb dX10_hasNumber_4 (by rw [c4_9]; decide) (by rw [c4_9]; decide) (by rw [c4_9]; rfl) (by decide) ?_
    refine lv_iconst (v := 0) hx hb dX10_hasNumber_82 (by decide) ?_
    cases hf
    exact rw_zret X (by decide) dX10_hasNumber_83 hP
  have hf := ifn hf c4_9
  by_cases c4_10 : v1 = 10
  · have hf := ifp hf c4_10
    refine lv_tableIn (tgt := 80) hx hb dX10_hasNumber_4 (by rw [c4_10]; decide) (by rw [c4_10]; decide) (by rw [c4_10]; rfl) (by decide) ?_
    refine lv_iconst (v := 1) hx hb dX10_hasNumber_80 (by decide) ?_
    cases hf
    exact rw_zret X (by decide) dX10_hasNumber_81 hP
  have hf := ifn hf c4_10
  by_cases c4_11 : v1 = 11
  · have hf := ifp hf c4_11
    refine lv_tableIn (tgt := 80) hx hb dX10_hasNumber_4 (by rw [c4_11]; decide) (by rw [c4_11]; decide) (by rw [c4_11]; rfl) (by decide) ?_
    refine lv_iconst (v := 1) hx hb dX10_hasNumber_80 (by decide) ?_
    cases hf
    exact rw_zret X (by decide) dX10_hasNumber_81 hP
  have hf := ifn hf c4_11
  by_cases c4_12 : v1 = 12
  · have hf := ifp hf c4_12
    refine lv_tableIn (tgt := 82) hx hb dX10_hasNumber_4 (by rw [c4_12]; decide) (by rw [c4_12]; decide) (by rw [c4_12]; rfl) (by decide) ?_
    refine lv_iconst (v := 0) hx hb dX10_hasNumber_82 (by decide) ?_
    cases hf
    exact rw_zret X (by decide) dX10_hasNumber_83 hP
  have hf := ifn hf c4_12
  by_cases c4_13 : v1 = 13
  · have hf := ifp hf c4_13
    refine lv_tableIn (tgt := 80) hx hb dX10_hasNumber_4 (by rw [c4_13]; decide) (by rw [c4_13]; decide) (by rw [c4_13]; rfl) (by decide) ?_
    refine lv_iconst (v := 1) hx hb dX10_hasNumber_80 (by decide) ?_
    cases hf
    exact rw_zret X (by decide) dX10_hasNumber_81 hP
  have hf := ifn hf c4_13
  by_cases c4_14 : v1 = 14
  · have hf := ifp hf c4_14
    refine lv_tableIn (tgt := 80) hx hb dX10_hasNumber_4 (by rw [c4_14]; decide) (by rw [c4_14]; decide) (by rw [c4_14]; rfl) (by decide) ?_
    refine lv_iconst (v := 1) hx hb dX10_hasNumber_80 (by decide) ?_
    cases hf
    exact rw_zret X (by decide) dX10_hasNumber_81 hP
  have hf := ifn hf c4_14
  have t4_0 := tsw (k := 0) (v := 0) (by decide) c4_0
  have t4_1 := tsw (k := 1) (v := 1) (by decide) c4_1
  have t4_2 := tsw (k := 2) (v := 2) (by decide) c4_2
  have t4_3 := tsw (k := 3) (v := 3) (by decide) c4_3
  have t4_4 := tsw (k := 4) (v := 4) (by decide) c4_4
  have t4_5 := tsw (k := 5) (v := 5) (by decide) c4_5
  have t4_6 := tsw (k := 6) (v := 6) (by decide) c4_6
  have t4_7 := tsw (k := 7) (v := 7) (by decide) c4_7
  have t4_8 := tsw (k := 8) (v := 8) (by decide) c4_8
  have t4_9 := tsw (k := 9) (v := 9) (by decide) c4_9
  have t4_10 := tsw (k := 10) (v := 10) (by decide) c4_10
  have t4_11 := tsw (k := 11) (v := 11) (by decide) c4_11
  have t4_12 := tsw (k := 12) (v := 12) (by decide) c4_12
  have t4_13 := tsw (k := 13) (v := 13) (by decide) c4_13
  have t4_14 := tsw (k := 14) (v := 14) (by decide) c4_14
  refine lv_tableOut (tgt := 82) hx hb dX10_hasNumber_4 (by omega) (by decide) ?_
  refine lv_iconst (v := 0) hx hb dX10_hasNumber_82 (by decide) ?_
  cases hf
  exact rw_zret X (by decide) dX10_hasNumber_83 hP
theorem dX10_writeNumber_0 : decode cX10_writeNumber 0 = .ok (.iload_n 1, 1) := by decide +kernel
theorem dX10_writeNumber_1 : decode cX10_writeNumber 1 = .ok (.bipush 10, 2) := by decide +kernel
theorem dX10_writeNumber_3 : decode cX10_writeNumber 3 = .ok (.if_icmp .lt 18, 3) := by decide +kernel
theorem dX10_writeNumber_6 : decode cX10_writeNumber 6 = .ok (.aload_n 0, 1) := by decide +kernel
theorem dX10_writeNumber_7 : decode cX10_writeNumber 7 = .ok (.getfield 15, 3) := by decide +kernel
theorem dX10_writeNumber_10 : decode cX10_writeNumber 10 = .ok (.bipush 48, 2) := by decide +kernel
theorem dX10_writeNumber_12 : decode cX10_writeNumber 12 = .ok (.iload_n 1, 1) := by decide +kernel
theorem dX10_writeNumber_13 : decode cX10_writeNumber 13 = .ok (.bipush 10, 2) := by decide +kernel
theorem dX10_writeNumber_15 : decode cX10_writeNumber 15 = .ok (.idiv, 1) := by decide +kernel
theorem dX10_writeNumber_16 : decode cX10_writeNumber 16 = .ok (.iadd, 1) := by decide +kernel
theorem dX10_writeNumber_17 : decode cX10_writeNumber 17 = .ok (.i2c, 1) := by decide +kernel
theorem dX10_writeNumber_18 : decode cX10_writeNumber 18 = .ok (.invokevirtual 55, 3) := by decide +kernel
theorem dX10_writeNumber_21 : decode cX10_writeNumber 21 = .ok (.aload_n 0, 1) := by decide +kernel
theorem dX10_writeNumber_22 : decode cX10_writeNumber 22 = .ok (.getfield 15, 3) := by decide +kernel
theorem dX10_writeNumber_25 : decode cX10_writeNumber 25 = .ok (.bipush 48, 2) := by decide +kernel
theorem dX10_writeNumber_27 : decode cX10_writeNumber 27 = .ok (.iload_n 1, 1) := by decide +kernel
theorem dX10_writeNumber_28 : decode cX10_writeNumber 28 = .ok (.bipush 10, 2) := by decide +kernel
theorem dX10_writeNumber_30 : decode cX10_writeNumber 30 = .ok (.irem, 1) := by decide +kernel
theorem dX10_writeNumber_31 : decode cX10_writeNumber 31 = .ok (.iadd, 1) := by decide +kernel
theorem dX10_writeNumber_32 : decode cX10_writeNumber 32 = .ok (.i2c, 1) := by decide +kernel
theorem dX10_writeNumber_33 : decode cX10_writeNumber 33 = .ok (.invokevirtual 55, 3) := by decide +kernel
theorem dX10_writeNumber_36 : decode cX10_writeNumber 36 = .ok (.return_, 1) := by decide +kernel
theorem pyX10_writeNumber : PY yX10_writeNumber 1 := ⟨by decide +kernel, by decide +kernel, by decide +kernel⟩
def fX10_writeNumber_21 (Y : LY) (S : HS) (l0 : Option Nat) (l1 : Int32) : Option (HS) :=
  (gR Y 10 1001 l0 S).bind fun v22 =>
  (rcv Y 7 v22).bind fun _ =>
  (fX7_add Y S v22 (((48 + (l1 - l1 / 10 * 10)).toUInt32 % 65536).toInt32)).bind fun S33 =>
  some S33
set_option maxRecDepth 100000 in
set_option maxHeartbeats 4000000 in
theorem wX10_writeNumber_21 {p : Program} {l : Launch} {e : Env} {R : Room} {s : State} {m : MethodId} {args : Array Value} {below : List Frame} {meth : Method} {c : Code} {G : GG} {Y : LY} {res : HS} (X : Cx p R s m args meth c RX10 cX10_writeNumber 2 1 21 (fun q => q ∈ Y.1) G none) : ∀ (S : HS) (l0 : Option Nat) (l1 : Int32), fX10_writeNumber_21 Y S l0 l1 = some res → ∀ (H : Heap) (locs : List Loc) (ls : Array Slot), HP (fun q => q ∈ Y.1) G Y s S H locs → LV ls 2 [(0, va_rf l0), (1, .int l1)] → W p l e R s m args below meth c H locs 0 0 (MQ below (QI G Y res none) args s 0 0 (fun q => q ∈ Y.1)) (F0 m 21 ls []) := by
  have hx := X.1.1
  have hb := X.1.2.1
  intro S l0 l1 hf H locs ls hP hl
  unfold fX10_writeNumber_21 at hf
  refine rw_aload_n X dX10_writeNumber_21 rfl (hl.at 0 rfl) ?_
  obtain ⟨v22, e22, hf⟩ := ob hf
  refine rw_getR X dX10_writeNumber_22 fl10_15 e22 rfl hP ?_
  refine lv_bipush (v := 48) hx hb dX10_writeNumber_25 (by decide) ?_
  refine lv_iload_n hx hb dX10_writeNumber_27 rfl (hl.at 1 rfl) ?_
  refine lv_bipush (v := 10) hx hb dX10_writeNumber_28 (by decide) ?_
  refine lv_irem hx hb dX10_writeNumber_30 (by decide) ?_
  refine lv_iadd hx hb dX10_writeNumber_31 ?_
  refine lv_i2c hx hb dX10_writeNumber_32 rfl ?_
  obtain ⟨u33, r33, hf⟩ := ob hf
  obtain ⟨S33, e33, hf⟩ := ob hf
  refine rw_callVv (As := [.int (((48 + (l1 - l1 / 10 * 10)).toUInt32 % 65536).toInt32)]) X dX10_writeNumber_33 clX10_55 pyX7_add (mX7_add l e33) (by decide) r33 rfl hP rfl (catL c1n (Nat.le_of_ble_eq_true rfl)) hl.1.1 (fun H locs hP => ?_)
  cases hf
  exact rw_vret X dX10_writeNumber_36 hP
def fX10_writeNumber (Y : LY) (S : HS) (l0 : Option Nat) (l1 : Int32) : Option (HS) :=
  if l1 < 10 then
    fX10_writeNumber_21 Y S l0 l1
  else
    (gR Y 10 1001 l0 S).bind fun v7 =>
    (rcv Y 7 v7).bind fun _ =>
    (fX7_add Y S v7 (((48 + (l1 / 10)).toUInt32 % 65536).toInt32)).bind fun S18 =>
    fX10_writeNumber_21 Y S18 l0 l1
set_option maxRecDepth 100000 in
set_option maxHeartbeats 4000000 in
theorem mX10_writeNumber (l : Launch) {G : GG} {Y : LY} {S : HS} {l0 : Option Nat} {l1 : Int32} {res : HS} (hf : fX10_writeNumber Y S l0 l1 = some res) : MM l yX10_writeNumber cX10_writeNumber 2 none 1 21 G Y S [va_rf l0, .int l1] res none := by
  refine mm_of2 (plainFor_of_name (by decide +kernel)) (Nat.le_of_ble_eq_true rfl) (c1c (cr _) (c1c (ci _) c1n)) ?_
  intro p e R s m args below meth c X H locs ls hP hl
  have X : Cx p R s m args meth c RX10 cX10_writeNumber 2 1 21 (fun q => q ∈ Y.1) G none := X
  have hx := X.1.1
  have hb := X.1.2.1
  have hl : LV ls 2 [(0, va_rf l0), (1, .int l1)] := hl
  unfold fX10_writeNumber at hf
  refine lv_iload_n hx hb dX10_writeNumber_0 rfl (hl.at 1 rfl) ?_
  refine lv_bipush (v := 10) hx hb dX10_writeNumber_1 (by decide) ?_
  refine lv_icmp_lt hx hb (tgt := 21) dX10_writeNumber_3 (by decide) (fun c3 => ?_) (fun c3 => ?_)
  · have hf := ifp hf c3
    exact wX10_writeNumber_21 X S l0 l1 hf _ _ _ hP (hl.sub [0, 1] rfl)
  · have hf := ifn hf c3
    refine rw_aload_n X dX10_writeNumber_6 rfl (hl.at 0 rfl) ?_
    obtain ⟨v7, e7, hf⟩ := ob hf
    refine rw_getR X dX10_writeNumber_7 fl10_15 e7 rfl hP ?_
    refine lv_bipush (v := 48) hx hb dX10_writeNumber_10 (by decide) ?_
    refine lv_iload_n hx hb dX10_writeNumber_12 rfl (hl.at 1 rfl) ?_
    refine lv_bipush (v := 10) hx hb dX10_writeNumber_13 (by decide) ?_
    refine lv_idiv hx hb dX10_writeNumber_15 (by decide) ?_
    refine lv_iadd hx hb dX10_writeNumber_16 ?_
    refine lv_i2c hx hb dX10_writeNumber_17 rfl ?_
    obtain ⟨u18, r18, hf⟩ := ob hf
    obtain ⟨S18, e18, hf⟩ := ob hf
    refine rw_callVv (As := [.int (((48 + (l1 / 10)).toUInt32 % 65536).toInt32)]) X dX10_writeNumber_18 clX10_55 pyX7_add (mX7_add l e18) (by decide) r18 rfl hP rfl (catL c1n (Nat.le_of_ble_eq_true rfl)) hl.1.1 (fun H locs hP => ?_)
    exact wX10_writeNumber_21 X S18 l0 l1 hf _ _ _ hP (hl.sub [0, 1] rfl)
theorem dX10_writeClause_0 : decode cX10_writeClause 0 = .ok (.aload_n 0, 1) := by decide +kernel
theorem dX10_writeClause_1 : decode cX10_writeClause 1 = .ok (.aload_n 1, 1) := by decide +kernel
theorem dX10_writeClause_2 : decode cX10_writeClause 2 = .ok (.getfield 101, 3) := by decide +kernel
theorem dX10_writeClause_5 : decode cX10_writeClause 5 = .ok (.invokevirtual 66, 3) := by decide +kernel
theorem dX10_writeClause_8 : decode cX10_writeClause 8 = .ok (.aload_n 0, 1) := by decide +kernel
theorem dX10_writeClause_9 : decode cX10_writeClause 9 = .ok (.getfield 15, 3) := by decide +kernel
theorem dX10_writeClause_12 : decode cX10_writeClause 12 = .ok (.aload_n 1, 1) := by decide +kernel
theorem dX10_writeClause_13 : decode cX10_writeClause 13 = .ok (.getfield 104, 3) := by decide +kernel
theorem dX10_writeClause_16 : decode cX10_writeClause 16 = .ok (.invokevirtual 55, 3) := by decide +kernel
theorem dX10_writeClause_19 : decode cX10_writeClause 19 = .ok (.aload_n 0, 1) := by decide +kernel
theorem dX10_writeClause_20 : decode cX10_writeClause 20 = .ok (.aload_n 1, 1) := by decide +kernel
theorem dX10_writeClause_21 : decode cX10_writeClause 21 = .ok (.getfield 108, 3) := by decide +kernel
theorem dX10_writeClause_24 : decode cX10_writeClause 24 = .ok (.invokevirtual 66, 3) := by decide +kernel
theorem dX10_writeClause_27 : decode cX10_writeClause 27 = .ok (.return_, 1) := by decide +kernel
theorem pyX10_writeClause : PY yX10_writeClause 1 := ⟨by decide +kernel, by decide +kernel, by decide +kernel⟩
def fX10_writeClause (Y : LY) (S : HS) (l0 : Option Nat) (l1 : Option Nat) : Option (HS) :=
  (gI Y 1 101 l1 S).bind fun v2 =>
  (rcv Y 10 l0).bind fun _ =>
  (fX10_writeNumber Y S l0 v2).bind fun S5 =>
  (gR Y 10 1001 l0 S5).bind fun v9 =>
  (gI Y 1 102 l1 S5).bind fun v13 =>
  (rcv Y 7 v9).bind fun _ =>
  (fX7_add Y S5 v9 v13).bind fun S16 =>
  (gI Y 1 103 l1 S16).bind fun v21 =>
  (rcv Y 10 l0).bind fun _ =>
  (fX10_writeNumber Y S16 l0 v21).bind fun S24 =>
  some S24
set_option maxRecDepth 100000 in
set_option maxHeartbeats 4000000 in
theorem mX10_writeClause (l : Launch) {G : GG} {Y : LY} {S : HS} {l0 : Option Nat} {l1 : Option Nat} {res : HS} (hf : fX10_writeClause Y S l0 l1 = some res) : MM l yX10_writeClause cX10_writeClause 2 none 2 42 G Y S [va_rf l0, va_rf l1] res none := by
  refine mm_of2 (plainFor_of_name (by decide +kernel)) (Nat.le_of_ble_eq_true rfl) (c1c (cr _) (c1c (cr _) c1n)) ?_
  intro p e R s m args below meth c X H locs ls hP hl
  have X : Cx p R s m args meth c RX10 cX10_writeClause 2 2 42 (fun q => q ∈ Y.1) G none := X
  have hx := X.1.1
  have hb := X.1.2.1
  have hl : LV ls 2 [(0, va_rf l0), (1, va_rf l1)] := hl
  unfold fX10_writeClause at hf
  refine rw_aload_n X dX10_writeClause_0 rfl (hl.at 0 rfl) ?_
  refine rw_aload_n X dX10_writeClause_1 rfl (hl.at 1 rfl) ?_
  obtain ⟨v2, e2, hf⟩ := ob hf
  refine rw_getI X dX10_writeClause_2 fl10_101 e2 rfl hP ?_
  obtain ⟨u5, r5, hf⟩ := ob hf
  obtain ⟨S5, e5, hf⟩ := ob hf
  refine rw_callVv (As := [.int v2]) X dX10_writeClause_5 clX10_66 pyX10_writeNumber (mX10_writeNumber l e5) (by decide) r5 rfl hP rfl (catL c1n (Nat.le_of_ble_eq_true rfl)) hl.1.1 (fun H locs hP => ?_)
  refine rw_aload_n X dX10_writeClause_8 rfl (hl.at 0 rfl) ?_
  obtain ⟨v9, e9, hf⟩ := ob hf
  refine rw_getR X dX10_writeClause_9 fl10_15 e9 rfl hP ?_
  refine rw_aload_n X dX10_writeClause_12 rfl (hl.at 1 rfl) ?_
  obtain ⟨v13, e13, hf⟩ := ob hf
  refine rw_getI X dX10_writeClause_13 fl10_104 e13 rfl hP ?_
  obtain ⟨u16, r16, hf⟩ := ob hf
  obtain ⟨S16, e16, hf⟩ := ob hf
  refine rw_callVv (As := [.int v13]) X dX10_writeClause_16 clX10_55 pyX7_add (mX7_add l e16) (by decide) r16 rfl hP rfl (catL c1n (Nat.le_of_ble_eq_true rfl)) hl.1.1 (fun H locs hP => ?_)
  refine rw_aload_n X dX10_writeClause_19 rfl (hl.at 0 rfl) ?_
  refine rw_aload_n X dX10_writeClause_20 rfl (hl.at 1 rfl) ?_
  obtain ⟨v21, e21, hf⟩ := ob hf
  refine rw_getI X dX10_writeClause_21 fl10_108 e21 rfl hP ?_
  obtain ⟨u24, r24, hf⟩ := ob hf
  obtain ⟨S24, e24, hf⟩ := ob hf
  refine rw_callVv (As := [.int v21]) X dX10_writeClause_24 clX10_66 pyX10_writeNumber (mX10_writeNumber l e24) (by decide) r24 rfl hP rfl (catL c1n (Nat.le_of_ble_eq_true rfl)) hl.1.1 (fun H locs hP => ?_)
  cases hf
  exact rw_vret X dX10_writeClause_27 hP
theorem dX10_writeHead_0 : decode cX10_writeHead 0 = .ok (.aload_n 1, 1) := by decide +kernel
theorem dX10_writeHead_1 : decode cX10_writeHead 1 = .ok (.getfield 37, 3) := by decide +kernel
theorem dX10_writeHead_4 : decode cX10_writeHead 4 = .ok (.ifCond .lt 31, 3) := by decide +kernel
theorem dX10_writeHead_7 : decode cX10_writeHead 7 = .ok (.aload_n 1, 1) := by decide +kernel
theorem dX10_writeHead_8 : decode cX10_writeHead 8 = .ok (.getfield 37, 3) := by decide +kernel
theorem dX10_writeHead_11 : decode cX10_writeHead 11 = .ok (.ldc 43, 2) := by decide +kernel
theorem dX10_writeHead_13 : decode cX10_writeHead 13 = .ok (.invokevirtual 45, 3) := by decide +kernel
theorem dX10_writeHead_16 : decode cX10_writeHead 16 = .ok (.if_icmp .ge 19, 3) := by decide +kernel
theorem dX10_writeHead_19 : decode cX10_writeHead 19 = .ok (.aload_n 0, 1) := by decide +kernel
theorem dX10_writeHead_20 : decode cX10_writeHead 20 = .ok (.getfield 15, 3) := by decide +kernel
theorem dX10_writeHead_23 : decode cX10_writeHead 23 = .ok (.ldc 43, 2) := by decide +kernel
theorem dX10_writeHead_25 : decode cX10_writeHead 25 = .ok (.aload_n 1, 1) := by decide +kernel
theorem dX10_writeHead_26 : decode cX10_writeHead 26 = .ok (.getfield 37, 3) := by decide +kernel
theorem dX10_writeHead_29 : decode cX10_writeHead 29 = .ok (.invokevirtual 51, 3) := by decide +kernel
theorem dX10_writeHead_32 : decode cX10_writeHead 32 = .ok (.invokevirtual 55, 3) := by decide +kernel
theorem dX10_writeHead_35 : decode cX10_writeHead 35 = .ok (.aload_n 0, 1) := by decide +kernel
theorem dX10_writeHead_36 : decode cX10_writeHead 36 = .ok (.aload_n 1, 1) := by decide +kernel
theorem dX10_writeHead_37 : decode cX10_writeHead 37 = .ok (.invokevirtual 59, 3) := by decide +kernel
theorem dX10_writeHead_40 : decode cX10_writeHead 40 = .ok (.ifCond .eq 11, 3) := by decide +kernel
theorem dX10_writeHead_43 : decode cX10_writeHead 43 = .ok (.aload_n 0, 1) := by decide +kernel
theorem dX10_writeHead_44 : decode cX10_writeHead 44 = .ok (.aload_n 1, 1) := by decide +kernel
theorem dX10_writeHead_45 : decode cX10_writeHead 45 = .ok (.getfield 63, 3) := by decide +kernel
theorem dX10_writeHead_48 : decode cX10_writeHead 48 = .ok (.invokevirtual 66, 3) := by decide +kernel
theorem dX10_writeHead_51 : decode cX10_writeHead 51 = .ok (.aload_n 1, 1) := by decide +kernel
theorem dX10_writeHead_52 : decode cX10_writeHead 52 = .ok (.getfield 70, 3) := by decide +kernel
theorem dX10_writeHead_55 : decode cX10_writeHead 55 = .ok (.getfield 74, 3) := by decide +kernel
theorem dX10_writeHead_58 : decode cX10_writeHead 58 = .ok (.ifCond .eq 11, 3) := by decide +kernel
theorem dX10_writeHead_61 : decode cX10_writeHead 61 = .ok (.aload_n 0, 1) := by decide +kernel
theorem dX10_writeHead_62 : decode cX10_writeHead 62 = .ok (.aload_n 1, 1) := by decide +kernel
theorem dX10_writeHead_63 : decode cX10_writeHead 63 = .ok (.getfield 70, 3) := by decide +kernel
theorem dX10_writeHead_66 : decode cX10_writeHead 66 = .ok (.invokevirtual 80, 3) := by decide +kernel
theorem dX10_writeHead_69 : decode cX10_writeHead 69 = .ok (.aload_n 1, 1) := by decide +kernel
theorem dX10_writeHead_70 : decode cX10_writeHead 70 = .ok (.getfield 84, 3) := by decide +kernel
theorem dX10_writeHead_73 : decode cX10_writeHead 73 = .ok (.getfield 74, 3) := by decide +kernel
theorem dX10_writeHead_76 : decode cX10_writeHead 76 = .ok (.ifCond .eq 20, 3) := by decide +kernel
theorem dX10_writeHead_79 : decode cX10_writeHead 79 = .ok (.aload_n 0, 1) := by decide +kernel
theorem dX10_writeHead_80 : decode cX10_writeHead 80 = .ok (.getfield 15, 3) := by decide +kernel
theorem dX10_writeHead_83 : decode cX10_writeHead 83 = .ok (.bipush 126, 2) := by decide +kernel
theorem dX10_writeHead_85 : decode cX10_writeHead 85 = .ok (.invokevirtual 55, 3) := by decide +kernel
theorem dX10_writeHead_88 : decode cX10_writeHead 88 = .ok (.aload_n 0, 1) := by decide +kernel
theorem dX10_writeHead_89 : decode cX10_writeHead 89 = .ok (.aload_n 1, 1) := by decide +kernel
theorem dX10_writeHead_90 : decode cX10_writeHead 90 = .ok (.getfield 84, 3) := by decide +kernel
theorem dX10_writeHead_93 : decode cX10_writeHead 93 = .ok (.invokevirtual 80, 3) := by decide +kernel
theorem dX10_writeHead_96 : decode cX10_writeHead 96 = .ok (.aload_n 1, 1) := by decide +kernel
theorem dX10_writeHead_97 : decode cX10_writeHead 97 = .ok (.invokevirtual 87, 3) := by decide +kernel
theorem dX10_writeHead_100 : decode cX10_writeHead 100 = .ok (.ifCond .eq 12, 3) := by decide +kernel
theorem dX10_writeHead_103 : decode cX10_writeHead 103 = .ok (.aload_n 0, 1) := by decide +kernel
theorem dX10_writeHead_104 : decode cX10_writeHead 104 = .ok (.getfield 15, 3) := by decide +kernel
theorem dX10_writeHead_107 : decode cX10_writeHead 107 = .ok (.bipush 40, 2) := by decide +kernel
theorem dX10_writeHead_109 : decode cX10_writeHead 109 = .ok (.invokevirtual 55, 3) := by decide +kernel
theorem dX10_writeHead_112 : decode cX10_writeHead 112 = .ok (.return_, 1) := by decide +kernel
theorem pyX10_writeHead : PY yX10_writeHead 1 := ⟨by decide +kernel, by decide +kernel, by decide +kernel⟩
def fX10_writeHead_96 (Y : LY) (S : HS) (l0 : Option Nat) (l1 : Option Nat) : Option (HS) :=
  (rcv Y 4 l1).bind fun _ =>
  (fX4_hasList Y S l1 ).bind fun v97 =>
  if v97 = 0 then
    some S
  else
    (gR Y 10 1001 l0 S).bind fun v104 =>
    (rcv Y 7 v104).bind fun _ =>
    (fX7_add Y S v104 40).bind fun S109 =>
    some S109
set_option maxRecDepth 100000 in
set_option maxHeartbeats 4000000 in
theorem wX10_writeHead_96 {p : Program} {l : Launch} {e : Env} {R : Room} {s : State} {m : MethodId} {args : Array Value} {below : List Frame} {meth : Method} {c : Code} {G : GG} {Y : LY} {res : HS} (X : Cx p R s m args meth c RX10 cX10_writeHead 2 8 400 (fun q => q ∈ Y.1) G none) : ∀ (S : HS) (l0 : Option Nat) (l1 : Option Nat), fX10_writeHead_96 Y S l0 l1 = some res → ∀ (H : Heap) (locs : List Loc) (ls : Array Slot), HP (fun q => q ∈ Y.1) G Y s S H locs → LV ls 2 [(0, va_rf l0), (1, va_rf l1)] → W p l e R s m args below meth c H locs 0 0 (MQ below (QI G Y res none) args s 0 0 (fun q => q ∈ Y.1)) (F0 m 96 ls []) := by
  have hx := X.1.1
  have hb := X.1.2.1
  intro S l0 l1 hf H locs ls hP hl
  unfold fX10_writeHead_96 at hf
  refine rw_aload_n X dX10_writeHead_96 rfl (hl.at 1 rfl) ?_
  obtain ⟨u97, r97, hf⟩ := ob hf
  obtain ⟨v97, e97, hf⟩ := ob hf
  refine rw_callVi (As := []) X dX10_writeHead_97 clX10_87 pyX4_hasList (mX4_hasList l e97) (by decide) r97 rfl hP rfl (catL c1n (Nat.le_of_ble_eq_true rfl)) hl.1.1 (fun H locs hP => ?_)
  refine lv_if_eq hx hb (tgt := 112) dX10_writeHead_100 (by decide) (fun c100 => ?_) (fun c100 => ?_)
  · have hf := ifp hf c100
    cases hf
    exact rw_vret X dX10_writeHead_112 hP
  · have hf := ifn hf c100
    refine rw_aload_n X dX10_writeHead_103 rfl (hl.at 0 rfl) ?_
    obtain ⟨v104, e104, hf⟩ := ob hf
    refine rw_getR X dX10_writeHead_104 fl10_15 e104 rfl hP ?_
    refine lv_bipush (v := 40) hx hb dX10_writeHead_107 (by decide) ?_
    obtain ⟨u109, r109, hf⟩ := ob hf
    obtain ⟨S109, e109, hf⟩ := ob hf
    refine rw_callVv (As := [.int 40]) X dX10_writeHead_109 clX10_55 pyX7_add (mX7_add l e109) (by decide) r109 rfl hP rfl (catL c1n (Nat.le_of_ble_eq_true rfl)) hl.1.1 (fun H locs hP => ?_)
    cases hf
    exact rw_vret X dX10_writeHead_112 hP
def fX10_writeHead_69 (Y : LY) (S : HS) (l0 : Option Nat) (l1 : Option Nat) : Option (HS) :=
  (gR Y 4 402 l1 S).bind fun v70 =>
  (gI Y 1 100 v70 S).bind fun v73 =>
  if v73 = 0 then
    fX10_writeHead_96 Y S l0 l1
  else
    (gR Y 10 1001 l0 S).bind fun v80 =>
    (rcv Y 7 v80).bind fun _ =>
    (fX7_add Y S v80 126).bind fun S85 =>
    (gR Y 4 402 l1 S85).bind fun v90 =>
    (rcv Y 10 l0).bind fun _ =>
    (fX10_writeClause Y S85 l0 v90).bind fun S93 =>
    fX10_writeHead_96 Y S93 l0 l1
set_option maxRecDepth 100000 in
set_option maxHeartbeats 4000000 in
theorem wX10_writeHead_69 {p : Program} {l : Launch} {e : Env} {R : Room} {s : State} {m : MethodId} {args : Array Value} {below : List Frame} {meth : Method} {c : Code} {G : GG} {Y : LY} {res : HS} (X : Cx p R s m args meth c RX10 cX10_writeHead 2 8 400 (fun q => q ∈ Y.1) G none) : ∀ (S : HS) (l0 : Option Nat) (l1 : Option Nat), fX10_writeHead_69 Y S l0 l1 = some res → ∀ (H : Heap) (locs : List Loc) (ls : Array Slot), HP (fun q => q ∈ Y.1) G Y s S H locs → LV ls 2 [(0, va_rf l0), (1, va_rf l1)] → W p l e R s m args below meth c H locs 0 0 (MQ below (QI G Y res none) args s 0 0 (fun q => q ∈ Y.1)) (F0 m 69 ls []) := by
  have hx := X.1.1
  have hb := X.1.2.1
  intro S l0 l1 hf H locs ls hP hl
  unfold fX10_writeHead_69 at hf
  refine rw_aload_n X dX10_writeHead_69 rfl (hl.at 1 rfl) ?_
  obtain ⟨v70, e70, hf⟩ := ob hf
  refine rw_getR X dX10_writeHead_70 fl10_84 e70 rfl hP ?_
  obtain ⟨v73, e73, hf⟩ := ob hf
  refine rw_getI X dX10_writeHead_73 fl10_74 e73 rfl hP ?_
  refine lv_if_eq hx hb (tgt := 96) dX10_writeHead_76 (by decide) (fun c76 => ?_) (fun c76 => ?_)
  · have hf := ifp hf c76
    exact wX10_writeHead_96 X S l0 l1 hf _ _ _ hP (hl.sub [0, 1] rfl)
  · have hf := ifn hf c76
    refine rw_aload_n X dX10_writeHead_79 rfl (hl.at 0 rfl) ?_
    obtain ⟨v80, e80, hf⟩ := ob hf
    refine rw_getR X dX10_writeHead_80 fl10_15 e80 rfl hP ?_
    refine lv_bipush (v := 126) hx hb dX10_writeHead_83 (by decide) ?_
    obtain ⟨u85, r85, hf⟩ := ob hf
    obtain ⟨S85, e85, hf⟩ := ob hf
    refine rw_callVv (As := [.int 126]) X dX10_writeHead_85 clX10_55 pyX7_add (mX7_add l e85) (by decide) r85 rfl hP rfl (catL c1n (Nat.le_of_ble_eq_true rfl)) hl.1.1 (fun H locs hP => ?_)
    refine rw_aload_n X dX10_writeHead_88 rfl (hl.at 0 rfl) ?_
    refine rw_aload_n X dX10_writeHead_89 rfl (hl.at 1 rfl) ?_
    obtain ⟨v90, e90, hf⟩ := ob hf
    refine rw_getR X dX10_writeHead_90 fl10_84 e90 rfl hP ?_
    obtain ⟨u93, r93, hf⟩ := ob hf
    obtain ⟨S93, e93, hf⟩ := ob hf
    refine rw_callVv (As := [va_rf v90]) X dX10_writeHead_93 clX10_80 pyX10_writeClause (mX10_writeClause l e93) (by decide) r93 rfl hP rfl (catL c1n (Nat.le_of_ble_eq_true rfl)) hl.1.1 (fun H locs hP => ?_)
    exact wX10_writeHead_96 X S93 l0 l1 hf _ _ _ hP (hl.sub [0, 1] rfl)
def fX10_writeHead_51 (Y : LY) (S : HS) (l0 : Option Nat) (l1 : Option Nat) : Option (HS) :=
  (gR Y 4 401 l1 S).bind fun v52 =>
  (gI Y 1 100 v52 S).bind fun v55 =>
  if v55 = 0 then
    fX10_writeHead_69 Y S l0 l1
  else
    (gR Y 4 401 l1 S).bind fun v63 =>
    (rcv Y 10 l0).bind fun _ =>
    (fX10_writeClause Y S l0 v63).bind fun S66 =>
    fX10_writeHead_69 Y S66 l0 l1
set_option maxRecDepth 100000 in
set_option maxHeartbeats 4000000 in
theorem wX10_writeHead_51 {p : Program} {l : Launch} {e : Env} {R : Room} {s : State} {m : MethodId} {args : Array Value} {below : List Frame} {meth : Method} {c : Code} {G : GG} {Y : LY} {res : HS} (X : Cx p R s m args meth c RX10 cX10_writeHead 2 8 400 (fun q => q ∈ Y.1) G none) : ∀ (S : HS) (l0 : Option Nat) (l1 : Option Nat), fX10_writeHead_51 Y S l0 l1 = some res → ∀ (H : Heap) (locs : List Loc) (ls : Array Slot), HP (fun q => q ∈ Y.1) G Y s S H locs → LV ls 2 [(0, va_rf l0), (1, va_rf l1)] → W p l e R s m args below meth c H locs 0 0 (MQ below (QI G Y res none) args s 0 0 (fun q => q ∈ Y.1)) (F0 m 51 ls []) := by
  have hx := X.1.1
  have hb := X.1.2.1
  intro S l0 l1 hf H locs ls hP hl
  unfold fX10_writeHead_51 at hf
  refine rw_aload_n X dX10_writeHead_51 rfl (hl.at 1 rfl) ?_
  obtain ⟨v52, e52, hf⟩ := ob hf
  refine rw_getR X dX10_writeHead_52 fl10_70 e52 rfl hP ?_
  obtain ⟨v55, e55, hf⟩ := ob hf
  refine rw_getI X dX10_writeHead_55 fl10_74 e55 rfl hP ?_
  refine lv_if_eq hx hb (tgt := 69) dX10_writeHead_58 (by decide) (fun c58 => ?_) (fun c58 => ?_)
  · have hf := ifp hf c58
    exact wX10_writeHead_69 X S l0 l1 hf _ _ _ hP (hl.sub [0, 1] rfl)
  · have hf := ifn hf c58
    refine rw_aload_n X dX10_writeHead_61 rfl (hl.at 0 rfl) ?_
    refine rw_aload_n X dX10_writeHead_62 rfl (hl.at 1 rfl) ?_
    obtain ⟨v63, e63, hf⟩ := ob hf
    refine rw_getR X dX10_writeHead_63 fl10_70 e63 rfl hP ?_
    obtain ⟨u66, r66, hf⟩ := ob hf
    obtain ⟨S66, e66, hf⟩ := ob hf
    refine rw_callVv (As := [va_rf v63]) X dX10_writeHead_66 clX10_80 pyX10_writeClause (mX10_writeClause l e66) (by decide) r66 rfl hP rfl (catL c1n (Nat.le_of_ble_eq_true rfl)) hl.1.1 (fun H locs hP => ?_)
    exact wX10_writeHead_69 X S66 l0 l1 hf _ _ _ hP (hl.sub [0, 1] rfl)
def fX10_writeHead_35 (Y : LY) (S : HS) (l0 : Option Nat) (l1 : Option Nat) : Option (HS) :=
  (rcv Y 10 l0).bind fun _ =>
  (fX10_hasNumber Y S l0 l1).bind fun v37 =>
  if v37 = 0 then
    fX10_writeHead_51 Y S l0 l1
  else
    (gI Y 4 405 l1 S).bind fun v45 =>
    (rcv Y 10 l0).bind fun _ =>
    (fX10_writeNumber Y S l0 v45).bind fun S48 =>
    fX10_writeHead_51 Y S48 l0 l1
set_option maxRecDepth 100000 in
set_option maxHeartbeats 4000000 in
theorem wX10_writeHead_35 {p : Program} {l : Launch} {e : Env} {R : Room} {s : State} {m : MethodId} {args : Array Value} {below : List Frame} {meth : Method} {c : Code} {G : GG} {Y : LY} {res : HS} (X : Cx p R s m args meth c RX10 cX10_writeHead 2 8 400 (fun q => q ∈ Y.1) G none) : ∀ (S : HS) (l0 : Option Nat) (l1 : Option Nat), fX10_writeHead_35 Y S l0 l1 = some res → ∀ (H : Heap) (locs : List Loc) (ls : Array Slot), HP (fun q => q ∈ Y.1) G Y s S H locs → LV ls 2 [(0, va_rf l0), (1, va_rf l1)] → W p l e R s m args below meth c H locs 0 0 (MQ below (QI G Y res none) args s 0 0 (fun q => q ∈ Y.1)) (F0 m 35 ls []) := by
  have hx := X.1.1
  have hb := X.1.2.1
  intro S l0 l1 hf H locs ls hP hl
  unfold fX10_writeHead_35 at hf
  refine rw_aload_n X dX10_writeHead_35 rfl (hl.at 0 rfl) ?_
  refine rw_aload_n X dX10_writeHead_36 rfl (hl.at 1 rfl) ?_
  obtain ⟨u37, r37, hf⟩ := ob hf
  obtain ⟨v37, e37, hf⟩ := ob hf
  refine rw_callVi (As := [va_rf l1]) X dX10_writeHead_37 clX10_59 pyX10_hasNumber (mX10_hasNumber l e37) (by decide) r37 rfl hP rfl (catL c1n (Nat.le_of_ble_eq_true rfl)) hl.1.1 (fun H locs hP => ?_)
  refine lv_if_eq hx hb (tgt := 51) dX10_writeHead_40 (by decide) (fun c40 => ?_) (fun c40 => ?_)
  · have hf := ifp hf c40
    exact wX10_writeHead_51 X S l0 l1 hf _ _ _ hP (hl.sub [0, 1] rfl)
  · have hf := ifn hf c40
    refine rw_aload_n X dX10_writeHead_43 rfl (hl.at 0 rfl) ?_
    refine rw_aload_n X dX10_writeHead_44 rfl (hl.at 1 rfl) ?_
    obtain ⟨v45, e45, hf⟩ := ob hf
    refine rw_getI X dX10_writeHead_45 fl10_63 e45 rfl hP ?_
    obtain ⟨u48, r48, hf⟩ := ob hf
    obtain ⟨S48, e48, hf⟩ := ob hf
    refine rw_callVv (As := [.int v45]) X dX10_writeHead_48 clX10_66 pyX10_writeNumber (mX10_writeNumber l e48) (by decide) r48 rfl hP rfl (catL c1n (Nat.le_of_ble_eq_true rfl)) hl.1.1 (fun H locs hP => ?_)
    exact wX10_writeHead_51 X S48 l0 l1 hf _ _ _ hP (hl.sub [0, 1] rfl)
def fX10_writeHead (Y : LY) (S : HS) (l0 : Option Nat) (l1 : Option Nat) : Option (HS) :=
  (gI Y 4 404 l1 S).bind fun v1 =>
  if v1 < 0 then
    fX10_writeHead_35 Y S l0 l1
  else
    (gI Y 4 404 l1 S).bind fun v8 =>
    if (sLen 0) ≤ v8 then
      fX10_writeHead_35 Y S l0 l1
    else
      (gR Y 10 1001 l0 S).bind fun v20 =>
      (gI Y 4 404 l1 S).bind fun v26 =>
      (sCh 0 v26).bind fun v29 =>
      (rcv Y 7 v20).bind fun _ =>
      (fX7_add Y S v20 v29).bind fun S32 =>
      fX10_writeHead_35 Y S32 l0 l1
set_option maxRecDepth 100000 in
set_option maxHeartbeats 4000000 in
theorem mX10_writeHead (l : Launch) {G : GG} {Y : LY} {S : HS} {l0 : Option Nat} {l1 : Option Nat} {res : HS} (hf : fX10_writeHead Y S l0 l1 = some res) : MM l yX10_writeHead cX10_writeHead 2 none 8 400 G Y S [va_rf l0, va_rf l1] res none := by
  refine mm_of2 (plainFor_of_name (by decide +kernel)) (Nat.le_of_ble_eq_true rfl) (c1c (cr _) (c1c (cr _) c1n)) ?_
  intro p e R s m args below meth c X H locs ls hP hl
  have X : Cx p R s m args meth c RX10 cX10_writeHead 2 8 400 (fun q => q ∈ Y.1) G none := X
  have hx := X.1.1
  have hb := X.1.2.1
  have hl : LV ls 2 [(0, va_rf l0), (1, va_rf l1)] := hl
  unfold fX10_writeHead at hf
  refine rw_aload_n X dX10_writeHead_0 rfl (hl.at 1 rfl) ?_
  obtain ⟨v1, e1, hf⟩ := ob hf
  refine rw_getI X dX10_writeHead_1 fl10_37 e1 rfl hP ?_
  refine lv_if_lt hx hb (tgt := 35) dX10_writeHead_4 (by decide) (fun c4 => ?_) (fun c4 => ?_)
  · have hf := ifp hf c4
    exact wX10_writeHead_35 X S l0 l1 hf _ _ _ hP (hl.sub [0, 1] rfl)
  · have hf := ifn hf c4
    refine rw_aload_n X dX10_writeHead_7 rfl (hl.at 1 rfl) ?_
    obtain ⟨v8, e8, hf⟩ := ob hf
    refine rw_getI X dX10_writeHead_8 fl10_37 e8 rfl hP ?_
    refine va_ldcS hx hb X.1.2.2.2.1 X.2.2.1.2.2.2.2.2.1 dX10_writeHead_11 ?_
    refine rs_len X clX10_45 (i := 0) (by first | decide | assumption) (by decide) (catL (c1c (ci _) c1n) (Nat.le_of_ble_eq_true rfl)) hl.1.1 dX10_writeHead_13 hP (fun H locs hP => ?_)
    refine lv_icmp_ge hx hb (tgt := 35) dX10_writeHead_16 (by decide) (fun c16 => ?_) (fun c16 => ?_)
    · have hf := ifp hf c16
      exact wX10_writeHead_35 X S l0 l1 hf _ _ _ hP (hl.sub [0, 1] rfl)
    · have hf := ifn hf c16
      refine rw_aload_n X dX10_writeHead_19 rfl (hl.at 0 rfl) ?_
      obtain ⟨v20, e20, hf⟩ := ob hf
      refine rw_getR X dX10_writeHead_20 fl10_15 e20 rfl hP ?_
      refine va_ldcS hx hb X.1.2.2.2.1 X.2.2.1.2.2.2.2.2.1 dX10_writeHead_23 ?_
      refine rw_aload_n X dX10_writeHead_25 rfl (hl.at 1 rfl) ?_
      obtain ⟨v26, e26, hf⟩ := ob hf
      refine rw_getI X dX10_writeHead_26 fl10_37 e26 rfl hP ?_
      obtain ⟨v29, e29, hf⟩ := ob hf
      refine rs_ch X clX10_51 e29 (by decide) (catL (c1c (cr _) c1n) (Nat.le_of_ble_eq_true rfl)) hl.1.1 dX10_writeHead_29 hP (fun H locs hP => ?_)
      obtain ⟨u32, r32, hf⟩ := ob hf
      obtain ⟨S32, e32, hf⟩ := ob hf
      refine rw_callVv (As := [.int v29]) X dX10_writeHead_32 clX10_55 pyX7_add (mX7_add l e32) (by decide) r32 rfl hP rfl (catL c1n (Nat.le_of_ble_eq_true rfl)) hl.1.1 (fun H locs hP => ?_)
      exact wX10_writeHead_35 X S32 l0 l1 hf _ _ _ hP (hl.sub [0, 1] rfl)
theorem dX10_writeBehind_0 : decode cX10_writeBehind 0 = .ok (.aload_n 1, 1) := by decide +kernel
theorem dX10_writeBehind_1 : decode cX10_writeBehind 1 = .ok (.getfield 91, 3) := by decide +kernel
theorem dX10_writeBehind_4 : decode cX10_writeBehind 4 = .ok (.ifnull 4, 3) := by decide +kernel
theorem dX10_writeBehind_7 : decode cX10_writeBehind 7 = .ok (.return_, 1) := by decide +kernel
theorem dX10_writeBehind_8 : decode cX10_writeBehind 8 = .ok (.aload_n 1, 1) := by decide +kernel
theorem dX10_writeBehind_9 : decode cX10_writeBehind 9 = .ok (.astore_n 2, 1) := by decide +kernel
theorem dX10_writeBehind_10 : decode cX10_writeBehind 10 = .ok (.aload_n 2, 1) := by decide +kernel
theorem dX10_writeBehind_11 : decode cX10_writeBehind 11 = .ok (.getfield 95, 3) := by decide +kernel
theorem dX10_writeBehind_14 : decode cX10_writeBehind 14 = .ok (.ifnull 47, 3) := by decide +kernel
theorem dX10_writeBehind_17 : decode cX10_writeBehind 17 = .ok (.aload_n 2, 1) := by decide +kernel
theorem dX10_writeBehind_18 : decode cX10_writeBehind 18 = .ok (.getfield 98, 3) := by decide +kernel
theorem dX10_writeBehind_21 : decode cX10_writeBehind 21 = .ok (.ifnull 13, 3) := by decide +kernel
theorem dX10_writeBehind_24 : decode cX10_writeBehind 24 = .ok (.aload_n 0, 1) := by decide +kernel
theorem dX10_writeBehind_25 : decode cX10_writeBehind 25 = .ok (.getfield 15, 3) := by decide +kernel
theorem dX10_writeBehind_28 : decode cX10_writeBehind 28 = .ok (.bipush 44, 2) := by decide +kernel
theorem dX10_writeBehind_30 : decode cX10_writeBehind 30 = .ok (.invokevirtual 55, 3) := by decide +kernel
theorem dX10_writeBehind_33 : decode cX10_writeBehind 33 = .ok (.return_, 1) := by decide +kernel
theorem dX10_writeBehind_34 : decode cX10_writeBehind 34 = .ok (.aload_n 2, 1) := by decide +kernel
theorem dX10_writeBehind_35 : decode cX10_writeBehind 35 = .ok (.getfield 95, 3) := by decide +kernel
theorem dX10_writeBehind_38 : decode cX10_writeBehind 38 = .ok (.invokevirtual 87, 3) := by decide +kernel
theorem dX10_writeBehind_41 : decode cX10_writeBehind 41 = .ok (.ifCond .eq 12, 3) := by decide +kernel
theorem dX10_writeBehind_44 : decode cX10_writeBehind 44 = .ok (.aload_n 0, 1) := by decide +kernel
theorem dX10_writeBehind_45 : decode cX10_writeBehind 45 = .ok (.getfield 15, 3) := by decide +kernel
theorem dX10_writeBehind_48 : decode cX10_writeBehind 48 = .ok (.bipush 41, 2) := by decide +kernel
theorem dX10_writeBehind_50 : decode cX10_writeBehind 50 = .ok (.invokevirtual 55, 3) := by decide +kernel
theorem dX10_writeBehind_53 : decode cX10_writeBehind 53 = .ok (.aload_n 2, 1) := by decide +kernel
theorem dX10_writeBehind_54 : decode cX10_writeBehind 54 = .ok (.getfield 95, 3) := by decide +kernel
theorem dX10_writeBehind_57 : decode cX10_writeBehind 57 = .ok (.astore_n 2, 1) := by decide +kernel
theorem dX10_writeBehind_58 : decode cX10_writeBehind 58 = .ok (.goto (-48), 3) := by decide +kernel
theorem dX10_writeBehind_61 : decode cX10_writeBehind 61 = .ok (.return_, 1) := by decide +kernel
theorem pyX10_writeBehind : PY yX10_writeBehind 1 := ⟨by decide +kernel, by decide +kernel, by decide +kernel⟩
def fX10_writeBehind_10 (Y : LY) : Nat → HS → Option Nat → Option Nat → Option (HS)
  | 0, _, _, _ => none
  | n + 1, S, l0, l2 =>
    (gR Y 4 409 l2 S).bind fun v11 =>
    if v11 = none then
      some S
    else
      (gR Y 4 412 l2 S).bind fun v18 =>
      if v18 = none then
        (gR Y 4 409 l2 S).bind fun v35 =>
        (rcv Y 4 v35).bind fun _ =>
        (fX4_hasList Y S v35 ).bind fun v38 =>
        if v38 = 0 then
          (gR Y 4 409 l2 S).bind fun v54 =>
          fX10_writeBehind_10 Y n S l0 v54
        else
          (gR Y 10 1001 l0 S).bind fun v45 =>
          (rcv Y 7 v45).bind fun _ =>
          (fX7_add Y S v45 41).bind fun S50 =>
          (gR Y 4 409 l2 S50).bind fun v54 =>
          fX10_writeBehind_10 Y n S50 l0 v54
      else
        (gR Y 10 1001 l0 S).bind fun v25 =>
        (rcv Y 7 v25).bind fun _ =>
        (fX7_add Y S v25 44).bind fun S30 =>
        some S30
set_option maxRecDepth 100000 in
set_option maxHeartbeats 4000000 in
theorem wX10_writeBehind_10 {p : Program} {l : Launch} {e : Env} {R : Room} {s : State} {m : MethodId} {args : Array Value} {below : List Frame} {meth : Method} {c : Code} {G : GG} {Y : LY} {res : HS} (X : Cx p R s m args meth c RX10 cX10_writeBehind 3 1 21 (fun q => q ∈ Y.1) G none) : ∀ (n : Nat) (S : HS) (l0 : Option Nat) (l2 : Option Nat), fX10_writeBehind_10 Y n S l0 l2 = some res → ∀ (H : Heap) (locs : List Loc) (ls : Array Slot), HP (fun q => q ∈ Y.1) G Y s S H locs → LV ls 3 [(0, va_rf l0), (2, va_rf l2)] → W p l e R s m args below meth c H locs 0 0 (MQ below (QI G Y res none) args s 0 0 (fun q => q ∈ Y.1)) (F0 m 10 ls []) := by
  have hx := X.1.1
  have hb := X.1.2.1
  intro n
  induction n with
  | zero =>
    intro S l0 l2 hf
    cases hf
  | succ n ih =>
    intro S l0 l2 hf H locs ls hP hl
    rw [fX10_writeBehind_10] at hf
    refine rw_aload_n X dX10_writeBehind_10 rfl (hl.at 1 rfl) ?_
    obtain ⟨v11, e11, hf⟩ := ob hf
    refine rw_getR X dX10_writeBehind_11 fl10_95 e11 rfl hP ?_
    refine rw_ifnull X (tgt := 61) dX10_writeBehind_14 (by decide) (fun c14 => ?_) (fun c14 => ?_)
    · have hf := ifp hf c14
      cases hf
      exact rw_vret X dX10_writeBehind_61 hP
    · have hf := ifn hf c14
      refine rw_aload_n X dX10_writeBehind_17 rfl (hl.at 1 rfl) ?_
      obtain ⟨v18, e18, hf⟩ := ob hf
      refine rw_getR X dX10_writeBehind_18 fl10_98 e18 rfl hP ?_
      refine rw_ifnull X (tgt := 34) dX10_writeBehind_21 (by decide) (fun c21 => ?_) (fun c21 => ?_)
      · have hf := ifp hf c21
        refine rw_aload_n X dX10_writeBehind_34 rfl (hl.at 1 rfl) ?_
        obtain ⟨v35, e35, hf⟩ := ob hf
        refine rw_getR X dX10_writeBehind_35 fl10_95 e35 rfl hP ?_
        obtain ⟨u38, r38, hf⟩ := ob hf
        obtain ⟨v38, e38, hf⟩ := ob hf
        refine rw_callVi (As := []) X dX10_writeBehind_38 clX10_87 pyX4_hasList (mX4_hasList l e38) (by decide) r38 rfl hP rfl (catL c1n (Nat.le_of_ble_eq_true rfl)) hl.1.1 (fun H locs hP => ?_)
        refine lv_if_eq hx hb (tgt := 53) dX10_writeBehind_41 (by decide) (fun c41 => ?_) (fun c41 => ?_)
        · have hf := ifp hf c41
          refine rw_aload_n X dX10_writeBehind_53 rfl (hl.at 1 rfl) ?_
          obtain ⟨v54, e54, hf⟩ := ob hf
          refine rw_getR X dX10_writeBehind_54 fl10_95 e54 rfl hP ?_
          refine rv_astore_n X dX10_writeBehind_57 rfl hl (by decide) rfl (fun ls hl => ?_)
          have hl : LV ls 3 [(2, va_rf v54), (0, va_rf l0)] := hl
          refine lv_goto (tgt := 10) hx hb dX10_writeBehind_58 (by decide) ?_
          exact ih S l0 v54 hf _ _ _ hP (hl.sub [1, 0] rfl)
        · have hf := ifn hf c41
          refine rw_aload_n X dX10_writeBehind_44 rfl (hl.at 0 rfl) ?_
          obtain ⟨v45, e45, hf⟩ := ob hf
          refine rw_getR X dX10_writeBehind_45 fl10_15 e45 rfl hP ?_
          refine lv_bipush (v := 41) hx hb dX10_writeBehind_48 (by decide) ?_
          obtain ⟨u50, r50, hf⟩ := ob hf
          obtain ⟨S50, e50, hf⟩ := ob hf
          refine rw_callVv (As := [.int 41]) X dX10_writeBehind_50 clX10_55 pyX7_add (mX7_add l e50) (by decide) r50 rfl hP rfl (catL c1n (Nat.le_of_ble_eq_true rfl)) hl.1.1 (fun H locs hP => ?_)
          refine rw_aload_n X dX10_writeBehind_53 rfl (hl.at 1 rfl) ?_
          obtain ⟨v54, e54, hf⟩ := ob hf
          refine rw_getR X dX10_writeBehind_54 fl10_95 e54 rfl hP ?_
          refine rv_astore_n X dX10_writeBehind_57 rfl hl (by decide) rfl (fun ls hl => ?_)
          have hl : LV ls 3 [(2, va_rf v54), (0, va_rf l0)] := hl
          refine lv_goto (tgt := 10) hx hb dX10_writeBehind_58 (by decide) ?_
          exact ih S50 l0 v54 hf _ _ _ hP (hl.sub [1, 0] rfl)
      · have hf := ifn hf c21
        refine rw_aload_n X dX10_writeBehind_24 rfl (hl.at 0 rfl) ?_
        obtain ⟨v25, e25, hf⟩ := ob hf
        refine rw_getR X dX10_writeBehind_25 fl10_15 e25 rfl hP ?_
        refine lv_bipush (v := 44) hx hb dX10_writeBehind_28 (by decide) ?_
        obtain ⟨u30, r30, hf⟩ := ob hf
        obtain ⟨S30, e30, hf⟩ := ob hf
        refine rw_callVv (As := [.int 44]) X dX10_writeBehind_30 clX10_55 pyX7_add (mX7_add l e30) (by decide) r30 rfl hP rfl (catL c1n (Nat.le_of_ble_eq_true rfl)) hl.1.1 (fun H locs hP => ?_)
        cases hf
        exact rw_vret X dX10_writeBehind_33 hP
def fX10_writeBehind (Y : LY) (S : HS) (l0 : Option Nat) (l1 : Option Nat) : Option (HS) :=
  (gR Y 4 410 l1 S).bind fun v1 =>
  if v1 = none then
    fX10_writeBehind_10 Y FU S l0 l1
  else
    some S
set_option maxRecDepth 100000 in
set_option maxHeartbeats 4000000 in
theorem mX10_writeBehind (l : Launch) {G : GG} {Y : LY} {S : HS} {l0 : Option Nat} {l1 : Option Nat} {res : HS} (hf : fX10_writeBehind Y S l0 l1 = some res) : MM l yX10_writeBehind cX10_writeBehind 3 none 1 21 G Y S [va_rf l0, va_rf l1] res none := by
  refine mm_of2 (plainFor_of_name (by decide +kernel)) (Nat.le_of_ble_eq_true rfl) (c1c (cr _) (c1c (cr _) c1n)) ?_
  intro p e R s m args below meth c X H locs ls hP hl
  have X : Cx p R s m args meth c RX10 cX10_writeBehind 3 1 21 (fun q => q ∈ Y.1) G none := X
  have hx := X.1.1
  have hb := X.1.2.1
  have hl : LV ls 3 [(0, va_rf l0), (1, va_rf l1)] := hl
  unfold fX10_writeBehind at hf
  refine rw_aload_n X dX10_writeBehind_0 rfl (hl.at 1 rfl) ?_
  obtain ⟨v1, e1, hf⟩ := ob hf
  refine rw_getR X dX10_writeBehind_1 fl10_91 e1 rfl hP ?_
  refine rw_ifnull X (tgt := 8) dX10_writeBehind_4 (by decide) (fun c4 => ?_) (fun c4 => ?_)
  · have hf := ifp hf c4
    refine rw_aload_n X dX10_writeBehind_8 rfl (hl.at 1 rfl) ?_
    refine rv_astore_n X dX10_writeBehind_9 rfl hl (by decide) rfl (fun ls hl => ?_)
    have hl : LV ls 3 [(2, va_rf l1), (0, va_rf l0), (1, va_rf l1)] := hl
    exact wX10_writeBehind_10 X FU S l0 l1 hf _ _ _ hP (hl.sub [1, 0] rfl)
  · have hf := ifn hf c4
    cases hf
    exact rw_vret X dX10_writeBehind_7 hP
theorem dX10_writeTree_0 : decode cX10_writeTree 0 = .ok (.aload_n 0, 1) := by decide +kernel
theorem dX10_writeTree_1 : decode cX10_writeTree 1 = .ok (.getfield 15, 3) := by decide +kernel
theorem dX10_writeTree_4 : decode cX10_writeTree 4 = .ok (.invokevirtual 19, 3) := by decide +kernel
theorem dX10_writeTree_7 : decode cX10_writeTree 7 = .ok (.iconst 0, 1) := by decide +kernel
theorem dX10_writeTree_8 : decode cX10_writeTree 8 = .ok (.istore_n 1, 1) := by decide +kernel
theorem dX10_writeTree_9 : decode cX10_writeTree 9 = .ok (.iload_n 1, 1) := by decide +kernel
theorem dX10_writeTree_10 : decode cX10_writeTree 10 = .ok (.bipush 24, 2) := by decide +kernel
theorem dX10_writeTree_12 : decode cX10_writeTree 12 = .ok (.if_icmp .ge 32, 3) := by decide +kernel
theorem dX10_writeTree_15 : decode cX10_writeTree 15 = .ok (.aload_n 0, 1) := by decide +kernel
theorem dX10_writeTree_16 : decode cX10_writeTree 16 = .ok (.getfield 9, 3) := by decide +kernel
theorem dX10_writeTree_19 : decode cX10_writeTree 19 = .ok (.iload_n 1, 1) := by decide +kernel
theorem dX10_writeTree_20 : decode cX10_writeTree 20 = .ok (.invokevirtual 24, 3) := by decide +kernel
theorem dX10_writeTree_23 : decode cX10_writeTree 23 = .ok (.astore_n 2, 1) := by decide +kernel
theorem dX10_writeTree_24 : decode cX10_writeTree 24 = .ok (.aload_n 2, 1) := by decide +kernel
theorem dX10_writeTree_25 : decode cX10_writeTree 25 = .ok (.ifnull 13, 3) := by decide +kernel
theorem dX10_writeTree_28 : decode cX10_writeTree 28 = .ok (.aload_n 0, 1) := by decide +kernel
theorem dX10_writeTree_29 : decode cX10_writeTree 29 = .ok (.aload_n 2, 1) := by decide +kernel
theorem dX10_writeTree_30 : decode cX10_writeTree 30 = .ok (.invokevirtual 30, 3) := by decide +kernel
theorem dX10_writeTree_33 : decode cX10_writeTree 33 = .ok (.aload_n 0, 1) := by decide +kernel
theorem dX10_writeTree_34 : decode cX10_writeTree 34 = .ok (.aload_n 2, 1) := by decide +kernel
theorem dX10_writeTree_35 : decode cX10_writeTree 35 = .ok (.invokevirtual 34, 3) := by decide +kernel
theorem dX10_writeTree_38 : decode cX10_writeTree 38 = .ok (.iinc 1 1, 3) := by decide +kernel
theorem dX10_writeTree_41 : decode cX10_writeTree 41 = .ok (.goto (-32), 3) := by decide +kernel
theorem dX10_writeTree_44 : decode cX10_writeTree 44 = .ok (.return_, 1) := by decide +kernel
theorem pyX10_writeTree : PY yX10_writeTree 0 := ⟨by decide +kernel, by decide +kernel, by decide +kernel⟩
def fX10_writeTree_9 (Y : LY) : Nat → HS → Option Nat → Int32 → Option (HS)
  | 0, _, _, _ => none
  | n + 1, S, l0, l1 =>
    if 24 ≤ l1 then
      some S
    else
      (gR Y 10 1000 l0 S).bind fun v16 =>
      (rcv Y 8 v16).bind fun _ =>
      (fX8_nodeAt Y S v16 l1).bind fun v20 =>
      if v20 = none then
        fX10_writeTree_9 Y n S l0 (l1 + 1)
      else
        (rcv Y 10 l0).bind fun _ =>
        (fX10_writeHead Y S l0 v20).bind fun S30 =>
        (rcv Y 10 l0).bind fun _ =>
        (fX10_writeBehind Y S30 l0 v20).bind fun S35 =>
        fX10_writeTree_9 Y n S35 l0 (l1 + 1)
set_option maxRecDepth 100000 in
set_option maxHeartbeats 4000000 in
theorem wX10_writeTree_9 {p : Program} {l : Launch} {e : Env} {R : Room} {s : State} {m : MethodId} {args : Array Value} {below : List Frame} {meth : Method} {c : Code} {G : GG} {Y : LY} {res : HS} (X : Cx p R s m args meth c RX10 cX10_writeTree 3 9 421 (fun q => q ∈ Y.1) G none) : ∀ (n : Nat) (S : HS) (l0 : Option Nat) (l1 : Int32), fX10_writeTree_9 Y n S l0 l1 = some res → ∀ (H : Heap) (locs : List Loc) (ls : Array Slot), HP (fun q => q ∈ Y.1) G Y s S H locs → LV ls 3 [(0, va_rf l0), (1, .int l1)] → W p l e R s m args below meth c H locs 0 0 (MQ below (QI G Y res none) args s 0 0 (fun q => q ∈ Y.1)) (F0 m 9 ls []) := by
  have hx := X.1.1
  have hb := X.1.2.1
  intro n
  induction n with
  | zero =>
    intro S l0 l1 hf
    cases hf
  | succ n ih =>
    intro S l0 l1 hf H locs ls hP hl
    rw [fX10_writeTree_9] at hf
    refine lv_iload_n hx hb dX10_writeTree_9 rfl (hl.at 1 rfl) ?_
    refine lv_bipush (v := 24) hx hb dX10_writeTree_10 (by decide) ?_
    refine lv_icmp_ge hx hb (tgt := 44) dX10_writeTree_12 (by decide) (fun c12 => ?_) (fun c12 => ?_)
    · have hf := ifp hf c12
      cases hf
      exact rw_vret X dX10_writeTree_44 hP
    · have hf := ifn hf c12
      refine rw_aload_n X dX10_writeTree_15 rfl (hl.at 0 rfl) ?_
      obtain ⟨v16, e16, hf⟩ := ob hf
      refine rw_getR X dX10_writeTree_16 fl10_9 e16 rfl hP ?_
      refine lv_iload_n hx hb dX10_writeTree_19 rfl (hl.at 1 rfl) ?_
      obtain ⟨u20, r20, hf⟩ := ob hf
      obtain ⟨v20, e20, hf⟩ := ob hf
      refine rw_callVr (As := [.int l1]) X dX10_writeTree_20 clX10_24 pyX8_nodeAt (mX8_nodeAt l e20) (by decide) r20 rfl hP rfl (catL c1n (Nat.le_of_ble_eq_true rfl)) hl.1.1 (fun H locs hP => ?_)
      refine rv_astore_n X dX10_writeTree_23 rfl hl (by decide) rfl (fun ls hl => ?_)
      have hl : LV ls 3 [(2, va_rf v20), (0, va_rf l0), (1, .int l1)] := hl
      refine rw_aload_n X dX10_writeTree_24 rfl (hl.at 0 rfl) ?_
      refine rw_ifnull X (tgt := 38) dX10_writeTree_25 (by decide) (fun c25 => ?_) (fun c25 => ?_)
      · have hf := ifp hf c25
        refine rv_iinc (k := 2) (d := 1) X dX10_writeTree_38 hl rfl (by decide) (by decide) rfl (fun ls hl => ?_)
        have hl : LV ls 3 [(1, .int (l1 + 1)), (2, va_rf v20), (0, va_rf l0)] := hl
        refine lv_goto (tgt := 9) hx hb dX10_writeTree_41 (by decide) ?_
        exact ih S l0 (l1 + 1) hf _ _ _ hP (hl.sub [2, 0] rfl)
      · have hf := ifn hf c25
        refine rw_aload_n X dX10_writeTree_28 rfl (hl.at 1 rfl) ?_
        refine rw_aload_n X dX10_writeTree_29 rfl (hl.at 0 rfl) ?_
        obtain ⟨u30, r30, hf⟩ := ob hf
        obtain ⟨S30, e30, hf⟩ := ob hf
        refine rw_callVv (As := [va_rf v20]) X dX10_writeTree_30 clX10_30 pyX10_writeHead (mX10_writeHead l e30) (by decide) r30 rfl hP rfl (catL c1n (Nat.le_of_ble_eq_true rfl)) hl.1.1 (fun H locs hP => ?_)
        refine rw_aload_n X dX10_writeTree_33 rfl (hl.at 1 rfl) ?_
        refine rw_aload_n X dX10_writeTree_34 rfl (hl.at 0 rfl) ?_
        obtain ⟨u35, r35, hf⟩ := ob hf
        obtain ⟨S35, e35, hf⟩ := ob hf
        refine rw_callVv (As := [va_rf v20]) X dX10_writeTree_35 clX10_34 pyX10_writeBehind (mX10_writeBehind l e35) (by decide) r35 rfl hP rfl (catL c1n (Nat.le_of_ble_eq_true rfl)) hl.1.1 (fun H locs hP => ?_)
        refine rv_iinc (k := 2) (d := 1) X dX10_writeTree_38 hl rfl (by decide) (by decide) rfl (fun ls hl => ?_)
        have hl : LV ls 3 [(1, .int (l1 + 1)), (2, va_rf v20), (0, va_rf l0)] := hl
        refine lv_goto (tgt := 9) hx hb dX10_writeTree_41 (by decide) ?_
        exact ih S35 l0 (l1 + 1) hf _ _ _ hP (hl.sub [2, 0] rfl)
def fX10_writeTree (Y : LY) (S : HS) (l0 : Option Nat) : Option (HS) :=
  (gR Y 10 1001 l0 S).bind fun v1 =>
  (rcv Y 7 v1).bind fun _ =>
  (fX7_clear Y S v1 ).bind fun S4 =>
  fX10_writeTree_9 Y FU S4 l0 0
set_option maxRecDepth 100000 in
set_option maxHeartbeats 4000000 in
theorem mX10_writeTree (l : Launch) {G : GG} {Y : LY} {S : HS} {l0 : Option Nat} {res : HS} (hf : fX10_writeTree Y S l0 = some res) : MM l yX10_writeTree cX10_writeTree 3 none 9 421 G Y S [va_rf l0] res none := by
  refine mm_of2 (plainFor_of_name (by decide +kernel)) (Nat.le_of_ble_eq_true rfl) (c1c (cr _) c1n) ?_
  intro p e R s m args below meth c X H locs ls hP hl
  have X : Cx p R s m args meth c RX10 cX10_writeTree 3 9 421 (fun q => q ∈ Y.1) G none := X
  have hx := X.1.1
  have hb := X.1.2.1
  have hl : LV ls 3 [(0, va_rf l0)] := hl
  unfold fX10_writeTree at hf
  refine rw_aload_n X dX10_writeTree_0 rfl (hl.at 0 rfl) ?_
  obtain ⟨v1, e1, hf⟩ := ob hf
  refine rw_getR X dX10_writeTree_1 fl10_15 e1 rfl hP ?_
  obtain ⟨u4, r4, hf⟩ := ob hf
  obtain ⟨S4, e4, hf⟩ := ob hf
  refine rw_callVv (As := []) X dX10_writeTree_4 clX10_19 pyX7_clear (mX7_clear l e4) (by decide) r4 rfl hP rfl (catL c1n (Nat.le_of_ble_eq_true rfl)) hl.1.1 (fun H locs hP => ?_)
  refine lv_iconst (v := 0) hx hb dX10_writeTree_7 (by decide) ?_
  refine rv_istore_n X dX10_writeTree_8 rfl hl (by decide) rfl (fun ls hl => ?_)
  have hl : LV ls 3 [(1, .int 0), (0, va_rf l0)] := hl
  exact wX10_writeTree_9 X FU S4 l0 0 hf _ _ _ hP (hl.sub [1, 0] rfl)
