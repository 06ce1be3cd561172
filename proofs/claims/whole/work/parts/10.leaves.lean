/-! printed by wip/whole/gen/gen_parts.py: 10.leaves -/
theorem dJ9_floorMod_7cf53_0 : decode cJ9_floorMod_7cf53 0 = .ok (.iload_n 0, 1) := by decide +kernel
theorem dJ9_floorMod_7cf53_1 : decode cJ9_floorMod_7cf53 1 = .ok (.iload_n 1, 1) := by decide +kernel
theorem dJ9_floorMod_7cf53_2 : decode cJ9_floorMod_7cf53 2 = .ok (.irem, 1) := by decide +kernel
theorem dJ9_floorMod_7cf53_3 : decode cJ9_floorMod_7cf53 3 = .ok (.istore_n 2, 1) := by decide +kernel
theorem dJ9_floorMod_7cf53_4 : decode cJ9_floorMod_7cf53 4 = .ok (.iload_n 0, 1) := by decide +kernel
theorem dJ9_floorMod_7cf53_5 : decode cJ9_floorMod_7cf53 5 = .ok (.iload_n 1, 1) := by decide +kernel
theorem dJ9_floorMod_7cf53_6 : decode cJ9_floorMod_7cf53 6 = .ok (.ixor, 1) := by decide +kernel
theorem dJ9_floorMod_7cf53_7 : decode cJ9_floorMod_7cf53 7 = .ok (.ifCond .ge 11, 3) := by decide +kernel
theorem dJ9_floorMod_7cf53_10 : decode cJ9_floorMod_7cf53 10 = .ok (.iload_n 2, 1) := by decide +kernel
theorem dJ9_floorMod_7cf53_11 : decode cJ9_floorMod_7cf53 11 = .ok (.ifCond .eq 7, 3) := by decide +kernel
theorem dJ9_floorMod_7cf53_14 : decode cJ9_floorMod_7cf53 14 = .ok (.iload_n 2, 1) := by decide +kernel
theorem dJ9_floorMod_7cf53_15 : decode cJ9_floorMod_7cf53 15 = .ok (.iload_n 1, 1) := by decide +kernel
theorem dJ9_floorMod_7cf53_16 : decode cJ9_floorMod_7cf53 16 = .ok (.iadd, 1) := by decide +kernel
theorem dJ9_floorMod_7cf53_17 : decode cJ9_floorMod_7cf53 17 = .ok (.ireturn, 1) := by decide +kernel
theorem dJ9_floorMod_7cf53_18 : decode cJ9_floorMod_7cf53 18 = .ok (.iload_n 2, 1) := by decide +kernel
theorem dJ9_floorMod_7cf53_19 : decode cJ9_floorMod_7cf53 19 = .ok (.ireturn, 1) := by decide +kernel
theorem pyJ9_floorMod_7cf53 : PY yJ9_floorMod_7cf53 2 := ⟨by decide +kernel, by decide +kernel, by decide +kernel⟩
def fJ9_floorMod_7cf53 (Y : LY) (S : HS) (l0 : Int32) (l1 : Int32) : Option (Int32) :=
  if l1 = 0 then none else
  if 0 ≤ (l0 ^^^ l1) then
    some (l0 - l0 / l1 * l1)
  else
    if (l0 - l0 / l1 * l1) = 0 then
      some (l0 - l0 / l1 * l1)
    else
      some ((l0 - l0 / l1 * l1) + l1)
set_option maxRecDepth 100000 in
set_option maxHeartbeats 4000000 in
theorem mJ9_floorMod_7cf53 (l : Launch) {G : GG} {Y : LY} {S : HS} {l0 : Int32} {l1 : Int32} {res : Int32} (hf : fJ9_floorMod_7cf53 Y S l0 l1 = some res) : MM l yJ9_floorMod_7cf53 cJ9_floorMod_7cf53 3 (some .int) 0 0 G Y S [.int l0, .int l1] S (some (.int res)) := by
  refine mm_of2 (by decide +kernel) (Nat.le_of_ble_eq_true rfl) (c1c (ci _) (c1c (ci _) c1n)) ?_
  intro p e R s m args below meth c X H locs ls hP hl
  have X : Cx p R s m args meth c RJ9 cJ9_floorMod_7cf53 3 0 0 (fun q => q ∈ Y.1) G (some .int) := X
  have hx := X.1.1
  have hb := X.1.2.1
  have hl : LV ls 3 [(0, .int l0), (1, .int l1)] := hl
  unfold fJ9_floorMod_7cf53 at hf
  refine lv_iload_n hx hb dJ9_floorMod_7cf53_0 rfl (hl.at 0 rfl) ?_
  refine lv_iload_n hx hb dJ9_floorMod_7cf53_1 rfl (hl.at 1 rfl) ?_
  by_cases c2 : l1 = 0
  · exact absurd (ifp hf c2) (fun h => by cases h)
  have hf := ifn hf c2
  refine lv_irem hx hb dJ9_floorMod_7cf53_2 c2 ?_
  refine rv_istore_n X dJ9_floorMod_7cf53_3 rfl hl (by decide) rfl (fun ls hl => ?_)
  have hl : LV ls 3 [(2, .int (l0 - l0 / l1 * l1)), (0, .int l0), (1, .int l1)] := hl
  refine lv_iload_n hx hb dJ9_floorMod_7cf53_4 rfl (hl.at 1 rfl) ?_
  refine lv_iload_n hx hb dJ9_floorMod_7cf53_5 rfl (hl.at 2 rfl) ?_
  refine lv_ixor hx hb dJ9_floorMod_7cf53_6 ?_
  refine lv_if_ge hx hb (tgt := 18) dJ9_floorMod_7cf53_7 (by decide) (fun c7 => ?_) (fun c7 => ?_)
  · have hf := ifp hf c7
    refine lv_iload_n hx hb dJ9_floorMod_7cf53_18 rfl (hl.at 0 rfl) ?_
    cases hf
    exact rw_iret X dJ9_floorMod_7cf53_19 hP
  · have hf := ifn hf c7
    refine lv_iload_n hx hb dJ9_floorMod_7cf53_10 rfl (hl.at 0 rfl) ?_
    refine lv_if_eq hx hb (tgt := 18) dJ9_floorMod_7cf53_11 (by decide) (fun c11 => ?_) (fun c11 => ?_)
    · have hf := ifp hf c11
      refine lv_iload_n hx hb dJ9_floorMod_7cf53_18 rfl (hl.at 0 rfl) ?_
      cases hf
      exact rw_iret X dJ9_floorMod_7cf53_19 hP
    · have hf := ifn hf c11
      refine lv_iload_n hx hb dJ9_floorMod_7cf53_14 rfl (hl.at 0 rfl) ?_
      refine lv_iload_n hx hb dJ9_floorMod_7cf53_15 rfl (hl.at 2 rfl) ?_
      refine lv_iadd hx hb dJ9_floorMod_7cf53_16 ?_
      cases hf
      exact rw_iret X dJ9_floorMod_7cf53_17 hP
theorem dX1_clear_0 : decode cX1_clear 0 = .ok (.aload_n 0, 1) := by decide +kernel
theorem dX1_clear_1 : decode cX1_clear 1 = .ok (.iconst 0, 1) := by decide +kernel
theorem dX1_clear_2 : decode cX1_clear 2 = .ok (.putfield 7, 3) := by decide +kernel
theorem dX1_clear_5 : decode cX1_clear 5 = .ok (.aload_n 0, 1) := by decide +kernel
theorem dX1_clear_6 : decode cX1_clear 6 = .ok (.aconst_null, 1) := by decide +kernel
theorem dX1_clear_7 : decode cX1_clear 7 = .ok (.putfield 24, 3) := by decide +kernel
theorem dX1_clear_10 : decode cX1_clear 10 = .ok (.return_, 1) := by decide +kernel
theorem pyX1_clear : PY yX1_clear 0 := ⟨by decide +kernel, by decide +kernel, by decide +kernel⟩
def fX1_clear (Y : LY) (S : HS) (l0 : Option Nat) : Option (HS) :=
  (pZ Y 1 100 l0 0 S).bind fun S2 =>
  (pR Y 1 104 l0 none S2).bind fun S7 =>
  some S7
set_option maxRecDepth 100000 in
set_option maxHeartbeats 4000000 in
theorem mX1_clear (l : Launch) {G : GG} {Y : LY} {S : HS} {l0 : Option Nat} {res : HS} (hf : fX1_clear Y S l0 = some res) : MM l yX1_clear cX1_clear 1 none 0 0 G Y S [va_rf l0] res none := by
  refine mm_of2 (plainFor_of_name (by decide +kernel)) (Nat.le_of_ble_eq_true rfl) (c1c (cr _) c1n) ?_
  intro p e R s m args below meth c X H locs ls hP hl
  have X : Cx p R s m args meth c RX1 cX1_clear 1 0 0 (fun q => q ∈ Y.1) G none := X
  have hx := X.1.1
  have hb := X.1.2.1
  have hl : LV ls 1 [(0, va_rf l0)] := hl
  unfold fX1_clear at hf
  refine rw_aload_n X dX1_clear_0 rfl (hl.at 0 rfl) ?_
  refine lv_iconst (v := 0) hx hb dX1_clear_1 (by decide) ?_
  obtain ⟨S2, e2, hf⟩ := ob hf
  refine rw_putZ X dX1_clear_2 fl1_7 fw1_0 e2 rfl hP (fun H locs hP => ?_)
  refine rw_aload_n X dX1_clear_5 rfl (hl.at 0 rfl) ?_
  refine lv_null hx hb dX1_clear_6 ?_
  refine W.eq (g2 := F0 m 7 ls (va_rf none :: (va_rf l0 :: []))) rfl ?_
  obtain ⟨S7, e7, hf⟩ := ob hf
  refine rw_putR X dX1_clear_7 fl1_24 fw1_4 e7 rfl hP (fun H locs hP => ?_)
  cases hf
  exact rw_vret X dX1_clear_10 hP
theorem dX3_clear_0 : decode cX3_clear 0 = .ok (.aload_n 0, 1) := by decide +kernel
theorem dX3_clear_1 : decode cX3_clear 1 = .ok (.iconst 0, 1) := by decide +kernel
theorem dX3_clear_2 : decode cX3_clear 2 = .ok (.putfield 9, 3) := by decide +kernel
theorem dX3_clear_5 : decode cX3_clear 5 = .ok (.aload_n 0, 1) := by decide +kernel
theorem dX3_clear_6 : decode cX3_clear 6 = .ok (.iconst 0, 1) := by decide +kernel
theorem dX3_clear_7 : decode cX3_clear 7 = .ok (.putfield 15, 3) := by decide +kernel
theorem dX3_clear_10 : decode cX3_clear 10 = .ok (.aload_n 0, 1) := by decide +kernel
theorem dX3_clear_11 : decode cX3_clear 11 = .ok (.aconst_null, 1) := by decide +kernel
theorem dX3_clear_12 : decode cX3_clear 12 = .ok (.putfield 19, 3) := by decide +kernel
theorem dX3_clear_15 : decode cX3_clear 15 = .ok (.aload_n 0, 1) := by decide +kernel
theorem dX3_clear_16 : decode cX3_clear 16 = .ok (.iconst 0, 1) := by decide +kernel
theorem dX3_clear_17 : decode cX3_clear 17 = .ok (.putfield 23, 3) := by decide +kernel
theorem dX3_clear_20 : decode cX3_clear 20 = .ok (.aload_n 0, 1) := by decide +kernel
theorem dX3_clear_21 : decode cX3_clear 21 = .ok (.iconst 0, 1) := by decide +kernel
theorem dX3_clear_22 : decode cX3_clear 22 = .ok (.putfield 26, 3) := by decide +kernel
theorem dX3_clear_25 : decode cX3_clear 25 = .ok (.aload_n 0, 1) := by decide +kernel
theorem dX3_clear_26 : decode cX3_clear 26 = .ok (.iconst 0, 1) := by decide +kernel
theorem dX3_clear_27 : decode cX3_clear 27 = .ok (.putfield 29, 3) := by decide +kernel
theorem dX3_clear_30 : decode cX3_clear 30 = .ok (.aload_n 0, 1) := by decide +kernel
theorem dX3_clear_31 : decode cX3_clear 31 = .ok (.iconst 0, 1) := by decide +kernel
theorem dX3_clear_32 : decode cX3_clear 32 = .ok (.putfield 32, 3) := by decide +kernel
theorem dX3_clear_35 : decode cX3_clear 35 = .ok (.aload_n 0, 1) := by decide +kernel
theorem dX3_clear_36 : decode cX3_clear 36 = .ok (.iconst 0, 1) := by decide +kernel
theorem dX3_clear_37 : decode cX3_clear 37 = .ok (.putfield 35, 3) := by decide +kernel
theorem dX3_clear_40 : decode cX3_clear 40 = .ok (.aload_n 0, 1) := by decide +kernel
theorem dX3_clear_41 : decode cX3_clear 41 = .ok (.iconst 0, 1) := by decide +kernel
theorem dX3_clear_42 : decode cX3_clear 42 = .ok (.putfield 38, 3) := by decide +kernel
theorem dX3_clear_45 : decode cX3_clear 45 = .ok (.aload_n 0, 1) := by decide +kernel
theorem dX3_clear_46 : decode cX3_clear 46 = .ok (.iconst 0, 1) := by decide +kernel
theorem dX3_clear_47 : decode cX3_clear 47 = .ok (.putfield 41, 3) := by decide +kernel
theorem dX3_clear_50 : decode cX3_clear 50 = .ok (.return_, 1) := by decide +kernel
theorem pyX3_clear : PY yX3_clear 0 := ⟨by decide +kernel, by decide +kernel, by decide +kernel⟩
def fX3_clear (Y : LY) (S : HS) (l0 : Option Nat) : Option (HS) :=
  (pZ Y 3 300 l0 0 S).bind fun S2 =>
  (pI Y 3 301 l0 0 S2).bind fun S7 =>
  (pR Y 3 302 l0 none S7).bind fun S12 =>
  (pI Y 3 303 l0 0 S12).bind fun S17 =>
  (pI Y 3 304 l0 0 S17).bind fun S22 =>
  (pI Y 3 305 l0 0 S22).bind fun S27 =>
  (pI Y 3 306 l0 0 S27).bind fun S32 =>
  (pI Y 3 307 l0 0 S32).bind fun S37 =>
  (pI Y 3 308 l0 0 S37).bind fun S42 =>
  (pI Y 3 309 l0 0 S42).bind fun S47 =>
  some S47
set_option maxRecDepth 100000 in
set_option maxHeartbeats 4000000 in
theorem mX3_clear (l : Launch) {G : GG} {Y : LY} {S : HS} {l0 : Option Nat} {res : HS} (hf : fX3_clear Y S l0 = some res) : MM l yX3_clear cX3_clear 1 none 0 0 G Y S [va_rf l0] res none := by
  refine mm_of2 (plainFor_of_name (by decide +kernel)) (Nat.le_of_ble_eq_true rfl) (c1c (cr _) c1n) ?_
  intro p e R s m args below meth c X H locs ls hP hl
  have X : Cx p R s m args meth c RX3 cX3_clear 1 0 0 (fun q => q ∈ Y.1) G none := X
  have hx := X.1.1
  have hb := X.1.2.1
  have hl : LV ls 1 [(0, va_rf l0)] := hl
  unfold fX3_clear at hf
  refine rw_aload_n X dX3_clear_0 rfl (hl.at 0 rfl) ?_
  refine lv_iconst (v := 0) hx hb dX3_clear_1 (by decide) ?_
  obtain ⟨S2, e2, hf⟩ := ob hf
  refine rw_putZ X dX3_clear_2 fl3_9 fw3_0 e2 rfl hP (fun H locs hP => ?_)
  refine rw_aload_n X dX3_clear_5 rfl (hl.at 0 rfl) ?_
  refine lv_iconst (v := 0) hx hb dX3_clear_6 (by decide) ?_
  obtain ⟨S7, e7, hf⟩ := ob hf
  refine rw_putI X dX3_clear_7 fl3_15 fw3_1 e7 rfl hP (fun H locs hP => ?_)
  refine rw_aload_n X dX3_clear_10 rfl (hl.at 0 rfl) ?_
  refine lv_null hx hb dX3_clear_11 ?_
  refine W.eq (g2 := F0 m 12 ls (va_rf none :: (va_rf l0 :: []))) rfl ?_
  obtain ⟨S12, e12, hf⟩ := ob hf
  refine rw_putR X dX3_clear_12 fl3_19 fw3_2 e12 rfl hP (fun H locs hP => ?_)
  refine rw_aload_n X dX3_clear_15 rfl (hl.at 0 rfl) ?_
  refine lv_iconst (v := 0) hx hb dX3_clear_16 (by decide) ?_
  obtain ⟨S17, e17, hf⟩ := ob hf
  refine rw_putI X dX3_clear_17 fl3_23 fw3_3 e17 rfl hP (fun H locs hP => ?_)
  refine rw_aload_n X dX3_clear_20 rfl (hl.at 0 rfl) ?_
  refine lv_iconst (v := 0) hx hb dX3_clear_21 (by decide) ?_
  obtain ⟨S22, e22, hf⟩ := ob hf
  refine rw_putI X dX3_clear_22 fl3_26 fw3_4 e22 rfl hP (fun H locs hP => ?_)
  refine rw_aload_n X dX3_clear_25 rfl (hl.at 0 rfl) ?_
  refine lv_iconst (v := 0) hx hb dX3_clear_26 (by decide) ?_
  obtain ⟨S27, e27, hf⟩ := ob hf
  refine rw_putI X dX3_clear_27 fl3_29 fw3_5 e27 rfl hP (fun H locs hP => ?_)
  refine rw_aload_n X dX3_clear_30 rfl (hl.at 0 rfl) ?_
  refine lv_iconst (v := 0) hx hb dX3_clear_31 (by decide) ?_
  obtain ⟨S32, e32, hf⟩ := ob hf
  refine rw_putI X dX3_clear_32 fl3_32 fw3_6 e32 rfl hP (fun H locs hP => ?_)
  refine rw_aload_n X dX3_clear_35 rfl (hl.at 0 rfl) ?_
  refine lv_iconst (v := 0) hx hb dX3_clear_36 (by decide) ?_
  obtain ⟨S37, e37, hf⟩ := ob hf
  refine rw_putI X dX3_clear_37 fl3_35 fw3_7 e37 rfl hP (fun H locs hP => ?_)
  refine rw_aload_n X dX3_clear_40 rfl (hl.at 0 rfl) ?_
  refine lv_iconst (v := 0) hx hb dX3_clear_41 (by decide) ?_
  obtain ⟨S42, e42, hf⟩ := ob hf
  refine rw_putI X dX3_clear_42 fl3_38 fw3_8 e42 rfl hP (fun H locs hP => ?_)
  refine rw_aload_n X dX3_clear_45 rfl (hl.at 0 rfl) ?_
  refine lv_iconst (v := 0) hx hb dX3_clear_46 (by decide) ?_
  obtain ⟨S47, e47, hf⟩ := ob hf
  refine rw_putI X dX3_clear_47 fl3_41 fw3_9 e47 rfl hP (fun H locs hP => ?_)
  cases hf
  exact rw_vret X dX3_clear_50 hP
theorem dX3_copyFrom_0 : decode cX3_copyFrom 0 = .ok (.aload_n 0, 1) := by decide +kernel
theorem dX3_copyFrom_1 : decode cX3_copyFrom 1 = .ok (.aload_n 1, 1) := by decide +kernel
theorem dX3_copyFrom_2 : decode cX3_copyFrom 2 = .ok (.getfield 9, 3) := by decide +kernel
theorem dX3_copyFrom_5 : decode cX3_copyFrom 5 = .ok (.putfield 9, 3) := by decide +kernel
theorem dX3_copyFrom_8 : decode cX3_copyFrom 8 = .ok (.aload_n 0, 1) := by decide +kernel
theorem dX3_copyFrom_9 : decode cX3_copyFrom 9 = .ok (.aload_n 1, 1) := by decide +kernel
theorem dX3_copyFrom_10 : decode cX3_copyFrom 10 = .ok (.getfield 15, 3) := by decide +kernel
theorem dX3_copyFrom_13 : decode cX3_copyFrom 13 = .ok (.putfield 15, 3) := by decide +kernel
theorem dX3_copyFrom_16 : decode cX3_copyFrom 16 = .ok (.aload_n 0, 1) := by decide +kernel
theorem dX3_copyFrom_17 : decode cX3_copyFrom 17 = .ok (.aload_n 1, 1) := by decide +kernel
theorem dX3_copyFrom_18 : decode cX3_copyFrom 18 = .ok (.getfield 19, 3) := by decide +kernel
theorem dX3_copyFrom_21 : decode cX3_copyFrom 21 = .ok (.putfield 19, 3) := by decide +kernel
theorem dX3_copyFrom_24 : decode cX3_copyFrom 24 = .ok (.aload_n 0, 1) := by decide +kernel
theorem dX3_copyFrom_25 : decode cX3_copyFrom 25 = .ok (.aload_n 1, 1) := by decide +kernel
theorem dX3_copyFrom_26 : decode cX3_copyFrom 26 = .ok (.getfield 23, 3) := by decide +kernel
theorem dX3_copyFrom_29 : decode cX3_copyFrom 29 = .ok (.putfield 23, 3) := by decide +kernel
theorem dX3_copyFrom_32 : decode cX3_copyFrom 32 = .ok (.aload_n 0, 1) := by decide +kernel
theorem dX3_copyFrom_33 : decode cX3_copyFrom 33 = .ok (.aload_n 1, 1) := by decide +kernel
theorem dX3_copyFrom_34 : decode cX3_copyFrom 34 = .ok (.getfield 26, 3) := by decide +kernel
theorem dX3_copyFrom_37 : decode cX3_copyFrom 37 = .ok (.putfield 26, 3) := by decide +kernel
theorem dX3_copyFrom_40 : decode cX3_copyFrom 40 = .ok (.aload_n 0, 1) := by decide +kernel
theorem dX3_copyFrom_41 : decode cX3_copyFrom 41 = .ok (.aload_n 1, 1) := by decide +kernel
theorem dX3_copyFrom_42 : decode cX3_copyFrom 42 = .ok (.getfield 29, 3) := by decide +kernel
theorem dX3_copyFrom_45 : decode cX3_copyFrom 45 = .ok (.putfield 29, 3) := by decide +kernel
theorem dX3_copyFrom_48 : decode cX3_copyFrom 48 = .ok (.aload_n 0, 1) := by decide +kernel
theorem dX3_copyFrom_49 : decode cX3_copyFrom 49 = .ok (.aload_n 1, 1) := by decide +kernel
theorem dX3_copyFrom_50 : decode cX3_copyFrom 50 = .ok (.getfield 32, 3) := by decide +kernel
theorem dX3_copyFrom_53 : decode cX3_copyFrom 53 = .ok (.putfield 32, 3) := by decide +kernel
theorem dX3_copyFrom_56 : decode cX3_copyFrom 56 = .ok (.aload_n 0, 1) := by decide +kernel
theorem dX3_copyFrom_57 : decode cX3_copyFrom 57 = .ok (.aload_n 1, 1) := by decide +kernel
theorem dX3_copyFrom_58 : decode cX3_copyFrom 58 = .ok (.getfield 35, 3) := by decide +kernel
theorem dX3_copyFrom_61 : decode cX3_copyFrom 61 = .ok (.putfield 35, 3) := by decide +kernel
theorem dX3_copyFrom_64 : decode cX3_copyFrom 64 = .ok (.aload_n 0, 1) := by decide +kernel
theorem dX3_copyFrom_65 : decode cX3_copyFrom 65 = .ok (.aload_n 1, 1) := by decide +kernel
theorem dX3_copyFrom_66 : decode cX3_copyFrom 66 = .ok (.getfield 38, 3) := by decide +kernel
theorem dX3_copyFrom_69 : decode cX3_copyFrom 69 = .ok (.putfield 38, 3) := by decide +kernel
theorem dX3_copyFrom_72 : decode cX3_copyFrom 72 = .ok (.aload_n 0, 1) := by decide +kernel
theorem dX3_copyFrom_73 : decode cX3_copyFrom 73 = .ok (.aload_n 1, 1) := by decide +kernel
theorem dX3_copyFrom_74 : decode cX3_copyFrom 74 = .ok (.getfield 41, 3) := by decide +kernel
theorem dX3_copyFrom_77 : decode cX3_copyFrom 77 = .ok (.putfield 41, 3) := by decide +kernel
theorem dX3_copyFrom_80 : decode cX3_copyFrom 80 = .ok (.return_, 1) := by decide +kernel
theorem pyX3_copyFrom : PY yX3_copyFrom 1 := ⟨by decide +kernel, by decide +kernel, by decide +kernel⟩
def fX3_copyFrom (Y : LY) (S : HS) (l0 : Option Nat) (l1 : Option Nat) : Option (HS) :=
  (gI Y 3 300 l1 S).bind fun v2 =>
  (pZ Y 3 300 l0 v2 S).bind fun S5 =>
  (gI Y 3 301 l1 S5).bind fun v10 =>
  (pI Y 3 301 l0 v10 S5).bind fun S13 =>
  (gR Y 3 302 l1 S13).bind fun v18 =>
  (pR Y 3 302 l0 v18 S13).bind fun S21 =>
  (gI Y 3 303 l1 S21).bind fun v26 =>
  (pI Y 3 303 l0 v26 S21).bind fun S29 =>
  (gI Y 3 304 l1 S29).bind fun v34 =>
  (pI Y 3 304 l0 v34 S29).bind fun S37 =>
  (gI Y 3 305 l1 S37).bind fun v42 =>
  (pI Y 3 305 l0 v42 S37).bind fun S45 =>
  (gI Y 3 306 l1 S45).bind fun v50 =>
  (pI Y 3 306 l0 v50 S45).bind fun S53 =>
  (gI Y 3 307 l1 S53).bind fun v58 =>
  (pI Y 3 307 l0 v58 S53).bind fun S61 =>
  (gI Y 3 308 l1 S61).bind fun v66 =>
  (pI Y 3 308 l0 v66 S61).bind fun S69 =>
  (gI Y 3 309 l1 S69).bind fun v74 =>
  (pI Y 3 309 l0 v74 S69).bind fun S77 =>
  some S77
set_option maxRecDepth 100000 in
set_option maxHeartbeats 4000000 in
theorem mX3_copyFrom (l : Launch) {G : GG} {Y : LY} {S : HS} {l0 : Option Nat} {l1 : Option Nat} {res : HS} (hf : fX3_copyFrom Y S l0 l1 = some res) : MM l yX3_copyFrom cX3_copyFrom 2 none 0 0 G Y S [va_rf l0, va_rf l1] res none := by
  refine mm_of2 (plainFor_of_name (by decide +kernel)) (Nat.le_of_ble_eq_true rfl) (c1c (cr _) (c1c (cr _) c1n)) ?_
  intro p e R s m args below meth c X H locs ls hP hl
  have X : Cx p R s m args meth c RX3 cX3_copyFrom 2 0 0 (fun q => q ∈ Y.1) G none := X
  have hx := X.1.1
  have hb := X.1.2.1
  have hl : LV ls 2 [(0, va_rf l0), (1, va_rf l1)] := hl
  unfold fX3_copyFrom at hf
  refine rw_aload_n X dX3_copyFrom_0 rfl (hl.at 0 rfl) ?_
  refine rw_aload_n X dX3_copyFrom_1 rfl (hl.at 1 rfl) ?_
  obtain ⟨v2, e2, hf⟩ := ob hf
  refine rw_getI X dX3_copyFrom_2 fl3_9 e2 rfl hP ?_
  obtain ⟨S5, e5, hf⟩ := ob hf
  refine rw_putZ X dX3_copyFrom_5 fl3_9 fw3_0 e5 rfl hP (fun H locs hP => ?_)
  refine rw_aload_n X dX3_copyFrom_8 rfl (hl.at 0 rfl) ?_
  refine rw_aload_n X dX3_copyFrom_9 rfl (hl.at 1 rfl) ?_
  obtain ⟨v10, e10, hf⟩ := ob hf
  refine rw_getI X dX3_copyFrom_10 fl3_15 e10 rfl hP ?_
  obtain ⟨S13, e13, hf⟩ := ob hf
  refine rw_putI X dX3_copyFrom_13 fl3_15 fw3_1 e13 rfl hP (fun H locs hP => ?_)
  refine rw_aload_n X dX3_copyFrom_16 rfl (hl.at 0 rfl) ?_
  refine rw_aload_n X dX3_copyFrom_17 rfl (hl.at 1 rfl) ?_
  obtain ⟨v18, e18, hf⟩ := ob hf
  refine rw_getR X dX3_copyFrom_18 fl3_19 e18 rfl hP ?_
  obtain ⟨S21, e21, hf⟩ := ob hf
  refine rw_putR X dX3_copyFrom_21 fl3_19 fw3_2 e21 rfl hP (fun H locs hP => ?_)
  refine rw_aload_n X dX3_copyFrom_24 rfl (hl.at 0 rfl) ?_
  refine rw_aload_n X dX3_copyFrom_25 rfl (hl.at 1 rfl) ?_
  obtain ⟨v26, e26, hf⟩ := ob hf
  refine rw_getI X dX3_copyFrom_26 fl3_23 e26 rfl hP ?_
  obtain ⟨S29, e29, hf⟩ := ob hf
  refine rw_putI X dX3_copyFrom_29 fl3_23 fw3_3 e29 rfl hP (fun H locs hP => ?_)
  refine rw_aload_n X dX3_copyFrom_32 rfl (hl.at 0 rfl) ?_
  refine rw_aload_n X dX3_copyFrom_33 rfl (hl.at 1 rfl) ?_
  obtain ⟨v34, e34, hf⟩ := ob hf
  refine rw_getI X dX3_copyFrom_34 fl3_26 e34 rfl hP ?_
  obtain ⟨S37, e37, hf⟩ := ob hf
  refine rw_putI X dX3_copyFrom_37 fl3_26 fw3_4 e37 rfl hP (fun H locs hP => ?_)
  refine rw_aload_n X dX3_copyFrom_40 rfl (hl.at 0 rfl) ?_
  refine rw_aload_n X dX3_copyFrom_41 rfl (hl.at 1 rfl) ?_
  obtain ⟨v42, e42, hf⟩ := ob hf
  refine rw_getI X dX3_copyFrom_42 fl3_29 e42 rfl hP ?_
  obtain ⟨S45, e45, hf⟩ := ob hf
  refine rw_putI X dX3_copyFrom_45 fl3_29 fw3_5 e45 rfl hP (fun H locs hP => ?_)
  refine rw_aload_n X dX3_copyFrom_48 rfl (hl.at 0 rfl) ?_
  refine rw_aload_n X dX3_copyFrom_49 rfl (hl.at 1 rfl) ?_
  obtain ⟨v50, e50, hf⟩ := ob hf
  refine rw_getI X dX3_copyFrom_50 fl3_32 e50 rfl hP ?_
  obtain ⟨S53, e53, hf⟩ := ob hf
  refine rw_putI X dX3_copyFrom_53 fl3_32 fw3_6 e53 rfl hP (fun H locs hP => ?_)
  refine rw_aload_n X dX3_copyFrom_56 rfl (hl.at 0 rfl) ?_
  refine rw_aload_n X dX3_copyFrom_57 rfl (hl.at 1 rfl) ?_
  obtain ⟨v58, e58, hf⟩ := ob hf
  refine rw_getI X dX3_copyFrom_58 fl3_35 e58 rfl hP ?_
  obtain ⟨S61, e61, hf⟩ := ob hf
  refine rw_putI X dX3_copyFrom_61 fl3_35 fw3_7 e61 rfl hP (fun H locs hP => ?_)
  refine rw_aload_n X dX3_copyFrom_64 rfl (hl.at 0 rfl) ?_
  refine rw_aload_n X dX3_copyFrom_65 rfl (hl.at 1 rfl) ?_
  obtain ⟨v66, e66, hf⟩ := ob hf
  refine rw_getI X dX3_copyFrom_66 fl3_38 e66 rfl hP ?_
  obtain ⟨S69, e69, hf⟩ := ob hf
  refine rw_putI X dX3_copyFrom_69 fl3_38 fw3_8 e69 rfl hP (fun H locs hP => ?_)
  refine rw_aload_n X dX3_copyFrom_72 rfl (hl.at 0 rfl) ?_
  refine rw_aload_n X dX3_copyFrom_73 rfl (hl.at 1 rfl) ?_
  obtain ⟨v74, e74, hf⟩ := ob hf
  refine rw_getI X dX3_copyFrom_74 fl3_41 e74 rfl hP ?_
  obtain ⟨S77, e77, hf⟩ := ob hf
  refine rw_putI X dX3_copyFrom_77 fl3_41 fw3_9 e77 rfl hP (fun H locs hP => ?_)
  cases hf
  exact rw_vret X dX3_copyFrom_80 hP
theorem dX7_clear_0 : decode cX7_clear 0 = .ok (.aload_n 0, 1) := by decide +kernel
theorem dX7_clear_1 : decode cX7_clear 1 = .ok (.iconst 0, 1) := by decide +kernel
theorem dX7_clear_2 : decode cX7_clear 2 = .ok (.putfield 15, 3) := by decide +kernel
theorem dX7_clear_5 : decode cX7_clear 5 = .ok (.return_, 1) := by decide +kernel
theorem pyX7_clear : PY yX7_clear 0 := ⟨by decide +kernel, by decide +kernel, by decide +kernel⟩
def fX7_clear (Y : LY) (S : HS) (l0 : Option Nat) : Option (HS) :=
  (pI Y 7 701 l0 0 S).bind fun S2 =>
  some S2
set_option maxRecDepth 100000 in
set_option maxHeartbeats 4000000 in
theorem mX7_clear (l : Launch) {G : GG} {Y : LY} {S : HS} {l0 : Option Nat} {res : HS} (hf : fX7_clear Y S l0 = some res) : MM l yX7_clear cX7_clear 1 none 0 0 G Y S [va_rf l0] res none := by
  refine mm_of2 (plainFor_of_name (by decide +kernel)) (Nat.le_of_ble_eq_true rfl) (c1c (cr _) c1n) ?_
  intro p e R s m args below meth c X H locs ls hP hl
  have X : Cx p R s m args meth c RX7 cX7_clear 1 0 0 (fun q => q ∈ Y.1) G none := X
  have hx := X.1.1
  have hb := X.1.2.1
  have hl : LV ls 1 [(0, va_rf l0)] := hl
  unfold fX7_clear at hf
  refine rw_aload_n X dX7_clear_0 rfl (hl.at 0 rfl) ?_
  refine lv_iconst (v := 0) hx hb dX7_clear_1 (by decide) ?_
  obtain ⟨S2, e2, hf⟩ := ob hf
  refine rw_putI X dX7_clear_2 fl7_15 fw7_1 e2 rfl hP (fun H locs hP => ?_)
  cases hf
  exact rw_vret X dX7_clear_5 hP
theorem dX7_add_0 : decode cX7_add 0 = .ok (.aload_n 0, 1) := by decide +kernel
theorem dX7_add_1 : decode cX7_add 1 = .ok (.getfield 15, 3) := by decide +kernel
theorem dX7_add_4 : decode cX7_add 4 = .ok (.aload_n 0, 1) := by decide +kernel
theorem dX7_add_5 : decode cX7_add 5 = .ok (.getfield 9, 3) := by decide +kernel
theorem dX7_add_8 : decode cX7_add 8 = .ok (.arraylength, 1) := by decide +kernel
theorem dX7_add_9 : decode cX7_add 9 = .ok (.if_icmp .ge 23, 3) := by decide +kernel
theorem dX7_add_12 : decode cX7_add 12 = .ok (.aload_n 0, 1) := by decide +kernel
theorem dX7_add_13 : decode cX7_add 13 = .ok (.getfield 9, 3) := by decide +kernel
theorem dX7_add_16 : decode cX7_add 16 = .ok (.aload_n 0, 1) := by decide +kernel
theorem dX7_add_17 : decode cX7_add 17 = .ok (.getfield 15, 3) := by decide +kernel
theorem dX7_add_20 : decode cX7_add 20 = .ok (.iload_n 1, 1) := by decide +kernel
theorem dX7_add_21 : decode cX7_add 21 = .ok (.castore, 1) := by decide +kernel
theorem dX7_add_22 : decode cX7_add 22 = .ok (.aload_n 0, 1) := by decide +kernel
theorem dX7_add_23 : decode cX7_add 23 = .ok (.dup, 1) := by decide +kernel
theorem dX7_add_24 : decode cX7_add 24 = .ok (.getfield 15, 3) := by decide +kernel
theorem dX7_add_27 : decode cX7_add 27 = .ok (.iconst 1, 1) := by decide +kernel
theorem dX7_add_28 : decode cX7_add 28 = .ok (.iadd, 1) := by decide +kernel
theorem dX7_add_29 : decode cX7_add 29 = .ok (.putfield 15, 3) := by decide +kernel
theorem dX7_add_32 : decode cX7_add 32 = .ok (.return_, 1) := by decide +kernel
theorem pyX7_add : PY yX7_add 1 := ⟨by decide +kernel, by decide +kernel, by decide +kernel⟩
def fX7_add (Y : LY) (S : HS) (l0 : Option Nat) (l1 : Int32) : Option (HS) :=
  (gI Y 7 701 l0 S).bind fun v1 =>
  (gR Y 7 700 l0 S).bind fun v5 =>
  (aL Y 13 v5).bind fun v8 =>
  if v8 ≤ v1 then
    some S
  else
    (gR Y 7 700 l0 S).bind fun v13 =>
    (gI Y 7 701 l0 S).bind fun v17 =>
    (pA Y 13 v13 v17 (vp_nar .char l1) S).bind fun S21 =>
    (gI Y 7 701 l0 S21).bind fun v24 =>
    (pI Y 7 701 l0 (v24 + 1) S21).bind fun S29 =>
    some S29
set_option maxRecDepth 100000 in
set_option maxHeartbeats 4000000 in
theorem mX7_add (l : Launch) {G : GG} {Y : LY} {S : HS} {l0 : Option Nat} {l1 : Int32} {res : HS} (hf : fX7_add Y S l0 l1 = some res) : MM l yX7_add cX7_add 2 none 0 0 G Y S [va_rf l0, .int l1] res none := by
  refine mm_of2 (plainFor_of_name (by decide +kernel)) (Nat.le_of_ble_eq_true rfl) (c1c (cr _) (c1c (ci _) c1n)) ?_
  intro p e R s m args below meth c X H locs ls hP hl
  have X : Cx p R s m args meth c RX7 cX7_add 2 0 0 (fun q => q ∈ Y.1) G none := X
  have hx := X.1.1
  have hb := X.1.2.1
  have hl : LV ls 2 [(0, va_rf l0), (1, .int l1)] := hl
  unfold fX7_add at hf
  refine rw_aload_n X dX7_add_0 rfl (hl.at 0 rfl) ?_
  obtain ⟨v1, e1, hf⟩ := ob hf
  refine rw_getI X dX7_add_1 fl7_15 e1 rfl hP ?_
  refine rw_aload_n X dX7_add_4 rfl (hl.at 0 rfl) ?_
  obtain ⟨v5, e5, hf⟩ := ob hf
  refine rw_getR X dX7_add_5 fl7_9 e5 rfl hP ?_
  obtain ⟨v8, e8, hf⟩ := ob hf
  refine rw_alen X (by decide) dX7_add_8 e8 hP ?_
  refine lv_icmp_ge hx hb (tgt := 32) dX7_add_9 (by decide) (fun c9 => ?_) (fun c9 => ?_)
  · have hf := ifp hf c9
    cases hf
    exact rw_vret X dX7_add_32 hP
  · have hf := ifn hf c9
    refine rw_aload_n X dX7_add_12 rfl (hl.at 0 rfl) ?_
    obtain ⟨v13, e13, hf⟩ := ob hf
    refine rw_getR X dX7_add_13 fl7_9 e13 rfl hP ?_
    refine rw_aload_n X dX7_add_16 rfl (hl.at 0 rfl) ?_
    obtain ⟨v17, e17, hf⟩ := ob hf
    refine rw_getI X dX7_add_17 fl7_15 e17 rfl hP ?_
    refine lv_iload_n hx hb dX7_add_20 rfl (hl.at 1 rfl) ?_
    obtain ⟨S21, e21, hf⟩ := ob hf
    refine rw_cast X dX7_add_21 e21 hP (fun H locs hP => ?_)
    refine rw_aload_n X dX7_add_22 rfl (hl.at 0 rfl) ?_
    refine lv_dup hx hb dX7_add_23 (cr _) ?_
    obtain ⟨v24, e24, hf⟩ := ob hf
    refine rw_getI X dX7_add_24 fl7_15 e24 rfl hP ?_
    refine lv_iconst (v := 1) hx hb dX7_add_27 (by decide) ?_
    refine lv_iadd hx hb dX7_add_28 ?_
    obtain ⟨S29, e29, hf⟩ := ob hf
    refine rw_putI X dX7_add_29 fl7_15 fw7_1 e29 rfl hP (fun H locs hP => ?_)
    cases hf
    exact rw_vret X dX7_add_32 hP
theorem dX7_codeAt_0 : decode cX7_codeAt 0 = .ok (.iload_n 1, 1) := by decide +kernel
theorem dX7_codeAt_1 : decode cX7_codeAt 1 = .ok (.ifCond .lt 20, 3) := by decide +kernel
theorem dX7_codeAt_4 : decode cX7_codeAt 4 = .ok (.iload_n 1, 1) := by decide +kernel
theorem dX7_codeAt_5 : decode cX7_codeAt 5 = .ok (.aload_n 0, 1) := by decide +kernel
theorem dX7_codeAt_6 : decode cX7_codeAt 6 = .ok (.getfield 15, 3) := by decide +kernel
theorem dX7_codeAt_9 : decode cX7_codeAt 9 = .ok (.if_icmp .ge 12, 3) := by decide +kernel
theorem dX7_codeAt_12 : decode cX7_codeAt 12 = .ok (.iload_n 1, 1) := by decide +kernel
theorem dX7_codeAt_13 : decode cX7_codeAt 13 = .ok (.aload_n 0, 1) := by decide +kernel
theorem dX7_codeAt_14 : decode cX7_codeAt 14 = .ok (.getfield 9, 3) := by decide +kernel
theorem dX7_codeAt_17 : decode cX7_codeAt 17 = .ok (.arraylength, 1) := by decide +kernel
theorem dX7_codeAt_18 : decode cX7_codeAt 18 = .ok (.if_icmp .lt 7, 3) := by decide +kernel
theorem dX7_codeAt_21 : decode cX7_codeAt 21 = .ok (.iconst (-1), 1) := by decide +kernel
theorem dX7_codeAt_22 : decode cX7_codeAt 22 = .ok (.goto 9, 3) := by decide +kernel
theorem dX7_codeAt_25 : decode cX7_codeAt 25 = .ok (.aload_n 0, 1) := by decide +kernel
theorem dX7_codeAt_26 : decode cX7_codeAt 26 = .ok (.getfield 9, 3) := by decide +kernel
theorem dX7_codeAt_29 : decode cX7_codeAt 29 = .ok (.iload_n 1, 1) := by decide +kernel
theorem dX7_codeAt_30 : decode cX7_codeAt 30 = .ok (.caload, 1) := by decide +kernel
theorem dX7_codeAt_31 : decode cX7_codeAt 31 = .ok (.ireturn, 1) := by decide +kernel
theorem pyX7_codeAt : PY yX7_codeAt 1 := ⟨by decide +kernel, by decide +kernel, by decide +kernel⟩
def fX7_codeAt (Y : LY) (S : HS) (l0 : Option Nat) (l1 : Int32) : Option (Int32) :=
  if l1 < 0 then
    some (-1)
  else
    (gI Y 7 701 l0 S).bind fun v6 =>
    if v6 ≤ l1 then
      some (-1)
    else
      (gR Y 7 700 l0 S).bind fun v14 =>
      (aL Y 13 v14).bind fun v17 =>
      if l1 < v17 then
        (gR Y 7 700 l0 S).bind fun v26 =>
        (gA Y 13 v26 l1 S).bind fun v30 =>
        some v30
      else
        some (-1)
set_option maxRecDepth 100000 in
set_option maxHeartbeats 4000000 in
theorem mX7_codeAt (l : Launch) {G : GG} {Y : LY} {S : HS} {l0 : Option Nat} {l1 : Int32} {res : Int32} (hf : fX7_codeAt Y S l0 l1 = some res) : MM l yX7_codeAt cX7_codeAt 2 (some .int) 0 0 G Y S [va_rf l0, .int l1] S (some (.int res)) := by
  refine mm_of2 (plainFor_of_name (by decide +kernel)) (Nat.le_of_ble_eq_true rfl) (c1c (cr _) (c1c (ci _) c1n)) ?_
  intro p e R s m args below meth c X H locs ls hP hl
  have X : Cx p R s m args meth c RX7 cX7_codeAt 2 0 0 (fun q => q ∈ Y.1) G (some .int) := X
  have hx := X.1.1
  have hb := X.1.2.1
  have hl : LV ls 2 [(0, va_rf l0), (1, .int l1)] := hl
  unfold fX7_codeAt at hf
  refine lv_iload_n hx hb dX7_codeAt_0 rfl (hl.at 1 rfl) ?_
  refine lv_if_lt hx hb (tgt := 21) dX7_codeAt_1 (by decide) (fun c1 => ?_) (fun c1 => ?_)
  · have hf := ifp hf c1
    refine lv_iconst (v := (-1)) hx hb dX7_codeAt_21 (by decide) ?_
    refine lv_goto (tgt := 31) hx hb dX7_codeAt_22 (by decide) ?_
    cases hf
    exact rw_iret X dX7_codeAt_31 hP
  · have hf := ifn hf c1
    refine lv_iload_n hx hb dX7_codeAt_4 rfl (hl.at 1 rfl) ?_
    refine rw_aload_n X dX7_codeAt_5 rfl (hl.at 0 rfl) ?_
    obtain ⟨v6, e6, hf⟩ := ob hf
    refine rw_getI X dX7_codeAt_6 fl7_15 e6 rfl hP ?_
    refine lv_icmp_ge hx hb (tgt := 21) dX7_codeAt_9 (by decide) (fun c9 => ?_) (fun c9 => ?_)
    · have hf := ifp hf c9
      refine lv_iconst (v := (-1)) hx hb dX7_codeAt_21 (by decide) ?_
      refine lv_goto (tgt := 31) hx hb dX7_codeAt_22 (by decide) ?_
      cases hf
      exact rw_iret X dX7_codeAt_31 hP
    · have hf := ifn hf c9
      refine lv_iload_n hx hb dX7_codeAt_12 rfl (hl.at 1 rfl) ?_
      refine rw_aload_n X dX7_codeAt_13 rfl (hl.at 0 rfl) ?_
      obtain ⟨v14, e14, hf⟩ := ob hf
      refine rw_getR X dX7_codeAt_14 fl7_9 e14 rfl hP ?_
      obtain ⟨v17, e17, hf⟩ := ob hf
      refine rw_alen X (by decide) dX7_codeAt_17 e17 hP ?_
      refine lv_icmp_lt hx hb (tgt := 25) dX7_codeAt_18 (by decide) (fun c18 => ?_) (fun c18 => ?_)
      · have hf := ifp hf c18
        refine rw_aload_n X dX7_codeAt_25 rfl (hl.at 0 rfl) ?_
        obtain ⟨v26, e26, hf⟩ := ob hf
        refine rw_getR X dX7_codeAt_26 fl7_9 e26 rfl hP ?_
        refine lv_iload_n hx hb dX7_codeAt_29 rfl (hl.at 1 rfl) ?_
        obtain ⟨v30, e30, hf⟩ := ob hf
        refine rw_cald X dX7_codeAt_30 e30 hP ?_
        cases hf
        exact rw_iret X dX7_codeAt_31 hP
      · have hf := ifn hf c18
        refine lv_iconst (v := (-1)) hx hb dX7_codeAt_21 (by decide) ?_
        refine lv_goto (tgt := 31) hx hb dX7_codeAt_22 (by decide) ?_
        cases hf
        exact rw_iret X dX7_codeAt_31 hP
