/-! printed by gen_alloc.py: constructors, readTree, write -/
theorem dX1_init_0 : decode cX1_init 0 = .ok (.aload_n 0, 1) := by decide +kernel
theorem dX1_init_1 : decode cX1_init 1 = .ok (.invokespecial 1, 3) := by decide +kernel
theorem dX1_init_4 : decode cX1_init 4 = .ok (.aload_n 0, 1) := by decide +kernel
theorem dX1_init_5 : decode cX1_init 5 = .ok (.iconst 0, 1) := by decide +kernel
theorem dX1_init_6 : decode cX1_init 6 = .ok (.putfield 7, 3) := by decide +kernel
theorem dX1_init_9 : decode cX1_init 9 = .ok (.aload_n 0, 1) := by decide +kernel
theorem dX1_init_10 : decode cX1_init 10 = .ok (.iconst 0, 1) := by decide +kernel
theorem dX1_init_11 : decode cX1_init 11 = .ok (.putfield 13, 3) := by decide +kernel
theorem dX1_init_14 : decode cX1_init 14 = .ok (.aload_n 0, 1) := by decide +kernel
theorem dX1_init_15 : decode cX1_init 15 = .ok (.bipush 32, 2) := by decide +kernel
theorem dX1_init_17 : decode cX1_init 17 = .ok (.putfield 17, 3) := by decide +kernel
theorem dX1_init_20 : decode cX1_init 20 = .ok (.aload_n 0, 1) := by decide +kernel
theorem dX1_init_21 : decode cX1_init 21 = .ok (.iconst 0, 1) := by decide +kernel
theorem dX1_init_22 : decode cX1_init 22 = .ok (.putfield 21, 3) := by decide +kernel
theorem dX1_init_25 : decode cX1_init 25 = .ok (.aload_n 0, 1) := by decide +kernel
theorem dX1_init_26 : decode cX1_init 26 = .ok (.aconst_null, 1) := by decide +kernel
theorem dX1_init_27 : decode cX1_init 27 = .ok (.putfield 24, 3) := by decide +kernel
theorem dX1_init_30 : decode cX1_init 30 = .ok (.return_, 1) := by decide +kernel
theorem pyX1_init : PY yX1_init 0 := ⟨by decide +kernel, by decide +kernel, by decide +kernel⟩
def fX1_init (Y : LY) (S : HS) (l0 : Option Nat) : Option (HS) :=
  if l0 = none then none else
  (pZ Y 1 100 l0 0 S).bind fun S6 =>
  (pI Y 1 101 l0 0 S6).bind fun S11 =>
  (pC Y 1 102 l0 32 S11).bind fun S17 =>
  (pI Y 1 103 l0 0 S17).bind fun S22 =>
  (pR Y 1 104 l0 none S22).bind fun S27 =>
  some S27
set_option maxRecDepth 100000 in
set_option maxHeartbeats 4000000 in
theorem mX1_init (l : Launch) {G : GG} {Y : LY} {S : HS} {l0 : Option Nat} {res : HS} (hf : fX1_init Y S l0 = some res) : MM l yX1_init cX1_init 1 none 1 40 G Y S [va_rf l0] res none := by
  refine mm_of3 (plainFor_of_name (by decide +kernel)) (Nat.le_of_ble_eq_true rfl) (c1c (cr _) c1n) ?_
  intro p e R s m args below meth c X hname H locs ls hP hl
  have X : Cx p R s m args meth c RX1 cX1_init 1 1 40 (fun q => q ∈ Y.1) G none := X
  have hx := X.1.1
  have hb := X.1.2.1
  have hl : LV ls 1 [(0, va_rf l0)] := hl
  unfold fX1_init at hf
  refine rw_aload_n X dX1_init_0 rfl (hl.at 0 rfl) ?_
  by_cases c1 : l0 = none
  · exact absurd (ifp hf c1) (fun h => by cases h)
  have hf := ifn hf c1
  refine rw_objI X oiX1 c1 ⟨Nat.le_of_ble_eq_true rfl, Nat.le_of_ble_eq_true rfl⟩ c1n hl.1.1 dX1_init_1 ?_
  refine rw_aload_n X dX1_init_4 rfl (hl.at 0 rfl) ?_
  refine lv_iconst (v := 0) hx hb dX1_init_5 (by decide) ?_
  obtain ⟨S6, e6, hf⟩ := ob hf
  refine rw_putZ X dX1_init_6 fl1_7 fw1_0 e6 rfl hP (fun H locs hP => ?_)
  refine rw_aload_n X dX1_init_9 rfl (hl.at 0 rfl) ?_
  refine lv_iconst (v := 0) hx hb dX1_init_10 (by decide) ?_
  obtain ⟨S11, e11, hf⟩ := ob hf
  refine rw_putI X dX1_init_11 fl1_13 fw1_1 e11 rfl hP (fun H locs hP => ?_)
  refine rw_aload_n X dX1_init_14 rfl (hl.at 0 rfl) ?_
  refine lv_bipush (v := 32) hx hb dX1_init_15 (by decide) ?_
  obtain ⟨S17, e17, hf⟩ := ob hf
  refine rw_putC X dX1_init_17 fl1_17 fw1_2 e17 rfl hP (fun H locs hP => ?_)
  refine rw_aload_n X dX1_init_20 rfl (hl.at 0 rfl) ?_
  refine lv_iconst (v := 0) hx hb dX1_init_21 (by decide) ?_
  obtain ⟨S22, e22, hf⟩ := ob hf
  refine rw_putI X dX1_init_22 fl1_21 fw1_3 e22 rfl hP (fun H locs hP => ?_)
  refine rw_aload_n X dX1_init_25 rfl (hl.at 0 rfl) ?_
  refine lv_null hx hb dX1_init_26 ?_
  refine W.eq (g2 := F0 m 27 ls (va_rf none :: (va_rf l0 :: []))) rfl ?_
  obtain ⟨S27, e27, hf⟩ := ob hf
  refine rw_putR X dX1_init_27 fl1_24 fw1_4 e27 rfl hP (fun H locs hP => ?_)
  cases hf
  exact rw_vret X dX1_init_30 hP
theorem dX3_init_0 : decode cX3_init 0 = .ok (.aload_n 0, 1) := by decide +kernel
theorem dX3_init_1 : decode cX3_init 1 = .ok (.invokespecial 3, 3) := by decide +kernel
theorem dX3_init_4 : decode cX3_init 4 = .ok (.aload_n 0, 1) := by decide +kernel
theorem dX3_init_5 : decode cX3_init 5 = .ok (.iconst 0, 1) := by decide +kernel
theorem dX3_init_6 : decode cX3_init 6 = .ok (.putfield 9, 3) := by decide +kernel
theorem dX3_init_9 : decode cX3_init 9 = .ok (.aload_n 0, 1) := by decide +kernel
theorem dX3_init_10 : decode cX3_init 10 = .ok (.iconst 0, 1) := by decide +kernel
theorem dX3_init_11 : decode cX3_init 11 = .ok (.putfield 15, 3) := by decide +kernel
theorem dX3_init_14 : decode cX3_init 14 = .ok (.aload_n 0, 1) := by decide +kernel
theorem dX3_init_15 : decode cX3_init 15 = .ok (.aconst_null, 1) := by decide +kernel
theorem dX3_init_16 : decode cX3_init 16 = .ok (.putfield 19, 3) := by decide +kernel
theorem dX3_init_19 : decode cX3_init 19 = .ok (.aload_n 0, 1) := by decide +kernel
theorem dX3_init_20 : decode cX3_init 20 = .ok (.iconst 0, 1) := by decide +kernel
theorem dX3_init_21 : decode cX3_init 21 = .ok (.putfield 23, 3) := by decide +kernel
theorem dX3_init_24 : decode cX3_init 24 = .ok (.aload_n 0, 1) := by decide +kernel
theorem dX3_init_25 : decode cX3_init 25 = .ok (.iconst 0, 1) := by decide +kernel
theorem dX3_init_26 : decode cX3_init 26 = .ok (.putfield 26, 3) := by decide +kernel
theorem dX3_init_29 : decode cX3_init 29 = .ok (.aload_n 0, 1) := by decide +kernel
theorem dX3_init_30 : decode cX3_init 30 = .ok (.iconst 0, 1) := by decide +kernel
theorem dX3_init_31 : decode cX3_init 31 = .ok (.putfield 29, 3) := by decide +kernel
theorem dX3_init_34 : decode cX3_init 34 = .ok (.aload_n 0, 1) := by decide +kernel
theorem dX3_init_35 : decode cX3_init 35 = .ok (.iconst 0, 1) := by decide +kernel
theorem dX3_init_36 : decode cX3_init 36 = .ok (.putfield 32, 3) := by decide +kernel
theorem dX3_init_39 : decode cX3_init 39 = .ok (.aload_n 0, 1) := by decide +kernel
theorem dX3_init_40 : decode cX3_init 40 = .ok (.iconst 0, 1) := by decide +kernel
theorem dX3_init_41 : decode cX3_init 41 = .ok (.putfield 35, 3) := by decide +kernel
theorem dX3_init_44 : decode cX3_init 44 = .ok (.aload_n 0, 1) := by decide +kernel
theorem dX3_init_45 : decode cX3_init 45 = .ok (.iconst 0, 1) := by decide +kernel
theorem dX3_init_46 : decode cX3_init 46 = .ok (.putfield 38, 3) := by decide +kernel
theorem dX3_init_49 : decode cX3_init 49 = .ok (.aload_n 0, 1) := by decide +kernel
theorem dX3_init_50 : decode cX3_init 50 = .ok (.iconst 0, 1) := by decide +kernel
theorem dX3_init_51 : decode cX3_init 51 = .ok (.putfield 41, 3) := by decide +kernel
theorem dX3_init_54 : decode cX3_init 54 = .ok (.return_, 1) := by decide +kernel
theorem pyX3_init : PY yX3_init 0 := ⟨by decide +kernel, by decide +kernel, by decide +kernel⟩
def fX3_init (Y : LY) (S : HS) (l0 : Option Nat) : Option (HS) :=
  if l0 = none then none else
  (pZ Y 3 300 l0 0 S).bind fun S6 =>
  (pI Y 3 301 l0 0 S6).bind fun S11 =>
  (pR Y 3 302 l0 none S11).bind fun S16 =>
  (pI Y 3 303 l0 0 S16).bind fun S21 =>
  (pI Y 3 304 l0 0 S21).bind fun S26 =>
  (pI Y 3 305 l0 0 S26).bind fun S31 =>
  (pI Y 3 306 l0 0 S31).bind fun S36 =>
  (pI Y 3 307 l0 0 S36).bind fun S41 =>
  (pI Y 3 308 l0 0 S41).bind fun S46 =>
  (pI Y 3 309 l0 0 S46).bind fun S51 =>
  some S51
set_option maxRecDepth 100000 in
set_option maxHeartbeats 4000000 in
theorem mX3_init (l : Launch) {G : GG} {Y : LY} {S : HS} {l0 : Option Nat} {res : HS} (hf : fX3_init Y S l0 = some res) : MM l yX3_init cX3_init 1 none 1 40 G Y S [va_rf l0] res none := by
  refine mm_of3 (plainFor_of_name (by decide +kernel)) (Nat.le_of_ble_eq_true rfl) (c1c (cr _) c1n) ?_
  intro p e R s m args below meth c X hname H locs ls hP hl
  have X : Cx p R s m args meth c RX3 cX3_init 1 1 40 (fun q => q ∈ Y.1) G none := X
  have hx := X.1.1
  have hb := X.1.2.1
  have hl : LV ls 1 [(0, va_rf l0)] := hl
  unfold fX3_init at hf
  refine rw_aload_n X dX3_init_0 rfl (hl.at 0 rfl) ?_
  by_cases c1 : l0 = none
  · exact absurd (ifp hf c1) (fun h => by cases h)
  have hf := ifn hf c1
  refine rw_objI X oiX3 c1 ⟨Nat.le_of_ble_eq_true rfl, Nat.le_of_ble_eq_true rfl⟩ c1n hl.1.1 dX3_init_1 ?_
  refine rw_aload_n X dX3_init_4 rfl (hl.at 0 rfl) ?_
  refine lv_iconst (v := 0) hx hb dX3_init_5 (by decide) ?_
  obtain ⟨S6, e6, hf⟩ := ob hf
  refine rw_putZ X dX3_init_6 fl3_9 fw3_0 e6 rfl hP (fun H locs hP => ?_)
  refine rw_aload_n X dX3_init_9 rfl (hl.at 0 rfl) ?_
  refine lv_iconst (v := 0) hx hb dX3_init_10 (by decide) ?_
  obtain ⟨S11, e11, hf⟩ := ob hf
  refine rw_putI X dX3_init_11 fl3_15 fw3_1 e11 rfl hP (fun H locs hP => ?_)
  refine rw_aload_n X dX3_init_14 rfl (hl.at 0 rfl) ?_
  refine lv_null hx hb dX3_init_15 ?_
  refine W.eq (g2 := F0 m 16 ls (va_rf none :: (va_rf l0 :: []))) rfl ?_
  obtain ⟨S16, e16, hf⟩ := ob hf
  refine rw_putR X dX3_init_16 fl3_19 fw3_2 e16 rfl hP (fun H locs hP => ?_)
  refine rw_aload_n X dX3_init_19 rfl (hl.at 0 rfl) ?_
  refine lv_iconst (v := 0) hx hb dX3_init_20 (by decide) ?_
  obtain ⟨S21, e21, hf⟩ := ob hf
  refine rw_putI X dX3_init_21 fl3_23 fw3_3 e21 rfl hP (fun H locs hP => ?_)
  refine rw_aload_n X dX3_init_24 rfl (hl.at 0 rfl) ?_
  refine lv_iconst (v := 0) hx hb dX3_init_25 (by decide) ?_
  obtain ⟨S26, e26, hf⟩ := ob hf
  refine rw_putI X dX3_init_26 fl3_26 fw3_4 e26 rfl hP (fun H locs hP => ?_)
  refine rw_aload_n X dX3_init_29 rfl (hl.at 0 rfl) ?_
  refine lv_iconst (v := 0) hx hb dX3_init_30 (by decide) ?_
  obtain ⟨S31, e31, hf⟩ := ob hf
  refine rw_putI X dX3_init_31 fl3_29 fw3_5 e31 rfl hP (fun H locs hP => ?_)
  refine rw_aload_n X dX3_init_34 rfl (hl.at 0 rfl) ?_
  refine lv_iconst (v := 0) hx hb dX3_init_35 (by decide) ?_
  obtain ⟨S36, e36, hf⟩ := ob hf
  refine rw_putI X dX3_init_36 fl3_32 fw3_6 e36 rfl hP (fun H locs hP => ?_)
  refine rw_aload_n X dX3_init_39 rfl (hl.at 0 rfl) ?_
  refine lv_iconst (v := 0) hx hb dX3_init_40 (by decide) ?_
  obtain ⟨S41, e41, hf⟩ := ob hf
  refine rw_putI X dX3_init_41 fl3_35 fw3_7 e41 rfl hP (fun H locs hP => ?_)
  refine rw_aload_n X dX3_init_44 rfl (hl.at 0 rfl) ?_
  refine lv_iconst (v := 0) hx hb dX3_init_45 (by decide) ?_
  obtain ⟨S46, e46, hf⟩ := ob hf
  refine rw_putI X dX3_init_46 fl3_38 fw3_8 e46 rfl hP (fun H locs hP => ?_)
  refine rw_aload_n X dX3_init_49 rfl (hl.at 0 rfl) ?_
  refine lv_iconst (v := 0) hx hb dX3_init_50 (by decide) ?_
  obtain ⟨S51, e51, hf⟩ := ob hf
  refine rw_putI X dX3_init_51 fl3_41 fw3_9 e51 rfl hP (fun H locs hP => ?_)
  cases hf
  exact rw_vret X dX3_init_54 hP
theorem dX5_init_0 : decode cX5_init 0 = .ok (.aload_n 0, 1) := by decide +kernel
theorem dX5_init_1 : decode cX5_init 1 = .ok (.invokespecial 3, 3) := by decide +kernel
theorem dX5_init_4 : decode cX5_init 4 = .ok (.aload_n 0, 1) := by decide +kernel
theorem dX5_init_5 : decode cX5_init 5 = .ok (.iconst 0, 1) := by decide +kernel
theorem dX5_init_6 : decode cX5_init 6 = .ok (.putfield 9, 3) := by decide +kernel
theorem dX5_init_9 : decode cX5_init 9 = .ok (.aload_n 0, 1) := by decide +kernel
theorem dX5_init_10 : decode cX5_init 10 = .ok (.aload_n 1, 1) := by decide +kernel
theorem dX5_init_11 : decode cX5_init 11 = .ok (.putfield 15, 3) := by decide +kernel
theorem dX5_init_14 : decode cX5_init 14 = .ok (.aload_n 0, 1) := by decide +kernel
theorem dX5_init_15 : decode cX5_init 15 = .ok (.aload_n 2, 1) := by decide +kernel
theorem dX5_init_16 : decode cX5_init 16 = .ok (.putfield 19, 3) := by decide +kernel
theorem dX5_init_19 : decode cX5_init 19 = .ok (.return_, 1) := by decide +kernel
theorem pyX5_init : PY yX5_init 2 := ⟨by decide +kernel, by decide +kernel, by decide +kernel⟩
def fX5_init (Y : LY) (S : HS) (l0 : Option Nat) (l1 : Option Nat) (l2 : Option Nat) : Option (HS) :=
  if l0 = none then none else
  (pI Y 5 502 l0 0 S).bind fun S6 =>
  (pR Y 5 500 l0 l1 S6).bind fun S11 =>
  (pR Y 5 501 l0 l2 S11).bind fun S16 =>
  some S16
set_option maxRecDepth 100000 in
set_option maxHeartbeats 4000000 in
theorem mX5_init (l : Launch) {G : GG} {Y : LY} {S : HS} {l0 : Option Nat} {l1 : Option Nat} {l2 : Option Nat} {res : HS} (hf : fX5_init Y S l0 l1 l2 = some res) : MM l yX5_init cX5_init 3 none 1 40 G Y S [va_rf l0, va_rf l1, va_rf l2] res none := by
  refine mm_of3 (plainFor_of_name (by decide +kernel)) (Nat.le_of_ble_eq_true rfl) (c1c (cr _) (c1c (cr _) (c1c (cr _) c1n))) ?_
  intro p e R s m args below meth c X hname H locs ls hP hl
  have X : Cx p R s m args meth c RX5 cX5_init 3 1 40 (fun q => q ∈ Y.1) G none := X
  have hx := X.1.1
  have hb := X.1.2.1
  have hl : LV ls 3 [(0, va_rf l0), (1, va_rf l1), (2, va_rf l2)] := hl
  unfold fX5_init at hf
  refine rw_aload_n X dX5_init_0 rfl (hl.at 0 rfl) ?_
  by_cases c1 : l0 = none
  · exact absurd (ifp hf c1) (fun h => by cases h)
  have hf := ifn hf c1
  refine rw_objI X oiX5 c1 ⟨Nat.le_of_ble_eq_true rfl, Nat.le_of_ble_eq_true rfl⟩ c1n hl.1.1 dX5_init_1 ?_
  refine rw_aload_n X dX5_init_4 rfl (hl.at 0 rfl) ?_
  refine lv_iconst (v := 0) hx hb dX5_init_5 (by decide) ?_
  obtain ⟨S6, e6, hf⟩ := ob hf
  refine rw_putI X dX5_init_6 fl5_9 fw5_2 e6 rfl hP (fun H locs hP => ?_)
  refine rw_aload_n X dX5_init_9 rfl (hl.at 0 rfl) ?_
  refine rw_aload_n X dX5_init_10 rfl (hl.at 1 rfl) ?_
  obtain ⟨S11, e11, hf⟩ := ob hf
  refine rw_putzR X hname rfl dX5_init_11 fz5_15 e11 rfl hP (fun H locs hP => ?_)
  refine rw_aload_n X dX5_init_14 rfl (hl.at 0 rfl) ?_
  refine rw_aload_n X dX5_init_15 rfl (hl.at 2 rfl) ?_
  obtain ⟨S16, e16, hf⟩ := ob hf
  refine rw_putzR X hname rfl dX5_init_16 fz5_19 e16 rfl hP (fun H locs hP => ?_)
  cases hf
  exact rw_vret X dX5_init_19 hP
theorem dX10_init_0 : decode cX10_init 0 = .ok (.aload_n 0, 1) := by decide +kernel
theorem dX10_init_1 : decode cX10_init 1 = .ok (.invokespecial 3, 3) := by decide +kernel
theorem dX10_init_4 : decode cX10_init 4 = .ok (.aload_n 0, 1) := by decide +kernel
theorem dX10_init_5 : decode cX10_init 5 = .ok (.aload_n 1, 1) := by decide +kernel
theorem dX10_init_6 : decode cX10_init 6 = .ok (.putfield 9, 3) := by decide +kernel
theorem dX10_init_9 : decode cX10_init 9 = .ok (.aload_n 0, 1) := by decide +kernel
theorem dX10_init_10 : decode cX10_init 10 = .ok (.aload_n 2, 1) := by decide +kernel
theorem dX10_init_11 : decode cX10_init 11 = .ok (.putfield 15, 3) := by decide +kernel
theorem dX10_init_14 : decode cX10_init 14 = .ok (.return_, 1) := by decide +kernel
theorem pyX10_init : PY yX10_init 2 := ⟨by decide +kernel, by decide +kernel, by decide +kernel⟩
def fX10_init (Y : LY) (S : HS) (l0 : Option Nat) (l1 : Option Nat) (l2 : Option Nat) : Option (HS) :=
  if l0 = none then none else
  (pR Y 10 1000 l0 l1 S).bind fun S6 =>
  (pR Y 10 1001 l0 l2 S6).bind fun S11 =>
  some S11
set_option maxRecDepth 100000 in
set_option maxHeartbeats 4000000 in
theorem mX10_init (l : Launch) {G : GG} {Y : LY} {S : HS} {l0 : Option Nat} {l1 : Option Nat} {l2 : Option Nat} {res : HS} (hf : fX10_init Y S l0 l1 l2 = some res) : MM l yX10_init cX10_init 3 none 1 40 G Y S [va_rf l0, va_rf l1, va_rf l2] res none := by
  refine mm_of3 (plainFor_of_name (by decide +kernel)) (Nat.le_of_ble_eq_true rfl) (c1c (cr _) (c1c (cr _) (c1c (cr _) c1n))) ?_
  intro p e R s m args below meth c X hname H locs ls hP hl
  have X : Cx p R s m args meth c RX10 cX10_init 3 1 40 (fun q => q ∈ Y.1) G none := X
  have hx := X.1.1
  have hb := X.1.2.1
  have hl : LV ls 3 [(0, va_rf l0), (1, va_rf l1), (2, va_rf l2)] := hl
  unfold fX10_init at hf
  refine rw_aload_n X dX10_init_0 rfl (hl.at 0 rfl) ?_
  by_cases c1 : l0 = none
  · exact absurd (ifp hf c1) (fun h => by cases h)
  have hf := ifn hf c1
  refine rw_objI X oiX10 c1 ⟨Nat.le_of_ble_eq_true rfl, Nat.le_of_ble_eq_true rfl⟩ c1n hl.1.1 dX10_init_1 ?_
  refine rw_aload_n X dX10_init_4 rfl (hl.at 0 rfl) ?_
  refine rw_aload_n X dX10_init_5 rfl (hl.at 1 rfl) ?_
  obtain ⟨S6, e6, hf⟩ := ob hf
  refine rw_putzR X hname rfl dX10_init_6 fz10_9 e6 rfl hP (fun H locs hP => ?_)
  refine rw_aload_n X dX10_init_9 rfl (hl.at 0 rfl) ?_
  refine rw_aload_n X dX10_init_10 rfl (hl.at 2 rfl) ?_
  obtain ⟨S11, e11, hf⟩ := ob hf
  refine rw_putzR X hname rfl dX10_init_11 fz10_15 e11 rfl hP (fun H locs hP => ?_)
  cases hf
  exact rw_vret X dX10_init_14 hP
theorem dX0_init_0 : decode cX0_init 0 = .ok (.aload_n 0, 1) := by decide +kernel
theorem dX0_init_1 : decode cX0_init 1 = .ok (.invokespecial 3, 3) := by decide +kernel
theorem dX0_init_4 : decode cX0_init 4 = .ok (.aload_n 0, 1) := by decide +kernel
theorem dX0_init_5 : decode cX0_init 5 = .ok (.bipush 8, 2) := by decide +kernel
theorem dX0_init_7 : decode cX0_init 7 = .ok (.newarray .int, 2) := by decide +kernel
theorem dX0_init_9 : decode cX0_init 9 = .ok (.putfield 9, 3) := by decide +kernel
theorem dX0_init_12 : decode cX0_init 12 = .ok (.return_, 1) := by decide +kernel
theorem pyX0_init : PY yX0_init 0 := ⟨by decide +kernel, by decide +kernel, by decide +kernel⟩
def fX0_init (Y : LY) (S : HS) (N : Nat × Nat) (l0 : Option Nat) : Option (LY × HS × (Nat × Nat)) :=
  if l0 = none then none else
  (newA (N.1 + 1, N.2 + 8) 14 8 Y S N).bind fun q7 =>
  (pR q7.2.1 0 0 l0 (some q7.1) q7.2.2.1).bind fun S9 =>
  some (q7.2.1, S9, q7.2.2.2)
set_option maxRecDepth 100000 in
set_option maxHeartbeats 4000000 in
theorem mX0_init (l : Launch) {G : GG} {Y : LY} {S : HS} {N : Nat × Nat} {l0 : Option Nat} {res : LY × HS × (Nat × Nat)} (hf : fX0_init Y S N l0 = some res) : MA l yX0_init cX0_init 1 none 1 40 1 8 G Y S N [va_rf l0] res.1 res.2.1 res.2.2 none := by
  refine ma_of (plainFor_of_name (by decide +kernel)) (Nat.le_of_ble_eq_true rfl) (c1c (cr _) c1n) ?_
  intro p e R s m args below meth c X hname H locs ls hA hl
  have X : Cx p R s m args meth c RX0 cX0_init 1 1 40 (AA Y N) G none := X
  have hx := X.1.1
  have hb := X.1.2.1
  have hP := hA.1
  have hcp : (N.1 + 1, N.2 + 8).1 = N.1 + 1 ∧ (N.1 + 1, N.2 + 8).2 = N.2 + 8 := ⟨rfl, rfl⟩
  have hl : LV ls 1 [(0, va_rf l0)] := hl
  unfold fX0_init at hf
  refine rw_aload_n X dX0_init_0 rfl (hl.at 0 rfl) ?_
  by_cases c1 : l0 = none
  · exact absurd (ifp hf c1) (fun h => by cases h)
  have hf := ifn hf c1
  refine rw_objI X oiX0 c1 ⟨Nat.le_of_ble_eq_true rfl, Nat.le_of_ble_eq_true rfl⟩ c1n hl.1.1 dX0_init_1 ?_
  refine rw_aload_n X dX0_init_4 rfl (hl.at 0 rfl) ?_
  refine lv_bipush (v := 8) hx hb dX0_init_5 (by decide) ?_
  obtain ⟨q7, e7, hf⟩ := ob hf
  refine ra_newa X (by first | exact Or.inl ⟨rfl, rfl⟩ | exact Or.inr ⟨rfl, rfl⟩) dX0_init_7 e7 hA (fun H hA => ?_)
  have hP := hA.1
  obtain ⟨S9, e9, hf⟩ := ob hf
  refine rw_putzR X hname rfl dX0_init_9 fz0_9 e9 rfl hP (fun H locs hP => ?_)
  have hA := hA.put hP
  cases hf
  exact ra_vret X dX0_init_12 hA hcp
theorem dX2_init_0 : decode cX2_init 0 = .ok (.aload_n 0, 1) := by decide +kernel
theorem dX2_init_1 : decode cX2_init 1 = .ok (.invokespecial 3, 3) := by decide +kernel
theorem dX2_init_4 : decode cX2_init 4 = .ok (.aload_n 0, 1) := by decide +kernel
theorem dX2_init_5 : decode cX2_init 5 = .ok (.aconst_null, 1) := by decide +kernel
theorem dX2_init_6 : decode cX2_init 6 = .ok (.putfield 9, 3) := by decide +kernel
theorem dX2_init_9 : decode cX2_init 9 = .ok (.aload_n 0, 1) := by decide +kernel
theorem dX2_init_10 : decode cX2_init 10 = .ok (.iconst 0, 1) := by decide +kernel
theorem dX2_init_11 : decode cX2_init 11 = .ok (.putfield 15, 3) := by decide +kernel
theorem dX2_init_14 : decode cX2_init 14 = .ok (.aload_n 0, 1) := by decide +kernel
theorem dX2_init_15 : decode cX2_init 15 = .ok (.iconst 0, 1) := by decide +kernel
theorem dX2_init_16 : decode cX2_init 16 = .ok (.putfield 19, 3) := by decide +kernel
theorem dX2_init_19 : decode cX2_init 19 = .ok (.aload_n 0, 1) := by decide +kernel
theorem dX2_init_20 : decode cX2_init 20 = .ok (.iconst 0, 1) := by decide +kernel
theorem dX2_init_21 : decode cX2_init 21 = .ok (.putfield 22, 3) := by decide +kernel
theorem dX2_init_24 : decode cX2_init 24 = .ok (.aload_n 0, 1) := by decide +kernel
theorem dX2_init_25 : decode cX2_init 25 = .ok (.iconst 0, 1) := by decide +kernel
theorem dX2_init_26 : decode cX2_init 26 = .ok (.putfield 25, 3) := by decide +kernel
theorem dX2_init_29 : decode cX2_init 29 = .ok (.aload_n 0, 1) := by decide +kernel
theorem dX2_init_30 : decode cX2_init 30 = .ok (.iconst 0, 1) := by decide +kernel
theorem dX2_init_31 : decode cX2_init 31 = .ok (.putfield 28, 3) := by decide +kernel
theorem dX2_init_34 : decode cX2_init 34 = .ok (.aload_n 0, 1) := by decide +kernel
theorem dX2_init_35 : decode cX2_init 35 = .ok (.iconst 0, 1) := by decide +kernel
theorem dX2_init_36 : decode cX2_init 36 = .ok (.putfield 31, 3) := by decide +kernel
theorem dX2_init_39 : decode cX2_init 39 = .ok (.aload_n 0, 1) := by decide +kernel
theorem dX2_init_40 : decode cX2_init 40 = .ok (.iconst 0, 1) := by decide +kernel
theorem dX2_init_41 : decode cX2_init 41 = .ok (.putfield 34, 3) := by decide +kernel
theorem dX2_init_44 : decode cX2_init 44 = .ok (.aload_n 0, 1) := by decide +kernel
theorem dX2_init_45 : decode cX2_init 45 = .ok (.iconst 0, 1) := by decide +kernel
theorem dX2_init_46 : decode cX2_init 46 = .ok (.putfield 37, 3) := by decide +kernel
theorem dX2_init_49 : decode cX2_init 49 = .ok (.aload_n 0, 1) := by decide +kernel
theorem dX2_init_50 : decode cX2_init 50 = .ok (.bipush 30, 2) := by decide +kernel
theorem dX2_init_52 : decode cX2_init 52 = .ok (.newarray .int, 2) := by decide +kernel
theorem dX2_init_54 : decode cX2_init 54 = .ok (.putfield 40, 3) := by decide +kernel
theorem dX2_init_57 : decode cX2_init 57 = .ok (.aload_n 0, 1) := by decide +kernel
theorem dX2_init_58 : decode cX2_init 58 = .ok (.bipush 30, 2) := by decide +kernel
theorem dX2_init_60 : decode cX2_init 60 = .ok (.newarray .int, 2) := by decide +kernel
theorem dX2_init_62 : decode cX2_init 62 = .ok (.putfield 44, 3) := by decide +kernel
theorem dX2_init_65 : decode cX2_init 65 = .ok (.return_, 1) := by decide +kernel
theorem pyX2_init : PY yX2_init 0 := ⟨by decide +kernel, by decide +kernel, by decide +kernel⟩
def fX2_init (Y : LY) (S : HS) (N : Nat × Nat) (l0 : Option Nat) : Option (LY × HS × (Nat × Nat)) :=
  if l0 = none then none else
  (pR Y 2 200 l0 none S).bind fun S6 =>
  (pI Y 2 201 l0 0 S6).bind fun S11 =>
  (pI Y 2 202 l0 0 S11).bind fun S16 =>
  (pI Y 2 203 l0 0 S16).bind fun S21 =>
  (pI Y 2 204 l0 0 S21).bind fun S26 =>
  (pI Y 2 205 l0 0 S26).bind fun S31 =>
  (pI Y 2 206 l0 0 S31).bind fun S36 =>
  (pI Y 2 207 l0 0 S36).bind fun S41 =>
  (pI Y 2 208 l0 0 S41).bind fun S46 =>
  (newA (N.1 + 2, N.2 + 60) 14 30 Y S46 N).bind fun q52 =>
  (pR q52.2.1 2 209 l0 (some q52.1) q52.2.2.1).bind fun S54 =>
  (newA (N.1 + 2, N.2 + 60) 14 30 q52.2.1 S54 q52.2.2.2).bind fun q60 =>
  (pR q60.2.1 2 210 l0 (some q60.1) q60.2.2.1).bind fun S62 =>
  some (q60.2.1, S62, q60.2.2.2)
set_option maxRecDepth 100000 in
set_option maxHeartbeats 4000000 in
theorem mX2_init (l : Launch) {G : GG} {Y : LY} {S : HS} {N : Nat × Nat} {l0 : Option Nat} {res : LY × HS × (Nat × Nat)} (hf : fX2_init Y S N l0 = some res) : MA l yX2_init cX2_init 1 none 1 40 2 60 G Y S N [va_rf l0] res.1 res.2.1 res.2.2 none := by
  refine ma_of (plainFor_of_name (by decide +kernel)) (Nat.le_of_ble_eq_true rfl) (c1c (cr _) c1n) ?_
  intro p e R s m args below meth c X hname H locs ls hA hl
  have X : Cx p R s m args meth c RX2 cX2_init 1 1 40 (AA Y N) G none := X
  have hx := X.1.1
  have hb := X.1.2.1
  have hP := hA.1
  have hcp : (N.1 + 2, N.2 + 60).1 = N.1 + 2 ∧ (N.1 + 2, N.2 + 60).2 = N.2 + 60 := ⟨rfl, rfl⟩
  have hl : LV ls 1 [(0, va_rf l0)] := hl
  unfold fX2_init at hf
  refine rw_aload_n X dX2_init_0 rfl (hl.at 0 rfl) ?_
  by_cases c1 : l0 = none
  · exact absurd (ifp hf c1) (fun h => by cases h)
  have hf := ifn hf c1
  refine rw_objI X oiX2 c1 ⟨Nat.le_of_ble_eq_true rfl, Nat.le_of_ble_eq_true rfl⟩ c1n hl.1.1 dX2_init_1 ?_
  refine rw_aload_n X dX2_init_4 rfl (hl.at 0 rfl) ?_
  refine lv_null hx hb dX2_init_5 ?_
  refine W.eq (g2 := F0 m 6 ls (va_rf none :: (va_rf l0 :: []))) rfl ?_
  obtain ⟨S6, e6, hf⟩ := ob hf
  refine rw_putR X dX2_init_6 fl2_9 fw2_0 e6 rfl hP (fun H locs hP => ?_)
  have hA := hA.put hP
  refine rw_aload_n X dX2_init_9 rfl (hl.at 0 rfl) ?_
  refine lv_iconst (v := 0) hx hb dX2_init_10 (by decide) ?_
  obtain ⟨S11, e11, hf⟩ := ob hf
  refine rw_putI X dX2_init_11 fl2_15 fw2_1 e11 rfl hP (fun H locs hP => ?_)
  have hA := hA.put hP
  refine rw_aload_n X dX2_init_14 rfl (hl.at 0 rfl) ?_
  refine lv_iconst (v := 0) hx hb dX2_init_15 (by decide) ?_
  obtain ⟨S16, e16, hf⟩ := ob hf
  refine rw_putI X dX2_init_16 fl2_19 fw2_2 e16 rfl hP (fun H locs hP => ?_)
  have hA := hA.put hP
  refine rw_aload_n X dX2_init_19 rfl (hl.at 0 rfl) ?_
  refine lv_iconst (v := 0) hx hb dX2_init_20 (by decide) ?_
  obtain ⟨S21, e21, hf⟩ := ob hf
  refine rw_putI X dX2_init_21 fl2_22 fw2_3 e21 rfl hP (fun H locs hP => ?_)
  have hA := hA.put hP
  refine rw_aload_n X dX2_init_24 rfl (hl.at 0 rfl) ?_
  refine lv_iconst (v := 0) hx hb dX2_init_25 (by decide) ?_
  obtain ⟨S26, e26, hf⟩ := ob hf
  refine rw_putI X dX2_init_26 fl2_25 fw2_4 e26 rfl hP (fun H locs hP => ?_)
  have hA := hA.put hP
  refine rw_aload_n X dX2_init_29 rfl (hl.at 0 rfl) ?_
  refine lv_iconst (v := 0) hx hb dX2_init_30 (by decide) ?_
  obtain ⟨S31, e31, hf⟩ := ob hf
  refine rw_putI X dX2_init_31 fl2_28 fw2_5 e31 rfl hP (fun H locs hP => ?_)
  have hA := hA.put hP
  refine rw_aload_n X dX2_init_34 rfl (hl.at 0 rfl) ?_
  refine lv_iconst (v := 0) hx hb dX2_init_35 (by decide) ?_
  obtain ⟨S36, e36, hf⟩ := ob hf
  refine rw_putI X dX2_init_36 fl2_31 fw2_6 e36 rfl hP (fun H locs hP => ?_)
  have hA := hA.put hP
  refine rw_aload_n X dX2_init_39 rfl (hl.at 0 rfl) ?_
  refine lv_iconst (v := 0) hx hb dX2_init_40 (by decide) ?_
  obtain ⟨S41, e41, hf⟩ := ob hf
  refine rw_putI X dX2_init_41 fl2_34 fw2_7 e41 rfl hP (fun H locs hP => ?_)
  have hA := hA.put hP
  refine rw_aload_n X dX2_init_44 rfl (hl.at 0 rfl) ?_
  refine lv_iconst (v := 0) hx hb dX2_init_45 (by decide) ?_
  obtain ⟨S46, e46, hf⟩ := ob hf
  refine rw_putI X dX2_init_46 fl2_37 fw2_8 e46 rfl hP (fun H locs hP => ?_)
  have hA := hA.put hP
  refine rw_aload_n X dX2_init_49 rfl (hl.at 0 rfl) ?_
  refine lv_bipush (v := 30) hx hb dX2_init_50 (by decide) ?_
  obtain ⟨q52, e52, hf⟩ := ob hf
  refine ra_newa X (by first | exact Or.inl ⟨rfl, rfl⟩ | exact Or.inr ⟨rfl, rfl⟩) dX2_init_52 e52 hA (fun H hA => ?_)
  have hP := hA.1
  obtain ⟨S54, e54, hf⟩ := ob hf
  refine rw_putzR X hname rfl dX2_init_54 fz2_40 e54 rfl hP (fun H locs hP => ?_)
  have hA := hA.put hP
  refine rw_aload_n X dX2_init_57 rfl (hl.at 0 rfl) ?_
  refine lv_bipush (v := 30) hx hb dX2_init_58 (by decide) ?_
  obtain ⟨q60, e60, hf⟩ := ob hf
  refine ra_newa X (by first | exact Or.inl ⟨rfl, rfl⟩ | exact Or.inr ⟨rfl, rfl⟩) dX2_init_60 e60 hA (fun H hA => ?_)
  have hP := hA.1
  obtain ⟨S62, e62, hf⟩ := ob hf
  refine rw_putzR X hname rfl dX2_init_62 fz2_44 e62 rfl hP (fun H locs hP => ?_)
  have hA := hA.put hP
  cases hf
  exact ra_vret X dX2_init_65 hA hcp
theorem dX7_init_0 : decode cX7_init 0 = .ok (.aload_n 0, 1) := by decide +kernel
theorem dX7_init_1 : decode cX7_init 1 = .ok (.invokespecial 3, 3) := by decide +kernel
theorem dX7_init_4 : decode cX7_init 4 = .ok (.aload_n 0, 1) := by decide +kernel
theorem dX7_init_5 : decode cX7_init 5 = .ok (.bipush 70, 2) := by decide +kernel
theorem dX7_init_7 : decode cX7_init 7 = .ok (.newarray .char, 2) := by decide +kernel
theorem dX7_init_9 : decode cX7_init 9 = .ok (.putfield 9, 3) := by decide +kernel
theorem dX7_init_12 : decode cX7_init 12 = .ok (.aload_n 0, 1) := by decide +kernel
theorem dX7_init_13 : decode cX7_init 13 = .ok (.iconst 0, 1) := by decide +kernel
theorem dX7_init_14 : decode cX7_init 14 = .ok (.putfield 15, 3) := by decide +kernel
theorem dX7_init_17 : decode cX7_init 17 = .ok (.return_, 1) := by decide +kernel
theorem pyX7_init : PY yX7_init 0 := ⟨by decide +kernel, by decide +kernel, by decide +kernel⟩
def fX7_init (Y : LY) (S : HS) (N : Nat × Nat) (l0 : Option Nat) : Option (LY × HS × (Nat × Nat)) :=
  if l0 = none then none else
  (newA (N.1 + 1, N.2 + 70) 13 70 Y S N).bind fun q7 =>
  (pR q7.2.1 7 700 l0 (some q7.1) q7.2.2.1).bind fun S9 =>
  (pI q7.2.1 7 701 l0 0 S9).bind fun S14 =>
  some (q7.2.1, S14, q7.2.2.2)
set_option maxRecDepth 100000 in
set_option maxHeartbeats 4000000 in
theorem mX7_init (l : Launch) {G : GG} {Y : LY} {S : HS} {N : Nat × Nat} {l0 : Option Nat} {res : LY × HS × (Nat × Nat)} (hf : fX7_init Y S N l0 = some res) : MA l yX7_init cX7_init 1 none 1 40 1 70 G Y S N [va_rf l0] res.1 res.2.1 res.2.2 none := by
  refine ma_of (plainFor_of_name (by decide +kernel)) (Nat.le_of_ble_eq_true rfl) (c1c (cr _) c1n) ?_
  intro p e R s m args below meth c X hname H locs ls hA hl
  have X : Cx p R s m args meth c RX7 cX7_init 1 1 40 (AA Y N) G none := X
  have hx := X.1.1
  have hb := X.1.2.1
  have hP := hA.1
  have hcp : (N.1 + 1, N.2 + 70).1 = N.1 + 1 ∧ (N.1 + 1, N.2 + 70).2 = N.2 + 70 := ⟨rfl, rfl⟩
  have hl : LV ls 1 [(0, va_rf l0)] := hl
  unfold fX7_init at hf
  refine rw_aload_n X dX7_init_0 rfl (hl.at 0 rfl) ?_
  by_cases c1 : l0 = none
  · exact absurd (ifp hf c1) (fun h => by cases h)
  have hf := ifn hf c1
  refine rw_objI X oiX7 c1 ⟨Nat.le_of_ble_eq_true rfl, Nat.le_of_ble_eq_true rfl⟩ c1n hl.1.1 dX7_init_1 ?_
  refine rw_aload_n X dX7_init_4 rfl (hl.at 0 rfl) ?_
  refine lv_bipush (v := 70) hx hb dX7_init_5 (by decide) ?_
  obtain ⟨q7, e7, hf⟩ := ob hf
  refine ra_newa X (by first | exact Or.inl ⟨rfl, rfl⟩ | exact Or.inr ⟨rfl, rfl⟩) dX7_init_7 e7 hA (fun H hA => ?_)
  have hP := hA.1
  obtain ⟨S9, e9, hf⟩ := ob hf
  refine rw_putzR X hname rfl dX7_init_9 fz7_9 e9 rfl hP (fun H locs hP => ?_)
  have hA := hA.put hP
  refine rw_aload_n X dX7_init_12 rfl (hl.at 0 rfl) ?_
  refine lv_iconst (v := 0) hx hb dX7_init_13 (by decide) ?_
  obtain ⟨S14, e14, hf⟩ := ob hf
  refine rw_putI X dX7_init_14 fl7_15 fw7_1 e14 rfl hP (fun H locs hP => ?_)
  have hA := hA.put hP
  cases hf
  exact ra_vret X dX7_init_17 hA hcp
theorem dX4_init_0 : decode cX4_init 0 = .ok (.aload_n 0, 1) := by decide +kernel
theorem dX4_init_1 : decode cX4_init 1 = .ok (.invokespecial 3, 3) := by decide +kernel
theorem dX4_init_4 : decode cX4_init 4 = .ok (.aload_n 0, 1) := by decide +kernel
theorem dX4_init_5 : decode cX4_init 5 = .ok (.new 9, 3) := by decide +kernel
theorem dX4_init_8 : decode cX4_init 8 = .ok (.dup, 1) := by decide +kernel
theorem dX4_init_9 : decode cX4_init 9 = .ok (.invokespecial 11, 3) := by decide +kernel
theorem dX4_init_12 : decode cX4_init 12 = .ok (.putfield 12, 3) := by decide +kernel
theorem dX4_init_15 : decode cX4_init 15 = .ok (.aload_n 0, 1) := by decide +kernel
theorem dX4_init_16 : decode cX4_init 16 = .ok (.new 9, 3) := by decide +kernel
theorem dX4_init_19 : decode cX4_init 19 = .ok (.dup, 1) := by decide +kernel
theorem dX4_init_20 : decode cX4_init 20 = .ok (.invokespecial 11, 3) := by decide +kernel
theorem dX4_init_23 : decode cX4_init 23 = .ok (.putfield 18, 3) := by decide +kernel
theorem dX4_init_26 : decode cX4_init 26 = .ok (.aload_n 0, 1) := by decide +kernel
theorem dX4_init_27 : decode cX4_init 27 = .ok (.new 21, 3) := by decide +kernel
theorem dX4_init_30 : decode cX4_init 30 = .ok (.dup, 1) := by decide +kernel
theorem dX4_init_31 : decode cX4_init 31 = .ok (.invokespecial 23, 3) := by decide +kernel
theorem dX4_init_34 : decode cX4_init 34 = .ok (.putfield 24, 3) := by decide +kernel
theorem dX4_init_37 : decode cX4_init 37 = .ok (.aload_n 0, 1) := by decide +kernel
theorem dX4_init_38 : decode cX4_init 38 = .ok (.iconst 0, 1) := by decide +kernel
theorem dX4_init_39 : decode cX4_init 39 = .ok (.putfield 28, 3) := by decide +kernel
theorem dX4_init_42 : decode cX4_init 42 = .ok (.aload_n 0, 1) := by decide +kernel
theorem dX4_init_43 : decode cX4_init 43 = .ok (.iconst 0, 1) := by decide +kernel
theorem dX4_init_44 : decode cX4_init 44 = .ok (.putfield 32, 3) := by decide +kernel
theorem dX4_init_47 : decode cX4_init 47 = .ok (.aload_n 0, 1) := by decide +kernel
theorem dX4_init_48 : decode cX4_init 48 = .ok (.iconst 1, 1) := by decide +kernel
theorem dX4_init_49 : decode cX4_init 49 = .ok (.putfield 35, 3) := by decide +kernel
theorem dX4_init_52 : decode cX4_init 52 = .ok (.aload_n 0, 1) := by decide +kernel
theorem dX4_init_53 : decode cX4_init 53 = .ok (.iconst 0, 1) := by decide +kernel
theorem dX4_init_54 : decode cX4_init 54 = .ok (.putfield 38, 3) := by decide +kernel
theorem dX4_init_57 : decode cX4_init 57 = .ok (.aload_n 0, 1) := by decide +kernel
theorem dX4_init_58 : decode cX4_init 58 = .ok (.aconst_null, 1) := by decide +kernel
theorem dX4_init_59 : decode cX4_init 59 = .ok (.putfield 41, 3) := by decide +kernel
theorem dX4_init_62 : decode cX4_init 62 = .ok (.aload_n 0, 1) := by decide +kernel
theorem dX4_init_63 : decode cX4_init 63 = .ok (.aconst_null, 1) := by decide +kernel
theorem dX4_init_64 : decode cX4_init 64 = .ok (.putfield 45, 3) := by decide +kernel
theorem dX4_init_67 : decode cX4_init 67 = .ok (.aload_n 0, 1) := by decide +kernel
theorem dX4_init_68 : decode cX4_init 68 = .ok (.aconst_null, 1) := by decide +kernel
theorem dX4_init_69 : decode cX4_init 69 = .ok (.putfield 48, 3) := by decide +kernel
theorem dX4_init_72 : decode cX4_init 72 = .ok (.aload_n 0, 1) := by decide +kernel
theorem dX4_init_73 : decode cX4_init 73 = .ok (.aconst_null, 1) := by decide +kernel
theorem dX4_init_74 : decode cX4_init 74 = .ok (.putfield 51, 3) := by decide +kernel
theorem dX4_init_77 : decode cX4_init 77 = .ok (.aload_n 0, 1) := by decide +kernel
theorem dX4_init_78 : decode cX4_init 78 = .ok (.aconst_null, 1) := by decide +kernel
theorem dX4_init_79 : decode cX4_init 79 = .ok (.putfield 54, 3) := by decide +kernel
theorem dX4_init_82 : decode cX4_init 82 = .ok (.aload_n 0, 1) := by decide +kernel
theorem dX4_init_83 : decode cX4_init 83 = .ok (.aconst_null, 1) := by decide +kernel
theorem dX4_init_84 : decode cX4_init 84 = .ok (.putfield 57, 3) := by decide +kernel
theorem dX4_init_87 : decode cX4_init 87 = .ok (.aload_n 0, 1) := by decide +kernel
theorem dX4_init_88 : decode cX4_init 88 = .ok (.iload_n 1, 1) := by decide +kernel
theorem dX4_init_89 : decode cX4_init 89 = .ok (.putfield 60, 3) := by decide +kernel
theorem dX4_init_92 : decode cX4_init 92 = .ok (.return_, 1) := by decide +kernel
theorem pyX4_init : PY yX4_init 1 := ⟨by decide +kernel, by decide +kernel, by decide +kernel⟩
def fX4_init (Y : LY) (S : HS) (N : Nat × Nat) (l0 : Option Nat) (l1 : Int32) : Option (LY × HS × (Nat × Nat)) :=
  if l0 = none then none else
  (newO (N.1 + 3, N.2 + 20) 1 Y S N).bind fun q5 =>
  (fX1_init q5.2.1 q5.2.2.1 (some q5.1)).bind fun S9 =>
  (pR q5.2.1 4 401 l0 (some q5.1) S9).bind fun S12 =>
  (newO (N.1 + 3, N.2 + 20) 1 q5.2.1 S12 q5.2.2.2).bind fun q16 =>
  (fX1_init q16.2.1 q16.2.2.1 (some q16.1)).bind fun S20 =>
  (pR q16.2.1 4 402 l0 (some q16.1) S20).bind fun S23 =>
  (newO (N.1 + 3, N.2 + 20) 3 q16.2.1 S23 q16.2.2.2).bind fun q27 =>
  (fX3_init q27.2.1 q27.2.2.1 (some q27.1)).bind fun S31 =>
  (pR q27.2.1 4 403 l0 (some q27.1) S31).bind fun S34 =>
  (pI q27.2.1 4 404 l0 0 S34).bind fun S39 =>
  (pI q27.2.1 4 405 l0 0 S39).bind fun S44 =>
  (pI q27.2.1 4 406 l0 1 S44).bind fun S49 =>
  (pI q27.2.1 4 407 l0 0 S49).bind fun S54 =>
  (pR q27.2.1 4 408 l0 none S54).bind fun S59 =>
  (pR q27.2.1 4 409 l0 none S59).bind fun S64 =>
  (pR q27.2.1 4 410 l0 none S64).bind fun S69 =>
  (pR q27.2.1 4 411 l0 none S69).bind fun S74 =>
  (pR q27.2.1 4 412 l0 none S74).bind fun S79 =>
  (pR q27.2.1 4 413 l0 none S79).bind fun S84 =>
  (pI q27.2.1 4 400 l0 l1 S84).bind fun S89 =>
  some (q27.2.1, S89, q27.2.2.2)
set_option maxRecDepth 100000 in
set_option maxHeartbeats 4000000 in
theorem mX4_init (l : Launch) {G : GG} {Y : LY} {S : HS} {N : Nat × Nat} {l0 : Option Nat} {l1 : Int32} {res : LY × HS × (Nat × Nat)} (hf : fX4_init Y S N l0 l1 = some res) : MA l yX4_init cX4_init 2 none 2 60 3 20 G Y S N [va_rf l0, .int l1] res.1 res.2.1 res.2.2 none := by
  refine ma_of (plainFor_of_name (by decide +kernel)) (Nat.le_of_ble_eq_true rfl) (c1c (cr _) (c1c (ci _) c1n)) ?_
  intro p e R s m args below meth c X hname H locs ls hA hl
  have X : Cx p R s m args meth c RX4 cX4_init 2 2 60 (AA Y N) G none := X
  have hx := X.1.1
  have hb := X.1.2.1
  have hP := hA.1
  have hcp : (N.1 + 3, N.2 + 20).1 = N.1 + 3 ∧ (N.1 + 3, N.2 + 20).2 = N.2 + 20 := ⟨rfl, rfl⟩
  have hl : LV ls 2 [(0, va_rf l0), (1, .int l1)] := hl
  unfold fX4_init at hf
  refine rw_aload_n X dX4_init_0 rfl (hl.at 0 rfl) ?_
  by_cases c1 : l0 = none
  · exact absurd (ifp hf c1) (fun h => by cases h)
  have hf := ifn hf c1
  refine rw_objI X oiX4 c1 ⟨Nat.le_of_ble_eq_true rfl, Nat.le_of_ble_eq_true rfl⟩ c1n hl.1.1 dX4_init_1 ?_
  refine rw_aload_n X dX4_init_4 rfl (hl.at 0 rfl) ?_
  obtain ⟨q5, e5, hf⟩ := ob hf
  refine ra_new X dX4_init_5 nkX4_9 e5 hA (fun H hA => ?_)
  have hP := hA.1
  refine lv_dup hx hb dX4_init_8 (cr _) ?_
  obtain ⟨S9, e9, hf⟩ := ob hf
  refine ra_callI0 (As := []) X dX4_init_9 ciX4_11 pyX1_init (mX1_init l e9) (by decide) (by intro h; cases h) hA rfl (catL (c1c (cr _) (c1c (cr _) c1n)) (Nat.le_of_ble_eq_true rfl)) hl.1.1 (fun H locs hP => ?_)
  have hA := hA.put hP
  obtain ⟨S12, e12, hf⟩ := ob hf
  refine rw_putzR X hname rfl dX4_init_12 fz4_12 e12 rfl hP (fun H locs hP => ?_)
  have hA := hA.put hP
  refine rw_aload_n X dX4_init_15 rfl (hl.at 0 rfl) ?_
  obtain ⟨q16, e16, hf⟩ := ob hf
  refine ra_new X dX4_init_16 nkX4_9 e16 hA (fun H hA => ?_)
  have hP := hA.1
  refine lv_dup hx hb dX4_init_19 (cr _) ?_
  obtain ⟨S20, e20, hf⟩ := ob hf
  refine ra_callI0 (As := []) X dX4_init_20 ciX4_11 pyX1_init (mX1_init l e20) (by decide) (by intro h; cases h) hA rfl (catL (c1c (cr _) (c1c (cr _) c1n)) (Nat.le_of_ble_eq_true rfl)) hl.1.1 (fun H locs hP => ?_)
  have hA := hA.put hP
  obtain ⟨S23, e23, hf⟩ := ob hf
  refine rw_putzR X hname rfl dX4_init_23 fz4_18 e23 rfl hP (fun H locs hP => ?_)
  have hA := hA.put hP
  refine rw_aload_n X dX4_init_26 rfl (hl.at 0 rfl) ?_
  obtain ⟨q27, e27, hf⟩ := ob hf
  refine ra_new X dX4_init_27 nkX4_21 e27 hA (fun H hA => ?_)
  have hP := hA.1
  refine lv_dup hx hb dX4_init_30 (cr _) ?_
  obtain ⟨S31, e31, hf⟩ := ob hf
  refine ra_callI0 (As := []) X dX4_init_31 ciX4_23 pyX3_init (mX3_init l e31) (by decide) (by intro h; cases h) hA rfl (catL (c1c (cr _) (c1c (cr _) c1n)) (Nat.le_of_ble_eq_true rfl)) hl.1.1 (fun H locs hP => ?_)
  have hA := hA.put hP
  obtain ⟨S34, e34, hf⟩ := ob hf
  refine rw_putzR X hname rfl dX4_init_34 fz4_24 e34 rfl hP (fun H locs hP => ?_)
  have hA := hA.put hP
  refine rw_aload_n X dX4_init_37 rfl (hl.at 0 rfl) ?_
  refine lv_iconst (v := 0) hx hb dX4_init_38 (by decide) ?_
  obtain ⟨S39, e39, hf⟩ := ob hf
  refine rw_putI X dX4_init_39 fl4_28 fw4_4 e39 rfl hP (fun H locs hP => ?_)
  have hA := hA.put hP
  refine rw_aload_n X dX4_init_42 rfl (hl.at 0 rfl) ?_
  refine lv_iconst (v := 0) hx hb dX4_init_43 (by decide) ?_
  obtain ⟨S44, e44, hf⟩ := ob hf
  refine rw_putI X dX4_init_44 fl4_32 fw4_5 e44 rfl hP (fun H locs hP => ?_)
  have hA := hA.put hP
  refine rw_aload_n X dX4_init_47 rfl (hl.at 0 rfl) ?_
  refine lv_iconst (v := 1) hx hb dX4_init_48 (by decide) ?_
  obtain ⟨S49, e49, hf⟩ := ob hf
  refine rw_putI X dX4_init_49 fl4_35 fw4_6 e49 rfl hP (fun H locs hP => ?_)
  have hA := hA.put hP
  refine rw_aload_n X dX4_init_52 rfl (hl.at 0 rfl) ?_
  refine lv_iconst (v := 0) hx hb dX4_init_53 (by decide) ?_
  obtain ⟨S54, e54, hf⟩ := ob hf
  refine rw_putI X dX4_init_54 fl4_38 fw4_7 e54 rfl hP (fun H locs hP => ?_)
  have hA := hA.put hP
  refine rw_aload_n X dX4_init_57 rfl (hl.at 0 rfl) ?_
  refine lv_null hx hb dX4_init_58 ?_
  refine W.eq (g2 := F0 m 59 ls (va_rf none :: (va_rf l0 :: []))) rfl ?_
  obtain ⟨S59, e59, hf⟩ := ob hf
  refine rw_putR X dX4_init_59 fl4_41 fw4_8 e59 rfl hP (fun H locs hP => ?_)
  have hA := hA.put hP
  refine rw_aload_n X dX4_init_62 rfl (hl.at 0 rfl) ?_
  refine lv_null hx hb dX4_init_63 ?_
  refine W.eq (g2 := F0 m 64 ls (va_rf none :: (va_rf l0 :: []))) rfl ?_
  obtain ⟨S64, e64, hf⟩ := ob hf
  refine rw_putR X dX4_init_64 fl4_45 fw4_9 e64 rfl hP (fun H locs hP => ?_)
  have hA := hA.put hP
  refine rw_aload_n X dX4_init_67 rfl (hl.at 0 rfl) ?_
  refine lv_null hx hb dX4_init_68 ?_
  refine W.eq (g2 := F0 m 69 ls (va_rf none :: (va_rf l0 :: []))) rfl ?_
  obtain ⟨S69, e69, hf⟩ := ob hf
  refine rw_putR X dX4_init_69 fl4_48 fw4_10 e69 rfl hP (fun H locs hP => ?_)
  have hA := hA.put hP
  refine rw_aload_n X dX4_init_72 rfl (hl.at 0 rfl) ?_
  refine lv_null hx hb dX4_init_73 ?_
  refine W.eq (g2 := F0 m 74 ls (va_rf none :: (va_rf l0 :: []))) rfl ?_
  obtain ⟨S74, e74, hf⟩ := ob hf
  refine rw_putR X dX4_init_74 fl4_51 fw4_11 e74 rfl hP (fun H locs hP => ?_)
  have hA := hA.put hP
  refine rw_aload_n X dX4_init_77 rfl (hl.at 0 rfl) ?_
  refine lv_null hx hb dX4_init_78 ?_
  refine W.eq (g2 := F0 m 79 ls (va_rf none :: (va_rf l0 :: []))) rfl ?_
  obtain ⟨S79, e79, hf⟩ := ob hf
  refine rw_putR X dX4_init_79 fl4_54 fw4_12 e79 rfl hP (fun H locs hP => ?_)
  have hA := hA.put hP
  refine rw_aload_n X dX4_init_82 rfl (hl.at 0 rfl) ?_
  refine lv_null hx hb dX4_init_83 ?_
  refine W.eq (g2 := F0 m 84 ls (va_rf none :: (va_rf l0 :: []))) rfl ?_
  obtain ⟨S84, e84, hf⟩ := ob hf
  refine rw_putR X dX4_init_84 fl4_57 fw4_13 e84 rfl hP (fun H locs hP => ?_)
  have hA := hA.put hP
  refine rw_aload_n X dX4_init_87 rfl (hl.at 0 rfl) ?_
  refine lv_iload_n hx hb dX4_init_88 rfl (hl.at 1 rfl) ?_
  obtain ⟨S89, e89, hf⟩ := ob hf
  refine rw_putzI X hname dX4_init_89 fz4_60 e89 rfl hP (fun H locs hP => ?_)
  have hA := hA.put hP
  cases hf
  exact ra_vret X dX4_init_92 hA hcp
theorem dX6_init_0 : decode cX6_init 0 = .ok (.aload_n 0, 1) := by decide +kernel
theorem dX6_init_1 : decode cX6_init 1 = .ok (.invokespecial 3, 3) := by decide +kernel
theorem dX6_init_4 : decode cX6_init 4 = .ok (.aload_n 0, 1) := by decide +kernel
theorem dX6_init_5 : decode cX6_init 5 = .ok (.bipush 24, 2) := by decide +kernel
theorem dX6_init_7 : decode cX6_init 7 = .ok (.anewarray 9, 3) := by decide +kernel
theorem dX6_init_10 : decode cX6_init 10 = .ok (.putfield 11, 3) := by decide +kernel
theorem dX6_init_13 : decode cX6_init 13 = .ok (.aload_n 0, 1) := by decide +kernel
theorem dX6_init_14 : decode cX6_init 14 = .ok (.new 17, 3) := by decide +kernel
theorem dX6_init_17 : decode cX6_init 17 = .ok (.dup, 1) := by decide +kernel
theorem dX6_init_18 : decode cX6_init 18 = .ok (.invokespecial 19, 3) := by decide +kernel
theorem dX6_init_21 : decode cX6_init 21 = .ok (.putfield 20, 3) := by decide +kernel
theorem dX6_init_24 : decode cX6_init 24 = .ok (.aload_n 0, 1) := by decide +kernel
theorem dX6_init_25 : decode cX6_init 25 = .ok (.new 24, 3) := by decide +kernel
theorem dX6_init_28 : decode cX6_init 28 = .ok (.dup, 1) := by decide +kernel
theorem dX6_init_29 : decode cX6_init 29 = .ok (.invokespecial 26, 3) := by decide +kernel
theorem dX6_init_32 : decode cX6_init 32 = .ok (.putfield 27, 3) := by decide +kernel
theorem dX6_init_35 : decode cX6_init 35 = .ok (.iconst 0, 1) := by decide +kernel
theorem dX6_init_36 : decode cX6_init 36 = .ok (.istore_n 1, 1) := by decide +kernel
theorem dX6_init_37 : decode cX6_init 37 = .ok (.iload_n 1, 1) := by decide +kernel
theorem dX6_init_38 : decode cX6_init 38 = .ok (.aload_n 0, 1) := by decide +kernel
theorem dX6_init_39 : decode cX6_init 39 = .ok (.getfield 11, 3) := by decide +kernel
theorem dX6_init_42 : decode cX6_init 42 = .ok (.arraylength, 1) := by decide +kernel
theorem dX6_init_43 : decode cX6_init 43 = .ok (.if_icmp .ge 22, 3) := by decide +kernel
theorem dX6_init_46 : decode cX6_init 46 = .ok (.aload_n 0, 1) := by decide +kernel
theorem dX6_init_47 : decode cX6_init 47 = .ok (.getfield 11, 3) := by decide +kernel
theorem dX6_init_50 : decode cX6_init 50 = .ok (.iload_n 1, 1) := by decide +kernel
theorem dX6_init_51 : decode cX6_init 51 = .ok (.new 9, 3) := by decide +kernel
theorem dX6_init_54 : decode cX6_init 54 = .ok (.dup, 1) := by decide +kernel
theorem dX6_init_55 : decode cX6_init 55 = .ok (.invokespecial 31, 3) := by decide +kernel
theorem dX6_init_58 : decode cX6_init 58 = .ok (.aastore, 1) := by decide +kernel
theorem dX6_init_59 : decode cX6_init 59 = .ok (.iinc 1 1, 3) := by decide +kernel
theorem dX6_init_62 : decode cX6_init 62 = .ok (.goto (-25), 3) := by decide +kernel
theorem dX6_init_65 : decode cX6_init 65 = .ok (.return_, 1) := by decide +kernel
theorem pyX6_init : PY yX6_init 0 := ⟨by decide +kernel, by decide +kernel, by decide +kernel⟩
def fX6_init_37 (cp : Nat × Nat) : Nat → LY → HS → Nat × Nat → Option Nat → Int32 → Option (LY × HS × (Nat × Nat))
  | 0, _, _, _, _, _ => none
  | n + 1, Y, S, N, l0, l1 =>
    (gR Y 6 600 l0 S).bind fun v39 =>
    (aL Y 15 v39).bind fun v42 =>
    if v42 ≤ l1 then
      some (Y, S, N)
    else
      (gR Y 6 600 l0 S).bind fun v47 =>
      (newO cp 3 Y S N).bind fun q51 =>
      (fX3_init q51.2.1 q51.2.2.1 (some q51.1)).bind fun S55 =>
      (pQ q51.2.1 15 3 v47 l1 (some q51.1) S55).bind fun S58 =>
      fX6_init_37 cp n q51.2.1 S58 q51.2.2.2 l0 (l1 + 1)
set_option maxRecDepth 100000 in
set_option maxHeartbeats 4000000 in
theorem wX6_init_37 {p : Program} {l : Launch} {e : Env} {R : Room} {s : State} {m : MethodId} {args : Array Value} {below : List Frame} {meth : Method} {c : Code} {G : GG} {A : Nat → Prop} {z cp : Nat × Nat} {res : LY × HS × (Nat × Nat)} (X : Cx p R s m args meth c RX6 cX6_init 2 2 60 A G none) (hname : meth.name = "<init>") (hcp : cp.1 = z.1 + 30 ∧ cp.2 = z.2 + 344) : ∀ (n : Nat) (Y : LY) (S : HS) (N : Nat × Nat) (l0 : Option Nat) (l1 : Int32), fX6_init_37 cp n Y S N l0 l1 = some res → ∀ (H : Heap) (locs : List Loc) (ls : Array Slot), HA R z cp A G s Y S N H locs → LV ls 2 [(0, va_rf l0), (1, .int l1)] → W p l e R s m args below meth c H locs (N.1 - z.1) (N.2 - z.2) (MQ below (QA G A res.1 res.2.1 res.2.2 none) args s 30 344 A) (F0 m 37 ls []) := by
  have hx := X.1.1
  have hb := X.1.2.1
  intro n
  induction n with
  | zero =>
    intro Y S N l0 l1 hf
    cases hf
  | succ n ih =>
    intro Y S N l0 l1 hf H locs ls hA hl
    have hP := hA.1
    rw [fX6_init_37] at hf
    refine lv_iload_n hx hb dX6_init_37 rfl (hl.at 1 rfl) ?_
    refine rw_aload_n X dX6_init_38 rfl (hl.at 0 rfl) ?_
    obtain ⟨v39, e39, hf⟩ := ob hf
    refine rw_getR X dX6_init_39 fl6_11 e39 rfl hP ?_
    obtain ⟨v42, e42, hf⟩ := ob hf
    refine rw_alen X (by decide) dX6_init_42 e42 hP ?_
    refine lv_icmp_ge hx hb (tgt := 65) dX6_init_43 (by decide) (fun c43 => ?_) (fun c43 => ?_)
    · have hf := ifp hf c43
      cases hf
      exact ra_vret X dX6_init_65 hA hcp
    · have hf := ifn hf c43
      refine rw_aload_n X dX6_init_46 rfl (hl.at 0 rfl) ?_
      obtain ⟨v47, e47, hf⟩ := ob hf
      refine rw_getR X dX6_init_47 fl6_11 e47 rfl hP ?_
      refine lv_iload_n hx hb dX6_init_50 rfl (hl.at 1 rfl) ?_
      obtain ⟨q51, e51, hf⟩ := ob hf
      refine ra_new X dX6_init_51 nkX6_9 e51 hA (fun H hA => ?_)
      have hP := hA.1
      refine lv_dup hx hb dX6_init_54 (cr _) ?_
      obtain ⟨S55, e55, hf⟩ := ob hf
      refine ra_callI0 (As := []) X dX6_init_55 ciX6_31 pyX3_init (mX3_init l e55) (by decide) (by intro h; cases h) hA rfl (catL (c1c (cr _) (c1c (ci _) (c1c (cr _) c1n))) (Nat.le_of_ble_eq_true rfl)) hl.1.1 (fun H locs hP => ?_)
      have hA := hA.put hP
      obtain ⟨S58, e58, hf⟩ := ob hf
      refine rw_aast (t := 2) X (by decide) dX6_init_58 e58 hP (fun H locs hP => ?_)
      have hA := hA.put hP
      refine rv_iinc (k := 1) (d := 1) X dX6_init_59 hl rfl (by decide) (by decide) rfl (fun ls hl => ?_)
      have hl : LV ls 2 [(1, .int (l1 + 1)), (0, va_rf l0)] := hl
      refine lv_goto (tgt := 37) hx hb dX6_init_62 (by decide) ?_
      exact ih q51.2.1 S58 q51.2.2.2 l0 (l1 + 1) hf _ _ _ hA (hl.sub [1, 0] rfl)
def fX6_init (Y : LY) (S : HS) (N : Nat × Nat) (l0 : Option Nat) : Option (LY × HS × (Nat × Nat)) :=
  if l0 = none then none else
  (newA (N.1 + 30, N.2 + 344) 15 24 Y S N).bind fun q7 =>
  (pR q7.2.1 6 600 l0 (some q7.1) q7.2.2.1).bind fun S10 =>
  (newO (N.1 + 30, N.2 + 344) 0 q7.2.1 S10 q7.2.2.2).bind fun q14 =>
  (fX0_init q14.2.1 q14.2.2.1 q14.2.2.2 (some q14.1)).bind fun q18 =>
  if ¬ (q18.2.2 = (q14.2.2.2.1 + 1, q14.2.2.2.2 + 8) ∧ q18.2.2.1 ≤ (N.1 + 30, N.2 + 344).1 ∧ q18.2.2.2 ≤ (N.1 + 30, N.2 + 344).2) then none else
  (pR q18.1 6 601 l0 (some q14.1) q18.2.1).bind fun S21 =>
  (newO (N.1 + 30, N.2 + 344) 2 q18.1 S21 q18.2.2).bind fun q25 =>
  (fX2_init q25.2.1 q25.2.2.1 q25.2.2.2 (some q25.1)).bind fun q29 =>
  if ¬ (q29.2.2 = (q25.2.2.2.1 + 2, q25.2.2.2.2 + 60) ∧ q29.2.2.1 ≤ (N.1 + 30, N.2 + 344).1 ∧ q29.2.2.2 ≤ (N.1 + 30, N.2 + 344).2) then none else
  (pR q29.1 6 602 l0 (some q25.1) q29.2.1).bind fun S32 =>
  fX6_init_37 (N.1 + 30, N.2 + 344) FU q29.1 S32 q29.2.2 l0 0
set_option maxRecDepth 100000 in
set_option maxHeartbeats 4000000 in
theorem mX6_init (l : Launch) {G : GG} {Y : LY} {S : HS} {N : Nat × Nat} {l0 : Option Nat} {res : LY × HS × (Nat × Nat)} (hf : fX6_init Y S N l0 = some res) : MA l yX6_init cX6_init 2 none 2 60 30 344 G Y S N [va_rf l0] res.1 res.2.1 res.2.2 none := by
  refine ma_of (plainFor_of_name (by decide +kernel)) (Nat.le_of_ble_eq_true rfl) (c1c (cr _) c1n) ?_
  intro p e R s m args below meth c X hname H locs ls hA hl
  have X : Cx p R s m args meth c RX6 cX6_init 2 2 60 (AA Y N) G none := X
  have hx := X.1.1
  have hb := X.1.2.1
  have hP := hA.1
  have hcp : (N.1 + 30, N.2 + 344).1 = N.1 + 30 ∧ (N.1 + 30, N.2 + 344).2 = N.2 + 344 := ⟨rfl, rfl⟩
  have hl : LV ls 2 [(0, va_rf l0)] := hl
  unfold fX6_init at hf
  refine rw_aload_n X dX6_init_0 rfl (hl.at 0 rfl) ?_
  by_cases c1 : l0 = none
  · exact absurd (ifp hf c1) (fun h => by cases h)
  have hf := ifn hf c1
  refine rw_objI X oiX6 c1 ⟨Nat.le_of_ble_eq_true rfl, Nat.le_of_ble_eq_true rfl⟩ c1n hl.1.1 dX6_init_1 ?_
  refine rw_aload_n X dX6_init_4 rfl (hl.at 0 rfl) ?_
  refine lv_bipush (v := 24) hx hb dX6_init_5 (by decide) ?_
  obtain ⟨q7, e7, hf⟩ := ob hf
  refine ra_anew X ⟨va_AO.use X.2.2.1.2.2.2.2.2.2.2.1, va_AO.use X.2.2.1.2.2.2.2.2.2.2.2⟩ dX6_init_7 akX6_9 e7 hA (fun H hA => ?_)
  have hP := hA.1
  obtain ⟨S10, e10, hf⟩ := ob hf
  refine rw_putzR X hname rfl dX6_init_10 fz6_11 e10 rfl hP (fun H locs hP => ?_)
  have hA := hA.put hP
  refine rw_aload_n X dX6_init_13 rfl (hl.at 0 rfl) ?_
  obtain ⟨q14, e14, hf⟩ := ob hf
  refine ra_new X dX6_init_14 nkX6_17 e14 hA (fun H hA => ?_)
  have hP := hA.1
  refine lv_dup hx hb dX6_init_17 (cr _) ?_
  obtain ⟨q18, e18, hf⟩ := ob hf
  by_cases c18 : q18.2.2 = (q14.2.2.2.1 + 1, q14.2.2.2.2 + 8) ∧ q18.2.2.1 ≤ (N.1 + 30, N.2 + 344).1 ∧ q18.2.2.2 ≤ (N.1 + 30, N.2 + 344).2
  rotate_left
  · exact absurd (ifp hf c18) (fun h => by cases h)
  have hf := ifn hf (fun h => h c18)
  refine ra_callI (As := []) X (by decide) dX6_init_18 ciX6_19 pyX0_init (mX0_init l e18) (by decide) (by intro h; cases h) c18.1 c18.2 hA rfl (catL (c1c (cr _) (c1c (cr _) c1n)) (Nat.le_of_ble_eq_true rfl)) hl.1.1 (fun H locs hA => ?_)
  have hP := hA.1
  obtain ⟨S21, e21, hf⟩ := ob hf
  refine rw_putzR X hname rfl dX6_init_21 fz6_20 e21 rfl hP (fun H locs hP => ?_)
  have hA := hA.put hP
  refine rw_aload_n X dX6_init_24 rfl (hl.at 0 rfl) ?_
  obtain ⟨q25, e25, hf⟩ := ob hf
  refine ra_new X dX6_init_25 nkX6_24 e25 hA (fun H hA => ?_)
  have hP := hA.1
  refine lv_dup hx hb dX6_init_28 (cr _) ?_
  obtain ⟨q29, e29, hf⟩ := ob hf
  by_cases c29 : q29.2.2 = (q25.2.2.2.1 + 2, q25.2.2.2.2 + 60) ∧ q29.2.2.1 ≤ (N.1 + 30, N.2 + 344).1 ∧ q29.2.2.2 ≤ (N.1 + 30, N.2 + 344).2
  rotate_left
  · exact absurd (ifp hf c29) (fun h => by cases h)
  have hf := ifn hf (fun h => h c29)
  refine ra_callI (As := []) X (by decide) dX6_init_29 ciX6_26 pyX2_init (mX2_init l e29) (by decide) (by intro h; cases h) c29.1 c29.2 hA rfl (catL (c1c (cr _) (c1c (cr _) c1n)) (Nat.le_of_ble_eq_true rfl)) hl.1.1 (fun H locs hA => ?_)
  have hP := hA.1
  obtain ⟨S32, e32, hf⟩ := ob hf
  refine rw_putzR X hname rfl dX6_init_32 fz6_27 e32 rfl hP (fun H locs hP => ?_)
  have hA := hA.put hP
  refine lv_iconst (v := 0) hx hb dX6_init_35 (by decide) ?_
  refine rv_istore_n X dX6_init_36 rfl hl (by decide) rfl (fun ls hl => ?_)
  have hl : LV ls 2 [(1, .int 0), (0, va_rf l0)] := hl
  exact wX6_init_37 X hname hcp FU q29.1 S32 q29.2.2 l0 0 hf _ _ _ hA (hl.sub [1, 0] rfl)
theorem dX8_init_0 : decode cX8_init 0 = .ok (.aload_n 0, 1) := by decide +kernel
theorem dX8_init_1 : decode cX8_init 1 = .ok (.invokespecial 3, 3) := by decide +kernel
theorem dX8_init_4 : decode cX8_init 4 = .ok (.aload_n 0, 1) := by decide +kernel
theorem dX8_init_5 : decode cX8_init 5 = .ok (.bipush 24, 2) := by decide +kernel
theorem dX8_init_7 : decode cX8_init 7 = .ok (.anewarray 9, 3) := by decide +kernel
theorem dX8_init_10 : decode cX8_init 10 = .ok (.putfield 11, 3) := by decide +kernel
theorem dX8_init_13 : decode cX8_init 13 = .ok (.aload_n 0, 1) := by decide +kernel
theorem dX8_init_14 : decode cX8_init 14 = .ok (.iconst 0, 1) := by decide +kernel
theorem dX8_init_15 : decode cX8_init 15 = .ok (.putfield 17, 3) := by decide +kernel
theorem dX8_init_18 : decode cX8_init 18 = .ok (.iconst 0, 1) := by decide +kernel
theorem dX8_init_19 : decode cX8_init 19 = .ok (.istore_n 1, 1) := by decide +kernel
theorem dX8_init_20 : decode cX8_init 20 = .ok (.iload_n 1, 1) := by decide +kernel
theorem dX8_init_21 : decode cX8_init 21 = .ok (.aload_n 0, 1) := by decide +kernel
theorem dX8_init_22 : decode cX8_init 22 = .ok (.getfield 11, 3) := by decide +kernel
theorem dX8_init_25 : decode cX8_init 25 = .ok (.arraylength, 1) := by decide +kernel
theorem dX8_init_26 : decode cX8_init 26 = .ok (.if_icmp .ge 23, 3) := by decide +kernel
theorem dX8_init_29 : decode cX8_init 29 = .ok (.aload_n 0, 1) := by decide +kernel
theorem dX8_init_30 : decode cX8_init 30 = .ok (.getfield 11, 3) := by decide +kernel
theorem dX8_init_33 : decode cX8_init 33 = .ok (.iload_n 1, 1) := by decide +kernel
theorem dX8_init_34 : decode cX8_init 34 = .ok (.new 9, 3) := by decide +kernel
theorem dX8_init_37 : decode cX8_init 37 = .ok (.dup, 1) := by decide +kernel
theorem dX8_init_38 : decode cX8_init 38 = .ok (.iload_n 1, 1) := by decide +kernel
theorem dX8_init_39 : decode cX8_init 39 = .ok (.invokespecial 21, 3) := by decide +kernel
theorem dX8_init_42 : decode cX8_init 42 = .ok (.aastore, 1) := by decide +kernel
theorem dX8_init_43 : decode cX8_init 43 = .ok (.iinc 1 1, 3) := by decide +kernel
theorem dX8_init_46 : decode cX8_init 46 = .ok (.goto (-26), 3) := by decide +kernel
theorem dX8_init_49 : decode cX8_init 49 = .ok (.return_, 1) := by decide +kernel
theorem pyX8_init : PY yX8_init 0 := ⟨by decide +kernel, by decide +kernel, by decide +kernel⟩
def fX8_init_20 (cp : Nat × Nat) : Nat → LY → HS → Nat × Nat → Option Nat → Int32 → Option (LY × HS × (Nat × Nat))
  | 0, _, _, _, _, _ => none
  | n + 1, Y, S, N, l0, l1 =>
    (gR Y 8 800 l0 S).bind fun v22 =>
    (aL Y 16 v22).bind fun v25 =>
    if v25 ≤ l1 then
      some (Y, S, N)
    else
      (gR Y 8 800 l0 S).bind fun v30 =>
      (newO cp 4 Y S N).bind fun q34 =>
      (fX4_init q34.2.1 q34.2.2.1 q34.2.2.2 (some q34.1) l1).bind fun q39 =>
      if ¬ (q39.2.2 = (q34.2.2.2.1 + 3, q34.2.2.2.2 + 20) ∧ q39.2.2.1 ≤ cp.1 ∧ q39.2.2.2 ≤ cp.2) then none else
      (pQ q39.1 16 4 v30 l1 (some q34.1) q39.2.1).bind fun S42 =>
      fX8_init_20 cp n q39.1 S42 q39.2.2 l0 (l1 + 1)
set_option maxRecDepth 100000 in
set_option maxHeartbeats 4000000 in
theorem wX8_init_20 {p : Program} {l : Launch} {e : Env} {R : Room} {s : State} {m : MethodId} {args : Array Value} {below : List Frame} {meth : Method} {c : Code} {G : GG} {A : Nat → Prop} {z cp : Nat × Nat} {res : LY × HS × (Nat × Nat)} (X : Cx p R s m args meth c RX8 cX8_init 2 3 81 A G none) (hname : meth.name = "<init>") (hcp : cp.1 = z.1 + 97 ∧ cp.2 = z.2 + 840) : ∀ (n : Nat) (Y : LY) (S : HS) (N : Nat × Nat) (l0 : Option Nat) (l1 : Int32), fX8_init_20 cp n Y S N l0 l1 = some res → ∀ (H : Heap) (locs : List Loc) (ls : Array Slot), HA R z cp A G s Y S N H locs → LV ls 2 [(0, va_rf l0), (1, .int l1)] → W p l e R s m args below meth c H locs (N.1 - z.1) (N.2 - z.2) (MQ below (QA G A res.1 res.2.1 res.2.2 none) args s 97 840 A) (F0 m 20 ls []) := by
  have hx := X.1.1
  have hb := X.1.2.1
  intro n
  induction n with
  | zero =>
    intro Y S N l0 l1 hf
    cases hf
  | succ n ih =>
    intro Y S N l0 l1 hf H locs ls hA hl
    have hP := hA.1
    rw [fX8_init_20] at hf
    refine lv_iload_n hx hb dX8_init_20 rfl (hl.at 1 rfl) ?_
    refine rw_aload_n X dX8_init_21 rfl (hl.at 0 rfl) ?_
    obtain ⟨v22, e22, hf⟩ := ob hf
    refine rw_getR X dX8_init_22 fl8_11 e22 rfl hP ?_
    obtain ⟨v25, e25, hf⟩ := ob hf
    refine rw_alen X (by decide) dX8_init_25 e25 hP ?_
    refine lv_icmp_ge hx hb (tgt := 49) dX8_init_26 (by decide) (fun c26 => ?_) (fun c26 => ?_)
    · have hf := ifp hf c26
      cases hf
      exact ra_vret X dX8_init_49 hA hcp
    · have hf := ifn hf c26
      refine rw_aload_n X dX8_init_29 rfl (hl.at 0 rfl) ?_
      obtain ⟨v30, e30, hf⟩ := ob hf
      refine rw_getR X dX8_init_30 fl8_11 e30 rfl hP ?_
      refine lv_iload_n hx hb dX8_init_33 rfl (hl.at 1 rfl) ?_
      obtain ⟨q34, e34, hf⟩ := ob hf
      refine ra_new X dX8_init_34 nkX8_9 e34 hA (fun H hA => ?_)
      have hP := hA.1
      refine lv_dup hx hb dX8_init_37 (cr _) ?_
      refine lv_iload_n hx hb dX8_init_38 rfl (hl.at 1 rfl) ?_
      obtain ⟨q39, e39, hf⟩ := ob hf
      by_cases c39 : q39.2.2 = (q34.2.2.2.1 + 3, q34.2.2.2.2 + 20) ∧ q39.2.2.1 ≤ cp.1 ∧ q39.2.2.2 ≤ cp.2
      rotate_left
      · exact absurd (ifp hf c39) (fun h => by cases h)
      have hf := ifn hf (fun h => h c39)
      refine ra_callI (As := [.int l1]) X (by decide) dX8_init_39 ciX8_21 pyX4_init (mX4_init l e39) (by decide) (by intro h; cases h) c39.1 c39.2 hA rfl (catL (c1c (cr _) (c1c (ci _) (c1c (cr _) c1n))) (Nat.le_of_ble_eq_true rfl)) hl.1.1 (fun H locs hA => ?_)
      have hP := hA.1
      obtain ⟨S42, e42, hf⟩ := ob hf
      refine rw_aast (t := 3) X (by decide) dX8_init_42 e42 hP (fun H locs hP => ?_)
      have hA := hA.put hP
      refine rv_iinc (k := 1) (d := 1) X dX8_init_43 hl rfl (by decide) (by decide) rfl (fun ls hl => ?_)
      have hl : LV ls 2 [(1, .int (l1 + 1)), (0, va_rf l0)] := hl
      refine lv_goto (tgt := 20) hx hb dX8_init_46 (by decide) ?_
      exact ih q39.1 S42 q39.2.2 l0 (l1 + 1) hf _ _ _ hA (hl.sub [1, 0] rfl)
def fX8_init (Y : LY) (S : HS) (N : Nat × Nat) (l0 : Option Nat) : Option (LY × HS × (Nat × Nat)) :=
  if l0 = none then none else
  (newA (N.1 + 97, N.2 + 840) 16 24 Y S N).bind fun q7 =>
  (pR q7.2.1 8 800 l0 (some q7.1) q7.2.2.1).bind fun S10 =>
  (pI q7.2.1 8 801 l0 0 S10).bind fun S15 =>
  fX8_init_20 (N.1 + 97, N.2 + 840) FU q7.2.1 S15 q7.2.2.2 l0 0
set_option maxRecDepth 100000 in
set_option maxHeartbeats 4000000 in
theorem mX8_init (l : Launch) {G : GG} {Y : LY} {S : HS} {N : Nat × Nat} {l0 : Option Nat} {res : LY × HS × (Nat × Nat)} (hf : fX8_init Y S N l0 = some res) : MA l yX8_init cX8_init 2 none 3 81 97 840 G Y S N [va_rf l0] res.1 res.2.1 res.2.2 none := by
  refine ma_of (plainFor_of_name (by decide +kernel)) (Nat.le_of_ble_eq_true rfl) (c1c (cr _) c1n) ?_
  intro p e R s m args below meth c X hname H locs ls hA hl
  have X : Cx p R s m args meth c RX8 cX8_init 2 3 81 (AA Y N) G none := X
  have hx := X.1.1
  have hb := X.1.2.1
  have hP := hA.1
  have hcp : (N.1 + 97, N.2 + 840).1 = N.1 + 97 ∧ (N.1 + 97, N.2 + 840).2 = N.2 + 840 := ⟨rfl, rfl⟩
  have hl : LV ls 2 [(0, va_rf l0)] := hl
  unfold fX8_init at hf
  refine rw_aload_n X dX8_init_0 rfl (hl.at 0 rfl) ?_
  by_cases c1 : l0 = none
  · exact absurd (ifp hf c1) (fun h => by cases h)
  have hf := ifn hf c1
  refine rw_objI X oiX8 c1 ⟨Nat.le_of_ble_eq_true rfl, Nat.le_of_ble_eq_true rfl⟩ c1n hl.1.1 dX8_init_1 ?_
  refine rw_aload_n X dX8_init_4 rfl (hl.at 0 rfl) ?_
  refine lv_bipush (v := 24) hx hb dX8_init_5 (by decide) ?_
  obtain ⟨q7, e7, hf⟩ := ob hf
  refine ra_anew X ⟨va_AO.use X.2.2.1.2.2.2.2.2.2.2.1, va_AO.use X.2.2.1.2.2.2.2.2.2.2.2⟩ dX8_init_7 akX8_9 e7 hA (fun H hA => ?_)
  have hP := hA.1
  obtain ⟨S10, e10, hf⟩ := ob hf
  refine rw_putzR X hname rfl dX8_init_10 fz8_11 e10 rfl hP (fun H locs hP => ?_)
  have hA := hA.put hP
  refine rw_aload_n X dX8_init_13 rfl (hl.at 0 rfl) ?_
  refine lv_iconst (v := 0) hx hb dX8_init_14 (by decide) ?_
  obtain ⟨S15, e15, hf⟩ := ob hf
  refine rw_putI X dX8_init_15 fl8_17 fw8_1 e15 rfl hP (fun H locs hP => ?_)
  have hA := hA.put hP
  refine lv_iconst (v := 0) hx hb dX8_init_18 (by decide) ?_
  refine rv_istore_n X dX8_init_19 rfl hl (by decide) rfl (fun ls hl => ?_)
  have hl : LV ls 2 [(1, .int 0), (0, va_rf l0)] := hl
  exact wX8_init_20 X hname hcp FU q7.2.1 S15 q7.2.2.2 l0 0 hf _ _ _ hA (hl.sub [1, 0] rfl)
theorem dX9_init_0 : decode cX9_init 0 = .ok (.aload_n 0, 1) := by decide +kernel
theorem dX9_init_1 : decode cX9_init 1 = .ok (.invokespecial 3, 3) := by decide +kernel
theorem dX9_init_4 : decode cX9_init 4 = .ok (.aload_n 0, 1) := by decide +kernel
theorem dX9_init_5 : decode cX9_init 5 = .ok (.new 9, 3) := by decide +kernel
theorem dX9_init_8 : decode cX9_init 8 = .ok (.dup, 1) := by decide +kernel
theorem dX9_init_9 : decode cX9_init 9 = .ok (.invokespecial 11, 3) := by decide +kernel
theorem dX9_init_12 : decode cX9_init 12 = .ok (.putfield 12, 3) := by decide +kernel
theorem dX9_init_15 : decode cX9_init 15 = .ok (.aload_n 0, 1) := by decide +kernel
theorem dX9_init_16 : decode cX9_init 16 = .ok (.new 18, 3) := by decide +kernel
theorem dX9_init_19 : decode cX9_init 19 = .ok (.dup, 1) := by decide +kernel
theorem dX9_init_20 : decode cX9_init 20 = .ok (.invokespecial 20, 3) := by decide +kernel
theorem dX9_init_23 : decode cX9_init 23 = .ok (.putfield 21, 3) := by decide +kernel
theorem dX9_init_26 : decode cX9_init 26 = .ok (.return_, 1) := by decide +kernel
theorem pyX9_init : PY yX9_init 0 := ⟨by decide +kernel, by decide +kernel, by decide +kernel⟩
def fX9_init (Y : LY) (S : HS) (N : Nat × Nat) (l0 : Option Nat) : Option (LY × HS × (Nat × Nat)) :=
  if l0 = none then none else
  (newO (N.1 + 5, N.2 + 80) 0 Y S N).bind fun q5 =>
  (fX0_init q5.2.1 q5.2.2.1 q5.2.2.2 (some q5.1)).bind fun q9 =>
  if ¬ (q9.2.2 = (q5.2.2.2.1 + 1, q5.2.2.2.2 + 8) ∧ q9.2.2.1 ≤ (N.1 + 5, N.2 + 80).1 ∧ q9.2.2.2 ≤ (N.1 + 5, N.2 + 80).2) then none else
  (pR q9.1 9 900 l0 (some q5.1) q9.2.1).bind fun S12 =>
  (newO (N.1 + 5, N.2 + 80) 2 q9.1 S12 q9.2.2).bind fun q16 =>
  (fX2_init q16.2.1 q16.2.2.1 q16.2.2.2 (some q16.1)).bind fun q20 =>
  if ¬ (q20.2.2 = (q16.2.2.2.1 + 2, q16.2.2.2.2 + 60) ∧ q20.2.2.1 ≤ (N.1 + 5, N.2 + 80).1 ∧ q20.2.2.2 ≤ (N.1 + 5, N.2 + 80).2) then none else
  (pR q20.1 9 901 l0 (some q16.1) q20.2.1).bind fun S23 =>
  some (q20.1, S23, q20.2.2)
set_option maxRecDepth 100000 in
set_option maxHeartbeats 4000000 in
theorem mX9_init (l : Launch) {G : GG} {Y : LY} {S : HS} {N : Nat × Nat} {l0 : Option Nat} {res : LY × HS × (Nat × Nat)} (hf : fX9_init Y S N l0 = some res) : MA l yX9_init cX9_init 1 none 2 60 5 80 G Y S N [va_rf l0] res.1 res.2.1 res.2.2 none := by
  refine ma_of (plainFor_of_name (by decide +kernel)) (Nat.le_of_ble_eq_true rfl) (c1c (cr _) c1n) ?_
  intro p e R s m args below meth c X hname H locs ls hA hl
  have X : Cx p R s m args meth c RX9 cX9_init 1 2 60 (AA Y N) G none := X
  have hx := X.1.1
  have hb := X.1.2.1
  have hP := hA.1
  have hcp : (N.1 + 5, N.2 + 80).1 = N.1 + 5 ∧ (N.1 + 5, N.2 + 80).2 = N.2 + 80 := ⟨rfl, rfl⟩
  have hl : LV ls 1 [(0, va_rf l0)] := hl
  unfold fX9_init at hf
  refine rw_aload_n X dX9_init_0 rfl (hl.at 0 rfl) ?_
  by_cases c1 : l0 = none
  · exact absurd (ifp hf c1) (fun h => by cases h)
  have hf := ifn hf c1
  refine rw_objI X oiX9 c1 ⟨Nat.le_of_ble_eq_true rfl, Nat.le_of_ble_eq_true rfl⟩ c1n hl.1.1 dX9_init_1 ?_
  refine rw_aload_n X dX9_init_4 rfl (hl.at 0 rfl) ?_
  obtain ⟨q5, e5, hf⟩ := ob hf
  refine ra_new X dX9_init_5 nkX9_9 e5 hA (fun H hA => ?_)
  have hP := hA.1
  refine lv_dup hx hb dX9_init_8 (cr _) ?_
  obtain ⟨q9, e9, hf⟩ := ob hf
  by_cases c9 : q9.2.2 = (q5.2.2.2.1 + 1, q5.2.2.2.2 + 8) ∧ q9.2.2.1 ≤ (N.1 + 5, N.2 + 80).1 ∧ q9.2.2.2 ≤ (N.1 + 5, N.2 + 80).2
  rotate_left
  · exact absurd (ifp hf c9) (fun h => by cases h)
  have hf := ifn hf (fun h => h c9)
  refine ra_callI (As := []) X (by decide) dX9_init_9 ciX9_11 pyX0_init (mX0_init l e9) (by decide) (by intro h; cases h) c9.1 c9.2 hA rfl (catL (c1c (cr _) (c1c (cr _) c1n)) (Nat.le_of_ble_eq_true rfl)) hl.1.1 (fun H locs hA => ?_)
  have hP := hA.1
  obtain ⟨S12, e12, hf⟩ := ob hf
  refine rw_putzR X hname rfl dX9_init_12 fz9_12 e12 rfl hP (fun H locs hP => ?_)
  have hA := hA.put hP
  refine rw_aload_n X dX9_init_15 rfl (hl.at 0 rfl) ?_
  obtain ⟨q16, e16, hf⟩ := ob hf
  refine ra_new X dX9_init_16 nkX9_18 e16 hA (fun H hA => ?_)
  have hP := hA.1
  refine lv_dup hx hb dX9_init_19 (cr _) ?_
  obtain ⟨q20, e20, hf⟩ := ob hf
  by_cases c20 : q20.2.2 = (q16.2.2.2.1 + 2, q16.2.2.2.2 + 60) ∧ q20.2.2.1 ≤ (N.1 + 5, N.2 + 80).1 ∧ q20.2.2.2 ≤ (N.1 + 5, N.2 + 80).2
  rotate_left
  · exact absurd (ifp hf c20) (fun h => by cases h)
  have hf := ifn hf (fun h => h c20)
  refine ra_callI (As := []) X (by decide) dX9_init_20 ciX9_20 pyX2_init (mX2_init l e20) (by decide) (by intro h; cases h) c20.1 c20.2 hA rfl (catL (c1c (cr _) (c1c (cr _) c1n)) (Nat.le_of_ble_eq_true rfl)) hl.1.1 (fun H locs hA => ?_)
  have hP := hA.1
  obtain ⟨S23, e23, hf⟩ := ob hf
  refine rw_putzR X hname rfl dX9_init_23 fz9_21 e23 rfl hP (fun H locs hP => ?_)
  have hA := hA.put hP
  cases hf
  exact ra_vret X dX9_init_26 hA hcp
theorem dX11_init_0 : decode cX11_init 0 = .ok (.aload_n 0, 1) := by decide +kernel
theorem dX11_init_1 : decode cX11_init 1 = .ok (.invokespecial 1, 3) := by decide +kernel
theorem dX11_init_4 : decode cX11_init 4 = .ok (.aload_n 0, 1) := by decide +kernel
theorem dX11_init_5 : decode cX11_init 5 = .ok (.new 7, 3) := by decide +kernel
theorem dX11_init_8 : decode cX11_init 8 = .ok (.dup, 1) := by decide +kernel
theorem dX11_init_9 : decode cX11_init 9 = .ok (.invokespecial 9, 3) := by decide +kernel
theorem dX11_init_12 : decode cX11_init 12 = .ok (.putfield 10, 3) := by decide +kernel
theorem dX11_init_15 : decode cX11_init 15 = .ok (.aload_n 0, 1) := by decide +kernel
theorem dX11_init_16 : decode cX11_init 16 = .ok (.new 7, 3) := by decide +kernel
theorem dX11_init_19 : decode cX11_init 19 = .ok (.dup, 1) := by decide +kernel
theorem dX11_init_20 : decode cX11_init 20 = .ok (.invokespecial 9, 3) := by decide +kernel
theorem dX11_init_23 : decode cX11_init 23 = .ok (.putfield 16, 3) := by decide +kernel
theorem dX11_init_26 : decode cX11_init 26 = .ok (.aload_n 0, 1) := by decide +kernel
theorem dX11_init_27 : decode cX11_init 27 = .ok (.new 19, 3) := by decide +kernel
theorem dX11_init_30 : decode cX11_init 30 = .ok (.dup, 1) := by decide +kernel
theorem dX11_init_31 : decode cX11_init 31 = .ok (.invokespecial 21, 3) := by decide +kernel
theorem dX11_init_34 : decode cX11_init 34 = .ok (.putfield 22, 3) := by decide +kernel
theorem dX11_init_37 : decode cX11_init 37 = .ok (.aload_n 0, 1) := by decide +kernel
theorem dX11_init_38 : decode cX11_init 38 = .ok (.aload_n 0, 1) := by decide +kernel
theorem dX11_init_39 : decode cX11_init 39 = .ok (.getfield 22, 3) := by decide +kernel
theorem dX11_init_42 : decode cX11_init 42 = .ok (.getfield 26, 3) := by decide +kernel
theorem dX11_init_45 : decode cX11_init 45 = .ok (.putfield 30, 3) := by decide +kernel
theorem dX11_init_48 : decode cX11_init 48 = .ok (.aload_n 0, 1) := by decide +kernel
theorem dX11_init_49 : decode cX11_init 49 = .ok (.aload_n 0, 1) := by decide +kernel
theorem dX11_init_50 : decode cX11_init 50 = .ok (.getfield 22, 3) := by decide +kernel
theorem dX11_init_53 : decode cX11_init 53 = .ok (.getfield 31, 3) := by decide +kernel
theorem dX11_init_56 : decode cX11_init 56 = .ok (.putfield 35, 3) := by decide +kernel
theorem dX11_init_59 : decode cX11_init 59 = .ok (.aload_n 0, 1) := by decide +kernel
theorem dX11_init_60 : decode cX11_init 60 = .ok (.new 36, 3) := by decide +kernel
theorem dX11_init_63 : decode cX11_init 63 = .ok (.dup, 1) := by decide +kernel
theorem dX11_init_64 : decode cX11_init 64 = .ok (.invokespecial 38, 3) := by decide +kernel
theorem dX11_init_67 : decode cX11_init 67 = .ok (.putfield 39, 3) := by decide +kernel
theorem dX11_init_70 : decode cX11_init 70 = .ok (.aload_n 0, 1) := by decide +kernel
theorem dX11_init_71 : decode cX11_init 71 = .ok (.new 36, 3) := by decide +kernel
theorem dX11_init_74 : decode cX11_init 74 = .ok (.dup, 1) := by decide +kernel
theorem dX11_init_75 : decode cX11_init 75 = .ok (.invokespecial 38, 3) := by decide +kernel
theorem dX11_init_78 : decode cX11_init 78 = .ok (.putfield 43, 3) := by decide +kernel
theorem dX11_init_81 : decode cX11_init 81 = .ok (.aload_n 0, 1) := by decide +kernel
theorem dX11_init_82 : decode cX11_init 82 = .ok (.new 46, 3) := by decide +kernel
theorem dX11_init_85 : decode cX11_init 85 = .ok (.dup, 1) := by decide +kernel
theorem dX11_init_86 : decode cX11_init 86 = .ok (.invokespecial 48, 3) := by decide +kernel
theorem dX11_init_89 : decode cX11_init 89 = .ok (.putfield 49, 3) := by decide +kernel
theorem dX11_init_92 : decode cX11_init 92 = .ok (.aload_n 0, 1) := by decide +kernel
theorem dX11_init_93 : decode cX11_init 93 = .ok (.new 46, 3) := by decide +kernel
theorem dX11_init_96 : decode cX11_init 96 = .ok (.dup, 1) := by decide +kernel
theorem dX11_init_97 : decode cX11_init 97 = .ok (.invokespecial 48, 3) := by decide +kernel
theorem dX11_init_100 : decode cX11_init 100 = .ok (.putfield 53, 3) := by decide +kernel
theorem dX11_init_103 : decode cX11_init 103 = .ok (.aload_n 0, 1) := by decide +kernel
theorem dX11_init_104 : decode cX11_init 104 = .ok (.iconst 0, 1) := by decide +kernel
theorem dX11_init_105 : decode cX11_init 105 = .ok (.putfield 56, 3) := by decide +kernel
theorem dX11_init_108 : decode cX11_init 108 = .ok (.return_, 1) := by decide +kernel
theorem pyX11_init : PY yX11_init 0 := ⟨by decide +kernel, by decide +kernel, by decide +kernel⟩
def fX11_init (Y : LY) (S : HS) (N : Nat × Nat) (l0 : Option Nat) : Option (LY × HS × (Nat × Nat)) :=
  if l0 = none then none else
  (newO (N.1 + 268, N.2 + 2604) 7 Y S N).bind fun q5 =>
  (fX7_init q5.2.1 q5.2.2.1 q5.2.2.2 (some q5.1)).bind fun q9 =>
  if ¬ (q9.2.2 = (q5.2.2.2.1 + 1, q5.2.2.2.2 + 70) ∧ q9.2.2.1 ≤ (N.1 + 268, N.2 + 2604).1 ∧ q9.2.2.2 ≤ (N.1 + 268, N.2 + 2604).2) then none else
  (pR q9.1 11 1100 l0 (some q5.1) q9.2.1).bind fun S12 =>
  (newO (N.1 + 268, N.2 + 2604) 7 q9.1 S12 q9.2.2).bind fun q16 =>
  (fX7_init q16.2.1 q16.2.2.1 q16.2.2.2 (some q16.1)).bind fun q20 =>
  if ¬ (q20.2.2 = (q16.2.2.2.1 + 1, q16.2.2.2.2 + 70) ∧ q20.2.2.1 ≤ (N.1 + 268, N.2 + 2604).1 ∧ q20.2.2.2 ≤ (N.1 + 268, N.2 + 2604).2) then none else
  (pR q20.1 11 1101 l0 (some q16.1) q20.2.1).bind fun S23 =>
  (newO (N.1 + 268, N.2 + 2604) 9 q20.1 S23 q20.2.2).bind fun q27 =>
  (fX9_init q27.2.1 q27.2.2.1 q27.2.2.2 (some q27.1)).bind fun q31 =>
  if ¬ (q31.2.2 = (q27.2.2.2.1 + 5, q27.2.2.2.2 + 80) ∧ q31.2.2.1 ≤ (N.1 + 268, N.2 + 2604).1 ∧ q31.2.2.2 ≤ (N.1 + 268, N.2 + 2604).2) then none else
  (pR q31.1 11 1102 l0 (some q27.1) q31.2.1).bind fun S34 =>
  (gR q31.1 11 1102 l0 S34).bind fun v39 =>
  (gR q31.1 9 900 v39 S34).bind fun v42 =>
  (pR q31.1 11 1103 l0 v42 S34).bind fun S45 =>
  (gR q31.1 11 1102 l0 S45).bind fun v50 =>
  (gR q31.1 9 901 v50 S45).bind fun v53 =>
  (pR q31.1 11 1104 l0 v53 S45).bind fun S56 =>
  (newO (N.1 + 268, N.2 + 2604) 6 q31.1 S56 q31.2.2).bind fun q60 =>
  (fX6_init q60.2.1 q60.2.2.1 q60.2.2.2 (some q60.1)).bind fun q64 =>
  if ¬ (q64.2.2 = (q60.2.2.2.1 + 30, q60.2.2.2.2 + 344) ∧ q64.2.2.1 ≤ (N.1 + 268, N.2 + 2604).1 ∧ q64.2.2.2 ≤ (N.1 + 268, N.2 + 2604).2) then none else
  (pR q64.1 11 1105 l0 (some q60.1) q64.2.1).bind fun S67 =>
  (newO (N.1 + 268, N.2 + 2604) 6 q64.1 S67 q64.2.2).bind fun q71 =>
  (fX6_init q71.2.1 q71.2.2.1 q71.2.2.2 (some q71.1)).bind fun q75 =>
  if ¬ (q75.2.2 = (q71.2.2.2.1 + 30, q71.2.2.2.2 + 344) ∧ q75.2.2.1 ≤ (N.1 + 268, N.2 + 2604).1 ∧ q75.2.2.2 ≤ (N.1 + 268, N.2 + 2604).2) then none else
  (pR q75.1 11 1106 l0 (some q71.1) q75.2.1).bind fun S78 =>
  (newO (N.1 + 268, N.2 + 2604) 8 q75.1 S78 q75.2.2).bind fun q82 =>
  (fX8_init q82.2.1 q82.2.2.1 q82.2.2.2 (some q82.1)).bind fun q86 =>
  if ¬ (q86.2.2 = (q82.2.2.2.1 + 97, q82.2.2.2.2 + 840) ∧ q86.2.2.1 ≤ (N.1 + 268, N.2 + 2604).1 ∧ q86.2.2.2 ≤ (N.1 + 268, N.2 + 2604).2) then none else
  (pR q86.1 11 1107 l0 (some q82.1) q86.2.1).bind fun S89 =>
  (newO (N.1 + 268, N.2 + 2604) 8 q86.1 S89 q86.2.2).bind fun q93 =>
  (fX8_init q93.2.1 q93.2.2.1 q93.2.2.2 (some q93.1)).bind fun q97 =>
  if ¬ (q97.2.2 = (q93.2.2.2.1 + 97, q93.2.2.2.2 + 840) ∧ q97.2.2.1 ≤ (N.1 + 268, N.2 + 2604).1 ∧ q97.2.2.2 ≤ (N.1 + 268, N.2 + 2604).2) then none else
  (pR q97.1 11 1108 l0 (some q93.1) q97.2.1).bind fun S100 =>
  (pZ q97.1 11 1109 l0 0 S100).bind fun S105 =>
  some (q97.1, S105, q97.2.2)
set_option maxRecDepth 100000 in
set_option maxHeartbeats 4000000 in
theorem mX11_init (l : Launch) {G : GG} {Y : LY} {S : HS} {N : Nat × Nat} {l0 : Option Nat} {res : LY × HS × (Nat × Nat)} (hf : fX11_init Y S N l0 = some res) : MA l yX11_init cX11_init 1 none 4 102 268 2604 G Y S N [va_rf l0] res.1 res.2.1 res.2.2 none := by
  refine ma_of (plainFor_of_name (by decide +kernel)) (Nat.le_of_ble_eq_true rfl) (c1c (cr _) c1n) ?_
  intro p e R s m args below meth c X hname H locs ls hA hl
  have X : Cx p R s m args meth c RX11 cX11_init 1 4 102 (AA Y N) G none := X
  have hx := X.1.1
  have hb := X.1.2.1
  have hP := hA.1
  have hcp : (N.1 + 268, N.2 + 2604).1 = N.1 + 268 ∧ (N.1 + 268, N.2 + 2604).2 = N.2 + 2604 := ⟨rfl, rfl⟩
  have hl : LV ls 1 [(0, va_rf l0)] := hl
  unfold fX11_init at hf
  refine rw_aload_n X dX11_init_0 rfl (hl.at 0 rfl) ?_
  by_cases c1 : l0 = none
  · exact absurd (ifp hf c1) (fun h => by cases h)
  have hf := ifn hf c1
  refine rw_objI X oiX11 c1 ⟨Nat.le_of_ble_eq_true rfl, Nat.le_of_ble_eq_true rfl⟩ c1n hl.1.1 dX11_init_1 ?_
  refine rw_aload_n X dX11_init_4 rfl (hl.at 0 rfl) ?_
  obtain ⟨q5, e5, hf⟩ := ob hf
  refine ra_new X dX11_init_5 nkX11_7 e5 hA (fun H hA => ?_)
  have hP := hA.1
  refine lv_dup hx hb dX11_init_8 (cr _) ?_
  obtain ⟨q9, e9, hf⟩ := ob hf
  by_cases c9 : q9.2.2 = (q5.2.2.2.1 + 1, q5.2.2.2.2 + 70) ∧ q9.2.2.1 ≤ (N.1 + 268, N.2 + 2604).1 ∧ q9.2.2.2 ≤ (N.1 + 268, N.2 + 2604).2
  rotate_left
  · exact absurd (ifp hf c9) (fun h => by cases h)
  have hf := ifn hf (fun h => h c9)
  refine ra_callI (As := []) X (by decide) dX11_init_9 ciX11_9 pyX7_init (mX7_init l e9) (by decide) (by intro h; cases h) c9.1 c9.2 hA rfl (catL (c1c (cr _) (c1c (cr _) c1n)) (Nat.le_of_ble_eq_true rfl)) hl.1.1 (fun H locs hA => ?_)
  have hP := hA.1
  obtain ⟨S12, e12, hf⟩ := ob hf
  refine rw_putzR X hname rfl dX11_init_12 fz11_10 e12 rfl hP (fun H locs hP => ?_)
  have hA := hA.put hP
  refine rw_aload_n X dX11_init_15 rfl (hl.at 0 rfl) ?_
  obtain ⟨q16, e16, hf⟩ := ob hf
  refine ra_new X dX11_init_16 nkX11_7 e16 hA (fun H hA => ?_)
  have hP := hA.1
  refine lv_dup hx hb dX11_init_19 (cr _) ?_
  obtain ⟨q20, e20, hf⟩ := ob hf
  by_cases c20 : q20.2.2 = (q16.2.2.2.1 + 1, q16.2.2.2.2 + 70) ∧ q20.2.2.1 ≤ (N.1 + 268, N.2 + 2604).1 ∧ q20.2.2.2 ≤ (N.1 + 268, N.2 + 2604).2
  rotate_left
  · exact absurd (ifp hf c20) (fun h => by cases h)
  have hf := ifn hf (fun h => h c20)
  refine ra_callI (As := []) X (by decide) dX11_init_20 ciX11_9 pyX7_init (mX7_init l e20) (by decide) (by intro h; cases h) c20.1 c20.2 hA rfl (catL (c1c (cr _) (c1c (cr _) c1n)) (Nat.le_of_ble_eq_true rfl)) hl.1.1 (fun H locs hA => ?_)
  have hP := hA.1
  obtain ⟨S23, e23, hf⟩ := ob hf
  refine rw_putzR X hname rfl dX11_init_23 fz11_16 e23 rfl hP (fun H locs hP => ?_)
  have hA := hA.put hP
  refine rw_aload_n X dX11_init_26 rfl (hl.at 0 rfl) ?_
  obtain ⟨q27, e27, hf⟩ := ob hf
  refine ra_new X dX11_init_27 nkX11_19 e27 hA (fun H hA => ?_)
  have hP := hA.1
  refine lv_dup hx hb dX11_init_30 (cr _) ?_
  obtain ⟨q31, e31, hf⟩ := ob hf
  by_cases c31 : q31.2.2 = (q27.2.2.2.1 + 5, q27.2.2.2.2 + 80) ∧ q31.2.2.1 ≤ (N.1 + 268, N.2 + 2604).1 ∧ q31.2.2.2 ≤ (N.1 + 268, N.2 + 2604).2
  rotate_left
  · exact absurd (ifp hf c31) (fun h => by cases h)
  have hf := ifn hf (fun h => h c31)
  refine ra_callI (As := []) X (by decide) dX11_init_31 ciX11_21 pyX9_init (mX9_init l e31) (by decide) (by intro h; cases h) c31.1 c31.2 hA rfl (catL (c1c (cr _) (c1c (cr _) c1n)) (Nat.le_of_ble_eq_true rfl)) hl.1.1 (fun H locs hA => ?_)
  have hP := hA.1
  obtain ⟨S34, e34, hf⟩ := ob hf
  refine rw_putzR X hname rfl dX11_init_34 fz11_22 e34 rfl hP (fun H locs hP => ?_)
  have hA := hA.put hP
  refine rw_aload_n X dX11_init_37 rfl (hl.at 0 rfl) ?_
  refine rw_aload_n X dX11_init_38 rfl (hl.at 0 rfl) ?_
  obtain ⟨v39, e39, hf⟩ := ob hf
  refine rw_getR X dX11_init_39 fl11_22 e39 rfl hP ?_
  obtain ⟨v42, e42, hf⟩ := ob hf
  refine rw_getR X dX11_init_42 fl11_26 e42 rfl hP ?_
  obtain ⟨S45, e45, hf⟩ := ob hf
  refine rw_putzR X hname rfl dX11_init_45 fz11_30 e45 rfl hP (fun H locs hP => ?_)
  have hA := hA.put hP
  refine rw_aload_n X dX11_init_48 rfl (hl.at 0 rfl) ?_
  refine rw_aload_n X dX11_init_49 rfl (hl.at 0 rfl) ?_
  obtain ⟨v50, e50, hf⟩ := ob hf
  refine rw_getR X dX11_init_50 fl11_22 e50 rfl hP ?_
  obtain ⟨v53, e53, hf⟩ := ob hf
  refine rw_getR X dX11_init_53 fl11_31 e53 rfl hP ?_
  obtain ⟨S56, e56, hf⟩ := ob hf
  refine rw_putzR X hname rfl dX11_init_56 fz11_35 e56 rfl hP (fun H locs hP => ?_)
  have hA := hA.put hP
  refine rw_aload_n X dX11_init_59 rfl (hl.at 0 rfl) ?_
  obtain ⟨q60, e60, hf⟩ := ob hf
  refine ra_new X dX11_init_60 nkX11_36 e60 hA (fun H hA => ?_)
  have hP := hA.1
  refine lv_dup hx hb dX11_init_63 (cr _) ?_
  obtain ⟨q64, e64, hf⟩ := ob hf
  by_cases c64 : q64.2.2 = (q60.2.2.2.1 + 30, q60.2.2.2.2 + 344) ∧ q64.2.2.1 ≤ (N.1 + 268, N.2 + 2604).1 ∧ q64.2.2.2 ≤ (N.1 + 268, N.2 + 2604).2
  rotate_left
  · exact absurd (ifp hf c64) (fun h => by cases h)
  have hf := ifn hf (fun h => h c64)
  refine ra_callI (As := []) X (by decide) dX11_init_64 ciX11_38 pyX6_init (mX6_init l e64) (by decide) (by intro h; cases h) c64.1 c64.2 hA rfl (catL (c1c (cr _) (c1c (cr _) c1n)) (Nat.le_of_ble_eq_true rfl)) hl.1.1 (fun H locs hA => ?_)
  have hP := hA.1
  obtain ⟨S67, e67, hf⟩ := ob hf
  refine rw_putzR X hname rfl dX11_init_67 fz11_39 e67 rfl hP (fun H locs hP => ?_)
  have hA := hA.put hP
  refine rw_aload_n X dX11_init_70 rfl (hl.at 0 rfl) ?_
  obtain ⟨q71, e71, hf⟩ := ob hf
  refine ra_new X dX11_init_71 nkX11_36 e71 hA (fun H hA => ?_)
  have hP := hA.1
  refine lv_dup hx hb dX11_init_74 (cr _) ?_
  obtain ⟨q75, e75, hf⟩ := ob hf
  by_cases c75 : q75.2.2 = (q71.2.2.2.1 + 30, q71.2.2.2.2 + 344) ∧ q75.2.2.1 ≤ (N.1 + 268, N.2 + 2604).1 ∧ q75.2.2.2 ≤ (N.1 + 268, N.2 + 2604).2
  rotate_left
  · exact absurd (ifp hf c75) (fun h => by cases h)
  have hf := ifn hf (fun h => h c75)
  refine ra_callI (As := []) X (by decide) dX11_init_75 ciX11_38 pyX6_init (mX6_init l e75) (by decide) (by intro h; cases h) c75.1 c75.2 hA rfl (catL (c1c (cr _) (c1c (cr _) c1n)) (Nat.le_of_ble_eq_true rfl)) hl.1.1 (fun H locs hA => ?_)
  have hP := hA.1
  obtain ⟨S78, e78, hf⟩ := ob hf
  refine rw_putzR X hname rfl dX11_init_78 fz11_43 e78 rfl hP (fun H locs hP => ?_)
  have hA := hA.put hP
  refine rw_aload_n X dX11_init_81 rfl (hl.at 0 rfl) ?_
  obtain ⟨q82, e82, hf⟩ := ob hf
  refine ra_new X dX11_init_82 nkX11_46 e82 hA (fun H hA => ?_)
  have hP := hA.1
  refine lv_dup hx hb dX11_init_85 (cr _) ?_
  obtain ⟨q86, e86, hf⟩ := ob hf
  by_cases c86 : q86.2.2 = (q82.2.2.2.1 + 97, q82.2.2.2.2 + 840) ∧ q86.2.2.1 ≤ (N.1 + 268, N.2 + 2604).1 ∧ q86.2.2.2 ≤ (N.1 + 268, N.2 + 2604).2
  rotate_left
  · exact absurd (ifp hf c86) (fun h => by cases h)
  have hf := ifn hf (fun h => h c86)
  refine ra_callI (As := []) X (by decide) dX11_init_86 ciX11_48 pyX8_init (mX8_init l e86) (by decide) (by intro h; cases h) c86.1 c86.2 hA rfl (catL (c1c (cr _) (c1c (cr _) c1n)) (Nat.le_of_ble_eq_true rfl)) hl.1.1 (fun H locs hA => ?_)
  have hP := hA.1
  obtain ⟨S89, e89, hf⟩ := ob hf
  refine rw_putR X dX11_init_89 fl11_49 fw11_7 e89 rfl hP (fun H locs hP => ?_)
  have hA := hA.put hP
  refine rw_aload_n X dX11_init_92 rfl (hl.at 0 rfl) ?_
  obtain ⟨q93, e93, hf⟩ := ob hf
  refine ra_new X dX11_init_93 nkX11_46 e93 hA (fun H hA => ?_)
  have hP := hA.1
  refine lv_dup hx hb dX11_init_96 (cr _) ?_
  obtain ⟨q97, e97, hf⟩ := ob hf
  by_cases c97 : q97.2.2 = (q93.2.2.2.1 + 97, q93.2.2.2.2 + 840) ∧ q97.2.2.1 ≤ (N.1 + 268, N.2 + 2604).1 ∧ q97.2.2.2 ≤ (N.1 + 268, N.2 + 2604).2
  rotate_left
  · exact absurd (ifp hf c97) (fun h => by cases h)
  have hf := ifn hf (fun h => h c97)
  refine ra_callI (As := []) X (by decide) dX11_init_97 ciX11_48 pyX8_init (mX8_init l e97) (by decide) (by intro h; cases h) c97.1 c97.2 hA rfl (catL (c1c (cr _) (c1c (cr _) c1n)) (Nat.le_of_ble_eq_true rfl)) hl.1.1 (fun H locs hA => ?_)
  have hP := hA.1
  obtain ⟨S100, e100, hf⟩ := ob hf
  refine rw_putR X dX11_init_100 fl11_53 fw11_8 e100 rfl hP (fun H locs hP => ?_)
  have hA := hA.put hP
  refine rw_aload_n X dX11_init_103 rfl (hl.at 0 rfl) ?_
  refine lv_iconst (v := 0) hx hb dX11_init_104 (by decide) ?_
  obtain ⟨S105, e105, hf⟩ := ob hf
  refine rw_putZ X dX11_init_105 fl11_56 fw11_9 e105 rfl hP (fun H locs hP => ?_)
  have hA := hA.put hP
  cases hf
  exact ra_vret X dX11_init_108 hA hcp
theorem dX12_init_0 : decode cX12_init 0 = .ok (.aload_n 0, 1) := by decide +kernel
theorem dX12_init_1 : decode cX12_init 1 = .ok (.invokespecial 3, 3) := by decide +kernel
theorem dX12_init_4 : decode cX12_init 4 = .ok (.aload_n 0, 1) := by decide +kernel
theorem dX12_init_5 : decode cX12_init 5 = .ok (.sipush 355, 3) := by decide +kernel
theorem dX12_init_8 : decode cX12_init 8 = .ok (.newarray .int, 2) := by decide +kernel
theorem dX12_init_10 : decode cX12_init 10 = .ok (.putfield 9, 3) := by decide +kernel
theorem dX12_init_13 : decode cX12_init 13 = .ok (.aload_n 0, 1) := by decide +kernel
theorem dX12_init_14 : decode cX12_init 14 = .ok (.sipush 355, 3) := by decide +kernel
theorem dX12_init_17 : decode cX12_init 17 = .ok (.newarray .int, 2) := by decide +kernel
theorem dX12_init_19 : decode cX12_init 19 = .ok (.putfield 13, 3) := by decide +kernel
theorem dX12_init_22 : decode cX12_init 22 = .ok (.aload_n 0, 1) := by decide +kernel
theorem dX12_init_23 : decode cX12_init 23 = .ok (.sipush 355, 3) := by decide +kernel
theorem dX12_init_26 : decode cX12_init 26 = .ok (.newarray .int, 2) := by decide +kernel
theorem dX12_init_28 : decode cX12_init 28 = .ok (.putfield 16, 3) := by decide +kernel
theorem dX12_init_31 : decode cX12_init 31 = .ok (.aload_n 0, 1) := by decide +kernel
theorem dX12_init_32 : decode cX12_init 32 = .ok (.bipush 70, 2) := by decide +kernel
theorem dX12_init_34 : decode cX12_init 34 = .ok (.newarray .int, 2) := by decide +kernel
theorem dX12_init_36 : decode cX12_init 36 = .ok (.putfield 19, 3) := by decide +kernel
theorem dX12_init_39 : decode cX12_init 39 = .ok (.aload_n 0, 1) := by decide +kernel
theorem dX12_init_40 : decode cX12_init 40 = .ok (.sipush 200, 3) := by decide +kernel
theorem dX12_init_43 : decode cX12_init 43 = .ok (.newarray .int, 2) := by decide +kernel
theorem dX12_init_45 : decode cX12_init 45 = .ok (.putfield 22, 3) := by decide +kernel
theorem dX12_init_48 : decode cX12_init 48 = .ok (.aload_n 0, 1) := by decide +kernel
theorem dX12_init_49 : decode cX12_init 49 = .ok (.bipush 24, 2) := by decide +kernel
theorem dX12_init_51 : decode cX12_init 51 = .ok (.newarray .int, 2) := by decide +kernel
theorem dX12_init_53 : decode cX12_init 53 = .ok (.putfield 25, 3) := by decide +kernel
theorem dX12_init_56 : decode cX12_init 56 = .ok (.aload_n 0, 1) := by decide +kernel
theorem dX12_init_57 : decode cX12_init 57 = .ok (.bipush 24, 2) := by decide +kernel
theorem dX12_init_59 : decode cX12_init 59 = .ok (.newarray .int, 2) := by decide +kernel
theorem dX12_init_61 : decode cX12_init 61 = .ok (.putfield 28, 3) := by decide +kernel
theorem dX12_init_64 : decode cX12_init 64 = .ok (.aload_n 0, 1) := by decide +kernel
theorem dX12_init_65 : decode cX12_init 65 = .ok (.bipush 24, 2) := by decide +kernel
theorem dX12_init_67 : decode cX12_init 67 = .ok (.newarray .int, 2) := by decide +kernel
theorem dX12_init_69 : decode cX12_init 69 = .ok (.putfield 31, 3) := by decide +kernel
theorem dX12_init_72 : decode cX12_init 72 = .ok (.aload_n 0, 1) := by decide +kernel
theorem dX12_init_73 : decode cX12_init 73 = .ok (.bipush 24, 2) := by decide +kernel
theorem dX12_init_75 : decode cX12_init 75 = .ok (.newarray .int, 2) := by decide +kernel
theorem dX12_init_77 : decode cX12_init 77 = .ok (.putfield 34, 3) := by decide +kernel
theorem dX12_init_80 : decode cX12_init 80 = .ok (.aload_n 0, 1) := by decide +kernel
theorem dX12_init_81 : decode cX12_init 81 = .ok (.bipush 24, 2) := by decide +kernel
theorem dX12_init_83 : decode cX12_init 83 = .ok (.newarray .int, 2) := by decide +kernel
theorem dX12_init_85 : decode cX12_init 85 = .ok (.putfield 37, 3) := by decide +kernel
theorem dX12_init_88 : decode cX12_init 88 = .ok (.aload_n 0, 1) := by decide +kernel
theorem dX12_init_89 : decode cX12_init 89 = .ok (.bipush 24, 2) := by decide +kernel
theorem dX12_init_91 : decode cX12_init 91 = .ok (.newarray .int, 2) := by decide +kernel
theorem dX12_init_93 : decode cX12_init 93 = .ok (.putfield 40, 3) := by decide +kernel
theorem dX12_init_96 : decode cX12_init 96 = .ok (.aload_n 0, 1) := by decide +kernel
theorem dX12_init_97 : decode cX12_init 97 = .ok (.bipush 24, 2) := by decide +kernel
theorem dX12_init_99 : decode cX12_init 99 = .ok (.newarray .int, 2) := by decide +kernel
theorem dX12_init_101 : decode cX12_init 101 = .ok (.putfield 43, 3) := by decide +kernel
theorem dX12_init_104 : decode cX12_init 104 = .ok (.aload_n 0, 1) := by decide +kernel
theorem dX12_init_105 : decode cX12_init 105 = .ok (.bipush 24, 2) := by decide +kernel
theorem dX12_init_107 : decode cX12_init 107 = .ok (.newarray .int, 2) := by decide +kernel
theorem dX12_init_109 : decode cX12_init 109 = .ok (.putfield 46, 3) := by decide +kernel
theorem dX12_init_112 : decode cX12_init 112 = .ok (.aload_n 0, 1) := by decide +kernel
theorem dX12_init_113 : decode cX12_init 113 = .ok (.bipush 24, 2) := by decide +kernel
theorem dX12_init_115 : decode cX12_init 115 = .ok (.newarray .int, 2) := by decide +kernel
theorem dX12_init_117 : decode cX12_init 117 = .ok (.putfield 49, 3) := by decide +kernel
theorem dX12_init_120 : decode cX12_init 120 = .ok (.aload_n 0, 1) := by decide +kernel
theorem dX12_init_121 : decode cX12_init 121 = .ok (.bipush 24, 2) := by decide +kernel
theorem dX12_init_123 : decode cX12_init 123 = .ok (.newarray .int, 2) := by decide +kernel
theorem dX12_init_125 : decode cX12_init 125 = .ok (.putfield 52, 3) := by decide +kernel
theorem dX12_init_128 : decode cX12_init 128 = .ok (.aload_n 0, 1) := by decide +kernel
theorem dX12_init_129 : decode cX12_init 129 = .ok (.bipush 24, 2) := by decide +kernel
theorem dX12_init_131 : decode cX12_init 131 = .ok (.newarray .int, 2) := by decide +kernel
theorem dX12_init_133 : decode cX12_init 133 = .ok (.putfield 55, 3) := by decide +kernel
theorem dX12_init_136 : decode cX12_init 136 = .ok (.aload_n 0, 1) := by decide +kernel
theorem dX12_init_137 : decode cX12_init 137 = .ok (.bipush 24, 2) := by decide +kernel
theorem dX12_init_139 : decode cX12_init 139 = .ok (.newarray .int, 2) := by decide +kernel
theorem dX12_init_141 : decode cX12_init 141 = .ok (.putfield 58, 3) := by decide +kernel
theorem dX12_init_144 : decode cX12_init 144 = .ok (.aload_n 0, 1) := by decide +kernel
theorem dX12_init_145 : decode cX12_init 145 = .ok (.bipush 24, 2) := by decide +kernel
theorem dX12_init_147 : decode cX12_init 147 = .ok (.newarray .int, 2) := by decide +kernel
theorem dX12_init_149 : decode cX12_init 149 = .ok (.putfield 61, 3) := by decide +kernel
theorem dX12_init_152 : decode cX12_init 152 = .ok (.aload_n 0, 1) := by decide +kernel
theorem dX12_init_153 : decode cX12_init 153 = .ok (.bipush 24, 2) := by decide +kernel
theorem dX12_init_155 : decode cX12_init 155 = .ok (.newarray .int, 2) := by decide +kernel
theorem dX12_init_157 : decode cX12_init 157 = .ok (.putfield 64, 3) := by decide +kernel
theorem dX12_init_160 : decode cX12_init 160 = .ok (.aload_n 0, 1) := by decide +kernel
theorem dX12_init_161 : decode cX12_init 161 = .ok (.bipush 24, 2) := by decide +kernel
theorem dX12_init_163 : decode cX12_init 163 = .ok (.newarray .int, 2) := by decide +kernel
theorem dX12_init_165 : decode cX12_init 165 = .ok (.putfield 67, 3) := by decide +kernel
theorem dX12_init_168 : decode cX12_init 168 = .ok (.aload_n 0, 1) := by decide +kernel
theorem dX12_init_169 : decode cX12_init 169 = .ok (.bipush 24, 2) := by decide +kernel
theorem dX12_init_171 : decode cX12_init 171 = .ok (.newarray .int, 2) := by decide +kernel
theorem dX12_init_173 : decode cX12_init 173 = .ok (.putfield 70, 3) := by decide +kernel
theorem dX12_init_176 : decode cX12_init 176 = .ok (.aload_n 0, 1) := by decide +kernel
theorem dX12_init_177 : decode cX12_init 177 = .ok (.bipush 24, 2) := by decide +kernel
theorem dX12_init_179 : decode cX12_init 179 = .ok (.newarray .int, 2) := by decide +kernel
theorem dX12_init_181 : decode cX12_init 181 = .ok (.putfield 73, 3) := by decide +kernel
theorem dX12_init_184 : decode cX12_init 184 = .ok (.aload_n 0, 1) := by decide +kernel
theorem dX12_init_185 : decode cX12_init 185 = .ok (.bipush 24, 2) := by decide +kernel
theorem dX12_init_187 : decode cX12_init 187 = .ok (.newarray .int, 2) := by decide +kernel
theorem dX12_init_189 : decode cX12_init 189 = .ok (.putfield 76, 3) := by decide +kernel
theorem dX12_init_192 : decode cX12_init 192 = .ok (.aload_n 0, 1) := by decide +kernel
theorem dX12_init_193 : decode cX12_init 193 = .ok (.bipush 24, 2) := by decide +kernel
theorem dX12_init_195 : decode cX12_init 195 = .ok (.newarray .int, 2) := by decide +kernel
theorem dX12_init_197 : decode cX12_init 197 = .ok (.putfield 79, 3) := by decide +kernel
theorem dX12_init_200 : decode cX12_init 200 = .ok (.aload_n 0, 1) := by decide +kernel
theorem dX12_init_201 : decode cX12_init 201 = .ok (.bipush 24, 2) := by decide +kernel
theorem dX12_init_203 : decode cX12_init 203 = .ok (.newarray .int, 2) := by decide +kernel
theorem dX12_init_205 : decode cX12_init 205 = .ok (.putfield 82, 3) := by decide +kernel
theorem dX12_init_208 : decode cX12_init 208 = .ok (.aload_n 0, 1) := by decide +kernel
theorem dX12_init_209 : decode cX12_init 209 = .ok (.bipush 24, 2) := by decide +kernel
theorem dX12_init_211 : decode cX12_init 211 = .ok (.newarray .int, 2) := by decide +kernel
theorem dX12_init_213 : decode cX12_init 213 = .ok (.putfield 85, 3) := by decide +kernel
theorem dX12_init_216 : decode cX12_init 216 = .ok (.aload_n 0, 1) := by decide +kernel
theorem dX12_init_217 : decode cX12_init 217 = .ok (.bipush 24, 2) := by decide +kernel
theorem dX12_init_219 : decode cX12_init 219 = .ok (.newarray .int, 2) := by decide +kernel
theorem dX12_init_221 : decode cX12_init 221 = .ok (.putfield 88, 3) := by decide +kernel
theorem dX12_init_224 : decode cX12_init 224 = .ok (.aload_n 0, 1) := by decide +kernel
theorem dX12_init_225 : decode cX12_init 225 = .ok (.bipush 11, 2) := by decide +kernel
theorem dX12_init_227 : decode cX12_init 227 = .ok (.newarray .int, 2) := by decide +kernel
theorem dX12_init_229 : decode cX12_init 229 = .ok (.putfield 91, 3) := by decide +kernel
theorem dX12_init_232 : decode cX12_init 232 = .ok (.aload_n 0, 1) := by decide +kernel
theorem dX12_init_233 : decode cX12_init 233 = .ok (.getfield 9, 3) := by decide +kernel
theorem dX12_init_236 : decode cX12_init 236 = .ok (.sipush 284, 3) := by decide +kernel
theorem dX12_init_239 : decode cX12_init 239 = .ok (.iconst (-1), 1) := by decide +kernel
theorem dX12_init_240 : decode cX12_init 240 = .ok (.iastore, 1) := by decide +kernel
theorem dX12_init_241 : decode cX12_init 241 = .ok (.return_, 1) := by decide +kernel
theorem pyX12_init : PY yX12_init 0 := ⟨by decide +kernel, by decide +kernel, by decide +kernel⟩
def fX12_init (Y : LY) (S : HS) (N : Nat × Nat) (l0 : Option Nat) : Option (LY × HS × (Nat × Nat)) :=
  if l0 = none then none else
  (newA (N.1 + 28, N.2 + 1874) 14 355 Y S N).bind fun q8 =>
  (pR q8.2.1 12 1200 l0 (some q8.1) q8.2.2.1).bind fun S10 =>
  (newA (N.1 + 28, N.2 + 1874) 14 355 q8.2.1 S10 q8.2.2.2).bind fun q17 =>
  (pR q17.2.1 12 1201 l0 (some q17.1) q17.2.2.1).bind fun S19 =>
  (newA (N.1 + 28, N.2 + 1874) 14 355 q17.2.1 S19 q17.2.2.2).bind fun q26 =>
  (pR q26.2.1 12 1202 l0 (some q26.1) q26.2.2.1).bind fun S28 =>
  (newA (N.1 + 28, N.2 + 1874) 14 70 q26.2.1 S28 q26.2.2.2).bind fun q34 =>
  (pR q34.2.1 12 1204 l0 (some q34.1) q34.2.2.1).bind fun S36 =>
  (newA (N.1 + 28, N.2 + 1874) 14 200 q34.2.1 S36 q34.2.2.2).bind fun q43 =>
  (pR q43.2.1 12 1205 l0 (some q43.1) q43.2.2.1).bind fun S45 =>
  (newA (N.1 + 28, N.2 + 1874) 14 24 q43.2.1 S45 q43.2.2.2).bind fun q51 =>
  (pR q51.2.1 12 1209 l0 (some q51.1) q51.2.2.1).bind fun S53 =>
  (newA (N.1 + 28, N.2 + 1874) 14 24 q51.2.1 S53 q51.2.2.2).bind fun q59 =>
  (pR q59.2.1 12 1210 l0 (some q59.1) q59.2.2.1).bind fun S61 =>
  (newA (N.1 + 28, N.2 + 1874) 14 24 q59.2.1 S61 q59.2.2.2).bind fun q67 =>
  (pR q67.2.1 12 1211 l0 (some q67.1) q67.2.2.1).bind fun S69 =>
  (newA (N.1 + 28, N.2 + 1874) 14 24 q67.2.1 S69 q67.2.2.2).bind fun q75 =>
  (pR q75.2.1 12 1212 l0 (some q75.1) q75.2.2.1).bind fun S77 =>
  (newA (N.1 + 28, N.2 + 1874) 14 24 q75.2.1 S77 q75.2.2.2).bind fun q83 =>
  (pR q83.2.1 12 1213 l0 (some q83.1) q83.2.2.1).bind fun S85 =>
  (newA (N.1 + 28, N.2 + 1874) 14 24 q83.2.1 S85 q83.2.2.2).bind fun q91 =>
  (pR q91.2.1 12 1214 l0 (some q91.1) q91.2.2.1).bind fun S93 =>
  (newA (N.1 + 28, N.2 + 1874) 14 24 q91.2.1 S93 q91.2.2.2).bind fun q99 =>
  (pR q99.2.1 12 1215 l0 (some q99.1) q99.2.2.1).bind fun S101 =>
  (newA (N.1 + 28, N.2 + 1874) 14 24 q99.2.1 S101 q99.2.2.2).bind fun q107 =>
  (pR q107.2.1 12 1216 l0 (some q107.1) q107.2.2.1).bind fun S109 =>
  (newA (N.1 + 28, N.2 + 1874) 14 24 q107.2.1 S109 q107.2.2.2).bind fun q115 =>
  (pR q115.2.1 12 1217 l0 (some q115.1) q115.2.2.1).bind fun S117 =>
  (newA (N.1 + 28, N.2 + 1874) 14 24 q115.2.1 S117 q115.2.2.2).bind fun q123 =>
  (pR q123.2.1 12 1218 l0 (some q123.1) q123.2.2.1).bind fun S125 =>
  (newA (N.1 + 28, N.2 + 1874) 14 24 q123.2.1 S125 q123.2.2.2).bind fun q131 =>
  (pR q131.2.1 12 1219 l0 (some q131.1) q131.2.2.1).bind fun S133 =>
  (newA (N.1 + 28, N.2 + 1874) 14 24 q131.2.1 S133 q131.2.2.2).bind fun q139 =>
  (pR q139.2.1 12 1223 l0 (some q139.1) q139.2.2.1).bind fun S141 =>
  (newA (N.1 + 28, N.2 + 1874) 14 24 q139.2.1 S141 q139.2.2.2).bind fun q147 =>
  (pR q147.2.1 12 1224 l0 (some q147.1) q147.2.2.1).bind fun S149 =>
  (newA (N.1 + 28, N.2 + 1874) 14 24 q147.2.1 S149 q147.2.2.2).bind fun q155 =>
  (pR q155.2.1 12 1225 l0 (some q155.1) q155.2.2.1).bind fun S157 =>
  (newA (N.1 + 28, N.2 + 1874) 14 24 q155.2.1 S157 q155.2.2.2).bind fun q163 =>
  (pR q163.2.1 12 1226 l0 (some q163.1) q163.2.2.1).bind fun S165 =>
  (newA (N.1 + 28, N.2 + 1874) 14 24 q163.2.1 S165 q163.2.2.2).bind fun q171 =>
  (pR q171.2.1 12 1227 l0 (some q171.1) q171.2.2.1).bind fun S173 =>
  (newA (N.1 + 28, N.2 + 1874) 14 24 q171.2.1 S173 q171.2.2.2).bind fun q179 =>
  (pR q179.2.1 12 1228 l0 (some q179.1) q179.2.2.1).bind fun S181 =>
  (newA (N.1 + 28, N.2 + 1874) 14 24 q179.2.1 S181 q179.2.2.2).bind fun q187 =>
  (pR q187.2.1 12 1229 l0 (some q187.1) q187.2.2.1).bind fun S189 =>
  (newA (N.1 + 28, N.2 + 1874) 14 24 q187.2.1 S189 q187.2.2.2).bind fun q195 =>
  (pR q195.2.1 12 1230 l0 (some q195.1) q195.2.2.1).bind fun S197 =>
  (newA (N.1 + 28, N.2 + 1874) 14 24 q195.2.1 S197 q195.2.2.2).bind fun q203 =>
  (pR q203.2.1 12 1231 l0 (some q203.1) q203.2.2.1).bind fun S205 =>
  (newA (N.1 + 28, N.2 + 1874) 14 24 q203.2.1 S205 q203.2.2.2).bind fun q211 =>
  (pR q211.2.1 12 1232 l0 (some q211.1) q211.2.2.1).bind fun S213 =>
  (newA (N.1 + 28, N.2 + 1874) 14 24 q211.2.1 S213 q211.2.2.2).bind fun q219 =>
  (pR q219.2.1 12 1233 l0 (some q219.1) q219.2.2.1).bind fun S221 =>
  (newA (N.1 + 28, N.2 + 1874) 14 11 q219.2.1 S221 q219.2.2.2).bind fun q227 =>
  (pR q227.2.1 12 1234 l0 (some q227.1) q227.2.2.1).bind fun S229 =>
  (gR q227.2.1 12 1200 l0 S229).bind fun v233 =>
  (pA q227.2.1 14 v233 284 (-1) S229).bind fun S240 =>
  some (q227.2.1, S240, q227.2.2.2)
set_option maxRecDepth 100000 in
set_option maxHeartbeats 4000000 in
theorem mX12_init (l : Launch) {G : GG} {Y : LY} {S : HS} {N : Nat × Nat} {l0 : Option Nat} {res : LY × HS × (Nat × Nat)} (hf : fX12_init Y S N l0 = some res) : MA l yX12_init cX12_init 1 none 1 40 28 1874 G Y S N [va_rf l0] res.1 res.2.1 res.2.2 none := by
  refine ma_of (plainFor_of_name (by decide +kernel)) (Nat.le_of_ble_eq_true rfl) (c1c (cr _) c1n) ?_
  intro p e R s m args below meth c X hname H locs ls hA hl
  have X : Cx p R s m args meth c RX12 cX12_init 1 1 40 (AA Y N) G none := X
  have hx := X.1.1
  have hb := X.1.2.1
  have hP := hA.1
  have hcp : (N.1 + 28, N.2 + 1874).1 = N.1 + 28 ∧ (N.1 + 28, N.2 + 1874).2 = N.2 + 1874 := ⟨rfl, rfl⟩
  have hl : LV ls 1 [(0, va_rf l0)] := hl
  unfold fX12_init at hf
  refine rw_aload_n X dX12_init_0 rfl (hl.at 0 rfl) ?_
  by_cases c1 : l0 = none
  · exact absurd (ifp hf c1) (fun h => by cases h)
  have hf := ifn hf c1
  refine rw_objI X oiX12 c1 ⟨Nat.le_of_ble_eq_true rfl, Nat.le_of_ble_eq_true rfl⟩ c1n hl.1.1 dX12_init_1 ?_
  refine rw_aload_n X dX12_init_4 rfl (hl.at 0 rfl) ?_
  refine lv_sipush (v := 355) hx hb dX12_init_5 (by decide) ?_
  obtain ⟨q8, e8, hf⟩ := ob hf
  refine ra_newa X (by first | exact Or.inl ⟨rfl, rfl⟩ | exact Or.inr ⟨rfl, rfl⟩) dX12_init_8 e8 hA (fun H hA => ?_)
  have hP := hA.1
  obtain ⟨S10, e10, hf⟩ := ob hf
  refine rw_putzR X hname rfl dX12_init_10 fz12_9 e10 rfl hP (fun H locs hP => ?_)
  have hA := hA.put hP
  refine rw_aload_n X dX12_init_13 rfl (hl.at 0 rfl) ?_
  refine lv_sipush (v := 355) hx hb dX12_init_14 (by decide) ?_
  obtain ⟨q17, e17, hf⟩ := ob hf
  refine ra_newa X (by first | exact Or.inl ⟨rfl, rfl⟩ | exact Or.inr ⟨rfl, rfl⟩) dX12_init_17 e17 hA (fun H hA => ?_)
  have hP := hA.1
  obtain ⟨S19, e19, hf⟩ := ob hf
  refine rw_putzR X hname rfl dX12_init_19 fz12_13 e19 rfl hP (fun H locs hP => ?_)
  have hA := hA.put hP
  refine rw_aload_n X dX12_init_22 rfl (hl.at 0 rfl) ?_
  refine lv_sipush (v := 355) hx hb dX12_init_23 (by decide) ?_
  obtain ⟨q26, e26, hf⟩ := ob hf
  refine ra_newa X (by first | exact Or.inl ⟨rfl, rfl⟩ | exact Or.inr ⟨rfl, rfl⟩) dX12_init_26 e26 hA (fun H hA => ?_)
  have hP := hA.1
  obtain ⟨S28, e28, hf⟩ := ob hf
  refine rw_putzR X hname rfl dX12_init_28 fz12_16 e28 rfl hP (fun H locs hP => ?_)
  have hA := hA.put hP
  refine rw_aload_n X dX12_init_31 rfl (hl.at 0 rfl) ?_
  refine lv_bipush (v := 70) hx hb dX12_init_32 (by decide) ?_
  obtain ⟨q34, e34, hf⟩ := ob hf
  refine ra_newa X (by first | exact Or.inl ⟨rfl, rfl⟩ | exact Or.inr ⟨rfl, rfl⟩) dX12_init_34 e34 hA (fun H hA => ?_)
  have hP := hA.1
  obtain ⟨S36, e36, hf⟩ := ob hf
  refine rw_putzR X hname rfl dX12_init_36 fz12_19 e36 rfl hP (fun H locs hP => ?_)
  have hA := hA.put hP
  refine rw_aload_n X dX12_init_39 rfl (hl.at 0 rfl) ?_
  refine lv_sipush (v := 200) hx hb dX12_init_40 (by decide) ?_
  obtain ⟨q43, e43, hf⟩ := ob hf
  refine ra_newa X (by first | exact Or.inl ⟨rfl, rfl⟩ | exact Or.inr ⟨rfl, rfl⟩) dX12_init_43 e43 hA (fun H hA => ?_)
  have hP := hA.1
  obtain ⟨S45, e45, hf⟩ := ob hf
  refine rw_putzR X hname rfl dX12_init_45 fz12_22 e45 rfl hP (fun H locs hP => ?_)
  have hA := hA.put hP
  refine rw_aload_n X dX12_init_48 rfl (hl.at 0 rfl) ?_
  refine lv_bipush (v := 24) hx hb dX12_init_49 (by decide) ?_
  obtain ⟨q51, e51, hf⟩ := ob hf
  refine ra_newa X (by first | exact Or.inl ⟨rfl, rfl⟩ | exact Or.inr ⟨rfl, rfl⟩) dX12_init_51 e51 hA (fun H hA => ?_)
  have hP := hA.1
  obtain ⟨S53, e53, hf⟩ := ob hf
  refine rw_putzR X hname rfl dX12_init_53 fz12_25 e53 rfl hP (fun H locs hP => ?_)
  have hA := hA.put hP
  refine rw_aload_n X dX12_init_56 rfl (hl.at 0 rfl) ?_
  refine lv_bipush (v := 24) hx hb dX12_init_57 (by decide) ?_
  obtain ⟨q59, e59, hf⟩ := ob hf
  refine ra_newa X (by first | exact Or.inl ⟨rfl, rfl⟩ | exact Or.inr ⟨rfl, rfl⟩) dX12_init_59 e59 hA (fun H hA => ?_)
  have hP := hA.1
  obtain ⟨S61, e61, hf⟩ := ob hf
  refine rw_putzR X hname rfl dX12_init_61 fz12_28 e61 rfl hP (fun H locs hP => ?_)
  have hA := hA.put hP
  refine rw_aload_n X dX12_init_64 rfl (hl.at 0 rfl) ?_
  refine lv_bipush (v := 24) hx hb dX12_init_65 (by decide) ?_
  obtain ⟨q67, e67, hf⟩ := ob hf
  refine ra_newa X (by first | exact Or.inl ⟨rfl, rfl⟩ | exact Or.inr ⟨rfl, rfl⟩) dX12_init_67 e67 hA (fun H hA => ?_)
  have hP := hA.1
  obtain ⟨S69, e69, hf⟩ := ob hf
  refine rw_putzR X hname rfl dX12_init_69 fz12_31 e69 rfl hP (fun H locs hP => ?_)
  have hA := hA.put hP
  refine rw_aload_n X dX12_init_72 rfl (hl.at 0 rfl) ?_
  refine lv_bipush (v := 24) hx hb dX12_init_73 (by decide) ?_
  obtain ⟨q75, e75, hf⟩ := ob hf
  refine ra_newa X (by first | exact Or.inl ⟨rfl, rfl⟩ | exact Or.inr ⟨rfl, rfl⟩) dX12_init_75 e75 hA (fun H hA => ?_)
  have hP := hA.1
  obtain ⟨S77, e77, hf⟩ := ob hf
  refine rw_putzR X hname rfl dX12_init_77 fz12_34 e77 rfl hP (fun H locs hP => ?_)
  have hA := hA.put hP
  refine rw_aload_n X dX12_init_80 rfl (hl.at 0 rfl) ?_
  refine lv_bipush (v := 24) hx hb dX12_init_81 (by decide) ?_
  obtain ⟨q83, e83, hf⟩ := ob hf
  refine ra_newa X (by first | exact Or.inl ⟨rfl, rfl⟩ | exact Or.inr ⟨rfl, rfl⟩) dX12_init_83 e83 hA (fun H hA => ?_)
  have hP := hA.1
  obtain ⟨S85, e85, hf⟩ := ob hf
  refine rw_putzR X hname rfl dX12_init_85 fz12_37 e85 rfl hP (fun H locs hP => ?_)
  have hA := hA.put hP
  refine rw_aload_n X dX12_init_88 rfl (hl.at 0 rfl) ?_
  refine lv_bipush (v := 24) hx hb dX12_init_89 (by decide) ?_
  obtain ⟨q91, e91, hf⟩ := ob hf
  refine ra_newa X (by first | exact Or.inl ⟨rfl, rfl⟩ | exact Or.inr ⟨rfl, rfl⟩) dX12_init_91 e91 hA (fun H hA => ?_)
  have hP := hA.1
  obtain ⟨S93, e93, hf⟩ := ob hf
  refine rw_putzR X hname rfl dX12_init_93 fz12_40 e93 rfl hP (fun H locs hP => ?_)
  have hA := hA.put hP
  refine rw_aload_n X dX12_init_96 rfl (hl.at 0 rfl) ?_
  refine lv_bipush (v := 24) hx hb dX12_init_97 (by decide) ?_
  obtain ⟨q99, e99, hf⟩ := ob hf
  refine ra_newa X (by first | exact Or.inl ⟨rfl, rfl⟩ | exact Or.inr ⟨rfl, rfl⟩) dX12_init_99 e99 hA (fun H hA => ?_)
  have hP := hA.1
  obtain ⟨S101, e101, hf⟩ := ob hf
  refine rw_putzR X hname rfl dX12_init_101 fz12_43 e101 rfl hP (fun H locs hP => ?_)
  have hA := hA.put hP
  refine rw_aload_n X dX12_init_104 rfl (hl.at 0 rfl) ?_
  refine lv_bipush (v := 24) hx hb dX12_init_105 (by decide) ?_
  obtain ⟨q107, e107, hf⟩ := ob hf
  refine ra_newa X (by first | exact Or.inl ⟨rfl, rfl⟩ | exact Or.inr ⟨rfl, rfl⟩) dX12_init_107 e107 hA (fun H hA => ?_)
  have hP := hA.1
  obtain ⟨S109, e109, hf⟩ := ob hf
  refine rw_putzR X hname rfl dX12_init_109 fz12_46 e109 rfl hP (fun H locs hP => ?_)
  have hA := hA.put hP
  refine rw_aload_n X dX12_init_112 rfl (hl.at 0 rfl) ?_
  refine lv_bipush (v := 24) hx hb dX12_init_113 (by decide) ?_
  obtain ⟨q115, e115, hf⟩ := ob hf
  refine ra_newa X (by first | exact Or.inl ⟨rfl, rfl⟩ | exact Or.inr ⟨rfl, rfl⟩) dX12_init_115 e115 hA (fun H hA => ?_)
  have hP := hA.1
  obtain ⟨S117, e117, hf⟩ := ob hf
  refine rw_putzR X hname rfl dX12_init_117 fz12_49 e117 rfl hP (fun H locs hP => ?_)
  have hA := hA.put hP
  refine rw_aload_n X dX12_init_120 rfl (hl.at 0 rfl) ?_
  refine lv_bipush (v := 24) hx hb dX12_init_121 (by decide) ?_
  obtain ⟨q123, e123, hf⟩ := ob hf
  refine ra_newa X (by first | exact Or.inl ⟨rfl, rfl⟩ | exact Or.inr ⟨rfl, rfl⟩) dX12_init_123 e123 hA (fun H hA => ?_)
  have hP := hA.1
  obtain ⟨S125, e125, hf⟩ := ob hf
  refine rw_putzR X hname rfl dX12_init_125 fz12_52 e125 rfl hP (fun H locs hP => ?_)
  have hA := hA.put hP
  refine rw_aload_n X dX12_init_128 rfl (hl.at 0 rfl) ?_
  refine lv_bipush (v := 24) hx hb dX12_init_129 (by decide) ?_
  obtain ⟨q131, e131, hf⟩ := ob hf
  refine ra_newa X (by first | exact Or.inl ⟨rfl, rfl⟩ | exact Or.inr ⟨rfl, rfl⟩) dX12_init_131 e131 hA (fun H hA => ?_)
  have hP := hA.1
  obtain ⟨S133, e133, hf⟩ := ob hf
  refine rw_putzR X hname rfl dX12_init_133 fz12_55 e133 rfl hP (fun H locs hP => ?_)
  have hA := hA.put hP
  refine rw_aload_n X dX12_init_136 rfl (hl.at 0 rfl) ?_
  refine lv_bipush (v := 24) hx hb dX12_init_137 (by decide) ?_
  obtain ⟨q139, e139, hf⟩ := ob hf
  refine ra_newa X (by first | exact Or.inl ⟨rfl, rfl⟩ | exact Or.inr ⟨rfl, rfl⟩) dX12_init_139 e139 hA (fun H hA => ?_)
  have hP := hA.1
  obtain ⟨S141, e141, hf⟩ := ob hf
  refine rw_putzR X hname rfl dX12_init_141 fz12_58 e141 rfl hP (fun H locs hP => ?_)
  have hA := hA.put hP
  refine rw_aload_n X dX12_init_144 rfl (hl.at 0 rfl) ?_
  refine lv_bipush (v := 24) hx hb dX12_init_145 (by decide) ?_
  obtain ⟨q147, e147, hf⟩ := ob hf
  refine ra_newa X (by first | exact Or.inl ⟨rfl, rfl⟩ | exact Or.inr ⟨rfl, rfl⟩) dX12_init_147 e147 hA (fun H hA => ?_)
  have hP := hA.1
  obtain ⟨S149, e149, hf⟩ := ob hf
  refine rw_putzR X hname rfl dX12_init_149 fz12_61 e149 rfl hP (fun H locs hP => ?_)
  have hA := hA.put hP
  refine rw_aload_n X dX12_init_152 rfl (hl.at 0 rfl) ?_
  refine lv_bipush (v := 24) hx hb dX12_init_153 (by decide) ?_
  obtain ⟨q155, e155, hf⟩ := ob hf
  refine ra_newa X (by first | exact Or.inl ⟨rfl, rfl⟩ | exact Or.inr ⟨rfl, rfl⟩) dX12_init_155 e155 hA (fun H hA => ?_)
  have hP := hA.1
  obtain ⟨S157, e157, hf⟩ := ob hf
  refine rw_putzR X hname rfl dX12_init_157 fz12_64 e157 rfl hP (fun H locs hP => ?_)
  have hA := hA.put hP
  refine rw_aload_n X dX12_init_160 rfl (hl.at 0 rfl) ?_
  refine lv_bipush (v := 24) hx hb dX12_init_161 (by decide) ?_
  obtain ⟨q163, e163, hf⟩ := ob hf
  refine ra_newa X (by first | exact Or.inl ⟨rfl, rfl⟩ | exact Or.inr ⟨rfl, rfl⟩) dX12_init_163 e163 hA (fun H hA => ?_)
  have hP := hA.1
  obtain ⟨S165, e165, hf⟩ := ob hf
  refine rw_putzR X hname rfl dX12_init_165 fz12_67 e165 rfl hP (fun H locs hP => ?_)
  have hA := hA.put hP
  refine rw_aload_n X dX12_init_168 rfl (hl.at 0 rfl) ?_
  refine lv_bipush (v := 24) hx hb dX12_init_169 (by decide) ?_
  obtain ⟨q171, e171, hf⟩ := ob hf
  refine ra_newa X (by first | exact Or.inl ⟨rfl, rfl⟩ | exact Or.inr ⟨rfl, rfl⟩) dX12_init_171 e171 hA (fun H hA => ?_)
  have hP := hA.1
  obtain ⟨S173, e173, hf⟩ := ob hf
  refine rw_putzR X hname rfl dX12_init_173 fz12_70 e173 rfl hP (fun H locs hP => ?_)
  have hA := hA.put hP
  refine rw_aload_n X dX12_init_176 rfl (hl.at 0 rfl) ?_
  refine lv_bipush (v := 24) hx hb dX12_init_177 (by decide) ?_
  obtain ⟨q179, e179, hf⟩ := ob hf
  refine ra_newa X (by first | exact Or.inl ⟨rfl, rfl⟩ | exact Or.inr ⟨rfl, rfl⟩) dX12_init_179 e179 hA (fun H hA => ?_)
  have hP := hA.1
  obtain ⟨S181, e181, hf⟩ := ob hf
  refine rw_putzR X hname rfl dX12_init_181 fz12_73 e181 rfl hP (fun H locs hP => ?_)
  have hA := hA.put hP
  refine rw_aload_n X dX12_init_184 rfl (hl.at 0 rfl) ?_
  refine lv_bipush (v := 24) hx hb dX12_init_185 (by decide) ?_
  obtain ⟨q187, e187, hf⟩ := ob hf
  refine ra_newa X (by first | exact Or.inl ⟨rfl, rfl⟩ | exact Or.inr ⟨rfl, rfl⟩) dX12_init_187 e187 hA (fun H hA => ?_)
  have hP := hA.1
  obtain ⟨S189, e189, hf⟩ := ob hf
  refine rw_putzR X hname rfl dX12_init_189 fz12_76 e189 rfl hP (fun H locs hP => ?_)
  have hA := hA.put hP
  refine rw_aload_n X dX12_init_192 rfl (hl.at 0 rfl) ?_
  refine lv_bipush (v := 24) hx hb dX12_init_193 (by decide) ?_
  obtain ⟨q195, e195, hf⟩ := ob hf
  refine ra_newa X (by first | exact Or.inl ⟨rfl, rfl⟩ | exact Or.inr ⟨rfl, rfl⟩) dX12_init_195 e195 hA (fun H hA => ?_)
  have hP := hA.1
  obtain ⟨S197, e197, hf⟩ := ob hf
  refine rw_putzR X hname rfl dX12_init_197 fz12_79 e197 rfl hP (fun H locs hP => ?_)
  have hA := hA.put hP
  refine rw_aload_n X dX12_init_200 rfl (hl.at 0 rfl) ?_
  refine lv_bipush (v := 24) hx hb dX12_init_201 (by decide) ?_
  obtain ⟨q203, e203, hf⟩ := ob hf
  refine ra_newa X (by first | exact Or.inl ⟨rfl, rfl⟩ | exact Or.inr ⟨rfl, rfl⟩) dX12_init_203 e203 hA (fun H hA => ?_)
  have hP := hA.1
  obtain ⟨S205, e205, hf⟩ := ob hf
  refine rw_putzR X hname rfl dX12_init_205 fz12_82 e205 rfl hP (fun H locs hP => ?_)
  have hA := hA.put hP
  refine rw_aload_n X dX12_init_208 rfl (hl.at 0 rfl) ?_
  refine lv_bipush (v := 24) hx hb dX12_init_209 (by decide) ?_
  obtain ⟨q211, e211, hf⟩ := ob hf
  refine ra_newa X (by first | exact Or.inl ⟨rfl, rfl⟩ | exact Or.inr ⟨rfl, rfl⟩) dX12_init_211 e211 hA (fun H hA => ?_)
  have hP := hA.1
  obtain ⟨S213, e213, hf⟩ := ob hf
  refine rw_putzR X hname rfl dX12_init_213 fz12_85 e213 rfl hP (fun H locs hP => ?_)
  have hA := hA.put hP
  refine rw_aload_n X dX12_init_216 rfl (hl.at 0 rfl) ?_
  refine lv_bipush (v := 24) hx hb dX12_init_217 (by decide) ?_
  obtain ⟨q219, e219, hf⟩ := ob hf
  refine ra_newa X (by first | exact Or.inl ⟨rfl, rfl⟩ | exact Or.inr ⟨rfl, rfl⟩) dX12_init_219 e219 hA (fun H hA => ?_)
  have hP := hA.1
  obtain ⟨S221, e221, hf⟩ := ob hf
  refine rw_putzR X hname rfl dX12_init_221 fz12_88 e221 rfl hP (fun H locs hP => ?_)
  have hA := hA.put hP
  refine rw_aload_n X dX12_init_224 rfl (hl.at 0 rfl) ?_
  refine lv_bipush (v := 11) hx hb dX12_init_225 (by decide) ?_
  obtain ⟨q227, e227, hf⟩ := ob hf
  refine ra_newa X (by first | exact Or.inl ⟨rfl, rfl⟩ | exact Or.inr ⟨rfl, rfl⟩) dX12_init_227 e227 hA (fun H hA => ?_)
  have hP := hA.1
  obtain ⟨S229, e229, hf⟩ := ob hf
  refine rw_putzR X hname rfl dX12_init_229 fz12_91 e229 rfl hP (fun H locs hP => ?_)
  have hA := hA.put hP
  refine rw_aload_n X dX12_init_232 rfl (hl.at 0 rfl) ?_
  obtain ⟨v233, e233, hf⟩ := ob hf
  refine rw_getR X dX12_init_233 fl12_9 e233 rfl hP ?_
  refine lv_sipush (v := 284) hx hb dX12_init_236 (by decide) ?_
  refine lv_iconst (v := (-1)) hx hb dX12_init_239 (by decide) ?_
  obtain ⟨S240, e240, hf⟩ := ob hf
  refine rw_iast X dX12_init_240 e240 hP (fun H locs hP => ?_)
  have hA := hA.put hP
  cases hf
  exact ra_vret X dX12_init_241 hA hcp
theorem dX11_readTree_0 : decode cX11_readTree 0 = .ok (.new 68, 3) := by decide +kernel
theorem dX11_readTree_3 : decode cX11_readTree 3 = .ok (.dup, 1) := by decide +kernel
theorem dX11_readTree_4 : decode cX11_readTree 4 = .ok (.aload_n 0, 1) := by decide +kernel
theorem dX11_readTree_5 : decode cX11_readTree 5 = .ok (.getfield 10, 3) := by decide +kernel
theorem dX11_readTree_8 : decode cX11_readTree 8 = .ok (.aload_n 0, 1) := by decide +kernel
theorem dX11_readTree_9 : decode cX11_readTree 9 = .ok (.getfield 53, 3) := by decide +kernel
theorem dX11_readTree_12 : decode cX11_readTree 12 = .ok (.invokespecial 70, 3) := by decide +kernel
theorem dX11_readTree_15 : decode cX11_readTree 15 = .ok (.invokevirtual 73, 3) := by decide +kernel
theorem dX11_readTree_18 : decode cX11_readTree 18 = .ok (.istore_n 1, 1) := by decide +kernel
theorem dX11_readTree_19 : decode cX11_readTree 19 = .ok (.aload_n 0, 1) := by decide +kernel
theorem dX11_readTree_20 : decode cX11_readTree 20 = .ok (.getfield 10, 3) := by decide +kernel
theorem dX11_readTree_23 : decode cX11_readTree 23 = .ok (.invokevirtual 77, 3) := by decide +kernel
theorem dX11_readTree_26 : decode cX11_readTree 26 = .ok (.iload_n 1, 1) := by decide +kernel
theorem dX11_readTree_27 : decode cX11_readTree 27 = .ok (.ifCond .ge 5, 3) := by decide +kernel
theorem dX11_readTree_30 : decode cX11_readTree 30 = .ok (.iload_n 1, 1) := by decide +kernel
theorem dX11_readTree_31 : decode cX11_readTree 31 = .ok (.ireturn, 1) := by decide +kernel
theorem dX11_readTree_32 : decode cX11_readTree 32 = .ok (.aload_n 0, 1) := by decide +kernel
theorem dX11_readTree_33 : decode cX11_readTree 33 = .ok (.getfield 49, 3) := by decide +kernel
theorem dX11_readTree_36 : decode cX11_readTree 36 = .ok (.astore_n 2, 1) := by decide +kernel
theorem dX11_readTree_37 : decode cX11_readTree 37 = .ok (.aload_n 0, 1) := by decide +kernel
theorem dX11_readTree_38 : decode cX11_readTree 38 = .ok (.aload_n 0, 1) := by decide +kernel
theorem dX11_readTree_39 : decode cX11_readTree 39 = .ok (.getfield 53, 3) := by decide +kernel
theorem dX11_readTree_42 : decode cX11_readTree 42 = .ok (.putfield 49, 3) := by decide +kernel
theorem dX11_readTree_45 : decode cX11_readTree 45 = .ok (.aload_n 0, 1) := by decide +kernel
theorem dX11_readTree_46 : decode cX11_readTree 46 = .ok (.aload_n 2, 1) := by decide +kernel
theorem dX11_readTree_47 : decode cX11_readTree 47 = .ok (.putfield 53, 3) := by decide +kernel
theorem dX11_readTree_50 : decode cX11_readTree 50 = .ok (.aload_n 0, 1) := by decide +kernel
theorem dX11_readTree_51 : decode cX11_readTree 51 = .ok (.getfield 35, 3) := by decide +kernel
theorem dX11_readTree_54 : decode cX11_readTree 54 = .ok (.invokevirtual 80, 3) := by decide +kernel
theorem dX11_readTree_57 : decode cX11_readTree 57 = .ok (.aload_n 0, 1) := by decide +kernel
theorem dX11_readTree_58 : decode cX11_readTree 58 = .ok (.iconst 0, 1) := by decide +kernel
theorem dX11_readTree_59 : decode cX11_readTree 59 = .ok (.putfield 56, 3) := by decide +kernel
theorem dX11_readTree_62 : decode cX11_readTree 62 = .ok (.iload_n 1, 1) := by decide +kernel
theorem dX11_readTree_63 : decode cX11_readTree 63 = .ok (.ireturn, 1) := by decide +kernel
theorem pyX11_readTree : PY yX11_readTree 0 := ⟨by decide +kernel, by decide +kernel, by decide +kernel⟩
def fX11_readTree (Y : LY) (S : HS) (N : Nat × Nat) (l0 : Option Nat) : Option ((LY × HS × (Nat × Nat)) × Int32) :=
  (newO (N.1 + 1, N.2 + 3) 5 Y S N).bind fun q0 =>
  (gR q0.2.1 11 1100 l0 q0.2.2.1).bind fun v5 =>
  (gR q0.2.1 11 1108 l0 q0.2.2.1).bind fun v9 =>
  (fX5_init q0.2.1 q0.2.2.1 (some q0.1) v5 v9).bind fun S12 =>
  (rcv q0.2.1 5 (some q0.1)).bind fun _ =>
  (fX5_parse q0.2.1 S12 (some q0.1) ).bind fun q15 =>
  (gR q0.2.1 11 1100 l0 q15.1).bind fun v20 =>
  (rcv q0.2.1 7 v20).bind fun _ =>
  (fX7_clear q0.2.1 q15.1 v20 ).bind fun S23 =>
  if 0 ≤ q15.2 then
    (gR q0.2.1 11 1107 l0 S23).bind fun v33 =>
    (gR q0.2.1 11 1108 l0 S23).bind fun v39 =>
    (pR q0.2.1 11 1107 l0 v39 S23).bind fun S42 =>
    (pR q0.2.1 11 1108 l0 v33 S42).bind fun S47 =>
    (gR q0.2.1 11 1104 l0 S47).bind fun v51 =>
    (rcv q0.2.1 2 v51).bind fun _ =>
    (fX2_clear q0.2.1 S47 v51 ).bind fun S54 =>
    (pZ q0.2.1 11 1109 l0 0 S54).bind fun S59 =>
    some ((q0.2.1, S59, q0.2.2.2), q15.2)
  else
    some ((q0.2.1, S23, q0.2.2.2), q15.2)
set_option maxRecDepth 100000 in
set_option maxHeartbeats 4000000 in
theorem mX11_readTree (l : Launch) {G : GG} {Y : LY} {S : HS} {N : Nat × Nat} {l0 : Option Nat} {res : (LY × HS × (Nat × Nat)) × Int32} (hf : fX11_readTree Y S N l0 = some res) : MA l yX11_readTree cX11_readTree 3 (some .int) 434 24045 1 3 G Y S N [va_rf l0] res.1.1 res.1.2.1 res.1.2.2 (some (.int res.2)) := by
  refine ma_of (plainFor_of_name (by decide +kernel)) (Nat.le_of_ble_eq_true rfl) (c1c (cr _) c1n) ?_
  intro p e R s m args below meth c X hname H locs ls hA hl
  have X : Cx p R s m args meth c RX11 cX11_readTree 3 434 24045 (AA Y N) G (some .int) := X
  have hx := X.1.1
  have hb := X.1.2.1
  have hP := hA.1
  have hcp : (N.1 + 1, N.2 + 3).1 = N.1 + 1 ∧ (N.1 + 1, N.2 + 3).2 = N.2 + 3 := ⟨rfl, rfl⟩
  have hl : LV ls 3 [(0, va_rf l0)] := hl
  unfold fX11_readTree at hf
  obtain ⟨q0, e0, hf⟩ := ob hf
  refine ra_new X dX11_readTree_0 nkX11_68 e0 hA (fun H hA => ?_)
  have hP := hA.1
  refine lv_dup hx hb dX11_readTree_3 (cr _) ?_
  refine rw_aload_n X dX11_readTree_4 rfl (hl.at 0 rfl) ?_
  obtain ⟨v5, e5, hf⟩ := ob hf
  refine rw_getR X dX11_readTree_5 fl11_10 e5 rfl hP ?_
  refine rw_aload_n X dX11_readTree_8 rfl (hl.at 0 rfl) ?_
  obtain ⟨v9, e9, hf⟩ := ob hf
  refine rw_getR X dX11_readTree_9 fl11_53 e9 rfl hP ?_
  obtain ⟨S12, e12, hf⟩ := ob hf
  refine ra_callI0 (As := [va_rf v5, va_rf v9]) X dX11_readTree_12 ciX11_70 pyX5_init (mX5_init l e12) (by decide) (by intro h; cases h) hA rfl (catL (c1c (cr _) c1n) (Nat.le_of_ble_eq_true rfl)) hl.1.1 (fun H locs hP => ?_)
  have hA := hA.put hP
  obtain ⟨u15, r15, hf⟩ := ob hf
  obtain ⟨q15, e15, hf⟩ := ob hf
  refine ra_callV (As := []) X dX11_readTree_15 clX11_73 pyX5_parse (mX5_parse l e15) (by decide) r15 rfl hA rfl (catL c1n (Nat.le_of_ble_eq_true rfl)) hl.1.1 (fun H locs hP => ?_)
  have hA := hA.put hP
  refine W.eq (g2 := F0 m 18 ls (.int q15.2 :: [])) rfl ?_
  refine rv_istore_n X dX11_readTree_18 rfl hl (by decide) rfl (fun ls hl => ?_)
  have hl : LV ls 3 [(1, .int q15.2), (0, va_rf l0)] := hl
  refine rw_aload_n X dX11_readTree_19 rfl (hl.at 1 rfl) ?_
  obtain ⟨v20, e20, hf⟩ := ob hf
  refine rw_getR X dX11_readTree_20 fl11_10 e20 rfl hP ?_
  obtain ⟨u23, r23, hf⟩ := ob hf
  obtain ⟨S23, e23, hf⟩ := ob hf
  refine ra_callV (As := []) X dX11_readTree_23 clX11_77 pyX7_clear (mX7_clear l e23) (by decide) r23 rfl hA rfl (catL c1n (Nat.le_of_ble_eq_true rfl)) hl.1.1 (fun H locs hP => ?_)
  have hA := hA.put hP
  refine W.eq (g2 := F0 m 26 ls []) rfl ?_
  refine lv_iload_n hx hb dX11_readTree_26 rfl (hl.at 0 rfl) ?_
  refine lv_if_ge hx hb (tgt := 32) dX11_readTree_27 (by decide) (fun c27 => ?_) (fun c27 => ?_)
  · have hf := ifp hf c27
    refine rw_aload_n X dX11_readTree_32 rfl (hl.at 1 rfl) ?_
    obtain ⟨v33, e33, hf⟩ := ob hf
    refine rw_getR X dX11_readTree_33 fl11_49 e33 rfl hP ?_
    refine rv_astore_n X dX11_readTree_36 rfl hl (by decide) rfl (fun ls hl => ?_)
    have hl : LV ls 3 [(2, va_rf v33), (1, .int q15.2), (0, va_rf l0)] := hl
    refine rw_aload_n X dX11_readTree_37 rfl (hl.at 2 rfl) ?_
    refine rw_aload_n X dX11_readTree_38 rfl (hl.at 2 rfl) ?_
    obtain ⟨v39, e39, hf⟩ := ob hf
    refine rw_getR X dX11_readTree_39 fl11_53 e39 rfl hP ?_
    obtain ⟨S42, e42, hf⟩ := ob hf
    refine rw_putR X dX11_readTree_42 fl11_49 fw11_7 e42 rfl hP (fun H locs hP => ?_)
    have hA := hA.put hP
    refine rw_aload_n X dX11_readTree_45 rfl (hl.at 2 rfl) ?_
    refine rw_aload_n X dX11_readTree_46 rfl (hl.at 0 rfl) ?_
    obtain ⟨S47, e47, hf⟩ := ob hf
    refine rw_putR X dX11_readTree_47 fl11_53 fw11_8 e47 rfl hP (fun H locs hP => ?_)
    have hA := hA.put hP
    refine rw_aload_n X dX11_readTree_50 rfl (hl.at 2 rfl) ?_
    obtain ⟨v51, e51, hf⟩ := ob hf
    refine rw_getR X dX11_readTree_51 fl11_35 e51 rfl hP ?_
    obtain ⟨u54, r54, hf⟩ := ob hf
    obtain ⟨S54, e54, hf⟩ := ob hf
    refine ra_callV (As := []) X dX11_readTree_54 clX11_80 pyX2_clear (mX2_clear l e54) (by decide) r54 rfl hA rfl (catL c1n (Nat.le_of_ble_eq_true rfl)) hl.1.1 (fun H locs hP => ?_)
    have hA := hA.put hP
    refine W.eq (g2 := F0 m 57 ls []) rfl ?_
    refine rw_aload_n X dX11_readTree_57 rfl (hl.at 2 rfl) ?_
    refine lv_iconst (v := 0) hx hb dX11_readTree_58 (by decide) ?_
    obtain ⟨S59, e59, hf⟩ := ob hf
    refine rw_putZ X dX11_readTree_59 fl11_56 fw11_9 e59 rfl hP (fun H locs hP => ?_)
    have hA := hA.put hP
    refine lv_iload_n hx hb dX11_readTree_62 rfl (hl.at 1 rfl) ?_
    cases hf
    exact ra_iret X dX11_readTree_63 hA hcp
  · have hf := ifn hf c27
    refine lv_iload_n hx hb dX11_readTree_30 rfl (hl.at 0 rfl) ?_
    cases hf
    exact ra_iret X dX11_readTree_31 hA hcp
theorem dX11_write_0 : decode cX11_write 0 = .ok (.aload_n 0, 1) := by decide +kernel
theorem dX11_write_1 : decode cX11_write 1 = .ok (.getfield 49, 3) := by decide +kernel
theorem dX11_write_4 : decode cX11_write 4 = .ok (.getfield 183, 3) := by decide +kernel
theorem dX11_write_7 : decode cX11_write 7 = .ok (.ifCond .ne 7, 3) := by decide +kernel
theorem dX11_write_10 : decode cX11_write 10 = .ok (.sipush (-1004), 3) := by decide +kernel
theorem dX11_write_13 : decode cX11_write 13 = .ok (.ireturn, 1) := by decide +kernel
theorem dX11_write_14 : decode cX11_write 14 = .ok (.new 201, 3) := by decide +kernel
theorem dX11_write_17 : decode cX11_write 17 = .ok (.dup, 1) := by decide +kernel
theorem dX11_write_18 : decode cX11_write 18 = .ok (.aload_n 0, 1) := by decide +kernel
theorem dX11_write_19 : decode cX11_write 19 = .ok (.getfield 49, 3) := by decide +kernel
theorem dX11_write_22 : decode cX11_write 22 = .ok (.aload_n 0, 1) := by decide +kernel
theorem dX11_write_23 : decode cX11_write 23 = .ok (.getfield 16, 3) := by decide +kernel
theorem dX11_write_26 : decode cX11_write 26 = .ok (.invokespecial 203, 3) := by decide +kernel
theorem dX11_write_29 : decode cX11_write 29 = .ok (.invokevirtual 206, 3) := by decide +kernel
theorem dX11_write_32 : decode cX11_write 32 = .ok (.aload_n 0, 1) := by decide +kernel
theorem dX11_write_33 : decode cX11_write 33 = .ok (.getfield 16, 3) := by decide +kernel
theorem dX11_write_36 : decode cX11_write 36 = .ok (.getfield 60, 3) := by decide +kernel
theorem dX11_write_39 : decode cX11_write 39 = .ok (.ireturn, 1) := by decide +kernel
theorem pyX11_write : PY yX11_write 0 := ⟨by decide +kernel, by decide +kernel, by decide +kernel⟩
def fX11_write (Y : LY) (S : HS) (N : Nat × Nat) (l0 : Option Nat) : Option ((LY × HS × (Nat × Nat)) × Int32) :=
  (gR Y 11 1107 l0 S).bind fun v1 =>
  (gI Y 8 801 v1 S).bind fun v4 =>
  if v4 = 0 then
    some ((Y, S, N), (-1004))
  else
    (newO (N.1 + 1, N.2 + 2) 10 Y S N).bind fun q14 =>
    (gR q14.2.1 11 1107 l0 q14.2.2.1).bind fun v19 =>
    (gR q14.2.1 11 1101 l0 q14.2.2.1).bind fun v23 =>
    (fX10_init q14.2.1 q14.2.2.1 (some q14.1) v19 v23).bind fun S26 =>
    (rcv q14.2.1 10 (some q14.1)).bind fun _ =>
    (fX10_writeTree q14.2.1 S26 (some q14.1) ).bind fun S29 =>
    (gR q14.2.1 11 1101 l0 S29).bind fun v33 =>
    (gI q14.2.1 7 701 v33 S29).bind fun v36 =>
    some ((q14.2.1, S29, q14.2.2.2), v36)
set_option maxRecDepth 100000 in
set_option maxHeartbeats 4000000 in
theorem mX11_write (l : Launch) {G : GG} {Y : LY} {S : HS} {N : Nat × Nat} {l0 : Option Nat} {res : (LY × HS × (Nat × Nat)) × Int32} (hf : fX11_write Y S N l0 = some res) : MA l yX11_write cX11_write 1 (some .int) 10 443 1 2 G Y S N [va_rf l0] res.1.1 res.1.2.1 res.1.2.2 (some (.int res.2)) := by
  refine ma_of (plainFor_of_name (by decide +kernel)) (Nat.le_of_ble_eq_true rfl) (c1c (cr _) c1n) ?_
  intro p e R s m args below meth c X hname H locs ls hA hl
  have X : Cx p R s m args meth c RX11 cX11_write 1 10 443 (AA Y N) G (some .int) := X
  have hx := X.1.1
  have hb := X.1.2.1
  have hP := hA.1
  have hcp : (N.1 + 1, N.2 + 2).1 = N.1 + 1 ∧ (N.1 + 1, N.2 + 2).2 = N.2 + 2 := ⟨rfl, rfl⟩
  have hl : LV ls 1 [(0, va_rf l0)] := hl
  unfold fX11_write at hf
  refine rw_aload_n X dX11_write_0 rfl (hl.at 0 rfl) ?_
  obtain ⟨v1, e1, hf⟩ := ob hf
  refine rw_getR X dX11_write_1 fl11_49 e1 rfl hP ?_
  obtain ⟨v4, e4, hf⟩ := ob hf
  refine rw_getI X dX11_write_4 fl11_183 e4 rfl hP ?_
  refine lv_if_ne hx hb (tgt := 14) dX11_write_7 (by decide) (fun c7 => ?_) (fun c7 => ?_)
  · have hf := ifn hf c7
    obtain ⟨q14, e14, hf⟩ := ob hf
    refine ra_new X dX11_write_14 nkX11_201 e14 hA (fun H hA => ?_)
    have hP := hA.1
    refine lv_dup hx hb dX11_write_17 (cr _) ?_
    refine rw_aload_n X dX11_write_18 rfl (hl.at 0 rfl) ?_
    obtain ⟨v19, e19, hf⟩ := ob hf
    refine rw_getR X dX11_write_19 fl11_49 e19 rfl hP ?_
    refine rw_aload_n X dX11_write_22 rfl (hl.at 0 rfl) ?_
    obtain ⟨v23, e23, hf⟩ := ob hf
    refine rw_getR X dX11_write_23 fl11_16 e23 rfl hP ?_
    obtain ⟨S26, e26, hf⟩ := ob hf
    refine ra_callI0 (As := [va_rf v19, va_rf v23]) X dX11_write_26 ciX11_203 pyX10_init (mX10_init l e26) (by decide) (by intro h; cases h) hA rfl (catL (c1c (cr _) c1n) (Nat.le_of_ble_eq_true rfl)) hl.1.1 (fun H locs hP => ?_)
    have hA := hA.put hP
    obtain ⟨u29, r29, hf⟩ := ob hf
    obtain ⟨S29, e29, hf⟩ := ob hf
    refine ra_callV (As := []) X dX11_write_29 clX11_206 pyX10_writeTree (mX10_writeTree l e29) (by decide) r29 rfl hA rfl (catL c1n (Nat.le_of_ble_eq_true rfl)) hl.1.1 (fun H locs hP => ?_)
    have hA := hA.put hP
    refine W.eq (g2 := F0 m 32 ls []) rfl ?_
    refine rw_aload_n X dX11_write_32 rfl (hl.at 0 rfl) ?_
    obtain ⟨v33, e33, hf⟩ := ob hf
    refine rw_getR X dX11_write_33 fl11_16 e33 rfl hP ?_
    obtain ⟨v36, e36, hf⟩ := ob hf
    refine rw_getI X dX11_write_36 fl11_60 e36 rfl hP ?_
    cases hf
    exact ra_iret X dX11_write_39 hA hcp
  · have hf := ifp hf c7
    refine lv_sipush (v := (-1004)) hx hb dX11_write_10 (by decide) ?_
    cases hf
    exact ra_iret X dX11_write_13 hA hcp
