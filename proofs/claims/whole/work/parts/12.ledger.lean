/-! printed by wip/whole/gen/gen_parts.py: 12.ledger -/
theorem dX2_clear_0 : decode cX2_clear 0 = .ok (.aload_n 0, 1) := by decide +kernel
theorem dX2_clear_1 : decode cX2_clear 1 = .ok (.aconst_null, 1) := by decide +kernel
theorem dX2_clear_2 : decode cX2_clear 2 = .ok (.putfield 9, 3) := by decide +kernel
theorem dX2_clear_5 : decode cX2_clear 5 = .ok (.aload_n 0, 1) := by decide +kernel
theorem dX2_clear_6 : decode cX2_clear 6 = .ok (.iconst 0, 1) := by decide +kernel
theorem dX2_clear_7 : decode cX2_clear 7 = .ok (.putfield 15, 3) := by decide +kernel
theorem dX2_clear_10 : decode cX2_clear 10 = .ok (.aload_n 0, 1) := by decide +kernel
theorem dX2_clear_11 : decode cX2_clear 11 = .ok (.iconst 0, 1) := by decide +kernel
theorem dX2_clear_12 : decode cX2_clear 12 = .ok (.putfield 19, 3) := by decide +kernel
theorem dX2_clear_15 : decode cX2_clear 15 = .ok (.aload_n 0, 1) := by decide +kernel
theorem dX2_clear_16 : decode cX2_clear 16 = .ok (.iconst 0, 1) := by decide +kernel
theorem dX2_clear_17 : decode cX2_clear 17 = .ok (.putfield 22, 3) := by decide +kernel
theorem dX2_clear_20 : decode cX2_clear 20 = .ok (.aload_n 0, 1) := by decide +kernel
theorem dX2_clear_21 : decode cX2_clear 21 = .ok (.iconst 0, 1) := by decide +kernel
theorem dX2_clear_22 : decode cX2_clear 22 = .ok (.putfield 25, 3) := by decide +kernel
theorem dX2_clear_25 : decode cX2_clear 25 = .ok (.aload_n 0, 1) := by decide +kernel
theorem dX2_clear_26 : decode cX2_clear 26 = .ok (.iconst 0, 1) := by decide +kernel
theorem dX2_clear_27 : decode cX2_clear 27 = .ok (.putfield 28, 3) := by decide +kernel
theorem dX2_clear_30 : decode cX2_clear 30 = .ok (.aload_n 0, 1) := by decide +kernel
theorem dX2_clear_31 : decode cX2_clear 31 = .ok (.iconst 0, 1) := by decide +kernel
theorem dX2_clear_32 : decode cX2_clear 32 = .ok (.putfield 31, 3) := by decide +kernel
theorem dX2_clear_35 : decode cX2_clear 35 = .ok (.aload_n 0, 1) := by decide +kernel
theorem dX2_clear_36 : decode cX2_clear 36 = .ok (.iconst 0, 1) := by decide +kernel
theorem dX2_clear_37 : decode cX2_clear 37 = .ok (.putfield 34, 3) := by decide +kernel
theorem dX2_clear_40 : decode cX2_clear 40 = .ok (.aload_n 0, 1) := by decide +kernel
theorem dX2_clear_41 : decode cX2_clear 41 = .ok (.iconst 0, 1) := by decide +kernel
theorem dX2_clear_42 : decode cX2_clear 42 = .ok (.putfield 37, 3) := by decide +kernel
theorem dX2_clear_45 : decode cX2_clear 45 = .ok (.return_, 1) := by decide +kernel
theorem pyX2_clear : PY yX2_clear 0 := ⟨by decide +kernel, by decide +kernel, by decide +kernel⟩
def fX2_clear (Y : LY) (S : HS) (l0 : Option Nat) : Option (HS) :=
  (pR Y 2 200 l0 none S).bind fun S2 =>
  (pI Y 2 201 l0 0 S2).bind fun S7 =>
  (pI Y 2 202 l0 0 S7).bind fun S12 =>
  (pI Y 2 203 l0 0 S12).bind fun S17 =>
  (pI Y 2 204 l0 0 S17).bind fun S22 =>
  (pI Y 2 205 l0 0 S22).bind fun S27 =>
  (pI Y 2 206 l0 0 S27).bind fun S32 =>
  (pI Y 2 207 l0 0 S32).bind fun S37 =>
  (pI Y 2 208 l0 0 S37).bind fun S42 =>
  some S42
set_option maxRecDepth 100000 in
set_option maxHeartbeats 4000000 in
theorem mX2_clear (l : Launch) {G : GG} {Y : LY} {S : HS} {l0 : Option Nat} {res : HS} (hf : fX2_clear Y S l0 = some res) : MM l yX2_clear cX2_clear 1 none 0 0 G Y S [va_rf l0] res none := by
  refine mm_of2 (plainFor_of_name (by decide +kernel)) (Nat.le_of_ble_eq_true rfl) (c1c (cr _) c1n) ?_
  intro p e R s m args below meth c X H locs ls hP hl
  have X : Cx p R s m args meth c RX2 cX2_clear 1 0 0 (fun q => q ∈ Y.1) G none := X
  have hx := X.1.1
  have hb := X.1.2.1
  have hl : LV ls 1 [(0, va_rf l0)] := hl
  unfold fX2_clear at hf
  refine rw_aload_n X dX2_clear_0 rfl (hl.at 0 rfl) ?_
  refine lv_null hx hb dX2_clear_1 ?_
  refine W.eq (g2 := F0 m 2 ls (va_rf none :: (va_rf l0 :: []))) rfl ?_
  obtain ⟨S2, e2, hf⟩ := ob hf
  refine rw_putR X dX2_clear_2 fl2_9 fw2_0 e2 rfl hP (fun H locs hP => ?_)
  refine rw_aload_n X dX2_clear_5 rfl (hl.at 0 rfl) ?_
  refine lv_iconst (v := 0) hx hb dX2_clear_6 (by decide) ?_
  obtain ⟨S7, e7, hf⟩ := ob hf
  refine rw_putI X dX2_clear_7 fl2_15 fw2_1 e7 rfl hP (fun H locs hP => ?_)
  refine rw_aload_n X dX2_clear_10 rfl (hl.at 0 rfl) ?_
  refine lv_iconst (v := 0) hx hb dX2_clear_11 (by decide) ?_
  obtain ⟨S12, e12, hf⟩ := ob hf
  refine rw_putI X dX2_clear_12 fl2_19 fw2_2 e12 rfl hP (fun H locs hP => ?_)
  refine rw_aload_n X dX2_clear_15 rfl (hl.at 0 rfl) ?_
  refine lv_iconst (v := 0) hx hb dX2_clear_16 (by decide) ?_
  obtain ⟨S17, e17, hf⟩ := ob hf
  refine rw_putI X dX2_clear_17 fl2_22 fw2_3 e17 rfl hP (fun H locs hP => ?_)
  refine rw_aload_n X dX2_clear_20 rfl (hl.at 0 rfl) ?_
  refine lv_iconst (v := 0) hx hb dX2_clear_21 (by decide) ?_
  obtain ⟨S22, e22, hf⟩ := ob hf
  refine rw_putI X dX2_clear_22 fl2_25 fw2_4 e22 rfl hP (fun H locs hP => ?_)
  refine rw_aload_n X dX2_clear_25 rfl (hl.at 0 rfl) ?_
  refine lv_iconst (v := 0) hx hb dX2_clear_26 (by decide) ?_
  obtain ⟨S27, e27, hf⟩ := ob hf
  refine rw_putI X dX2_clear_27 fl2_28 fw2_5 e27 rfl hP (fun H locs hP => ?_)
  refine rw_aload_n X dX2_clear_30 rfl (hl.at 0 rfl) ?_
  refine lv_iconst (v := 0) hx hb dX2_clear_31 (by decide) ?_
  obtain ⟨S32, e32, hf⟩ := ob hf
  refine rw_putI X dX2_clear_32 fl2_31 fw2_6 e32 rfl hP (fun H locs hP => ?_)
  refine rw_aload_n X dX2_clear_35 rfl (hl.at 0 rfl) ?_
  refine lv_iconst (v := 0) hx hb dX2_clear_36 (by decide) ?_
  obtain ⟨S37, e37, hf⟩ := ob hf
  refine rw_putI X dX2_clear_37 fl2_34 fw2_7 e37 rfl hP (fun H locs hP => ?_)
  refine rw_aload_n X dX2_clear_40 rfl (hl.at 0 rfl) ?_
  refine lv_iconst (v := 0) hx hb dX2_clear_41 (by decide) ?_
  obtain ⟨S42, e42, hf⟩ := ob hf
  refine rw_putI X dX2_clear_42 fl2_37 fw2_8 e42 rfl hP (fun H locs hP => ?_)
  cases hf
  exact rw_vret X dX2_clear_45 hP
theorem dX2_copyFrom_0 : decode cX2_copyFrom 0 = .ok (.aload_n 0, 1) := by decide +kernel
theorem dX2_copyFrom_1 : decode cX2_copyFrom 1 = .ok (.aload_n 1, 1) := by decide +kernel
theorem dX2_copyFrom_2 : decode cX2_copyFrom 2 = .ok (.getfield 9, 3) := by decide +kernel
theorem dX2_copyFrom_5 : decode cX2_copyFrom 5 = .ok (.putfield 9, 3) := by decide +kernel
theorem dX2_copyFrom_8 : decode cX2_copyFrom 8 = .ok (.aload_n 0, 1) := by decide +kernel
theorem dX2_copyFrom_9 : decode cX2_copyFrom 9 = .ok (.aload_n 1, 1) := by decide +kernel
theorem dX2_copyFrom_10 : decode cX2_copyFrom 10 = .ok (.getfield 15, 3) := by decide +kernel
theorem dX2_copyFrom_13 : decode cX2_copyFrom 13 = .ok (.putfield 15, 3) := by decide +kernel
theorem dX2_copyFrom_16 : decode cX2_copyFrom 16 = .ok (.aload_n 0, 1) := by decide +kernel
theorem dX2_copyFrom_17 : decode cX2_copyFrom 17 = .ok (.aload_n 1, 1) := by decide +kernel
theorem dX2_copyFrom_18 : decode cX2_copyFrom 18 = .ok (.getfield 19, 3) := by decide +kernel
theorem dX2_copyFrom_21 : decode cX2_copyFrom 21 = .ok (.putfield 19, 3) := by decide +kernel
theorem dX2_copyFrom_24 : decode cX2_copyFrom 24 = .ok (.aload_n 0, 1) := by decide +kernel
theorem dX2_copyFrom_25 : decode cX2_copyFrom 25 = .ok (.aload_n 1, 1) := by decide +kernel
theorem dX2_copyFrom_26 : decode cX2_copyFrom 26 = .ok (.getfield 22, 3) := by decide +kernel
theorem dX2_copyFrom_29 : decode cX2_copyFrom 29 = .ok (.putfield 22, 3) := by decide +kernel
theorem dX2_copyFrom_32 : decode cX2_copyFrom 32 = .ok (.aload_n 0, 1) := by decide +kernel
theorem dX2_copyFrom_33 : decode cX2_copyFrom 33 = .ok (.aload_n 1, 1) := by decide +kernel
theorem dX2_copyFrom_34 : decode cX2_copyFrom 34 = .ok (.getfield 25, 3) := by decide +kernel
theorem dX2_copyFrom_37 : decode cX2_copyFrom 37 = .ok (.putfield 25, 3) := by decide +kernel
theorem dX2_copyFrom_40 : decode cX2_copyFrom 40 = .ok (.aload_n 0, 1) := by decide +kernel
theorem dX2_copyFrom_41 : decode cX2_copyFrom 41 = .ok (.aload_n 1, 1) := by decide +kernel
theorem dX2_copyFrom_42 : decode cX2_copyFrom 42 = .ok (.getfield 28, 3) := by decide +kernel
theorem dX2_copyFrom_45 : decode cX2_copyFrom 45 = .ok (.putfield 28, 3) := by decide +kernel
theorem dX2_copyFrom_48 : decode cX2_copyFrom 48 = .ok (.aload_n 0, 1) := by decide +kernel
theorem dX2_copyFrom_49 : decode cX2_copyFrom 49 = .ok (.aload_n 1, 1) := by decide +kernel
theorem dX2_copyFrom_50 : decode cX2_copyFrom 50 = .ok (.getfield 31, 3) := by decide +kernel
theorem dX2_copyFrom_53 : decode cX2_copyFrom 53 = .ok (.putfield 31, 3) := by decide +kernel
theorem dX2_copyFrom_56 : decode cX2_copyFrom 56 = .ok (.aload_n 0, 1) := by decide +kernel
theorem dX2_copyFrom_57 : decode cX2_copyFrom 57 = .ok (.aload_n 1, 1) := by decide +kernel
theorem dX2_copyFrom_58 : decode cX2_copyFrom 58 = .ok (.getfield 34, 3) := by decide +kernel
theorem dX2_copyFrom_61 : decode cX2_copyFrom 61 = .ok (.putfield 34, 3) := by decide +kernel
theorem dX2_copyFrom_64 : decode cX2_copyFrom 64 = .ok (.aload_n 0, 1) := by decide +kernel
theorem dX2_copyFrom_65 : decode cX2_copyFrom 65 = .ok (.aload_n 1, 1) := by decide +kernel
theorem dX2_copyFrom_66 : decode cX2_copyFrom 66 = .ok (.getfield 37, 3) := by decide +kernel
theorem dX2_copyFrom_69 : decode cX2_copyFrom 69 = .ok (.putfield 37, 3) := by decide +kernel
theorem dX2_copyFrom_72 : decode cX2_copyFrom 72 = .ok (.aload_n 1, 1) := by decide +kernel
theorem dX2_copyFrom_73 : decode cX2_copyFrom 73 = .ok (.getfield 40, 3) := by decide +kernel
theorem dX2_copyFrom_76 : decode cX2_copyFrom 76 = .ok (.iconst 0, 1) := by decide +kernel
theorem dX2_copyFrom_77 : decode cX2_copyFrom 77 = .ok (.aload_n 0, 1) := by decide +kernel
theorem dX2_copyFrom_78 : decode cX2_copyFrom 78 = .ok (.getfield 40, 3) := by decide +kernel
theorem dX2_copyFrom_81 : decode cX2_copyFrom 81 = .ok (.iconst 0, 1) := by decide +kernel
theorem dX2_copyFrom_82 : decode cX2_copyFrom 82 = .ok (.bipush 30, 2) := by decide +kernel
theorem dX2_copyFrom_84 : decode cX2_copyFrom 84 = .ok (.invokestatic 47, 3) := by decide +kernel
theorem dX2_copyFrom_87 : decode cX2_copyFrom 87 = .ok (.aload_n 1, 1) := by decide +kernel
theorem dX2_copyFrom_88 : decode cX2_copyFrom 88 = .ok (.getfield 44, 3) := by decide +kernel
theorem dX2_copyFrom_91 : decode cX2_copyFrom 91 = .ok (.iconst 0, 1) := by decide +kernel
theorem dX2_copyFrom_92 : decode cX2_copyFrom 92 = .ok (.aload_n 0, 1) := by decide +kernel
theorem dX2_copyFrom_93 : decode cX2_copyFrom 93 = .ok (.getfield 44, 3) := by decide +kernel
theorem dX2_copyFrom_96 : decode cX2_copyFrom 96 = .ok (.iconst 0, 1) := by decide +kernel
theorem dX2_copyFrom_97 : decode cX2_copyFrom 97 = .ok (.bipush 30, 2) := by decide +kernel
theorem dX2_copyFrom_99 : decode cX2_copyFrom 99 = .ok (.invokestatic 47, 3) := by decide +kernel
theorem dX2_copyFrom_102 : decode cX2_copyFrom 102 = .ok (.return_, 1) := by decide +kernel
theorem pyX2_copyFrom : PY yX2_copyFrom 1 := ⟨by decide +kernel, by decide +kernel, by decide +kernel⟩
def fX2_copyFrom (Y : LY) (S : HS) (l0 : Option Nat) (l1 : Option Nat) : Option (HS) :=
  (gR Y 2 200 l1 S).bind fun v2 =>
  (pR Y 2 200 l0 v2 S).bind fun S5 =>
  (gI Y 2 201 l1 S5).bind fun v10 =>
  (pI Y 2 201 l0 v10 S5).bind fun S13 =>
  (gI Y 2 202 l1 S13).bind fun v18 =>
  (pI Y 2 202 l0 v18 S13).bind fun S21 =>
  (gI Y 2 203 l1 S21).bind fun v26 =>
  (pI Y 2 203 l0 v26 S21).bind fun S29 =>
  (gI Y 2 204 l1 S29).bind fun v34 =>
  (pI Y 2 204 l0 v34 S29).bind fun S37 =>
  (gI Y 2 205 l1 S37).bind fun v42 =>
  (pI Y 2 205 l0 v42 S37).bind fun S45 =>
  (gI Y 2 206 l1 S45).bind fun v50 =>
  (pI Y 2 206 l0 v50 S45).bind fun S53 =>
  (gI Y 2 207 l1 S53).bind fun v58 =>
  (pI Y 2 207 l0 v58 S53).bind fun S61 =>
  (gI Y 2 208 l1 S61).bind fun v66 =>
  (pI Y 2 208 l0 v66 S61).bind fun S69 =>
  (gR Y 2 209 l1 S69).bind fun v73 =>
  (gR Y 2 209 l0 S69).bind fun v78 =>
  (cpA Y v73 0 v78 0 30 S69).bind fun S84 =>
  (gR Y 2 210 l1 S84).bind fun v88 =>
  (gR Y 2 210 l0 S84).bind fun v93 =>
  (cpA Y v88 0 v93 0 30 S84).bind fun S99 =>
  some S99
set_option maxRecDepth 100000 in
set_option maxHeartbeats 4000000 in
theorem mX2_copyFrom (l : Launch) {G : GG} {Y : LY} {S : HS} {l0 : Option Nat} {l1 : Option Nat} {res : HS} (hf : fX2_copyFrom Y S l0 l1 = some res) : MM l yX2_copyFrom cX2_copyFrom 2 none 1 60 G Y S [va_rf l0, va_rf l1] res none := by
  refine mm_of2 (plainFor_of_name (by decide +kernel)) (Nat.le_of_ble_eq_true rfl) (c1c (cr _) (c1c (cr _) c1n)) ?_
  intro p e R s m args below meth c X H locs ls hP hl
  have X : Cx p R s m args meth c RX2 cX2_copyFrom 2 1 60 (fun q => q ∈ Y.1) G none := X
  have hx := X.1.1
  have hb := X.1.2.1
  have hl : LV ls 2 [(0, va_rf l0), (1, va_rf l1)] := hl
  unfold fX2_copyFrom at hf
  refine rw_aload_n X dX2_copyFrom_0 rfl (hl.at 0 rfl) ?_
  refine rw_aload_n X dX2_copyFrom_1 rfl (hl.at 1 rfl) ?_
  obtain ⟨v2, e2, hf⟩ := ob hf
  refine rw_getR X dX2_copyFrom_2 fl2_9 e2 rfl hP ?_
  obtain ⟨S5, e5, hf⟩ := ob hf
  refine rw_putR X dX2_copyFrom_5 fl2_9 fw2_0 e5 rfl hP (fun H locs hP => ?_)
  refine rw_aload_n X dX2_copyFrom_8 rfl (hl.at 0 rfl) ?_
  refine rw_aload_n X dX2_copyFrom_9 rfl (hl.at 1 rfl) ?_
  obtain ⟨v10, e10, hf⟩ := ob hf
  refine rw_getI X dX2_copyFrom_10 fl2_15 e10 rfl hP ?_
  obtain ⟨S13, e13, hf⟩ := ob hf
  refine rw_putI X dX2_copyFrom_13 fl2_15 fw2_1 e13 rfl hP (fun H locs hP => ?_)
  refine rw_aload_n X dX2_copyFrom_16 rfl (hl.at 0 rfl) ?_
  refine rw_aload_n X dX2_copyFrom_17 rfl (hl.at 1 rfl) ?_
  obtain ⟨v18, e18, hf⟩ := ob hf
  refine rw_getI X dX2_copyFrom_18 fl2_19 e18 rfl hP ?_
  obtain ⟨S21, e21, hf⟩ := ob hf
  refine rw_putI X dX2_copyFrom_21 fl2_19 fw2_2 e21 rfl hP (fun H locs hP => ?_)
  refine rw_aload_n X dX2_copyFrom_24 rfl (hl.at 0 rfl) ?_
  refine rw_aload_n X dX2_copyFrom_25 rfl (hl.at 1 rfl) ?_
  obtain ⟨v26, e26, hf⟩ := ob hf
  refine rw_getI X dX2_copyFrom_26 fl2_22 e26 rfl hP ?_
  obtain ⟨S29, e29, hf⟩ := ob hf
  refine rw_putI X dX2_copyFrom_29 fl2_22 fw2_3 e29 rfl hP (fun H locs hP => ?_)
  refine rw_aload_n X dX2_copyFrom_32 rfl (hl.at 0 rfl) ?_
  refine rw_aload_n X dX2_copyFrom_33 rfl (hl.at 1 rfl) ?_
  obtain ⟨v34, e34, hf⟩ := ob hf
  refine rw_getI X dX2_copyFrom_34 fl2_25 e34 rfl hP ?_
  obtain ⟨S37, e37, hf⟩ := ob hf
  refine rw_putI X dX2_copyFrom_37 fl2_25 fw2_4 e37 rfl hP (fun H locs hP => ?_)
  refine rw_aload_n X dX2_copyFrom_40 rfl (hl.at 0 rfl) ?_
  refine rw_aload_n X dX2_copyFrom_41 rfl (hl.at 1 rfl) ?_
  obtain ⟨v42, e42, hf⟩ := ob hf
  refine rw_getI X dX2_copyFrom_42 fl2_28 e42 rfl hP ?_
  obtain ⟨S45, e45, hf⟩ := ob hf
  refine rw_putI X dX2_copyFrom_45 fl2_28 fw2_5 e45 rfl hP (fun H locs hP => ?_)
  refine rw_aload_n X dX2_copyFrom_48 rfl (hl.at 0 rfl) ?_
  refine rw_aload_n X dX2_copyFrom_49 rfl (hl.at 1 rfl) ?_
  obtain ⟨v50, e50, hf⟩ := ob hf
  refine rw_getI X dX2_copyFrom_50 fl2_31 e50 rfl hP ?_
  obtain ⟨S53, e53, hf⟩ := ob hf
  refine rw_putI X dX2_copyFrom_53 fl2_31 fw2_6 e53 rfl hP (fun H locs hP => ?_)
  refine rw_aload_n X dX2_copyFrom_56 rfl (hl.at 0 rfl) ?_
  refine rw_aload_n X dX2_copyFrom_57 rfl (hl.at 1 rfl) ?_
  obtain ⟨v58, e58, hf⟩ := ob hf
  refine rw_getI X dX2_copyFrom_58 fl2_34 e58 rfl hP ?_
  obtain ⟨S61, e61, hf⟩ := ob hf
  refine rw_putI X dX2_copyFrom_61 fl2_34 fw2_7 e61 rfl hP (fun H locs hP => ?_)
  refine rw_aload_n X dX2_copyFrom_64 rfl (hl.at 0 rfl) ?_
  refine rw_aload_n X dX2_copyFrom_65 rfl (hl.at 1 rfl) ?_
  obtain ⟨v66, e66, hf⟩ := ob hf
  refine rw_getI X dX2_copyFrom_66 fl2_37 e66 rfl hP ?_
  obtain ⟨S69, e69, hf⟩ := ob hf
  refine rw_putI X dX2_copyFrom_69 fl2_37 fw2_8 e69 rfl hP (fun H locs hP => ?_)
  refine rw_aload_n X dX2_copyFrom_72 rfl (hl.at 1 rfl) ?_
  obtain ⟨v73, e73, hf⟩ := ob hf
  refine rw_getR X dX2_copyFrom_73 fl2_40 e73 rfl hP ?_
  refine lv_iconst (v := 0) hx hb dX2_copyFrom_76 (by decide) ?_
  refine rw_aload_n X dX2_copyFrom_77 rfl (hl.at 0 rfl) ?_
  obtain ⟨v78, e78, hf⟩ := ob hf
  refine rw_getR X dX2_copyFrom_78 fl2_40 e78 rfl hP ?_
  refine lv_iconst (v := 0) hx hb dX2_copyFrom_81 (by decide) ?_
  refine lv_bipush (v := 30) hx hb dX2_copyFrom_82 (by decide) ?_
  obtain ⟨S84, e84, hf⟩ := ob hf
  refine rv_copy X mlX2_47 e84 (by decide +kernel) hl.1.1 dX2_copyFrom_84 hP (fun H locs hP => ?_)
  refine rw_aload_n X dX2_copyFrom_87 rfl (hl.at 1 rfl) ?_
  obtain ⟨v88, e88, hf⟩ := ob hf
  refine rw_getR X dX2_copyFrom_88 fl2_44 e88 rfl hP ?_
  refine lv_iconst (v := 0) hx hb dX2_copyFrom_91 (by decide) ?_
  refine rw_aload_n X dX2_copyFrom_92 rfl (hl.at 0 rfl) ?_
  obtain ⟨v93, e93, hf⟩ := ob hf
  refine rw_getR X dX2_copyFrom_93 fl2_44 e93 rfl hP ?_
  refine lv_iconst (v := 0) hx hb dX2_copyFrom_96 (by decide) ?_
  refine lv_bipush (v := 30) hx hb dX2_copyFrom_97 (by decide) ?_
  obtain ⟨S99, e99, hf⟩ := ob hf
  refine rv_copy X mlX2_47 e99 (by decide +kernel) hl.1.1 dX2_copyFrom_99 hP (fun H locs hP => ?_)
  cases hf
  exact rw_vret X dX2_copyFrom_102 hP
theorem dX2_endTick_0 : decode cX2_endTick 0 = .ok (.aload_n 0, 1) := by decide +kernel
theorem dX2_endTick_1 : decode cX2_endTick 1 = .ok (.dup, 1) := by decide +kernel
theorem dX2_endTick_2 : decode cX2_endTick 2 = .ok (.getfield 15, 3) := by decide +kernel
theorem dX2_endTick_5 : decode cX2_endTick 5 = .ok (.iconst 1, 1) := by decide +kernel
theorem dX2_endTick_6 : decode cX2_endTick 6 = .ok (.iadd, 1) := by decide +kernel
theorem dX2_endTick_7 : decode cX2_endTick 7 = .ok (.putfield 15, 3) := by decide +kernel
theorem dX2_endTick_10 : decode cX2_endTick 10 = .ok (.aload_n 0, 1) := by decide +kernel
theorem dX2_endTick_11 : decode cX2_endTick 11 = .ok (.dup, 1) := by decide +kernel
theorem dX2_endTick_12 : decode cX2_endTick 12 = .ok (.getfield 19, 3) := by decide +kernel
theorem dX2_endTick_15 : decode cX2_endTick 15 = .ok (.iload_n 1, 1) := by decide +kernel
theorem dX2_endTick_16 : decode cX2_endTick 16 = .ok (.iconst 2, 1) := by decide +kernel
theorem dX2_endTick_17 : decode cX2_endTick 17 = .ok (.if_icmp .ne 7, 3) := by decide +kernel
theorem dX2_endTick_20 : decode cX2_endTick 20 = .ok (.iconst 1, 1) := by decide +kernel
theorem dX2_endTick_21 : decode cX2_endTick 21 = .ok (.goto 4, 3) := by decide +kernel
theorem dX2_endTick_24 : decode cX2_endTick 24 = .ok (.iconst 0, 1) := by decide +kernel
theorem dX2_endTick_25 : decode cX2_endTick 25 = .ok (.iadd, 1) := by decide +kernel
theorem dX2_endTick_26 : decode cX2_endTick 26 = .ok (.putfield 19, 3) := by decide +kernel
theorem dX2_endTick_29 : decode cX2_endTick 29 = .ok (.aload_n 0, 1) := by decide +kernel
theorem dX2_endTick_30 : decode cX2_endTick 30 = .ok (.dup, 1) := by decide +kernel
theorem dX2_endTick_31 : decode cX2_endTick 31 = .ok (.getfield 22, 3) := by decide +kernel
theorem dX2_endTick_34 : decode cX2_endTick 34 = .ok (.iload_n 1, 1) := by decide +kernel
theorem dX2_endTick_35 : decode cX2_endTick 35 = .ok (.iconst 3, 1) := by decide +kernel
theorem dX2_endTick_36 : decode cX2_endTick 36 = .ok (.if_icmp .ne 7, 3) := by decide +kernel
theorem dX2_endTick_39 : decode cX2_endTick 39 = .ok (.iconst 1, 1) := by decide +kernel
theorem dX2_endTick_40 : decode cX2_endTick 40 = .ok (.goto 4, 3) := by decide +kernel
theorem dX2_endTick_43 : decode cX2_endTick 43 = .ok (.iconst 0, 1) := by decide +kernel
theorem dX2_endTick_44 : decode cX2_endTick 44 = .ok (.iadd, 1) := by decide +kernel
theorem dX2_endTick_45 : decode cX2_endTick 45 = .ok (.putfield 22, 3) := by decide +kernel
theorem dX2_endTick_48 : decode cX2_endTick 48 = .ok (.return_, 1) := by decide +kernel
theorem pyX2_endTick : PY yX2_endTick 1 := ⟨by decide +kernel, by decide +kernel, by decide +kernel⟩
def fX2_endTick_25 (Y : LY) (S : HS) (l0 : Option Nat) (l1 : Int32) (s0 : Option Nat) (s1 : Int32) (s2 : Int32) : Option (HS) :=
  (pI Y 2 202 s0 (s1 + s2) S).bind fun S26 =>
  (gI Y 2 203 l0 S26).bind fun v31 =>
  if l1 = 3 then
    (pI Y 2 203 l0 (v31 + 1) S26).bind fun S45 =>
    some S45
  else
    (pI Y 2 203 l0 (v31 + 0) S26).bind fun S45 =>
    some S45
set_option maxRecDepth 100000 in
set_option maxHeartbeats 4000000 in
theorem wX2_endTick_25 {p : Program} {l : Launch} {e : Env} {R : Room} {s : State} {m : MethodId} {args : Array Value} {below : List Frame} {meth : Method} {c : Code} {G : GG} {Y : LY} {res : HS} (X : Cx p R s m args meth c RX2 cX2_endTick 2 0 0 (fun q => q ∈ Y.1) G none) : ∀ (S : HS) (l0 : Option Nat) (l1 : Int32) (s0 : Option Nat) (s1 : Int32) (s2 : Int32), fX2_endTick_25 Y S l0 l1 s0 s1 s2 = some res → ∀ (H : Heap) (locs : List Loc) (ls : Array Slot), HP (fun q => q ∈ Y.1) G Y s S H locs → LV ls 2 [(0, va_rf l0), (1, .int l1)] → W p l e R s m args below meth c H locs 0 0 (MQ below (QI G Y res none) args s 0 0 (fun q => q ∈ Y.1)) (F0 m 25 ls (.int s2 :: (.int s1 :: (va_rf s0 :: [])))) := by
  have hx := X.1.1
  have hb := X.1.2.1
  intro S l0 l1 s0 s1 s2 hf H locs ls hP hl
  unfold fX2_endTick_25 at hf
  refine lv_iadd hx hb dX2_endTick_25 ?_
  obtain ⟨S26, e26, hf⟩ := ob hf
  refine rw_putI X dX2_endTick_26 fl2_19 fw2_2 e26 rfl hP (fun H locs hP => ?_)
  refine rw_aload_n X dX2_endTick_29 rfl (hl.at 0 rfl) ?_
  refine lv_dup hx hb dX2_endTick_30 (cr _) ?_
  obtain ⟨v31, e31, hf⟩ := ob hf
  refine rw_getI X dX2_endTick_31 fl2_22 e31 rfl hP ?_
  refine lv_iload_n hx hb dX2_endTick_34 rfl (hl.at 1 rfl) ?_
  refine lv_iconst (v := 3) hx hb dX2_endTick_35 (by decide) ?_
  refine lv_icmp_ne hx hb (tgt := 43) dX2_endTick_36 (by decide) (fun c36 => ?_) (fun c36 => ?_)
  · have hf := ifn hf c36
    refine lv_iconst (v := 0) hx hb dX2_endTick_43 (by decide) ?_
    refine lv_iadd hx hb dX2_endTick_44 ?_
    obtain ⟨S45, e45, hf⟩ := ob hf
    refine rw_putI X dX2_endTick_45 fl2_22 fw2_3 e45 rfl hP (fun H locs hP => ?_)
    cases hf
    exact rw_vret X dX2_endTick_48 hP
  · have hf := ifp hf c36
    refine lv_iconst (v := 1) hx hb dX2_endTick_39 (by decide) ?_
    refine lv_goto (tgt := 44) hx hb dX2_endTick_40 (by decide) ?_
    refine lv_iadd hx hb dX2_endTick_44 ?_
    obtain ⟨S45, e45, hf⟩ := ob hf
    refine rw_putI X dX2_endTick_45 fl2_22 fw2_3 e45 rfl hP (fun H locs hP => ?_)
    cases hf
    exact rw_vret X dX2_endTick_48 hP
def fX2_endTick (Y : LY) (S : HS) (l0 : Option Nat) (l1 : Int32) : Option (HS) :=
  (gI Y 2 201 l0 S).bind fun v2 =>
  (pI Y 2 201 l0 (v2 + 1) S).bind fun S7 =>
  (gI Y 2 202 l0 S7).bind fun v12 =>
  if l1 = 2 then
    fX2_endTick_25 Y S7 l0 l1 l0 v12 1
  else
    fX2_endTick_25 Y S7 l0 l1 l0 v12 0
set_option maxRecDepth 100000 in
set_option maxHeartbeats 4000000 in
theorem mX2_endTick (l : Launch) {G : GG} {Y : LY} {S : HS} {l0 : Option Nat} {l1 : Int32} {res : HS} (hf : fX2_endTick Y S l0 l1 = some res) : MM l yX2_endTick cX2_endTick 2 none 0 0 G Y S [va_rf l0, .int l1] res none := by
  refine mm_of2 (plainFor_of_name (by decide +kernel)) (Nat.le_of_ble_eq_true rfl) (c1c (cr _) (c1c (ci _) c1n)) ?_
  intro p e R s m args below meth c X H locs ls hP hl
  have X : Cx p R s m args meth c RX2 cX2_endTick 2 0 0 (fun q => q ∈ Y.1) G none := X
  have hx := X.1.1
  have hb := X.1.2.1
  have hl : LV ls 2 [(0, va_rf l0), (1, .int l1)] := hl
  unfold fX2_endTick at hf
  refine rw_aload_n X dX2_endTick_0 rfl (hl.at 0 rfl) ?_
  refine lv_dup hx hb dX2_endTick_1 (cr _) ?_
  obtain ⟨v2, e2, hf⟩ := ob hf
  refine rw_getI X dX2_endTick_2 fl2_15 e2 rfl hP ?_
  refine lv_iconst (v := 1) hx hb dX2_endTick_5 (by decide) ?_
  refine lv_iadd hx hb dX2_endTick_6 ?_
  obtain ⟨S7, e7, hf⟩ := ob hf
  refine rw_putI X dX2_endTick_7 fl2_15 fw2_1 e7 rfl hP (fun H locs hP => ?_)
  refine rw_aload_n X dX2_endTick_10 rfl (hl.at 0 rfl) ?_
  refine lv_dup hx hb dX2_endTick_11 (cr _) ?_
  obtain ⟨v12, e12, hf⟩ := ob hf
  refine rw_getI X dX2_endTick_12 fl2_19 e12 rfl hP ?_
  refine lv_iload_n hx hb dX2_endTick_15 rfl (hl.at 1 rfl) ?_
  refine lv_iconst (v := 2) hx hb dX2_endTick_16 (by decide) ?_
  refine lv_icmp_ne hx hb (tgt := 24) dX2_endTick_17 (by decide) (fun c17 => ?_) (fun c17 => ?_)
  · have hf := ifn hf c17
    refine lv_iconst (v := 0) hx hb dX2_endTick_24 (by decide) ?_
    exact wX2_endTick_25 X S7 l0 l1 l0 v12 0 hf _ _ _ hP (hl.sub [0, 1] rfl)
  · have hf := ifp hf c17
    refine lv_iconst (v := 1) hx hb dX2_endTick_20 (by decide) ?_
    refine lv_goto (tgt := 25) hx hb dX2_endTick_21 (by decide) ?_
    exact wX2_endTick_25 X S7 l0 l1 l0 v12 1 hf _ _ _ hP (hl.sub [0, 1] rfl)
theorem dX2_enter_0 : decode cX2_enter 0 = .ok (.aload_n 0, 1) := by decide +kernel
theorem dX2_enter_1 : decode cX2_enter 1 = .ok (.getfield 37, 3) := by decide +kernel
theorem dX2_enter_4 : decode cX2_enter 4 = .ok (.bipush 30, 2) := by decide +kernel
theorem dX2_enter_6 : decode cX2_enter 6 = .ok (.invokestatic 53, 3) := by decide +kernel
theorem dX2_enter_9 : decode cX2_enter 9 = .ok (.istore_n 3, 1) := by decide +kernel
theorem dX2_enter_10 : decode cX2_enter 10 = .ok (.aload_n 0, 1) := by decide +kernel
theorem dX2_enter_11 : decode cX2_enter 11 = .ok (.getfield 40, 3) := by decide +kernel
theorem dX2_enter_14 : decode cX2_enter 14 = .ok (.iload_n 3, 1) := by decide +kernel
theorem dX2_enter_15 : decode cX2_enter 15 = .ok (.aload_n 1, 1) := by decide +kernel
theorem dX2_enter_16 : decode cX2_enter 16 = .ok (.getfield 59, 3) := by decide +kernel
theorem dX2_enter_19 : decode cX2_enter 19 = .ok (.iastore, 1) := by decide +kernel
theorem dX2_enter_20 : decode cX2_enter 20 = .ok (.aload_n 0, 1) := by decide +kernel
theorem dX2_enter_21 : decode cX2_enter 21 = .ok (.getfield 44, 3) := by decide +kernel
theorem dX2_enter_24 : decode cX2_enter 24 = .ok (.iload_n 3, 1) := by decide +kernel
theorem dX2_enter_25 : decode cX2_enter 25 = .ok (.iload_n 2, 1) := by decide +kernel
theorem dX2_enter_26 : decode cX2_enter 26 = .ok (.iastore, 1) := by decide +kernel
theorem dX2_enter_27 : decode cX2_enter 27 = .ok (.aload_n 0, 1) := by decide +kernel
theorem dX2_enter_28 : decode cX2_enter 28 = .ok (.dup, 1) := by decide +kernel
theorem dX2_enter_29 : decode cX2_enter 29 = .ok (.getfield 37, 3) := by decide +kernel
theorem dX2_enter_32 : decode cX2_enter 32 = .ok (.iconst 1, 1) := by decide +kernel
theorem dX2_enter_33 : decode cX2_enter 33 = .ok (.iadd, 1) := by decide +kernel
theorem dX2_enter_34 : decode cX2_enter 34 = .ok (.putfield 37, 3) := by decide +kernel
theorem dX2_enter_37 : decode cX2_enter 37 = .ok (.return_, 1) := by decide +kernel
theorem pyX2_enter : PY yX2_enter 2 := ⟨by decide +kernel, by decide +kernel, by decide +kernel⟩
def fX2_enter (Y : LY) (S : HS) (l0 : Option Nat) (l1 : Option Nat) (l2 : Int32) : Option (HS) :=
  (gI Y 2 208 l0 S).bind fun v1 =>
  (fJ9_floorMod_7cf53 Y S v1 30).bind fun v6 =>
  (gR Y 2 209 l0 S).bind fun v11 =>
  (gI Y 4 400 l1 S).bind fun v16 =>
  (pA Y 14 v11 v6 v16 S).bind fun S19 =>
  (gR Y 2 210 l0 S19).bind fun v21 =>
  (pA Y 14 v21 v6 l2 S19).bind fun S26 =>
  (gI Y 2 208 l0 S26).bind fun v29 =>
  (pI Y 2 208 l0 (v29 + 1) S26).bind fun S34 =>
  some S34
set_option maxRecDepth 100000 in
set_option maxHeartbeats 4000000 in
theorem mX2_enter (l : Launch) {G : GG} {Y : LY} {S : HS} {l0 : Option Nat} {l1 : Option Nat} {l2 : Int32} {res : HS} (hf : fX2_enter Y S l0 l1 l2 = some res) : MM l yX2_enter cX2_enter 4 none 1 22 G Y S [va_rf l0, va_rf l1, .int l2] res none := by
  refine mm_of2 (plainFor_of_name (by decide +kernel)) (Nat.le_of_ble_eq_true rfl) (c1c (cr _) (c1c (cr _) (c1c (ci _) c1n))) ?_
  intro p e R s m args below meth c X H locs ls hP hl
  have X : Cx p R s m args meth c RX2 cX2_enter 4 1 22 (fun q => q ∈ Y.1) G none := X
  have hx := X.1.1
  have hb := X.1.2.1
  have hl : LV ls 4 [(0, va_rf l0), (1, va_rf l1), (2, .int l2)] := hl
  unfold fX2_enter at hf
  refine rw_aload_n X dX2_enter_0 rfl (hl.at 0 rfl) ?_
  obtain ⟨v1, e1, hf⟩ := ob hf
  refine rw_getI X dX2_enter_1 fl2_37 e1 rfl hP ?_
  refine lv_bipush (v := 30) hx hb dX2_enter_4 (by decide) ?_
  obtain ⟨v6, e6, hf⟩ := ob hf
  refine rw_callSi (As := [.int v1, .int 30]) X dX2_enter_6 clX2_53 pyJ9_floorMod_7cf53 (mJ9_floorMod_7cf53 l e6) (by decide) hP rfl (catL c1n (Nat.le_of_ble_eq_true rfl)) hl.1.1 (fun H locs hP => ?_)
  refine rv_istore_n X dX2_enter_9 rfl hl (by decide) rfl (fun ls hl => ?_)
  have hl : LV ls 4 [(3, .int v6), (0, va_rf l0), (1, va_rf l1), (2, .int l2)] := hl
  refine rw_aload_n X dX2_enter_10 rfl (hl.at 1 rfl) ?_
  obtain ⟨v11, e11, hf⟩ := ob hf
  refine rw_getR X dX2_enter_11 fl2_40 e11 rfl hP ?_
  refine lv_iload_n hx hb dX2_enter_14 rfl (hl.at 0 rfl) ?_
  refine rw_aload_n X dX2_enter_15 rfl (hl.at 2 rfl) ?_
  obtain ⟨v16, e16, hf⟩ := ob hf
  refine rw_getI X dX2_enter_16 fl2_59 e16 rfl hP ?_
  obtain ⟨S19, e19, hf⟩ := ob hf
  refine rw_iast X dX2_enter_19 e19 hP (fun H locs hP => ?_)
  refine rw_aload_n X dX2_enter_20 rfl (hl.at 1 rfl) ?_
  obtain ⟨v21, e21, hf⟩ := ob hf
  refine rw_getR X dX2_enter_21 fl2_44 e21 rfl hP ?_
  refine lv_iload_n hx hb dX2_enter_24 rfl (hl.at 0 rfl) ?_
  refine lv_iload_n hx hb dX2_enter_25 rfl (hl.at 3 rfl) ?_
  obtain ⟨S26, e26, hf⟩ := ob hf
  refine rw_iast X dX2_enter_26 e26 hP (fun H locs hP => ?_)
  refine rw_aload_n X dX2_enter_27 rfl (hl.at 1 rfl) ?_
  refine lv_dup hx hb dX2_enter_28 (cr _) ?_
  obtain ⟨v29, e29, hf⟩ := ob hf
  refine rw_getI X dX2_enter_29 fl2_37 e29 rfl hP ?_
  refine lv_iconst (v := 1) hx hb dX2_enter_32 (by decide) ?_
  refine lv_iadd hx hb dX2_enter_33 ?_
  obtain ⟨S34, e34, hf⟩ := ob hf
  refine rw_putI X dX2_enter_34 fl2_37 fw2_8 e34 rfl hP (fun H locs hP => ?_)
  cases hf
  exact rw_vret X dX2_enter_37 hP
theorem dX2_entries_0 : decode cX2_entries 0 = .ok (.aload_n 0, 1) := by decide +kernel
theorem dX2_entries_1 : decode cX2_entries 1 = .ok (.getfield 37, 3) := by decide +kernel
theorem dX2_entries_4 : decode cX2_entries 4 = .ok (.bipush 30, 2) := by decide +kernel
theorem dX2_entries_6 : decode cX2_entries 6 = .ok (.invokestatic 64, 3) := by decide +kernel
theorem dX2_entries_9 : decode cX2_entries 9 = .ok (.ireturn, 1) := by decide +kernel
theorem pyX2_entries : PY yX2_entries 0 := ⟨by decide +kernel, by decide +kernel, by decide +kernel⟩
def fX2_entries (Y : LY) (S : HS) (l0 : Option Nat) : Option (Int32) :=
  (gI Y 2 208 l0 S).bind fun v1 =>
  some (jmin v1 30)
set_option maxRecDepth 100000 in
set_option maxHeartbeats 4000000 in
theorem mX2_entries (l : Launch) {G : GG} {Y : LY} {S : HS} {l0 : Option Nat} {res : Int32} (hf : fX2_entries Y S l0 = some res) : MM l yX2_entries cX2_entries 1 (some .int) 1 30 G Y S [va_rf l0] S (some (.int res)) := by
  refine mm_of2 (plainFor_of_name (by decide +kernel)) (Nat.le_of_ble_eq_true rfl) (c1c (cr _) c1n) ?_
  intro p e R s m args below meth c X H locs ls hP hl
  have X : Cx p R s m args meth c RX2 cX2_entries 1 1 30 (fun q => q ∈ Y.1) G (some .int) := X
  have hx := X.1.1
  have hb := X.1.2.1
  have hl : LV ls 1 [(0, va_rf l0)] := hl
  unfold fX2_entries at hf
  refine rw_aload_n X dX2_entries_0 rfl (hl.at 0 rfl) ?_
  obtain ⟨v1, e1, hf⟩ := ob hf
  refine rw_getI X dX2_entries_1 fl2_37 e1 rfl hP ?_
  refine lv_bipush (v := 30) hx hb dX2_entries_4 (by decide) ?_
  refine rv_min X mlX2_64 ⟨Nat.le_of_ble_eq_true rfl, Nat.le_of_ble_eq_true rfl⟩ c1n hl.1.1 dX2_entries_6 ?_
  cases hf
  exact rw_iret X dX2_entries_9 hP
theorem dX2_placeOf_0 : decode cX2_placeOf 0 = .ok (.aload_n 0, 1) := by decide +kernel
theorem dX2_placeOf_1 : decode cX2_placeOf 1 = .ok (.getfield 37, 3) := by decide +kernel
theorem dX2_placeOf_4 : decode cX2_placeOf 4 = .ok (.iconst 1, 1) := by decide +kernel
theorem dX2_placeOf_5 : decode cX2_placeOf 5 = .ok (.isub, 1) := by decide +kernel
theorem dX2_placeOf_6 : decode cX2_placeOf 6 = .ok (.iload_n 1, 1) := by decide +kernel
theorem dX2_placeOf_7 : decode cX2_placeOf 7 = .ok (.isub, 1) := by decide +kernel
theorem dX2_placeOf_8 : decode cX2_placeOf 8 = .ok (.bipush 30, 2) := by decide +kernel
theorem dX2_placeOf_10 : decode cX2_placeOf 10 = .ok (.invokestatic 53, 3) := by decide +kernel
theorem dX2_placeOf_13 : decode cX2_placeOf 13 = .ok (.ireturn, 1) := by decide +kernel
theorem pyX2_placeOf : PY yX2_placeOf 1 := ⟨by decide +kernel, by decide +kernel, by decide +kernel⟩
def fX2_placeOf (Y : LY) (S : HS) (l0 : Option Nat) (l1 : Int32) : Option (Int32) :=
  (gI Y 2 208 l0 S).bind fun v1 =>
  (fJ9_floorMod_7cf53 Y S ((v1 - 1) - l1) 30).bind fun v10 =>
  some v10
set_option maxRecDepth 100000 in
set_option maxHeartbeats 4000000 in
theorem mX2_placeOf (l : Launch) {G : GG} {Y : LY} {S : HS} {l0 : Option Nat} {l1 : Int32} {res : Int32} (hf : fX2_placeOf Y S l0 l1 = some res) : MM l yX2_placeOf cX2_placeOf 2 (some .int) 1 22 G Y S [va_rf l0, .int l1] S (some (.int res)) := by
  refine mm_of2 (plainFor_of_name (by decide +kernel)) (Nat.le_of_ble_eq_true rfl) (c1c (cr _) (c1c (ci _) c1n)) ?_
  intro p e R s m args below meth c X H locs ls hP hl
  have X : Cx p R s m args meth c RX2 cX2_placeOf 2 1 22 (fun q => q ∈ Y.1) G (some .int) := X
  have hx := X.1.1
  have hb := X.1.2.1
  have hl : LV ls 2 [(0, va_rf l0), (1, .int l1)] := hl
  unfold fX2_placeOf at hf
  refine rw_aload_n X dX2_placeOf_0 rfl (hl.at 0 rfl) ?_
  obtain ⟨v1, e1, hf⟩ := ob hf
  refine rw_getI X dX2_placeOf_1 fl2_37 e1 rfl hP ?_
  refine lv_iconst (v := 1) hx hb dX2_placeOf_4 (by decide) ?_
  refine lv_isub hx hb dX2_placeOf_5 ?_
  refine lv_iload_n hx hb dX2_placeOf_6 rfl (hl.at 1 rfl) ?_
  refine lv_isub hx hb dX2_placeOf_7 ?_
  refine lv_bipush (v := 30) hx hb dX2_placeOf_8 (by decide) ?_
  obtain ⟨v10, e10, hf⟩ := ob hf
  refine rw_callSi (As := [.int ((v1 - 1) - l1), .int 30]) X dX2_placeOf_10 clX2_53 pyJ9_floorMod_7cf53 (mJ9_floorMod_7cf53 l e10) (by decide) hP rfl (catL c1n (Nat.le_of_ble_eq_true rfl)) hl.1.1 (fun H locs hP => ?_)
  cases hf
  exact rw_iret X dX2_placeOf_13 hP
theorem dX2_tracedNode_0 : decode cX2_tracedNode 0 = .ok (.aload_n 0, 1) := by decide +kernel
theorem dX2_tracedNode_1 : decode cX2_tracedNode 1 = .ok (.getfield 40, 3) := by decide +kernel
theorem dX2_tracedNode_4 : decode cX2_tracedNode 4 = .ok (.aload_n 0, 1) := by decide +kernel
theorem dX2_tracedNode_5 : decode cX2_tracedNode 5 = .ok (.iload_n 1, 1) := by decide +kernel
theorem dX2_tracedNode_6 : decode cX2_tracedNode 6 = .ok (.invokevirtual 67, 3) := by decide +kernel
theorem dX2_tracedNode_9 : decode cX2_tracedNode 9 = .ok (.iaload, 1) := by decide +kernel
theorem dX2_tracedNode_10 : decode cX2_tracedNode 10 = .ok (.ireturn, 1) := by decide +kernel
theorem pyX2_tracedNode : PY yX2_tracedNode 1 := ⟨by decide +kernel, by decide +kernel, by decide +kernel⟩
def fX2_tracedNode (Y : LY) (S : HS) (l0 : Option Nat) (l1 : Int32) : Option (Int32) :=
  (gR Y 2 209 l0 S).bind fun v1 =>
  (rcv Y 2 l0).bind fun _ =>
  (fX2_placeOf Y S l0 l1).bind fun v6 =>
  (gA Y 14 v1 v6 S).bind fun v9 =>
  some v9
set_option maxRecDepth 100000 in
set_option maxHeartbeats 4000000 in
theorem mX2_tracedNode (l : Launch) {G : GG} {Y : LY} {S : HS} {l0 : Option Nat} {l1 : Int32} {res : Int32} (hf : fX2_tracedNode Y S l0 l1 = some res) : MM l yX2_tracedNode cX2_tracedNode 2 (some .int) 2 43 G Y S [va_rf l0, .int l1] S (some (.int res)) := by
  refine mm_of2 (plainFor_of_name (by decide +kernel)) (Nat.le_of_ble_eq_true rfl) (c1c (cr _) (c1c (ci _) c1n)) ?_
  intro p e R s m args below meth c X H locs ls hP hl
  have X : Cx p R s m args meth c RX2 cX2_tracedNode 2 2 43 (fun q => q ∈ Y.1) G (some .int) := X
  have hx := X.1.1
  have hb := X.1.2.1
  have hl : LV ls 2 [(0, va_rf l0), (1, .int l1)] := hl
  unfold fX2_tracedNode at hf
  refine rw_aload_n X dX2_tracedNode_0 rfl (hl.at 0 rfl) ?_
  obtain ⟨v1, e1, hf⟩ := ob hf
  refine rw_getR X dX2_tracedNode_1 fl2_40 e1 rfl hP ?_
  refine rw_aload_n X dX2_tracedNode_4 rfl (hl.at 0 rfl) ?_
  refine lv_iload_n hx hb dX2_tracedNode_5 rfl (hl.at 1 rfl) ?_
  obtain ⟨u6, r6, hf⟩ := ob hf
  obtain ⟨v6, e6, hf⟩ := ob hf
  refine rw_callVi (As := [.int l1]) X dX2_tracedNode_6 clX2_67 pyX2_placeOf (mX2_placeOf l e6) (by decide) r6 rfl hP rfl (catL (c1c (cr _) c1n) (Nat.le_of_ble_eq_true rfl)) hl.1.1 (fun H locs hP => ?_)
  obtain ⟨v9, e9, hf⟩ := ob hf
  refine rw_iald X dX2_tracedNode_9 e9 hP ?_
  cases hf
  exact rw_iret X dX2_tracedNode_10 hP
theorem dX2_tracedResult_0 : decode cX2_tracedResult 0 = .ok (.aload_n 0, 1) := by decide +kernel
theorem dX2_tracedResult_1 : decode cX2_tracedResult 1 = .ok (.getfield 44, 3) := by decide +kernel
theorem dX2_tracedResult_4 : decode cX2_tracedResult 4 = .ok (.aload_n 0, 1) := by decide +kernel
theorem dX2_tracedResult_5 : decode cX2_tracedResult 5 = .ok (.iload_n 1, 1) := by decide +kernel
theorem dX2_tracedResult_6 : decode cX2_tracedResult 6 = .ok (.invokevirtual 67, 3) := by decide +kernel
theorem dX2_tracedResult_9 : decode cX2_tracedResult 9 = .ok (.iaload, 1) := by decide +kernel
theorem dX2_tracedResult_10 : decode cX2_tracedResult 10 = .ok (.ireturn, 1) := by decide +kernel
theorem pyX2_tracedResult : PY yX2_tracedResult 1 := ⟨by decide +kernel, by decide +kernel, by decide +kernel⟩
def fX2_tracedResult (Y : LY) (S : HS) (l0 : Option Nat) (l1 : Int32) : Option (Int32) :=
  (gR Y 2 210 l0 S).bind fun v1 =>
  (rcv Y 2 l0).bind fun _ =>
  (fX2_placeOf Y S l0 l1).bind fun v6 =>
  (gA Y 14 v1 v6 S).bind fun v9 =>
  some v9
set_option maxRecDepth 100000 in
set_option maxHeartbeats 4000000 in
theorem mX2_tracedResult (l : Launch) {G : GG} {Y : LY} {S : HS} {l0 : Option Nat} {l1 : Int32} {res : Int32} (hf : fX2_tracedResult Y S l0 l1 = some res) : MM l yX2_tracedResult cX2_tracedResult 2 (some .int) 2 43 G Y S [va_rf l0, .int l1] S (some (.int res)) := by
  refine mm_of2 (plainFor_of_name (by decide +kernel)) (Nat.le_of_ble_eq_true rfl) (c1c (cr _) (c1c (ci _) c1n)) ?_
  intro p e R s m args below meth c X H locs ls hP hl
  have X : Cx p R s m args meth c RX2 cX2_tracedResult 2 2 43 (fun q => q ∈ Y.1) G (some .int) := X
  have hx := X.1.1
  have hb := X.1.2.1
  have hl : LV ls 2 [(0, va_rf l0), (1, .int l1)] := hl
  unfold fX2_tracedResult at hf
  refine rw_aload_n X dX2_tracedResult_0 rfl (hl.at 0 rfl) ?_
  obtain ⟨v1, e1, hf⟩ := ob hf
  refine rw_getR X dX2_tracedResult_1 fl2_44 e1 rfl hP ?_
  refine rw_aload_n X dX2_tracedResult_4 rfl (hl.at 0 rfl) ?_
  refine lv_iload_n hx hb dX2_tracedResult_5 rfl (hl.at 1 rfl) ?_
  obtain ⟨u6, r6, hf⟩ := ob hf
  obtain ⟨v6, e6, hf⟩ := ob hf
  refine rw_callVi (As := [.int l1]) X dX2_tracedResult_6 clX2_67 pyX2_placeOf (mX2_placeOf l e6) (by decide) r6 rfl hP rfl (catL (c1c (cr _) c1n) (Nat.le_of_ble_eq_true rfl)) hl.1.1 (fun H locs hP => ?_)
  obtain ⟨v9, e9, hf⟩ := ob hf
  refine rw_iald X dX2_tracedResult_9 e9 hP ?_
  cases hf
  exact rw_iret X dX2_tracedResult_10 hP
theorem dX8_nodeAt_0 : decode cX8_nodeAt 0 = .ok (.iload_n 1, 1) := by decide +kernel
theorem dX8_nodeAt_1 : decode cX8_nodeAt 1 = .ok (.ifCond .lt 20, 3) := by decide +kernel
theorem dX8_nodeAt_4 : decode cX8_nodeAt 4 = .ok (.iload_n 1, 1) := by decide +kernel
theorem dX8_nodeAt_5 : decode cX8_nodeAt 5 = .ok (.aload_n 0, 1) := by decide +kernel
theorem dX8_nodeAt_6 : decode cX8_nodeAt 6 = .ok (.getfield 17, 3) := by decide +kernel
theorem dX8_nodeAt_9 : decode cX8_nodeAt 9 = .ok (.if_icmp .ge 12, 3) := by decide +kernel
theorem dX8_nodeAt_12 : decode cX8_nodeAt 12 = .ok (.iload_n 1, 1) := by decide +kernel
theorem dX8_nodeAt_13 : decode cX8_nodeAt 13 = .ok (.aload_n 0, 1) := by decide +kernel
theorem dX8_nodeAt_14 : decode cX8_nodeAt 14 = .ok (.getfield 11, 3) := by decide +kernel
theorem dX8_nodeAt_17 : decode cX8_nodeAt 17 = .ok (.arraylength, 1) := by decide +kernel
theorem dX8_nodeAt_18 : decode cX8_nodeAt 18 = .ok (.if_icmp .lt 7, 3) := by decide +kernel
theorem dX8_nodeAt_21 : decode cX8_nodeAt 21 = .ok (.aconst_null, 1) := by decide +kernel
theorem dX8_nodeAt_22 : decode cX8_nodeAt 22 = .ok (.goto 9, 3) := by decide +kernel
theorem dX8_nodeAt_25 : decode cX8_nodeAt 25 = .ok (.aload_n 0, 1) := by decide +kernel
theorem dX8_nodeAt_26 : decode cX8_nodeAt 26 = .ok (.getfield 11, 3) := by decide +kernel
theorem dX8_nodeAt_29 : decode cX8_nodeAt 29 = .ok (.iload_n 1, 1) := by decide +kernel
theorem dX8_nodeAt_30 : decode cX8_nodeAt 30 = .ok (.aaload, 1) := by decide +kernel
theorem dX8_nodeAt_31 : decode cX8_nodeAt 31 = .ok (.areturn, 1) := by decide +kernel
theorem pyX8_nodeAt : PY yX8_nodeAt 1 := ⟨by decide +kernel, by decide +kernel, by decide +kernel⟩
def fX8_nodeAt (Y : LY) (S : HS) (l0 : Option Nat) (l1 : Int32) : Option (Option Nat) :=
  if l1 < 0 then
    some none
  else
    (gI Y 8 801 l0 S).bind fun v6 =>
    if v6 ≤ l1 then
      some none
    else
      (gR Y 8 800 l0 S).bind fun v14 =>
      (aL Y 16 v14).bind fun v17 =>
      if l1 < v17 then
        (gR Y 8 800 l0 S).bind fun v26 =>
        (gQ Y 16 v26 l1 S).bind fun v30 =>
        some v30
      else
        some none
set_option maxRecDepth 100000 in
set_option maxHeartbeats 4000000 in
theorem mX8_nodeAt (l : Launch) {G : GG} {Y : LY} {S : HS} {l0 : Option Nat} {l1 : Int32} {res : Option Nat} (hf : fX8_nodeAt Y S l0 l1 = some res) : MM l yX8_nodeAt cX8_nodeAt 2 (some (.object "BehaviorRunner$Node")) 0 0 G Y S [va_rf l0, .int l1] S (some (va_rf res)) := by
  refine mm_of2 (plainFor_of_name (by decide +kernel)) (Nat.le_of_ble_eq_true rfl) (c1c (cr _) (c1c (ci _) c1n)) ?_
  intro p e R s m args below meth c X H locs ls hP hl
  have X : Cx p R s m args meth c RX8 cX8_nodeAt 2 0 0 (fun q => q ∈ Y.1) G (some (.object "BehaviorRunner$Node")) := X
  have hx := X.1.1
  have hb := X.1.2.1
  have hl : LV ls 2 [(0, va_rf l0), (1, .int l1)] := hl
  unfold fX8_nodeAt at hf
  refine lv_iload_n hx hb dX8_nodeAt_0 rfl (hl.at 1 rfl) ?_
  refine lv_if_lt hx hb (tgt := 21) dX8_nodeAt_1 (by decide) (fun c1 => ?_) (fun c1 => ?_)
  · have hf := ifp hf c1
    refine lv_null hx hb dX8_nodeAt_21 ?_
    refine W.eq (g2 := F0 m 22 ls (va_rf none :: [])) rfl ?_
    refine lv_goto (tgt := 31) hx hb dX8_nodeAt_22 (by decide) ?_
    cases hf
    exact rw_aret X dX8_nodeAt_31 hP
  · have hf := ifn hf c1
    refine lv_iload_n hx hb dX8_nodeAt_4 rfl (hl.at 1 rfl) ?_
    refine rw_aload_n X dX8_nodeAt_5 rfl (hl.at 0 rfl) ?_
    obtain ⟨v6, e6, hf⟩ := ob hf
    refine rw_getI X dX8_nodeAt_6 fl8_17 e6 rfl hP ?_
    refine lv_icmp_ge hx hb (tgt := 21) dX8_nodeAt_9 (by decide) (fun c9 => ?_) (fun c9 => ?_)
    · have hf := ifp hf c9
      refine lv_null hx hb dX8_nodeAt_21 ?_
      refine W.eq (g2 := F0 m 22 ls (va_rf none :: [])) rfl ?_
      refine lv_goto (tgt := 31) hx hb dX8_nodeAt_22 (by decide) ?_
      cases hf
      exact rw_aret X dX8_nodeAt_31 hP
    · have hf := ifn hf c9
      refine lv_iload_n hx hb dX8_nodeAt_12 rfl (hl.at 1 rfl) ?_
      refine rw_aload_n X dX8_nodeAt_13 rfl (hl.at 0 rfl) ?_
      obtain ⟨v14, e14, hf⟩ := ob hf
      refine rw_getR X dX8_nodeAt_14 fl8_11 e14 rfl hP ?_
      obtain ⟨v17, e17, hf⟩ := ob hf
      refine rw_alen X (by decide) dX8_nodeAt_17 e17 hP ?_
      refine lv_icmp_lt hx hb (tgt := 25) dX8_nodeAt_18 (by decide) (fun c18 => ?_) (fun c18 => ?_)
      · have hf := ifp hf c18
        refine rw_aload_n X dX8_nodeAt_25 rfl (hl.at 0 rfl) ?_
        obtain ⟨v26, e26, hf⟩ := ob hf
        refine rw_getR X dX8_nodeAt_26 fl8_11 e26 rfl hP ?_
        refine lv_iload_n hx hb dX8_nodeAt_29 rfl (hl.at 1 rfl) ?_
        obtain ⟨v30, e30, hf⟩ := ob hf
        refine rw_aald16 X dX8_nodeAt_30 e30 hP ?_
        cases hf
        exact rw_aret X dX8_nodeAt_31 hP
      · have hf := ifn hf c18
        refine lv_null hx hb dX8_nodeAt_21 ?_
        refine W.eq (g2 := F0 m 22 ls (va_rf none :: [])) rfl ?_
        refine lv_goto (tgt := 31) hx hb dX8_nodeAt_22 (by decide) ?_
        cases hf
        exact rw_aret X dX8_nodeAt_31 hP
theorem dX8_grow_0 : decode cX8_grow 0 = .ok (.aload_n 0, 1) := by decide +kernel
theorem dX8_grow_1 : decode cX8_grow 1 = .ok (.getfield 17, 3) := by decide +kernel
theorem dX8_grow_4 : decode cX8_grow 4 = .ok (.ifCond .lt 15, 3) := by decide +kernel
theorem dX8_grow_7 : decode cX8_grow 7 = .ok (.aload_n 0, 1) := by decide +kernel
theorem dX8_grow_8 : decode cX8_grow 8 = .ok (.getfield 17, 3) := by decide +kernel
theorem dX8_grow_11 : decode cX8_grow 11 = .ok (.aload_n 0, 1) := by decide +kernel
theorem dX8_grow_12 : decode cX8_grow 12 = .ok (.getfield 11, 3) := by decide +kernel
theorem dX8_grow_15 : decode cX8_grow 15 = .ok (.arraylength, 1) := by decide +kernel
theorem dX8_grow_16 : decode cX8_grow 16 = .ok (.if_icmp .lt 5, 3) := by decide +kernel
theorem dX8_grow_19 : decode cX8_grow 19 = .ok (.aconst_null, 1) := by decide +kernel
theorem dX8_grow_20 : decode cX8_grow 20 = .ok (.areturn, 1) := by decide +kernel
theorem dX8_grow_21 : decode cX8_grow 21 = .ok (.aload_n 0, 1) := by decide +kernel
theorem dX8_grow_22 : decode cX8_grow 22 = .ok (.getfield 11, 3) := by decide +kernel
theorem dX8_grow_25 : decode cX8_grow 25 = .ok (.aload_n 0, 1) := by decide +kernel
theorem dX8_grow_26 : decode cX8_grow 26 = .ok (.getfield 17, 3) := by decide +kernel
theorem dX8_grow_29 : decode cX8_grow 29 = .ok (.aaload, 1) := by decide +kernel
theorem dX8_grow_30 : decode cX8_grow 30 = .ok (.astore_n 3, 1) := by decide +kernel
theorem dX8_grow_31 : decode cX8_grow 31 = .ok (.aload_n 3, 1) := by decide +kernel
theorem dX8_grow_32 : decode cX8_grow 32 = .ok (.iload_n 1, 1) := by decide +kernel
theorem dX8_grow_33 : decode cX8_grow 33 = .ok (.aload_n 2, 1) := by decide +kernel
theorem dX8_grow_34 : decode cX8_grow 34 = .ok (.aload_n 0, 1) := by decide +kernel
theorem dX8_grow_35 : decode cX8_grow 35 = .ok (.aload_n 0, 1) := by decide +kernel
theorem dX8_grow_36 : decode cX8_grow 36 = .ok (.getfield 17, 3) := by decide +kernel
theorem dX8_grow_39 : decode cX8_grow 39 = .ok (.iconst 1, 1) := by decide +kernel
theorem dX8_grow_40 : decode cX8_grow 40 = .ok (.isub, 1) := by decide +kernel
theorem dX8_grow_41 : decode cX8_grow 41 = .ok (.invokevirtual 24, 3) := by decide +kernel
theorem dX8_grow_44 : decode cX8_grow 44 = .ok (.invokevirtual 28, 3) := by decide +kernel
theorem dX8_grow_47 : decode cX8_grow 47 = .ok (.aload_n 0, 1) := by decide +kernel
theorem dX8_grow_48 : decode cX8_grow 48 = .ok (.dup, 1) := by decide +kernel
theorem dX8_grow_49 : decode cX8_grow 49 = .ok (.getfield 17, 3) := by decide +kernel
theorem dX8_grow_52 : decode cX8_grow 52 = .ok (.iconst 1, 1) := by decide +kernel
theorem dX8_grow_53 : decode cX8_grow 53 = .ok (.iadd, 1) := by decide +kernel
theorem dX8_grow_54 : decode cX8_grow 54 = .ok (.putfield 17, 3) := by decide +kernel
theorem dX8_grow_57 : decode cX8_grow 57 = .ok (.aload_n 2, 1) := by decide +kernel
theorem dX8_grow_58 : decode cX8_grow 58 = .ok (.ifnull 8, 3) := by decide +kernel
theorem dX8_grow_61 : decode cX8_grow 61 = .ok (.aload_n 2, 1) := by decide +kernel
theorem dX8_grow_62 : decode cX8_grow 62 = .ok (.aload_n 3, 1) := by decide +kernel
theorem dX8_grow_63 : decode cX8_grow 63 = .ok (.invokevirtual 32, 3) := by decide +kernel
theorem dX8_grow_66 : decode cX8_grow 66 = .ok (.aload_n 3, 1) := by decide +kernel
theorem dX8_grow_67 : decode cX8_grow 67 = .ok (.areturn, 1) := by decide +kernel
theorem pyX8_grow : PY yX8_grow 2 := ⟨by decide +kernel, by decide +kernel, by decide +kernel⟩
def fX8_grow (Y : LY) (S : HS) (l0 : Option Nat) (l1 : Int32) (l2 : Option Nat) : Option (HS × Option Nat) :=
  (gI Y 8 801 l0 S).bind fun v1 =>
  if v1 < 0 then
    some (S, none)
  else
    (gI Y 8 801 l0 S).bind fun v8 =>
    (gR Y 8 800 l0 S).bind fun v12 =>
    (aL Y 16 v12).bind fun v15 =>
    if v8 < v15 then
      (gR Y 8 800 l0 S).bind fun v22 =>
      (gI Y 8 801 l0 S).bind fun v26 =>
      (gQ Y 16 v22 v26 S).bind fun v29 =>
      (gI Y 8 801 l0 S).bind fun v36 =>
      (rcv Y 8 l0).bind fun _ =>
      (fX8_nodeAt Y S l0 (v36 - 1)).bind fun v41 =>
      (rcv Y 4 v29).bind fun _ =>
      (fX4_reset Y S v29 l1 l2 v41).bind fun S44 =>
      (gI Y 8 801 l0 S44).bind fun v49 =>
      (pI Y 8 801 l0 (v49 + 1) S44).bind fun S54 =>
      if l2 = none then
        some (S54, v29)
      else
        (rcv Y 4 l2).bind fun _ =>
        (fX4_adopt Y S54 l2 v29).bind fun S63 =>
        some (S63, v29)
    else
      some (S, none)
set_option maxRecDepth 100000 in
set_option maxHeartbeats 4000000 in
theorem mX8_grow (l : Launch) {G : GG} {Y : LY} {S : HS} {l0 : Option Nat} {l1 : Int32} {l2 : Option Nat} {res : HS × Option Nat} (hf : fX8_grow Y S l0 l1 l2 = some res) : MM l yX8_grow cX8_grow 4 (some (.object "BehaviorRunner$Node")) 2 43 G Y S [va_rf l0, .int l1, va_rf l2] res.1 (some (va_rf res.2)) := by
  refine mm_of2 (plainFor_of_name (by decide +kernel)) (Nat.le_of_ble_eq_true rfl) (c1c (cr _) (c1c (ci _) (c1c (cr _) c1n))) ?_
  intro p e R s m args below meth c X H locs ls hP hl
  have X : Cx p R s m args meth c RX8 cX8_grow 4 2 43 (fun q => q ∈ Y.1) G (some (.object "BehaviorRunner$Node")) := X
  have hx := X.1.1
  have hb := X.1.2.1
  have hl : LV ls 4 [(0, va_rf l0), (1, .int l1), (2, va_rf l2)] := hl
  unfold fX8_grow at hf
  refine rw_aload_n X dX8_grow_0 rfl (hl.at 0 rfl) ?_
  obtain ⟨v1, e1, hf⟩ := ob hf
  refine rw_getI X dX8_grow_1 fl8_17 e1 rfl hP ?_
  refine lv_if_lt hx hb (tgt := 19) dX8_grow_4 (by decide) (fun c4 => ?_) (fun c4 => ?_)
  · have hf := ifp hf c4
    refine lv_null hx hb dX8_grow_19 ?_
    refine W.eq (g2 := F0 m 20 ls (va_rf none :: [])) rfl ?_
    cases hf
    exact rw_aret X dX8_grow_20 hP
  · have hf := ifn hf c4
    refine rw_aload_n X dX8_grow_7 rfl (hl.at 0 rfl) ?_
    obtain ⟨v8, e8, hf⟩ := ob hf
    refine rw_getI X dX8_grow_8 fl8_17 e8 rfl hP ?_
    refine rw_aload_n X dX8_grow_11 rfl (hl.at 0 rfl) ?_
    obtain ⟨v12, e12, hf⟩ := ob hf
    refine rw_getR X dX8_grow_12 fl8_11 e12 rfl hP ?_
    obtain ⟨v15, e15, hf⟩ := ob hf
    refine rw_alen X (by decide) dX8_grow_15 e15 hP ?_
    refine lv_icmp_lt hx hb (tgt := 21) dX8_grow_16 (by decide) (fun c16 => ?_) (fun c16 => ?_)
    · have hf := ifp hf c16
      refine rw_aload_n X dX8_grow_21 rfl (hl.at 0 rfl) ?_
      obtain ⟨v22, e22, hf⟩ := ob hf
      refine rw_getR X dX8_grow_22 fl8_11 e22 rfl hP ?_
      refine rw_aload_n X dX8_grow_25 rfl (hl.at 0 rfl) ?_
      obtain ⟨v26, e26, hf⟩ := ob hf
      refine rw_getI X dX8_grow_26 fl8_17 e26 rfl hP ?_
      obtain ⟨v29, e29, hf⟩ := ob hf
      refine rw_aald16 X dX8_grow_29 e29 hP ?_
      refine rv_astore_n X dX8_grow_30 rfl hl (by decide) rfl (fun ls hl => ?_)
      have hl : LV ls 4 [(3, va_rf v29), (0, va_rf l0), (1, .int l1), (2, va_rf l2)] := hl
      refine rw_aload_n X dX8_grow_31 rfl (hl.at 0 rfl) ?_
      refine lv_iload_n hx hb dX8_grow_32 rfl (hl.at 2 rfl) ?_
      refine rw_aload_n X dX8_grow_33 rfl (hl.at 3 rfl) ?_
      refine rw_aload_n X dX8_grow_34 rfl (hl.at 1 rfl) ?_
      refine rw_aload_n X dX8_grow_35 rfl (hl.at 1 rfl) ?_
      obtain ⟨v36, e36, hf⟩ := ob hf
      refine rw_getI X dX8_grow_36 fl8_17 e36 rfl hP ?_
      refine lv_iconst (v := 1) hx hb dX8_grow_39 (by decide) ?_
      refine lv_isub hx hb dX8_grow_40 ?_
      obtain ⟨u41, r41, hf⟩ := ob hf
      obtain ⟨v41, e41, hf⟩ := ob hf
      refine rw_callVr (As := [.int (v36 - 1)]) X dX8_grow_41 clX8_24 pyX8_nodeAt (mX8_nodeAt l e41) (by decide) r41 rfl hP rfl (catL (c1c (cr _) (c1c (ci _) (c1c (cr _) c1n))) (Nat.le_of_ble_eq_true rfl)) hl.1.1 (fun H locs hP => ?_)
      obtain ⟨u44, r44, hf⟩ := ob hf
      obtain ⟨S44, e44, hf⟩ := ob hf
      refine rw_callVv (As := [.int l1, va_rf l2, va_rf v41]) X dX8_grow_44 clX8_28 pyX4_reset (mX4_reset l e44) (by decide) r44 rfl hP rfl (catL c1n (Nat.le_of_ble_eq_true rfl)) hl.1.1 (fun H locs hP => ?_)
      refine rw_aload_n X dX8_grow_47 rfl (hl.at 1 rfl) ?_
      refine lv_dup hx hb dX8_grow_48 (cr _) ?_
      obtain ⟨v49, e49, hf⟩ := ob hf
      refine rw_getI X dX8_grow_49 fl8_17 e49 rfl hP ?_
      refine lv_iconst (v := 1) hx hb dX8_grow_52 (by decide) ?_
      refine lv_iadd hx hb dX8_grow_53 ?_
      obtain ⟨S54, e54, hf⟩ := ob hf
      refine rw_putI X dX8_grow_54 fl8_17 fw8_1 e54 rfl hP (fun H locs hP => ?_)
      refine rw_aload_n X dX8_grow_57 rfl (hl.at 3 rfl) ?_
      refine rw_ifnull X (tgt := 66) dX8_grow_58 (by decide) (fun c58 => ?_) (fun c58 => ?_)
      · have hf := ifp hf c58
        refine rw_aload_n X dX8_grow_66 rfl (hl.at 0 rfl) ?_
        cases hf
        exact rw_aret X dX8_grow_67 hP
      · have hf := ifn hf c58
        refine rw_aload_n X dX8_grow_61 rfl (hl.at 3 rfl) ?_
        refine rw_aload_n X dX8_grow_62 rfl (hl.at 0 rfl) ?_
        obtain ⟨u63, r63, hf⟩ := ob hf
        obtain ⟨S63, e63, hf⟩ := ob hf
        refine rw_callVv (As := [va_rf v29]) X dX8_grow_63 clX8_32 pyX4_adopt (mX4_adopt l e63) (by decide) r63 rfl hP rfl (catL c1n (Nat.le_of_ble_eq_true rfl)) hl.1.1 (fun H locs hP => ?_)
        refine rw_aload_n X dX8_grow_66 rfl (hl.at 0 rfl) ?_
        cases hf
        exact rw_aret X dX8_grow_67 hP
    · have hf := ifn hf c16
      refine lv_null hx hb dX8_grow_19 ?_
      refine W.eq (g2 := F0 m 20 ls (va_rf none :: [])) rfl ?_
      cases hf
      exact rw_aret X dX8_grow_20 hP
theorem dX8_runningNodes_0 : decode cX8_runningNodes 0 = .ok (.iconst 0, 1) := by decide +kernel
theorem dX8_runningNodes_1 : decode cX8_runningNodes 1 = .ok (.istore_n 1, 1) := by decide +kernel
theorem dX8_runningNodes_2 : decode cX8_runningNodes 2 = .ok (.iconst 0, 1) := by decide +kernel
theorem dX8_runningNodes_3 : decode cX8_runningNodes 3 = .ok (.istore_n 2, 1) := by decide +kernel
theorem dX8_runningNodes_4 : decode cX8_runningNodes 4 = .ok (.iload_n 2, 1) := by decide +kernel
theorem dX8_runningNodes_5 : decode cX8_runningNodes 5 = .ok (.aload_n 0, 1) := by decide +kernel
theorem dX8_runningNodes_6 : decode cX8_runningNodes 6 = .ok (.getfield 17, 3) := by decide +kernel
theorem dX8_runningNodes_9 : decode cX8_runningNodes 9 = .ok (.if_icmp .ge 41, 3) := by decide +kernel
theorem dX8_runningNodes_12 : decode cX8_runningNodes 12 = .ok (.iload_n 2, 1) := by decide +kernel
theorem dX8_runningNodes_13 : decode cX8_runningNodes 13 = .ok (.aload_n 0, 1) := by decide +kernel
theorem dX8_runningNodes_14 : decode cX8_runningNodes 14 = .ok (.getfield 11, 3) := by decide +kernel
theorem dX8_runningNodes_17 : decode cX8_runningNodes 17 = .ok (.arraylength, 1) := by decide +kernel
theorem dX8_runningNodes_18 : decode cX8_runningNodes 18 = .ok (.if_icmp .ge 32, 3) := by decide +kernel
theorem dX8_runningNodes_21 : decode cX8_runningNodes 21 = .ok (.iload_n 1, 1) := by decide +kernel
theorem dX8_runningNodes_22 : decode cX8_runningNodes 22 = .ok (.aload_n 0, 1) := by decide +kernel
theorem dX8_runningNodes_23 : decode cX8_runningNodes 23 = .ok (.getfield 11, 3) := by decide +kernel
theorem dX8_runningNodes_26 : decode cX8_runningNodes 26 = .ok (.iload_n 2, 1) := by decide +kernel
theorem dX8_runningNodes_27 : decode cX8_runningNodes 27 = .ok (.aaload, 1) := by decide +kernel
theorem dX8_runningNodes_28 : decode cX8_runningNodes 28 = .ok (.getfield 36, 3) := by decide +kernel
theorem dX8_runningNodes_31 : decode cX8_runningNodes 31 = .ok (.getfield 40, 3) := by decide +kernel
theorem dX8_runningNodes_34 : decode cX8_runningNodes 34 = .ok (.ifCond .eq 7, 3) := by decide +kernel
theorem dX8_runningNodes_37 : decode cX8_runningNodes 37 = .ok (.iconst 1, 1) := by decide +kernel
theorem dX8_runningNodes_38 : decode cX8_runningNodes 38 = .ok (.goto 4, 3) := by decide +kernel
theorem dX8_runningNodes_41 : decode cX8_runningNodes 41 = .ok (.iconst 0, 1) := by decide +kernel
theorem dX8_runningNodes_42 : decode cX8_runningNodes 42 = .ok (.iadd, 1) := by decide +kernel
theorem dX8_runningNodes_43 : decode cX8_runningNodes 43 = .ok (.istore_n 1, 1) := by decide +kernel
theorem dX8_runningNodes_44 : decode cX8_runningNodes 44 = .ok (.iinc 2 1, 3) := by decide +kernel
theorem dX8_runningNodes_47 : decode cX8_runningNodes 47 = .ok (.goto (-43), 3) := by decide +kernel
theorem dX8_runningNodes_50 : decode cX8_runningNodes 50 = .ok (.iload_n 1, 1) := by decide +kernel
theorem dX8_runningNodes_51 : decode cX8_runningNodes 51 = .ok (.ireturn, 1) := by decide +kernel
theorem pyX8_runningNodes : PY yX8_runningNodes 0 := ⟨by decide +kernel, by decide +kernel, by decide +kernel⟩
def fX8_runningNodes_4 (Y : LY) (S : HS) : Nat → Option Nat → Int32 → Int32 → Option (Int32)
  | 0, _, _, _ => none
  | n + 1, l0, l1, l2 =>
    (gI Y 8 801 l0 S).bind fun v6 =>
    if v6 ≤ l2 then
      some l1
    else
      (gR Y 8 800 l0 S).bind fun v14 =>
      (aL Y 16 v14).bind fun v17 =>
      if v17 ≤ l2 then
        some l1
      else
        (gR Y 8 800 l0 S).bind fun v23 =>
        (gQ Y 16 v23 l2 S).bind fun v27 =>
        (gR Y 4 403 v27 S).bind fun v28 =>
        (gI Y 3 300 v28 S).bind fun v31 =>
        if v31 = 0 then
          fX8_runningNodes_4 Y S n l0 (l1 + 0) (l2 + 1)
        else
          fX8_runningNodes_4 Y S n l0 (l1 + 1) (l2 + 1)
set_option maxRecDepth 100000 in
set_option maxHeartbeats 4000000 in
theorem wX8_runningNodes_4 {p : Program} {l : Launch} {e : Env} {R : Room} {s : State} {m : MethodId} {args : Array Value} {below : List Frame} {meth : Method} {c : Code} {G : GG} {Y : LY} {S : HS} {res : Int32} (X : Cx p R s m args meth c RX8 cX8_runningNodes 3 0 0 (fun q => q ∈ Y.1) G (some .int)) : ∀ (n : Nat) (l0 : Option Nat) (l1 : Int32) (l2 : Int32), fX8_runningNodes_4 Y S n l0 l1 l2 = some res → ∀ (H : Heap) (locs : List Loc) (ls : Array Slot), HP (fun q => q ∈ Y.1) G Y s S H locs → LV ls 3 [(0, va_rf l0), (1, .int l1), (2, .int l2)] → W p l e R s m args below meth c H locs 0 0 (MQ below (QI G Y S (some (.int res))) args s 0 0 (fun q => q ∈ Y.1)) (F0 m 4 ls []) := by
  have hx := X.1.1
  have hb := X.1.2.1
  intro n
  induction n with
  | zero =>
    intro l0 l1 l2 hf
    cases hf
  | succ n ih =>
    intro l0 l1 l2 hf H locs ls hP hl
    rw [fX8_runningNodes_4] at hf
    refine lv_iload_n hx hb dX8_runningNodes_4 rfl (hl.at 2 rfl) ?_
    refine rw_aload_n X dX8_runningNodes_5 rfl (hl.at 0 rfl) ?_
    obtain ⟨v6, e6, hf⟩ := ob hf
    refine rw_getI X dX8_runningNodes_6 fl8_17 e6 rfl hP ?_
    refine lv_icmp_ge hx hb (tgt := 50) dX8_runningNodes_9 (by decide) (fun c9 => ?_) (fun c9 => ?_)
    · have hf := ifp hf c9
      refine lv_iload_n hx hb dX8_runningNodes_50 rfl (hl.at 1 rfl) ?_
      cases hf
      exact rw_iret X dX8_runningNodes_51 hP
    · have hf := ifn hf c9
      refine lv_iload_n hx hb dX8_runningNodes_12 rfl (hl.at 2 rfl) ?_
      refine rw_aload_n X dX8_runningNodes_13 rfl (hl.at 0 rfl) ?_
      obtain ⟨v14, e14, hf⟩ := ob hf
      refine rw_getR X dX8_runningNodes_14 fl8_11 e14 rfl hP ?_
      obtain ⟨v17, e17, hf⟩ := ob hf
      refine rw_alen X (by decide) dX8_runningNodes_17 e17 hP ?_
      refine lv_icmp_ge hx hb (tgt := 50) dX8_runningNodes_18 (by decide) (fun c18 => ?_) (fun c18 => ?_)
      · have hf := ifp hf c18
        refine lv_iload_n hx hb dX8_runningNodes_50 rfl (hl.at 1 rfl) ?_
        cases hf
        exact rw_iret X dX8_runningNodes_51 hP
      · have hf := ifn hf c18
        refine lv_iload_n hx hb dX8_runningNodes_21 rfl (hl.at 1 rfl) ?_
        refine rw_aload_n X dX8_runningNodes_22 rfl (hl.at 0 rfl) ?_
        obtain ⟨v23, e23, hf⟩ := ob hf
        refine rw_getR X dX8_runningNodes_23 fl8_11 e23 rfl hP ?_
        refine lv_iload_n hx hb dX8_runningNodes_26 rfl (hl.at 2 rfl) ?_
        obtain ⟨v27, e27, hf⟩ := ob hf
        refine rw_aald16 X dX8_runningNodes_27 e27 hP ?_
        obtain ⟨v28, e28, hf⟩ := ob hf
        refine rw_getR X dX8_runningNodes_28 fl8_36 e28 rfl hP ?_
        obtain ⟨v31, e31, hf⟩ := ob hf
        refine rw_getI X dX8_runningNodes_31 fl8_40 e31 rfl hP ?_
        refine lv_if_eq hx hb (tgt := 41) dX8_runningNodes_34 (by decide) (fun c34 => ?_) (fun c34 => ?_)
        · have hf := ifp hf c34
          refine lv_iconst (v := 0) hx hb dX8_runningNodes_41 (by decide) ?_
          refine lv_iadd hx hb dX8_runningNodes_42 ?_
          refine rv_istore_n X dX8_runningNodes_43 rfl hl (by decide) rfl (fun ls hl => ?_)
          have hl : LV ls 3 [(1, .int (l1 + 0)), (0, va_rf l0), (2, .int l2)] := hl
          refine rv_iinc (k := 2) (d := 1) X dX8_runningNodes_44 hl rfl (by decide) (by decide) rfl (fun ls hl => ?_)
          have hl : LV ls 3 [(2, .int (l2 + 1)), (1, .int (l1 + 0)), (0, va_rf l0)] := hl
          refine lv_goto (tgt := 4) hx hb dX8_runningNodes_47 (by decide) ?_
          exact ih l0 (l1 + 0) (l2 + 1) hf _ _ _ hP (hl.sub [2, 1, 0] rfl)
        · have hf := ifn hf c34
          refine lv_iconst (v := 1) hx hb dX8_runningNodes_37 (by decide) ?_
          refine lv_goto (tgt := 42) hx hb dX8_runningNodes_38 (by decide) ?_
          refine lv_iadd hx hb dX8_runningNodes_42 ?_
          refine rv_istore_n X dX8_runningNodes_43 rfl hl (by decide) rfl (fun ls hl => ?_)
          have hl : LV ls 3 [(1, .int (l1 + 1)), (0, va_rf l0), (2, .int l2)] := hl
          refine rv_iinc (k := 2) (d := 1) X dX8_runningNodes_44 hl rfl (by decide) (by decide) rfl (fun ls hl => ?_)
          have hl : LV ls 3 [(2, .int (l2 + 1)), (1, .int (l1 + 1)), (0, va_rf l0)] := hl
          refine lv_goto (tgt := 4) hx hb dX8_runningNodes_47 (by decide) ?_
          exact ih l0 (l1 + 1) (l2 + 1) hf _ _ _ hP (hl.sub [2, 1, 0] rfl)
def fX8_runningNodes (Y : LY) (S : HS) (l0 : Option Nat) : Option (Int32) :=
  fX8_runningNodes_4 Y S FU l0 0 0
set_option maxRecDepth 100000 in
set_option maxHeartbeats 4000000 in
theorem mX8_runningNodes (l : Launch) {G : GG} {Y : LY} {S : HS} {l0 : Option Nat} {res : Int32} (hf : fX8_runningNodes Y S l0 = some res) : MM l yX8_runningNodes cX8_runningNodes 3 (some .int) 0 0 G Y S [va_rf l0] S (some (.int res)) := by
  refine mm_of2 (plainFor_of_name (by decide +kernel)) (Nat.le_of_ble_eq_true rfl) (c1c (cr _) c1n) ?_
  intro p e R s m args below meth c X H locs ls hP hl
  have X : Cx p R s m args meth c RX8 cX8_runningNodes 3 0 0 (fun q => q ∈ Y.1) G (some .int) := X
  have hx := X.1.1
  have hb := X.1.2.1
  have hl : LV ls 3 [(0, va_rf l0)] := hl
  unfold fX8_runningNodes at hf
  refine lv_iconst (v := 0) hx hb dX8_runningNodes_0 (by decide) ?_
  refine rv_istore_n X dX8_runningNodes_1 rfl hl (by decide) rfl (fun ls hl => ?_)
  have hl : LV ls 3 [(1, .int 0), (0, va_rf l0)] := hl
  refine lv_iconst (v := 0) hx hb dX8_runningNodes_2 (by decide) ?_
  refine rv_istore_n X dX8_runningNodes_3 rfl hl (by decide) rfl (fun ls hl => ?_)
  have hl : LV ls 3 [(2, .int 0), (1, .int 0), (0, va_rf l0)] := hl
  exact wX8_runningNodes_4 X FU l0 0 0 hf _ _ _ hP (hl.sub [2, 1, 0] rfl)
