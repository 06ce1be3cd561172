/-! printed by wip/whole/gen/gen_parts.py: 11.node -/
theorem dX4_reset_0 : decode cX4_reset 0 = .ok (.aload_n 0, 1) := by decide +kernel
theorem dX4_reset_1 : decode cX4_reset 1 = .ok (.iload_n 1, 1) := by decide +kernel
theorem dX4_reset_2 : decode cX4_reset 2 = .ok (.putfield 28, 3) := by decide +kernel
theorem dX4_reset_5 : decode cX4_reset 5 = .ok (.aload_n 0, 1) := by decide +kernel
theorem dX4_reset_6 : decode cX4_reset 6 = .ok (.iconst 0, 1) := by decide +kernel
theorem dX4_reset_7 : decode cX4_reset 7 = .ok (.putfield 32, 3) := by decide +kernel
theorem dX4_reset_10 : decode cX4_reset 10 = .ok (.aload_n 0, 1) := by decide +kernel
theorem dX4_reset_11 : decode cX4_reset 11 = .ok (.aload_n 2, 1) := by decide +kernel
theorem dX4_reset_12 : decode cX4_reset 12 = .ok (.ifnonnull 7, 3) := by decide +kernel
theorem dX4_reset_15 : decode cX4_reset 15 = .ok (.iconst 1, 1) := by decide +kernel
theorem dX4_reset_16 : decode cX4_reset 16 = .ok (.goto 9, 3) := by decide +kernel
theorem dX4_reset_19 : decode cX4_reset 19 = .ok (.aload_n 2, 1) := by decide +kernel
theorem dX4_reset_20 : decode cX4_reset 20 = .ok (.getfield 35, 3) := by decide +kernel
theorem dX4_reset_23 : decode cX4_reset 23 = .ok (.iconst 1, 1) := by decide +kernel
theorem dX4_reset_24 : decode cX4_reset 24 = .ok (.iadd, 1) := by decide +kernel
theorem dX4_reset_25 : decode cX4_reset 25 = .ok (.putfield 35, 3) := by decide +kernel
theorem dX4_reset_28 : decode cX4_reset 28 = .ok (.aload_n 0, 1) := by decide +kernel
theorem dX4_reset_29 : decode cX4_reset 29 = .ok (.iconst 0, 1) := by decide +kernel
theorem dX4_reset_30 : decode cX4_reset 30 = .ok (.putfield 38, 3) := by decide +kernel
theorem dX4_reset_33 : decode cX4_reset 33 = .ok (.aload_n 0, 1) := by decide +kernel
theorem dX4_reset_34 : decode cX4_reset 34 = .ok (.aload_n 3, 1) := by decide +kernel
theorem dX4_reset_35 : decode cX4_reset 35 = .ok (.putfield 41, 3) := by decide +kernel
theorem dX4_reset_38 : decode cX4_reset 38 = .ok (.aload_n 0, 1) := by decide +kernel
theorem dX4_reset_39 : decode cX4_reset 39 = .ok (.aload_n 2, 1) := by decide +kernel
theorem dX4_reset_40 : decode cX4_reset 40 = .ok (.putfield 45, 3) := by decide +kernel
theorem dX4_reset_43 : decode cX4_reset 43 = .ok (.aload_n 0, 1) := by decide +kernel
theorem dX4_reset_44 : decode cX4_reset 44 = .ok (.aconst_null, 1) := by decide +kernel
theorem dX4_reset_45 : decode cX4_reset 45 = .ok (.putfield 48, 3) := by decide +kernel
theorem dX4_reset_48 : decode cX4_reset 48 = .ok (.aload_n 0, 1) := by decide +kernel
theorem dX4_reset_49 : decode cX4_reset 49 = .ok (.aconst_null, 1) := by decide +kernel
theorem dX4_reset_50 : decode cX4_reset 50 = .ok (.putfield 51, 3) := by decide +kernel
theorem dX4_reset_53 : decode cX4_reset 53 = .ok (.aload_n 0, 1) := by decide +kernel
theorem dX4_reset_54 : decode cX4_reset 54 = .ok (.aconst_null, 1) := by decide +kernel
theorem dX4_reset_55 : decode cX4_reset 55 = .ok (.putfield 54, 3) := by decide +kernel
theorem dX4_reset_58 : decode cX4_reset 58 = .ok (.aload_n 0, 1) := by decide +kernel
theorem dX4_reset_59 : decode cX4_reset 59 = .ok (.aload_n 0, 1) := by decide +kernel
theorem dX4_reset_60 : decode cX4_reset 60 = .ok (.putfield 57, 3) := by decide +kernel
theorem dX4_reset_63 : decode cX4_reset 63 = .ok (.aload_n 0, 1) := by decide +kernel
theorem dX4_reset_64 : decode cX4_reset 64 = .ok (.getfield 12, 3) := by decide +kernel
theorem dX4_reset_67 : decode cX4_reset 67 = .ok (.invokevirtual 63, 3) := by decide +kernel
theorem dX4_reset_70 : decode cX4_reset 70 = .ok (.aload_n 0, 1) := by decide +kernel
theorem dX4_reset_71 : decode cX4_reset 71 = .ok (.getfield 18, 3) := by decide +kernel
theorem dX4_reset_74 : decode cX4_reset 74 = .ok (.invokevirtual 63, 3) := by decide +kernel
theorem dX4_reset_77 : decode cX4_reset 77 = .ok (.aload_n 0, 1) := by decide +kernel
theorem dX4_reset_78 : decode cX4_reset 78 = .ok (.getfield 24, 3) := by decide +kernel
theorem dX4_reset_81 : decode cX4_reset 81 = .ok (.invokevirtual 66, 3) := by decide +kernel
theorem dX4_reset_84 : decode cX4_reset 84 = .ok (.return_, 1) := by decide +kernel
theorem pyX4_reset : PY yX4_reset 3 := ⟨by decide +kernel, by decide +kernel, by decide +kernel⟩
def fX4_reset_25 (Y : LY) (S : HS) (l0 : Option Nat) (l2 : Option Nat) (l3 : Option Nat) (s0 : Option Nat) (s1 : Int32) : Option (HS) :=
  (pI Y 4 406 s0 s1 S).bind fun S25 =>
  (pI Y 4 407 l0 0 S25).bind fun S30 =>
  (pR Y 4 408 l0 l3 S30).bind fun S35 =>
  (pR Y 4 409 l0 l2 S35).bind fun S40 =>
  (pR Y 4 410 l0 none S40).bind fun S45 =>
  (pR Y 4 411 l0 none S45).bind fun S50 =>
  (pR Y 4 412 l0 none S50).bind fun S55 =>
  (pR Y 4 413 l0 l0 S55).bind fun S60 =>
  (gR Y 4 401 l0 S60).bind fun v64 =>
  (rcv Y 1 v64).bind fun _ =>
  (fX1_clear Y S60 v64 ).bind fun S67 =>
  (gR Y 4 402 l0 S67).bind fun v71 =>
  (rcv Y 1 v71).bind fun _ =>
  (fX1_clear Y S67 v71 ).bind fun S74 =>
  (gR Y 4 403 l0 S74).bind fun v78 =>
  (rcv Y 3 v78).bind fun _ =>
  (fX3_clear Y S74 v78 ).bind fun S81 =>
  some S81
set_option maxRecDepth 100000 in
set_option maxHeartbeats 4000000 in
theorem wX4_reset_25 {p : Program} {l : Launch} {e : Env} {R : Room} {s : State} {m : MethodId} {args : Array Value} {below : List Frame} {meth : Method} {c : Code} {G : GG} {Y : LY} {res : HS} (X : Cx p R s m args meth c RX4 cX4_reset 4 1 20 (fun q => q ∈ Y.1) G none) : ∀ (S : HS) (l0 : Option Nat) (l2 : Option Nat) (l3 : Option Nat) (s0 : Option Nat) (s1 : Int32), fX4_reset_25 Y S l0 l2 l3 s0 s1 = some res → ∀ (H : Heap) (locs : List Loc) (ls : Array Slot), HP (fun q => q ∈ Y.1) G Y s S H locs → LV ls 4 [(0, va_rf l0), (2, va_rf l2), (3, va_rf l3)] → W p l e R s m args below meth c H locs 0 0 (MQ below (QI G Y res none) args s 0 0 (fun q => q ∈ Y.1)) (F0 m 25 ls (.int s1 :: (va_rf s0 :: []))) := by
  have hx := X.1.1
  have hb := X.1.2.1
  intro S l0 l2 l3 s0 s1 hf H locs ls hP hl
  unfold fX4_reset_25 at hf
  obtain ⟨S25, e25, hf⟩ := ob hf
  refine rw_putI X dX4_reset_25 fl4_35 fw4_6 e25 rfl hP (fun H locs hP => ?_)
  refine rw_aload_n X dX4_reset_28 rfl (hl.at 0 rfl) ?_
  refine lv_iconst (v := 0) hx hb dX4_reset_29 (by decide) ?_
  obtain ⟨S30, e30, hf⟩ := ob hf
  refine rw_putI X dX4_reset_30 fl4_38 fw4_7 e30 rfl hP (fun H locs hP => ?_)
  refine rw_aload_n X dX4_reset_33 rfl (hl.at 0 rfl) ?_
  refine rw_aload_n X dX4_reset_34 rfl (hl.at 2 rfl) ?_
  obtain ⟨S35, e35, hf⟩ := ob hf
  refine rw_putR X dX4_reset_35 fl4_41 fw4_8 e35 rfl hP (fun H locs hP => ?_)
  refine rw_aload_n X dX4_reset_38 rfl (hl.at 0 rfl) ?_
  refine rw_aload_n X dX4_reset_39 rfl (hl.at 1 rfl) ?_
  obtain ⟨S40, e40, hf⟩ := ob hf
  refine rw_putR X dX4_reset_40 fl4_45 fw4_9 e40 rfl hP (fun H locs hP => ?_)
  refine rw_aload_n X dX4_reset_43 rfl (hl.at 0 rfl) ?_
  refine lv_null hx hb dX4_reset_44 ?_
  refine W.eq (g2 := F0 m 45 ls (va_rf none :: (va_rf l0 :: []))) rfl ?_
  obtain ⟨S45, e45, hf⟩ := ob hf
  refine rw_putR X dX4_reset_45 fl4_48 fw4_10 e45 rfl hP (fun H locs hP => ?_)
  refine rw_aload_n X dX4_reset_48 rfl (hl.at 0 rfl) ?_
  refine lv_null hx hb dX4_reset_49 ?_
  refine W.eq (g2 := F0 m 50 ls (va_rf none :: (va_rf l0 :: []))) rfl ?_
  obtain ⟨S50, e50, hf⟩ := ob hf
  refine rw_putR X dX4_reset_50 fl4_51 fw4_11 e50 rfl hP (fun H locs hP => ?_)
  refine rw_aload_n X dX4_reset_53 rfl (hl.at 0 rfl) ?_
  refine lv_null hx hb dX4_reset_54 ?_
  refine W.eq (g2 := F0 m 55 ls (va_rf none :: (va_rf l0 :: []))) rfl ?_
  obtain ⟨S55, e55, hf⟩ := ob hf
  refine rw_putR X dX4_reset_55 fl4_54 fw4_12 e55 rfl hP (fun H locs hP => ?_)
  refine rw_aload_n X dX4_reset_58 rfl (hl.at 0 rfl) ?_
  refine rw_aload_n X dX4_reset_59 rfl (hl.at 0 rfl) ?_
  obtain ⟨S60, e60, hf⟩ := ob hf
  refine rw_putR X dX4_reset_60 fl4_57 fw4_13 e60 rfl hP (fun H locs hP => ?_)
  refine rw_aload_n X dX4_reset_63 rfl (hl.at 0 rfl) ?_
  obtain ⟨v64, e64, hf⟩ := ob hf
  refine rw_getR X dX4_reset_64 fl4_12 e64 rfl hP ?_
  obtain ⟨u67, r67, hf⟩ := ob hf
  obtain ⟨S67, e67, hf⟩ := ob hf
  refine rw_callVv (As := []) X dX4_reset_67 clX4_63 pyX1_clear (mX1_clear l e67) (by decide) r67 rfl hP rfl (catL c1n (Nat.le_of_ble_eq_true rfl)) hl.1.1 (fun H locs hP => ?_)
  refine rw_aload_n X dX4_reset_70 rfl (hl.at 0 rfl) ?_
  obtain ⟨v71, e71, hf⟩ := ob hf
  refine rw_getR X dX4_reset_71 fl4_18 e71 rfl hP ?_
  obtain ⟨u74, r74, hf⟩ := ob hf
  obtain ⟨S74, e74, hf⟩ := ob hf
  refine rw_callVv (As := []) X dX4_reset_74 clX4_63 pyX1_clear (mX1_clear l e74) (by decide) r74 rfl hP rfl (catL c1n (Nat.le_of_ble_eq_true rfl)) hl.1.1 (fun H locs hP => ?_)
  refine rw_aload_n X dX4_reset_77 rfl (hl.at 0 rfl) ?_
  obtain ⟨v78, e78, hf⟩ := ob hf
  refine rw_getR X dX4_reset_78 fl4_24 e78 rfl hP ?_
  obtain ⟨u81, r81, hf⟩ := ob hf
  obtain ⟨S81, e81, hf⟩ := ob hf
  refine rw_callVv (As := []) X dX4_reset_81 clX4_66 pyX3_clear (mX3_clear l e81) (by decide) r81 rfl hP rfl (catL c1n (Nat.le_of_ble_eq_true rfl)) hl.1.1 (fun H locs hP => ?_)
  cases hf
  exact rw_vret X dX4_reset_84 hP
def fX4_reset (Y : LY) (S : HS) (l0 : Option Nat) (l1 : Int32) (l2 : Option Nat) (l3 : Option Nat) : Option (HS) :=
  (pI Y 4 404 l0 l1 S).bind fun S2 =>
  (pI Y 4 405 l0 0 S2).bind fun S7 =>
  if l2 = none then
    fX4_reset_25 Y S7 l0 l2 l3 l0 1
  else
    (gI Y 4 406 l2 S7).bind fun v20 =>
    fX4_reset_25 Y S7 l0 l2 l3 l0 (v20 + 1)
set_option maxRecDepth 100000 in
set_option maxHeartbeats 4000000 in
theorem mX4_reset (l : Launch) {G : GG} {Y : LY} {S : HS} {l0 : Option Nat} {l1 : Int32} {l2 : Option Nat} {l3 : Option Nat} {res : HS} (hf : fX4_reset Y S l0 l1 l2 l3 = some res) : MM l yX4_reset cX4_reset 4 none 1 20 G Y S [va_rf l0, .int l1, va_rf l2, va_rf l3] res none := by
  refine mm_of2 (plainFor_of_name (by decide +kernel)) (Nat.le_of_ble_eq_true rfl) (c1c (cr _) (c1c (ci _) (c1c (cr _) (c1c (cr _) c1n)))) ?_
  intro p e R s m args below meth c X H locs ls hP hl
  have X : Cx p R s m args meth c RX4 cX4_reset 4 1 20 (fun q => q ∈ Y.1) G none := X
  have hx := X.1.1
  have hb := X.1.2.1
  have hl : LV ls 4 [(0, va_rf l0), (1, .int l1), (2, va_rf l2), (3, va_rf l3)] := hl
  unfold fX4_reset at hf
  refine rw_aload_n X dX4_reset_0 rfl (hl.at 0 rfl) ?_
  refine lv_iload_n hx hb dX4_reset_1 rfl (hl.at 1 rfl) ?_
  obtain ⟨S2, e2, hf⟩ := ob hf
  refine rw_putI X dX4_reset_2 fl4_28 fw4_4 e2 rfl hP (fun H locs hP => ?_)
  refine rw_aload_n X dX4_reset_5 rfl (hl.at 0 rfl) ?_
  refine lv_iconst (v := 0) hx hb dX4_reset_6 (by decide) ?_
  obtain ⟨S7, e7, hf⟩ := ob hf
  refine rw_putI X dX4_reset_7 fl4_32 fw4_5 e7 rfl hP (fun H locs hP => ?_)
  refine rw_aload_n X dX4_reset_10 rfl (hl.at 0 rfl) ?_
  refine rw_aload_n X dX4_reset_11 rfl (hl.at 2 rfl) ?_
  refine rw_ifnonnull X (tgt := 19) dX4_reset_12 (by decide) (fun c12 => ?_) (fun c12 => ?_)
  · have hf := ifn hf c12
    refine rw_aload_n X dX4_reset_19 rfl (hl.at 2 rfl) ?_
    obtain ⟨v20, e20, hf⟩ := ob hf
    refine rw_getI X dX4_reset_20 fl4_35 e20 rfl hP ?_
    refine lv_iconst (v := 1) hx hb dX4_reset_23 (by decide) ?_
    refine lv_iadd hx hb dX4_reset_24 ?_
    exact wX4_reset_25 X S7 l0 l2 l3 l0 (v20 + 1) hf _ _ _ hP (hl.sub [0, 2, 3] rfl)
  · have hf := ifp hf c12
    refine lv_iconst (v := 1) hx hb dX4_reset_15 (by decide) ?_
    refine lv_goto (tgt := 25) hx hb dX4_reset_16 (by decide) ?_
    exact wX4_reset_25 X S7 l0 l2 l3 l0 1 hf _ _ _ hP (hl.sub [0, 2, 3] rfl)
theorem dX4_adopt_0 : decode cX4_adopt 0 = .ok (.aload_n 0, 1) := by decide +kernel
theorem dX4_adopt_1 : decode cX4_adopt 1 = .ok (.getfield 51, 3) := by decide +kernel
theorem dX4_adopt_4 : decode cX4_adopt 4 = .ok (.ifnonnull 11, 3) := by decide +kernel
theorem dX4_adopt_7 : decode cX4_adopt 7 = .ok (.aload_n 0, 1) := by decide +kernel
theorem dX4_adopt_8 : decode cX4_adopt 8 = .ok (.aload_n 1, 1) := by decide +kernel
theorem dX4_adopt_9 : decode cX4_adopt 9 = .ok (.putfield 48, 3) := by decide +kernel
theorem dX4_adopt_12 : decode cX4_adopt 12 = .ok (.goto 11, 3) := by decide +kernel
theorem dX4_adopt_15 : decode cX4_adopt 15 = .ok (.aload_n 0, 1) := by decide +kernel
theorem dX4_adopt_16 : decode cX4_adopt 16 = .ok (.getfield 51, 3) := by decide +kernel
theorem dX4_adopt_19 : decode cX4_adopt 19 = .ok (.aload_n 1, 1) := by decide +kernel
theorem dX4_adopt_20 : decode cX4_adopt 20 = .ok (.putfield 54, 3) := by decide +kernel
theorem dX4_adopt_23 : decode cX4_adopt 23 = .ok (.aload_n 0, 1) := by decide +kernel
theorem dX4_adopt_24 : decode cX4_adopt 24 = .ok (.aload_n 1, 1) := by decide +kernel
theorem dX4_adopt_25 : decode cX4_adopt 25 = .ok (.putfield 51, 3) := by decide +kernel
theorem dX4_adopt_28 : decode cX4_adopt 28 = .ok (.aload_n 0, 1) := by decide +kernel
theorem dX4_adopt_29 : decode cX4_adopt 29 = .ok (.dup, 1) := by decide +kernel
theorem dX4_adopt_30 : decode cX4_adopt 30 = .ok (.getfield 38, 3) := by decide +kernel
theorem dX4_adopt_33 : decode cX4_adopt 33 = .ok (.iconst 1, 1) := by decide +kernel
theorem dX4_adopt_34 : decode cX4_adopt 34 = .ok (.iadd, 1) := by decide +kernel
theorem dX4_adopt_35 : decode cX4_adopt 35 = .ok (.putfield 38, 3) := by decide +kernel
theorem dX4_adopt_38 : decode cX4_adopt 38 = .ok (.aload_n 0, 1) := by decide +kernel
theorem dX4_adopt_39 : decode cX4_adopt 39 = .ok (.astore_n 2, 1) := by decide +kernel
theorem dX4_adopt_40 : decode cX4_adopt 40 = .ok (.aload_n 2, 1) := by decide +kernel
theorem dX4_adopt_41 : decode cX4_adopt 41 = .ok (.ifnull 16, 3) := by decide +kernel
theorem dX4_adopt_44 : decode cX4_adopt 44 = .ok (.aload_n 2, 1) := by decide +kernel
theorem dX4_adopt_45 : decode cX4_adopt 45 = .ok (.aload_n 1, 1) := by decide +kernel
theorem dX4_adopt_46 : decode cX4_adopt 46 = .ok (.putfield 57, 3) := by decide +kernel
theorem dX4_adopt_49 : decode cX4_adopt 49 = .ok (.aload_n 2, 1) := by decide +kernel
theorem dX4_adopt_50 : decode cX4_adopt 50 = .ok (.getfield 45, 3) := by decide +kernel
theorem dX4_adopt_53 : decode cX4_adopt 53 = .ok (.astore_n 2, 1) := by decide +kernel
theorem dX4_adopt_54 : decode cX4_adopt 54 = .ok (.goto (-14), 3) := by decide +kernel
theorem dX4_adopt_57 : decode cX4_adopt 57 = .ok (.return_, 1) := by decide +kernel
theorem pyX4_adopt : PY yX4_adopt 1 := ⟨by decide +kernel, by decide +kernel, by decide +kernel⟩
def fX4_adopt_40 (Y : LY) : Nat → HS → Option Nat → Option Nat → Option (HS)
  | 0, _, _, _ => none
  | n + 1, S, l1, l2 =>
    if l2 = none then
      some S
    else
      (pR Y 4 413 l2 l1 S).bind fun S46 =>
      (gR Y 4 409 l2 S46).bind fun v50 =>
      fX4_adopt_40 Y n S46 l1 v50
set_option maxRecDepth 100000 in
set_option maxHeartbeats 4000000 in
theorem wX4_adopt_40 {p : Program} {l : Launch} {e : Env} {R : Room} {s : State} {m : MethodId} {args : Array Value} {below : List Frame} {meth : Method} {c : Code} {G : GG} {Y : LY} {res : HS} (X : Cx p R s m args meth c RX4 cX4_adopt 3 0 0 (fun q => q ∈ Y.1) G none) : ∀ (n : Nat) (S : HS) (l1 : Option Nat) (l2 : Option Nat), fX4_adopt_40 Y n S l1 l2 = some res → ∀ (H : Heap) (locs : List Loc) (ls : Array Slot), HP (fun q => q ∈ Y.1) G Y s S H locs → LV ls 3 [(1, va_rf l1), (2, va_rf l2)] → W p l e R s m args below meth c H locs 0 0 (MQ below (QI G Y res none) args s 0 0 (fun q => q ∈ Y.1)) (F0 m 40 ls []) := by
  have hx := X.1.1
  have hb := X.1.2.1
  intro n
  induction n with
  | zero =>
    intro S l1 l2 hf
    cases hf
  | succ n ih =>
    intro S l1 l2 hf H locs ls hP hl
    rw [fX4_adopt_40] at hf
    refine rw_aload_n X dX4_adopt_40 rfl (hl.at 1 rfl) ?_
    refine rw_ifnull X (tgt := 57) dX4_adopt_41 (by decide) (fun c41 => ?_) (fun c41 => ?_)
    · have hf := ifp hf c41
      cases hf
      exact rw_vret X dX4_adopt_57 hP
    · have hf := ifn hf c41
      refine rw_aload_n X dX4_adopt_44 rfl (hl.at 1 rfl) ?_
      refine rw_aload_n X dX4_adopt_45 rfl (hl.at 0 rfl) ?_
      obtain ⟨S46, e46, hf⟩ := ob hf
      refine rw_putR X dX4_adopt_46 fl4_57 fw4_13 e46 rfl hP (fun H locs hP => ?_)
      refine rw_aload_n X dX4_adopt_49 rfl (hl.at 1 rfl) ?_
      obtain ⟨v50, e50, hf⟩ := ob hf
      refine rw_getR X dX4_adopt_50 fl4_45 e50 rfl hP ?_
      refine rv_astore_n X dX4_adopt_53 rfl hl (by decide) rfl (fun ls hl => ?_)
      have hl : LV ls 3 [(2, va_rf v50), (1, va_rf l1)] := hl
      refine lv_goto (tgt := 40) hx hb dX4_adopt_54 (by decide) ?_
      exact ih S46 l1 v50 hf _ _ _ hP (hl.sub [1, 0] rfl)
def fX4_adopt_23 (Y : LY) (S : HS) (l0 : Option Nat) (l1 : Option Nat) : Option (HS) :=
  (pR Y 4 411 l0 l1 S).bind fun S25 =>
  (gI Y 4 407 l0 S25).bind fun v30 =>
  (pI Y 4 407 l0 (v30 + 1) S25).bind fun S35 =>
  fX4_adopt_40 Y FU S35 l1 l0
set_option maxRecDepth 100000 in
set_option maxHeartbeats 4000000 in
theorem wX4_adopt_23 {p : Program} {l : Launch} {e : Env} {R : Room} {s : State} {m : MethodId} {args : Array Value} {below : List Frame} {meth : Method} {c : Code} {G : GG} {Y : LY} {res : HS} (X : Cx p R s m args meth c RX4 cX4_adopt 3 0 0 (fun q => q ∈ Y.1) G none) : ∀ (S : HS) (l0 : Option Nat) (l1 : Option Nat), fX4_adopt_23 Y S l0 l1 = some res → ∀ (H : Heap) (locs : List Loc) (ls : Array Slot), HP (fun q => q ∈ Y.1) G Y s S H locs → LV ls 3 [(0, va_rf l0), (1, va_rf l1)] → W p l e R s m args below meth c H locs 0 0 (MQ below (QI G Y res none) args s 0 0 (fun q => q ∈ Y.1)) (F0 m 23 ls []) := by
  have hx := X.1.1
  have hb := X.1.2.1
  intro S l0 l1 hf H locs ls hP hl
  unfold fX4_adopt_23 at hf
  refine rw_aload_n X dX4_adopt_23 rfl (hl.at 0 rfl) ?_
  refine rw_aload_n X dX4_adopt_24 rfl (hl.at 1 rfl) ?_
  obtain ⟨S25, e25, hf⟩ := ob hf
  refine rw_putR X dX4_adopt_25 fl4_51 fw4_11 e25 rfl hP (fun H locs hP => ?_)
  refine rw_aload_n X dX4_adopt_28 rfl (hl.at 0 rfl) ?_
  refine lv_dup hx hb dX4_adopt_29 (cr _) ?_
  obtain ⟨v30, e30, hf⟩ := ob hf
  refine rw_getI X dX4_adopt_30 fl4_38 e30 rfl hP ?_
  refine lv_iconst (v := 1) hx hb dX4_adopt_33 (by decide) ?_
  refine lv_iadd hx hb dX4_adopt_34 ?_
  obtain ⟨S35, e35, hf⟩ := ob hf
  refine rw_putI X dX4_adopt_35 fl4_38 fw4_7 e35 rfl hP (fun H locs hP => ?_)
  refine rw_aload_n X dX4_adopt_38 rfl (hl.at 0 rfl) ?_
  refine rv_astore_n X dX4_adopt_39 rfl hl (by decide) rfl (fun ls hl => ?_)
  have hl : LV ls 3 [(2, va_rf l0), (0, va_rf l0), (1, va_rf l1)] := hl
  exact wX4_adopt_40 X FU S35 l1 l0 hf _ _ _ hP (hl.sub [2, 0] rfl)
def fX4_adopt (Y : LY) (S : HS) (l0 : Option Nat) (l1 : Option Nat) : Option (HS) :=
  (gR Y 4 411 l0 S).bind fun v1 =>
  if v1 = none then
    (pR Y 4 410 l0 l1 S).bind fun S9 =>
    fX4_adopt_23 Y S9 l0 l1
  else
    (gR Y 4 411 l0 S).bind fun v16 =>
    (pR Y 4 412 v16 l1 S).bind fun S20 =>
    fX4_adopt_23 Y S20 l0 l1
set_option maxRecDepth 100000 in
set_option maxHeartbeats 4000000 in
theorem mX4_adopt (l : Launch) {G : GG} {Y : LY} {S : HS} {l0 : Option Nat} {l1 : Option Nat} {res : HS} (hf : fX4_adopt Y S l0 l1 = some res) : MM l yX4_adopt cX4_adopt 3 none 0 0 G Y S [va_rf l0, va_rf l1] res none := by
  refine mm_of2 (plainFor_of_name (by decide +kernel)) (Nat.le_of_ble_eq_true rfl) (c1c (cr _) (c1c (cr _) c1n)) ?_
  intro p e R s m args below meth c X H locs ls hP hl
  have X : Cx p R s m args meth c RX4 cX4_adopt 3 0 0 (fun q => q ∈ Y.1) G none := X
  have hx := X.1.1
  have hb := X.1.2.1
  have hl : LV ls 3 [(0, va_rf l0), (1, va_rf l1)] := hl
  unfold fX4_adopt at hf
  refine rw_aload_n X dX4_adopt_0 rfl (hl.at 0 rfl) ?_
  obtain ⟨v1, e1, hf⟩ := ob hf
  refine rw_getR X dX4_adopt_1 fl4_51 e1 rfl hP ?_
  refine rw_ifnonnull X (tgt := 15) dX4_adopt_4 (by decide) (fun c4 => ?_) (fun c4 => ?_)
  · have hf := ifn hf c4
    refine rw_aload_n X dX4_adopt_15 rfl (hl.at 0 rfl) ?_
    obtain ⟨v16, e16, hf⟩ := ob hf
    refine rw_getR X dX4_adopt_16 fl4_51 e16 rfl hP ?_
    refine rw_aload_n X dX4_adopt_19 rfl (hl.at 1 rfl) ?_
    obtain ⟨S20, e20, hf⟩ := ob hf
    refine rw_putR X dX4_adopt_20 fl4_54 fw4_12 e20 rfl hP (fun H locs hP => ?_)
    exact wX4_adopt_23 X S20 l0 l1 hf _ _ _ hP (hl.sub [0, 1] rfl)
  · have hf := ifp hf c4
    refine rw_aload_n X dX4_adopt_7 rfl (hl.at 0 rfl) ?_
    refine rw_aload_n X dX4_adopt_8 rfl (hl.at 1 rfl) ?_
    obtain ⟨S9, e9, hf⟩ := ob hf
    refine rw_putR X dX4_adopt_9 fl4_48 fw4_10 e9 rfl hP (fun H locs hP => ?_)
    refine lv_goto (tgt := 23) hx hb dX4_adopt_12 (by decide) ?_
    exact wX4_adopt_23 X S9 l0 l1 hf _ _ _ hP (hl.sub [0, 1] rfl)
theorem dX4_hasList_0 : decode cX4_hasList 0 = .ok (.aload_n 0, 1) := by decide +kernel
theorem dX4_hasList_1 : decode cX4_hasList 1 = .ok (.getfield 28, 3) := by decide +kernel
theorem dX4_hasList_4 : decode cX4_hasList 4 = .ok (.iconst 4, 1) := by decide +kernel
theorem dX4_hasList_5 : decode cX4_hasList 5 = .ok (.if_icmp .lt 16, 3) := by decide +kernel
theorem dX4_hasList_8 : decode cX4_hasList 8 = .ok (.aload_n 0, 1) := by decide +kernel
theorem dX4_hasList_9 : decode cX4_hasList 9 = .ok (.getfield 28, 3) := by decide +kernel
theorem dX4_hasList_12 : decode cX4_hasList 12 = .ok (.bipush 8, 2) := by decide +kernel
theorem dX4_hasList_14 : decode cX4_hasList 14 = .ok (.if_icmp .gt 7, 3) := by decide +kernel
theorem dX4_hasList_17 : decode cX4_hasList 17 = .ok (.iconst 1, 1) := by decide +kernel
theorem dX4_hasList_18 : decode cX4_hasList 18 = .ok (.goto 4, 3) := by decide +kernel
theorem dX4_hasList_21 : decode cX4_hasList 21 = .ok (.iconst 0, 1) := by decide +kernel
theorem dX4_hasList_22 : decode cX4_hasList 22 = .ok (.ireturn, 1) := by decide +kernel
theorem pyX4_hasList : PY yX4_hasList 0 := ⟨by decide +kernel, by decide +kernel, by decide +kernel⟩
def fX4_hasList (Y : LY) (S : HS) (l0 : Option Nat) : Option (Int32) :=
  (gI Y 4 404 l0 S).bind fun v1 =>
  if v1 < 4 then
    some 0
  else
    (gI Y 4 404 l0 S).bind fun v9 =>
    if 8 < v9 then
      some 0
    else
      some 1
set_option maxRecDepth 100000 in
set_option maxHeartbeats 4000000 in
theorem mX4_hasList (l : Launch) {G : GG} {Y : LY} {S : HS} {l0 : Option Nat} {res : Int32} (hf : fX4_hasList Y S l0 = some res) : MM l yX4_hasList cX4_hasList 1 (some .boolean) 0 0 G Y S [va_rf l0] S (some (.int res)) := by
  refine mm_of2 (plainFor_of_name (by decide +kernel)) (Nat.le_of_ble_eq_true rfl) (c1c (cr _) c1n) ?_
  intro p e R s m args below meth c X H locs ls hP hl
  have X : Cx p R s m args meth c RX4 cX4_hasList 1 0 0 (fun q => q ∈ Y.1) G (some .boolean) := X
  have hx := X.1.1
  have hb := X.1.2.1
  have hl : LV ls 1 [(0, va_rf l0)] := hl
  unfold fX4_hasList at hf
  refine rw_aload_n X dX4_hasList_0 rfl (hl.at 0 rfl) ?_
  obtain ⟨v1, e1, hf⟩ := ob hf
  refine rw_getI X dX4_hasList_1 fl4_28 e1 rfl hP ?_
  refine lv_iconst (v := 4) hx hb dX4_hasList_4 (by decide) ?_
  refine lv_icmp_lt hx hb (tgt := 21) dX4_hasList_5 (by decide) (fun c5 => ?_) (fun c5 => ?_)
  · have hf := ifp hf c5
    refine lv_iconst (v := 0) hx hb dX4_hasList_21 (by decide) ?_
    cases hf
    exact rw_zret X (by decide) dX4_hasList_22 hP
  · have hf := ifn hf c5
    refine rw_aload_n X dX4_hasList_8 rfl (hl.at 0 rfl) ?_
    obtain ⟨v9, e9, hf⟩ := ob hf
    refine rw_getI X dX4_hasList_9 fl4_28 e9 rfl hP ?_
    refine lv_bipush (v := 8) hx hb dX4_hasList_12 (by decide) ?_
    refine lv_icmp_gt hx hb (tgt := 21) dX4_hasList_14 (by decide) (fun c14 => ?_) (fun c14 => ?_)
    · have hf := ifp hf c14
      refine lv_iconst (v := 0) hx hb dX4_hasList_21 (by decide) ?_
      cases hf
      exact rw_zret X (by decide) dX4_hasList_22 hP
    · have hf := ifn hf c14
      refine lv_iconst (v := 1) hx hb dX4_hasList_17 (by decide) ?_
      refine lv_goto (tgt := 22) hx hb dX4_hasList_18 (by decide) ?_
      cases hf
      exact rw_zret X (by decide) dX4_hasList_22 hP
theorem dX4_isReactive_0 : decode cX4_isReactive 0 = .ok (.aload_n 0, 1) := by decide +kernel
theorem dX4_isReactive_1 : decode cX4_isReactive 1 = .ok (.getfield 28, 3) := by decide +kernel
theorem dX4_isReactive_4 : decode cX4_isReactive 4 = .ok (.bipush 6, 2) := by decide +kernel
theorem dX4_isReactive_6 : decode cX4_isReactive 6 = .ok (.if_icmp .eq 12, 3) := by decide +kernel
theorem dX4_isReactive_9 : decode cX4_isReactive 9 = .ok (.aload_n 0, 1) := by decide +kernel
theorem dX4_isReactive_10 : decode cX4_isReactive 10 = .ok (.getfield 28, 3) := by decide +kernel
theorem dX4_isReactive_13 : decode cX4_isReactive 13 = .ok (.bipush 7, 2) := by decide +kernel
theorem dX4_isReactive_15 : decode cX4_isReactive 15 = .ok (.if_icmp .ne 7, 3) := by decide +kernel
theorem dX4_isReactive_18 : decode cX4_isReactive 18 = .ok (.iconst 1, 1) := by decide +kernel
theorem dX4_isReactive_19 : decode cX4_isReactive 19 = .ok (.goto 4, 3) := by decide +kernel
theorem dX4_isReactive_22 : decode cX4_isReactive 22 = .ok (.iconst 0, 1) := by decide +kernel
theorem dX4_isReactive_23 : decode cX4_isReactive 23 = .ok (.ireturn, 1) := by decide +kernel
theorem pyX4_isReactive : PY yX4_isReactive 0 := ⟨by decide +kernel, by decide +kernel, by decide +kernel⟩
def fX4_isReactive (Y : LY) (S : HS) (l0 : Option Nat) : Option (Int32) :=
  (gI Y 4 404 l0 S).bind fun v1 =>
  if v1 = 6 then
    some 1
  else
    (gI Y 4 404 l0 S).bind fun v10 =>
    if v10 = 7 then
      some 1
    else
      some 0
set_option maxRecDepth 100000 in
set_option maxHeartbeats 4000000 in
theorem mX4_isReactive (l : Launch) {G : GG} {Y : LY} {S : HS} {l0 : Option Nat} {res : Int32} (hf : fX4_isReactive Y S l0 = some res) : MM l yX4_isReactive cX4_isReactive 1 (some .boolean) 0 0 G Y S [va_rf l0] S (some (.int res)) := by
  refine mm_of2 (plainFor_of_name (by decide +kernel)) (Nat.le_of_ble_eq_true rfl) (c1c (cr _) c1n) ?_
  intro p e R s m args below meth c X H locs ls hP hl
  have X : Cx p R s m args meth c RX4 cX4_isReactive 1 0 0 (fun q => q ∈ Y.1) G (some .boolean) := X
  have hx := X.1.1
  have hb := X.1.2.1
  have hl : LV ls 1 [(0, va_rf l0)] := hl
  unfold fX4_isReactive at hf
  refine rw_aload_n X dX4_isReactive_0 rfl (hl.at 0 rfl) ?_
  obtain ⟨v1, e1, hf⟩ := ob hf
  refine rw_getI X dX4_isReactive_1 fl4_28 e1 rfl hP ?_
  refine lv_bipush (v := 6) hx hb dX4_isReactive_4 (by decide) ?_
  refine lv_icmp_eq hx hb (tgt := 18) dX4_isReactive_6 (by decide) (fun c6 => ?_) (fun c6 => ?_)
  · have hf := ifp hf c6
    refine lv_iconst (v := 1) hx hb dX4_isReactive_18 (by decide) ?_
    refine lv_goto (tgt := 23) hx hb dX4_isReactive_19 (by decide) ?_
    cases hf
    exact rw_zret X (by decide) dX4_isReactive_23 hP
  · have hf := ifn hf c6
    refine rw_aload_n X dX4_isReactive_9 rfl (hl.at 0 rfl) ?_
    obtain ⟨v10, e10, hf⟩ := ob hf
    refine rw_getI X dX4_isReactive_10 fl4_28 e10 rfl hP ?_
    refine lv_bipush (v := 7) hx hb dX4_isReactive_13 (by decide) ?_
    refine lv_icmp_ne hx hb (tgt := 22) dX4_isReactive_15 (by decide) (fun c15 => ?_) (fun c15 => ?_)
    · have hf := ifn hf c15
      refine lv_iconst (v := 0) hx hb dX4_isReactive_22 (by decide) ?_
      cases hf
      exact rw_zret X (by decide) dX4_isReactive_23 hP
    · have hf := ifp hf c15
      refine lv_iconst (v := 1) hx hb dX4_isReactive_18 (by decide) ?_
      refine lv_goto (tgt := 23) hx hb dX4_isReactive_19 (by decide) ?_
      cases hf
      exact rw_zret X (by decide) dX4_isReactive_23 hP
theorem dX4_scopeOf_0 : decode cX4_scopeOf 0 = .ok (.aload_n 0, 1) := by decide +kernel
theorem dX4_scopeOf_1 : decode cX4_scopeOf 1 = .ok (.getfield 45, 3) := by decide +kernel
theorem dX4_scopeOf_4 : decode cX4_scopeOf 4 = .ok (.astore_n 2, 1) := by decide +kernel
theorem dX4_scopeOf_5 : decode cX4_scopeOf 5 = .ok (.aload_n 2, 1) := by decide +kernel
theorem dX4_scopeOf_6 : decode cX4_scopeOf 6 = .ok (.ifnull 30, 3) := by decide +kernel
theorem dX4_scopeOf_9 : decode cX4_scopeOf 9 = .ok (.aload_n 2, 1) := by decide +kernel
theorem dX4_scopeOf_10 : decode cX4_scopeOf 10 = .ok (.getfield 28, 3) := by decide +kernel
theorem dX4_scopeOf_13 : decode cX4_scopeOf 13 = .ok (.bipush 14, 2) := by decide +kernel
theorem dX4_scopeOf_15 : decode cX4_scopeOf 15 = .ok (.if_icmp .ne 13, 3) := by decide +kernel
theorem dX4_scopeOf_18 : decode cX4_scopeOf 18 = .ok (.aload_n 2, 1) := by decide +kernel
theorem dX4_scopeOf_19 : decode cX4_scopeOf 19 = .ok (.getfield 32, 3) := by decide +kernel
theorem dX4_scopeOf_22 : decode cX4_scopeOf 22 = .ok (.iload_n 1, 1) := by decide +kernel
theorem dX4_scopeOf_23 : decode cX4_scopeOf 23 = .ok (.if_icmp .ne 5, 3) := by decide +kernel
theorem dX4_scopeOf_26 : decode cX4_scopeOf 26 = .ok (.aload_n 2, 1) := by decide +kernel
theorem dX4_scopeOf_27 : decode cX4_scopeOf 27 = .ok (.areturn, 1) := by decide +kernel
theorem dX4_scopeOf_28 : decode cX4_scopeOf 28 = .ok (.aload_n 2, 1) := by decide +kernel
theorem dX4_scopeOf_29 : decode cX4_scopeOf 29 = .ok (.getfield 45, 3) := by decide +kernel
theorem dX4_scopeOf_32 : decode cX4_scopeOf 32 = .ok (.astore_n 2, 1) := by decide +kernel
theorem dX4_scopeOf_33 : decode cX4_scopeOf 33 = .ok (.goto (-28), 3) := by decide +kernel
theorem dX4_scopeOf_36 : decode cX4_scopeOf 36 = .ok (.aconst_null, 1) := by decide +kernel
theorem dX4_scopeOf_37 : decode cX4_scopeOf 37 = .ok (.areturn, 1) := by decide +kernel
theorem pyX4_scopeOf : PY yX4_scopeOf 1 := ⟨by decide +kernel, by decide +kernel, by decide +kernel⟩
def fX4_scopeOf_5 (Y : LY) (S : HS) : Nat → Int32 → Option Nat → Option (Option Nat)
  | 0, _, _ => none
  | n + 1, l1, l2 =>
    if l2 = none then
      some none
    else
      (gI Y 4 404 l2 S).bind fun v10 =>
      if v10 = 14 then
        (gI Y 4 405 l2 S).bind fun v19 =>
        if v19 = l1 then
          some l2
        else
          (gR Y 4 409 l2 S).bind fun v29 =>
          fX4_scopeOf_5 Y S n l1 v29
      else
        (gR Y 4 409 l2 S).bind fun v29 =>
        fX4_scopeOf_5 Y S n l1 v29
set_option maxRecDepth 100000 in
set_option maxHeartbeats 4000000 in
theorem wX4_scopeOf_5 {p : Program} {l : Launch} {e : Env} {R : Room} {s : State} {m : MethodId} {args : Array Value} {below : List Frame} {meth : Method} {c : Code} {G : GG} {Y : LY} {S : HS} {res : Option Nat} (X : Cx p R s m args meth c RX4 cX4_scopeOf 3 0 0 (fun q => q ∈ Y.1) G (some (.object "BehaviorRunner$Node"))) : ∀ (n : Nat) (l1 : Int32) (l2 : Option Nat), fX4_scopeOf_5 Y S n l1 l2 = some res → ∀ (H : Heap) (locs : List Loc) (ls : Array Slot), HP (fun q => q ∈ Y.1) G Y s S H locs → LV ls 3 [(1, .int l1), (2, va_rf l2)] → W p l e R s m args below meth c H locs 0 0 (MQ below (QI G Y S (some (va_rf res))) args s 0 0 (fun q => q ∈ Y.1)) (F0 m 5 ls []) := by
  have hx := X.1.1
  have hb := X.1.2.1
  intro n
  induction n with
  | zero =>
    intro l1 l2 hf
    cases hf
  | succ n ih =>
    intro l1 l2 hf H locs ls hP hl
    rw [fX4_scopeOf_5] at hf
    refine rw_aload_n X dX4_scopeOf_5 rfl (hl.at 1 rfl) ?_
    refine rw_ifnull X (tgt := 36) dX4_scopeOf_6 (by decide) (fun c6 => ?_) (fun c6 => ?_)
    · have hf := ifp hf c6
      refine lv_null hx hb dX4_scopeOf_36 ?_
      refine W.eq (g2 := F0 m 37 ls (va_rf none :: [])) rfl ?_
      cases hf
      exact rw_aret X dX4_scopeOf_37 hP
    · have hf := ifn hf c6
      refine rw_aload_n X dX4_scopeOf_9 rfl (hl.at 1 rfl) ?_
      obtain ⟨v10, e10, hf⟩ := ob hf
      refine rw_getI X dX4_scopeOf_10 fl4_28 e10 rfl hP ?_
      refine lv_bipush (v := 14) hx hb dX4_scopeOf_13 (by decide) ?_
      refine lv_icmp_ne hx hb (tgt := 28) dX4_scopeOf_15 (by decide) (fun c15 => ?_) (fun c15 => ?_)
      · have hf := ifn hf c15
        refine rw_aload_n X dX4_scopeOf_28 rfl (hl.at 1 rfl) ?_
        obtain ⟨v29, e29, hf⟩ := ob hf
        refine rw_getR X dX4_scopeOf_29 fl4_45 e29 rfl hP ?_
        refine rv_astore_n X dX4_scopeOf_32 rfl hl (by decide) rfl (fun ls hl => ?_)
        have hl : LV ls 3 [(2, va_rf v29), (1, .int l1)] := hl
        refine lv_goto (tgt := 5) hx hb dX4_scopeOf_33 (by decide) ?_
        exact ih l1 v29 hf _ _ _ hP (hl.sub [1, 0] rfl)
      · have hf := ifp hf c15
        refine rw_aload_n X dX4_scopeOf_18 rfl (hl.at 1 rfl) ?_
        obtain ⟨v19, e19, hf⟩ := ob hf
        refine rw_getI X dX4_scopeOf_19 fl4_32 e19 rfl hP ?_
        refine lv_iload_n hx hb dX4_scopeOf_22 rfl (hl.at 0 rfl) ?_
        refine lv_icmp_ne hx hb (tgt := 28) dX4_scopeOf_23 (by decide) (fun c23 => ?_) (fun c23 => ?_)
        · have hf := ifn hf c23
          refine rw_aload_n X dX4_scopeOf_28 rfl (hl.at 1 rfl) ?_
          obtain ⟨v29, e29, hf⟩ := ob hf
          refine rw_getR X dX4_scopeOf_29 fl4_45 e29 rfl hP ?_
          refine rv_astore_n X dX4_scopeOf_32 rfl hl (by decide) rfl (fun ls hl => ?_)
          have hl : LV ls 3 [(2, va_rf v29), (1, .int l1)] := hl
          refine lv_goto (tgt := 5) hx hb dX4_scopeOf_33 (by decide) ?_
          exact ih l1 v29 hf _ _ _ hP (hl.sub [1, 0] rfl)
        · have hf := ifp hf c23
          refine rw_aload_n X dX4_scopeOf_26 rfl (hl.at 1 rfl) ?_
          cases hf
          exact rw_aret X dX4_scopeOf_27 hP
def fX4_scopeOf (Y : LY) (S : HS) (l0 : Option Nat) (l1 : Int32) : Option (Option Nat) :=
  (gR Y 4 409 l0 S).bind fun v1 =>
  fX4_scopeOf_5 Y S FU l1 v1
set_option maxRecDepth 100000 in
set_option maxHeartbeats 4000000 in
theorem mX4_scopeOf (l : Launch) {G : GG} {Y : LY} {S : HS} {l0 : Option Nat} {l1 : Int32} {res : Option Nat} (hf : fX4_scopeOf Y S l0 l1 = some res) : MM l yX4_scopeOf cX4_scopeOf 3 (some (.object "BehaviorRunner$Node")) 0 0 G Y S [va_rf l0, .int l1] S (some (va_rf res)) := by
  refine mm_of2 (plainFor_of_name (by decide +kernel)) (Nat.le_of_ble_eq_true rfl) (c1c (cr _) (c1c (ci _) c1n)) ?_
  intro p e R s m args below meth c X H locs ls hP hl
  have X : Cx p R s m args meth c RX4 cX4_scopeOf 3 0 0 (fun q => q ∈ Y.1) G (some (.object "BehaviorRunner$Node")) := X
  have hx := X.1.1
  have hb := X.1.2.1
  have hl : LV ls 3 [(0, va_rf l0), (1, .int l1)] := hl
  unfold fX4_scopeOf at hf
  refine rw_aload_n X dX4_scopeOf_0 rfl (hl.at 0 rfl) ?_
  obtain ⟨v1, e1, hf⟩ := ob hf
  refine rw_getR X dX4_scopeOf_1 fl4_45 e1 rfl hP ?_
  refine rv_astore_n X dX4_scopeOf_4 rfl hl (by decide) rfl (fun ls hl => ?_)
  have hl : LV ls 3 [(2, va_rf v1), (0, va_rf l0), (1, .int l1)] := hl
  exact wX4_scopeOf_5 X FU l1 v1 hf _ _ _ hP (hl.sub [2, 0] rfl)
theorem dX0_copyFrom_0 : decode cX0_copyFrom 0 = .ok (.aload_n 1, 1) := by decide +kernel
theorem dX0_copyFrom_1 : decode cX0_copyFrom 1 = .ok (.getfield 9, 3) := by decide +kernel
theorem dX0_copyFrom_4 : decode cX0_copyFrom 4 = .ok (.iconst 0, 1) := by decide +kernel
theorem dX0_copyFrom_5 : decode cX0_copyFrom 5 = .ok (.aload_n 0, 1) := by decide +kernel
theorem dX0_copyFrom_6 : decode cX0_copyFrom 6 = .ok (.getfield 9, 3) := by decide +kernel
theorem dX0_copyFrom_9 : decode cX0_copyFrom 9 = .ok (.iconst 0, 1) := by decide +kernel
theorem dX0_copyFrom_10 : decode cX0_copyFrom 10 = .ok (.bipush 8, 2) := by decide +kernel
theorem dX0_copyFrom_12 : decode cX0_copyFrom 12 = .ok (.invokestatic 15, 3) := by decide +kernel
theorem dX0_copyFrom_15 : decode cX0_copyFrom 15 = .ok (.return_, 1) := by decide +kernel
theorem pyX0_copyFrom : PY yX0_copyFrom 1 := ⟨by decide +kernel, by decide +kernel, by decide +kernel⟩
def fX0_copyFrom (Y : LY) (S : HS) (l0 : Option Nat) (l1 : Option Nat) : Option (HS) :=
  (gR Y 0 0 l1 S).bind fun v1 =>
  (gR Y 0 0 l0 S).bind fun v6 =>
  (cpA Y v1 0 v6 0 8 S).bind fun S12 =>
  some S12
set_option maxRecDepth 100000 in
set_option maxHeartbeats 4000000 in
theorem mX0_copyFrom (l : Launch) {G : GG} {Y : LY} {S : HS} {l0 : Option Nat} {l1 : Option Nat} {res : HS} (hf : fX0_copyFrom Y S l0 l1 = some res) : MM l yX0_copyFrom cX0_copyFrom 2 none 1 60 G Y S [va_rf l0, va_rf l1] res none := by
  refine mm_of2 (plainFor_of_name (by decide +kernel)) (Nat.le_of_ble_eq_true rfl) (c1c (cr _) (c1c (cr _) c1n)) ?_
  intro p e R s m args below meth c X H locs ls hP hl
  have X : Cx p R s m args meth c RX0 cX0_copyFrom 2 1 60 (fun q => q ∈ Y.1) G none := X
  have hx := X.1.1
  have hb := X.1.2.1
  have hl : LV ls 2 [(0, va_rf l0), (1, va_rf l1)] := hl
  unfold fX0_copyFrom at hf
  refine rw_aload_n X dX0_copyFrom_0 rfl (hl.at 1 rfl) ?_
  obtain ⟨v1, e1, hf⟩ := ob hf
  refine rw_getR X dX0_copyFrom_1 fl0_9 e1 rfl hP ?_
  refine lv_iconst (v := 0) hx hb dX0_copyFrom_4 (by decide) ?_
  refine rw_aload_n X dX0_copyFrom_5 rfl (hl.at 0 rfl) ?_
  obtain ⟨v6, e6, hf⟩ := ob hf
  refine rw_getR X dX0_copyFrom_6 fl0_9 e6 rfl hP ?_
  refine lv_iconst (v := 0) hx hb dX0_copyFrom_9 (by decide) ?_
  refine lv_bipush (v := 8) hx hb dX0_copyFrom_10 (by decide) ?_
  obtain ⟨S12, e12, hf⟩ := ob hf
  refine rv_copy X mlX0_15 e12 (by decide +kernel) hl.1.1 dX0_copyFrom_12 hP (fun H locs hP => ?_)
  cases hf
  exact rw_vret X dX0_copyFrom_15 hP
theorem dX0_valueIn_0 : decode cX0_valueIn 0 = .ok (.aload_n 1, 1) := by decide +kernel
theorem dX0_valueIn_1 : decode cX0_valueIn 1 = .ok (.ifnull 11, 3) := by decide +kernel
theorem dX0_valueIn_4 : decode cX0_valueIn 4 = .ok (.aload_n 1, 1) := by decide +kernel
theorem dX0_valueIn_5 : decode cX0_valueIn 5 = .ok (.getfield 21, 3) := by decide +kernel
theorem dX0_valueIn_8 : decode cX0_valueIn 8 = .ok (.getfield 27, 3) := by decide +kernel
theorem dX0_valueIn_11 : decode cX0_valueIn 11 = .ok (.ireturn, 1) := by decide +kernel
theorem dX0_valueIn_12 : decode cX0_valueIn 12 = .ok (.iload_n 2, 1) := by decide +kernel
theorem dX0_valueIn_13 : decode cX0_valueIn 13 = .ok (.ifCond .lt 12, 3) := by decide +kernel
theorem dX0_valueIn_16 : decode cX0_valueIn 16 = .ok (.iload_n 2, 1) := by decide +kernel
theorem dX0_valueIn_17 : decode cX0_valueIn 17 = .ok (.aload_n 0, 1) := by decide +kernel
theorem dX0_valueIn_18 : decode cX0_valueIn 18 = .ok (.getfield 9, 3) := by decide +kernel
theorem dX0_valueIn_21 : decode cX0_valueIn 21 = .ok (.arraylength, 1) := by decide +kernel
theorem dX0_valueIn_22 : decode cX0_valueIn 22 = .ok (.if_icmp .lt 7, 3) := by decide +kernel
theorem dX0_valueIn_25 : decode cX0_valueIn 25 = .ok (.iconst 0, 1) := by decide +kernel
theorem dX0_valueIn_26 : decode cX0_valueIn 26 = .ok (.goto 9, 3) := by decide +kernel
theorem dX0_valueIn_29 : decode cX0_valueIn 29 = .ok (.aload_n 0, 1) := by decide +kernel
theorem dX0_valueIn_30 : decode cX0_valueIn 30 = .ok (.getfield 9, 3) := by decide +kernel
theorem dX0_valueIn_33 : decode cX0_valueIn 33 = .ok (.iload_n 2, 1) := by decide +kernel
theorem dX0_valueIn_34 : decode cX0_valueIn 34 = .ok (.iaload, 1) := by decide +kernel
theorem dX0_valueIn_35 : decode cX0_valueIn 35 = .ok (.ireturn, 1) := by decide +kernel
theorem pyX0_valueIn : PY yX0_valueIn 2 := ⟨by decide +kernel, by decide +kernel, by decide +kernel⟩
def fX0_valueIn (Y : LY) (S : HS) (l0 : Option Nat) (l1 : Option Nat) (l2 : Int32) : Option (Int32) :=
  if l1 = none then
    if l2 < 0 then
      some 0
    else
      (gR Y 0 0 l0 S).bind fun v18 =>
      (aL Y 14 v18).bind fun v21 =>
      if l2 < v21 then
        (gR Y 0 0 l0 S).bind fun v30 =>
        (gA Y 14 v30 l2 S).bind fun v34 =>
        some v34
      else
        some 0
  else
    (gR Y 4 403 l1 S).bind fun v5 =>
    (gI Y 3 304 v5 S).bind fun v8 =>
    some v8
set_option maxRecDepth 100000 in
set_option maxHeartbeats 4000000 in
theorem mX0_valueIn (l : Launch) {G : GG} {Y : LY} {S : HS} {l0 : Option Nat} {l1 : Option Nat} {l2 : Int32} {res : Int32} (hf : fX0_valueIn Y S l0 l1 l2 = some res) : MM l yX0_valueIn cX0_valueIn 3 (some .int) 0 0 G Y S [va_rf l0, va_rf l1, .int l2] S (some (.int res)) := by
  refine mm_of2 (plainFor_of_name (by decide +kernel)) (Nat.le_of_ble_eq_true rfl) (c1c (cr _) (c1c (cr _) (c1c (ci _) c1n))) ?_
  intro p e R s m args below meth c X H locs ls hP hl
  have X : Cx p R s m args meth c RX0 cX0_valueIn 3 0 0 (fun q => q ∈ Y.1) G (some .int) := X
  have hx := X.1.1
  have hb := X.1.2.1
  have hl : LV ls 3 [(0, va_rf l0), (1, va_rf l1), (2, .int l2)] := hl
  unfold fX0_valueIn at hf
  refine rw_aload_n X dX0_valueIn_0 rfl (hl.at 1 rfl) ?_
  refine rw_ifnull X (tgt := 12) dX0_valueIn_1 (by decide) (fun c1 => ?_) (fun c1 => ?_)
  · have hf := ifp hf c1
    refine lv_iload_n hx hb dX0_valueIn_12 rfl (hl.at 2 rfl) ?_
    refine lv_if_lt hx hb (tgt := 25) dX0_valueIn_13 (by decide) (fun c13 => ?_) (fun c13 => ?_)
    · have hf := ifp hf c13
      refine lv_iconst (v := 0) hx hb dX0_valueIn_25 (by decide) ?_
      refine lv_goto (tgt := 35) hx hb dX0_valueIn_26 (by decide) ?_
      cases hf
      exact rw_iret X dX0_valueIn_35 hP
    · have hf := ifn hf c13
      refine lv_iload_n hx hb dX0_valueIn_16 rfl (hl.at 2 rfl) ?_
      refine rw_aload_n X dX0_valueIn_17 rfl (hl.at 0 rfl) ?_
      obtain ⟨v18, e18, hf⟩ := ob hf
      refine rw_getR X dX0_valueIn_18 fl0_9 e18 rfl hP ?_
      obtain ⟨v21, e21, hf⟩ := ob hf
      refine rw_alen X (by decide) dX0_valueIn_21 e21 hP ?_
      refine lv_icmp_lt hx hb (tgt := 29) dX0_valueIn_22 (by decide) (fun c22 => ?_) (fun c22 => ?_)
      · have hf := ifp hf c22
        refine rw_aload_n X dX0_valueIn_29 rfl (hl.at 0 rfl) ?_
        obtain ⟨v30, e30, hf⟩ := ob hf
        refine rw_getR X dX0_valueIn_30 fl0_9 e30 rfl hP ?_
        refine lv_iload_n hx hb dX0_valueIn_33 rfl (hl.at 2 rfl) ?_
        obtain ⟨v34, e34, hf⟩ := ob hf
        refine rw_iald X dX0_valueIn_34 e34 hP ?_
        cases hf
        exact rw_iret X dX0_valueIn_35 hP
      · have hf := ifn hf c22
        refine lv_iconst (v := 0) hx hb dX0_valueIn_25 (by decide) ?_
        refine lv_goto (tgt := 35) hx hb dX0_valueIn_26 (by decide) ?_
        cases hf
        exact rw_iret X dX0_valueIn_35 hP
  · have hf := ifn hf c1
    refine rw_aload_n X dX0_valueIn_4 rfl (hl.at 1 rfl) ?_
    obtain ⟨v5, e5, hf⟩ := ob hf
    refine rw_getR X dX0_valueIn_5 fl0_21 e5 rfl hP ?_
    obtain ⟨v8, e8, hf⟩ := ob hf
    refine rw_getI X dX0_valueIn_8 fl0_27 e8 rfl hP ?_
    cases hf
    exact rw_iret X dX0_valueIn_11 hP
theorem dX0_put_0 : decode cX0_put 0 = .ok (.aload_n 1, 1) := by decide +kernel
theorem dX0_put_1 : decode cX0_put 1 = .ok (.ifnull 14, 3) := by decide +kernel
theorem dX0_put_4 : decode cX0_put 4 = .ok (.aload_n 1, 1) := by decide +kernel
theorem dX0_put_5 : decode cX0_put 5 = .ok (.getfield 21, 3) := by decide +kernel
theorem dX0_put_8 : decode cX0_put 8 = .ok (.iload_n 3, 1) := by decide +kernel
theorem dX0_put_9 : decode cX0_put 9 = .ok (.putfield 27, 3) := by decide +kernel
theorem dX0_put_12 : decode cX0_put 12 = .ok (.goto 23, 3) := by decide +kernel
theorem dX0_put_15 : decode cX0_put 15 = .ok (.iload_n 2, 1) := by decide +kernel
theorem dX0_put_16 : decode cX0_put 16 = .ok (.ifCond .lt 19, 3) := by decide +kernel
theorem dX0_put_19 : decode cX0_put 19 = .ok (.iload_n 2, 1) := by decide +kernel
theorem dX0_put_20 : decode cX0_put 20 = .ok (.aload_n 0, 1) := by decide +kernel
theorem dX0_put_21 : decode cX0_put 21 = .ok (.getfield 9, 3) := by decide +kernel
theorem dX0_put_24 : decode cX0_put 24 = .ok (.arraylength, 1) := by decide +kernel
theorem dX0_put_25 : decode cX0_put 25 = .ok (.if_icmp .ge 10, 3) := by decide +kernel
theorem dX0_put_28 : decode cX0_put 28 = .ok (.aload_n 0, 1) := by decide +kernel
theorem dX0_put_29 : decode cX0_put 29 = .ok (.getfield 9, 3) := by decide +kernel
theorem dX0_put_32 : decode cX0_put 32 = .ok (.iload_n 2, 1) := by decide +kernel
theorem dX0_put_33 : decode cX0_put 33 = .ok (.iload_n 3, 1) := by decide +kernel
theorem dX0_put_34 : decode cX0_put 34 = .ok (.iastore, 1) := by decide +kernel
theorem dX0_put_35 : decode cX0_put 35 = .ok (.return_, 1) := by decide +kernel
theorem pyX0_put : PY yX0_put 3 := ⟨by decide +kernel, by decide +kernel, by decide +kernel⟩
def fX0_put (Y : LY) (S : HS) (l0 : Option Nat) (l1 : Option Nat) (l2 : Int32) (l3 : Int32) : Option (HS) :=
  if l1 = none then
    if l2 < 0 then
      some S
    else
      (gR Y 0 0 l0 S).bind fun v21 =>
      (aL Y 14 v21).bind fun v24 =>
      if v24 ≤ l2 then
        some S
      else
        (gR Y 0 0 l0 S).bind fun v29 =>
        (pA Y 14 v29 l2 l3 S).bind fun S34 =>
        some S34
  else
    (gR Y 4 403 l1 S).bind fun v5 =>
    (pI Y 3 304 v5 l3 S).bind fun S9 =>
    some S9
set_option maxRecDepth 100000 in
set_option maxHeartbeats 4000000 in
theorem mX0_put (l : Launch) {G : GG} {Y : LY} {S : HS} {l0 : Option Nat} {l1 : Option Nat} {l2 : Int32} {l3 : Int32} {res : HS} (hf : fX0_put Y S l0 l1 l2 l3 = some res) : MM l yX0_put cX0_put 4 none 0 0 G Y S [va_rf l0, va_rf l1, .int l2, .int l3] res none := by
  refine mm_of2 (plainFor_of_name (by decide +kernel)) (Nat.le_of_ble_eq_true rfl) (c1c (cr _) (c1c (cr _) (c1c (ci _) (c1c (ci _) c1n)))) ?_
  intro p e R s m args below meth c X H locs ls hP hl
  have X : Cx p R s m args meth c RX0 cX0_put 4 0 0 (fun q => q ∈ Y.1) G none := X
  have hx := X.1.1
  have hb := X.1.2.1
  have hl : LV ls 4 [(0, va_rf l0), (1, va_rf l1), (2, .int l2), (3, .int l3)] := hl
  unfold fX0_put at hf
  refine rw_aload_n X dX0_put_0 rfl (hl.at 1 rfl) ?_
  refine rw_ifnull X (tgt := 15) dX0_put_1 (by decide) (fun c1 => ?_) (fun c1 => ?_)
  · have hf := ifp hf c1
    refine lv_iload_n hx hb dX0_put_15 rfl (hl.at 2 rfl) ?_
    refine lv_if_lt hx hb (tgt := 35) dX0_put_16 (by decide) (fun c16 => ?_) (fun c16 => ?_)
    · have hf := ifp hf c16
      cases hf
      exact rw_vret X dX0_put_35 hP
    · have hf := ifn hf c16
      refine lv_iload_n hx hb dX0_put_19 rfl (hl.at 2 rfl) ?_
      refine rw_aload_n X dX0_put_20 rfl (hl.at 0 rfl) ?_
      obtain ⟨v21, e21, hf⟩ := ob hf
      refine rw_getR X dX0_put_21 fl0_9 e21 rfl hP ?_
      obtain ⟨v24, e24, hf⟩ := ob hf
      refine rw_alen X (by decide) dX0_put_24 e24 hP ?_
      refine lv_icmp_ge hx hb (tgt := 35) dX0_put_25 (by decide) (fun c25 => ?_) (fun c25 => ?_)
      · have hf := ifp hf c25
        cases hf
        exact rw_vret X dX0_put_35 hP
      · have hf := ifn hf c25
        refine rw_aload_n X dX0_put_28 rfl (hl.at 0 rfl) ?_
        obtain ⟨v29, e29, hf⟩ := ob hf
        refine rw_getR X dX0_put_29 fl0_9 e29 rfl hP ?_
        refine lv_iload_n hx hb dX0_put_32 rfl (hl.at 2 rfl) ?_
        refine lv_iload_n hx hb dX0_put_33 rfl (hl.at 3 rfl) ?_
        obtain ⟨S34, e34, hf⟩ := ob hf
        refine rw_iast X dX0_put_34 e34 hP (fun H locs hP => ?_)
        cases hf
        exact rw_vret X dX0_put_35 hP
  · have hf := ifn hf c1
    refine rw_aload_n X dX0_put_4 rfl (hl.at 1 rfl) ?_
    obtain ⟨v5, e5, hf⟩ := ob hf
    refine rw_getR X dX0_put_5 fl0_21 e5 rfl hP ?_
    refine lv_iload_n hx hb dX0_put_8 rfl (hl.at 3 rfl) ?_
    obtain ⟨S9, e9, hf⟩ := ob hf
    refine rw_putI X dX0_put_9 fl0_27 fw3_4 e9 rfl hP (fun H locs hP => ?_)
    refine lv_goto (tgt := 35) hx hb dX0_put_12 (by decide) ?_
    cases hf
    exact rw_vret X dX0_put_35 hP
theorem dX0_change_0 : decode cX0_change 0 = .ok (.aload_n 0, 1) := by decide +kernel
theorem dX0_change_1 : decode cX0_change 1 = .ok (.aload_n 1, 1) := by decide +kernel
theorem dX0_change_2 : decode cX0_change 2 = .ok (.getfield 33, 3) := by decide +kernel
theorem dX0_change_5 : decode cX0_change 5 = .ok (.aload_n 1, 1) := by decide +kernel
theorem dX0_change_6 : decode cX0_change 6 = .ok (.getfield 39, 3) := by decide +kernel
theorem dX0_change_9 : decode cX0_change 9 = .ok (.invokevirtual 42, 3) := by decide +kernel
theorem dX0_change_12 : decode cX0_change 12 = .ok (.istore_n 2, 1) := by decide +kernel
theorem dX0_change_13 : decode cX0_change 13 = .ok (.aload_n 1, 1) := by decide +kernel
theorem dX0_change_14 : decode cX0_change 14 = .ok (.getfield 46, 3) := by decide +kernel
theorem dX0_change_17 : decode cX0_change 17 = .ok (.lookupswitch 47 #[(43, 27), (45, 37)], 27) := by decide +kernel
theorem dX0_change_44 : decode cX0_change 44 = .ok (.iload_n 2, 1) := by decide +kernel
theorem dX0_change_45 : decode cX0_change 45 = .ok (.aload_n 1, 1) := by decide +kernel
theorem dX0_change_46 : decode cX0_change 46 = .ok (.getfield 50, 3) := by decide +kernel
theorem dX0_change_49 : decode cX0_change 49 = .ok (.iadd, 1) := by decide +kernel
theorem dX0_change_50 : decode cX0_change 50 = .ok (.istore_n 2, 1) := by decide +kernel
theorem dX0_change_51 : decode cX0_change 51 = .ok (.goto 18, 3) := by decide +kernel
theorem dX0_change_54 : decode cX0_change 54 = .ok (.iload_n 2, 1) := by decide +kernel
theorem dX0_change_55 : decode cX0_change 55 = .ok (.aload_n 1, 1) := by decide +kernel
theorem dX0_change_56 : decode cX0_change 56 = .ok (.getfield 50, 3) := by decide +kernel
theorem dX0_change_59 : decode cX0_change 59 = .ok (.isub, 1) := by decide +kernel
theorem dX0_change_60 : decode cX0_change 60 = .ok (.istore_n 2, 1) := by decide +kernel
theorem dX0_change_61 : decode cX0_change 61 = .ok (.goto 8, 3) := by decide +kernel
theorem dX0_change_64 : decode cX0_change 64 = .ok (.aload_n 1, 1) := by decide +kernel
theorem dX0_change_65 : decode cX0_change 65 = .ok (.getfield 50, 3) := by decide +kernel
theorem dX0_change_68 : decode cX0_change 68 = .ok (.istore_n 2, 1) := by decide +kernel
theorem dX0_change_69 : decode cX0_change 69 = .ok (.aload_n 0, 1) := by decide +kernel
theorem dX0_change_70 : decode cX0_change 70 = .ok (.aload_n 1, 1) := by decide +kernel
theorem dX0_change_71 : decode cX0_change 71 = .ok (.getfield 33, 3) := by decide +kernel
theorem dX0_change_74 : decode cX0_change 74 = .ok (.aload_n 1, 1) := by decide +kernel
theorem dX0_change_75 : decode cX0_change 75 = .ok (.getfield 39, 3) := by decide +kernel
theorem dX0_change_78 : decode cX0_change 78 = .ok (.sipush (-999), 3) := by decide +kernel
theorem dX0_change_81 : decode cX0_change 81 = .ok (.sipush 999, 3) := by decide +kernel
theorem dX0_change_84 : decode cX0_change 84 = .ok (.iload_n 2, 1) := by decide +kernel
theorem dX0_change_85 : decode cX0_change 85 = .ok (.invokestatic 53, 3) := by decide +kernel
theorem dX0_change_88 : decode cX0_change 88 = .ok (.invokestatic 59, 3) := by decide +kernel
theorem dX0_change_91 : decode cX0_change 91 = .ok (.invokevirtual 62, 3) := by decide +kernel
theorem dX0_change_94 : decode cX0_change 94 = .ok (.return_, 1) := by decide +kernel
theorem pyX0_change : PY yX0_change 1 := ⟨by decide +kernel, by decide +kernel, by decide +kernel⟩
def fX0_change_69 (Y : LY) (S : HS) (l0 : Option Nat) (l1 : Option Nat) (l2 : Int32) : Option (HS) :=
  (gR Y 1 104 l1 S).bind fun v71 =>
  (gI Y 1 101 l1 S).bind fun v75 =>
  (rcv Y 0 l0).bind fun _ =>
  (fX0_put Y S l0 v71 v75 (jmax (-999) (jmin 999 l2))).bind fun S91 =>
  some S91
set_option maxRecDepth 100000 in
set_option maxHeartbeats 4000000 in
theorem wX0_change_69 {p : Program} {l : Launch} {e : Env} {R : Room} {s : State} {m : MethodId} {args : Array Value} {below : List Frame} {meth : Method} {c : Code} {G : GG} {Y : LY} {res : HS} (X : Cx p R s m args meth c RX0 cX0_change 3 1 30 (fun q => q ∈ Y.1) G none) : ∀ (S : HS) (l0 : Option Nat) (l1 : Option Nat) (l2 : Int32), fX0_change_69 Y S l0 l1 l2 = some res → ∀ (H : Heap) (locs : List Loc) (ls : Array Slot), HP (fun q => q ∈ Y.1) G Y s S H locs → LV ls 3 [(0, va_rf l0), (1, va_rf l1), (2, .int l2)] → W p l e R s m args below meth c H locs 0 0 (MQ below (QI G Y res none) args s 0 0 (fun q => q ∈ Y.1)) (F0 m 69 ls []) := by
  have hx := X.1.1
  have hb := X.1.2.1
  intro S l0 l1 l2 hf H locs ls hP hl
  unfold fX0_change_69 at hf
  refine rw_aload_n X dX0_change_69 rfl (hl.at 0 rfl) ?_
  refine rw_aload_n X dX0_change_70 rfl (hl.at 1 rfl) ?_
  obtain ⟨v71, e71, hf⟩ := ob hf
  refine rw_getR X dX0_change_71 fl0_33 e71 rfl hP ?_
  refine rw_aload_n X dX0_change_74 rfl (hl.at 1 rfl) ?_
  obtain ⟨v75, e75, hf⟩ := ob hf
  refine rw_getI X dX0_change_75 fl0_39 e75 rfl hP ?_
  refine lv_sipush (v := (-999)) hx hb dX0_change_78 (by decide) ?_
  refine lv_sipush (v := 999) hx hb dX0_change_81 (by decide) ?_
  refine lv_iload_n hx hb dX0_change_84 rfl (hl.at 2 rfl) ?_
  refine rv_min X mlX0_53 ⟨Nat.le_of_ble_eq_true rfl, Nat.le_of_ble_eq_true rfl⟩ (c1c (ci _) (c1c (ci _) (c1c (cr _) (c1c (cr _) c1n)))) hl.1.1 dX0_change_85 ?_
  refine rv_max X mlX0_59 ⟨Nat.le_of_ble_eq_true rfl, Nat.le_of_ble_eq_true rfl⟩ (c1c (ci _) (c1c (cr _) (c1c (cr _) c1n))) hl.1.1 dX0_change_88 ?_
  obtain ⟨u91, r91, hf⟩ := ob hf
  obtain ⟨S91, e91, hf⟩ := ob hf
  refine rw_callVv (As := [va_rf v71, .int v75, .int (jmax (-999) (jmin 999 l2))]) X dX0_change_91 clX0_62 pyX0_put (mX0_put l e91) (by decide) r91 rfl hP rfl (catL c1n (Nat.le_of_ble_eq_true rfl)) hl.1.1 (fun H locs hP => ?_)
  cases hf
  exact rw_vret X dX0_change_94 hP
def fX0_change (Y : LY) (S : HS) (l0 : Option Nat) (l1 : Option Nat) : Option (HS) :=
  (gR Y 1 104 l1 S).bind fun v2 =>
  (gI Y 1 101 l1 S).bind fun v6 =>
  (rcv Y 0 l0).bind fun _ =>
  (fX0_valueIn Y S l0 v2 v6).bind fun v9 =>
  (gI Y 1 102 l1 S).bind fun v14 =>
  if v14 = 43 then
    (gI Y 1 103 l1 S).bind fun v46 =>
    fX0_change_69 Y S l0 l1 (v9 + v46)
  else
  if v14 = 45 then
    (gI Y 1 103 l1 S).bind fun v56 =>
    fX0_change_69 Y S l0 l1 (v9 - v56)
  else
  (gI Y 1 103 l1 S).bind fun v65 =>
  fX0_change_69 Y S l0 l1 v65
set_option maxRecDepth 100000 in
set_option maxHeartbeats 4000000 in
theorem mX0_change (l : Launch) {G : GG} {Y : LY} {S : HS} {l0 : Option Nat} {l1 : Option Nat} {res : HS} (hf : fX0_change Y S l0 l1 = some res) : MM l yX0_change cX0_change 3 none 1 30 G Y S [va_rf l0, va_rf l1] res none := by
  refine mm_of2 (plainFor_of_name (by decide +kernel)) (Nat.le_of_ble_eq_true rfl) (c1c (cr _) (c1c (cr _) c1n)) ?_
  intro p e R s m args below meth c X H locs ls hP hl
  have X : Cx p R s m args meth c RX0 cX0_change 3 1 30 (fun q => q ∈ Y.1) G none := X
  have hx := X.1.1
  have hb := X.1.2.1
  have hl : LV ls 3 [(0, va_rf l0), (1, va_rf l1)] := hl
  unfold fX0_change at hf
  refine rw_aload_n X dX0_change_0 rfl (hl.at 0 rfl) ?_
  refine rw_aload_n X dX0_change_1 rfl (hl.at 1 rfl) ?_
  obtain ⟨v2, e2, hf⟩ := ob hf
  refine rw_getR X dX0_change_2 fl0_33 e2 rfl hP ?_
  refine rw_aload_n X dX0_change_5 rfl (hl.at 1 rfl) ?_
  obtain ⟨v6, e6, hf⟩ := ob hf
  refine rw_getI X dX0_change_6 fl0_39 e6 rfl hP ?_
  obtain ⟨u9, r9, hf⟩ := ob hf
  obtain ⟨v9, e9, hf⟩ := ob hf
  refine rw_callVi (As := [va_rf v2, .int v6]) X dX0_change_9 clX0_42 pyX0_valueIn (mX0_valueIn l e9) (by decide) r9 rfl hP rfl (catL c1n (Nat.le_of_ble_eq_true rfl)) hl.1.1 (fun H locs hP => ?_)
  refine rv_istore_n X dX0_change_12 rfl hl (by decide) rfl (fun ls hl => ?_)
  have hl : LV ls 3 [(2, .int v9), (0, va_rf l0), (1, va_rf l1)] := hl
  refine rw_aload_n X dX0_change_13 rfl (hl.at 2 rfl) ?_
  obtain ⟨v14, e14, hf⟩ := ob hf
  refine rw_getI X dX0_change_14 fl0_46 e14 rfl hP ?_
  by_cases c17_0 : v14 = 43
  · have hf := ifp hf c17_0
    refine lv_lookup (tgt := 44) hx hb dX0_change_17 (by decide) (by rw [c17_0]; try rfl) (by decide) ?_
    refine lv_iload_n hx hb dX0_change_44 rfl (hl.at 0 rfl) ?_
    refine rw_aload_n X dX0_change_45 rfl (hl.at 2 rfl) ?_
    obtain ⟨v46, e46, hf⟩ := ob hf
    refine rw_getI X dX0_change_46 fl0_50 e46 rfl hP ?_
    refine lv_iadd hx hb dX0_change_49 ?_
    refine rv_istore_n X dX0_change_50 rfl hl (by decide) rfl (fun ls hl => ?_)
    have hl : LV ls 3 [(2, .int (v9 + v46)), (0, va_rf l0), (1, va_rf l1)] := hl
    refine lv_goto (tgt := 69) hx hb dX0_change_51 (by decide) ?_
    exact wX0_change_69 X S l0 l1 (v9 + v46) hf _ _ _ hP (hl.sub [1, 2, 0] rfl)
  have hf := ifn hf c17_0
  by_cases c17_1 : v14 = 45
  · have hf := ifp hf c17_1
    refine lv_lookup (tgt := 54) hx hb dX0_change_17 (by decide) (by rw [c17_1]; try rfl) (by decide) ?_
    refine lv_iload_n hx hb dX0_change_54 rfl (hl.at 0 rfl) ?_
    refine rw_aload_n X dX0_change_55 rfl (hl.at 2 rfl) ?_
    obtain ⟨v56, e56, hf⟩ := ob hf
    refine rw_getI X dX0_change_56 fl0_50 e56 rfl hP ?_
    refine lv_isub hx hb dX0_change_59 ?_
    refine rv_istore_n X dX0_change_60 rfl hl (by decide) rfl (fun ls hl => ?_)
    have hl : LV ls 3 [(2, .int (v9 - v56)), (0, va_rf l0), (1, va_rf l1)] := hl
    refine lv_goto (tgt := 69) hx hb dX0_change_61 (by decide) ?_
    exact wX0_change_69 X S l0 l1 (v9 - v56) hf _ _ _ hP (hl.sub [1, 2, 0] rfl)
  have hf := ifn hf c17_1
  have t17_0 := tsw (k := 43) (v := 43) (by decide) c17_0
  have t17_1 := tsw (k := 45) (v := 45) (by decide) c17_1
  refine lv_lookup (off := 47) (tgt := 64) hx hb dX0_change_17 (by decide) (by simp [Op.lookupswitch.offset, t17_0.symm, t17_1.symm]) (by decide) ?_
  refine rw_aload_n X dX0_change_64 rfl (hl.at 2 rfl) ?_
  obtain ⟨v65, e65, hf⟩ := ob hf
  refine rw_getI X dX0_change_65 fl0_50 e65 rfl hP ?_
  refine rv_istore_n X dX0_change_68 rfl hl (by decide) rfl (fun ls hl => ?_)
  have hl : LV ls 3 [(2, .int v65), (0, va_rf l0), (1, va_rf l1)] := hl
  exact wX0_change_69 X S l0 l1 v65 hf _ _ _ hP (hl.sub [1, 2, 0] rfl)
theorem dX0_fulfils_0 : decode cX0_fulfils 0 = .ok (.aload_n 0, 1) := by decide +kernel
theorem dX0_fulfils_1 : decode cX0_fulfils 1 = .ok (.aload_n 1, 1) := by decide +kernel
theorem dX0_fulfils_2 : decode cX0_fulfils 2 = .ok (.getfield 33, 3) := by decide +kernel
theorem dX0_fulfils_5 : decode cX0_fulfils 5 = .ok (.aload_n 1, 1) := by decide +kernel
theorem dX0_fulfils_6 : decode cX0_fulfils 6 = .ok (.getfield 39, 3) := by decide +kernel
theorem dX0_fulfils_9 : decode cX0_fulfils 9 = .ok (.invokevirtual 42, 3) := by decide +kernel
theorem dX0_fulfils_12 : decode cX0_fulfils 12 = .ok (.istore_n 2, 1) := by decide +kernel
theorem dX0_fulfils_13 : decode cX0_fulfils 13 = .ok (.aload_n 1, 1) := by decide +kernel
theorem dX0_fulfils_14 : decode cX0_fulfils 14 = .ok (.getfield 46, 3) := by decide +kernel
theorem dX0_fulfils_17 : decode cX0_fulfils 17 = .ok (.lookupswitch 55 #[(60, 27), (62, 41)], 27) := by decide +kernel
theorem dX0_fulfils_44 : decode cX0_fulfils 44 = .ok (.iload_n 2, 1) := by decide +kernel
theorem dX0_fulfils_45 : decode cX0_fulfils 45 = .ok (.aload_n 1, 1) := by decide +kernel
theorem dX0_fulfils_46 : decode cX0_fulfils 46 = .ok (.getfield 50, 3) := by decide +kernel
theorem dX0_fulfils_49 : decode cX0_fulfils 49 = .ok (.if_icmp .ge 7, 3) := by decide +kernel
theorem dX0_fulfils_52 : decode cX0_fulfils 52 = .ok (.iconst 1, 1) := by decide +kernel
theorem dX0_fulfils_53 : decode cX0_fulfils 53 = .ok (.goto 4, 3) := by decide +kernel
theorem dX0_fulfils_56 : decode cX0_fulfils 56 = .ok (.iconst 0, 1) := by decide +kernel
theorem dX0_fulfils_57 : decode cX0_fulfils 57 = .ok (.ireturn, 1) := by decide +kernel
theorem dX0_fulfils_58 : decode cX0_fulfils 58 = .ok (.iload_n 2, 1) := by decide +kernel
theorem dX0_fulfils_59 : decode cX0_fulfils 59 = .ok (.aload_n 1, 1) := by decide +kernel
theorem dX0_fulfils_60 : decode cX0_fulfils 60 = .ok (.getfield 50, 3) := by decide +kernel
theorem dX0_fulfils_63 : decode cX0_fulfils 63 = .ok (.if_icmp .le 7, 3) := by decide +kernel
theorem dX0_fulfils_66 : decode cX0_fulfils 66 = .ok (.iconst 1, 1) := by decide +kernel
theorem dX0_fulfils_67 : decode cX0_fulfils 67 = .ok (.goto 4, 3) := by decide +kernel
theorem dX0_fulfils_70 : decode cX0_fulfils 70 = .ok (.iconst 0, 1) := by decide +kernel
theorem dX0_fulfils_71 : decode cX0_fulfils 71 = .ok (.ireturn, 1) := by decide +kernel
theorem dX0_fulfils_72 : decode cX0_fulfils 72 = .ok (.iload_n 2, 1) := by decide +kernel
theorem dX0_fulfils_73 : decode cX0_fulfils 73 = .ok (.aload_n 1, 1) := by decide +kernel
theorem dX0_fulfils_74 : decode cX0_fulfils 74 = .ok (.getfield 50, 3) := by decide +kernel
theorem dX0_fulfils_77 : decode cX0_fulfils 77 = .ok (.if_icmp .ne 7, 3) := by decide +kernel
theorem dX0_fulfils_80 : decode cX0_fulfils 80 = .ok (.iconst 1, 1) := by decide +kernel
theorem dX0_fulfils_81 : decode cX0_fulfils 81 = .ok (.goto 4, 3) := by decide +kernel
theorem dX0_fulfils_84 : decode cX0_fulfils 84 = .ok (.iconst 0, 1) := by decide +kernel
theorem dX0_fulfils_85 : decode cX0_fulfils 85 = .ok (.ireturn, 1) := by decide +kernel
theorem pyX0_fulfils : PY yX0_fulfils 1 := ⟨by decide +kernel, by decide +kernel, by decide +kernel⟩
def fX0_fulfils (Y : LY) (S : HS) (l0 : Option Nat) (l1 : Option Nat) : Option (Int32) :=
  (gR Y 1 104 l1 S).bind fun v2 =>
  (gI Y 1 101 l1 S).bind fun v6 =>
  (rcv Y 0 l0).bind fun _ =>
  (fX0_valueIn Y S l0 v2 v6).bind fun v9 =>
  (gI Y 1 102 l1 S).bind fun v14 =>
  if v14 = 60 then
    (gI Y 1 103 l1 S).bind fun v46 =>
    if v46 ≤ v9 then
      some 0
    else
      some 1
  else
  if v14 = 62 then
    (gI Y 1 103 l1 S).bind fun v60 =>
    if v9 ≤ v60 then
      some 0
    else
      some 1
  else
  (gI Y 1 103 l1 S).bind fun v74 =>
  if v9 = v74 then
    some 1
  else
    some 0
set_option maxRecDepth 100000 in
set_option maxHeartbeats 4000000 in
theorem mX0_fulfils (l : Launch) {G : GG} {Y : LY} {S : HS} {l0 : Option Nat} {l1 : Option Nat} {res : Int32} (hf : fX0_fulfils Y S l0 l1 = some res) : MM l yX0_fulfils cX0_fulfils 3 (some .boolean) 1 22 G Y S [va_rf l0, va_rf l1] S (some (.int res)) := by
  refine mm_of2 (plainFor_of_name (by decide +kernel)) (Nat.le_of_ble_eq_true rfl) (c1c (cr _) (c1c (cr _) c1n)) ?_
  intro p e R s m args below meth c X H locs ls hP hl
  have X : Cx p R s m args meth c RX0 cX0_fulfils 3 1 22 (fun q => q ∈ Y.1) G (some .boolean) := X
  have hx := X.1.1
  have hb := X.1.2.1
  have hl : LV ls 3 [(0, va_rf l0), (1, va_rf l1)] := hl
  unfold fX0_fulfils at hf
  refine rw_aload_n X dX0_fulfils_0 rfl (hl.at 0 rfl) ?_
  refine rw_aload_n X dX0_fulfils_1 rfl (hl.at 1 rfl) ?_
  obtain ⟨v2, e2, hf⟩ := ob hf
  refine rw_getR X dX0_fulfils_2 fl0_33 e2 rfl hP ?_
  refine rw_aload_n X dX0_fulfils_5 rfl (hl.at 1 rfl) ?_
  obtain ⟨v6, e6, hf⟩ := ob hf
  refine rw_getI X dX0_fulfils_6 fl0_39 e6 rfl hP ?_
  obtain ⟨u9, r9, hf⟩ := ob hf
  obtain ⟨v9, e9, hf⟩ := ob hf
  refine rw_callVi (As := [va_rf v2, .int v6]) X dX0_fulfils_9 clX0_42 pyX0_valueIn (mX0_valueIn l e9) (by decide) r9 rfl hP rfl (catL c1n (Nat.le_of_ble_eq_true rfl)) hl.1.1 (fun H locs hP => ?_)
  refine rv_istore_n X dX0_fulfils_12 rfl hl (by decide) rfl (fun ls hl => ?_)
  have hl : LV ls 3 [(2, .int v9), (0, va_rf l0), (1, va_rf l1)] := hl
  refine rw_aload_n X dX0_fulfils_13 rfl (hl.at 2 rfl) ?_
  obtain ⟨v14, e14, hf⟩ := ob hf
  refine rw_getI X dX0_fulfils_14 fl0_46 e14 rfl hP ?_
  by_cases c17_0 : v14 = 60
  · have hf := ifp hf c17_0
    refine lv_lookup (tgt := 44) hx hb dX0_fulfils_17 (by decide) (by rw [c17_0]; try rfl) (by decide) ?_
    refine lv_iload_n hx hb dX0_fulfils_44 rfl (hl.at 0 rfl) ?_
    refine rw_aload_n X dX0_fulfils_45 rfl (hl.at 2 rfl) ?_
    obtain ⟨v46, e46, hf⟩ := ob hf
    refine rw_getI X dX0_fulfils_46 fl0_50 e46 rfl hP ?_
    refine lv_icmp_ge hx hb (tgt := 56) dX0_fulfils_49 (by decide) (fun c49 => ?_) (fun c49 => ?_)
    · have hf := ifp hf c49
      refine lv_iconst (v := 0) hx hb dX0_fulfils_56 (by decide) ?_
      cases hf
      exact rw_zret X (by decide) dX0_fulfils_57 hP
    · have hf := ifn hf c49
      refine lv_iconst (v := 1) hx hb dX0_fulfils_52 (by decide) ?_
      refine lv_goto (tgt := 57) hx hb dX0_fulfils_53 (by decide) ?_
      cases hf
      exact rw_zret X (by decide) dX0_fulfils_57 hP
  have hf := ifn hf c17_0
  by_cases c17_1 : v14 = 62
  · have hf := ifp hf c17_1
    refine lv_lookup (tgt := 58) hx hb dX0_fulfils_17 (by decide) (by rw [c17_1]; try rfl) (by decide) ?_
    refine lv_iload_n hx hb dX0_fulfils_58 rfl (hl.at 0 rfl) ?_
    refine rw_aload_n X dX0_fulfils_59 rfl (hl.at 2 rfl) ?_
    obtain ⟨v60, e60, hf⟩ := ob hf
    refine rw_getI X dX0_fulfils_60 fl0_50 e60 rfl hP ?_
    refine lv_icmp_le hx hb (tgt := 70) dX0_fulfils_63 (by decide) (fun c63 => ?_) (fun c63 => ?_)
    · have hf := ifp hf c63
      refine lv_iconst (v := 0) hx hb dX0_fulfils_70 (by decide) ?_
      cases hf
      exact rw_zret X (by decide) dX0_fulfils_71 hP
    · have hf := ifn hf c63
      refine lv_iconst (v := 1) hx hb dX0_fulfils_66 (by decide) ?_
      refine lv_goto (tgt := 71) hx hb dX0_fulfils_67 (by decide) ?_
      cases hf
      exact rw_zret X (by decide) dX0_fulfils_71 hP
  have hf := ifn hf c17_1
  have t17_0 := tsw (k := 60) (v := 60) (by decide) c17_0
  have t17_1 := tsw (k := 62) (v := 62) (by decide) c17_1
  refine lv_lookup (off := 55) (tgt := 72) hx hb dX0_fulfils_17 (by decide) (by simp [Op.lookupswitch.offset, t17_0.symm, t17_1.symm]) (by decide) ?_
  refine lv_iload_n hx hb dX0_fulfils_72 rfl (hl.at 0 rfl) ?_
  refine rw_aload_n X dX0_fulfils_73 rfl (hl.at 2 rfl) ?_
  obtain ⟨v74, e74, hf⟩ := ob hf
  refine rw_getI X dX0_fulfils_74 fl0_50 e74 rfl hP ?_
  refine lv_icmp_ne hx hb (tgt := 84) dX0_fulfils_77 (by decide) (fun c77 => ?_) (fun c77 => ?_)
  · have hf := ifn hf c77
    refine lv_iconst (v := 0) hx hb dX0_fulfils_84 (by decide) ?_
    cases hf
    exact rw_zret X (by decide) dX0_fulfils_85 hP
  · have hf := ifp hf c77
    refine lv_iconst (v := 1) hx hb dX0_fulfils_80 (by decide) ?_
    refine lv_goto (tgt := 85) hx hb dX0_fulfils_81 (by decide) ?_
    cases hf
    exact rw_zret X (by decide) dX0_fulfils_85 hP
