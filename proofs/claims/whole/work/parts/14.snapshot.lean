/-! printed by wip/whole/gen/gen_parts.py: 14.snapshot -/
theorem dX6_take_0 : decode cX6_take 0 = .ok (.iconst 0, 1) := by decide +kernel
theorem dX6_take_1 : decode cX6_take 1 = .ok (.istore 4, 2) := by decide +kernel
theorem dX6_take_3 : decode cX6_take 3 = .ok (.iload 4, 2) := by decide +kernel
theorem dX6_take_5 : decode cX6_take 5 = .ok (.aload_n 0, 1) := by decide +kernel
theorem dX6_take_6 : decode cX6_take 6 = .ok (.getfield 11, 3) := by decide +kernel
theorem dX6_take_9 : decode cX6_take 9 = .ok (.arraylength, 1) := by decide +kernel
theorem dX6_take_10 : decode cX6_take 10 = .ok (.if_icmp .ge 37, 3) := by decide +kernel
theorem dX6_take_13 : decode cX6_take 13 = .ok (.aload_n 1, 1) := by decide +kernel
theorem dX6_take_14 : decode cX6_take 14 = .ok (.iload 4, 2) := by decide +kernel
theorem dX6_take_16 : decode cX6_take 16 = .ok (.invokevirtual 32, 3) := by decide +kernel
theorem dX6_take_19 : decode cX6_take 19 = .ok (.astore 5, 2) := by decide +kernel
theorem dX6_take_21 : decode cX6_take 21 = .ok (.aload 5, 2) := by decide +kernel
theorem dX6_take_23 : decode cX6_take 23 = .ok (.ifnull 18, 3) := by decide +kernel
theorem dX6_take_26 : decode cX6_take 26 = .ok (.aload_n 0, 1) := by decide +kernel
theorem dX6_take_27 : decode cX6_take 27 = .ok (.getfield 11, 3) := by decide +kernel
theorem dX6_take_30 : decode cX6_take 30 = .ok (.iload 4, 2) := by decide +kernel
theorem dX6_take_32 : decode cX6_take 32 = .ok (.aaload, 1) := by decide +kernel
theorem dX6_take_33 : decode cX6_take 33 = .ok (.aload 5, 2) := by decide +kernel
theorem dX6_take_35 : decode cX6_take 35 = .ok (.getfield 38, 3) := by decide +kernel
theorem dX6_take_38 : decode cX6_take 38 = .ok (.invokevirtual 44, 3) := by decide +kernel
theorem dX6_take_41 : decode cX6_take 41 = .ok (.iinc 4 1, 3) := by decide +kernel
theorem dX6_take_44 : decode cX6_take 44 = .ok (.goto (-41), 3) := by decide +kernel
theorem dX6_take_47 : decode cX6_take 47 = .ok (.aload_n 0, 1) := by decide +kernel
theorem dX6_take_48 : decode cX6_take 48 = .ok (.getfield 20, 3) := by decide +kernel
theorem dX6_take_51 : decode cX6_take 51 = .ok (.aload_n 2, 1) := by decide +kernel
theorem dX6_take_52 : decode cX6_take 52 = .ok (.invokevirtual 48, 3) := by decide +kernel
theorem dX6_take_55 : decode cX6_take 55 = .ok (.aload_n 0, 1) := by decide +kernel
theorem dX6_take_56 : decode cX6_take 56 = .ok (.getfield 27, 3) := by decide +kernel
theorem dX6_take_59 : decode cX6_take 59 = .ok (.aload_n 3, 1) := by decide +kernel
theorem dX6_take_60 : decode cX6_take 60 = .ok (.invokevirtual 51, 3) := by decide +kernel
theorem dX6_take_63 : decode cX6_take 63 = .ok (.return_, 1) := by decide +kernel
theorem pyX6_take : PY yX6_take 3 := ⟨by decide +kernel, by decide +kernel, by decide +kernel⟩
def fX6_take_3 (Y : LY) : Nat → HS → Option Nat → Option Nat → Option Nat → Option Nat → Int32 → Option (HS)
  | 0, _, _, _, _, _, _ => none
  | n + 1, S, l0, l1, l2, l3, l4 =>
    (gR Y 6 600 l0 S).bind fun v6 =>
    (aL Y 15 v6).bind fun v9 =>
    if v9 ≤ l4 then
      (gR Y 6 601 l0 S).bind fun v48 =>
      (rcv Y 0 v48).bind fun _ =>
      (fX0_copyFrom Y S v48 l2).bind fun S52 =>
      (gR Y 6 602 l0 S52).bind fun v56 =>
      (rcv Y 2 v56).bind fun _ =>
      (fX2_copyFrom Y S52 v56 l3).bind fun S60 =>
      some S60
    else
      (rcv Y 8 l1).bind fun _ =>
      (fX8_nodeAt Y S l1 l4).bind fun v16 =>
      if v16 = none then
        fX6_take_3 Y n S l0 l1 l2 l3 (l4 + 1)
      else
        (gR Y 6 600 l0 S).bind fun v27 =>
        (gQ Y 15 v27 l4 S).bind fun v32 =>
        (gR Y 4 403 v16 S).bind fun v35 =>
        (rcv Y 3 v32).bind fun _ =>
        (fX3_copyFrom Y S v32 v35).bind fun S38 =>
        fX6_take_3 Y n S38 l0 l1 l2 l3 (l4 + 1)
set_option maxRecDepth 100000 in
set_option maxHeartbeats 4000000 in
theorem wX6_take_3 {p : Program} {l : Launch} {e : Env} {R : Room} {s : State} {m : MethodId} {args : Array Value} {below : List Frame} {meth : Method} {c : Code} {G : GG} {Y : LY} {res : HS} (X : Cx p R s m args meth c RX6 cX6_take 6 2 81 (fun q => q ∈ Y.1) G none) : ∀ (n : Nat) (S : HS) (l0 : Option Nat) (l1 : Option Nat) (l2 : Option Nat) (l3 : Option Nat) (l4 : Int32), fX6_take_3 Y n S l0 l1 l2 l3 l4 = some res → ∀ (H : Heap) (locs : List Loc) (ls : Array Slot), HP (fun q => q ∈ Y.1) G Y s S H locs → LV ls 6 [(0, va_rf l0), (1, va_rf l1), (2, va_rf l2), (3, va_rf l3), (4, .int l4)] → W p l e R s m args below meth c H locs 0 0 (MQ below (QI G Y res none) args s 0 0 (fun q => q ∈ Y.1)) (F0 m 3 ls []) := by
  have hx := X.1.1
  have hb := X.1.2.1
  intro n
  induction n with
  | zero =>
    intro S l0 l1 l2 l3 l4 hf
    cases hf
  | succ n ih =>
    intro S l0 l1 l2 l3 l4 hf H locs ls hP hl
    rw [fX6_take_3] at hf
    refine lv_iload hx hb dX6_take_3 (hl.at 4 rfl) ?_
    refine rw_aload_n X dX6_take_5 rfl (hl.at 0 rfl) ?_
    obtain ⟨v6, e6, hf⟩ := ob hf
    refine rw_getR X dX6_take_6 fl6_11 e6 rfl hP ?_
    obtain ⟨v9, e9, hf⟩ := ob hf
    refine rw_alen X (by decide) dX6_take_9 e9 hP ?_
    refine lv_icmp_ge hx hb (tgt := 47) dX6_take_10 (by decide) (fun c10 => ?_) (fun c10 => ?_)
    · have hf := ifp hf c10
      refine rw_aload_n X dX6_take_47 rfl (hl.at 0 rfl) ?_
      obtain ⟨v48, e48, hf⟩ := ob hf
      refine rw_getR X dX6_take_48 fl6_20 e48 rfl hP ?_
      refine rw_aload_n X dX6_take_51 rfl (hl.at 2 rfl) ?_
      obtain ⟨u52, r52, hf⟩ := ob hf
      obtain ⟨S52, e52, hf⟩ := ob hf
      refine rw_callVv (As := [va_rf l2]) X dX6_take_52 clX6_48 pyX0_copyFrom (mX0_copyFrom l e52) (by decide) r52 rfl hP rfl (catL c1n (Nat.le_of_ble_eq_true rfl)) hl.1.1 (fun H locs hP => ?_)
      refine rw_aload_n X dX6_take_55 rfl (hl.at 0 rfl) ?_
      obtain ⟨v56, e56, hf⟩ := ob hf
      refine rw_getR X dX6_take_56 fl6_27 e56 rfl hP ?_
      refine rw_aload_n X dX6_take_59 rfl (hl.at 3 rfl) ?_
      obtain ⟨u60, r60, hf⟩ := ob hf
      obtain ⟨S60, e60, hf⟩ := ob hf
      refine rw_callVv (As := [va_rf l3]) X dX6_take_60 clX6_51 pyX2_copyFrom (mX2_copyFrom l e60) (by decide) r60 rfl hP rfl (catL c1n (Nat.le_of_ble_eq_true rfl)) hl.1.1 (fun H locs hP => ?_)
      cases hf
      exact rw_vret X dX6_take_63 hP
    · have hf := ifn hf c10
      refine rw_aload_n X dX6_take_13 rfl (hl.at 1 rfl) ?_
      refine lv_iload hx hb dX6_take_14 (hl.at 4 rfl) ?_
      obtain ⟨u16, r16, hf⟩ := ob hf
      obtain ⟨v16, e16, hf⟩ := ob hf
      refine rw_callVr (As := [.int l4]) X dX6_take_16 clX6_32 pyX8_nodeAt (mX8_nodeAt l e16) (by decide) r16 rfl hP rfl (catL c1n (Nat.le_of_ble_eq_true rfl)) hl.1.1 (fun H locs hP => ?_)
      refine rv_astore X dX6_take_19 hl (by decide) rfl (fun ls hl => ?_)
      have hl : LV ls 6 [(5, va_rf v16), (0, va_rf l0), (1, va_rf l1), (2, va_rf l2), (3, va_rf l3), (4, .int l4)] := hl
      refine rw_aload X dX6_take_21 (hl.at 0 rfl) ?_
      refine rw_ifnull X (tgt := 41) dX6_take_23 (by decide) (fun c23 => ?_) (fun c23 => ?_)
      · have hf := ifp hf c23
        refine rv_iinc (k := 5) (d := 1) X dX6_take_41 hl rfl (by decide) (by decide) rfl (fun ls hl => ?_)
        have hl : LV ls 6 [(4, .int (l4 + 1)), (5, va_rf v16), (0, va_rf l0), (1, va_rf l1), (2, va_rf l2), (3, va_rf l3)] := hl
        refine lv_goto (tgt := 3) hx hb dX6_take_44 (by decide) ?_
        exact ih S l0 l1 l2 l3 (l4 + 1) hf _ _ _ hP (hl.sub [2, 3, 4, 5, 0] rfl)
      · have hf := ifn hf c23
        refine rw_aload_n X dX6_take_26 rfl (hl.at 1 rfl) ?_
        obtain ⟨v27, e27, hf⟩ := ob hf
        refine rw_getR X dX6_take_27 fl6_11 e27 rfl hP ?_
        refine lv_iload hx hb dX6_take_30 (hl.at 5 rfl) ?_
        obtain ⟨v32, e32, hf⟩ := ob hf
        refine rw_aald15 X dX6_take_32 e32 hP ?_
        refine rw_aload X dX6_take_33 (hl.at 0 rfl) ?_
        obtain ⟨v35, e35, hf⟩ := ob hf
        refine rw_getR X dX6_take_35 fl6_38 e35 rfl hP ?_
        obtain ⟨u38, r38, hf⟩ := ob hf
        obtain ⟨S38, e38, hf⟩ := ob hf
        refine rw_callVv (As := [va_rf v35]) X dX6_take_38 clX6_44 pyX3_copyFrom (mX3_copyFrom l e38) (by decide) r38 rfl hP rfl (catL c1n (Nat.le_of_ble_eq_true rfl)) hl.1.1 (fun H locs hP => ?_)
        refine rv_iinc (k := 5) (d := 1) X dX6_take_41 hl rfl (by decide) (by decide) rfl (fun ls hl => ?_)
        have hl : LV ls 6 [(4, .int (l4 + 1)), (5, va_rf v16), (0, va_rf l0), (1, va_rf l1), (2, va_rf l2), (3, va_rf l3)] := hl
        refine lv_goto (tgt := 3) hx hb dX6_take_44 (by decide) ?_
        exact ih S38 l0 l1 l2 l3 (l4 + 1) hf _ _ _ hP (hl.sub [2, 3, 4, 5, 0] rfl)
def fX6_take (Y : LY) (S : HS) (l0 : Option Nat) (l1 : Option Nat) (l2 : Option Nat) (l3 : Option Nat) : Option (HS) :=
  fX6_take_3 Y FU S l0 l1 l2 l3 0
set_option maxRecDepth 100000 in
set_option maxHeartbeats 4000000 in
theorem mX6_take (l : Launch) {G : GG} {Y : LY} {S : HS} {l0 : Option Nat} {l1 : Option Nat} {l2 : Option Nat} {l3 : Option Nat} {res : HS} (hf : fX6_take Y S l0 l1 l2 l3 = some res) : MM l yX6_take cX6_take 6 none 2 81 G Y S [va_rf l0, va_rf l1, va_rf l2, va_rf l3] res none := by
  refine mm_of2 (plainFor_of_name (by decide +kernel)) (Nat.le_of_ble_eq_true rfl) (c1c (cr _) (c1c (cr _) (c1c (cr _) (c1c (cr _) c1n)))) ?_
  intro p e R s m args below meth c X H locs ls hP hl
  have X : Cx p R s m args meth c RX6 cX6_take 6 2 81 (fun q => q ∈ Y.1) G none := X
  have hx := X.1.1
  have hb := X.1.2.1
  have hl : LV ls 6 [(0, va_rf l0), (1, va_rf l1), (2, va_rf l2), (3, va_rf l3)] := hl
  unfold fX6_take at hf
  refine lv_iconst (v := 0) hx hb dX6_take_0 (by decide) ?_
  refine rv_istore X dX6_take_1 hl (by decide) rfl (fun ls hl => ?_)
  have hl : LV ls 6 [(4, .int 0), (0, va_rf l0), (1, va_rf l1), (2, va_rf l2), (3, va_rf l3)] := hl
  exact wX6_take_3 X FU S l0 l1 l2 l3 0 hf _ _ _ hP (hl.sub [1, 2, 3, 4, 0] rfl)
theorem dX6_giveBack_0 : decode cX6_giveBack 0 = .ok (.iconst 0, 1) := by decide +kernel
theorem dX6_giveBack_1 : decode cX6_giveBack 1 = .ok (.istore 4, 2) := by decide +kernel
theorem dX6_giveBack_3 : decode cX6_giveBack 3 = .ok (.iload 4, 2) := by decide +kernel
theorem dX6_giveBack_5 : decode cX6_giveBack 5 = .ok (.aload_n 0, 1) := by decide +kernel
theorem dX6_giveBack_6 : decode cX6_giveBack 6 = .ok (.getfield 11, 3) := by decide +kernel
theorem dX6_giveBack_9 : decode cX6_giveBack 9 = .ok (.arraylength, 1) := by decide +kernel
theorem dX6_giveBack_10 : decode cX6_giveBack 10 = .ok (.if_icmp .ge 37, 3) := by decide +kernel
theorem dX6_giveBack_13 : decode cX6_giveBack 13 = .ok (.aload_n 1, 1) := by decide +kernel
theorem dX6_giveBack_14 : decode cX6_giveBack 14 = .ok (.iload 4, 2) := by decide +kernel
theorem dX6_giveBack_16 : decode cX6_giveBack 16 = .ok (.invokevirtual 32, 3) := by decide +kernel
theorem dX6_giveBack_19 : decode cX6_giveBack 19 = .ok (.astore 5, 2) := by decide +kernel
theorem dX6_giveBack_21 : decode cX6_giveBack 21 = .ok (.aload 5, 2) := by decide +kernel
theorem dX6_giveBack_23 : decode cX6_giveBack 23 = .ok (.ifnull 18, 3) := by decide +kernel
theorem dX6_giveBack_26 : decode cX6_giveBack 26 = .ok (.aload 5, 2) := by decide +kernel
theorem dX6_giveBack_28 : decode cX6_giveBack 28 = .ok (.getfield 38, 3) := by decide +kernel
theorem dX6_giveBack_31 : decode cX6_giveBack 31 = .ok (.aload_n 0, 1) := by decide +kernel
theorem dX6_giveBack_32 : decode cX6_giveBack 32 = .ok (.getfield 11, 3) := by decide +kernel
theorem dX6_giveBack_35 : decode cX6_giveBack 35 = .ok (.iload 4, 2) := by decide +kernel
theorem dX6_giveBack_37 : decode cX6_giveBack 37 = .ok (.aaload, 1) := by decide +kernel
theorem dX6_giveBack_38 : decode cX6_giveBack 38 = .ok (.invokevirtual 44, 3) := by decide +kernel
theorem dX6_giveBack_41 : decode cX6_giveBack 41 = .ok (.iinc 4 1, 3) := by decide +kernel
theorem dX6_giveBack_44 : decode cX6_giveBack 44 = .ok (.goto (-41), 3) := by decide +kernel
theorem dX6_giveBack_47 : decode cX6_giveBack 47 = .ok (.aload_n 2, 1) := by decide +kernel
theorem dX6_giveBack_48 : decode cX6_giveBack 48 = .ok (.aload_n 0, 1) := by decide +kernel
theorem dX6_giveBack_49 : decode cX6_giveBack 49 = .ok (.getfield 20, 3) := by decide +kernel
theorem dX6_giveBack_52 : decode cX6_giveBack 52 = .ok (.invokevirtual 48, 3) := by decide +kernel
theorem dX6_giveBack_55 : decode cX6_giveBack 55 = .ok (.aload_n 3, 1) := by decide +kernel
theorem dX6_giveBack_56 : decode cX6_giveBack 56 = .ok (.aload_n 0, 1) := by decide +kernel
theorem dX6_giveBack_57 : decode cX6_giveBack 57 = .ok (.getfield 27, 3) := by decide +kernel
theorem dX6_giveBack_60 : decode cX6_giveBack 60 = .ok (.invokevirtual 51, 3) := by decide +kernel
theorem dX6_giveBack_63 : decode cX6_giveBack 63 = .ok (.return_, 1) := by decide +kernel
theorem pyX6_giveBack : PY yX6_giveBack 3 := ⟨by decide +kernel, by decide +kernel, by decide +kernel⟩
def fX6_giveBack_3 (Y : LY) : Nat → HS → Option Nat → Option Nat → Option Nat → Option Nat → Int32 → Option (HS)
  | 0, _, _, _, _, _, _ => none
  | n + 1, S, l0, l1, l2, l3, l4 =>
    (gR Y 6 600 l0 S).bind fun v6 =>
    (aL Y 15 v6).bind fun v9 =>
    if v9 ≤ l4 then
      (gR Y 6 601 l0 S).bind fun v49 =>
      (rcv Y 0 l2).bind fun _ =>
      (fX0_copyFrom Y S l2 v49).bind fun S52 =>
      (gR Y 6 602 l0 S52).bind fun v57 =>
      (rcv Y 2 l3).bind fun _ =>
      (fX2_copyFrom Y S52 l3 v57).bind fun S60 =>
      some S60
    else
      (rcv Y 8 l1).bind fun _ =>
      (fX8_nodeAt Y S l1 l4).bind fun v16 =>
      if v16 = none then
        fX6_giveBack_3 Y n S l0 l1 l2 l3 (l4 + 1)
      else
        (gR Y 4 403 v16 S).bind fun v28 =>
        (gR Y 6 600 l0 S).bind fun v32 =>
        (gQ Y 15 v32 l4 S).bind fun v37 =>
        (rcv Y 3 v28).bind fun _ =>
        (fX3_copyFrom Y S v28 v37).bind fun S38 =>
        fX6_giveBack_3 Y n S38 l0 l1 l2 l3 (l4 + 1)
set_option maxRecDepth 100000 in
set_option maxHeartbeats 4000000 in
theorem wX6_giveBack_3 {p : Program} {l : Launch} {e : Env} {R : Room} {s : State} {m : MethodId} {args : Array Value} {below : List Frame} {meth : Method} {c : Code} {G : GG} {Y : LY} {res : HS} (X : Cx p R s m args meth c RX6 cX6_giveBack 6 2 81 (fun q => q ∈ Y.1) G none) : ∀ (n : Nat) (S : HS) (l0 : Option Nat) (l1 : Option Nat) (l2 : Option Nat) (l3 : Option Nat) (l4 : Int32), fX6_giveBack_3 Y n S l0 l1 l2 l3 l4 = some res → ∀ (H : Heap) (locs : List Loc) (ls : Array Slot), HP (fun q => q ∈ Y.1) G Y s S H locs → LV ls 6 [(0, va_rf l0), (1, va_rf l1), (2, va_rf l2), (3, va_rf l3), (4, .int l4)] → W p l e R s m args below meth c H locs 0 0 (MQ below (QI G Y res none) args s 0 0 (fun q => q ∈ Y.1)) (F0 m 3 ls []) := by
  have hx := X.1.1
  have hb := X.1.2.1
  intro n
  induction n with
  | zero =>
    intro S l0 l1 l2 l3 l4 hf
    cases hf
  | succ n ih =>
    intro S l0 l1 l2 l3 l4 hf H locs ls hP hl
    rw [fX6_giveBack_3] at hf
    refine lv_iload hx hb dX6_giveBack_3 (hl.at 4 rfl) ?_
    refine rw_aload_n X dX6_giveBack_5 rfl (hl.at 0 rfl) ?_
    obtain ⟨v6, e6, hf⟩ := ob hf
    refine rw_getR X dX6_giveBack_6 fl6_11 e6 rfl hP ?_
    obtain ⟨v9, e9, hf⟩ := ob hf
    refine rw_alen X (by decide) dX6_giveBack_9 e9 hP ?_
    refine lv_icmp_ge hx hb (tgt := 47) dX6_giveBack_10 (by decide) (fun c10 => ?_) (fun c10 => ?_)
    · have hf := ifp hf c10
      refine rw_aload_n X dX6_giveBack_47 rfl (hl.at 2 rfl) ?_
      refine rw_aload_n X dX6_giveBack_48 rfl (hl.at 0 rfl) ?_
      obtain ⟨v49, e49, hf⟩ := ob hf
      refine rw_getR X dX6_giveBack_49 fl6_20 e49 rfl hP ?_
      obtain ⟨u52, r52, hf⟩ := ob hf
      obtain ⟨S52, e52, hf⟩ := ob hf
      refine rw_callVv (As := [va_rf v49]) X dX6_giveBack_52 clX6_48 pyX0_copyFrom (mX0_copyFrom l e52) (by decide) r52 rfl hP rfl (catL c1n (Nat.le_of_ble_eq_true rfl)) hl.1.1 (fun H locs hP => ?_)
      refine rw_aload_n X dX6_giveBack_55 rfl (hl.at 3 rfl) ?_
      refine rw_aload_n X dX6_giveBack_56 rfl (hl.at 0 rfl) ?_
      obtain ⟨v57, e57, hf⟩ := ob hf
      refine rw_getR X dX6_giveBack_57 fl6_27 e57 rfl hP ?_
      obtain ⟨u60, r60, hf⟩ := ob hf
      obtain ⟨S60, e60, hf⟩ := ob hf
      refine rw_callVv (As := [va_rf v57]) X dX6_giveBack_60 clX6_51 pyX2_copyFrom (mX2_copyFrom l e60) (by decide) r60 rfl hP rfl (catL c1n (Nat.le_of_ble_eq_true rfl)) hl.1.1 (fun H locs hP => ?_)
      cases hf
      exact rw_vret X dX6_giveBack_63 hP
    · have hf := ifn hf c10
      refine rw_aload_n X dX6_giveBack_13 rfl (hl.at 1 rfl) ?_
      refine lv_iload hx hb dX6_giveBack_14 (hl.at 4 rfl) ?_
      obtain ⟨u16, r16, hf⟩ := ob hf
      obtain ⟨v16, e16, hf⟩ := ob hf
      refine rw_callVr (As := [.int l4]) X dX6_giveBack_16 clX6_32 pyX8_nodeAt (mX8_nodeAt l e16) (by decide) r16 rfl hP rfl (catL c1n (Nat.le_of_ble_eq_true rfl)) hl.1.1 (fun H locs hP => ?_)
      refine rv_astore X dX6_giveBack_19 hl (by decide) rfl (fun ls hl => ?_)
      have hl : LV ls 6 [(5, va_rf v16), (0, va_rf l0), (1, va_rf l1), (2, va_rf l2), (3, va_rf l3), (4, .int l4)] := hl
      refine rw_aload X dX6_giveBack_21 (hl.at 0 rfl) ?_
      refine rw_ifnull X (tgt := 41) dX6_giveBack_23 (by decide) (fun c23 => ?_) (fun c23 => ?_)
      · have hf := ifp hf c23
        refine rv_iinc (k := 5) (d := 1) X dX6_giveBack_41 hl rfl (by decide) (by decide) rfl (fun ls hl => ?_)
        have hl : LV ls 6 [(4, .int (l4 + 1)), (5, va_rf v16), (0, va_rf l0), (1, va_rf l1), (2, va_rf l2), (3, va_rf l3)] := hl
        refine lv_goto (tgt := 3) hx hb dX6_giveBack_44 (by decide) ?_
        exact ih S l0 l1 l2 l3 (l4 + 1) hf _ _ _ hP (hl.sub [2, 3, 4, 5, 0] rfl)
      · have hf := ifn hf c23
        refine rw_aload X dX6_giveBack_26 (hl.at 0 rfl) ?_
        obtain ⟨v28, e28, hf⟩ := ob hf
        refine rw_getR X dX6_giveBack_28 fl6_38 e28 rfl hP ?_
        refine rw_aload_n X dX6_giveBack_31 rfl (hl.at 1 rfl) ?_
        obtain ⟨v32, e32, hf⟩ := ob hf
        refine rw_getR X dX6_giveBack_32 fl6_11 e32 rfl hP ?_
        refine lv_iload hx hb dX6_giveBack_35 (hl.at 5 rfl) ?_
        obtain ⟨v37, e37, hf⟩ := ob hf
        refine rw_aald15 X dX6_giveBack_37 e37 hP ?_
        obtain ⟨u38, r38, hf⟩ := ob hf
        obtain ⟨S38, e38, hf⟩ := ob hf
        refine rw_callVv (As := [va_rf v37]) X dX6_giveBack_38 clX6_44 pyX3_copyFrom (mX3_copyFrom l e38) (by decide) r38 rfl hP rfl (catL c1n (Nat.le_of_ble_eq_true rfl)) hl.1.1 (fun H locs hP => ?_)
        refine rv_iinc (k := 5) (d := 1) X dX6_giveBack_41 hl rfl (by decide) (by decide) rfl (fun ls hl => ?_)
        have hl : LV ls 6 [(4, .int (l4 + 1)), (5, va_rf v16), (0, va_rf l0), (1, va_rf l1), (2, va_rf l2), (3, va_rf l3)] := hl
        refine lv_goto (tgt := 3) hx hb dX6_giveBack_44 (by decide) ?_
        exact ih S38 l0 l1 l2 l3 (l4 + 1) hf _ _ _ hP (hl.sub [2, 3, 4, 5, 0] rfl)
def fX6_giveBack (Y : LY) (S : HS) (l0 : Option Nat) (l1 : Option Nat) (l2 : Option Nat) (l3 : Option Nat) : Option (HS) :=
  fX6_giveBack_3 Y FU S l0 l1 l2 l3 0
set_option maxRecDepth 100000 in
set_option maxHeartbeats 4000000 in
theorem mX6_giveBack (l : Launch) {G : GG} {Y : LY} {S : HS} {l0 : Option Nat} {l1 : Option Nat} {l2 : Option Nat} {l3 : Option Nat} {res : HS} (hf : fX6_giveBack Y S l0 l1 l2 l3 = some res) : MM l yX6_giveBack cX6_giveBack 6 none 2 81 G Y S [va_rf l0, va_rf l1, va_rf l2, va_rf l3] res none := by
  refine mm_of2 (plainFor_of_name (by decide +kernel)) (Nat.le_of_ble_eq_true rfl) (c1c (cr _) (c1c (cr _) (c1c (cr _) (c1c (cr _) c1n)))) ?_
  intro p e R s m args below meth c X H locs ls hP hl
  have X : Cx p R s m args meth c RX6 cX6_giveBack 6 2 81 (fun q => q ∈ Y.1) G none := X
  have hx := X.1.1
  have hb := X.1.2.1
  have hl : LV ls 6 [(0, va_rf l0), (1, va_rf l1), (2, va_rf l2), (3, va_rf l3)] := hl
  unfold fX6_giveBack at hf
  refine lv_iconst (v := 0) hx hb dX6_giveBack_0 (by decide) ?_
  refine rv_istore X dX6_giveBack_1 hl (by decide) rfl (fun ls hl => ?_)
  have hl : LV ls 6 [(4, .int 0), (0, va_rf l0), (1, va_rf l1), (2, va_rf l2), (3, va_rf l3)] := hl
  exact wX6_giveBack_3 X FU S l0 l1 l2 l3 0 hf _ _ _ hP (hl.sub [1, 2, 3, 4, 0] rfl)
