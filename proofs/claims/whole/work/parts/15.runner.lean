/-! printed by wip/whole/gen/gen_parts.py: 15.runner -/
theorem dX11_append_0 : decode cX11_append 0 = .ok (.iload_n 1, 1) := by decide +kernel
theorem dX11_append_1 : decode cX11_append 1 = .ok (.ifCond .lt 20, 3) := by decide +kernel
theorem dX11_append_4 : decode cX11_append 4 = .ok (.iload_n 1, 1) := by decide +kernel
theorem dX11_append_5 : decode cX11_append 5 = .ok (.bipush 127, 2) := by decide +kernel
theorem dX11_append_7 : decode cX11_append 7 = .ok (.if_icmp .gt 14, 3) := by decide +kernel
theorem dX11_append_10 : decode cX11_append 10 = .ok (.iload_n 2, 1) := by decide +kernel
theorem dX11_append_11 : decode cX11_append 11 = .ok (.iconst 1, 1) := by decide +kernel
theorem dX11_append_12 : decode cX11_append 12 = .ok (.if_icmp .lt 9, 3) := by decide +kernel
theorem dX11_append_15 : decode cX11_append 15 = .ok (.iload_n 2, 1) := by decide +kernel
theorem dX11_append_16 : decode cX11_append 16 = .ok (.bipush 70, 2) := by decide +kernel
theorem dX11_append_18 : decode cX11_append 18 = .ok (.if_icmp .le 7, 3) := by decide +kernel
theorem dX11_append_21 : decode cX11_append 21 = .ok (.sipush (-1002), 3) := by decide +kernel
theorem dX11_append_24 : decode cX11_append 24 = .ok (.ireturn, 1) := by decide +kernel
theorem dX11_append_25 : decode cX11_append 25 = .ok (.aload_n 0, 1) := by decide +kernel
theorem dX11_append_26 : decode cX11_append 26 = .ok (.getfield 10, 3) := by decide +kernel
theorem dX11_append_29 : decode cX11_append 29 = .ok (.getfield 60, 3) := by decide +kernel
theorem dX11_append_32 : decode cX11_append 32 = .ok (.iload_n 2, 1) := by decide +kernel
theorem dX11_append_33 : decode cX11_append 33 = .ok (.iadd, 1) := by decide +kernel
theorem dX11_append_34 : decode cX11_append 34 = .ok (.bipush 70, 2) := by decide +kernel
theorem dX11_append_36 : decode cX11_append 36 = .ok (.if_icmp .le 7, 3) := by decide +kernel
theorem dX11_append_39 : decode cX11_append 39 = .ok (.sipush (-1003), 3) := by decide +kernel
theorem dX11_append_42 : decode cX11_append 42 = .ok (.ireturn, 1) := by decide +kernel
theorem dX11_append_43 : decode cX11_append 43 = .ok (.iconst 0, 1) := by decide +kernel
theorem dX11_append_44 : decode cX11_append 44 = .ok (.istore_n 3, 1) := by decide +kernel
theorem dX11_append_45 : decode cX11_append 45 = .ok (.iload_n 3, 1) := by decide +kernel
theorem dX11_append_46 : decode cX11_append 46 = .ok (.iload_n 2, 1) := by decide +kernel
theorem dX11_append_47 : decode cX11_append 47 = .ok (.if_icmp .ge 18, 3) := by decide +kernel
theorem dX11_append_50 : decode cX11_append 50 = .ok (.aload_n 0, 1) := by decide +kernel
theorem dX11_append_51 : decode cX11_append 51 = .ok (.getfield 10, 3) := by decide +kernel
theorem dX11_append_54 : decode cX11_append 54 = .ok (.iload_n 1, 1) := by decide +kernel
theorem dX11_append_55 : decode cX11_append 55 = .ok (.i2c, 1) := by decide +kernel
theorem dX11_append_56 : decode cX11_append 56 = .ok (.invokevirtual 64, 3) := by decide +kernel
theorem dX11_append_59 : decode cX11_append 59 = .ok (.iinc 3 1, 3) := by decide +kernel
theorem dX11_append_62 : decode cX11_append 62 = .ok (.goto (-17), 3) := by decide +kernel
theorem dX11_append_65 : decode cX11_append 65 = .ok (.aload_n 0, 1) := by decide +kernel
theorem dX11_append_66 : decode cX11_append 66 = .ok (.getfield 10, 3) := by decide +kernel
theorem dX11_append_69 : decode cX11_append 69 = .ok (.getfield 60, 3) := by decide +kernel
theorem dX11_append_72 : decode cX11_append 72 = .ok (.ireturn, 1) := by decide +kernel
theorem pyX11_append : PY yX11_append 2 := ⟨by decide +kernel, by decide +kernel, by decide +kernel⟩
def fX11_append_45 (Y : LY) : Nat → HS → Option Nat → Int32 → Int32 → Int32 → Option (HS × Int32)
  | 0, _, _, _, _, _ => none
  | n + 1, S, l0, l1, l2, l3 =>
    if l2 ≤ l3 then
      (gR Y 11 1100 l0 S).bind fun v66 =>
      (gI Y 7 701 v66 S).bind fun v69 =>
      some (S, v69)
    else
      (gR Y 11 1100 l0 S).bind fun v51 =>
      (rcv Y 7 v51).bind fun _ =>
      (fX7_add Y S v51 ((l1.toUInt32 % 65536).toInt32)).bind fun S56 =>
      fX11_append_45 Y n S56 l0 l1 l2 (l3 + 1)
set_option maxRecDepth 100000 in
set_option maxHeartbeats 4000000 in
theorem wX11_append_45 {p : Program} {l : Launch} {e : Env} {R : Room} {s : State} {m : MethodId} {args : Array Value} {below : List Frame} {meth : Method} {c : Code} {G : GG} {Y : LY} {res : HS × Int32} (X : Cx p R s m args meth c RX11 cX11_append 4 1 21 (fun q => q ∈ Y.1) G (some .int)) : ∀ (n : Nat) (S : HS) (l0 : Option Nat) (l1 : Int32) (l2 : Int32) (l3 : Int32), fX11_append_45 Y n S l0 l1 l2 l3 = some res → ∀ (H : Heap) (locs : List Loc) (ls : Array Slot), HP (fun q => q ∈ Y.1) G Y s S H locs → LV ls 4 [(0, va_rf l0), (1, .int l1), (2, .int l2), (3, .int l3)] → W p l e R s m args below meth c H locs 0 0 (MQ below (QI G Y res.1 (some (.int res.2))) args s 0 0 (fun q => q ∈ Y.1)) (F0 m 45 ls []) := by
  have hx := X.1.1
  have hb := X.1.2.1
  intro n
  induction n with
  | zero =>
    intro S l0 l1 l2 l3 hf
    cases hf
  | succ n ih =>
    intro S l0 l1 l2 l3 hf H locs ls hP hl
    rw [fX11_append_45] at hf
    refine lv_iload_n hx hb dX11_append_45 rfl (hl.at 3 rfl) ?_
    refine lv_iload_n hx hb dX11_append_46 rfl (hl.at 2 rfl) ?_
    refine lv_icmp_ge hx hb (tgt := 65) dX11_append_47 (by decide) (fun c47 => ?_) (fun c47 => ?_)
    · have hf := ifp hf c47
      refine rw_aload_n X dX11_append_65 rfl (hl.at 0 rfl) ?_
      obtain ⟨v66, e66, hf⟩ := ob hf
      refine rw_getR X dX11_append_66 fl11_10 e66 rfl hP ?_
      obtain ⟨v69, e69, hf⟩ := ob hf
      refine rw_getI X dX11_append_69 fl11_60 e69 rfl hP ?_
      cases hf
      exact rw_iret X dX11_append_72 hP
    · have hf := ifn hf c47
      refine rw_aload_n X dX11_append_50 rfl (hl.at 0 rfl) ?_
      obtain ⟨v51, e51, hf⟩ := ob hf
      refine rw_getR X dX11_append_51 fl11_10 e51 rfl hP ?_
      refine lv_iload_n hx hb dX11_append_54 rfl (hl.at 1 rfl) ?_
      refine lv_i2c hx hb dX11_append_55 rfl ?_
      obtain ⟨u56, r56, hf⟩ := ob hf
      obtain ⟨S56, e56, hf⟩ := ob hf
      refine rw_callVv (As := [.int ((l1.toUInt32 % 65536).toInt32)]) X dX11_append_56 clX11_64 pyX7_add (mX7_add l e56) (by decide) r56 rfl hP rfl (catL c1n (Nat.le_of_ble_eq_true rfl)) hl.1.1 (fun H locs hP => ?_)
      refine rv_iinc (k := 3) (d := 1) X dX11_append_59 hl rfl (by decide) (by decide) rfl (fun ls hl => ?_)
      have hl : LV ls 4 [(3, .int (l3 + 1)), (0, va_rf l0), (1, .int l1), (2, .int l2)] := hl
      refine lv_goto (tgt := 45) hx hb dX11_append_62 (by decide) ?_
      exact ih S56 l0 l1 l2 (l3 + 1) hf _ _ _ hP (hl.sub [1, 2, 3, 0] rfl)
def fX11_append (Y : LY) (S : HS) (l0 : Option Nat) (l1 : Int32) (l2 : Int32) : Option (HS × Int32) :=
  if l1 < 0 then
    some (S, (-1002))
  else
    if 127 < l1 then
      some (S, (-1002))
    else
      if l2 < 1 then
        some (S, (-1002))
      else
        if l2 ≤ 70 then
          (gR Y 11 1100 l0 S).bind fun v26 =>
          (gI Y 7 701 v26 S).bind fun v29 =>
          if (v29 + l2) ≤ 70 then
            fX11_append_45 Y FU S l0 l1 l2 0
          else
            some (S, (-1003))
        else
          some (S, (-1002))
set_option maxRecDepth 100000 in
set_option maxHeartbeats 4000000 in
theorem mX11_append (l : Launch) {G : GG} {Y : LY} {S : HS} {l0 : Option Nat} {l1 : Int32} {l2 : Int32} {res : HS × Int32} (hf : fX11_append Y S l0 l1 l2 = some res) : MM l yX11_append cX11_append 4 (some .int) 1 21 G Y S [va_rf l0, .int l1, .int l2] res.1 (some (.int res.2)) := by
  refine mm_of2 (plainFor_of_name (by decide +kernel)) (Nat.le_of_ble_eq_true rfl) (c1c (cr _) (c1c (ci _) (c1c (ci _) c1n))) ?_
  intro p e R s m args below meth c X H locs ls hP hl
  have X : Cx p R s m args meth c RX11 cX11_append 4 1 21 (fun q => q ∈ Y.1) G (some .int) := X
  have hx := X.1.1
  have hb := X.1.2.1
  have hl : LV ls 4 [(0, va_rf l0), (1, .int l1), (2, .int l2)] := hl
  unfold fX11_append at hf
  refine lv_iload_n hx hb dX11_append_0 rfl (hl.at 1 rfl) ?_
  refine lv_if_lt hx hb (tgt := 21) dX11_append_1 (by decide) (fun c1 => ?_) (fun c1 => ?_)
  · have hf := ifp hf c1
    refine lv_sipush (v := (-1002)) hx hb dX11_append_21 (by decide) ?_
    cases hf
    exact rw_iret X dX11_append_24 hP
  · have hf := ifn hf c1
    refine lv_iload_n hx hb dX11_append_4 rfl (hl.at 1 rfl) ?_
    refine lv_bipush (v := 127) hx hb dX11_append_5 (by decide) ?_
    refine lv_icmp_gt hx hb (tgt := 21) dX11_append_7 (by decide) (fun c7 => ?_) (fun c7 => ?_)
    · have hf := ifp hf c7
      refine lv_sipush (v := (-1002)) hx hb dX11_append_21 (by decide) ?_
      cases hf
      exact rw_iret X dX11_append_24 hP
    · have hf := ifn hf c7
      refine lv_iload_n hx hb dX11_append_10 rfl (hl.at 2 rfl) ?_
      refine lv_iconst (v := 1) hx hb dX11_append_11 (by decide) ?_
      refine lv_icmp_lt hx hb (tgt := 21) dX11_append_12 (by decide) (fun c12 => ?_) (fun c12 => ?_)
      · have hf := ifp hf c12
        refine lv_sipush (v := (-1002)) hx hb dX11_append_21 (by decide) ?_
        cases hf
        exact rw_iret X dX11_append_24 hP
      · have hf := ifn hf c12
        refine lv_iload_n hx hb dX11_append_15 rfl (hl.at 2 rfl) ?_
        refine lv_bipush (v := 70) hx hb dX11_append_16 (by decide) ?_
        refine lv_icmp_le hx hb (tgt := 25) dX11_append_18 (by decide) (fun c18 => ?_) (fun c18 => ?_)
        · have hf := ifp hf c18
          refine rw_aload_n X dX11_append_25 rfl (hl.at 0 rfl) ?_
          obtain ⟨v26, e26, hf⟩ := ob hf
          refine rw_getR X dX11_append_26 fl11_10 e26 rfl hP ?_
          obtain ⟨v29, e29, hf⟩ := ob hf
          refine rw_getI X dX11_append_29 fl11_60 e29 rfl hP ?_
          refine lv_iload_n hx hb dX11_append_32 rfl (hl.at 2 rfl) ?_
          refine lv_iadd hx hb dX11_append_33 ?_
          refine lv_bipush (v := 70) hx hb dX11_append_34 (by decide) ?_
          refine lv_icmp_le hx hb (tgt := 43) dX11_append_36 (by decide) (fun c36 => ?_) (fun c36 => ?_)
          · have hf := ifp hf c36
            refine lv_iconst (v := 0) hx hb dX11_append_43 (by decide) ?_
            refine rv_istore_n X dX11_append_44 rfl hl (by decide) rfl (fun ls hl => ?_)
            have hl : LV ls 4 [(3, .int 0), (0, va_rf l0), (1, .int l1), (2, .int l2)] := hl
            exact wX11_append_45 X FU S l0 l1 l2 0 hf _ _ _ hP (hl.sub [1, 2, 3, 0] rfl)
          · have hf := ifn hf c36
            refine lv_sipush (v := (-1003)) hx hb dX11_append_39 (by decide) ?_
            cases hf
            exact rw_iret X dX11_append_42 hP
        · have hf := ifn hf c18
          refine lv_sipush (v := (-1002)) hx hb dX11_append_21 (by decide) ?_
          cases hf
          exact rw_iret X dX11_append_24 hP
theorem dX11_set_0 : decode cX11_set 0 = .ok (.iload_n 1, 1) := by decide +kernel
theorem dX11_set_1 : decode cX11_set 1 = .ok (.ifCond .lt 23, 3) := by decide +kernel
theorem dX11_set_4 : decode cX11_set 4 = .ok (.iload_n 1, 1) := by decide +kernel
theorem dX11_set_5 : decode cX11_set 5 = .ok (.bipush 8, 2) := by decide +kernel
theorem dX11_set_7 : decode cX11_set 7 = .ok (.if_icmp .ge 17, 3) := by decide +kernel
theorem dX11_set_10 : decode cX11_set 10 = .ok (.iload_n 2, 1) := by decide +kernel
theorem dX11_set_11 : decode cX11_set 11 = .ok (.sipush (-999), 3) := by decide +kernel
theorem dX11_set_14 : decode cX11_set 14 = .ok (.if_icmp .lt 10, 3) := by decide +kernel
theorem dX11_set_17 : decode cX11_set 17 = .ok (.iload_n 2, 1) := by decide +kernel
theorem dX11_set_18 : decode cX11_set 18 = .ok (.sipush 999, 3) := by decide +kernel
theorem dX11_set_21 : decode cX11_set 21 = .ok (.if_icmp .le 7, 3) := by decide +kernel
theorem dX11_set_24 : decode cX11_set 24 = .ok (.sipush (-1002), 3) := by decide +kernel
theorem dX11_set_27 : decode cX11_set 27 = .ok (.ireturn, 1) := by decide +kernel
theorem dX11_set_28 : decode cX11_set 28 = .ok (.aload_n 0, 1) := by decide +kernel
theorem dX11_set_29 : decode cX11_set 29 = .ok (.getfield 30, 3) := by decide +kernel
theorem dX11_set_32 : decode cX11_set 32 = .ok (.aconst_null, 1) := by decide +kernel
theorem dX11_set_33 : decode cX11_set 33 = .ok (.iload_n 1, 1) := by decide +kernel
theorem dX11_set_34 : decode cX11_set 34 = .ok (.invokevirtual 83, 3) := by decide +kernel
theorem dX11_set_37 : decode cX11_set 37 = .ok (.istore_n 3, 1) := by decide +kernel
theorem dX11_set_38 : decode cX11_set 38 = .ok (.aload_n 0, 1) := by decide +kernel
theorem dX11_set_39 : decode cX11_set 39 = .ok (.getfield 30, 3) := by decide +kernel
theorem dX11_set_42 : decode cX11_set 42 = .ok (.aconst_null, 1) := by decide +kernel
theorem dX11_set_43 : decode cX11_set 43 = .ok (.iload_n 1, 1) := by decide +kernel
theorem dX11_set_44 : decode cX11_set 44 = .ok (.iload_n 2, 1) := by decide +kernel
theorem dX11_set_45 : decode cX11_set 45 = .ok (.invokevirtual 89, 3) := by decide +kernel
theorem dX11_set_48 : decode cX11_set 48 = .ok (.iload_n 3, 1) := by decide +kernel
theorem dX11_set_49 : decode cX11_set 49 = .ok (.ireturn, 1) := by decide +kernel
theorem pyX11_set : PY yX11_set 2 := ⟨by decide +kernel, by decide +kernel, by decide +kernel⟩
def fX11_set (Y : LY) (S : HS) (l0 : Option Nat) (l1 : Int32) (l2 : Int32) : Option (HS × Int32) :=
  if l1 < 0 then
    some (S, (-1002))
  else
    if 8 ≤ l1 then
      some (S, (-1002))
    else
      if l2 < (-999) then
        some (S, (-1002))
      else
        if l2 ≤ 999 then
          (gR Y 11 1103 l0 S).bind fun v29 =>
          (rcv Y 0 v29).bind fun _ =>
          (fX0_valueIn Y S v29 none l1).bind fun v34 =>
          (gR Y 11 1103 l0 S).bind fun v39 =>
          (rcv Y 0 v39).bind fun _ =>
          (fX0_put Y S v39 none l1 l2).bind fun S45 =>
          some (S45, v34)
        else
          some (S, (-1002))
set_option maxRecDepth 100000 in
set_option maxHeartbeats 4000000 in
theorem mX11_set (l : Launch) {G : GG} {Y : LY} {S : HS} {l0 : Option Nat} {l1 : Int32} {l2 : Int32} {res : HS × Int32} (hf : fX11_set Y S l0 l1 l2 = some res) : MM l yX11_set cX11_set 4 (some .int) 1 23 G Y S [va_rf l0, .int l1, .int l2] res.1 (some (.int res.2)) := by
  refine mm_of2 (plainFor_of_name (by decide +kernel)) (Nat.le_of_ble_eq_true rfl) (c1c (cr _) (c1c (ci _) (c1c (ci _) c1n))) ?_
  intro p e R s m args below meth c X H locs ls hP hl
  have X : Cx p R s m args meth c RX11 cX11_set 4 1 23 (fun q => q ∈ Y.1) G (some .int) := X
  have hx := X.1.1
  have hb := X.1.2.1
  have hl : LV ls 4 [(0, va_rf l0), (1, .int l1), (2, .int l2)] := hl
  unfold fX11_set at hf
  refine lv_iload_n hx hb dX11_set_0 rfl (hl.at 1 rfl) ?_
  refine lv_if_lt hx hb (tgt := 24) dX11_set_1 (by decide) (fun c1 => ?_) (fun c1 => ?_)
  · have hf := ifp hf c1
    refine lv_sipush (v := (-1002)) hx hb dX11_set_24 (by decide) ?_
    cases hf
    exact rw_iret X dX11_set_27 hP
  · have hf := ifn hf c1
    refine lv_iload_n hx hb dX11_set_4 rfl (hl.at 1 rfl) ?_
    refine lv_bipush (v := 8) hx hb dX11_set_5 (by decide) ?_
    refine lv_icmp_ge hx hb (tgt := 24) dX11_set_7 (by decide) (fun c7 => ?_) (fun c7 => ?_)
    · have hf := ifp hf c7
      refine lv_sipush (v := (-1002)) hx hb dX11_set_24 (by decide) ?_
      cases hf
      exact rw_iret X dX11_set_27 hP
    · have hf := ifn hf c7
      refine lv_iload_n hx hb dX11_set_10 rfl (hl.at 2 rfl) ?_
      refine lv_sipush (v := (-999)) hx hb dX11_set_11 (by decide) ?_
      refine lv_icmp_lt hx hb (tgt := 24) dX11_set_14 (by decide) (fun c14 => ?_) (fun c14 => ?_)
      · have hf := ifp hf c14
        refine lv_sipush (v := (-1002)) hx hb dX11_set_24 (by decide) ?_
        cases hf
        exact rw_iret X dX11_set_27 hP
      · have hf := ifn hf c14
        refine lv_iload_n hx hb dX11_set_17 rfl (hl.at 2 rfl) ?_
        refine lv_sipush (v := 999) hx hb dX11_set_18 (by decide) ?_
        refine lv_icmp_le hx hb (tgt := 28) dX11_set_21 (by decide) (fun c21 => ?_) (fun c21 => ?_)
        · have hf := ifp hf c21
          refine rw_aload_n X dX11_set_28 rfl (hl.at 0 rfl) ?_
          obtain ⟨v29, e29, hf⟩ := ob hf
          refine rw_getR X dX11_set_29 fl11_30 e29 rfl hP ?_
          refine lv_null hx hb dX11_set_32 ?_
          refine W.eq (g2 := F0 m 33 ls (va_rf none :: (va_rf v29 :: []))) rfl ?_
          refine lv_iload_n hx hb dX11_set_33 rfl (hl.at 1 rfl) ?_
          obtain ⟨u34, r34, hf⟩ := ob hf
          obtain ⟨v34, e34, hf⟩ := ob hf
          refine rw_callVi (As := [va_rf none, .int l1]) X dX11_set_34 clX11_83 pyX0_valueIn (mX0_valueIn l e34) (by decide) r34 rfl hP rfl (catL c1n (Nat.le_of_ble_eq_true rfl)) hl.1.1 (fun H locs hP => ?_)
          refine rv_istore_n X dX11_set_37 rfl hl (by decide) rfl (fun ls hl => ?_)
          have hl : LV ls 4 [(3, .int v34), (0, va_rf l0), (1, .int l1), (2, .int l2)] := hl
          refine rw_aload_n X dX11_set_38 rfl (hl.at 1 rfl) ?_
          obtain ⟨v39, e39, hf⟩ := ob hf
          refine rw_getR X dX11_set_39 fl11_30 e39 rfl hP ?_
          refine lv_null hx hb dX11_set_42 ?_
          refine W.eq (g2 := F0 m 43 ls (va_rf none :: (va_rf v39 :: []))) rfl ?_
          refine lv_iload_n hx hb dX11_set_43 rfl (hl.at 2 rfl) ?_
          refine lv_iload_n hx hb dX11_set_44 rfl (hl.at 3 rfl) ?_
          obtain ⟨u45, r45, hf⟩ := ob hf
          obtain ⟨S45, e45, hf⟩ := ob hf
          refine rw_callVv (As := [va_rf none, .int l1, .int l2]) X dX11_set_45 clX11_89 pyX0_put (mX0_put l e45) (by decide) r45 rfl hP rfl (catL c1n (Nat.le_of_ble_eq_true rfl)) hl.1.1 (fun H locs hP => ?_)
          refine lv_iload_n hx hb dX11_set_48 rfl (hl.at 0 rfl) ?_
          cases hf
          exact rw_iret X dX11_set_49 hP
        · have hf := ifn hf c21
          refine lv_sipush (v := (-1002)) hx hb dX11_set_24 (by decide) ?_
          cases hf
          exact rw_iret X dX11_set_27 hP
theorem dX11_value_0 : decode cX11_value 0 = .ok (.iload_n 2, 1) := by decide +kernel
theorem dX11_value_1 : decode cX11_value 1 = .ok (.ifCond .lt 9, 3) := by decide +kernel
theorem dX11_value_4 : decode cX11_value 4 = .ok (.iload_n 2, 1) := by decide +kernel
theorem dX11_value_5 : decode cX11_value 5 = .ok (.bipush 8, 2) := by decide +kernel
theorem dX11_value_7 : decode cX11_value 7 = .ok (.if_icmp .lt 7, 3) := by decide +kernel
theorem dX11_value_10 : decode cX11_value 10 = .ok (.sipush (-1002), 3) := by decide +kernel
theorem dX11_value_13 : decode cX11_value 13 = .ok (.ireturn, 1) := by decide +kernel
theorem dX11_value_14 : decode cX11_value 14 = .ok (.iload_n 1, 1) := by decide +kernel
theorem dX11_value_15 : decode cX11_value 15 = .ok (.iconst (-1), 1) := by decide +kernel
theorem dX11_value_16 : decode cX11_value 16 = .ok (.if_icmp .ne 13, 3) := by decide +kernel
theorem dX11_value_19 : decode cX11_value 19 = .ok (.aload_n 0, 1) := by decide +kernel
theorem dX11_value_20 : decode cX11_value 20 = .ok (.getfield 30, 3) := by decide +kernel
theorem dX11_value_23 : decode cX11_value 23 = .ok (.aconst_null, 1) := by decide +kernel
theorem dX11_value_24 : decode cX11_value 24 = .ok (.iload_n 2, 1) := by decide +kernel
theorem dX11_value_25 : decode cX11_value 25 = .ok (.invokevirtual 83, 3) := by decide +kernel
theorem dX11_value_28 : decode cX11_value 28 = .ok (.ireturn, 1) := by decide +kernel
theorem dX11_value_29 : decode cX11_value 29 = .ok (.aload_n 0, 1) := by decide +kernel
theorem dX11_value_30 : decode cX11_value 30 = .ok (.getfield 49, 3) := by decide +kernel
theorem dX11_value_33 : decode cX11_value 33 = .ok (.iload_n 1, 1) := by decide +kernel
theorem dX11_value_34 : decode cX11_value 34 = .ok (.invokevirtual 93, 3) := by decide +kernel
theorem dX11_value_37 : decode cX11_value 37 = .ok (.astore_n 3, 1) := by decide +kernel
theorem dX11_value_38 : decode cX11_value 38 = .ok (.aload_n 3, 1) := by decide +kernel
theorem dX11_value_39 : decode cX11_value 39 = .ok (.ifnonnull 9, 3) := by decide +kernel
theorem dX11_value_42 : decode cX11_value 42 = .ok (.sipush (-1001), 3) := by decide +kernel
theorem dX11_value_45 : decode cX11_value 45 = .ok (.goto 16, 3) := by decide +kernel
theorem dX11_value_48 : decode cX11_value 48 = .ok (.aload_n 0, 1) := by decide +kernel
theorem dX11_value_49 : decode cX11_value 49 = .ok (.getfield 30, 3) := by decide +kernel
theorem dX11_value_52 : decode cX11_value 52 = .ok (.aload_n 3, 1) := by decide +kernel
theorem dX11_value_53 : decode cX11_value 53 = .ok (.iload_n 2, 1) := by decide +kernel
theorem dX11_value_54 : decode cX11_value 54 = .ok (.invokevirtual 97, 3) := by decide +kernel
theorem dX11_value_57 : decode cX11_value 57 = .ok (.iload_n 2, 1) := by decide +kernel
theorem dX11_value_58 : decode cX11_value 58 = .ok (.invokevirtual 83, 3) := by decide +kernel
theorem dX11_value_61 : decode cX11_value 61 = .ok (.ireturn, 1) := by decide +kernel
theorem pyX11_value : PY yX11_value 2 := ⟨by decide +kernel, by decide +kernel, by decide +kernel⟩
def fX11_value (Y : LY) (S : HS) (l0 : Option Nat) (l1 : Int32) (l2 : Int32) : Option (Int32) :=
  if l2 < 0 then
    some (-1002)
  else
    if l2 < 8 then
      if l1 = (-1) then
        (gR Y 11 1103 l0 S).bind fun v20 =>
        (rcv Y 0 v20).bind fun _ =>
        (fX0_valueIn Y S v20 none l2).bind fun v25 =>
        some v25
      else
        (gR Y 11 1107 l0 S).bind fun v30 =>
        (rcv Y 8 v30).bind fun _ =>
        (fX8_nodeAt Y S v30 l1).bind fun v34 =>
        if v34 = none then
          some (-1001)
        else
          (gR Y 11 1103 l0 S).bind fun v49 =>
          (rcv Y 4 v34).bind fun _ =>
          (fX4_scopeOf Y S v34 l2).bind fun v54 =>
          (rcv Y 0 v49).bind fun _ =>
          (fX0_valueIn Y S v49 v54 l2).bind fun v58 =>
          some v58
    else
      some (-1002)
set_option maxRecDepth 100000 in
set_option maxHeartbeats 4000000 in
theorem mX11_value (l : Launch) {G : GG} {Y : LY} {S : HS} {l0 : Option Nat} {l1 : Int32} {l2 : Int32} {res : Int32} (hf : fX11_value Y S l0 l1 l2 = some res) : MM l yX11_value cX11_value 4 (some .int) 1 22 G Y S [va_rf l0, .int l1, .int l2] S (some (.int res)) := by
  refine mm_of2 (plainFor_of_name (by decide +kernel)) (Nat.le_of_ble_eq_true rfl) (c1c (cr _) (c1c (ci _) (c1c (ci _) c1n))) ?_
  intro p e R s m args below meth c X H locs ls hP hl
  have X : Cx p R s m args meth c RX11 cX11_value 4 1 22 (fun q => q ∈ Y.1) G (some .int) := X
  have hx := X.1.1
  have hb := X.1.2.1
  have hl : LV ls 4 [(0, va_rf l0), (1, .int l1), (2, .int l2)] := hl
  unfold fX11_value at hf
  refine lv_iload_n hx hb dX11_value_0 rfl (hl.at 2 rfl) ?_
  refine lv_if_lt hx hb (tgt := 10) dX11_value_1 (by decide) (fun c1 => ?_) (fun c1 => ?_)
  · have hf := ifp hf c1
    refine lv_sipush (v := (-1002)) hx hb dX11_value_10 (by decide) ?_
    cases hf
    exact rw_iret X dX11_value_13 hP
  · have hf := ifn hf c1
    refine lv_iload_n hx hb dX11_value_4 rfl (hl.at 2 rfl) ?_
    refine lv_bipush (v := 8) hx hb dX11_value_5 (by decide) ?_
    refine lv_icmp_lt hx hb (tgt := 14) dX11_value_7 (by decide) (fun c7 => ?_) (fun c7 => ?_)
    · have hf := ifp hf c7
      refine lv_iload_n hx hb dX11_value_14 rfl (hl.at 1 rfl) ?_
      refine lv_iconst (v := (-1)) hx hb dX11_value_15 (by decide) ?_
      refine lv_icmp_ne hx hb (tgt := 29) dX11_value_16 (by decide) (fun c16 => ?_) (fun c16 => ?_)
      · have hf := ifn hf c16
        refine rw_aload_n X dX11_value_29 rfl (hl.at 0 rfl) ?_
        obtain ⟨v30, e30, hf⟩ := ob hf
        refine rw_getR X dX11_value_30 fl11_49 e30 rfl hP ?_
        refine lv_iload_n hx hb dX11_value_33 rfl (hl.at 1 rfl) ?_
        obtain ⟨u34, r34, hf⟩ := ob hf
        obtain ⟨v34, e34, hf⟩ := ob hf
        refine rw_callVr (As := [.int l1]) X dX11_value_34 clX11_93 pyX8_nodeAt (mX8_nodeAt l e34) (by decide) r34 rfl hP rfl (catL c1n (Nat.le_of_ble_eq_true rfl)) hl.1.1 (fun H locs hP => ?_)
        refine rv_astore_n X dX11_value_37 rfl hl (by decide) rfl (fun ls hl => ?_)
        have hl : LV ls 4 [(3, va_rf v34), (0, va_rf l0), (1, .int l1), (2, .int l2)] := hl
        refine rw_aload_n X dX11_value_38 rfl (hl.at 0 rfl) ?_
        refine rw_ifnonnull X (tgt := 48) dX11_value_39 (by decide) (fun c39 => ?_) (fun c39 => ?_)
        · have hf := ifn hf c39
          refine rw_aload_n X dX11_value_48 rfl (hl.at 1 rfl) ?_
          obtain ⟨v49, e49, hf⟩ := ob hf
          refine rw_getR X dX11_value_49 fl11_30 e49 rfl hP ?_
          refine rw_aload_n X dX11_value_52 rfl (hl.at 0 rfl) ?_
          refine lv_iload_n hx hb dX11_value_53 rfl (hl.at 3 rfl) ?_
          obtain ⟨u54, r54, hf⟩ := ob hf
          obtain ⟨v54, e54, hf⟩ := ob hf
          refine rw_callVr (As := [.int l2]) X dX11_value_54 clX11_97 pyX4_scopeOf (mX4_scopeOf l e54) (by decide) r54 rfl hP rfl (catL (c1c (cr _) c1n) (Nat.le_of_ble_eq_true rfl)) hl.1.1 (fun H locs hP => ?_)
          refine lv_iload_n hx hb dX11_value_57 rfl (hl.at 3 rfl) ?_
          obtain ⟨u58, r58, hf⟩ := ob hf
          obtain ⟨v58, e58, hf⟩ := ob hf
          refine rw_callVi (As := [va_rf v54, .int l2]) X dX11_value_58 clX11_83 pyX0_valueIn (mX0_valueIn l e58) (by decide) r58 rfl hP rfl (catL c1n (Nat.le_of_ble_eq_true rfl)) hl.1.1 (fun H locs hP => ?_)
          cases hf
          exact rw_iret X dX11_value_61 hP
        · have hf := ifp hf c39
          refine lv_sipush (v := (-1001)) hx hb dX11_value_42 (by decide) ?_
          refine lv_goto (tgt := 61) hx hb dX11_value_45 (by decide) ?_
          cases hf
          exact rw_iret X dX11_value_61 hP
      · have hf := ifp hf c16
        refine rw_aload_n X dX11_value_19 rfl (hl.at 0 rfl) ?_
        obtain ⟨v20, e20, hf⟩ := ob hf
        refine rw_getR X dX11_value_20 fl11_30 e20 rfl hP ?_
        refine lv_null hx hb dX11_value_23 ?_
        refine W.eq (g2 := F0 m 24 ls (va_rf none :: (va_rf v20 :: []))) rfl ?_
        refine lv_iload_n hx hb dX11_value_24 rfl (hl.at 2 rfl) ?_
        obtain ⟨u25, r25, hf⟩ := ob hf
        obtain ⟨v25, e25, hf⟩ := ob hf
        refine rw_callVi (As := [va_rf none, .int l2]) X dX11_value_25 clX11_83 pyX0_valueIn (mX0_valueIn l e25) (by decide) r25 rfl hP rfl (catL c1n (Nat.le_of_ble_eq_true rfl)) hl.1.1 (fun H locs hP => ?_)
        cases hf
        exact rw_iret X dX11_value_28 hP
    · have hf := ifn hf c7
      refine lv_sipush (v := (-1002)) hx hb dX11_value_10 (by decide) ?_
      cases hf
      exact rw_iret X dX11_value_13 hP
theorem dX11_tick_0 : decode cX11_tick 0 = .ok (.iload_n 1, 1) := by decide +kernel
theorem dX11_tick_1 : decode cX11_tick 1 = .ok (.iconst 1, 1) := by decide +kernel
theorem dX11_tick_2 : decode cX11_tick 2 = .ok (.if_icmp .lt 10, 3) := by decide +kernel
theorem dX11_tick_5 : decode cX11_tick 5 = .ok (.iload_n 1, 1) := by decide +kernel
theorem dX11_tick_6 : decode cX11_tick 6 = .ok (.sipush 999, 3) := by decide +kernel
theorem dX11_tick_9 : decode cX11_tick 9 = .ok (.if_icmp .le 7, 3) := by decide +kernel
theorem dX11_tick_12 : decode cX11_tick 12 = .ok (.sipush (-1002), 3) := by decide +kernel
theorem dX11_tick_15 : decode cX11_tick 15 = .ok (.ireturn, 1) := by decide +kernel
theorem dX11_tick_16 : decode cX11_tick 16 = .ok (.aload_n 0, 1) := by decide +kernel
theorem dX11_tick_17 : decode cX11_tick 17 = .ok (.getfield 49, 3) := by decide +kernel
theorem dX11_tick_20 : decode cX11_tick 20 = .ok (.iconst 0, 1) := by decide +kernel
theorem dX11_tick_21 : decode cX11_tick 21 = .ok (.invokevirtual 93, 3) := by decide +kernel
theorem dX11_tick_24 : decode cX11_tick 24 = .ok (.astore_n 2, 1) := by decide +kernel
theorem dX11_tick_25 : decode cX11_tick 25 = .ok (.aload_n 2, 1) := by decide +kernel
theorem dX11_tick_26 : decode cX11_tick 26 = .ok (.ifnonnull 9, 3) := by decide +kernel
theorem dX11_tick_29 : decode cX11_tick 29 = .ok (.sipush (-1004), 3) := by decide +kernel
theorem dX11_tick_32 : decode cX11_tick 32 = .ok (.goto 12, 3) := by decide +kernel
theorem dX11_tick_35 : decode cX11_tick 35 = .ok (.aload_n 0, 1) := by decide +kernel
theorem dX11_tick_36 : decode cX11_tick 36 = .ok (.getfield 22, 3) := by decide +kernel
theorem dX11_tick_39 : decode cX11_tick 39 = .ok (.aload_n 2, 1) := by decide +kernel
theorem dX11_tick_40 : decode cX11_tick 40 = .ok (.iload_n 1, 1) := by decide +kernel
theorem dX11_tick_41 : decode cX11_tick 41 = .ok (.invokevirtual 102, 3) := by decide +kernel
theorem dX11_tick_44 : decode cX11_tick 44 = .ok (.ireturn, 1) := by decide +kernel
theorem pyX11_tick : PY yX11_tick 1 := ⟨by decide +kernel, by decide +kernel, by decide +kernel⟩
def fX11_tick (Y : LY) (S : HS) (l0 : Option Nat) (l1 : Int32) : Option (HS × Int32) :=
  if l1 < 1 then
    some (S, (-1002))
  else
    if l1 ≤ 999 then
      (gR Y 11 1107 l0 S).bind fun v17 =>
      (rcv Y 8 v17).bind fun _ =>
      (fX8_nodeAt Y S v17 0).bind fun v21 =>
      if v21 = none then
        some (S, (-1004))
      else
        (gR Y 11 1102 l0 S).bind fun v36 =>
        (rcv Y 9 v36).bind fun _ =>
        (fX9_perform Y S v36 v21 l1).bind fun q41 =>
        some (q41.1, q41.2)
    else
      some (S, (-1002))
set_option maxRecDepth 100000 in
set_option maxHeartbeats 4000000 in
theorem mX11_tick (l : Launch) {G : GG} {Y : LY} {S : HS} {l0 : Option Nat} {l1 : Int32} {res : HS × Int32} (hf : fX11_tick Y S l0 l1 = some res) : MM l yX11_tick cX11_tick 3 (some .int) 7 172 G Y S [va_rf l0, .int l1] res.1 (some (.int res.2)) := by
  refine mm_of2 (plainFor_of_name (by decide +kernel)) (Nat.le_of_ble_eq_true rfl) (c1c (cr _) (c1c (ci _) c1n)) ?_
  intro p e R s m args below meth c X H locs ls hP hl
  have X : Cx p R s m args meth c RX11 cX11_tick 3 7 172 (fun q => q ∈ Y.1) G (some .int) := X
  have hx := X.1.1
  have hb := X.1.2.1
  have hl : LV ls 3 [(0, va_rf l0), (1, .int l1)] := hl
  unfold fX11_tick at hf
  refine lv_iload_n hx hb dX11_tick_0 rfl (hl.at 1 rfl) ?_
  refine lv_iconst (v := 1) hx hb dX11_tick_1 (by decide) ?_
  refine lv_icmp_lt hx hb (tgt := 12) dX11_tick_2 (by decide) (fun c2 => ?_) (fun c2 => ?_)
  · have hf := ifp hf c2
    refine lv_sipush (v := (-1002)) hx hb dX11_tick_12 (by decide) ?_
    cases hf
    exact rw_iret X dX11_tick_15 hP
  · have hf := ifn hf c2
    refine lv_iload_n hx hb dX11_tick_5 rfl (hl.at 1 rfl) ?_
    refine lv_sipush (v := 999) hx hb dX11_tick_6 (by decide) ?_
    refine lv_icmp_le hx hb (tgt := 16) dX11_tick_9 (by decide) (fun c9 => ?_) (fun c9 => ?_)
    · have hf := ifp hf c9
      refine rw_aload_n X dX11_tick_16 rfl (hl.at 0 rfl) ?_
      obtain ⟨v17, e17, hf⟩ := ob hf
      refine rw_getR X dX11_tick_17 fl11_49 e17 rfl hP ?_
      refine lv_iconst (v := 0) hx hb dX11_tick_20 (by decide) ?_
      obtain ⟨u21, r21, hf⟩ := ob hf
      obtain ⟨v21, e21, hf⟩ := ob hf
      refine rw_callVr (As := [.int 0]) X dX11_tick_21 clX11_93 pyX8_nodeAt (mX8_nodeAt l e21) (by decide) r21 rfl hP rfl (catL c1n (Nat.le_of_ble_eq_true rfl)) hl.1.1 (fun H locs hP => ?_)
      refine rv_astore_n X dX11_tick_24 rfl hl (by decide) rfl (fun ls hl => ?_)
      have hl : LV ls 3 [(2, va_rf v21), (0, va_rf l0), (1, .int l1)] := hl
      refine rw_aload_n X dX11_tick_25 rfl (hl.at 0 rfl) ?_
      refine rw_ifnonnull X (tgt := 35) dX11_tick_26 (by decide) (fun c26 => ?_) (fun c26 => ?_)
      · have hf := ifn hf c26
        refine rw_aload_n X dX11_tick_35 rfl (hl.at 1 rfl) ?_
        obtain ⟨v36, e36, hf⟩ := ob hf
        refine rw_getR X dX11_tick_36 fl11_22 e36 rfl hP ?_
        refine rw_aload_n X dX11_tick_39 rfl (hl.at 0 rfl) ?_
        refine lv_iload_n hx hb dX11_tick_40 rfl (hl.at 2 rfl) ?_
        obtain ⟨u41, r41, hf⟩ := ob hf
        obtain ⟨q41, e41, hf⟩ := ob hf
        refine rw_callVi (As := [va_rf v21, .int l1]) X dX11_tick_41 clX11_102 pyX9_perform (mX9_perform l e41) (by decide) r41 rfl hP rfl (catL c1n (Nat.le_of_ble_eq_true rfl)) hl.1.1 (fun H locs hP => ?_)
        cases hf
        exact rw_iret X dX11_tick_44 hP
      · have hf := ifp hf c26
        refine lv_sipush (v := (-1004)) hx hb dX11_tick_29 (by decide) ?_
        refine lv_goto (tgt := 44) hx hb dX11_tick_32 (by decide) ?_
        cases hf
        exact rw_iret X dX11_tick_44 hP
    · have hf := ifn hf c9
      refine lv_sipush (v := (-1002)) hx hb dX11_tick_12 (by decide) ?_
      cases hf
      exact rw_iret X dX11_tick_15 hP
theorem dX11_run_0 : decode cX11_run 0 = .ok (.iload_n 1, 1) := by decide +kernel
theorem dX11_run_1 : decode cX11_run 1 = .ok (.iconst 1, 1) := by decide +kernel
theorem dX11_run_2 : decode cX11_run 2 = .ok (.if_icmp .lt 9, 3) := by decide +kernel
theorem dX11_run_5 : decode cX11_run 5 = .ok (.iload_n 1, 1) := by decide +kernel
theorem dX11_run_6 : decode cX11_run 6 = .ok (.bipush 50, 2) := by decide +kernel
theorem dX11_run_8 : decode cX11_run 8 = .ok (.if_icmp .le 7, 3) := by decide +kernel
theorem dX11_run_11 : decode cX11_run 11 = .ok (.sipush (-1002), 3) := by decide +kernel
theorem dX11_run_14 : decode cX11_run 14 = .ok (.ireturn, 1) := by decide +kernel
theorem dX11_run_15 : decode cX11_run 15 = .ok (.aload_n 0, 1) := by decide +kernel
theorem dX11_run_16 : decode cX11_run 16 = .ok (.getfield 49, 3) := by decide +kernel
theorem dX11_run_19 : decode cX11_run 19 = .ok (.iconst 0, 1) := by decide +kernel
theorem dX11_run_20 : decode cX11_run 20 = .ok (.invokevirtual 93, 3) := by decide +kernel
theorem dX11_run_23 : decode cX11_run 23 = .ok (.astore_n 2, 1) := by decide +kernel
theorem dX11_run_24 : decode cX11_run 24 = .ok (.aload_n 2, 1) := by decide +kernel
theorem dX11_run_25 : decode cX11_run 25 = .ok (.ifnonnull 7, 3) := by decide +kernel
theorem dX11_run_28 : decode cX11_run 28 = .ok (.sipush (-1004), 3) := by decide +kernel
theorem dX11_run_31 : decode cX11_run 31 = .ok (.ireturn, 1) := by decide +kernel
theorem dX11_run_32 : decode cX11_run 32 = .ok (.iconst 1, 1) := by decide +kernel
theorem dX11_run_33 : decode cX11_run 33 = .ok (.istore_n 3, 1) := by decide +kernel
theorem dX11_run_34 : decode cX11_run 34 = .ok (.iconst 0, 1) := by decide +kernel
theorem dX11_run_35 : decode cX11_run 35 = .ok (.istore 4, 2) := by decide +kernel
theorem dX11_run_37 : decode cX11_run 37 = .ok (.iload 4, 2) := by decide +kernel
theorem dX11_run_39 : decode cX11_run 39 = .ok (.iload_n 1, 1) := by decide +kernel
theorem dX11_run_40 : decode cX11_run 40 = .ok (.if_icmp .ge 25, 3) := by decide +kernel
theorem dX11_run_43 : decode cX11_run 43 = .ok (.iload_n 3, 1) := by decide +kernel
theorem dX11_run_44 : decode cX11_run 44 = .ok (.iconst 1, 1) := by decide +kernel
theorem dX11_run_45 : decode cX11_run 45 = .ok (.if_icmp .ne 20, 3) := by decide +kernel
theorem dX11_run_48 : decode cX11_run 48 = .ok (.aload_n 0, 1) := by decide +kernel
theorem dX11_run_49 : decode cX11_run 49 = .ok (.getfield 22, 3) := by decide +kernel
theorem dX11_run_52 : decode cX11_run 52 = .ok (.aload_n 2, 1) := by decide +kernel
theorem dX11_run_53 : decode cX11_run 53 = .ok (.ldc 105, 2) := by decide +kernel
theorem dX11_run_55 : decode cX11_run 55 = .ok (.invokevirtual 102, 3) := by decide +kernel
theorem dX11_run_58 : decode cX11_run 58 = .ok (.istore_n 3, 1) := by decide +kernel
theorem dX11_run_59 : decode cX11_run 59 = .ok (.iinc 4 1, 3) := by decide +kernel
theorem dX11_run_62 : decode cX11_run 62 = .ok (.goto (-25), 3) := by decide +kernel
theorem dX11_run_65 : decode cX11_run 65 = .ok (.iload_n 3, 1) := by decide +kernel
theorem dX11_run_66 : decode cX11_run 66 = .ok (.ireturn, 1) := by decide +kernel
theorem pyX11_run : PY yX11_run 1 := ⟨by decide +kernel, by decide +kernel, by decide +kernel⟩
def fX11_run_37 (Y : LY) : Nat → HS → Option Nat → Int32 → Option Nat → Int32 → Int32 → Option (HS × Int32)
  | 0, _, _, _, _, _, _ => none
  | n + 1, S, l0, l1, l2, l3, l4 =>
    if l1 ≤ l4 then
      some (S, l3)
    else
      if l3 = 1 then
        (gR Y 11 1102 l0 S).bind fun v49 =>
        (rcv Y 9 v49).bind fun _ =>
        (fX9_perform Y S v49 l2 1000000).bind fun q55 =>
        fX11_run_37 Y n q55.1 l0 l1 l2 q55.2 (l4 + 1)
      else
        some (S, l3)
set_option maxRecDepth 100000 in
set_option maxHeartbeats 4000000 in
theorem wX11_run_37 {p : Program} {l : Launch} {e : Env} {R : Room} {s : State} {m : MethodId} {args : Array Value} {below : List Frame} {meth : Method} {c : Code} {G : GG} {Y : LY} {res : HS × Int32} (X : Cx p R s m args meth c RX11 cX11_run 5 7 172 (fun q => q ∈ Y.1) G (some .int)) : ∀ (n : Nat) (S : HS) (l0 : Option Nat) (l1 : Int32) (l2 : Option Nat) (l3 : Int32) (l4 : Int32), fX11_run_37 Y n S l0 l1 l2 l3 l4 = some res → ∀ (H : Heap) (locs : List Loc) (ls : Array Slot), HP (fun q => q ∈ Y.1) G Y s S H locs → LV ls 5 [(0, va_rf l0), (1, .int l1), (2, va_rf l2), (3, .int l3), (4, .int l4)] → W p l e R s m args below meth c H locs 0 0 (MQ below (QI G Y res.1 (some (.int res.2))) args s 0 0 (fun q => q ∈ Y.1)) (F0 m 37 ls []) := by
  have hx := X.1.1
  have hb := X.1.2.1
  intro n
  induction n with
  | zero =>
    intro S l0 l1 l2 l3 l4 hf
    cases hf
  | succ n ih =>
    intro S l0 l1 l2 l3 l4 hf H locs ls hP hl
    rw [fX11_run_37] at hf
    refine lv_iload hx hb dX11_run_37 (hl.at 4 rfl) ?_
    refine lv_iload_n hx hb dX11_run_39 rfl (hl.at 1 rfl) ?_
    refine lv_icmp_ge hx hb (tgt := 65) dX11_run_40 (by decide) (fun c40 => ?_) (fun c40 => ?_)
    · have hf := ifp hf c40
      refine lv_iload_n hx hb dX11_run_65 rfl (hl.at 3 rfl) ?_
      cases hf
      exact rw_iret X dX11_run_66 hP
    · have hf := ifn hf c40
      refine lv_iload_n hx hb dX11_run_43 rfl (hl.at 3 rfl) ?_
      refine lv_iconst (v := 1) hx hb dX11_run_44 (by decide) ?_
      refine lv_icmp_ne hx hb (tgt := 65) dX11_run_45 (by decide) (fun c45 => ?_) (fun c45 => ?_)
      · have hf := ifn hf c45
        refine lv_iload_n hx hb dX11_run_65 rfl (hl.at 3 rfl) ?_
        cases hf
        exact rw_iret X dX11_run_66 hP
      · have hf := ifp hf c45
        refine rw_aload_n X dX11_run_48 rfl (hl.at 0 rfl) ?_
        obtain ⟨v49, e49, hf⟩ := ob hf
        refine rw_getR X dX11_run_49 fl11_22 e49 rfl hP ?_
        refine rw_aload_n X dX11_run_52 rfl (hl.at 2 rfl) ?_
        refine rw_ldc X kX11_105 dX11_run_53 ?_
        obtain ⟨u55, r55, hf⟩ := ob hf
        obtain ⟨q55, e55, hf⟩ := ob hf
        refine rw_callVi (As := [va_rf l2, .int 1000000]) X dX11_run_55 clX11_102 pyX9_perform (mX9_perform l e55) (by decide) r55 rfl hP rfl (catL c1n (Nat.le_of_ble_eq_true rfl)) hl.1.1 (fun H locs hP => ?_)
        refine rv_istore_n X dX11_run_58 rfl hl (by decide) rfl (fun ls hl => ?_)
        have hl : LV ls 5 [(3, .int q55.2), (0, va_rf l0), (1, .int l1), (2, va_rf l2), (4, .int l4)] := hl
        refine rv_iinc (k := 4) (d := 1) X dX11_run_59 hl rfl (by decide) (by decide) rfl (fun ls hl => ?_)
        have hl : LV ls 5 [(4, .int (l4 + 1)), (3, .int q55.2), (0, va_rf l0), (1, .int l1), (2, va_rf l2)] := hl
        refine lv_goto (tgt := 37) hx hb dX11_run_62 (by decide) ?_
        exact ih q55.1 l0 l1 l2 q55.2 (l4 + 1) hf _ _ _ hP (hl.sub [2, 3, 4, 1, 0] rfl)
def fX11_run (Y : LY) (S : HS) (l0 : Option Nat) (l1 : Int32) : Option (HS × Int32) :=
  if l1 < 1 then
    some (S, (-1002))
  else
    if l1 ≤ 50 then
      (gR Y 11 1107 l0 S).bind fun v16 =>
      (rcv Y 8 v16).bind fun _ =>
      (fX8_nodeAt Y S v16 0).bind fun v20 =>
      if v20 = none then
        some (S, (-1004))
      else
        fX11_run_37 Y FU S l0 l1 v20 1 0
    else
      some (S, (-1002))
set_option maxRecDepth 100000 in
set_option maxHeartbeats 4000000 in
theorem mX11_run (l : Launch) {G : GG} {Y : LY} {S : HS} {l0 : Option Nat} {l1 : Int32} {res : HS × Int32} (hf : fX11_run Y S l0 l1 = some res) : MM l yX11_run cX11_run 5 (some .int) 7 172 G Y S [va_rf l0, .int l1] res.1 (some (.int res.2)) := by
  refine mm_of2 (plainFor_of_name (by decide +kernel)) (Nat.le_of_ble_eq_true rfl) (c1c (cr _) (c1c (ci _) c1n)) ?_
  intro p e R s m args below meth c X H locs ls hP hl
  have X : Cx p R s m args meth c RX11 cX11_run 5 7 172 (fun q => q ∈ Y.1) G (some .int) := X
  have hx := X.1.1
  have hb := X.1.2.1
  have hl : LV ls 5 [(0, va_rf l0), (1, .int l1)] := hl
  unfold fX11_run at hf
  refine lv_iload_n hx hb dX11_run_0 rfl (hl.at 1 rfl) ?_
  refine lv_iconst (v := 1) hx hb dX11_run_1 (by decide) ?_
  refine lv_icmp_lt hx hb (tgt := 11) dX11_run_2 (by decide) (fun c2 => ?_) (fun c2 => ?_)
  · have hf := ifp hf c2
    refine lv_sipush (v := (-1002)) hx hb dX11_run_11 (by decide) ?_
    cases hf
    exact rw_iret X dX11_run_14 hP
  · have hf := ifn hf c2
    refine lv_iload_n hx hb dX11_run_5 rfl (hl.at 1 rfl) ?_
    refine lv_bipush (v := 50) hx hb dX11_run_6 (by decide) ?_
    refine lv_icmp_le hx hb (tgt := 15) dX11_run_8 (by decide) (fun c8 => ?_) (fun c8 => ?_)
    · have hf := ifp hf c8
      refine rw_aload_n X dX11_run_15 rfl (hl.at 0 rfl) ?_
      obtain ⟨v16, e16, hf⟩ := ob hf
      refine rw_getR X dX11_run_16 fl11_49 e16 rfl hP ?_
      refine lv_iconst (v := 0) hx hb dX11_run_19 (by decide) ?_
      obtain ⟨u20, r20, hf⟩ := ob hf
      obtain ⟨v20, e20, hf⟩ := ob hf
      refine rw_callVr (As := [.int 0]) X dX11_run_20 clX11_93 pyX8_nodeAt (mX8_nodeAt l e20) (by decide) r20 rfl hP rfl (catL c1n (Nat.le_of_ble_eq_true rfl)) hl.1.1 (fun H locs hP => ?_)
      refine rv_astore_n X dX11_run_23 rfl hl (by decide) rfl (fun ls hl => ?_)
      have hl : LV ls 5 [(2, va_rf v20), (0, va_rf l0), (1, .int l1)] := hl
      refine rw_aload_n X dX11_run_24 rfl (hl.at 0 rfl) ?_
      refine rw_ifnonnull X (tgt := 32) dX11_run_25 (by decide) (fun c25 => ?_) (fun c25 => ?_)
      · have hf := ifn hf c25
        refine lv_iconst (v := 1) hx hb dX11_run_32 (by decide) ?_
        refine rv_istore_n X dX11_run_33 rfl hl (by decide) rfl (fun ls hl => ?_)
        have hl : LV ls 5 [(3, .int 1), (2, va_rf v20), (0, va_rf l0), (1, .int l1)] := hl
        refine lv_iconst (v := 0) hx hb dX11_run_34 (by decide) ?_
        refine rv_istore X dX11_run_35 hl (by decide) rfl (fun ls hl => ?_)
        have hl : LV ls 5 [(4, .int 0), (3, .int 1), (2, va_rf v20), (0, va_rf l0), (1, .int l1)] := hl
        exact wX11_run_37 X FU S l0 l1 v20 1 0 hf _ _ _ hP (hl.sub [3, 4, 2, 1, 0] rfl)
      · have hf := ifp hf c25
        refine lv_sipush (v := (-1004)) hx hb dX11_run_28 (by decide) ?_
        cases hf
        exact rw_iret X dX11_run_31 hP
    · have hf := ifn hf c8
      refine lv_sipush (v := (-1002)) hx hb dX11_run_11 (by decide) ?_
      cases hf
      exact rw_iret X dX11_run_14 hP
theorem dX11_foresee_0 : decode cX11_foresee 0 = .ok (.aload_n 0, 1) := by decide +kernel
theorem dX11_foresee_1 : decode cX11_foresee 1 = .ok (.getfield 49, 3) := by decide +kernel
theorem dX11_foresee_4 : decode cX11_foresee 4 = .ok (.iconst 0, 1) := by decide +kernel
theorem dX11_foresee_5 : decode cX11_foresee 5 = .ok (.invokevirtual 93, 3) := by decide +kernel
theorem dX11_foresee_8 : decode cX11_foresee 8 = .ok (.astore_n 1, 1) := by decide +kernel
theorem dX11_foresee_9 : decode cX11_foresee 9 = .ok (.aload_n 1, 1) := by decide +kernel
theorem dX11_foresee_10 : decode cX11_foresee 10 = .ok (.ifnonnull 7, 3) := by decide +kernel
theorem dX11_foresee_13 : decode cX11_foresee 13 = .ok (.sipush (-1004), 3) := by decide +kernel
theorem dX11_foresee_16 : decode cX11_foresee 16 = .ok (.ireturn, 1) := by decide +kernel
theorem dX11_foresee_17 : decode cX11_foresee 17 = .ok (.aload_n 0, 1) := by decide +kernel
theorem dX11_foresee_18 : decode cX11_foresee 18 = .ok (.getfield 43, 3) := by decide +kernel
theorem dX11_foresee_21 : decode cX11_foresee 21 = .ok (.aload_n 0, 1) := by decide +kernel
theorem dX11_foresee_22 : decode cX11_foresee 22 = .ok (.getfield 49, 3) := by decide +kernel
theorem dX11_foresee_25 : decode cX11_foresee 25 = .ok (.aload_n 0, 1) := by decide +kernel
theorem dX11_foresee_26 : decode cX11_foresee 26 = .ok (.getfield 30, 3) := by decide +kernel
theorem dX11_foresee_29 : decode cX11_foresee 29 = .ok (.aload_n 0, 1) := by decide +kernel
theorem dX11_foresee_30 : decode cX11_foresee 30 = .ok (.getfield 35, 3) := by decide +kernel
theorem dX11_foresee_33 : decode cX11_foresee 33 = .ok (.invokevirtual 106, 3) := by decide +kernel
theorem dX11_foresee_36 : decode cX11_foresee 36 = .ok (.aload_n 0, 1) := by decide +kernel
theorem dX11_foresee_37 : decode cX11_foresee 37 = .ok (.getfield 22, 3) := by decide +kernel
theorem dX11_foresee_40 : decode cX11_foresee 40 = .ok (.aload_n 1, 1) := by decide +kernel
theorem dX11_foresee_41 : decode cX11_foresee 41 = .ok (.ldc 105, 2) := by decide +kernel
theorem dX11_foresee_43 : decode cX11_foresee 43 = .ok (.invokevirtual 102, 3) := by decide +kernel
theorem dX11_foresee_46 : decode cX11_foresee 46 = .ok (.istore_n 2, 1) := by decide +kernel
theorem dX11_foresee_47 : decode cX11_foresee 47 = .ok (.aload_n 0, 1) := by decide +kernel
theorem dX11_foresee_48 : decode cX11_foresee 48 = .ok (.getfield 43, 3) := by decide +kernel
theorem dX11_foresee_51 : decode cX11_foresee 51 = .ok (.aload_n 0, 1) := by decide +kernel
theorem dX11_foresee_52 : decode cX11_foresee 52 = .ok (.getfield 49, 3) := by decide +kernel
theorem dX11_foresee_55 : decode cX11_foresee 55 = .ok (.aload_n 0, 1) := by decide +kernel
theorem dX11_foresee_56 : decode cX11_foresee 56 = .ok (.getfield 30, 3) := by decide +kernel
theorem dX11_foresee_59 : decode cX11_foresee 59 = .ok (.aload_n 0, 1) := by decide +kernel
theorem dX11_foresee_60 : decode cX11_foresee 60 = .ok (.getfield 35, 3) := by decide +kernel
theorem dX11_foresee_63 : decode cX11_foresee 63 = .ok (.invokevirtual 110, 3) := by decide +kernel
theorem dX11_foresee_66 : decode cX11_foresee 66 = .ok (.iload_n 2, 1) := by decide +kernel
theorem dX11_foresee_67 : decode cX11_foresee 67 = .ok (.ireturn, 1) := by decide +kernel
theorem pyX11_foresee : PY yX11_foresee 0 := ⟨by decide +kernel, by decide +kernel, by decide +kernel⟩
def fX11_foresee (Y : LY) (S : HS) (l0 : Option Nat) : Option (HS × Int32) :=
  (gR Y 11 1107 l0 S).bind fun v1 =>
  (rcv Y 8 v1).bind fun _ =>
  (fX8_nodeAt Y S v1 0).bind fun v5 =>
  if v5 = none then
    some (S, (-1004))
  else
    (gR Y 11 1106 l0 S).bind fun v18 =>
    (gR Y 11 1107 l0 S).bind fun v22 =>
    (gR Y 11 1103 l0 S).bind fun v26 =>
    (gR Y 11 1104 l0 S).bind fun v30 =>
    (rcv Y 6 v18).bind fun _ =>
    (fX6_take Y S v18 v22 v26 v30).bind fun S33 =>
    (gR Y 11 1102 l0 S33).bind fun v37 =>
    (rcv Y 9 v37).bind fun _ =>
    (fX9_perform Y S33 v37 v5 1000000).bind fun q43 =>
    (gR Y 11 1106 l0 q43.1).bind fun v48 =>
    (gR Y 11 1107 l0 q43.1).bind fun v52 =>
    (gR Y 11 1103 l0 q43.1).bind fun v56 =>
    (gR Y 11 1104 l0 q43.1).bind fun v60 =>
    (rcv Y 6 v48).bind fun _ =>
    (fX6_giveBack Y q43.1 v48 v52 v56 v60).bind fun S63 =>
    some (S63, q43.2)
set_option maxRecDepth 100000 in
set_option maxHeartbeats 4000000 in
theorem mX11_foresee (l : Launch) {G : GG} {Y : LY} {S : HS} {l0 : Option Nat} {res : HS × Int32} (hf : fX11_foresee Y S l0 = some res) : MM l yX11_foresee cX11_foresee 3 (some .int) 7 172 G Y S [va_rf l0] res.1 (some (.int res.2)) := by
  refine mm_of2 (plainFor_of_name (by decide +kernel)) (Nat.le_of_ble_eq_true rfl) (c1c (cr _) c1n) ?_
  intro p e R s m args below meth c X H locs ls hP hl
  have X : Cx p R s m args meth c RX11 cX11_foresee 3 7 172 (fun q => q ∈ Y.1) G (some .int) := X
  have hx := X.1.1
  have hb := X.1.2.1
  have hl : LV ls 3 [(0, va_rf l0)] := hl
  unfold fX11_foresee at hf
  refine rw_aload_n X dX11_foresee_0 rfl (hl.at 0 rfl) ?_
  obtain ⟨v1, e1, hf⟩ := ob hf
  refine rw_getR X dX11_foresee_1 fl11_49 e1 rfl hP ?_
  refine lv_iconst (v := 0) hx hb dX11_foresee_4 (by decide) ?_
  obtain ⟨u5, r5, hf⟩ := ob hf
  obtain ⟨v5, e5, hf⟩ := ob hf
  refine rw_callVr (As := [.int 0]) X dX11_foresee_5 clX11_93 pyX8_nodeAt (mX8_nodeAt l e5) (by decide) r5 rfl hP rfl (catL c1n (Nat.le_of_ble_eq_true rfl)) hl.1.1 (fun H locs hP => ?_)
  refine rv_astore_n X dX11_foresee_8 rfl hl (by decide) rfl (fun ls hl => ?_)
  have hl : LV ls 3 [(1, va_rf v5), (0, va_rf l0)] := hl
  refine rw_aload_n X dX11_foresee_9 rfl (hl.at 0 rfl) ?_
  refine rw_ifnonnull X (tgt := 17) dX11_foresee_10 (by decide) (fun c10 => ?_) (fun c10 => ?_)
  · have hf := ifn hf c10
    refine rw_aload_n X dX11_foresee_17 rfl (hl.at 1 rfl) ?_
    obtain ⟨v18, e18, hf⟩ := ob hf
    refine rw_getR X dX11_foresee_18 fl11_43 e18 rfl hP ?_
    refine rw_aload_n X dX11_foresee_21 rfl (hl.at 1 rfl) ?_
    obtain ⟨v22, e22, hf⟩ := ob hf
    refine rw_getR X dX11_foresee_22 fl11_49 e22 rfl hP ?_
    refine rw_aload_n X dX11_foresee_25 rfl (hl.at 1 rfl) ?_
    obtain ⟨v26, e26, hf⟩ := ob hf
    refine rw_getR X dX11_foresee_26 fl11_30 e26 rfl hP ?_
    refine rw_aload_n X dX11_foresee_29 rfl (hl.at 1 rfl) ?_
    obtain ⟨v30, e30, hf⟩ := ob hf
    refine rw_getR X dX11_foresee_30 fl11_35 e30 rfl hP ?_
    obtain ⟨u33, r33, hf⟩ := ob hf
    obtain ⟨S33, e33, hf⟩ := ob hf
    refine rw_callVv (As := [va_rf v22, va_rf v26, va_rf v30]) X dX11_foresee_33 clX11_106 pyX6_take (mX6_take l e33) (by decide) r33 rfl hP rfl (catL c1n (Nat.le_of_ble_eq_true rfl)) hl.1.1 (fun H locs hP => ?_)
    refine rw_aload_n X dX11_foresee_36 rfl (hl.at 1 rfl) ?_
    obtain ⟨v37, e37, hf⟩ := ob hf
    refine rw_getR X dX11_foresee_37 fl11_22 e37 rfl hP ?_
    refine rw_aload_n X dX11_foresee_40 rfl (hl.at 0 rfl) ?_
    refine rw_ldc X kX11_105 dX11_foresee_41 ?_
    obtain ⟨u43, r43, hf⟩ := ob hf
    obtain ⟨q43, e43, hf⟩ := ob hf
    refine rw_callVi (As := [va_rf v5, .int 1000000]) X dX11_foresee_43 clX11_102 pyX9_perform (mX9_perform l e43) (by decide) r43 rfl hP rfl (catL c1n (Nat.le_of_ble_eq_true rfl)) hl.1.1 (fun H locs hP => ?_)
    refine rv_istore_n X dX11_foresee_46 rfl hl (by decide) rfl (fun ls hl => ?_)
    have hl : LV ls 3 [(2, .int q43.2), (1, va_rf v5), (0, va_rf l0)] := hl
    refine rw_aload_n X dX11_foresee_47 rfl (hl.at 2 rfl) ?_
    obtain ⟨v48, e48, hf⟩ := ob hf
    refine rw_getR X dX11_foresee_48 fl11_43 e48 rfl hP ?_
    refine rw_aload_n X dX11_foresee_51 rfl (hl.at 2 rfl) ?_
    obtain ⟨v52, e52, hf⟩ := ob hf
    refine rw_getR X dX11_foresee_52 fl11_49 e52 rfl hP ?_
    refine rw_aload_n X dX11_foresee_55 rfl (hl.at 2 rfl) ?_
    obtain ⟨v56, e56, hf⟩ := ob hf
    refine rw_getR X dX11_foresee_56 fl11_30 e56 rfl hP ?_
    refine rw_aload_n X dX11_foresee_59 rfl (hl.at 2 rfl) ?_
    obtain ⟨v60, e60, hf⟩ := ob hf
    refine rw_getR X dX11_foresee_60 fl11_35 e60 rfl hP ?_
    obtain ⟨u63, r63, hf⟩ := ob hf
    obtain ⟨S63, e63, hf⟩ := ob hf
    refine rw_callVv (As := [va_rf v52, va_rf v56, va_rf v60]) X dX11_foresee_63 clX11_110 pyX6_giveBack (mX6_giveBack l e63) (by decide) r63 rfl hP rfl (catL c1n (Nat.le_of_ble_eq_true rfl)) hl.1.1 (fun H locs hP => ?_)
    refine lv_iload_n hx hb dX11_foresee_66 rfl (hl.at 0 rfl) ?_
    cases hf
    exact rw_iret X dX11_foresee_67 hP
  · have hf := ifp hf c10
    refine lv_sipush (v := (-1004)) hx hb dX11_foresee_13 (by decide) ?_
    cases hf
    exact rw_iret X dX11_foresee_16 hP
theorem dX11_ticksToGo_0 : decode cX11_ticksToGo 0 = .ok (.aload_n 0, 1) := by decide +kernel
theorem dX11_ticksToGo_1 : decode cX11_ticksToGo 1 = .ok (.getfield 49, 3) := by decide +kernel
theorem dX11_ticksToGo_4 : decode cX11_ticksToGo 4 = .ok (.iconst 0, 1) := by decide +kernel
theorem dX11_ticksToGo_5 : decode cX11_ticksToGo 5 = .ok (.invokevirtual 93, 3) := by decide +kernel
theorem dX11_ticksToGo_8 : decode cX11_ticksToGo 8 = .ok (.astore_n 1, 1) := by decide +kernel
theorem dX11_ticksToGo_9 : decode cX11_ticksToGo 9 = .ok (.aload_n 1, 1) := by decide +kernel
theorem dX11_ticksToGo_10 : decode cX11_ticksToGo 10 = .ok (.ifnonnull 7, 3) := by decide +kernel
theorem dX11_ticksToGo_13 : decode cX11_ticksToGo 13 = .ok (.sipush (-1004), 3) := by decide +kernel
theorem dX11_ticksToGo_16 : decode cX11_ticksToGo 16 = .ok (.ireturn, 1) := by decide +kernel
theorem dX11_ticksToGo_17 : decode cX11_ticksToGo 17 = .ok (.aload_n 0, 1) := by decide +kernel
theorem dX11_ticksToGo_18 : decode cX11_ticksToGo 18 = .ok (.getfield 43, 3) := by decide +kernel
theorem dX11_ticksToGo_21 : decode cX11_ticksToGo 21 = .ok (.aload_n 0, 1) := by decide +kernel
theorem dX11_ticksToGo_22 : decode cX11_ticksToGo 22 = .ok (.getfield 49, 3) := by decide +kernel
theorem dX11_ticksToGo_25 : decode cX11_ticksToGo 25 = .ok (.aload_n 0, 1) := by decide +kernel
theorem dX11_ticksToGo_26 : decode cX11_ticksToGo 26 = .ok (.getfield 30, 3) := by decide +kernel
theorem dX11_ticksToGo_29 : decode cX11_ticksToGo 29 = .ok (.aload_n 0, 1) := by decide +kernel
theorem dX11_ticksToGo_30 : decode cX11_ticksToGo 30 = .ok (.getfield 35, 3) := by decide +kernel
theorem dX11_ticksToGo_33 : decode cX11_ticksToGo 33 = .ok (.invokevirtual 106, 3) := by decide +kernel
theorem dX11_ticksToGo_36 : decode cX11_ticksToGo 36 = .ok (.iconst 1, 1) := by decide +kernel
theorem dX11_ticksToGo_37 : decode cX11_ticksToGo 37 = .ok (.istore_n 2, 1) := by decide +kernel
theorem dX11_ticksToGo_38 : decode cX11_ticksToGo 38 = .ok (.iconst 0, 1) := by decide +kernel
theorem dX11_ticksToGo_39 : decode cX11_ticksToGo 39 = .ok (.istore_n 3, 1) := by decide +kernel
theorem dX11_ticksToGo_40 : decode cX11_ticksToGo 40 = .ok (.iload_n 3, 1) := by decide +kernel
theorem dX11_ticksToGo_41 : decode cX11_ticksToGo 41 = .ok (.bipush 50, 2) := by decide +kernel
theorem dX11_ticksToGo_43 : decode cX11_ticksToGo 43 = .ok (.if_icmp .ge 25, 3) := by decide +kernel
theorem dX11_ticksToGo_46 : decode cX11_ticksToGo 46 = .ok (.iload_n 2, 1) := by decide +kernel
theorem dX11_ticksToGo_47 : decode cX11_ticksToGo 47 = .ok (.iconst 1, 1) := by decide +kernel
theorem dX11_ticksToGo_48 : decode cX11_ticksToGo 48 = .ok (.if_icmp .ne 20, 3) := by decide +kernel
theorem dX11_ticksToGo_51 : decode cX11_ticksToGo 51 = .ok (.iinc 3 1, 3) := by decide +kernel
theorem dX11_ticksToGo_54 : decode cX11_ticksToGo 54 = .ok (.aload_n 0, 1) := by decide +kernel
theorem dX11_ticksToGo_55 : decode cX11_ticksToGo 55 = .ok (.getfield 22, 3) := by decide +kernel
theorem dX11_ticksToGo_58 : decode cX11_ticksToGo 58 = .ok (.aload_n 1, 1) := by decide +kernel
theorem dX11_ticksToGo_59 : decode cX11_ticksToGo 59 = .ok (.ldc 105, 2) := by decide +kernel
theorem dX11_ticksToGo_61 : decode cX11_ticksToGo 61 = .ok (.invokevirtual 102, 3) := by decide +kernel
theorem dX11_ticksToGo_64 : decode cX11_ticksToGo 64 = .ok (.istore_n 2, 1) := by decide +kernel
theorem dX11_ticksToGo_65 : decode cX11_ticksToGo 65 = .ok (.goto (-25), 3) := by decide +kernel
theorem dX11_ticksToGo_68 : decode cX11_ticksToGo 68 = .ok (.aload_n 0, 1) := by decide +kernel
theorem dX11_ticksToGo_69 : decode cX11_ticksToGo 69 = .ok (.getfield 43, 3) := by decide +kernel
theorem dX11_ticksToGo_72 : decode cX11_ticksToGo 72 = .ok (.aload_n 0, 1) := by decide +kernel
theorem dX11_ticksToGo_73 : decode cX11_ticksToGo 73 = .ok (.getfield 49, 3) := by decide +kernel
theorem dX11_ticksToGo_76 : decode cX11_ticksToGo 76 = .ok (.aload_n 0, 1) := by decide +kernel
theorem dX11_ticksToGo_77 : decode cX11_ticksToGo 77 = .ok (.getfield 30, 3) := by decide +kernel
theorem dX11_ticksToGo_80 : decode cX11_ticksToGo 80 = .ok (.aload_n 0, 1) := by decide +kernel
theorem dX11_ticksToGo_81 : decode cX11_ticksToGo 81 = .ok (.getfield 35, 3) := by decide +kernel
theorem dX11_ticksToGo_84 : decode cX11_ticksToGo 84 = .ok (.invokevirtual 110, 3) := by decide +kernel
theorem dX11_ticksToGo_87 : decode cX11_ticksToGo 87 = .ok (.iload_n 2, 1) := by decide +kernel
theorem dX11_ticksToGo_88 : decode cX11_ticksToGo 88 = .ok (.iconst 1, 1) := by decide +kernel
theorem dX11_ticksToGo_89 : decode cX11_ticksToGo 89 = .ok (.if_icmp .ne 7, 3) := by decide +kernel
theorem dX11_ticksToGo_92 : decode cX11_ticksToGo 92 = .ok (.iconst 0, 1) := by decide +kernel
theorem dX11_ticksToGo_93 : decode cX11_ticksToGo 93 = .ok (.goto 4, 3) := by decide +kernel
theorem dX11_ticksToGo_96 : decode cX11_ticksToGo 96 = .ok (.iload_n 3, 1) := by decide +kernel
theorem dX11_ticksToGo_97 : decode cX11_ticksToGo 97 = .ok (.ireturn, 1) := by decide +kernel
theorem pyX11_ticksToGo : PY yX11_ticksToGo 0 := ⟨by decide +kernel, by decide +kernel, by decide +kernel⟩
def fX11_ticksToGo_68 (Y : LY) (S : HS) (l0 : Option Nat) (l2 : Int32) (l3 : Int32) : Option (HS × Int32) :=
  (gR Y 11 1106 l0 S).bind fun v69 =>
  (gR Y 11 1107 l0 S).bind fun v73 =>
  (gR Y 11 1103 l0 S).bind fun v77 =>
  (gR Y 11 1104 l0 S).bind fun v81 =>
  (rcv Y 6 v69).bind fun _ =>
  (fX6_giveBack Y S v69 v73 v77 v81).bind fun S84 =>
  if l2 = 1 then
    some (S84, 0)
  else
    some (S84, l3)
set_option maxRecDepth 100000 in
set_option maxHeartbeats 4000000 in
theorem wX11_ticksToGo_68 {p : Program} {l : Launch} {e : Env} {R : Room} {s : State} {m : MethodId} {args : Array Value} {below : List Frame} {meth : Method} {c : Code} {G : GG} {Y : LY} {res : HS × Int32} (X : Cx p R s m args meth c RX11 cX11_ticksToGo 4 7 172 (fun q => q ∈ Y.1) G (some .int)) : ∀ (S : HS) (l0 : Option Nat) (l2 : Int32) (l3 : Int32), fX11_ticksToGo_68 Y S l0 l2 l3 = some res → ∀ (H : Heap) (locs : List Loc) (ls : Array Slot), HP (fun q => q ∈ Y.1) G Y s S H locs → LV ls 4 [(0, va_rf l0), (2, .int l2), (3, .int l3)] → W p l e R s m args below meth c H locs 0 0 (MQ below (QI G Y res.1 (some (.int res.2))) args s 0 0 (fun q => q ∈ Y.1)) (F0 m 68 ls []) := by
  have hx := X.1.1
  have hb := X.1.2.1
  intro S l0 l2 l3 hf H locs ls hP hl
  unfold fX11_ticksToGo_68 at hf
  refine rw_aload_n X dX11_ticksToGo_68 rfl (hl.at 0 rfl) ?_
  obtain ⟨v69, e69, hf⟩ := ob hf
  refine rw_getR X dX11_ticksToGo_69 fl11_43 e69 rfl hP ?_
  refine rw_aload_n X dX11_ticksToGo_72 rfl (hl.at 0 rfl) ?_
  obtain ⟨v73, e73, hf⟩ := ob hf
  refine rw_getR X dX11_ticksToGo_73 fl11_49 e73 rfl hP ?_
  refine rw_aload_n X dX11_ticksToGo_76 rfl (hl.at 0 rfl) ?_
  obtain ⟨v77, e77, hf⟩ := ob hf
  refine rw_getR X dX11_ticksToGo_77 fl11_30 e77 rfl hP ?_
  refine rw_aload_n X dX11_ticksToGo_80 rfl (hl.at 0 rfl) ?_
  obtain ⟨v81, e81, hf⟩ := ob hf
  refine rw_getR X dX11_ticksToGo_81 fl11_35 e81 rfl hP ?_
  obtain ⟨u84, r84, hf⟩ := ob hf
  obtain ⟨S84, e84, hf⟩ := ob hf
  refine rw_callVv (As := [va_rf v73, va_rf v77, va_rf v81]) X dX11_ticksToGo_84 clX11_110 pyX6_giveBack (mX6_giveBack l e84) (by decide) r84 rfl hP rfl (catL c1n (Nat.le_of_ble_eq_true rfl)) hl.1.1 (fun H locs hP => ?_)
  refine lv_iload_n hx hb dX11_ticksToGo_87 rfl (hl.at 1 rfl) ?_
  refine lv_iconst (v := 1) hx hb dX11_ticksToGo_88 (by decide) ?_
  refine lv_icmp_ne hx hb (tgt := 96) dX11_ticksToGo_89 (by decide) (fun c89 => ?_) (fun c89 => ?_)
  · have hf := ifn hf c89
    refine lv_iload_n hx hb dX11_ticksToGo_96 rfl (hl.at 2 rfl) ?_
    cases hf
    exact rw_iret X dX11_ticksToGo_97 hP
  · have hf := ifp hf c89
    refine lv_iconst (v := 0) hx hb dX11_ticksToGo_92 (by decide) ?_
    refine lv_goto (tgt := 97) hx hb dX11_ticksToGo_93 (by decide) ?_
    cases hf
    exact rw_iret X dX11_ticksToGo_97 hP
def fX11_ticksToGo_40 (Y : LY) : Nat → HS → Option Nat → Option Nat → Int32 → Int32 → Option (HS × Int32)
  | 0, _, _, _, _, _ => none
  | n + 1, S, l0, l1, l2, l3 =>
    if 50 ≤ l3 then
      fX11_ticksToGo_68 Y S l0 l2 l3
    else
      if l2 = 1 then
        (gR Y 11 1102 l0 S).bind fun v55 =>
        (rcv Y 9 v55).bind fun _ =>
        (fX9_perform Y S v55 l1 1000000).bind fun q61 =>
        fX11_ticksToGo_40 Y n q61.1 l0 l1 q61.2 (l3 + 1)
      else
        fX11_ticksToGo_68 Y S l0 l2 l3
set_option maxRecDepth 100000 in
set_option maxHeartbeats 4000000 in
theorem wX11_ticksToGo_40 {p : Program} {l : Launch} {e : Env} {R : Room} {s : State} {m : MethodId} {args : Array Value} {below : List Frame} {meth : Method} {c : Code} {G : GG} {Y : LY} {res : HS × Int32} (X : Cx p R s m args meth c RX11 cX11_ticksToGo 4 7 172 (fun q => q ∈ Y.1) G (some .int)) : ∀ (n : Nat) (S : HS) (l0 : Option Nat) (l1 : Option Nat) (l2 : Int32) (l3 : Int32), fX11_ticksToGo_40 Y n S l0 l1 l2 l3 = some res → ∀ (H : Heap) (locs : List Loc) (ls : Array Slot), HP (fun q => q ∈ Y.1) G Y s S H locs → LV ls 4 [(0, va_rf l0), (1, va_rf l1), (2, .int l2), (3, .int l3)] → W p l e R s m args below meth c H locs 0 0 (MQ below (QI G Y res.1 (some (.int res.2))) args s 0 0 (fun q => q ∈ Y.1)) (F0 m 40 ls []) := by
  have hx := X.1.1
  have hb := X.1.2.1
  intro n
  induction n with
  | zero =>
    intro S l0 l1 l2 l3 hf
    cases hf
  | succ n ih =>
    intro S l0 l1 l2 l3 hf H locs ls hP hl
    rw [fX11_ticksToGo_40] at hf
    refine lv_iload_n hx hb dX11_ticksToGo_40 rfl (hl.at 3 rfl) ?_
    refine lv_bipush (v := 50) hx hb dX11_ticksToGo_41 (by decide) ?_
    refine lv_icmp_ge hx hb (tgt := 68) dX11_ticksToGo_43 (by decide) (fun c43 => ?_) (fun c43 => ?_)
    · have hf := ifp hf c43
      exact wX11_ticksToGo_68 X S l0 l2 l3 hf _ _ _ hP (hl.sub [0, 2, 3] rfl)
    · have hf := ifn hf c43
      refine lv_iload_n hx hb dX11_ticksToGo_46 rfl (hl.at 2 rfl) ?_
      refine lv_iconst (v := 1) hx hb dX11_ticksToGo_47 (by decide) ?_
      refine lv_icmp_ne hx hb (tgt := 68) dX11_ticksToGo_48 (by decide) (fun c48 => ?_) (fun c48 => ?_)
      · have hf := ifn hf c48
        exact wX11_ticksToGo_68 X S l0 l2 l3 hf _ _ _ hP (hl.sub [0, 2, 3] rfl)
      · have hf := ifp hf c48
        refine rv_iinc (k := 3) (d := 1) X dX11_ticksToGo_51 hl rfl (by decide) (by decide) rfl (fun ls hl => ?_)
        have hl : LV ls 4 [(3, .int (l3 + 1)), (0, va_rf l0), (1, va_rf l1), (2, .int l2)] := hl
        refine rw_aload_n X dX11_ticksToGo_54 rfl (hl.at 1 rfl) ?_
        obtain ⟨v55, e55, hf⟩ := ob hf
        refine rw_getR X dX11_ticksToGo_55 fl11_22 e55 rfl hP ?_
        refine rw_aload_n X dX11_ticksToGo_58 rfl (hl.at 2 rfl) ?_
        refine rw_ldc X kX11_105 dX11_ticksToGo_59 ?_
        obtain ⟨u61, r61, hf⟩ := ob hf
        obtain ⟨q61, e61, hf⟩ := ob hf
        refine rw_callVi (As := [va_rf l1, .int 1000000]) X dX11_ticksToGo_61 clX11_102 pyX9_perform (mX9_perform l e61) (by decide) r61 rfl hP rfl (catL c1n (Nat.le_of_ble_eq_true rfl)) hl.1.1 (fun H locs hP => ?_)
        refine rv_istore_n X dX11_ticksToGo_64 rfl hl (by decide) rfl (fun ls hl => ?_)
        have hl : LV ls 4 [(2, .int q61.2), (3, .int (l3 + 1)), (0, va_rf l0), (1, va_rf l1)] := hl
        refine lv_goto (tgt := 40) hx hb dX11_ticksToGo_65 (by decide) ?_
        exact ih q61.1 l0 l1 q61.2 (l3 + 1) hf _ _ _ hP (hl.sub [2, 3, 0, 1] rfl)
def fX11_ticksToGo (Y : LY) (S : HS) (l0 : Option Nat) : Option (HS × Int32) :=
  (gR Y 11 1107 l0 S).bind fun v1 =>
  (rcv Y 8 v1).bind fun _ =>
  (fX8_nodeAt Y S v1 0).bind fun v5 =>
  if v5 = none then
    some (S, (-1004))
  else
    (gR Y 11 1106 l0 S).bind fun v18 =>
    (gR Y 11 1107 l0 S).bind fun v22 =>
    (gR Y 11 1103 l0 S).bind fun v26 =>
    (gR Y 11 1104 l0 S).bind fun v30 =>
    (rcv Y 6 v18).bind fun _ =>
    (fX6_take Y S v18 v22 v26 v30).bind fun S33 =>
    fX11_ticksToGo_40 Y FU S33 l0 v5 1 0
set_option maxRecDepth 100000 in
set_option maxHeartbeats 4000000 in
theorem mX11_ticksToGo (l : Launch) {G : GG} {Y : LY} {S : HS} {l0 : Option Nat} {res : HS × Int32} (hf : fX11_ticksToGo Y S l0 = some res) : MM l yX11_ticksToGo cX11_ticksToGo 4 (some .int) 7 172 G Y S [va_rf l0] res.1 (some (.int res.2)) := by
  refine mm_of2 (plainFor_of_name (by decide +kernel)) (Nat.le_of_ble_eq_true rfl) (c1c (cr _) c1n) ?_
  intro p e R s m args below meth c X H locs ls hP hl
  have X : Cx p R s m args meth c RX11 cX11_ticksToGo 4 7 172 (fun q => q ∈ Y.1) G (some .int) := X
  have hx := X.1.1
  have hb := X.1.2.1
  have hl : LV ls 4 [(0, va_rf l0)] := hl
  unfold fX11_ticksToGo at hf
  refine rw_aload_n X dX11_ticksToGo_0 rfl (hl.at 0 rfl) ?_
  obtain ⟨v1, e1, hf⟩ := ob hf
  refine rw_getR X dX11_ticksToGo_1 fl11_49 e1 rfl hP ?_
  refine lv_iconst (v := 0) hx hb dX11_ticksToGo_4 (by decide) ?_
  obtain ⟨u5, r5, hf⟩ := ob hf
  obtain ⟨v5, e5, hf⟩ := ob hf
  refine rw_callVr (As := [.int 0]) X dX11_ticksToGo_5 clX11_93 pyX8_nodeAt (mX8_nodeAt l e5) (by decide) r5 rfl hP rfl (catL c1n (Nat.le_of_ble_eq_true rfl)) hl.1.1 (fun H locs hP => ?_)
  refine rv_astore_n X dX11_ticksToGo_8 rfl hl (by decide) rfl (fun ls hl => ?_)
  have hl : LV ls 4 [(1, va_rf v5), (0, va_rf l0)] := hl
  refine rw_aload_n X dX11_ticksToGo_9 rfl (hl.at 0 rfl) ?_
  refine rw_ifnonnull X (tgt := 17) dX11_ticksToGo_10 (by decide) (fun c10 => ?_) (fun c10 => ?_)
  · have hf := ifn hf c10
    refine rw_aload_n X dX11_ticksToGo_17 rfl (hl.at 1 rfl) ?_
    obtain ⟨v18, e18, hf⟩ := ob hf
    refine rw_getR X dX11_ticksToGo_18 fl11_43 e18 rfl hP ?_
    refine rw_aload_n X dX11_ticksToGo_21 rfl (hl.at 1 rfl) ?_
    obtain ⟨v22, e22, hf⟩ := ob hf
    refine rw_getR X dX11_ticksToGo_22 fl11_49 e22 rfl hP ?_
    refine rw_aload_n X dX11_ticksToGo_25 rfl (hl.at 1 rfl) ?_
    obtain ⟨v26, e26, hf⟩ := ob hf
    refine rw_getR X dX11_ticksToGo_26 fl11_30 e26 rfl hP ?_
    refine rw_aload_n X dX11_ticksToGo_29 rfl (hl.at 1 rfl) ?_
    obtain ⟨v30, e30, hf⟩ := ob hf
    refine rw_getR X dX11_ticksToGo_30 fl11_35 e30 rfl hP ?_
    obtain ⟨u33, r33, hf⟩ := ob hf
    obtain ⟨S33, e33, hf⟩ := ob hf
    refine rw_callVv (As := [va_rf v22, va_rf v26, va_rf v30]) X dX11_ticksToGo_33 clX11_106 pyX6_take (mX6_take l e33) (by decide) r33 rfl hP rfl (catL c1n (Nat.le_of_ble_eq_true rfl)) hl.1.1 (fun H locs hP => ?_)
    refine lv_iconst (v := 1) hx hb dX11_ticksToGo_36 (by decide) ?_
    refine rv_istore_n X dX11_ticksToGo_37 rfl hl (by decide) rfl (fun ls hl => ?_)
    have hl : LV ls 4 [(2, .int 1), (1, va_rf v5), (0, va_rf l0)] := hl
    refine lv_iconst (v := 0) hx hb dX11_ticksToGo_38 (by decide) ?_
    refine rv_istore_n X dX11_ticksToGo_39 rfl hl (by decide) rfl (fun ls hl => ?_)
    have hl : LV ls 4 [(3, .int 0), (2, .int 1), (1, va_rf v5), (0, va_rf l0)] := hl
    exact wX11_ticksToGo_40 X FU S33 l0 v5 1 0 hf _ _ _ hP (hl.sub [3, 2, 1, 0] rfl)
  · have hf := ifp hf c10
    refine lv_sipush (v := (-1004)) hx hb dX11_ticksToGo_13 (by decide) ?_
    cases hf
    exact rw_iret X dX11_ticksToGo_16 hP
theorem dX11_abort_0 : decode cX11_abort 0 = .ok (.aload_n 0, 1) := by decide +kernel
theorem dX11_abort_1 : decode cX11_abort 1 = .ok (.getfield 49, 3) := by decide +kernel
theorem dX11_abort_4 : decode cX11_abort 4 = .ok (.iconst 0, 1) := by decide +kernel
theorem dX11_abort_5 : decode cX11_abort 5 = .ok (.invokevirtual 93, 3) := by decide +kernel
theorem dX11_abort_8 : decode cX11_abort 8 = .ok (.astore_n 1, 1) := by decide +kernel
theorem dX11_abort_9 : decode cX11_abort 9 = .ok (.aload_n 1, 1) := by decide +kernel
theorem dX11_abort_10 : decode cX11_abort 10 = .ok (.ifnonnull 7, 3) := by decide +kernel
theorem dX11_abort_13 : decode cX11_abort 13 = .ok (.sipush (-1004), 3) := by decide +kernel
theorem dX11_abort_16 : decode cX11_abort 16 = .ok (.ireturn, 1) := by decide +kernel
theorem dX11_abort_17 : decode cX11_abort 17 = .ok (.aload_n 0, 1) := by decide +kernel
theorem dX11_abort_18 : decode cX11_abort 18 = .ok (.getfield 35, 3) := by decide +kernel
theorem dX11_abort_21 : decode cX11_abort 21 = .ok (.getfield 113, 3) := by decide +kernel
theorem dX11_abort_24 : decode cX11_abort 24 = .ok (.istore_n 2, 1) := by decide +kernel
theorem dX11_abort_25 : decode cX11_abort 25 = .ok (.aload_n 0, 1) := by decide +kernel
theorem dX11_abort_26 : decode cX11_abort 26 = .ok (.getfield 22, 3) := by decide +kernel
theorem dX11_abort_29 : decode cX11_abort 29 = .ok (.aload_n 1, 1) := by decide +kernel
theorem dX11_abort_30 : decode cX11_abort 30 = .ok (.aload_n 1, 1) := by decide +kernel
theorem dX11_abort_31 : decode cX11_abort 31 = .ok (.invokevirtual 116, 3) := by decide +kernel
theorem dX11_abort_34 : decode cX11_abort 34 = .ok (.aload_n 0, 1) := by decide +kernel
theorem dX11_abort_35 : decode cX11_abort 35 = .ok (.getfield 35, 3) := by decide +kernel
theorem dX11_abort_38 : decode cX11_abort 38 = .ok (.aconst_null, 1) := by decide +kernel
theorem dX11_abort_39 : decode cX11_abort 39 = .ok (.putfield 120, 3) := by decide +kernel
theorem dX11_abort_42 : decode cX11_abort 42 = .ok (.aload_n 0, 1) := by decide +kernel
theorem dX11_abort_43 : decode cX11_abort 43 = .ok (.getfield 35, 3) := by decide +kernel
theorem dX11_abort_46 : decode cX11_abort 46 = .ok (.getfield 113, 3) := by decide +kernel
theorem dX11_abort_49 : decode cX11_abort 49 = .ok (.iload_n 2, 1) := by decide +kernel
theorem dX11_abort_50 : decode cX11_abort 50 = .ok (.isub, 1) := by decide +kernel
theorem dX11_abort_51 : decode cX11_abort 51 = .ok (.ireturn, 1) := by decide +kernel
theorem pyX11_abort : PY yX11_abort 0 := ⟨by decide +kernel, by decide +kernel, by decide +kernel⟩
def fX11_abort (Y : LY) (S : HS) (l0 : Option Nat) : Option (HS × Int32) :=
  (gR Y 11 1107 l0 S).bind fun v1 =>
  (rcv Y 8 v1).bind fun _ =>
  (fX8_nodeAt Y S v1 0).bind fun v5 =>
  if v5 = none then
    some (S, (-1004))
  else
    (gR Y 11 1104 l0 S).bind fun v18 =>
    (gI Y 2 205 v18 S).bind fun v21 =>
    (gR Y 11 1102 l0 S).bind fun v26 =>
    (rcv Y 9 v26).bind fun _ =>
    (fX9_stopBack Y S v26 v5 v5).bind fun S31 =>
    (gR Y 11 1104 l0 S31).bind fun v35 =>
    (pR Y 2 200 v35 none S31).bind fun S39 =>
    (gR Y 11 1104 l0 S39).bind fun v43 =>
    (gI Y 2 205 v43 S39).bind fun v46 =>
    some (S39, (v46 - v21))
set_option maxRecDepth 100000 in
set_option maxHeartbeats 4000000 in
theorem mX11_abort (l : Launch) {G : GG} {Y : LY} {S : HS} {l0 : Option Nat} {res : HS × Int32} (hf : fX11_abort Y S l0 = some res) : MM l yX11_abort cX11_abort 3 (some .int) 4 98 G Y S [va_rf l0] res.1 (some (.int res.2)) := by
  refine mm_of2 (plainFor_of_name (by decide +kernel)) (Nat.le_of_ble_eq_true rfl) (c1c (cr _) c1n) ?_
  intro p e R s m args below meth c X H locs ls hP hl
  have X : Cx p R s m args meth c RX11 cX11_abort 3 4 98 (fun q => q ∈ Y.1) G (some .int) := X
  have hx := X.1.1
  have hb := X.1.2.1
  have hl : LV ls 3 [(0, va_rf l0)] := hl
  unfold fX11_abort at hf
  refine rw_aload_n X dX11_abort_0 rfl (hl.at 0 rfl) ?_
  obtain ⟨v1, e1, hf⟩ := ob hf
  refine rw_getR X dX11_abort_1 fl11_49 e1 rfl hP ?_
  refine lv_iconst (v := 0) hx hb dX11_abort_4 (by decide) ?_
  obtain ⟨u5, r5, hf⟩ := ob hf
  obtain ⟨v5, e5, hf⟩ := ob hf
  refine rw_callVr (As := [.int 0]) X dX11_abort_5 clX11_93 pyX8_nodeAt (mX8_nodeAt l e5) (by decide) r5 rfl hP rfl (catL c1n (Nat.le_of_ble_eq_true rfl)) hl.1.1 (fun H locs hP => ?_)
  refine rv_astore_n X dX11_abort_8 rfl hl (by decide) rfl (fun ls hl => ?_)
  have hl : LV ls 3 [(1, va_rf v5), (0, va_rf l0)] := hl
  refine rw_aload_n X dX11_abort_9 rfl (hl.at 0 rfl) ?_
  refine rw_ifnonnull X (tgt := 17) dX11_abort_10 (by decide) (fun c10 => ?_) (fun c10 => ?_)
  · have hf := ifn hf c10
    refine rw_aload_n X dX11_abort_17 rfl (hl.at 1 rfl) ?_
    obtain ⟨v18, e18, hf⟩ := ob hf
    refine rw_getR X dX11_abort_18 fl11_35 e18 rfl hP ?_
    obtain ⟨v21, e21, hf⟩ := ob hf
    refine rw_getI X dX11_abort_21 fl11_113 e21 rfl hP ?_
    refine rv_istore_n X dX11_abort_24 rfl hl (by decide) rfl (fun ls hl => ?_)
    have hl : LV ls 3 [(2, .int v21), (1, va_rf v5), (0, va_rf l0)] := hl
    refine rw_aload_n X dX11_abort_25 rfl (hl.at 2 rfl) ?_
    obtain ⟨v26, e26, hf⟩ := ob hf
    refine rw_getR X dX11_abort_26 fl11_22 e26 rfl hP ?_
    refine rw_aload_n X dX11_abort_29 rfl (hl.at 1 rfl) ?_
    refine rw_aload_n X dX11_abort_30 rfl (hl.at 1 rfl) ?_
    obtain ⟨u31, r31, hf⟩ := ob hf
    obtain ⟨S31, e31, hf⟩ := ob hf
    refine rw_callVv (As := [va_rf v5, va_rf v5]) X dX11_abort_31 clX11_116 pyX9_stopBack (mX9_stopBack l e31) (by decide) r31 rfl hP rfl (catL c1n (Nat.le_of_ble_eq_true rfl)) hl.1.1 (fun H locs hP => ?_)
    refine rw_aload_n X dX11_abort_34 rfl (hl.at 2 rfl) ?_
    obtain ⟨v35, e35, hf⟩ := ob hf
    refine rw_getR X dX11_abort_35 fl11_35 e35 rfl hP ?_
    refine lv_null hx hb dX11_abort_38 ?_
    refine W.eq (g2 := F0 m 39 ls (va_rf none :: (va_rf v35 :: []))) rfl ?_
    obtain ⟨S39, e39, hf⟩ := ob hf
    refine rw_putR X dX11_abort_39 fl11_120 fw2_0 e39 rfl hP (fun H locs hP => ?_)
    refine rw_aload_n X dX11_abort_42 rfl (hl.at 2 rfl) ?_
    obtain ⟨v43, e43, hf⟩ := ob hf
    refine rw_getR X dX11_abort_43 fl11_35 e43 rfl hP ?_
    obtain ⟨v46, e46, hf⟩ := ob hf
    refine rw_getI X dX11_abort_46 fl11_113 e46 rfl hP ?_
    refine lv_iload_n hx hb dX11_abort_49 rfl (hl.at 0 rfl) ?_
    refine lv_isub hx hb dX11_abort_50 ?_
    cases hf
    exact rw_iret X dX11_abort_51 hP
  · have hf := ifp hf c10
    refine lv_sipush (v := (-1004)) hx hb dX11_abort_13 (by decide) ?_
    cases hf
    exact rw_iret X dX11_abort_16 hP
theorem dX11_node_0 : decode cX11_node 0 = .ok (.aload_n 0, 1) := by decide +kernel
theorem dX11_node_1 : decode cX11_node 1 = .ok (.getfield 49, 3) := by decide +kernel
theorem dX11_node_4 : decode cX11_node 4 = .ok (.iload_n 1, 1) := by decide +kernel
theorem dX11_node_5 : decode cX11_node 5 = .ok (.invokevirtual 93, 3) := by decide +kernel
theorem dX11_node_8 : decode cX11_node 8 = .ok (.astore_n 3, 1) := by decide +kernel
theorem dX11_node_9 : decode cX11_node 9 = .ok (.aload_n 3, 1) := by decide +kernel
theorem dX11_node_10 : decode cX11_node 10 = .ok (.ifnonnull 7, 3) := by decide +kernel
theorem dX11_node_13 : decode cX11_node 13 = .ok (.sipush (-1001), 3) := by decide +kernel
theorem dX11_node_16 : decode cX11_node 16 = .ok (.ireturn, 1) := by decide +kernel
theorem dX11_node_17 : decode cX11_node 17 = .ok (.aload_n 3, 1) := by decide +kernel
theorem dX11_node_18 : decode cX11_node 18 = .ok (.getfield 124, 3) := by decide +kernel
theorem dX11_node_21 : decode cX11_node 21 = .ok (.astore 4, 2) := by decide +kernel
theorem dX11_node_23 : decode cX11_node 23 = .ok (.iload_n 2, 1) := by decide +kernel
theorem dX11_node_24 : decode cX11_node 24 = .ok (.tableswitch 153 0 11 #[64, 69, 88, 93, 107, 112, 118, 124, 130, 136, 142, 147], 64) := by decide +kernel
theorem dX11_node_88 : decode cX11_node 88 = .ok (.aload_n 3, 1) := by decide +kernel
theorem dX11_node_89 : decode cX11_node 89 = .ok (.getfield 128, 3) := by decide +kernel
theorem dX11_node_92 : decode cX11_node 92 = .ok (.ireturn, 1) := by decide +kernel
theorem dX11_node_93 : decode cX11_node 93 = .ok (.aload_n 3, 1) := by decide +kernel
theorem dX11_node_94 : decode cX11_node 94 = .ok (.getfield 131, 3) := by decide +kernel
theorem dX11_node_97 : decode cX11_node 97 = .ok (.ifnonnull 7, 3) := by decide +kernel
theorem dX11_node_100 : decode cX11_node 100 = .ok (.iconst (-1), 1) := by decide +kernel
theorem dX11_node_101 : decode cX11_node 101 = .ok (.goto 10, 3) := by decide +kernel
theorem dX11_node_104 : decode cX11_node 104 = .ok (.aload_n 3, 1) := by decide +kernel
theorem dX11_node_105 : decode cX11_node 105 = .ok (.getfield 131, 3) := by decide +kernel
theorem dX11_node_108 : decode cX11_node 108 = .ok (.getfield 134, 3) := by decide +kernel
theorem dX11_node_111 : decode cX11_node 111 = .ok (.ireturn, 1) := by decide +kernel
theorem dX11_node_112 : decode cX11_node 112 = .ok (.aload_n 3, 1) := by decide +kernel
theorem dX11_node_113 : decode cX11_node 113 = .ok (.getfield 137, 3) := by decide +kernel
theorem dX11_node_116 : decode cX11_node 116 = .ok (.ireturn, 1) := by decide +kernel
theorem dX11_node_117 : decode cX11_node 117 = .ok (.aload 4, 2) := by decide +kernel
theorem dX11_node_119 : decode cX11_node 119 = .ok (.getfield 140, 3) := by decide +kernel
theorem dX11_node_122 : decode cX11_node 122 = .ok (.ifCond .eq 7, 3) := by decide +kernel
theorem dX11_node_125 : decode cX11_node 125 = .ok (.iconst 1, 1) := by decide +kernel
theorem dX11_node_126 : decode cX11_node 126 = .ok (.goto 4, 3) := by decide +kernel
theorem dX11_node_129 : decode cX11_node 129 = .ok (.iconst 0, 1) := by decide +kernel
theorem dX11_node_130 : decode cX11_node 130 = .ok (.ireturn, 1) := by decide +kernel
theorem dX11_node_131 : decode cX11_node 131 = .ok (.aload_n 3, 1) := by decide +kernel
theorem dX11_node_132 : decode cX11_node 132 = .ok (.getfield 145, 3) := by decide +kernel
theorem dX11_node_135 : decode cX11_node 135 = .ok (.ireturn, 1) := by decide +kernel
theorem dX11_node_136 : decode cX11_node 136 = .ok (.aload 4, 2) := by decide +kernel
theorem dX11_node_138 : decode cX11_node 138 = .ok (.getfield 148, 3) := by decide +kernel
theorem dX11_node_141 : decode cX11_node 141 = .ok (.ireturn, 1) := by decide +kernel
theorem dX11_node_142 : decode cX11_node 142 = .ok (.aload 4, 2) := by decide +kernel
theorem dX11_node_144 : decode cX11_node 144 = .ok (.getfield 151, 3) := by decide +kernel
theorem dX11_node_147 : decode cX11_node 147 = .ok (.ireturn, 1) := by decide +kernel
theorem dX11_node_148 : decode cX11_node 148 = .ok (.aload 4, 2) := by decide +kernel
theorem dX11_node_150 : decode cX11_node 150 = .ok (.getfield 154, 3) := by decide +kernel
theorem dX11_node_153 : decode cX11_node 153 = .ok (.ireturn, 1) := by decide +kernel
theorem dX11_node_154 : decode cX11_node 154 = .ok (.aload 4, 2) := by decide +kernel
theorem dX11_node_156 : decode cX11_node 156 = .ok (.getfield 157, 3) := by decide +kernel
theorem dX11_node_159 : decode cX11_node 159 = .ok (.ireturn, 1) := by decide +kernel
theorem dX11_node_160 : decode cX11_node 160 = .ok (.aload 4, 2) := by decide +kernel
theorem dX11_node_162 : decode cX11_node 162 = .ok (.getfield 158, 3) := by decide +kernel
theorem dX11_node_165 : decode cX11_node 165 = .ok (.ireturn, 1) := by decide +kernel
theorem dX11_node_166 : decode cX11_node 166 = .ok (.aload_n 3, 1) := by decide +kernel
theorem dX11_node_167 : decode cX11_node 167 = .ok (.getfield 161, 3) := by decide +kernel
theorem dX11_node_170 : decode cX11_node 170 = .ok (.ireturn, 1) := by decide +kernel
theorem dX11_node_171 : decode cX11_node 171 = .ok (.aload 4, 2) := by decide +kernel
theorem dX11_node_173 : decode cX11_node 173 = .ok (.getfield 164, 3) := by decide +kernel
theorem dX11_node_176 : decode cX11_node 176 = .ok (.ireturn, 1) := by decide +kernel
theorem dX11_node_177 : decode cX11_node 177 = .ok (.sipush (-1002), 3) := by decide +kernel
theorem dX11_node_180 : decode cX11_node 180 = .ok (.ireturn, 1) := by decide +kernel
theorem pyX11_node : PY yX11_node 2 := ⟨by decide +kernel, by decide +kernel, by decide +kernel⟩
def fX11_node (Y : LY) (S : HS) (l0 : Option Nat) (l1 : Int32) (l2 : Int32) : Option (Int32) :=
  (gR Y 11 1107 l0 S).bind fun v1 =>
  (rcv Y 8 v1).bind fun _ =>
  (fX8_nodeAt Y S v1 l1).bind fun v5 =>
  if v5 = none then
    some (-1001)
  else
    (gR Y 4 403 v5 S).bind fun v18 =>
    if l2 = 0 then
      (gI Y 4 404 v5 S).bind fun v89 =>
      some v89
    else
    if l2 = 1 then
      (gR Y 4 409 v5 S).bind fun v94 =>
      if v94 = none then
        some (-1)
      else
        (gR Y 4 409 v5 S).bind fun v105 =>
        (gI Y 4 400 v105 S).bind fun v108 =>
        some v108
    else
    if l2 = 2 then
      (gI Y 4 407 v5 S).bind fun v113 =>
      some v113
    else
    if l2 = 3 then
      (gI Y 3 300 v18 S).bind fun v119 =>
      if v119 = 0 then
        some 0
      else
        some 1
    else
    if l2 = 4 then
      (gI Y 4 405 v5 S).bind fun v132 =>
      some v132
    else
    if l2 = 5 then
      (gI Y 3 305 v18 S).bind fun v138 =>
      some v138
    else
    if l2 = 6 then
      (gI Y 3 306 v18 S).bind fun v144 =>
      some v144
    else
    if l2 = 7 then
      (gI Y 3 307 v18 S).bind fun v150 =>
      some v150
    else
    if l2 = 8 then
      (gI Y 3 308 v18 S).bind fun v156 =>
      some v156
    else
    if l2 = 9 then
      (gI Y 3 309 v18 S).bind fun v162 =>
      some v162
    else
    if l2 = 10 then
      (gI Y 4 406 v5 S).bind fun v167 =>
      some v167
    else
    if l2 = 11 then
      (gI Y 3 304 v18 S).bind fun v173 =>
      some v173
    else
    some (-1002)
set_option maxRecDepth 100000 in
set_option maxHeartbeats 4000000 in
theorem mX11_node (l : Launch) {G : GG} {Y : LY} {S : HS} {l0 : Option Nat} {l1 : Int32} {l2 : Int32} {res : Int32} (hf : fX11_node Y S l0 l1 l2 = some res) : MM l yX11_node cX11_node 5 (some .int) 1 21 G Y S [va_rf l0, .int l1, .int l2] S (some (.int res)) := by
  refine mm_of2 (plainFor_of_name (by decide +kernel)) (Nat.le_of_ble_eq_true rfl) (c1c (cr _) (c1c (ci _) (c1c (ci _) c1n))) ?_
  intro p e R s m args below meth c X H locs ls hP hl
  have X : Cx p R s m args meth c RX11 cX11_node 5 1 21 (fun q => q ∈ Y.1) G (some .int) := X
  have hx := X.1.1
  have hb := X.1.2.1
  have hl : LV ls 5 [(0, va_rf l0), (1, .int l1), (2, .int l2)] := hl
  unfold fX11_node at hf
  refine rw_aload_n X dX11_node_0 rfl (hl.at 0 rfl) ?_
  obtain ⟨v1, e1, hf⟩ := ob hf
  refine rw_getR X dX11_node_1 fl11_49 e1 rfl hP ?_
  refine lv_iload_n hx hb dX11_node_4 rfl (hl.at 1 rfl) ?_
  obtain ⟨u5, r5, hf⟩ := ob hf
  obtain ⟨v5, e5, hf⟩ := ob hf
  refine rw_callVr (As := [.int l1]) X dX11_node_5 clX11_93 pyX8_nodeAt (mX8_nodeAt l e5) (by decide) r5 rfl hP rfl (catL c1n (Nat.le_of_ble_eq_true rfl)) hl.1.1 (fun H locs hP => ?_)
  refine rv_astore_n X dX11_node_8 rfl hl (by decide) rfl (fun ls hl => ?_)
  have hl : LV ls 5 [(3, va_rf v5), (0, va_rf l0), (1, .int l1), (2, .int l2)] := hl
  refine rw_aload_n X dX11_node_9 rfl (hl.at 0 rfl) ?_
  refine rw_ifnonnull X (tgt := 17) dX11_node_10 (by decide) (fun c10 => ?_) (fun c10 => ?_)
  · have hf := ifn hf c10
    refine rw_aload_n X dX11_node_17 rfl (hl.at 0 rfl) ?_
    obtain ⟨v18, e18, hf⟩ := ob hf
    refine rw_getR X dX11_node_18 fl11_124 e18 rfl hP ?_
    refine rv_astore X dX11_node_21 hl (by decide) rfl (fun ls hl => ?_)
    have hl : LV ls 5 [(4, va_rf v18), (3, va_rf v5), (0, va_rf l0), (1, .int l1), (2, .int l2)] := hl
    refine lv_iload_n hx hb dX11_node_23 rfl (hl.at 4 rfl) ?_
    by_cases c24_0 : l2 = 0
    · have hf := ifp hf c24_0
      refine lv_tableIn (tgt := 88) hx hb dX11_node_24 (by rw [c24_0]; decide) (by rw [c24_0]; decide) (by rw [c24_0]; rfl) (by decide) ?_
      refine rw_aload_n X dX11_node_88 rfl (hl.at 1 rfl) ?_
      obtain ⟨v89, e89, hf⟩ := ob hf
      refine rw_getI X dX11_node_89 fl11_128 e89 rfl hP ?_
      cases hf
      exact rw_iret X dX11_node_92 hP
    have hf := ifn hf c24_0
    by_cases c24_1 : l2 = 1
    · have hf := ifp hf c24_1
      refine lv_tableIn (tgt := 93) hx hb dX11_node_24 (by rw [c24_1]; decide) (by rw [c24_1]; decide) (by rw [c24_1]; rfl) (by decide) ?_
      refine rw_aload_n X dX11_node_93 rfl (hl.at 1 rfl) ?_
      obtain ⟨v94, e94, hf⟩ := ob hf
      refine rw_getR X dX11_node_94 fl11_131 e94 rfl hP ?_
      refine rw_ifnonnull X (tgt := 104) dX11_node_97 (by decide) (fun c97 => ?_) (fun c97 => ?_)
      · have hf := ifn hf c97
        refine rw_aload_n X dX11_node_104 rfl (hl.at 1 rfl) ?_
        obtain ⟨v105, e105, hf⟩ := ob hf
        refine rw_getR X dX11_node_105 fl11_131 e105 rfl hP ?_
        obtain ⟨v108, e108, hf⟩ := ob hf
        refine rw_getI X dX11_node_108 fl11_134 e108 rfl hP ?_
        cases hf
        exact rw_iret X dX11_node_111 hP
      · have hf := ifp hf c97
        refine lv_iconst (v := (-1)) hx hb dX11_node_100 (by decide) ?_
        refine lv_goto (tgt := 111) hx hb dX11_node_101 (by decide) ?_
        cases hf
        exact rw_iret X dX11_node_111 hP
    have hf := ifn hf c24_1
    by_cases c24_2 : l2 = 2
    · have hf := ifp hf c24_2
      refine lv_tableIn (tgt := 112) hx hb dX11_node_24 (by rw [c24_2]; decide) (by rw [c24_2]; decide) (by rw [c24_2]; rfl) (by decide) ?_
      refine rw_aload_n X dX11_node_112 rfl (hl.at 1 rfl) ?_
      obtain ⟨v113, e113, hf⟩ := ob hf
      refine rw_getI X dX11_node_113 fl11_137 e113 rfl hP ?_
      cases hf
      exact rw_iret X dX11_node_116 hP
    have hf := ifn hf c24_2
    by_cases c24_3 : l2 = 3
    · have hf := ifp hf c24_3
      refine lv_tableIn (tgt := 117) hx hb dX11_node_24 (by rw [c24_3]; decide) (by rw [c24_3]; decide) (by rw [c24_3]; rfl) (by decide) ?_
      refine rw_aload X dX11_node_117 (hl.at 0 rfl) ?_
      obtain ⟨v119, e119, hf⟩ := ob hf
      refine rw_getI X dX11_node_119 fl11_140 e119 rfl hP ?_
      refine lv_if_eq hx hb (tgt := 129) dX11_node_122 (by decide) (fun c122 => ?_) (fun c122 => ?_)
      · have hf := ifp hf c122
        refine lv_iconst (v := 0) hx hb dX11_node_129 (by decide) ?_
        cases hf
        exact rw_iret X dX11_node_130 hP
      · have hf := ifn hf c122
        refine lv_iconst (v := 1) hx hb dX11_node_125 (by decide) ?_
        refine lv_goto (tgt := 130) hx hb dX11_node_126 (by decide) ?_
        cases hf
        exact rw_iret X dX11_node_130 hP
    have hf := ifn hf c24_3
    by_cases c24_4 : l2 = 4
    · have hf := ifp hf c24_4
      refine lv_tableIn (tgt := 131) hx hb dX11_node_24 (by rw [c24_4]; decide) (by rw [c24_4]; decide) (by rw [c24_4]; rfl) (by decide) ?_
      refine rw_aload_n X dX11_node_131 rfl (hl.at 1 rfl) ?_
      obtain ⟨v132, e132, hf⟩ := ob hf
      refine rw_getI X dX11_node_132 fl11_145 e132 rfl hP ?_
      cases hf
      exact rw_iret X dX11_node_135 hP
    have hf := ifn hf c24_4
    by_cases c24_5 : l2 = 5
    · have hf := ifp hf c24_5
      refine lv_tableIn (tgt := 136) hx hb dX11_node_24 (by rw [c24_5]; decide) (by rw [c24_5]; decide) (by rw [c24_5]; rfl) (by decide) ?_
      refine rw_aload X dX11_node_136 (hl.at 0 rfl) ?_
      obtain ⟨v138, e138, hf⟩ := ob hf
      refine rw_getI X dX11_node_138 fl11_148 e138 rfl hP ?_
      cases hf
      exact rw_iret X dX11_node_141 hP
    have hf := ifn hf c24_5
    by_cases c24_6 : l2 = 6
    · have hf := ifp hf c24_6
      refine lv_tableIn (tgt := 142) hx hb dX11_node_24 (by rw [c24_6]; decide) (by rw [c24_6]; decide) (by rw [c24_6]; rfl) (by decide) ?_
      refine rw_aload X dX11_node_142 (hl.at 0 rfl) ?_
      obtain ⟨v144, e144, hf⟩ := ob hf
      refine rw_getI X dX11_node_144 fl11_151 e144 rfl hP ?_
      cases hf
      exact rw_iret X dX11_node_147 hP
    have hf := ifn hf c24_6
    by_cases c24_7 : l2 = 7
    · have hf := ifp hf c24_7
      refine lv_tableIn (tgt := 148) hx hb dX11_node_24 (by rw [c24_7]; decide) (by rw [c24_7]; decide) (by rw [c24_7]; rfl) (by decide) ?_
      refine rw_aload X dX11_node_148 (hl.at 0 rfl) ?_
      obtain ⟨v150, e150, hf⟩ := ob hf
      refine rw_getI X dX11_node_150 fl11_154 e150 rfl hP ?_
      cases hf
      exact rw_iret X dX11_node_153 hP
    have hf := ifn hf c24_7
    by_cases c24_8 : l2 = 8
    · have hf := ifp hf c24_8
      refine lv_tableIn (tgt := 154) hx hb dX11_node_24 (by rw [c24_8]; decide) (by rw [c24_8]; decide) (by rw [c24_8]; rfl) (by decide) ?_
      refine rw_aload X dX11_node_154 (hl.at 0 rfl) ?_
      obtain ⟨v156, e156, hf⟩ := ob hf
      refine rw_getI X dX11_node_156 fl11_157 e156 rfl hP ?_
      cases hf
      exact rw_iret X dX11_node_159 hP
    have hf := ifn hf c24_8
    by_cases c24_9 : l2 = 9
    · have hf := ifp hf c24_9
      refine lv_tableIn (tgt := 160) hx hb dX11_node_24 (by rw [c24_9]; decide) (by rw [c24_9]; decide) (by rw [c24_9]; rfl) (by decide) ?_
      refine rw_aload X dX11_node_160 (hl.at 0 rfl) ?_
      obtain ⟨v162, e162, hf⟩ := ob hf
      refine rw_getI X dX11_node_162 fl11_158 e162 rfl hP ?_
      cases hf
      exact rw_iret X dX11_node_165 hP
    have hf := ifn hf c24_9
    by_cases c24_10 : l2 = 10
    · have hf := ifp hf c24_10
      refine lv_tableIn (tgt := 166) hx hb dX11_node_24 (by rw [c24_10]; decide) (by rw [c24_10]; decide) (by rw [c24_10]; rfl) (by decide) ?_
      refine rw_aload_n X dX11_node_166 rfl (hl.at 1 rfl) ?_
      obtain ⟨v167, e167, hf⟩ := ob hf
      refine rw_getI X dX11_node_167 fl11_161 e167 rfl hP ?_
      cases hf
      exact rw_iret X dX11_node_170 hP
    have hf := ifn hf c24_10
    by_cases c24_11 : l2 = 11
    · have hf := ifp hf c24_11
      refine lv_tableIn (tgt := 171) hx hb dX11_node_24 (by rw [c24_11]; decide) (by rw [c24_11]; decide) (by rw [c24_11]; rfl) (by decide) ?_
      refine rw_aload X dX11_node_171 (hl.at 0 rfl) ?_
      obtain ⟨v173, e173, hf⟩ := ob hf
      refine rw_getI X dX11_node_173 fl11_164 e173 rfl hP ?_
      cases hf
      exact rw_iret X dX11_node_176 hP
    have hf := ifn hf c24_11
    have t24_0 := tsw (k := 0) (v := 0) (by decide) c24_0
    have t24_1 := tsw (k := 1) (v := 1) (by decide) c24_1
    have t24_2 := tsw (k := 2) (v := 2) (by decide) c24_2
    have t24_3 := tsw (k := 3) (v := 3) (by decide) c24_3
    have t24_4 := tsw (k := 4) (v := 4) (by decide) c24_4
    have t24_5 := tsw (k := 5) (v := 5) (by decide) c24_5
    have t24_6 := tsw (k := 6) (v := 6) (by decide) c24_6
    have t24_7 := tsw (k := 7) (v := 7) (by decide) c24_7
    have t24_8 := tsw (k := 8) (v := 8) (by decide) c24_8
    have t24_9 := tsw (k := 9) (v := 9) (by decide) c24_9
    have t24_10 := tsw (k := 10) (v := 10) (by decide) c24_10
    have t24_11 := tsw (k := 11) (v := 11) (by decide) c24_11
    refine lv_tableOut (tgt := 177) hx hb dX11_node_24 (by omega) (by decide) ?_
    refine lv_sipush (v := (-1002)) hx hb dX11_node_177 (by decide) ?_
    cases hf
    exact rw_iret X dX11_node_180 hP
  · have hf := ifp hf c10
    refine lv_sipush (v := (-1001)) hx hb dX11_node_13 (by decide) ?_
    cases hf
    exact rw_iret X dX11_node_16 hP
theorem dX11_child_0 : decode cX11_child 0 = .ok (.aload_n 0, 1) := by decide +kernel
theorem dX11_child_1 : decode cX11_child 1 = .ok (.getfield 49, 3) := by decide +kernel
theorem dX11_child_4 : decode cX11_child 4 = .ok (.iload_n 1, 1) := by decide +kernel
theorem dX11_child_5 : decode cX11_child 5 = .ok (.invokevirtual 93, 3) := by decide +kernel
theorem dX11_child_8 : decode cX11_child 8 = .ok (.astore_n 3, 1) := by decide +kernel
theorem dX11_child_9 : decode cX11_child 9 = .ok (.aload_n 3, 1) := by decide +kernel
theorem dX11_child_10 : decode cX11_child 10 = .ok (.ifnull 15, 3) := by decide +kernel
theorem dX11_child_13 : decode cX11_child 13 = .ok (.iload_n 2, 1) := by decide +kernel
theorem dX11_child_14 : decode cX11_child 14 = .ok (.ifCond .lt 11, 3) := by decide +kernel
theorem dX11_child_17 : decode cX11_child 17 = .ok (.iload_n 2, 1) := by decide +kernel
theorem dX11_child_18 : decode cX11_child 18 = .ok (.aload_n 3, 1) := by decide +kernel
theorem dX11_child_19 : decode cX11_child 19 = .ok (.getfield 137, 3) := by decide +kernel
theorem dX11_child_22 : decode cX11_child 22 = .ok (.if_icmp .lt 7, 3) := by decide +kernel
theorem dX11_child_25 : decode cX11_child 25 = .ok (.sipush (-1001), 3) := by decide +kernel
theorem dX11_child_28 : decode cX11_child 28 = .ok (.ireturn, 1) := by decide +kernel
theorem dX11_child_29 : decode cX11_child 29 = .ok (.aload_n 3, 1) := by decide +kernel
theorem dX11_child_30 : decode cX11_child 30 = .ok (.getfield 167, 3) := by decide +kernel
theorem dX11_child_33 : decode cX11_child 33 = .ok (.astore 4, 2) := by decide +kernel
theorem dX11_child_35 : decode cX11_child 35 = .ok (.iconst 0, 1) := by decide +kernel
theorem dX11_child_36 : decode cX11_child 36 = .ok (.istore 5, 2) := by decide +kernel
theorem dX11_child_38 : decode cX11_child 38 = .ok (.iload 5, 2) := by decide +kernel
theorem dX11_child_40 : decode cX11_child 40 = .ok (.iload_n 2, 1) := by decide +kernel
theorem dX11_child_41 : decode cX11_child 41 = .ok (.if_icmp .ge 21, 3) := by decide +kernel
theorem dX11_child_44 : decode cX11_child 44 = .ok (.aload 4, 2) := by decide +kernel
theorem dX11_child_46 : decode cX11_child 46 = .ok (.ifnull 16, 3) := by decide +kernel
theorem dX11_child_49 : decode cX11_child 49 = .ok (.aload 4, 2) := by decide +kernel
theorem dX11_child_51 : decode cX11_child 51 = .ok (.getfield 170, 3) := by decide +kernel
theorem dX11_child_54 : decode cX11_child 54 = .ok (.astore 4, 2) := by decide +kernel
theorem dX11_child_56 : decode cX11_child 56 = .ok (.iinc 5 1, 3) := by decide +kernel
theorem dX11_child_59 : decode cX11_child 59 = .ok (.goto (-21), 3) := by decide +kernel
theorem dX11_child_62 : decode cX11_child 62 = .ok (.aload 4, 2) := by decide +kernel
theorem dX11_child_64 : decode cX11_child 64 = .ok (.ifnonnull 9, 3) := by decide +kernel
theorem dX11_child_67 : decode cX11_child 67 = .ok (.sipush (-1001), 3) := by decide +kernel
theorem dX11_child_70 : decode cX11_child 70 = .ok (.goto 8, 3) := by decide +kernel
theorem dX11_child_73 : decode cX11_child 73 = .ok (.aload 4, 2) := by decide +kernel
theorem dX11_child_75 : decode cX11_child 75 = .ok (.getfield 134, 3) := by decide +kernel
theorem dX11_child_78 : decode cX11_child 78 = .ok (.ireturn, 1) := by decide +kernel
theorem pyX11_child : PY yX11_child 2 := ⟨by decide +kernel, by decide +kernel, by decide +kernel⟩
def fX11_child_38 (Y : LY) (S : HS) : Nat → Int32 → Option Nat → Int32 → Option (Int32)
  | 0, _, _, _ => none
  | n + 1, l2, l4, l5 =>
    if l2 ≤ l5 then
      if l4 = none then
        some (-1001)
      else
        (gI Y 4 400 l4 S).bind fun v75 =>
        some v75
    else
      if l4 = none then
        if l4 = none then
          some (-1001)
        else
          (gI Y 4 400 l4 S).bind fun v75 =>
          some v75
      else
        (gR Y 4 412 l4 S).bind fun v51 =>
        fX11_child_38 Y S n l2 v51 (l5 + 1)
set_option maxRecDepth 100000 in
set_option maxHeartbeats 4000000 in
theorem wX11_child_38 {p : Program} {l : Launch} {e : Env} {R : Room} {s : State} {m : MethodId} {args : Array Value} {below : List Frame} {meth : Method} {c : Code} {G : GG} {Y : LY} {S : HS} {res : Int32} (X : Cx p R s m args meth c RX11 cX11_child 6 1 21 (fun q => q ∈ Y.1) G (some .int)) : ∀ (n : Nat) (l2 : Int32) (l4 : Option Nat) (l5 : Int32), fX11_child_38 Y S n l2 l4 l5 = some res → ∀ (H : Heap) (locs : List Loc) (ls : Array Slot), HP (fun q => q ∈ Y.1) G Y s S H locs → LV ls 6 [(2, .int l2), (4, va_rf l4), (5, .int l5)] → W p l e R s m args below meth c H locs 0 0 (MQ below (QI G Y S (some (.int res))) args s 0 0 (fun q => q ∈ Y.1)) (F0 m 38 ls []) := by
  have hx := X.1.1
  have hb := X.1.2.1
  intro n
  induction n with
  | zero =>
    intro l2 l4 l5 hf
    cases hf
  | succ n ih =>
    intro l2 l4 l5 hf H locs ls hP hl
    rw [fX11_child_38] at hf
    refine lv_iload hx hb dX11_child_38 (hl.at 2 rfl) ?_
    refine lv_iload_n hx hb dX11_child_40 rfl (hl.at 0 rfl) ?_
    refine lv_icmp_ge hx hb (tgt := 62) dX11_child_41 (by decide) (fun c41 => ?_) (fun c41 => ?_)
    · have hf := ifp hf c41
      refine rw_aload X dX11_child_62 (hl.at 1 rfl) ?_
      refine rw_ifnonnull X (tgt := 73) dX11_child_64 (by decide) (fun c64 => ?_) (fun c64 => ?_)
      · have hf := ifn hf c64
        refine rw_aload X dX11_child_73 (hl.at 1 rfl) ?_
        obtain ⟨v75, e75, hf⟩ := ob hf
        refine rw_getI X dX11_child_75 fl11_134 e75 rfl hP ?_
        cases hf
        exact rw_iret X dX11_child_78 hP
      · have hf := ifp hf c64
        refine lv_sipush (v := (-1001)) hx hb dX11_child_67 (by decide) ?_
        refine lv_goto (tgt := 78) hx hb dX11_child_70 (by decide) ?_
        cases hf
        exact rw_iret X dX11_child_78 hP
    · have hf := ifn hf c41
      refine rw_aload X dX11_child_44 (hl.at 1 rfl) ?_
      refine rw_ifnull X (tgt := 62) dX11_child_46 (by decide) (fun c46 => ?_) (fun c46 => ?_)
      · have hf := ifp hf c46
        refine rw_aload X dX11_child_62 (hl.at 1 rfl) ?_
        refine rw_ifnonnull X (tgt := 73) dX11_child_64 (by decide) (fun c64 => ?_) (fun c64 => ?_)
        · have hf := ifn hf c64
          refine rw_aload X dX11_child_73 (hl.at 1 rfl) ?_
          obtain ⟨v75, e75, hf⟩ := ob hf
          refine rw_getI X dX11_child_75 fl11_134 e75 rfl hP ?_
          cases hf
          exact rw_iret X dX11_child_78 hP
        · have hf := ifp hf c64
          refine lv_sipush (v := (-1001)) hx hb dX11_child_67 (by decide) ?_
          refine lv_goto (tgt := 78) hx hb dX11_child_70 (by decide) ?_
          cases hf
          exact rw_iret X dX11_child_78 hP
      · have hf := ifn hf c46
        refine rw_aload X dX11_child_49 (hl.at 1 rfl) ?_
        obtain ⟨v51, e51, hf⟩ := ob hf
        refine rw_getR X dX11_child_51 fl11_170 e51 rfl hP ?_
        refine rv_astore X dX11_child_54 hl (by decide) rfl (fun ls hl => ?_)
        have hl : LV ls 6 [(4, va_rf v51), (2, .int l2), (5, .int l5)] := hl
        refine rv_iinc (k := 2) (d := 1) X dX11_child_56 hl rfl (by decide) (by decide) rfl (fun ls hl => ?_)
        have hl : LV ls 6 [(5, .int (l5 + 1)), (4, va_rf v51), (2, .int l2)] := hl
        refine lv_goto (tgt := 38) hx hb dX11_child_59 (by decide) ?_
        exact ih l2 v51 (l5 + 1) hf _ _ _ hP (hl.sub [2, 1, 0] rfl)
def fX11_child (Y : LY) (S : HS) (l0 : Option Nat) (l1 : Int32) (l2 : Int32) : Option (Int32) :=
  (gR Y 11 1107 l0 S).bind fun v1 =>
  (rcv Y 8 v1).bind fun _ =>
  (fX8_nodeAt Y S v1 l1).bind fun v5 =>
  if v5 = none then
    some (-1001)
  else
    if l2 < 0 then
      some (-1001)
    else
      (gI Y 4 407 v5 S).bind fun v19 =>
      if l2 < v19 then
        (gR Y 4 410 v5 S).bind fun v30 =>
        fX11_child_38 Y S FU l2 v30 0
      else
        some (-1001)
set_option maxRecDepth 100000 in
set_option maxHeartbeats 4000000 in
theorem mX11_child (l : Launch) {G : GG} {Y : LY} {S : HS} {l0 : Option Nat} {l1 : Int32} {l2 : Int32} {res : Int32} (hf : fX11_child Y S l0 l1 l2 = some res) : MM l yX11_child cX11_child 6 (some .int) 1 21 G Y S [va_rf l0, .int l1, .int l2] S (some (.int res)) := by
  refine mm_of2 (plainFor_of_name (by decide +kernel)) (Nat.le_of_ble_eq_true rfl) (c1c (cr _) (c1c (ci _) (c1c (ci _) c1n))) ?_
  intro p e R s m args below meth c X H locs ls hP hl
  have X : Cx p R s m args meth c RX11 cX11_child 6 1 21 (fun q => q ∈ Y.1) G (some .int) := X
  have hx := X.1.1
  have hb := X.1.2.1
  have hl : LV ls 6 [(0, va_rf l0), (1, .int l1), (2, .int l2)] := hl
  unfold fX11_child at hf
  refine rw_aload_n X dX11_child_0 rfl (hl.at 0 rfl) ?_
  obtain ⟨v1, e1, hf⟩ := ob hf
  refine rw_getR X dX11_child_1 fl11_49 e1 rfl hP ?_
  refine lv_iload_n hx hb dX11_child_4 rfl (hl.at 1 rfl) ?_
  obtain ⟨u5, r5, hf⟩ := ob hf
  obtain ⟨v5, e5, hf⟩ := ob hf
  refine rw_callVr (As := [.int l1]) X dX11_child_5 clX11_93 pyX8_nodeAt (mX8_nodeAt l e5) (by decide) r5 rfl hP rfl (catL c1n (Nat.le_of_ble_eq_true rfl)) hl.1.1 (fun H locs hP => ?_)
  refine rv_astore_n X dX11_child_8 rfl hl (by decide) rfl (fun ls hl => ?_)
  have hl : LV ls 6 [(3, va_rf v5), (0, va_rf l0), (1, .int l1), (2, .int l2)] := hl
  refine rw_aload_n X dX11_child_9 rfl (hl.at 0 rfl) ?_
  refine rw_ifnull X (tgt := 25) dX11_child_10 (by decide) (fun c10 => ?_) (fun c10 => ?_)
  · have hf := ifp hf c10
    refine lv_sipush (v := (-1001)) hx hb dX11_child_25 (by decide) ?_
    cases hf
    exact rw_iret X dX11_child_28 hP
  · have hf := ifn hf c10
    refine lv_iload_n hx hb dX11_child_13 rfl (hl.at 3 rfl) ?_
    refine lv_if_lt hx hb (tgt := 25) dX11_child_14 (by decide) (fun c14 => ?_) (fun c14 => ?_)
    · have hf := ifp hf c14
      refine lv_sipush (v := (-1001)) hx hb dX11_child_25 (by decide) ?_
      cases hf
      exact rw_iret X dX11_child_28 hP
    · have hf := ifn hf c14
      refine lv_iload_n hx hb dX11_child_17 rfl (hl.at 3 rfl) ?_
      refine rw_aload_n X dX11_child_18 rfl (hl.at 0 rfl) ?_
      obtain ⟨v19, e19, hf⟩ := ob hf
      refine rw_getI X dX11_child_19 fl11_137 e19 rfl hP ?_
      refine lv_icmp_lt hx hb (tgt := 29) dX11_child_22 (by decide) (fun c22 => ?_) (fun c22 => ?_)
      · have hf := ifp hf c22
        refine rw_aload_n X dX11_child_29 rfl (hl.at 0 rfl) ?_
        obtain ⟨v30, e30, hf⟩ := ob hf
        refine rw_getR X dX11_child_30 fl11_167 e30 rfl hP ?_
        refine rv_astore X dX11_child_33 hl (by decide) rfl (fun ls hl => ?_)
        have hl : LV ls 6 [(4, va_rf v30), (3, va_rf v5), (0, va_rf l0), (1, .int l1), (2, .int l2)] := hl
        refine lv_iconst (v := 0) hx hb dX11_child_35 (by decide) ?_
        refine rv_istore X dX11_child_36 hl (by decide) rfl (fun ls hl => ?_)
        have hl : LV ls 6 [(5, .int 0), (4, va_rf v30), (3, va_rf v5), (0, va_rf l0), (1, .int l1), (2, .int l2)] := hl
        exact wX11_child_38 X FU l2 v30 0 hf _ _ _ hP (hl.sub [5, 1, 0] rfl)
      · have hf := ifn hf c22
        refine lv_sipush (v := (-1001)) hx hb dX11_child_25 (by decide) ?_
        cases hf
        exact rw_iret X dX11_child_28 hP
theorem dX11_underWay_0 : decode cX11_underWay 0 = .ok (.aload_n 0, 1) := by decide +kernel
theorem dX11_underWay_1 : decode cX11_underWay 1 = .ok (.getfield 35, 3) := by decide +kernel
theorem dX11_underWay_4 : decode cX11_underWay 4 = .ok (.getfield 120, 3) := by decide +kernel
theorem dX11_underWay_7 : decode cX11_underWay 7 = .ok (.ifnull 7, 3) := by decide +kernel
theorem dX11_underWay_10 : decode cX11_underWay 10 = .ok (.iload_n 1, 1) := by decide +kernel
theorem dX11_underWay_11 : decode cX11_underWay 11 = .ok (.ifCond .ge 7, 3) := by decide +kernel
theorem dX11_underWay_14 : decode cX11_underWay 14 = .ok (.sipush (-1001), 3) := by decide +kernel
theorem dX11_underWay_17 : decode cX11_underWay 17 = .ok (.ireturn, 1) := by decide +kernel
theorem dX11_underWay_18 : decode cX11_underWay 18 = .ok (.aload_n 0, 1) := by decide +kernel
theorem dX11_underWay_19 : decode cX11_underWay 19 = .ok (.getfield 35, 3) := by decide +kernel
theorem dX11_underWay_22 : decode cX11_underWay 22 = .ok (.getfield 120, 3) := by decide +kernel
theorem dX11_underWay_25 : decode cX11_underWay 25 = .ok (.getfield 131, 3) := by decide +kernel
theorem dX11_underWay_28 : decode cX11_underWay 28 = .ok (.astore_n 2, 1) := by decide +kernel
theorem dX11_underWay_29 : decode cX11_underWay 29 = .ok (.aload_n 2, 1) := by decide +kernel
theorem dX11_underWay_30 : decode cX11_underWay 30 = .ok (.ifnull 26, 3) := by decide +kernel
theorem dX11_underWay_33 : decode cX11_underWay 33 = .ok (.aload_n 2, 1) := by decide +kernel
theorem dX11_underWay_34 : decode cX11_underWay 34 = .ok (.getfield 161, 3) := by decide +kernel
theorem dX11_underWay_37 : decode cX11_underWay 37 = .ok (.iconst 1, 1) := by decide +kernel
theorem dX11_underWay_38 : decode cX11_underWay 38 = .ok (.isub, 1) := by decide +kernel
theorem dX11_underWay_39 : decode cX11_underWay 39 = .ok (.iload_n 1, 1) := by decide +kernel
theorem dX11_underWay_40 : decode cX11_underWay 40 = .ok (.if_icmp .ne 8, 3) := by decide +kernel
theorem dX11_underWay_43 : decode cX11_underWay 43 = .ok (.aload_n 2, 1) := by decide +kernel
theorem dX11_underWay_44 : decode cX11_underWay 44 = .ok (.getfield 134, 3) := by decide +kernel
theorem dX11_underWay_47 : decode cX11_underWay 47 = .ok (.ireturn, 1) := by decide +kernel
theorem dX11_underWay_48 : decode cX11_underWay 48 = .ok (.aload_n 2, 1) := by decide +kernel
theorem dX11_underWay_49 : decode cX11_underWay 49 = .ok (.getfield 131, 3) := by decide +kernel
theorem dX11_underWay_52 : decode cX11_underWay 52 = .ok (.astore_n 2, 1) := by decide +kernel
theorem dX11_underWay_53 : decode cX11_underWay 53 = .ok (.goto (-24), 3) := by decide +kernel
theorem dX11_underWay_56 : decode cX11_underWay 56 = .ok (.sipush (-1001), 3) := by decide +kernel
theorem dX11_underWay_59 : decode cX11_underWay 59 = .ok (.ireturn, 1) := by decide +kernel
theorem pyX11_underWay : PY yX11_underWay 1 := ⟨by decide +kernel, by decide +kernel, by decide +kernel⟩
def fX11_underWay_29 (Y : LY) (S : HS) : Nat → Int32 → Option Nat → Option (Int32)
  | 0, _, _ => none
  | n + 1, l1, l2 =>
    if l2 = none then
      some (-1001)
    else
      (gI Y 4 406 l2 S).bind fun v34 =>
      if (v34 - 1) = l1 then
        (gI Y 4 400 l2 S).bind fun v44 =>
        some v44
      else
        (gR Y 4 409 l2 S).bind fun v49 =>
        fX11_underWay_29 Y S n l1 v49
set_option maxRecDepth 100000 in
set_option maxHeartbeats 4000000 in
theorem wX11_underWay_29 {p : Program} {l : Launch} {e : Env} {R : Room} {s : State} {m : MethodId} {args : Array Value} {below : List Frame} {meth : Method} {c : Code} {G : GG} {Y : LY} {S : HS} {res : Int32} (X : Cx p R s m args meth c RX11 cX11_underWay 3 0 0 (fun q => q ∈ Y.1) G (some .int)) : ∀ (n : Nat) (l1 : Int32) (l2 : Option Nat), fX11_underWay_29 Y S n l1 l2 = some res → ∀ (H : Heap) (locs : List Loc) (ls : Array Slot), HP (fun q => q ∈ Y.1) G Y s S H locs → LV ls 3 [(1, .int l1), (2, va_rf l2)] → W p l e R s m args below meth c H locs 0 0 (MQ below (QI G Y S (some (.int res))) args s 0 0 (fun q => q ∈ Y.1)) (F0 m 29 ls []) := by
  have hx := X.1.1
  have hb := X.1.2.1
  intro n
  induction n with
  | zero =>
    intro l1 l2 hf
    cases hf
  | succ n ih =>
    intro l1 l2 hf H locs ls hP hl
    rw [fX11_underWay_29] at hf
    refine rw_aload_n X dX11_underWay_29 rfl (hl.at 1 rfl) ?_
    refine rw_ifnull X (tgt := 56) dX11_underWay_30 (by decide) (fun c30 => ?_) (fun c30 => ?_)
    · have hf := ifp hf c30
      refine lv_sipush (v := (-1001)) hx hb dX11_underWay_56 (by decide) ?_
      cases hf
      exact rw_iret X dX11_underWay_59 hP
    · have hf := ifn hf c30
      refine rw_aload_n X dX11_underWay_33 rfl (hl.at 1 rfl) ?_
      obtain ⟨v34, e34, hf⟩ := ob hf
      refine rw_getI X dX11_underWay_34 fl11_161 e34 rfl hP ?_
      refine lv_iconst (v := 1) hx hb dX11_underWay_37 (by decide) ?_
      refine lv_isub hx hb dX11_underWay_38 ?_
      refine lv_iload_n hx hb dX11_underWay_39 rfl (hl.at 0 rfl) ?_
      refine lv_icmp_ne hx hb (tgt := 48) dX11_underWay_40 (by decide) (fun c40 => ?_) (fun c40 => ?_)
      · have hf := ifn hf c40
        refine rw_aload_n X dX11_underWay_48 rfl (hl.at 1 rfl) ?_
        obtain ⟨v49, e49, hf⟩ := ob hf
        refine rw_getR X dX11_underWay_49 fl11_131 e49 rfl hP ?_
        refine rv_astore_n X dX11_underWay_52 rfl hl (by decide) rfl (fun ls hl => ?_)
        have hl : LV ls 3 [(2, va_rf v49), (1, .int l1)] := hl
        refine lv_goto (tgt := 29) hx hb dX11_underWay_53 (by decide) ?_
        exact ih l1 v49 hf _ _ _ hP (hl.sub [1, 0] rfl)
      · have hf := ifp hf c40
        refine rw_aload_n X dX11_underWay_43 rfl (hl.at 1 rfl) ?_
        obtain ⟨v44, e44, hf⟩ := ob hf
        refine rw_getI X dX11_underWay_44 fl11_134 e44 rfl hP ?_
        cases hf
        exact rw_iret X dX11_underWay_47 hP
def fX11_underWay (Y : LY) (S : HS) (l0 : Option Nat) (l1 : Int32) : Option (Int32) :=
  (gR Y 11 1104 l0 S).bind fun v1 =>
  (gR Y 2 200 v1 S).bind fun v4 =>
  if v4 = none then
    some (-1001)
  else
    if 0 ≤ l1 then
      (gR Y 11 1104 l0 S).bind fun v19 =>
      (gR Y 2 200 v19 S).bind fun v22 =>
      (gR Y 4 409 v22 S).bind fun v25 =>
      fX11_underWay_29 Y S FU l1 v25
    else
      some (-1001)
set_option maxRecDepth 100000 in
set_option maxHeartbeats 4000000 in
theorem mX11_underWay (l : Launch) {G : GG} {Y : LY} {S : HS} {l0 : Option Nat} {l1 : Int32} {res : Int32} (hf : fX11_underWay Y S l0 l1 = some res) : MM l yX11_underWay cX11_underWay 3 (some .int) 0 0 G Y S [va_rf l0, .int l1] S (some (.int res)) := by
  refine mm_of2 (plainFor_of_name (by decide +kernel)) (Nat.le_of_ble_eq_true rfl) (c1c (cr _) (c1c (ci _) c1n)) ?_
  intro p e R s m args below meth c X H locs ls hP hl
  have X : Cx p R s m args meth c RX11 cX11_underWay 3 0 0 (fun q => q ∈ Y.1) G (some .int) := X
  have hx := X.1.1
  have hb := X.1.2.1
  have hl : LV ls 3 [(0, va_rf l0), (1, .int l1)] := hl
  unfold fX11_underWay at hf
  refine rw_aload_n X dX11_underWay_0 rfl (hl.at 0 rfl) ?_
  obtain ⟨v1, e1, hf⟩ := ob hf
  refine rw_getR X dX11_underWay_1 fl11_35 e1 rfl hP ?_
  obtain ⟨v4, e4, hf⟩ := ob hf
  refine rw_getR X dX11_underWay_4 fl11_120 e4 rfl hP ?_
  refine rw_ifnull X (tgt := 14) dX11_underWay_7 (by decide) (fun c7 => ?_) (fun c7 => ?_)
  · have hf := ifp hf c7
    refine lv_sipush (v := (-1001)) hx hb dX11_underWay_14 (by decide) ?_
    cases hf
    exact rw_iret X dX11_underWay_17 hP
  · have hf := ifn hf c7
    refine lv_iload_n hx hb dX11_underWay_10 rfl (hl.at 1 rfl) ?_
    refine lv_if_ge hx hb (tgt := 18) dX11_underWay_11 (by decide) (fun c11 => ?_) (fun c11 => ?_)
    · have hf := ifp hf c11
      refine rw_aload_n X dX11_underWay_18 rfl (hl.at 0 rfl) ?_
      obtain ⟨v19, e19, hf⟩ := ob hf
      refine rw_getR X dX11_underWay_19 fl11_35 e19 rfl hP ?_
      obtain ⟨v22, e22, hf⟩ := ob hf
      refine rw_getR X dX11_underWay_22 fl11_120 e22 rfl hP ?_
      obtain ⟨v25, e25, hf⟩ := ob hf
      refine rw_getR X dX11_underWay_25 fl11_131 e25 rfl hP ?_
      refine rv_astore_n X dX11_underWay_28 rfl hl (by decide) rfl (fun ls hl => ?_)
      have hl : LV ls 3 [(2, va_rf v25), (0, va_rf l0), (1, .int l1)] := hl
      exact wX11_underWay_29 X FU l1 v25 hf _ _ _ hP (hl.sub [2, 0] rfl)
    · have hf := ifn hf c11
      refine lv_sipush (v := (-1001)) hx hb dX11_underWay_14 (by decide) ?_
      cases hf
      exact rw_iret X dX11_underWay_17 hP
theorem dX11_pending_0 : decode cX11_pending 0 = .ok (.aload_n 0, 1) := by decide +kernel
theorem dX11_pending_1 : decode cX11_pending 1 = .ok (.getfield 35, 3) := by decide +kernel
theorem dX11_pending_4 : decode cX11_pending 4 = .ok (.getfield 120, 3) := by decide +kernel
theorem dX11_pending_7 : decode cX11_pending 7 = .ok (.ifnonnull 9, 3) := by decide +kernel
theorem dX11_pending_10 : decode cX11_pending 10 = .ok (.sipush (-1001), 3) := by decide +kernel
theorem dX11_pending_13 : decode cX11_pending 13 = .ok (.goto 13, 3) := by decide +kernel
theorem dX11_pending_16 : decode cX11_pending 16 = .ok (.aload_n 0, 1) := by decide +kernel
theorem dX11_pending_17 : decode cX11_pending 17 = .ok (.getfield 35, 3) := by decide +kernel
theorem dX11_pending_20 : decode cX11_pending 20 = .ok (.getfield 120, 3) := by decide +kernel
theorem dX11_pending_23 : decode cX11_pending 23 = .ok (.getfield 134, 3) := by decide +kernel
theorem dX11_pending_26 : decode cX11_pending 26 = .ok (.ireturn, 1) := by decide +kernel
theorem pyX11_pending : PY yX11_pending 0 := ⟨by decide +kernel, by decide +kernel, by decide +kernel⟩
def fX11_pending (Y : LY) (S : HS) (l0 : Option Nat) : Option (Int32) :=
  (gR Y 11 1104 l0 S).bind fun v1 =>
  (gR Y 2 200 v1 S).bind fun v4 =>
  if v4 = none then
    some (-1001)
  else
    (gR Y 11 1104 l0 S).bind fun v17 =>
    (gR Y 2 200 v17 S).bind fun v20 =>
    (gI Y 4 400 v20 S).bind fun v23 =>
    some v23
set_option maxRecDepth 100000 in
set_option maxHeartbeats 4000000 in
theorem mX11_pending (l : Launch) {G : GG} {Y : LY} {S : HS} {l0 : Option Nat} {res : Int32} (hf : fX11_pending Y S l0 = some res) : MM l yX11_pending cX11_pending 1 (some .int) 0 0 G Y S [va_rf l0] S (some (.int res)) := by
  refine mm_of2 (plainFor_of_name (by decide +kernel)) (Nat.le_of_ble_eq_true rfl) (c1c (cr _) c1n) ?_
  intro p e R s m args below meth c X H locs ls hP hl
  have X : Cx p R s m args meth c RX11 cX11_pending 1 0 0 (fun q => q ∈ Y.1) G (some .int) := X
  have hx := X.1.1
  have hb := X.1.2.1
  have hl : LV ls 1 [(0, va_rf l0)] := hl
  unfold fX11_pending at hf
  refine rw_aload_n X dX11_pending_0 rfl (hl.at 0 rfl) ?_
  obtain ⟨v1, e1, hf⟩ := ob hf
  refine rw_getR X dX11_pending_1 fl11_35 e1 rfl hP ?_
  obtain ⟨v4, e4, hf⟩ := ob hf
  refine rw_getR X dX11_pending_4 fl11_120 e4 rfl hP ?_
  refine rw_ifnonnull X (tgt := 16) dX11_pending_7 (by decide) (fun c7 => ?_) (fun c7 => ?_)
  · have hf := ifn hf c7
    refine rw_aload_n X dX11_pending_16 rfl (hl.at 0 rfl) ?_
    obtain ⟨v17, e17, hf⟩ := ob hf
    refine rw_getR X dX11_pending_17 fl11_35 e17 rfl hP ?_
    obtain ⟨v20, e20, hf⟩ := ob hf
    refine rw_getR X dX11_pending_20 fl11_120 e20 rfl hP ?_
    obtain ⟨v23, e23, hf⟩ := ob hf
    refine rw_getI X dX11_pending_23 fl11_134 e23 rfl hP ?_
    cases hf
    exact rw_iret X dX11_pending_26 hP
  · have hf := ifp hf c7
    refine lv_sipush (v := (-1001)) hx hb dX11_pending_10 (by decide) ?_
    refine lv_goto (tgt := 26) hx hb dX11_pending_13 (by decide) ?_
    cases hf
    exact rw_iret X dX11_pending_26 hP
theorem dX11_trace_0 : decode cX11_trace 0 = .ok (.iload_n 1, 1) := by decide +kernel
theorem dX11_trace_1 : decode cX11_trace 1 = .ok (.ifCond .lt 14, 3) := by decide +kernel
theorem dX11_trace_4 : decode cX11_trace 4 = .ok (.iload_n 1, 1) := by decide +kernel
theorem dX11_trace_5 : decode cX11_trace 5 = .ok (.aload_n 0, 1) := by decide +kernel
theorem dX11_trace_6 : decode cX11_trace 6 = .ok (.getfield 35, 3) := by decide +kernel
theorem dX11_trace_9 : decode cX11_trace 9 = .ok (.invokevirtual 173, 3) := by decide +kernel
theorem dX11_trace_12 : decode cX11_trace 12 = .ok (.if_icmp .lt 7, 3) := by decide +kernel
theorem dX11_trace_15 : decode cX11_trace 15 = .ok (.sipush (-1001), 3) := by decide +kernel
theorem dX11_trace_18 : decode cX11_trace 18 = .ok (.ireturn, 1) := by decide +kernel
theorem dX11_trace_19 : decode cX11_trace 19 = .ok (.iload_n 2, 1) := by decide +kernel
theorem dX11_trace_20 : decode cX11_trace 20 = .ok (.ifCond .eq 12, 3) := by decide +kernel
theorem dX11_trace_23 : decode cX11_trace 23 = .ok (.iload_n 2, 1) := by decide +kernel
theorem dX11_trace_24 : decode cX11_trace 24 = .ok (.iconst 1, 1) := by decide +kernel
theorem dX11_trace_25 : decode cX11_trace 25 = .ok (.if_icmp .eq 7, 3) := by decide +kernel
theorem dX11_trace_28 : decode cX11_trace 28 = .ok (.sipush (-1002), 3) := by decide +kernel
theorem dX11_trace_31 : decode cX11_trace 31 = .ok (.ireturn, 1) := by decide +kernel
theorem dX11_trace_32 : decode cX11_trace 32 = .ok (.iload_n 2, 1) := by decide +kernel
theorem dX11_trace_33 : decode cX11_trace 33 = .ok (.ifCond .ne 14, 3) := by decide +kernel
theorem dX11_trace_36 : decode cX11_trace 36 = .ok (.aload_n 0, 1) := by decide +kernel
theorem dX11_trace_37 : decode cX11_trace 37 = .ok (.getfield 35, 3) := by decide +kernel
theorem dX11_trace_40 : decode cX11_trace 40 = .ok (.iload_n 1, 1) := by decide +kernel
theorem dX11_trace_41 : decode cX11_trace 41 = .ok (.invokevirtual 176, 3) := by decide +kernel
theorem dX11_trace_44 : decode cX11_trace 44 = .ok (.goto 11, 3) := by decide +kernel
theorem dX11_trace_47 : decode cX11_trace 47 = .ok (.aload_n 0, 1) := by decide +kernel
theorem dX11_trace_48 : decode cX11_trace 48 = .ok (.getfield 35, 3) := by decide +kernel
theorem dX11_trace_51 : decode cX11_trace 51 = .ok (.iload_n 1, 1) := by decide +kernel
theorem dX11_trace_52 : decode cX11_trace 52 = .ok (.invokevirtual 180, 3) := by decide +kernel
theorem dX11_trace_55 : decode cX11_trace 55 = .ok (.ireturn, 1) := by decide +kernel
theorem pyX11_trace : PY yX11_trace 2 := ⟨by decide +kernel, by decide +kernel, by decide +kernel⟩
def fX11_trace_32 (Y : LY) (S : HS) (l0 : Option Nat) (l1 : Int32) (l2 : Int32) : Option (Int32) :=
  if l2 = 0 then
    (gR Y 11 1104 l0 S).bind fun v37 =>
    (rcv Y 2 v37).bind fun _ =>
    (fX2_tracedNode Y S v37 l1).bind fun v41 =>
    some v41
  else
    (gR Y 11 1104 l0 S).bind fun v48 =>
    (rcv Y 2 v48).bind fun _ =>
    (fX2_tracedResult Y S v48 l1).bind fun v52 =>
    some v52
set_option maxRecDepth 100000 in
set_option maxHeartbeats 4000000 in
theorem wX11_trace_32 {p : Program} {l : Launch} {e : Env} {R : Room} {s : State} {m : MethodId} {args : Array Value} {below : List Frame} {meth : Method} {c : Code} {G : GG} {Y : LY} {S : HS} {res : Int32} (X : Cx p R s m args meth c RX11 cX11_trace 3 3 64 (fun q => q ∈ Y.1) G (some .int)) : ∀ (l0 : Option Nat) (l1 : Int32) (l2 : Int32), fX11_trace_32 Y S l0 l1 l2 = some res → ∀ (H : Heap) (locs : List Loc) (ls : Array Slot), HP (fun q => q ∈ Y.1) G Y s S H locs → LV ls 3 [(0, va_rf l0), (1, .int l1), (2, .int l2)] → W p l e R s m args below meth c H locs 0 0 (MQ below (QI G Y S (some (.int res))) args s 0 0 (fun q => q ∈ Y.1)) (F0 m 32 ls []) := by
  have hx := X.1.1
  have hb := X.1.2.1
  intro l0 l1 l2 hf H locs ls hP hl
  unfold fX11_trace_32 at hf
  refine lv_iload_n hx hb dX11_trace_32 rfl (hl.at 2 rfl) ?_
  refine lv_if_ne hx hb (tgt := 47) dX11_trace_33 (by decide) (fun c33 => ?_) (fun c33 => ?_)
  · have hf := ifn hf c33
    refine rw_aload_n X dX11_trace_47 rfl (hl.at 0 rfl) ?_
    obtain ⟨v48, e48, hf⟩ := ob hf
    refine rw_getR X dX11_trace_48 fl11_35 e48 rfl hP ?_
    refine lv_iload_n hx hb dX11_trace_51 rfl (hl.at 1 rfl) ?_
    obtain ⟨u52, r52, hf⟩ := ob hf
    obtain ⟨v52, e52, hf⟩ := ob hf
    refine rw_callVi (As := [.int l1]) X dX11_trace_52 clX11_180 pyX2_tracedResult (mX2_tracedResult l e52) (by decide) r52 rfl hP rfl (catL c1n (Nat.le_of_ble_eq_true rfl)) hl.1.1 (fun H locs hP => ?_)
    cases hf
    exact rw_iret X dX11_trace_55 hP
  · have hf := ifp hf c33
    refine rw_aload_n X dX11_trace_36 rfl (hl.at 0 rfl) ?_
    obtain ⟨v37, e37, hf⟩ := ob hf
    refine rw_getR X dX11_trace_37 fl11_35 e37 rfl hP ?_
    refine lv_iload_n hx hb dX11_trace_40 rfl (hl.at 1 rfl) ?_
    obtain ⟨u41, r41, hf⟩ := ob hf
    obtain ⟨v41, e41, hf⟩ := ob hf
    refine rw_callVi (As := [.int l1]) X dX11_trace_41 clX11_176 pyX2_tracedNode (mX2_tracedNode l e41) (by decide) r41 rfl hP rfl (catL c1n (Nat.le_of_ble_eq_true rfl)) hl.1.1 (fun H locs hP => ?_)
    refine lv_goto (tgt := 55) hx hb dX11_trace_44 (by decide) ?_
    cases hf
    exact rw_iret X dX11_trace_55 hP
def fX11_trace (Y : LY) (S : HS) (l0 : Option Nat) (l1 : Int32) (l2 : Int32) : Option (Int32) :=
  if l1 < 0 then
    some (-1001)
  else
    (gR Y 11 1104 l0 S).bind fun v6 =>
    (rcv Y 2 v6).bind fun _ =>
    (fX2_entries Y S v6 ).bind fun v9 =>
    if l1 < v9 then
      if l2 = 0 then
        fX11_trace_32 Y S l0 l1 l2
      else
        if l2 = 1 then
          fX11_trace_32 Y S l0 l1 l2
        else
          some (-1002)
    else
      some (-1001)
set_option maxRecDepth 100000 in
set_option maxHeartbeats 4000000 in
theorem mX11_trace (l : Launch) {G : GG} {Y : LY} {S : HS} {l0 : Option Nat} {l1 : Int32} {l2 : Int32} {res : Int32} (hf : fX11_trace Y S l0 l1 l2 = some res) : MM l yX11_trace cX11_trace 3 (some .int) 3 64 G Y S [va_rf l0, .int l1, .int l2] S (some (.int res)) := by
  refine mm_of2 (plainFor_of_name (by decide +kernel)) (Nat.le_of_ble_eq_true rfl) (c1c (cr _) (c1c (ci _) (c1c (ci _) c1n))) ?_
  intro p e R s m args below meth c X H locs ls hP hl
  have X : Cx p R s m args meth c RX11 cX11_trace 3 3 64 (fun q => q ∈ Y.1) G (some .int) := X
  have hx := X.1.1
  have hb := X.1.2.1
  have hl : LV ls 3 [(0, va_rf l0), (1, .int l1), (2, .int l2)] := hl
  unfold fX11_trace at hf
  refine lv_iload_n hx hb dX11_trace_0 rfl (hl.at 1 rfl) ?_
  refine lv_if_lt hx hb (tgt := 15) dX11_trace_1 (by decide) (fun c1 => ?_) (fun c1 => ?_)
  · have hf := ifp hf c1
    refine lv_sipush (v := (-1001)) hx hb dX11_trace_15 (by decide) ?_
    cases hf
    exact rw_iret X dX11_trace_18 hP
  · have hf := ifn hf c1
    refine lv_iload_n hx hb dX11_trace_4 rfl (hl.at 1 rfl) ?_
    refine rw_aload_n X dX11_trace_5 rfl (hl.at 0 rfl) ?_
    obtain ⟨v6, e6, hf⟩ := ob hf
    refine rw_getR X dX11_trace_6 fl11_35 e6 rfl hP ?_
    obtain ⟨u9, r9, hf⟩ := ob hf
    obtain ⟨v9, e9, hf⟩ := ob hf
    refine rw_callVi (As := []) X dX11_trace_9 clX11_173 pyX2_entries (mX2_entries l e9) (by decide) r9 rfl hP rfl (catL (c1c (ci _) c1n) (Nat.le_of_ble_eq_true rfl)) hl.1.1 (fun H locs hP => ?_)
    refine lv_icmp_lt hx hb (tgt := 19) dX11_trace_12 (by decide) (fun c12 => ?_) (fun c12 => ?_)
    · have hf := ifp hf c12
      refine lv_iload_n hx hb dX11_trace_19 rfl (hl.at 2 rfl) ?_
      refine lv_if_eq hx hb (tgt := 32) dX11_trace_20 (by decide) (fun c20 => ?_) (fun c20 => ?_)
      · have hf := ifp hf c20
        exact wX11_trace_32 X l0 l1 l2 hf _ _ _ hP (hl.sub [0, 1, 2] rfl)
      · have hf := ifn hf c20
        refine lv_iload_n hx hb dX11_trace_23 rfl (hl.at 2 rfl) ?_
        refine lv_iconst (v := 1) hx hb dX11_trace_24 (by decide) ?_
        refine lv_icmp_eq hx hb (tgt := 32) dX11_trace_25 (by decide) (fun c25 => ?_) (fun c25 => ?_)
        · have hf := ifp hf c25
          exact wX11_trace_32 X l0 l1 l2 hf _ _ _ hP (hl.sub [0, 1, 2] rfl)
        · have hf := ifn hf c25
          refine lv_sipush (v := (-1002)) hx hb dX11_trace_28 (by decide) ?_
          cases hf
          exact rw_iret X dX11_trace_31 hP
    · have hf := ifn hf c12
      refine lv_sipush (v := (-1001)) hx hb dX11_trace_15 (by decide) ?_
      cases hf
      exact rw_iret X dX11_trace_18 hP
theorem dX11_count_0 : decode cX11_count 0 = .ok (.iload_n 1, 1) := by decide +kernel
theorem dX11_count_1 : decode cX11_count 1 = .ok (.tableswitch 147 0 10 #[59, 67, 75, 83, 91, 99, 107, 115, 123, 131, 139], 59) := by decide +kernel
theorem dX11_count_60 : decode cX11_count 60 = .ok (.aload_n 0, 1) := by decide +kernel
theorem dX11_count_61 : decode cX11_count 61 = .ok (.getfield 49, 3) := by decide +kernel
theorem dX11_count_64 : decode cX11_count 64 = .ok (.getfield 183, 3) := by decide +kernel
theorem dX11_count_67 : decode cX11_count 67 = .ok (.ireturn, 1) := by decide +kernel
theorem dX11_count_68 : decode cX11_count 68 = .ok (.aload_n 0, 1) := by decide +kernel
theorem dX11_count_69 : decode cX11_count 69 = .ok (.getfield 35, 3) := by decide +kernel
theorem dX11_count_72 : decode cX11_count 72 = .ok (.getfield 186, 3) := by decide +kernel
theorem dX11_count_75 : decode cX11_count 75 = .ok (.ireturn, 1) := by decide +kernel
theorem dX11_count_76 : decode cX11_count 76 = .ok (.aload_n 0, 1) := by decide +kernel
theorem dX11_count_77 : decode cX11_count 77 = .ok (.getfield 35, 3) := by decide +kernel
theorem dX11_count_80 : decode cX11_count 80 = .ok (.getfield 189, 3) := by decide +kernel
theorem dX11_count_83 : decode cX11_count 83 = .ok (.ireturn, 1) := by decide +kernel
theorem dX11_count_84 : decode cX11_count 84 = .ok (.aload_n 0, 1) := by decide +kernel
theorem dX11_count_85 : decode cX11_count 85 = .ok (.getfield 35, 3) := by decide +kernel
theorem dX11_count_88 : decode cX11_count 88 = .ok (.getfield 190, 3) := by decide +kernel
theorem dX11_count_91 : decode cX11_count 91 = .ok (.ireturn, 1) := by decide +kernel
theorem dX11_count_92 : decode cX11_count 92 = .ok (.aload_n 0, 1) := by decide +kernel
theorem dX11_count_93 : decode cX11_count 93 = .ok (.getfield 35, 3) := by decide +kernel
theorem dX11_count_96 : decode cX11_count 96 = .ok (.getfield 191, 3) := by decide +kernel
theorem dX11_count_99 : decode cX11_count 99 = .ok (.ireturn, 1) := by decide +kernel
theorem dX11_count_100 : decode cX11_count 100 = .ok (.aload_n 0, 1) := by decide +kernel
theorem dX11_count_101 : decode cX11_count 101 = .ok (.getfield 35, 3) := by decide +kernel
theorem dX11_count_104 : decode cX11_count 104 = .ok (.getfield 113, 3) := by decide +kernel
theorem dX11_count_107 : decode cX11_count 107 = .ok (.ireturn, 1) := by decide +kernel
theorem dX11_count_108 : decode cX11_count 108 = .ok (.aload_n 0, 1) := by decide +kernel
theorem dX11_count_109 : decode cX11_count 109 = .ok (.getfield 35, 3) := by decide +kernel
theorem dX11_count_112 : decode cX11_count 112 = .ok (.getfield 192, 3) := by decide +kernel
theorem dX11_count_115 : decode cX11_count 115 = .ok (.ireturn, 1) := by decide +kernel
theorem dX11_count_116 : decode cX11_count 116 = .ok (.aload_n 0, 1) := by decide +kernel
theorem dX11_count_117 : decode cX11_count 117 = .ok (.getfield 49, 3) := by decide +kernel
theorem dX11_count_120 : decode cX11_count 120 = .ok (.invokevirtual 195, 3) := by decide +kernel
theorem dX11_count_123 : decode cX11_count 123 = .ok (.ireturn, 1) := by decide +kernel
theorem dX11_count_124 : decode cX11_count 124 = .ok (.aload_n 0, 1) := by decide +kernel
theorem dX11_count_125 : decode cX11_count 125 = .ok (.getfield 35, 3) := by decide +kernel
theorem dX11_count_128 : decode cX11_count 128 = .ok (.getfield 198, 3) := by decide +kernel
theorem dX11_count_131 : decode cX11_count 131 = .ok (.ireturn, 1) := by decide +kernel
theorem dX11_count_132 : decode cX11_count 132 = .ok (.aload_n 0, 1) := by decide +kernel
theorem dX11_count_133 : decode cX11_count 133 = .ok (.getfield 35, 3) := by decide +kernel
theorem dX11_count_136 : decode cX11_count 136 = .ok (.invokevirtual 173, 3) := by decide +kernel
theorem dX11_count_139 : decode cX11_count 139 = .ok (.ireturn, 1) := by decide +kernel
theorem dX11_count_140 : decode cX11_count 140 = .ok (.aload_n 0, 1) := by decide +kernel
theorem dX11_count_141 : decode cX11_count 141 = .ok (.getfield 10, 3) := by decide +kernel
theorem dX11_count_144 : decode cX11_count 144 = .ok (.getfield 60, 3) := by decide +kernel
theorem dX11_count_147 : decode cX11_count 147 = .ok (.ireturn, 1) := by decide +kernel
theorem dX11_count_148 : decode cX11_count 148 = .ok (.sipush (-1002), 3) := by decide +kernel
theorem dX11_count_151 : decode cX11_count 151 = .ok (.ireturn, 1) := by decide +kernel
theorem pyX11_count : PY yX11_count 1 := ⟨by decide +kernel, by decide +kernel, by decide +kernel⟩
def fX11_count (Y : LY) (S : HS) (l0 : Option Nat) (l1 : Int32) : Option (Int32) :=
  if l1 = 0 then
    (gR Y 11 1107 l0 S).bind fun v61 =>
    (gI Y 8 801 v61 S).bind fun v64 =>
    some v64
  else
  if l1 = 1 then
    (gR Y 11 1104 l0 S).bind fun v69 =>
    (gI Y 2 201 v69 S).bind fun v72 =>
    some v72
  else
  if l1 = 2 then
    (gR Y 11 1104 l0 S).bind fun v77 =>
    (gI Y 2 202 v77 S).bind fun v80 =>
    some v80
  else
  if l1 = 3 then
    (gR Y 11 1104 l0 S).bind fun v85 =>
    (gI Y 2 203 v85 S).bind fun v88 =>
    some v88
  else
  if l1 = 4 then
    (gR Y 11 1104 l0 S).bind fun v93 =>
    (gI Y 2 204 v93 S).bind fun v96 =>
    some v96
  else
  if l1 = 5 then
    (gR Y 11 1104 l0 S).bind fun v101 =>
    (gI Y 2 205 v101 S).bind fun v104 =>
    some v104
  else
  if l1 = 6 then
    (gR Y 11 1104 l0 S).bind fun v109 =>
    (gI Y 2 206 v109 S).bind fun v112 =>
    some v112
  else
  if l1 = 7 then
    (gR Y 11 1107 l0 S).bind fun v117 =>
    (rcv Y 8 v117).bind fun _ =>
    (fX8_runningNodes Y S v117 ).bind fun v120 =>
    some v120
  else
  if l1 = 8 then
    (gR Y 11 1104 l0 S).bind fun v125 =>
    (gI Y 2 207 v125 S).bind fun v128 =>
    some v128
  else
  if l1 = 9 then
    (gR Y 11 1104 l0 S).bind fun v133 =>
    (rcv Y 2 v133).bind fun _ =>
    (fX2_entries Y S v133 ).bind fun v136 =>
    some v136
  else
  if l1 = 10 then
    (gR Y 11 1100 l0 S).bind fun v141 =>
    (gI Y 7 701 v141 S).bind fun v144 =>
    some v144
  else
  some (-1002)
set_option maxRecDepth 100000 in
set_option maxHeartbeats 4000000 in
theorem mX11_count (l : Launch) {G : GG} {Y : LY} {S : HS} {l0 : Option Nat} {l1 : Int32} {res : Int32} (hf : fX11_count Y S l0 l1 = some res) : MM l yX11_count cX11_count 2 (some .int) 2 50 G Y S [va_rf l0, .int l1] S (some (.int res)) := by
  refine mm_of2 (plainFor_of_name (by decide +kernel)) (Nat.le_of_ble_eq_true rfl) (c1c (cr _) (c1c (ci _) c1n)) ?_
  intro p e R s m args below meth c X H locs ls hP hl
  have X : Cx p R s m args meth c RX11 cX11_count 2 2 50 (fun q => q ∈ Y.1) G (some .int) := X
  have hx := X.1.1
  have hb := X.1.2.1
  have hl : LV ls 2 [(0, va_rf l0), (1, .int l1)] := hl
  unfold fX11_count at hf
  refine lv_iload_n hx hb dX11_count_0 rfl (hl.at 1 rfl) ?_
  by_cases c1_0 : l1 = 0
  · have hf := ifp hf c1_0
    refine lv_tableIn (tgt := 60) hx hb dX11_count_1 (by rw [c1_0]; decide) (by rw [c1_0]; decide) (by rw [c1_0]; rfl) (by decide) ?_
    refine rw_aload_n X dX11_count_60 rfl (hl.at 0 rfl) ?_
    obtain ⟨v61, e61, hf⟩ := ob hf
    refine rw_getR X dX11_count_61 fl11_49 e61 rfl hP ?_
    obtain ⟨v64, e64, hf⟩ := ob hf
    refine rw_getI X dX11_count_64 fl11_183 e64 rfl hP ?_
    cases hf
    exact rw_iret X dX11_count_67 hP
  have hf := ifn hf c1_0
  by_cases c1_1 : l1 = 1
  · have hf := ifp hf c1_1
    refine lv_tableIn (tgt := 68) hx hb dX11_count_1 (by rw [c1_1]; decide) (by rw [c1_1]; decide) (by rw [c1_1]; rfl) (by decide) ?_
    refine rw_aload_n X dX11_count_68 rfl (hl.at 0 rfl) ?_
    obtain ⟨v69, e69, hf⟩ := ob hf
    refine rw_getR X dX11_count_69 fl11_35 e69 rfl hP ?_
    obtain ⟨v72, e72, hf⟩ := ob hf
    refine rw_getI X dX11_count_72 fl11_186 e72 rfl hP ?_
    cases hf
    exact rw_iret X dX11_count_75 hP
  have hf := ifn hf c1_1
  by_cases c1_2 : l1 = 2
  · have hf := ifp hf c1_2
    refine lv_tableIn (tgt := 76) hx hb dX11_count_1 (by rw [c1_2]; decide) (by rw [c1_2]; decide) (by rw [c1_2]; rfl) (by decide) ?_
    refine rw_aload_n X dX11_count_76 rfl (hl.at 0 rfl) ?_
    obtain ⟨v77, e77, hf⟩ := ob hf
    refine rw_getR X dX11_count_77 fl11_35 e77 rfl hP ?_
    obtain ⟨v80, e80, hf⟩ := ob hf
    refine rw_getI X dX11_count_80 fl11_189 e80 rfl hP ?_
    cases hf
    exact rw_iret X dX11_count_83 hP
  have hf := ifn hf c1_2
  by_cases c1_3 : l1 = 3
  · have hf := ifp hf c1_3
    refine lv_tableIn (tgt := 84) hx hb dX11_count_1 (by rw [c1_3]; decide) (by rw [c1_3]; decide) (by rw [c1_3]; rfl) (by decide) ?_
    refine rw_aload_n X dX11_count_84 rfl (hl.at 0 rfl) ?_
    obtain ⟨v85, e85, hf⟩ := ob hf
    refine rw_getR X dX11_count_85 fl11_35 e85 rfl hP ?_
    obtain ⟨v88, e88, hf⟩ := ob hf
    refine rw_getI X dX11_count_88 fl11_190 e88 rfl hP ?_
    cases hf
    exact rw_iret X dX11_count_91 hP
  have hf := ifn hf c1_3
  by_cases c1_4 : l1 = 4
  · have hf := ifp hf c1_4
    refine lv_tableIn (tgt := 92) hx hb dX11_count_1 (by rw [c1_4]; decide) (by rw [c1_4]; decide) (by rw [c1_4]; rfl) (by decide) ?_
    refine rw_aload_n X dX11_count_92 rfl (hl.at 0 rfl) ?_
    obtain ⟨v93, e93, hf⟩ := ob hf
    refine rw_getR X dX11_count_93 fl11_35 e93 rfl hP ?_
    obtain ⟨v96, e96, hf⟩ := ob hf
    refine rw_getI X dX11_count_96 fl11_191 e96 rfl hP ?_
    cases hf
    exact rw_iret X dX11_count_99 hP
  have hf := ifn hf c1_4
  by_cases c1_5 : l1 = 5
  · have hf := ifp hf c1_5
    refine lv_tableIn (tgt := 100) hx hb dX11_count_1 (by rw [c1_5]; decide) (by rw [c1_5]; decide) (by rw [c1_5]; rfl) (by decide) ?_
    refine rw_aload_n X dX11_count_100 rfl (hl.at 0 rfl) ?_
    obtain ⟨v101, e101, hf⟩ := ob hf
    refine rw_getR X dX11_count_101 fl11_35 e101 rfl hP ?_
    obtain ⟨v104, e104, hf⟩ := ob hf
    refine rw_getI X dX11_count_104 fl11_113 e104 rfl hP ?_
    cases hf
    exact rw_iret X dX11_count_107 hP
  have hf := ifn hf c1_5
  by_cases c1_6 : l1 = 6
  · have hf := ifp hf c1_6
    refine lv_tableIn (tgt := 108) hx hb dX11_count_1 (by rw [c1_6]; decide) (by rw [c1_6]; decide) (by rw [c1_6]; rfl) (by decide) ?_
    refine rw_aload_n X dX11_count_108 rfl (hl.at 0 rfl) ?_
    obtain ⟨v109, e109, hf⟩ := ob hf
    refine rw_getR X dX11_count_109 fl11_35 e109 rfl hP ?_
    obtain ⟨v112, e112, hf⟩ := ob hf
    refine rw_getI X dX11_count_112 fl11_192 e112 rfl hP ?_
    cases hf
    exact rw_iret X dX11_count_115 hP
  have hf := ifn hf c1_6
  by_cases c1_7 : l1 = 7
  · have hf := ifp hf c1_7
    refine lv_tableIn (tgt := 116) hx hb dX11_count_1 (by rw [c1_7]; decide) (by rw [c1_7]; decide) (by rw [c1_7]; rfl) (by decide) ?_
    refine rw_aload_n X dX11_count_116 rfl (hl.at 0 rfl) ?_
    obtain ⟨v117, e117, hf⟩ := ob hf
    refine rw_getR X dX11_count_117 fl11_49 e117 rfl hP ?_
    obtain ⟨u120, r120, hf⟩ := ob hf
    obtain ⟨v120, e120, hf⟩ := ob hf
    refine rw_callVi (As := []) X dX11_count_120 clX11_195 pyX8_runningNodes (mX8_runningNodes l e120) (by decide) r120 rfl hP rfl (catL c1n (Nat.le_of_ble_eq_true rfl)) hl.1.1 (fun H locs hP => ?_)
    cases hf
    exact rw_iret X dX11_count_123 hP
  have hf := ifn hf c1_7
  by_cases c1_8 : l1 = 8
  · have hf := ifp hf c1_8
    refine lv_tableIn (tgt := 124) hx hb dX11_count_1 (by rw [c1_8]; decide) (by rw [c1_8]; decide) (by rw [c1_8]; rfl) (by decide) ?_
    refine rw_aload_n X dX11_count_124 rfl (hl.at 0 rfl) ?_
    obtain ⟨v125, e125, hf⟩ := ob hf
    refine rw_getR X dX11_count_125 fl11_35 e125 rfl hP ?_
    obtain ⟨v128, e128, hf⟩ := ob hf
    refine rw_getI X dX11_count_128 fl11_198 e128 rfl hP ?_
    cases hf
    exact rw_iret X dX11_count_131 hP
  have hf := ifn hf c1_8
  by_cases c1_9 : l1 = 9
  · have hf := ifp hf c1_9
    refine lv_tableIn (tgt := 132) hx hb dX11_count_1 (by rw [c1_9]; decide) (by rw [c1_9]; decide) (by rw [c1_9]; rfl) (by decide) ?_
    refine rw_aload_n X dX11_count_132 rfl (hl.at 0 rfl) ?_
    obtain ⟨v133, e133, hf⟩ := ob hf
    refine rw_getR X dX11_count_133 fl11_35 e133 rfl hP ?_
    obtain ⟨u136, r136, hf⟩ := ob hf
    obtain ⟨v136, e136, hf⟩ := ob hf
    refine rw_callVi (As := []) X dX11_count_136 clX11_173 pyX2_entries (mX2_entries l e136) (by decide) r136 rfl hP rfl (catL c1n (Nat.le_of_ble_eq_true rfl)) hl.1.1 (fun H locs hP => ?_)
    cases hf
    exact rw_iret X dX11_count_139 hP
  have hf := ifn hf c1_9
  by_cases c1_10 : l1 = 10
  · have hf := ifp hf c1_10
    refine lv_tableIn (tgt := 140) hx hb dX11_count_1 (by rw [c1_10]; decide) (by rw [c1_10]; decide) (by rw [c1_10]; rfl) (by decide) ?_
    refine rw_aload_n X dX11_count_140 rfl (hl.at 0 rfl) ?_
    obtain ⟨v141, e141, hf⟩ := ob hf
    refine rw_getR X dX11_count_141 fl11_10 e141 rfl hP ?_
    obtain ⟨v144, e144, hf⟩ := ob hf
    refine rw_getI X dX11_count_144 fl11_60 e144 rfl hP ?_
    cases hf
    exact rw_iret X dX11_count_147 hP
  have hf := ifn hf c1_10
  have t1_0 := tsw (k := 0) (v := 0) (by decide) c1_0
  have t1_1 := tsw (k := 1) (v := 1) (by decide) c1_1
  have t1_2 := tsw (k := 2) (v := 2) (by decide) c1_2
  have t1_3 := tsw (k := 3) (v := 3) (by decide) c1_3
  have t1_4 := tsw (k := 4) (v := 4) (by decide) c1_4
  have t1_5 := tsw (k := 5) (v := 5) (by decide) c1_5
  have t1_6 := tsw (k := 6) (v := 6) (by decide) c1_6
  have t1_7 := tsw (k := 7) (v := 7) (by decide) c1_7
  have t1_8 := tsw (k := 8) (v := 8) (by decide) c1_8
  have t1_9 := tsw (k := 9) (v := 9) (by decide) c1_9
  have t1_10 := tsw (k := 10) (v := 10) (by decide) c1_10
  refine lv_tableOut (tgt := 148) hx hb dX11_count_1 (by omega) (by decide) ?_
  refine lv_sipush (v := (-1002)) hx hb dX11_count_148 (by decide) ?_
  cases hf
  exact rw_iret X dX11_count_151 hP
theorem dX11_written_0 : decode cX11_written 0 = .ok (.aload_n 0, 1) := by decide +kernel
theorem dX11_written_1 : decode cX11_written 1 = .ok (.getfield 16, 3) := by decide +kernel
theorem dX11_written_4 : decode cX11_written 4 = .ok (.iload_n 1, 1) := by decide +kernel
theorem dX11_written_5 : decode cX11_written 5 = .ok (.invokevirtual 209, 3) := by decide +kernel
theorem dX11_written_8 : decode cX11_written 8 = .ok (.istore_n 2, 1) := by decide +kernel
theorem dX11_written_9 : decode cX11_written 9 = .ok (.iload_n 2, 1) := by decide +kernel
theorem dX11_written_10 : decode cX11_written 10 = .ok (.ifCond .ge 9, 3) := by decide +kernel
theorem dX11_written_13 : decode cX11_written 13 = .ok (.sipush (-1001), 3) := by decide +kernel
theorem dX11_written_16 : decode cX11_written 16 = .ok (.goto 4, 3) := by decide +kernel
theorem dX11_written_19 : decode cX11_written 19 = .ok (.iload_n 2, 1) := by decide +kernel
theorem dX11_written_20 : decode cX11_written 20 = .ok (.ireturn, 1) := by decide +kernel
theorem pyX11_written : PY yX11_written 1 := ⟨by decide +kernel, by decide +kernel, by decide +kernel⟩
def fX11_written (Y : LY) (S : HS) (l0 : Option Nat) (l1 : Int32) : Option (Int32) :=
  (gR Y 11 1101 l0 S).bind fun v1 =>
  (rcv Y 7 v1).bind fun _ =>
  (fX7_codeAt Y S v1 l1).bind fun v5 =>
  if 0 ≤ v5 then
    some v5
  else
    some (-1001)
set_option maxRecDepth 100000 in
set_option maxHeartbeats 4000000 in
theorem mX11_written (l : Launch) {G : GG} {Y : LY} {S : HS} {l0 : Option Nat} {l1 : Int32} {res : Int32} (hf : fX11_written Y S l0 l1 = some res) : MM l yX11_written cX11_written 3 (some .int) 1 21 G Y S [va_rf l0, .int l1] S (some (.int res)) := by
  refine mm_of2 (plainFor_of_name (by decide +kernel)) (Nat.le_of_ble_eq_true rfl) (c1c (cr _) (c1c (ci _) c1n)) ?_
  intro p e R s m args below meth c X H locs ls hP hl
  have X : Cx p R s m args meth c RX11 cX11_written 3 1 21 (fun q => q ∈ Y.1) G (some .int) := X
  have hx := X.1.1
  have hb := X.1.2.1
  have hl : LV ls 3 [(0, va_rf l0), (1, .int l1)] := hl
  unfold fX11_written at hf
  refine rw_aload_n X dX11_written_0 rfl (hl.at 0 rfl) ?_
  obtain ⟨v1, e1, hf⟩ := ob hf
  refine rw_getR X dX11_written_1 fl11_16 e1 rfl hP ?_
  refine lv_iload_n hx hb dX11_written_4 rfl (hl.at 1 rfl) ?_
  obtain ⟨u5, r5, hf⟩ := ob hf
  obtain ⟨v5, e5, hf⟩ := ob hf
  refine rw_callVi (As := [.int l1]) X dX11_written_5 clX11_209 pyX7_codeAt (mX7_codeAt l e5) (by decide) r5 rfl hP rfl (catL c1n (Nat.le_of_ble_eq_true rfl)) hl.1.1 (fun H locs hP => ?_)
  refine rv_istore_n X dX11_written_8 rfl hl (by decide) rfl (fun ls hl => ?_)
  have hl : LV ls 3 [(2, .int v5), (0, va_rf l0), (1, .int l1)] := hl
  refine lv_iload_n hx hb dX11_written_9 rfl (hl.at 0 rfl) ?_
  refine lv_if_ge hx hb (tgt := 19) dX11_written_10 (by decide) (fun c10 => ?_) (fun c10 => ?_)
  · have hf := ifp hf c10
    refine lv_iload_n hx hb dX11_written_19 rfl (hl.at 0 rfl) ?_
    cases hf
    exact rw_iret X dX11_written_20 hP
  · have hf := ifn hf c10
    refine lv_sipush (v := (-1001)) hx hb dX11_written_13 (by decide) ?_
    refine lv_goto (tgt := 20) hx hb dX11_written_16 (by decide) ?_
    cases hf
    exact rw_iret X dX11_written_20 hP
theorem dX11_save_0 : decode cX11_save 0 = .ok (.aload_n 0, 1) := by decide +kernel
theorem dX11_save_1 : decode cX11_save 1 = .ok (.getfield 49, 3) := by decide +kernel
theorem dX11_save_4 : decode cX11_save 4 = .ok (.getfield 183, 3) := by decide +kernel
theorem dX11_save_7 : decode cX11_save 7 = .ok (.ifCond .ne 7, 3) := by decide +kernel
theorem dX11_save_10 : decode cX11_save 10 = .ok (.sipush (-1004), 3) := by decide +kernel
theorem dX11_save_13 : decode cX11_save 13 = .ok (.ireturn, 1) := by decide +kernel
theorem dX11_save_14 : decode cX11_save 14 = .ok (.aload_n 0, 1) := by decide +kernel
theorem dX11_save_15 : decode cX11_save 15 = .ok (.getfield 39, 3) := by decide +kernel
theorem dX11_save_18 : decode cX11_save 18 = .ok (.aload_n 0, 1) := by decide +kernel
theorem dX11_save_19 : decode cX11_save 19 = .ok (.getfield 49, 3) := by decide +kernel
theorem dX11_save_22 : decode cX11_save 22 = .ok (.aload_n 0, 1) := by decide +kernel
theorem dX11_save_23 : decode cX11_save 23 = .ok (.getfield 30, 3) := by decide +kernel
theorem dX11_save_26 : decode cX11_save 26 = .ok (.aload_n 0, 1) := by decide +kernel
theorem dX11_save_27 : decode cX11_save 27 = .ok (.getfield 35, 3) := by decide +kernel
theorem dX11_save_30 : decode cX11_save 30 = .ok (.invokevirtual 106, 3) := by decide +kernel
theorem dX11_save_33 : decode cX11_save 33 = .ok (.aload_n 0, 1) := by decide +kernel
theorem dX11_save_34 : decode cX11_save 34 = .ok (.iconst 1, 1) := by decide +kernel
theorem dX11_save_35 : decode cX11_save 35 = .ok (.putfield 56, 3) := by decide +kernel
theorem dX11_save_38 : decode cX11_save 38 = .ok (.aload_n 0, 1) := by decide +kernel
theorem dX11_save_39 : decode cX11_save 39 = .ok (.getfield 49, 3) := by decide +kernel
theorem dX11_save_42 : decode cX11_save 42 = .ok (.getfield 183, 3) := by decide +kernel
theorem dX11_save_45 : decode cX11_save 45 = .ok (.ireturn, 1) := by decide +kernel
theorem pyX11_save : PY yX11_save 0 := ⟨by decide +kernel, by decide +kernel, by decide +kernel⟩
def fX11_save (Y : LY) (S : HS) (l0 : Option Nat) : Option (HS × Int32) :=
  (gR Y 11 1107 l0 S).bind fun v1 =>
  (gI Y 8 801 v1 S).bind fun v4 =>
  if v4 = 0 then
    some (S, (-1004))
  else
    (gR Y 11 1105 l0 S).bind fun v15 =>
    (gR Y 11 1107 l0 S).bind fun v19 =>
    (gR Y 11 1103 l0 S).bind fun v23 =>
    (gR Y 11 1104 l0 S).bind fun v27 =>
    (rcv Y 6 v15).bind fun _ =>
    (fX6_take Y S v15 v19 v23 v27).bind fun S30 =>
    (pZ Y 11 1109 l0 1 S30).bind fun S35 =>
    (gR Y 11 1107 l0 S35).bind fun v39 =>
    (gI Y 8 801 v39 S35).bind fun v42 =>
    some (S35, v42)
set_option maxRecDepth 100000 in
set_option maxHeartbeats 4000000 in
theorem mX11_save (l : Launch) {G : GG} {Y : LY} {S : HS} {l0 : Option Nat} {res : HS × Int32} (hf : fX11_save Y S l0 = some res) : MM l yX11_save cX11_save 1 (some .int) 3 106 G Y S [va_rf l0] res.1 (some (.int res.2)) := by
  refine mm_of2 (plainFor_of_name (by decide +kernel)) (Nat.le_of_ble_eq_true rfl) (c1c (cr _) c1n) ?_
  intro p e R s m args below meth c X H locs ls hP hl
  have X : Cx p R s m args meth c RX11 cX11_save 1 3 106 (fun q => q ∈ Y.1) G (some .int) := X
  have hx := X.1.1
  have hb := X.1.2.1
  have hl : LV ls 1 [(0, va_rf l0)] := hl
  unfold fX11_save at hf
  refine rw_aload_n X dX11_save_0 rfl (hl.at 0 rfl) ?_
  obtain ⟨v1, e1, hf⟩ := ob hf
  refine rw_getR X dX11_save_1 fl11_49 e1 rfl hP ?_
  obtain ⟨v4, e4, hf⟩ := ob hf
  refine rw_getI X dX11_save_4 fl11_183 e4 rfl hP ?_
  refine lv_if_ne hx hb (tgt := 14) dX11_save_7 (by decide) (fun c7 => ?_) (fun c7 => ?_)
  · have hf := ifn hf c7
    refine rw_aload_n X dX11_save_14 rfl (hl.at 0 rfl) ?_
    obtain ⟨v15, e15, hf⟩ := ob hf
    refine rw_getR X dX11_save_15 fl11_39 e15 rfl hP ?_
    refine rw_aload_n X dX11_save_18 rfl (hl.at 0 rfl) ?_
    obtain ⟨v19, e19, hf⟩ := ob hf
    refine rw_getR X dX11_save_19 fl11_49 e19 rfl hP ?_
    refine rw_aload_n X dX11_save_22 rfl (hl.at 0 rfl) ?_
    obtain ⟨v23, e23, hf⟩ := ob hf
    refine rw_getR X dX11_save_23 fl11_30 e23 rfl hP ?_
    refine rw_aload_n X dX11_save_26 rfl (hl.at 0 rfl) ?_
    obtain ⟨v27, e27, hf⟩ := ob hf
    refine rw_getR X dX11_save_27 fl11_35 e27 rfl hP ?_
    obtain ⟨u30, r30, hf⟩ := ob hf
    obtain ⟨S30, e30, hf⟩ := ob hf
    refine rw_callVv (As := [va_rf v19, va_rf v23, va_rf v27]) X dX11_save_30 clX11_106 pyX6_take (mX6_take l e30) (by decide) r30 rfl hP rfl (catL c1n (Nat.le_of_ble_eq_true rfl)) hl.1.1 (fun H locs hP => ?_)
    refine rw_aload_n X dX11_save_33 rfl (hl.at 0 rfl) ?_
    refine lv_iconst (v := 1) hx hb dX11_save_34 (by decide) ?_
    obtain ⟨S35, e35, hf⟩ := ob hf
    refine rw_putZ X dX11_save_35 fl11_56 fw11_9 e35 rfl hP (fun H locs hP => ?_)
    refine rw_aload_n X dX11_save_38 rfl (hl.at 0 rfl) ?_
    obtain ⟨v39, e39, hf⟩ := ob hf
    refine rw_getR X dX11_save_39 fl11_49 e39 rfl hP ?_
    obtain ⟨v42, e42, hf⟩ := ob hf
    refine rw_getI X dX11_save_42 fl11_183 e42 rfl hP ?_
    cases hf
    exact rw_iret X dX11_save_45 hP
  · have hf := ifp hf c7
    refine lv_sipush (v := (-1004)) hx hb dX11_save_10 (by decide) ?_
    cases hf
    exact rw_iret X dX11_save_13 hP
theorem dX11_restore_0 : decode cX11_restore 0 = .ok (.aload_n 0, 1) := by decide +kernel
theorem dX11_restore_1 : decode cX11_restore 1 = .ok (.getfield 56, 3) := by decide +kernel
theorem dX11_restore_4 : decode cX11_restore 4 = .ok (.ifCond .ne 7, 3) := by decide +kernel
theorem dX11_restore_7 : decode cX11_restore 7 = .ok (.sipush (-1001), 3) := by decide +kernel
theorem dX11_restore_10 : decode cX11_restore 10 = .ok (.ireturn, 1) := by decide +kernel
theorem dX11_restore_11 : decode cX11_restore 11 = .ok (.aload_n 0, 1) := by decide +kernel
theorem dX11_restore_12 : decode cX11_restore 12 = .ok (.getfield 39, 3) := by decide +kernel
theorem dX11_restore_15 : decode cX11_restore 15 = .ok (.aload_n 0, 1) := by decide +kernel
theorem dX11_restore_16 : decode cX11_restore 16 = .ok (.getfield 49, 3) := by decide +kernel
theorem dX11_restore_19 : decode cX11_restore 19 = .ok (.aload_n 0, 1) := by decide +kernel
theorem dX11_restore_20 : decode cX11_restore 20 = .ok (.getfield 30, 3) := by decide +kernel
theorem dX11_restore_23 : decode cX11_restore 23 = .ok (.aload_n 0, 1) := by decide +kernel
theorem dX11_restore_24 : decode cX11_restore 24 = .ok (.getfield 35, 3) := by decide +kernel
theorem dX11_restore_27 : decode cX11_restore 27 = .ok (.invokevirtual 110, 3) := by decide +kernel
theorem dX11_restore_30 : decode cX11_restore 30 = .ok (.aload_n 0, 1) := by decide +kernel
theorem dX11_restore_31 : decode cX11_restore 31 = .ok (.getfield 49, 3) := by decide +kernel
theorem dX11_restore_34 : decode cX11_restore 34 = .ok (.getfield 183, 3) := by decide +kernel
theorem dX11_restore_37 : decode cX11_restore 37 = .ok (.ireturn, 1) := by decide +kernel
theorem pyX11_restore : PY yX11_restore 0 := ⟨by decide +kernel, by decide +kernel, by decide +kernel⟩
def fX11_restore (Y : LY) (S : HS) (l0 : Option Nat) : Option (HS × Int32) :=
  (gI Y 11 1109 l0 S).bind fun v1 =>
  if v1 = 0 then
    some (S, (-1001))
  else
    (gR Y 11 1105 l0 S).bind fun v12 =>
    (gR Y 11 1107 l0 S).bind fun v16 =>
    (gR Y 11 1103 l0 S).bind fun v20 =>
    (gR Y 11 1104 l0 S).bind fun v24 =>
    (rcv Y 6 v12).bind fun _ =>
    (fX6_giveBack Y S v12 v16 v20 v24).bind fun S27 =>
    (gR Y 11 1107 l0 S27).bind fun v31 =>
    (gI Y 8 801 v31 S27).bind fun v34 =>
    some (S27, v34)
set_option maxRecDepth 100000 in
set_option maxHeartbeats 4000000 in
theorem mX11_restore (l : Launch) {G : GG} {Y : LY} {S : HS} {l0 : Option Nat} {res : HS × Int32} (hf : fX11_restore Y S l0 = some res) : MM l yX11_restore cX11_restore 1 (some .int) 3 106 G Y S [va_rf l0] res.1 (some (.int res.2)) := by
  refine mm_of2 (plainFor_of_name (by decide +kernel)) (Nat.le_of_ble_eq_true rfl) (c1c (cr _) c1n) ?_
  intro p e R s m args below meth c X H locs ls hP hl
  have X : Cx p R s m args meth c RX11 cX11_restore 1 3 106 (fun q => q ∈ Y.1) G (some .int) := X
  have hx := X.1.1
  have hb := X.1.2.1
  have hl : LV ls 1 [(0, va_rf l0)] := hl
  unfold fX11_restore at hf
  refine rw_aload_n X dX11_restore_0 rfl (hl.at 0 rfl) ?_
  obtain ⟨v1, e1, hf⟩ := ob hf
  refine rw_getI X dX11_restore_1 fl11_56 e1 rfl hP ?_
  refine lv_if_ne hx hb (tgt := 11) dX11_restore_4 (by decide) (fun c4 => ?_) (fun c4 => ?_)
  · have hf := ifn hf c4
    refine rw_aload_n X dX11_restore_11 rfl (hl.at 0 rfl) ?_
    obtain ⟨v12, e12, hf⟩ := ob hf
    refine rw_getR X dX11_restore_12 fl11_39 e12 rfl hP ?_
    refine rw_aload_n X dX11_restore_15 rfl (hl.at 0 rfl) ?_
    obtain ⟨v16, e16, hf⟩ := ob hf
    refine rw_getR X dX11_restore_16 fl11_49 e16 rfl hP ?_
    refine rw_aload_n X dX11_restore_19 rfl (hl.at 0 rfl) ?_
    obtain ⟨v20, e20, hf⟩ := ob hf
    refine rw_getR X dX11_restore_20 fl11_30 e20 rfl hP ?_
    refine rw_aload_n X dX11_restore_23 rfl (hl.at 0 rfl) ?_
    obtain ⟨v24, e24, hf⟩ := ob hf
    refine rw_getR X dX11_restore_24 fl11_35 e24 rfl hP ?_
    obtain ⟨u27, r27, hf⟩ := ob hf
    obtain ⟨S27, e27, hf⟩ := ob hf
    refine rw_callVv (As := [va_rf v16, va_rf v20, va_rf v24]) X dX11_restore_27 clX11_110 pyX6_giveBack (mX6_giveBack l e27) (by decide) r27 rfl hP rfl (catL c1n (Nat.le_of_ble_eq_true rfl)) hl.1.1 (fun H locs hP => ?_)
    refine rw_aload_n X dX11_restore_30 rfl (hl.at 0 rfl) ?_
    obtain ⟨v31, e31, hf⟩ := ob hf
    refine rw_getR X dX11_restore_31 fl11_49 e31 rfl hP ?_
    obtain ⟨v34, e34, hf⟩ := ob hf
    refine rw_getI X dX11_restore_34 fl11_183 e34 rfl hP ?_
    cases hf
    exact rw_iret X dX11_restore_37 hP
  · have hf := ifp hf c4
    refine lv_sipush (v := (-1001)) hx hb dX11_restore_7 (by decide) ?_
    cases hf
    exact rw_iret X dX11_restore_10 hP
