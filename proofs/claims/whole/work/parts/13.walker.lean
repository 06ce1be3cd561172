/-! printed by wip/whole/gen/gen_parts.py: 13.walker -/
theorem dX9_beginRun_0 : decode cX9_beginRun 0 = .ok (.aload_n 1, 1) := by decide +kernel
theorem dX9_beginRun_1 : decode cX9_beginRun 1 = .ok (.getfield 60, 3) := by decide +kernel
theorem dX9_beginRun_4 : decode cX9_beginRun 4 = .ok (.astore_n 2, 1) := by decide +kernel
theorem dX9_beginRun_5 : decode cX9_beginRun 5 = .ok (.aload_n 2, 1) := by decide +kernel
theorem dX9_beginRun_6 : decode cX9_beginRun 6 = .ok (.iconst 1, 1) := by decide +kernel
theorem dX9_beginRun_7 : decode cX9_beginRun 7 = .ok (.putfield 64, 3) := by decide +kernel
theorem dX9_beginRun_10 : decode cX9_beginRun 10 = .ok (.aload_n 2, 1) := by decide +kernel
theorem dX9_beginRun_11 : decode cX9_beginRun 11 = .ok (.dup, 1) := by decide +kernel
theorem dX9_beginRun_12 : decode cX9_beginRun 12 = .ok (.getfield 150, 3) := by decide +kernel
theorem dX9_beginRun_15 : decode cX9_beginRun 15 = .ok (.iconst 1, 1) := by decide +kernel
theorem dX9_beginRun_16 : decode cX9_beginRun 16 = .ok (.iadd, 1) := by decide +kernel
theorem dX9_beginRun_17 : decode cX9_beginRun 17 = .ok (.putfield 150, 3) := by decide +kernel
theorem dX9_beginRun_20 : decode cX9_beginRun 20 = .ok (.aload_n 2, 1) := by decide +kernel
theorem dX9_beginRun_21 : decode cX9_beginRun 21 = .ok (.iconst 0, 1) := by decide +kernel
theorem dX9_beginRun_22 : decode cX9_beginRun 22 = .ok (.putfield 144, 3) := by decide +kernel
theorem dX9_beginRun_25 : decode cX9_beginRun 25 = .ok (.aload_n 2, 1) := by decide +kernel
theorem dX9_beginRun_26 : decode cX9_beginRun 26 = .ok (.aload_n 1, 1) := by decide +kernel
theorem dX9_beginRun_27 : decode cX9_beginRun 27 = .ok (.getfield 133, 3) := by decide +kernel
theorem dX9_beginRun_30 : decode cX9_beginRun 30 = .ok (.putfield 127, 3) := by decide +kernel
theorem dX9_beginRun_33 : decode cX9_beginRun 33 = .ok (.aload_n 2, 1) := by decide +kernel
theorem dX9_beginRun_34 : decode cX9_beginRun 34 = .ok (.iconst 0, 1) := by decide +kernel
theorem dX9_beginRun_35 : decode cX9_beginRun 35 = .ok (.putfield 153, 3) := by decide +kernel
theorem dX9_beginRun_38 : decode cX9_beginRun 38 = .ok (.aload_n 1, 1) := by decide +kernel
theorem dX9_beginRun_39 : decode cX9_beginRun 39 = .ok (.getfield 133, 3) := by decide +kernel
theorem dX9_beginRun_42 : decode cX9_beginRun 42 = .ok (.astore_n 3, 1) := by decide +kernel
theorem dX9_beginRun_43 : decode cX9_beginRun 43 = .ok (.aload_n 3, 1) := by decide +kernel
theorem dX9_beginRun_44 : decode cX9_beginRun 44 = .ok (.ifnull 19, 3) := by decide +kernel
theorem dX9_beginRun_47 : decode cX9_beginRun 47 = .ok (.aload_n 3, 1) := by decide +kernel
theorem dX9_beginRun_48 : decode cX9_beginRun 48 = .ok (.getfield 60, 3) := by decide +kernel
theorem dX9_beginRun_51 : decode cX9_beginRun 51 = .ok (.iconst 0, 1) := by decide +kernel
theorem dX9_beginRun_52 : decode cX9_beginRun 52 = .ok (.putfield 156, 3) := by decide +kernel
theorem dX9_beginRun_55 : decode cX9_beginRun 55 = .ok (.aload_n 3, 1) := by decide +kernel
theorem dX9_beginRun_56 : decode cX9_beginRun 56 = .ok (.getfield 159, 3) := by decide +kernel
theorem dX9_beginRun_59 : decode cX9_beginRun 59 = .ok (.astore_n 3, 1) := by decide +kernel
theorem dX9_beginRun_60 : decode cX9_beginRun 60 = .ok (.goto (-17), 3) := by decide +kernel
theorem dX9_beginRun_63 : decode cX9_beginRun 63 = .ok (.return_, 1) := by decide +kernel
theorem pyX9_beginRun : PY yX9_beginRun 1 := ⟨by decide +kernel, by decide +kernel, by decide +kernel⟩
def fX9_beginRun_43 (Y : LY) : Nat → HS → Option Nat → Option (HS)
  | 0, _, _ => none
  | n + 1, S, l3 =>
    if l3 = none then
      some S
    else
      (gR Y 4 403 l3 S).bind fun v48 =>
      (pI Y 3 303 v48 0 S).bind fun S52 =>
      (gR Y 4 412 l3 S52).bind fun v56 =>
      fX9_beginRun_43 Y n S52 v56
set_option maxRecDepth 100000 in
set_option maxHeartbeats 4000000 in
theorem wX9_beginRun_43 {p : Program} {l : Launch} {e : Env} {R : Room} {s : State} {m : MethodId} {args : Array Value} {below : List Frame} {meth : Method} {c : Code} {G : GG} {Y : LY} {res : HS} (X : Cx p R s m args meth c RX9 cX9_beginRun 4 0 0 (fun q => q ∈ Y.1) G none) : ∀ (n : Nat) (S : HS) (l3 : Option Nat), fX9_beginRun_43 Y n S l3 = some res → ∀ (H : Heap) (locs : List Loc) (ls : Array Slot), HP (fun q => q ∈ Y.1) G Y s S H locs → LV ls 4 [(3, va_rf l3)] → W p l e R s m args below meth c H locs 0 0 (MQ below (QI G Y res none) args s 0 0 (fun q => q ∈ Y.1)) (F0 m 43 ls []) := by
  have hx := X.1.1
  have hb := X.1.2.1
  intro n
  induction n with
  | zero =>
    intro S l3 hf
    cases hf
  | succ n ih =>
    intro S l3 hf H locs ls hP hl
    rw [fX9_beginRun_43] at hf
    refine rw_aload_n X dX9_beginRun_43 rfl (hl.at 0 rfl) ?_
    refine rw_ifnull X (tgt := 63) dX9_beginRun_44 (by decide) (fun c44 => ?_) (fun c44 => ?_)
    · have hf := ifp hf c44
      cases hf
      exact rw_vret X dX9_beginRun_63 hP
    · have hf := ifn hf c44
      refine rw_aload_n X dX9_beginRun_47 rfl (hl.at 0 rfl) ?_
      obtain ⟨v48, e48, hf⟩ := ob hf
      refine rw_getR X dX9_beginRun_48 fl9_60 e48 rfl hP ?_
      refine lv_iconst (v := 0) hx hb dX9_beginRun_51 (by decide) ?_
      obtain ⟨S52, e52, hf⟩ := ob hf
      refine rw_putI X dX9_beginRun_52 fl9_156 fw3_3 e52 rfl hP (fun H locs hP => ?_)
      refine rw_aload_n X dX9_beginRun_55 rfl (hl.at 0 rfl) ?_
      obtain ⟨v56, e56, hf⟩ := ob hf
      refine rw_getR X dX9_beginRun_56 fl9_159 e56 rfl hP ?_
      refine rv_astore_n X dX9_beginRun_59 rfl hl (by decide) rfl (fun ls hl => ?_)
      have hl : LV ls 4 [(3, va_rf v56)] := hl
      refine lv_goto (tgt := 43) hx hb dX9_beginRun_60 (by decide) ?_
      exact ih S52 v56 hf _ _ _ hP (hl.sub [0] rfl)
def fX9_beginRun (Y : LY) (S : HS) (l0 : Option Nat) (l1 : Option Nat) : Option (HS) :=
  (gR Y 4 403 l1 S).bind fun v1 =>
  (pZ Y 3 300 v1 1 S).bind fun S7 =>
  (gI Y 3 305 v1 S7).bind fun v12 =>
  (pI Y 3 305 v1 (v12 + 1) S7).bind fun S17 =>
  (pI Y 3 301 v1 0 S17).bind fun S22 =>
  (gR Y 4 410 l1 S22).bind fun v27 =>
  (pR Y 3 302 v1 v27 S22).bind fun S30 =>
  (pI Y 3 304 v1 0 S30).bind fun S35 =>
  (gR Y 4 410 l1 S35).bind fun v39 =>
  fX9_beginRun_43 Y FU S35 v39
set_option maxRecDepth 100000 in
set_option maxHeartbeats 4000000 in
theorem mX9_beginRun (l : Launch) {G : GG} {Y : LY} {S : HS} {l0 : Option Nat} {l1 : Option Nat} {res : HS} (hf : fX9_beginRun Y S l0 l1 = some res) : MM l yX9_beginRun cX9_beginRun 4 none 0 0 G Y S [va_rf l0, va_rf l1] res none := by
  refine mm_of2 (plainFor_of_name (by decide +kernel)) (Nat.le_of_ble_eq_true rfl) (c1c (cr _) (c1c (cr _) c1n)) ?_
  intro p e R s m args below meth c X H locs ls hP hl
  have X : Cx p R s m args meth c RX9 cX9_beginRun 4 0 0 (fun q => q ∈ Y.1) G none := X
  have hx := X.1.1
  have hb := X.1.2.1
  have hl : LV ls 4 [(0, va_rf l0), (1, va_rf l1)] := hl
  unfold fX9_beginRun at hf
  refine rw_aload_n X dX9_beginRun_0 rfl (hl.at 1 rfl) ?_
  obtain ⟨v1, e1, hf⟩ := ob hf
  refine rw_getR X dX9_beginRun_1 fl9_60 e1 rfl hP ?_
  refine rv_astore_n X dX9_beginRun_4 rfl hl (by decide) rfl (fun ls hl => ?_)
  have hl : LV ls 4 [(2, va_rf v1), (0, va_rf l0), (1, va_rf l1)] := hl
  refine rw_aload_n X dX9_beginRun_5 rfl (hl.at 0 rfl) ?_
  refine lv_iconst (v := 1) hx hb dX9_beginRun_6 (by decide) ?_
  obtain ⟨S7, e7, hf⟩ := ob hf
  refine rw_putZ X dX9_beginRun_7 fl9_64 fw3_0 e7 rfl hP (fun H locs hP => ?_)
  refine rw_aload_n X dX9_beginRun_10 rfl (hl.at 0 rfl) ?_
  refine lv_dup hx hb dX9_beginRun_11 (cr _) ?_
  obtain ⟨v12, e12, hf⟩ := ob hf
  refine rw_getI X dX9_beginRun_12 fl9_150 e12 rfl hP ?_
  refine lv_iconst (v := 1) hx hb dX9_beginRun_15 (by decide) ?_
  refine lv_iadd hx hb dX9_beginRun_16 ?_
  obtain ⟨S17, e17, hf⟩ := ob hf
  refine rw_putI X dX9_beginRun_17 fl9_150 fw3_5 e17 rfl hP (fun H locs hP => ?_)
  refine rw_aload_n X dX9_beginRun_20 rfl (hl.at 0 rfl) ?_
  refine lv_iconst (v := 0) hx hb dX9_beginRun_21 (by decide) ?_
  obtain ⟨S22, e22, hf⟩ := ob hf
  refine rw_putI X dX9_beginRun_22 fl9_144 fw3_1 e22 rfl hP (fun H locs hP => ?_)
  refine rw_aload_n X dX9_beginRun_25 rfl (hl.at 0 rfl) ?_
  refine rw_aload_n X dX9_beginRun_26 rfl (hl.at 2 rfl) ?_
  obtain ⟨v27, e27, hf⟩ := ob hf
  refine rw_getR X dX9_beginRun_27 fl9_133 e27 rfl hP ?_
  obtain ⟨S30, e30, hf⟩ := ob hf
  refine rw_putR X dX9_beginRun_30 fl9_127 fw3_2 e30 rfl hP (fun H locs hP => ?_)
  refine rw_aload_n X dX9_beginRun_33 rfl (hl.at 0 rfl) ?_
  refine lv_iconst (v := 0) hx hb dX9_beginRun_34 (by decide) ?_
  obtain ⟨S35, e35, hf⟩ := ob hf
  refine rw_putI X dX9_beginRun_35 fl9_153 fw3_4 e35 rfl hP (fun H locs hP => ?_)
  refine rw_aload_n X dX9_beginRun_38 rfl (hl.at 2 rfl) ?_
  obtain ⟨v39, e39, hf⟩ := ob hf
  refine rw_getR X dX9_beginRun_39 fl9_133 e39 rfl hP ?_
  refine rv_astore_n X dX9_beginRun_42 rfl hl (by decide) rfl (fun ls hl => ?_)
  have hl : LV ls 4 [(3, va_rf v39), (2, va_rf v1), (0, va_rf l0), (1, va_rf l1)] := hl
  exact wX9_beginRun_43 X FU S35 v39 hf _ _ _ hP (hl.sub [0] rfl)
theorem dX9_act_0 : decode cX9_act 0 = .ok (.aload_n 1, 1) := by decide +kernel
theorem dX9_act_1 : decode cX9_act 1 = .ok (.getfield 60, 3) := by decide +kernel
theorem dX9_act_4 : decode cX9_act 4 = .ok (.getfield 144, 3) := by decide +kernel
theorem dX9_act_7 : decode cX9_act 7 = .ok (.aload_n 1, 1) := by decide +kernel
theorem dX9_act_8 : decode cX9_act 8 = .ok (.getfield 147, 3) := by decide +kernel
theorem dX9_act_11 : decode cX9_act 11 = .ok (.if_icmp .ge 18, 3) := by decide +kernel
theorem dX9_act_14 : decode cX9_act 14 = .ok (.aload_n 1, 1) := by decide +kernel
theorem dX9_act_15 : decode cX9_act 15 = .ok (.getfield 60, 3) := by decide +kernel
theorem dX9_act_18 : decode cX9_act 18 = .ok (.dup, 1) := by decide +kernel
theorem dX9_act_19 : decode cX9_act 19 = .ok (.getfield 144, 3) := by decide +kernel
theorem dX9_act_22 : decode cX9_act 22 = .ok (.iconst 1, 1) := by decide +kernel
theorem dX9_act_23 : decode cX9_act 23 = .ok (.iadd, 1) := by decide +kernel
theorem dX9_act_24 : decode cX9_act 24 = .ok (.putfield 144, 3) := by decide +kernel
theorem dX9_act_27 : decode cX9_act 27 = .ok (.iconst 1, 1) := by decide +kernel
theorem dX9_act_28 : decode cX9_act 28 = .ok (.ireturn, 1) := by decide +kernel
theorem dX9_act_29 : decode cX9_act 29 = .ok (.aload_n 1, 1) := by decide +kernel
theorem dX9_act_30 : decode cX9_act 30 = .ok (.getfield 120, 3) := by decide +kernel
theorem dX9_act_33 : decode cX9_act 33 = .ok (.getfield 93, 3) := by decide +kernel
theorem dX9_act_36 : decode cX9_act 36 = .ok (.ifCond .eq 14, 3) := by decide +kernel
theorem dX9_act_39 : decode cX9_act 39 = .ok (.aload_n 0, 1) := by decide +kernel
theorem dX9_act_40 : decode cX9_act 40 = .ok (.getfield 12, 3) := by decide +kernel
theorem dX9_act_43 : decode cX9_act 43 = .ok (.aload_n 1, 1) := by decide +kernel
theorem dX9_act_44 : decode cX9_act 44 = .ok (.getfield 120, 3) := by decide +kernel
theorem dX9_act_47 : decode cX9_act 47 = .ok (.invokevirtual 98, 3) := by decide +kernel
theorem dX9_act_50 : decode cX9_act 50 = .ok (.iload_n 2, 1) := by decide +kernel
theorem dX9_act_51 : decode cX9_act 51 = .ok (.ireturn, 1) := by decide +kernel
theorem pyX9_act : PY yX9_act 2 := ⟨by decide +kernel, by decide +kernel, by decide +kernel⟩
def fX9_act (Y : LY) (S : HS) (l0 : Option Nat) (l1 : Option Nat) (l2 : Int32) : Option (HS × Int32) :=
  (gR Y 4 403 l1 S).bind fun v1 =>
  (gI Y 3 301 v1 S).bind fun v4 =>
  (gI Y 4 405 l1 S).bind fun v8 =>
  if v8 ≤ v4 then
    (gR Y 4 401 l1 S).bind fun v30 =>
    (gI Y 1 100 v30 S).bind fun v33 =>
    if v33 = 0 then
      some (S, l2)
    else
      (gR Y 9 900 l0 S).bind fun v40 =>
      (gR Y 4 401 l1 S).bind fun v44 =>
      (rcv Y 0 v40).bind fun _ =>
      (fX0_change Y S v40 v44).bind fun S47 =>
      some (S47, l2)
  else
    (gR Y 4 403 l1 S).bind fun v15 =>
    (gI Y 3 301 v15 S).bind fun v19 =>
    (pI Y 3 301 v15 (v19 + 1) S).bind fun S24 =>
    some (S24, 1)
set_option maxRecDepth 100000 in
set_option maxHeartbeats 4000000 in
theorem mX9_act (l : Launch) {G : GG} {Y : LY} {S : HS} {l0 : Option Nat} {l1 : Option Nat} {l2 : Int32} {res : HS × Int32} (hf : fX9_act Y S l0 l1 l2 = some res) : MM l yX9_act cX9_act 3 (some .int) 2 52 G Y S [va_rf l0, va_rf l1, .int l2] res.1 (some (.int res.2)) := by
  refine mm_of2 (plainFor_of_name (by decide +kernel)) (Nat.le_of_ble_eq_true rfl) (c1c (cr _) (c1c (cr _) (c1c (ci _) c1n))) ?_
  intro p e R s m args below meth c X H locs ls hP hl
  have X : Cx p R s m args meth c RX9 cX9_act 3 2 52 (fun q => q ∈ Y.1) G (some .int) := X
  have hx := X.1.1
  have hb := X.1.2.1
  have hl : LV ls 3 [(0, va_rf l0), (1, va_rf l1), (2, .int l2)] := hl
  unfold fX9_act at hf
  refine rw_aload_n X dX9_act_0 rfl (hl.at 1 rfl) ?_
  obtain ⟨v1, e1, hf⟩ := ob hf
  refine rw_getR X dX9_act_1 fl9_60 e1 rfl hP ?_
  obtain ⟨v4, e4, hf⟩ := ob hf
  refine rw_getI X dX9_act_4 fl9_144 e4 rfl hP ?_
  refine rw_aload_n X dX9_act_7 rfl (hl.at 1 rfl) ?_
  obtain ⟨v8, e8, hf⟩ := ob hf
  refine rw_getI X dX9_act_8 fl9_147 e8 rfl hP ?_
  refine lv_icmp_ge hx hb (tgt := 29) dX9_act_11 (by decide) (fun c11 => ?_) (fun c11 => ?_)
  · have hf := ifp hf c11
    refine rw_aload_n X dX9_act_29 rfl (hl.at 1 rfl) ?_
    obtain ⟨v30, e30, hf⟩ := ob hf
    refine rw_getR X dX9_act_30 fl9_120 e30 rfl hP ?_
    obtain ⟨v33, e33, hf⟩ := ob hf
    refine rw_getI X dX9_act_33 fl9_93 e33 rfl hP ?_
    refine lv_if_eq hx hb (tgt := 50) dX9_act_36 (by decide) (fun c36 => ?_) (fun c36 => ?_)
    · have hf := ifp hf c36
      refine lv_iload_n hx hb dX9_act_50 rfl (hl.at 2 rfl) ?_
      cases hf
      exact rw_iret X dX9_act_51 hP
    · have hf := ifn hf c36
      refine rw_aload_n X dX9_act_39 rfl (hl.at 0 rfl) ?_
      obtain ⟨v40, e40, hf⟩ := ob hf
      refine rw_getR X dX9_act_40 fl9_12 e40 rfl hP ?_
      refine rw_aload_n X dX9_act_43 rfl (hl.at 1 rfl) ?_
      obtain ⟨v44, e44, hf⟩ := ob hf
      refine rw_getR X dX9_act_44 fl9_120 e44 rfl hP ?_
      obtain ⟨u47, r47, hf⟩ := ob hf
      obtain ⟨S47, e47, hf⟩ := ob hf
      refine rw_callVv (As := [va_rf v44]) X dX9_act_47 clX9_98 pyX0_change (mX0_change l e47) (by decide) r47 rfl hP rfl (catL c1n (Nat.le_of_ble_eq_true rfl)) hl.1.1 (fun H locs hP => ?_)
      refine lv_iload_n hx hb dX9_act_50 rfl (hl.at 2 rfl) ?_
      cases hf
      exact rw_iret X dX9_act_51 hP
  · have hf := ifn hf c11
    refine rw_aload_n X dX9_act_14 rfl (hl.at 1 rfl) ?_
    obtain ⟨v15, e15, hf⟩ := ob hf
    refine rw_getR X dX9_act_15 fl9_60 e15 rfl hP ?_
    refine lv_dup hx hb dX9_act_18 (cr _) ?_
    obtain ⟨v19, e19, hf⟩ := ob hf
    refine rw_getI X dX9_act_19 fl9_144 e19 rfl hP ?_
    refine lv_iconst (v := 1) hx hb dX9_act_22 (by decide) ?_
    refine lv_iadd hx hb dX9_act_23 ?_
    obtain ⟨S24, e24, hf⟩ := ob hf
    refine rw_putI X dX9_act_24 fl9_144 fw3_1 e24 rfl hP (fun H locs hP => ?_)
    refine lv_iconst (v := 1) hx hb dX9_act_27 (by decide) ?_
    cases hf
    exact rw_iret X dX9_act_28 hP
theorem dX9_goDown_0 : decode cX9_goDown 0 = .ok (.aload_n 0, 1) := by decide +kernel
theorem dX9_goDown_1 : decode cX9_goDown 1 = .ok (.getfield 21, 3) := by decide +kernel
theorem dX9_goDown_4 : decode cX9_goDown 4 = .ok (.aload_n 1, 1) := by decide +kernel
theorem dX9_goDown_5 : decode cX9_goDown 5 = .ok (.putfield 25, 3) := by decide +kernel
theorem dX9_goDown_8 : decode cX9_goDown 8 = .ok (.iconst 0, 1) := by decide +kernel
theorem dX9_goDown_9 : decode cX9_goDown 9 = .ok (.ireturn, 1) := by decide +kernel
theorem pyX9_goDown : PY yX9_goDown 1 := ⟨by decide +kernel, by decide +kernel, by decide +kernel⟩
def fX9_goDown (Y : LY) (S : HS) (l0 : Option Nat) (l1 : Option Nat) : Option (HS × Int32) :=
  (gR Y 9 901 l0 S).bind fun v1 =>
  (pR Y 2 200 v1 l1 S).bind fun S5 =>
  some (S5, 0)
set_option maxRecDepth 100000 in
set_option maxHeartbeats 4000000 in
theorem mX9_goDown (l : Launch) {G : GG} {Y : LY} {S : HS} {l0 : Option Nat} {l1 : Option Nat} {res : HS × Int32} (hf : fX9_goDown Y S l0 l1 = some res) : MM l yX9_goDown cX9_goDown 2 (some .int) 0 0 G Y S [va_rf l0, va_rf l1] res.1 (some (.int res.2)) := by
  refine mm_of2 (plainFor_of_name (by decide +kernel)) (Nat.le_of_ble_eq_true rfl) (c1c (cr _) (c1c (cr _) c1n)) ?_
  intro p e R s m args below meth c X H locs ls hP hl
  have X : Cx p R s m args meth c RX9 cX9_goDown 2 0 0 (fun q => q ∈ Y.1) G (some .int) := X
  have hx := X.1.1
  have hb := X.1.2.1
  have hl : LV ls 2 [(0, va_rf l0), (1, va_rf l1)] := hl
  unfold fX9_goDown at hf
  refine rw_aload_n X dX9_goDown_0 rfl (hl.at 0 rfl) ?_
  obtain ⟨v1, e1, hf⟩ := ob hf
  refine rw_getR X dX9_goDown_1 fl9_21 e1 rfl hP ?_
  refine rw_aload_n X dX9_goDown_4 rfl (hl.at 1 rfl) ?_
  obtain ⟨S5, e5, hf⟩ := ob hf
  refine rw_putR X dX9_goDown_5 fl9_25 fw2_0 e5 rfl hP (fun H locs hP => ?_)
  refine lv_iconst (v := 0) hx hb dX9_goDown_8 (by decide) ?_
  cases hf
  exact rw_iret X dX9_goDown_9 hP
theorem dX9_endRun_0 : decode cX9_endRun 0 = .ok (.aload_n 1, 1) := by decide +kernel
theorem dX9_endRun_1 : decode cX9_endRun 1 = .ok (.getfield 60, 3) := by decide +kernel
theorem dX9_endRun_4 : decode cX9_endRun 4 = .ok (.astore_n 3, 1) := by decide +kernel
theorem dX9_endRun_5 : decode cX9_endRun 5 = .ok (.aload_n 3, 1) := by decide +kernel
theorem dX9_endRun_6 : decode cX9_endRun 6 = .ok (.iconst 0, 1) := by decide +kernel
theorem dX9_endRun_7 : decode cX9_endRun 7 = .ok (.putfield 64, 3) := by decide +kernel
theorem dX9_endRun_10 : decode cX9_endRun 10 = .ok (.iload_n 2, 1) := by decide +kernel
theorem dX9_endRun_11 : decode cX9_endRun 11 = .ok (.lookupswitch 51 #[(2, 25), (3, 38)], 25) := by decide +kernel
theorem dX9_endRun_36 : decode cX9_endRun 36 = .ok (.aload_n 3, 1) := by decide +kernel
theorem dX9_endRun_37 : decode cX9_endRun 37 = .ok (.dup, 1) := by decide +kernel
theorem dX9_endRun_38 : decode cX9_endRun 38 = .ok (.getfield 76, 3) := by decide +kernel
theorem dX9_endRun_41 : decode cX9_endRun 41 = .ok (.iconst 1, 1) := by decide +kernel
theorem dX9_endRun_42 : decode cX9_endRun 42 = .ok (.iadd, 1) := by decide +kernel
theorem dX9_endRun_43 : decode cX9_endRun 43 = .ok (.putfield 76, 3) := by decide +kernel
theorem dX9_endRun_46 : decode cX9_endRun 46 = .ok (.goto 39, 3) := by decide +kernel
theorem dX9_endRun_49 : decode cX9_endRun 49 = .ok (.aload_n 3, 1) := by decide +kernel
theorem dX9_endRun_50 : decode cX9_endRun 50 = .ok (.dup, 1) := by decide +kernel
theorem dX9_endRun_51 : decode cX9_endRun 51 = .ok (.getfield 79, 3) := by decide +kernel
theorem dX9_endRun_54 : decode cX9_endRun 54 = .ok (.iconst 1, 1) := by decide +kernel
theorem dX9_endRun_55 : decode cX9_endRun 55 = .ok (.iadd, 1) := by decide +kernel
theorem dX9_endRun_56 : decode cX9_endRun 56 = .ok (.putfield 79, 3) := by decide +kernel
theorem dX9_endRun_59 : decode cX9_endRun 59 = .ok (.goto 26, 3) := by decide +kernel
theorem dX9_endRun_62 : decode cX9_endRun 62 = .ok (.aload_n 3, 1) := by decide +kernel
theorem dX9_endRun_63 : decode cX9_endRun 63 = .ok (.dup, 1) := by decide +kernel
theorem dX9_endRun_64 : decode cX9_endRun 64 = .ok (.getfield 82, 3) := by decide +kernel
theorem dX9_endRun_67 : decode cX9_endRun 67 = .ok (.iconst 1, 1) := by decide +kernel
theorem dX9_endRun_68 : decode cX9_endRun 68 = .ok (.iadd, 1) := by decide +kernel
theorem dX9_endRun_69 : decode cX9_endRun 69 = .ok (.putfield 82, 3) := by decide +kernel
theorem dX9_endRun_72 : decode cX9_endRun 72 = .ok (.aload_n 0, 1) := by decide +kernel
theorem dX9_endRun_73 : decode cX9_endRun 73 = .ok (.getfield 21, 3) := by decide +kernel
theorem dX9_endRun_76 : decode cX9_endRun 76 = .ok (.dup, 1) := by decide +kernel
theorem dX9_endRun_77 : decode cX9_endRun 77 = .ok (.getfield 85, 3) := by decide +kernel
theorem dX9_endRun_80 : decode cX9_endRun 80 = .ok (.iconst 1, 1) := by decide +kernel
theorem dX9_endRun_81 : decode cX9_endRun 81 = .ok (.iadd, 1) := by decide +kernel
theorem dX9_endRun_82 : decode cX9_endRun 82 = .ok (.putfield 85, 3) := by decide +kernel
theorem dX9_endRun_85 : decode cX9_endRun 85 = .ok (.aload_n 0, 1) := by decide +kernel
theorem dX9_endRun_86 : decode cX9_endRun 86 = .ok (.getfield 21, 3) := by decide +kernel
theorem dX9_endRun_89 : decode cX9_endRun 89 = .ok (.aload_n 1, 1) := by decide +kernel
theorem dX9_endRun_90 : decode cX9_endRun 90 = .ok (.iload_n 2, 1) := by decide +kernel
theorem dX9_endRun_91 : decode cX9_endRun 91 = .ok (.invokevirtual 86, 3) := by decide +kernel
theorem dX9_endRun_94 : decode cX9_endRun 94 = .ok (.aload_n 1, 1) := by decide +kernel
theorem dX9_endRun_95 : decode cX9_endRun 95 = .ok (.getfield 89, 3) := by decide +kernel
theorem dX9_endRun_98 : decode cX9_endRun 98 = .ok (.getfield 93, 3) := by decide +kernel
theorem dX9_endRun_101 : decode cX9_endRun 101 = .ok (.ifCond .eq 27, 3) := by decide +kernel
theorem dX9_endRun_104 : decode cX9_endRun 104 = .ok (.aload_n 0, 1) := by decide +kernel
theorem dX9_endRun_105 : decode cX9_endRun 105 = .ok (.getfield 12, 3) := by decide +kernel
theorem dX9_endRun_108 : decode cX9_endRun 108 = .ok (.aload_n 1, 1) := by decide +kernel
theorem dX9_endRun_109 : decode cX9_endRun 109 = .ok (.getfield 89, 3) := by decide +kernel
theorem dX9_endRun_112 : decode cX9_endRun 112 = .ok (.invokevirtual 98, 3) := by decide +kernel
theorem dX9_endRun_115 : decode cX9_endRun 115 = .ok (.aload_n 0, 1) := by decide +kernel
theorem dX9_endRun_116 : decode cX9_endRun 116 = .ok (.getfield 21, 3) := by decide +kernel
theorem dX9_endRun_119 : decode cX9_endRun 119 = .ok (.dup, 1) := by decide +kernel
theorem dX9_endRun_120 : decode cX9_endRun 120 = .ok (.getfield 102, 3) := by decide +kernel
theorem dX9_endRun_123 : decode cX9_endRun 123 = .ok (.iconst 1, 1) := by decide +kernel
theorem dX9_endRun_124 : decode cX9_endRun 124 = .ok (.iadd, 1) := by decide +kernel
theorem dX9_endRun_125 : decode cX9_endRun 125 = .ok (.putfield 102, 3) := by decide +kernel
theorem dX9_endRun_128 : decode cX9_endRun 128 = .ok (.return_, 1) := by decide +kernel
theorem pyX9_endRun : PY yX9_endRun 2 := ⟨by decide +kernel, by decide +kernel, by decide +kernel⟩
def fX9_endRun_85 (Y : LY) (S : HS) (l0 : Option Nat) (l1 : Option Nat) (l2 : Int32) : Option (HS) :=
  (gR Y 9 901 l0 S).bind fun v86 =>
  (rcv Y 2 v86).bind fun _ =>
  (fX2_enter Y S v86 l1 l2).bind fun S91 =>
  (gR Y 4 402 l1 S91).bind fun v95 =>
  (gI Y 1 100 v95 S91).bind fun v98 =>
  if v98 = 0 then
    some S91
  else
    (gR Y 9 900 l0 S91).bind fun v105 =>
    (gR Y 4 402 l1 S91).bind fun v109 =>
    (rcv Y 0 v105).bind fun _ =>
    (fX0_change Y S91 v105 v109).bind fun S112 =>
    (gR Y 9 901 l0 S112).bind fun v116 =>
    (gI Y 2 206 v116 S112).bind fun v120 =>
    (pI Y 2 206 v116 (v120 + 1) S112).bind fun S125 =>
    some S125
set_option maxRecDepth 100000 in
set_option maxHeartbeats 4000000 in
theorem wX9_endRun_85 {p : Program} {l : Launch} {e : Env} {R : Room} {s : State} {m : MethodId} {args : Array Value} {below : List Frame} {meth : Method} {c : Code} {G : GG} {Y : LY} {res : HS} (X : Cx p R s m args meth c RX9 cX9_endRun 4 2 52 (fun q => q ∈ Y.1) G none) : ∀ (S : HS) (l0 : Option Nat) (l1 : Option Nat) (l2 : Int32), fX9_endRun_85 Y S l0 l1 l2 = some res → ∀ (H : Heap) (locs : List Loc) (ls : Array Slot), HP (fun q => q ∈ Y.1) G Y s S H locs → LV ls 4 [(0, va_rf l0), (1, va_rf l1), (2, .int l2)] → W p l e R s m args below meth c H locs 0 0 (MQ below (QI G Y res none) args s 0 0 (fun q => q ∈ Y.1)) (F0 m 85 ls []) := by
  have hx := X.1.1
  have hb := X.1.2.1
  intro S l0 l1 l2 hf H locs ls hP hl
  unfold fX9_endRun_85 at hf
  refine rw_aload_n X dX9_endRun_85 rfl (hl.at 0 rfl) ?_
  obtain ⟨v86, e86, hf⟩ := ob hf
  refine rw_getR X dX9_endRun_86 fl9_21 e86 rfl hP ?_
  refine rw_aload_n X dX9_endRun_89 rfl (hl.at 1 rfl) ?_
  refine lv_iload_n hx hb dX9_endRun_90 rfl (hl.at 2 rfl) ?_
  obtain ⟨u91, r91, hf⟩ := ob hf
  obtain ⟨S91, e91, hf⟩ := ob hf
  refine rw_callVv (As := [va_rf l1, .int l2]) X dX9_endRun_91 clX9_86 pyX2_enter (mX2_enter l e91) (by decide) r91 rfl hP rfl (catL c1n (Nat.le_of_ble_eq_true rfl)) hl.1.1 (fun H locs hP => ?_)
  refine rw_aload_n X dX9_endRun_94 rfl (hl.at 1 rfl) ?_
  obtain ⟨v95, e95, hf⟩ := ob hf
  refine rw_getR X dX9_endRun_95 fl9_89 e95 rfl hP ?_
  obtain ⟨v98, e98, hf⟩ := ob hf
  refine rw_getI X dX9_endRun_98 fl9_93 e98 rfl hP ?_
  refine lv_if_eq hx hb (tgt := 128) dX9_endRun_101 (by decide) (fun c101 => ?_) (fun c101 => ?_)
  · have hf := ifp hf c101
    cases hf
    exact rw_vret X dX9_endRun_128 hP
  · have hf := ifn hf c101
    refine rw_aload_n X dX9_endRun_104 rfl (hl.at 0 rfl) ?_
    obtain ⟨v105, e105, hf⟩ := ob hf
    refine rw_getR X dX9_endRun_105 fl9_12 e105 rfl hP ?_
    refine rw_aload_n X dX9_endRun_108 rfl (hl.at 1 rfl) ?_
    obtain ⟨v109, e109, hf⟩ := ob hf
    refine rw_getR X dX9_endRun_109 fl9_89 e109 rfl hP ?_
    obtain ⟨u112, r112, hf⟩ := ob hf
    obtain ⟨S112, e112, hf⟩ := ob hf
    refine rw_callVv (As := [va_rf v109]) X dX9_endRun_112 clX9_98 pyX0_change (mX0_change l e112) (by decide) r112 rfl hP rfl (catL c1n (Nat.le_of_ble_eq_true rfl)) hl.1.1 (fun H locs hP => ?_)
    refine rw_aload_n X dX9_endRun_115 rfl (hl.at 0 rfl) ?_
    obtain ⟨v116, e116, hf⟩ := ob hf
    refine rw_getR X dX9_endRun_116 fl9_21 e116 rfl hP ?_
    refine lv_dup hx hb dX9_endRun_119 (cr _) ?_
    obtain ⟨v120, e120, hf⟩ := ob hf
    refine rw_getI X dX9_endRun_120 fl9_102 e120 rfl hP ?_
    refine lv_iconst (v := 1) hx hb dX9_endRun_123 (by decide) ?_
    refine lv_iadd hx hb dX9_endRun_124 ?_
    obtain ⟨S125, e125, hf⟩ := ob hf
    refine rw_putI X dX9_endRun_125 fl9_102 fw2_6 e125 rfl hP (fun H locs hP => ?_)
    cases hf
    exact rw_vret X dX9_endRun_128 hP
def fX9_endRun (Y : LY) (S : HS) (l0 : Option Nat) (l1 : Option Nat) (l2 : Int32) : Option (HS) :=
  (gR Y 4 403 l1 S).bind fun v1 =>
  (pZ Y 3 300 v1 0 S).bind fun S7 =>
  if l2 = 2 then
    (gI Y 3 306 v1 S7).bind fun v38 =>
    (pI Y 3 306 v1 (v38 + 1) S7).bind fun S43 =>
    fX9_endRun_85 Y S43 l0 l1 l2
  else
  if l2 = 3 then
    (gI Y 3 307 v1 S7).bind fun v51 =>
    (pI Y 3 307 v1 (v51 + 1) S7).bind fun S56 =>
    fX9_endRun_85 Y S56 l0 l1 l2
  else
  (gI Y 3 308 v1 S7).bind fun v64 =>
  (pI Y 3 308 v1 (v64 + 1) S7).bind fun S69 =>
  (gR Y 9 901 l0 S69).bind fun v73 =>
  (gI Y 2 205 v73 S69).bind fun v77 =>
  (pI Y 2 205 v73 (v77 + 1) S69).bind fun S82 =>
  fX9_endRun_85 Y S82 l0 l1 l2
set_option maxRecDepth 100000 in
set_option maxHeartbeats 4000000 in
theorem mX9_endRun (l : Launch) {G : GG} {Y : LY} {S : HS} {l0 : Option Nat} {l1 : Option Nat} {l2 : Int32} {res : HS} (hf : fX9_endRun Y S l0 l1 l2 = some res) : MM l yX9_endRun cX9_endRun 4 none 2 52 G Y S [va_rf l0, va_rf l1, .int l2] res none := by
  refine mm_of2 (plainFor_of_name (by decide +kernel)) (Nat.le_of_ble_eq_true rfl) (c1c (cr _) (c1c (cr _) (c1c (ci _) c1n))) ?_
  intro p e R s m args below meth c X H locs ls hP hl
  have X : Cx p R s m args meth c RX9 cX9_endRun 4 2 52 (fun q => q ∈ Y.1) G none := X
  have hx := X.1.1
  have hb := X.1.2.1
  have hl : LV ls 4 [(0, va_rf l0), (1, va_rf l1), (2, .int l2)] := hl
  unfold fX9_endRun at hf
  refine rw_aload_n X dX9_endRun_0 rfl (hl.at 1 rfl) ?_
  obtain ⟨v1, e1, hf⟩ := ob hf
  refine rw_getR X dX9_endRun_1 fl9_60 e1 rfl hP ?_
  refine rv_astore_n X dX9_endRun_4 rfl hl (by decide) rfl (fun ls hl => ?_)
  have hl : LV ls 4 [(3, va_rf v1), (0, va_rf l0), (1, va_rf l1), (2, .int l2)] := hl
  refine rw_aload_n X dX9_endRun_5 rfl (hl.at 0 rfl) ?_
  refine lv_iconst (v := 0) hx hb dX9_endRun_6 (by decide) ?_
  obtain ⟨S7, e7, hf⟩ := ob hf
  refine rw_putZ X dX9_endRun_7 fl9_64 fw3_0 e7 rfl hP (fun H locs hP => ?_)
  refine lv_iload_n hx hb dX9_endRun_10 rfl (hl.at 3 rfl) ?_
  by_cases c11_0 : l2 = 2
  · have hf := ifp hf c11_0
    refine lv_lookup (tgt := 36) hx hb dX9_endRun_11 (by decide) (by rw [c11_0]; try rfl) (by decide) ?_
    refine rw_aload_n X dX9_endRun_36 rfl (hl.at 0 rfl) ?_
    refine lv_dup hx hb dX9_endRun_37 (cr _) ?_
    obtain ⟨v38, e38, hf⟩ := ob hf
    refine rw_getI X dX9_endRun_38 fl9_76 e38 rfl hP ?_
    refine lv_iconst (v := 1) hx hb dX9_endRun_41 (by decide) ?_
    refine lv_iadd hx hb dX9_endRun_42 ?_
    obtain ⟨S43, e43, hf⟩ := ob hf
    refine rw_putI X dX9_endRun_43 fl9_76 fw3_6 e43 rfl hP (fun H locs hP => ?_)
    refine lv_goto (tgt := 85) hx hb dX9_endRun_46 (by decide) ?_
    exact wX9_endRun_85 X S43 l0 l1 l2 hf _ _ _ hP (hl.sub [1, 2, 3] rfl)
  have hf := ifn hf c11_0
  by_cases c11_1 : l2 = 3
  · have hf := ifp hf c11_1
    refine lv_lookup (tgt := 49) hx hb dX9_endRun_11 (by decide) (by rw [c11_1]; try rfl) (by decide) ?_
    refine rw_aload_n X dX9_endRun_49 rfl (hl.at 0 rfl) ?_
    refine lv_dup hx hb dX9_endRun_50 (cr _) ?_
    obtain ⟨v51, e51, hf⟩ := ob hf
    refine rw_getI X dX9_endRun_51 fl9_79 e51 rfl hP ?_
    refine lv_iconst (v := 1) hx hb dX9_endRun_54 (by decide) ?_
    refine lv_iadd hx hb dX9_endRun_55 ?_
    obtain ⟨S56, e56, hf⟩ := ob hf
    refine rw_putI X dX9_endRun_56 fl9_79 fw3_7 e56 rfl hP (fun H locs hP => ?_)
    refine lv_goto (tgt := 85) hx hb dX9_endRun_59 (by decide) ?_
    exact wX9_endRun_85 X S56 l0 l1 l2 hf _ _ _ hP (hl.sub [1, 2, 3] rfl)
  have hf := ifn hf c11_1
  have t11_0 := tsw (k := 2) (v := 2) (by decide) c11_0
  have t11_1 := tsw (k := 3) (v := 3) (by decide) c11_1
  refine lv_lookup (off := 51) (tgt := 62) hx hb dX9_endRun_11 (by decide) (by simp [Op.lookupswitch.offset, t11_0.symm, t11_1.symm]) (by decide) ?_
  refine rw_aload_n X dX9_endRun_62 rfl (hl.at 0 rfl) ?_
  refine lv_dup hx hb dX9_endRun_63 (cr _) ?_
  obtain ⟨v64, e64, hf⟩ := ob hf
  refine rw_getI X dX9_endRun_64 fl9_82 e64 rfl hP ?_
  refine lv_iconst (v := 1) hx hb dX9_endRun_67 (by decide) ?_
  refine lv_iadd hx hb dX9_endRun_68 ?_
  obtain ⟨S69, e69, hf⟩ := ob hf
  refine rw_putI X dX9_endRun_69 fl9_82 fw3_8 e69 rfl hP (fun H locs hP => ?_)
  refine rw_aload_n X dX9_endRun_72 rfl (hl.at 1 rfl) ?_
  obtain ⟨v73, e73, hf⟩ := ob hf
  refine rw_getR X dX9_endRun_73 fl9_21 e73 rfl hP ?_
  refine lv_dup hx hb dX9_endRun_76 (cr _) ?_
  obtain ⟨v77, e77, hf⟩ := ob hf
  refine rw_getI X dX9_endRun_77 fl9_85 e77 rfl hP ?_
  refine lv_iconst (v := 1) hx hb dX9_endRun_80 (by decide) ?_
  refine lv_iadd hx hb dX9_endRun_81 ?_
  obtain ⟨S82, e82, hf⟩ := ob hf
  refine rw_putI X dX9_endRun_82 fl9_85 fw2_5 e82 rfl hP (fun H locs hP => ?_)
  exact wX9_endRun_85 X S82 l0 l1 l2 hf _ _ _ hP (hl.sub [1, 2, 3] rfl)
theorem dX9_stopBack_0 : decode cX9_stopBack 0 = .ok (.aload_n 2, 1) := by decide +kernel
theorem dX9_stopBack_1 : decode cX9_stopBack 1 = .ok (.ifnonnull 4, 3) := by decide +kernel
theorem dX9_stopBack_4 : decode cX9_stopBack 4 = .ok (.return_, 1) := by decide +kernel
theorem dX9_stopBack_5 : decode cX9_stopBack 5 = .ok (.aload_n 1, 1) := by decide +kernel
theorem dX9_stopBack_6 : decode cX9_stopBack 6 = .ok (.getfield 54, 3) := by decide +kernel
theorem dX9_stopBack_9 : decode cX9_stopBack 9 = .ok (.astore_n 3, 1) := by decide +kernel
theorem dX9_stopBack_10 : decode cX9_stopBack 10 = .ok (.aload_n 3, 1) := by decide +kernel
theorem dX9_stopBack_11 : decode cX9_stopBack 11 = .ok (.ifnull 38, 3) := by decide +kernel
theorem dX9_stopBack_14 : decode cX9_stopBack 14 = .ok (.aload_n 3, 1) := by decide +kernel
theorem dX9_stopBack_15 : decode cX9_stopBack 15 = .ok (.getfield 57, 3) := by decide +kernel
theorem dX9_stopBack_18 : decode cX9_stopBack 18 = .ok (.aload_n 2, 1) := by decide +kernel
theorem dX9_stopBack_19 : decode cX9_stopBack 19 = .ok (.getfield 57, 3) := by decide +kernel
theorem dX9_stopBack_22 : decode cX9_stopBack 22 = .ok (.if_icmp .lt 27, 3) := by decide +kernel
theorem dX9_stopBack_25 : decode cX9_stopBack 25 = .ok (.aload_n 3, 1) := by decide +kernel
theorem dX9_stopBack_26 : decode cX9_stopBack 26 = .ok (.getfield 60, 3) := by decide +kernel
theorem dX9_stopBack_29 : decode cX9_stopBack 29 = .ok (.getfield 64, 3) := by decide +kernel
theorem dX9_stopBack_32 : decode cX9_stopBack 32 = .ok (.ifCond .eq 9, 3) := by decide +kernel
theorem dX9_stopBack_35 : decode cX9_stopBack 35 = .ok (.aload_n 0, 1) := by decide +kernel
theorem dX9_stopBack_36 : decode cX9_stopBack 36 = .ok (.aload_n 3, 1) := by decide +kernel
theorem dX9_stopBack_37 : decode cX9_stopBack 37 = .ok (.iconst 4, 1) := by decide +kernel
theorem dX9_stopBack_38 : decode cX9_stopBack 38 = .ok (.invokevirtual 70, 3) := by decide +kernel
theorem dX9_stopBack_41 : decode cX9_stopBack 41 = .ok (.aload_n 3, 1) := by decide +kernel
theorem dX9_stopBack_42 : decode cX9_stopBack 42 = .ok (.getfield 73, 3) := by decide +kernel
theorem dX9_stopBack_45 : decode cX9_stopBack 45 = .ok (.astore_n 3, 1) := by decide +kernel
theorem dX9_stopBack_46 : decode cX9_stopBack 46 = .ok (.goto (-36), 3) := by decide +kernel
theorem dX9_stopBack_49 : decode cX9_stopBack 49 = .ok (.return_, 1) := by decide +kernel
theorem pyX9_stopBack : PY yX9_stopBack 2 := ⟨by decide +kernel, by decide +kernel, by decide +kernel⟩
def fX9_stopBack_10 (Y : LY) : Nat → HS → Option Nat → Option Nat → Option Nat → Option (HS)
  | 0, _, _, _, _ => none
  | n + 1, S, l0, l2, l3 =>
    if l3 = none then
      some S
    else
      (gI Y 4 400 l3 S).bind fun v15 =>
      (gI Y 4 400 l2 S).bind fun v19 =>
      if v15 < v19 then
        some S
      else
        (gR Y 4 403 l3 S).bind fun v26 =>
        (gI Y 3 300 v26 S).bind fun v29 =>
        if v29 = 0 then
          (gR Y 4 408 l3 S).bind fun v42 =>
          fX9_stopBack_10 Y n S l0 l2 v42
        else
          (rcv Y 9 l0).bind fun _ =>
          (fX9_endRun Y S l0 l3 4).bind fun S38 =>
          (gR Y 4 408 l3 S38).bind fun v42 =>
          fX9_stopBack_10 Y n S38 l0 l2 v42
set_option maxRecDepth 100000 in
set_option maxHeartbeats 4000000 in
theorem wX9_stopBack_10 {p : Program} {l : Launch} {e : Env} {R : Room} {s : State} {m : MethodId} {args : Array Value} {below : List Frame} {meth : Method} {c : Code} {G : GG} {Y : LY} {res : HS} (X : Cx p R s m args meth c RX9 cX9_stopBack 4 3 75 (fun q => q ∈ Y.1) G none) : ∀ (n : Nat) (S : HS) (l0 : Option Nat) (l2 : Option Nat) (l3 : Option Nat), fX9_stopBack_10 Y n S l0 l2 l3 = some res → ∀ (H : Heap) (locs : List Loc) (ls : Array Slot), HP (fun q => q ∈ Y.1) G Y s S H locs → LV ls 4 [(0, va_rf l0), (2, va_rf l2), (3, va_rf l3)] → W p l e R s m args below meth c H locs 0 0 (MQ below (QI G Y res none) args s 0 0 (fun q => q ∈ Y.1)) (F0 m 10 ls []) := by
  have hx := X.1.1
  have hb := X.1.2.1
  intro n
  induction n with
  | zero =>
    intro S l0 l2 l3 hf
    cases hf
  | succ n ih =>
    intro S l0 l2 l3 hf H locs ls hP hl
    rw [fX9_stopBack_10] at hf
    refine rw_aload_n X dX9_stopBack_10 rfl (hl.at 2 rfl) ?_
    refine rw_ifnull X (tgt := 49) dX9_stopBack_11 (by decide) (fun c11 => ?_) (fun c11 => ?_)
    · have hf := ifp hf c11
      cases hf
      exact rw_vret X dX9_stopBack_49 hP
    · have hf := ifn hf c11
      refine rw_aload_n X dX9_stopBack_14 rfl (hl.at 2 rfl) ?_
      obtain ⟨v15, e15, hf⟩ := ob hf
      refine rw_getI X dX9_stopBack_15 fl9_57 e15 rfl hP ?_
      refine rw_aload_n X dX9_stopBack_18 rfl (hl.at 1 rfl) ?_
      obtain ⟨v19, e19, hf⟩ := ob hf
      refine rw_getI X dX9_stopBack_19 fl9_57 e19 rfl hP ?_
      refine lv_icmp_lt hx hb (tgt := 49) dX9_stopBack_22 (by decide) (fun c22 => ?_) (fun c22 => ?_)
      · have hf := ifp hf c22
        cases hf
        exact rw_vret X dX9_stopBack_49 hP
      · have hf := ifn hf c22
        refine rw_aload_n X dX9_stopBack_25 rfl (hl.at 2 rfl) ?_
        obtain ⟨v26, e26, hf⟩ := ob hf
        refine rw_getR X dX9_stopBack_26 fl9_60 e26 rfl hP ?_
        obtain ⟨v29, e29, hf⟩ := ob hf
        refine rw_getI X dX9_stopBack_29 fl9_64 e29 rfl hP ?_
        refine lv_if_eq hx hb (tgt := 41) dX9_stopBack_32 (by decide) (fun c32 => ?_) (fun c32 => ?_)
        · have hf := ifp hf c32
          refine rw_aload_n X dX9_stopBack_41 rfl (hl.at 2 rfl) ?_
          obtain ⟨v42, e42, hf⟩ := ob hf
          refine rw_getR X dX9_stopBack_42 fl9_73 e42 rfl hP ?_
          refine rv_astore_n X dX9_stopBack_45 rfl hl (by decide) rfl (fun ls hl => ?_)
          have hl : LV ls 4 [(3, va_rf v42), (0, va_rf l0), (2, va_rf l2)] := hl
          refine lv_goto (tgt := 10) hx hb dX9_stopBack_46 (by decide) ?_
          exact ih S l0 l2 v42 hf _ _ _ hP (hl.sub [1, 2, 0] rfl)
        · have hf := ifn hf c32
          refine rw_aload_n X dX9_stopBack_35 rfl (hl.at 0 rfl) ?_
          refine rw_aload_n X dX9_stopBack_36 rfl (hl.at 2 rfl) ?_
          refine lv_iconst (v := 4) hx hb dX9_stopBack_37 (by decide) ?_
          obtain ⟨u38, r38, hf⟩ := ob hf
          obtain ⟨S38, e38, hf⟩ := ob hf
          refine rw_callVv (As := [va_rf l3, .int 4]) X dX9_stopBack_38 clX9_70 pyX9_endRun (mX9_endRun l e38) (by decide) r38 rfl hP rfl (catL c1n (Nat.le_of_ble_eq_true rfl)) hl.1.1 (fun H locs hP => ?_)
          refine rw_aload_n X dX9_stopBack_41 rfl (hl.at 2 rfl) ?_
          obtain ⟨v42, e42, hf⟩ := ob hf
          refine rw_getR X dX9_stopBack_42 fl9_73 e42 rfl hP ?_
          refine rv_astore_n X dX9_stopBack_45 rfl hl (by decide) rfl (fun ls hl => ?_)
          have hl : LV ls 4 [(3, va_rf v42), (0, va_rf l0), (2, va_rf l2)] := hl
          refine lv_goto (tgt := 10) hx hb dX9_stopBack_46 (by decide) ?_
          exact ih S38 l0 l2 v42 hf _ _ _ hP (hl.sub [1, 2, 0] rfl)
def fX9_stopBack (Y : LY) (S : HS) (l0 : Option Nat) (l1 : Option Nat) (l2 : Option Nat) : Option (HS) :=
  if l2 = none then
    some S
  else
    (gR Y 4 413 l1 S).bind fun v6 =>
    fX9_stopBack_10 Y FU S l0 l2 v6
set_option maxRecDepth 100000 in
set_option maxHeartbeats 4000000 in
theorem mX9_stopBack (l : Launch) {G : GG} {Y : LY} {S : HS} {l0 : Option Nat} {l1 : Option Nat} {l2 : Option Nat} {res : HS} (hf : fX9_stopBack Y S l0 l1 l2 = some res) : MM l yX9_stopBack cX9_stopBack 4 none 3 75 G Y S [va_rf l0, va_rf l1, va_rf l2] res none := by
  refine mm_of2 (plainFor_of_name (by decide +kernel)) (Nat.le_of_ble_eq_true rfl) (c1c (cr _) (c1c (cr _) (c1c (cr _) c1n))) ?_
  intro p e R s m args below meth c X H locs ls hP hl
  have X : Cx p R s m args meth c RX9 cX9_stopBack 4 3 75 (fun q => q ∈ Y.1) G none := X
  have hx := X.1.1
  have hb := X.1.2.1
  have hl : LV ls 4 [(0, va_rf l0), (1, va_rf l1), (2, va_rf l2)] := hl
  unfold fX9_stopBack at hf
  refine rw_aload_n X dX9_stopBack_0 rfl (hl.at 2 rfl) ?_
  refine rw_ifnonnull X (tgt := 5) dX9_stopBack_1 (by decide) (fun c1 => ?_) (fun c1 => ?_)
  · have hf := ifn hf c1
    refine rw_aload_n X dX9_stopBack_5 rfl (hl.at 1 rfl) ?_
    obtain ⟨v6, e6, hf⟩ := ob hf
    refine rw_getR X dX9_stopBack_6 fl9_54 e6 rfl hP ?_
    refine rv_astore_n X dX9_stopBack_9 rfl hl (by decide) rfl (fun ls hl => ?_)
    have hl : LV ls 4 [(3, va_rf v6), (0, va_rf l0), (1, va_rf l1), (2, va_rf l2)] := hl
    exact wX9_stopBack_10 X FU S l0 l2 v6 hf _ _ _ hP (hl.sub [1, 3, 0] rfl)
  · have hf := ifp hf c1
    cases hf
    exact rw_vret X dX9_stopBack_4 hP
theorem dX9_goOnInParallel_0 : decode cX9_goOnInParallel 0 = .ok (.aload_n 2, 1) := by decide +kernel
theorem dX9_goOnInParallel_1 : decode cX9_goOnInParallel 1 = .ok (.astore_n 3, 1) := by decide +kernel
theorem dX9_goOnInParallel_2 : decode cX9_goOnInParallel 2 = .ok (.aload_n 3, 1) := by decide +kernel
theorem dX9_goOnInParallel_3 : decode cX9_goOnInParallel 3 = .ok (.ifnull 39, 3) := by decide +kernel
theorem dX9_goOnInParallel_6 : decode cX9_goOnInParallel 6 = .ok (.aload_n 3, 1) := by decide +kernel
theorem dX9_goOnInParallel_7 : decode cX9_goOnInParallel 7 = .ok (.getfield 60, 3) := by decide +kernel
theorem dX9_goOnInParallel_10 : decode cX9_goOnInParallel 10 = .ok (.getfield 156, 3) := by decide +kernel
theorem dX9_goOnInParallel_13 : decode cX9_goOnInParallel 13 = .ok (.iconst 2, 1) := by decide +kernel
theorem dX9_goOnInParallel_14 : decode cX9_goOnInParallel 14 = .ok (.if_icmp .eq 20, 3) := by decide +kernel
theorem dX9_goOnInParallel_17 : decode cX9_goOnInParallel 17 = .ok (.aload_n 3, 1) := by decide +kernel
theorem dX9_goOnInParallel_18 : decode cX9_goOnInParallel 18 = .ok (.getfield 60, 3) := by decide +kernel
theorem dX9_goOnInParallel_21 : decode cX9_goOnInParallel 21 = .ok (.getfield 156, 3) := by decide +kernel
theorem dX9_goOnInParallel_24 : decode cX9_goOnInParallel 24 = .ok (.iconst 3, 1) := by decide +kernel
theorem dX9_goOnInParallel_25 : decode cX9_goOnInParallel 25 = .ok (.if_icmp .eq 9, 3) := by decide +kernel
theorem dX9_goOnInParallel_28 : decode cX9_goOnInParallel 28 = .ok (.aload_n 0, 1) := by decide +kernel
theorem dX9_goOnInParallel_29 : decode cX9_goOnInParallel 29 = .ok (.aload_n 3, 1) := by decide +kernel
theorem dX9_goOnInParallel_30 : decode cX9_goOnInParallel 30 = .ok (.invokevirtual 130, 3) := by decide +kernel
theorem dX9_goOnInParallel_33 : decode cX9_goOnInParallel 33 = .ok (.ireturn, 1) := by decide +kernel
theorem dX9_goOnInParallel_34 : decode cX9_goOnInParallel 34 = .ok (.aload_n 3, 1) := by decide +kernel
theorem dX9_goOnInParallel_35 : decode cX9_goOnInParallel 35 = .ok (.getfield 159, 3) := by decide +kernel
theorem dX9_goOnInParallel_38 : decode cX9_goOnInParallel 38 = .ok (.astore_n 3, 1) := by decide +kernel
theorem dX9_goOnInParallel_39 : decode cX9_goOnInParallel 39 = .ok (.goto (-37), 3) := by decide +kernel
theorem dX9_goOnInParallel_42 : decode cX9_goOnInParallel 42 = .ok (.iconst 0, 1) := by decide +kernel
theorem dX9_goOnInParallel_43 : decode cX9_goOnInParallel 43 = .ok (.istore_n 3, 1) := by decide +kernel
theorem dX9_goOnInParallel_44 : decode cX9_goOnInParallel 44 = .ok (.iconst 0, 1) := by decide +kernel
theorem dX9_goOnInParallel_45 : decode cX9_goOnInParallel 45 = .ok (.istore 4, 2) := by decide +kernel
theorem dX9_goOnInParallel_47 : decode cX9_goOnInParallel 47 = .ok (.aload_n 1, 1) := by decide +kernel
theorem dX9_goOnInParallel_48 : decode cX9_goOnInParallel 48 = .ok (.getfield 133, 3) := by decide +kernel
theorem dX9_goOnInParallel_51 : decode cX9_goOnInParallel 51 = .ok (.astore 5, 2) := by decide +kernel
theorem dX9_goOnInParallel_53 : decode cX9_goOnInParallel 53 = .ok (.aload 5, 2) := by decide +kernel
theorem dX9_goOnInParallel_55 : decode cX9_goOnInParallel 55 = .ok (.ifnull 55, 3) := by decide +kernel
theorem dX9_goOnInParallel_58 : decode cX9_goOnInParallel 58 = .ok (.iload_n 3, 1) := by decide +kernel
theorem dX9_goOnInParallel_59 : decode cX9_goOnInParallel 59 = .ok (.aload 5, 2) := by decide +kernel
theorem dX9_goOnInParallel_61 : decode cX9_goOnInParallel 61 = .ok (.getfield 60, 3) := by decide +kernel
theorem dX9_goOnInParallel_64 : decode cX9_goOnInParallel 64 = .ok (.getfield 156, 3) := by decide +kernel
theorem dX9_goOnInParallel_67 : decode cX9_goOnInParallel 67 = .ok (.iconst 2, 1) := by decide +kernel
theorem dX9_goOnInParallel_68 : decode cX9_goOnInParallel 68 = .ok (.if_icmp .ne 7, 3) := by decide +kernel
theorem dX9_goOnInParallel_71 : decode cX9_goOnInParallel 71 = .ok (.iconst 1, 1) := by decide +kernel
theorem dX9_goOnInParallel_72 : decode cX9_goOnInParallel 72 = .ok (.goto 4, 3) := by decide +kernel
theorem dX9_goOnInParallel_75 : decode cX9_goOnInParallel 75 = .ok (.iconst 0, 1) := by decide +kernel
theorem dX9_goOnInParallel_76 : decode cX9_goOnInParallel 76 = .ok (.iadd, 1) := by decide +kernel
theorem dX9_goOnInParallel_77 : decode cX9_goOnInParallel 77 = .ok (.istore_n 3, 1) := by decide +kernel
theorem dX9_goOnInParallel_78 : decode cX9_goOnInParallel 78 = .ok (.iload 4, 2) := by decide +kernel
theorem dX9_goOnInParallel_80 : decode cX9_goOnInParallel 80 = .ok (.aload 5, 2) := by decide +kernel
theorem dX9_goOnInParallel_82 : decode cX9_goOnInParallel 82 = .ok (.getfield 60, 3) := by decide +kernel
theorem dX9_goOnInParallel_85 : decode cX9_goOnInParallel 85 = .ok (.getfield 156, 3) := by decide +kernel
theorem dX9_goOnInParallel_88 : decode cX9_goOnInParallel 88 = .ok (.iconst 3, 1) := by decide +kernel
theorem dX9_goOnInParallel_89 : decode cX9_goOnInParallel 89 = .ok (.if_icmp .ne 7, 3) := by decide +kernel
theorem dX9_goOnInParallel_92 : decode cX9_goOnInParallel 92 = .ok (.iconst 1, 1) := by decide +kernel
theorem dX9_goOnInParallel_93 : decode cX9_goOnInParallel 93 = .ok (.goto 4, 3) := by decide +kernel
theorem dX9_goOnInParallel_96 : decode cX9_goOnInParallel 96 = .ok (.iconst 0, 1) := by decide +kernel
theorem dX9_goOnInParallel_97 : decode cX9_goOnInParallel 97 = .ok (.iadd, 1) := by decide +kernel
theorem dX9_goOnInParallel_98 : decode cX9_goOnInParallel 98 = .ok (.istore 4, 2) := by decide +kernel
theorem dX9_goOnInParallel_100 : decode cX9_goOnInParallel 100 = .ok (.aload 5, 2) := by decide +kernel
theorem dX9_goOnInParallel_102 : decode cX9_goOnInParallel 102 = .ok (.getfield 159, 3) := by decide +kernel
theorem dX9_goOnInParallel_105 : decode cX9_goOnInParallel 105 = .ok (.astore 5, 2) := by decide +kernel
theorem dX9_goOnInParallel_107 : decode cX9_goOnInParallel 107 = .ok (.goto (-54), 3) := by decide +kernel
theorem dX9_goOnInParallel_110 : decode cX9_goOnInParallel 110 = .ok (.iload_n 3, 1) := by decide +kernel
theorem dX9_goOnInParallel_111 : decode cX9_goOnInParallel 111 = .ok (.aload_n 1, 1) := by decide +kernel
theorem dX9_goOnInParallel_112 : decode cX9_goOnInParallel 112 = .ok (.getfield 147, 3) := by decide +kernel
theorem dX9_goOnInParallel_115 : decode cX9_goOnInParallel 115 = .ok (.if_icmp .ge 19, 3) := by decide +kernel
theorem dX9_goOnInParallel_118 : decode cX9_goOnInParallel 118 = .ok (.iload 4, 2) := by decide +kernel
theorem dX9_goOnInParallel_120 : decode cX9_goOnInParallel 120 = .ok (.aload_n 1, 1) := by decide +kernel
theorem dX9_goOnInParallel_121 : decode cX9_goOnInParallel 121 = .ok (.getfield 178, 3) := by decide +kernel
theorem dX9_goOnInParallel_124 : decode cX9_goOnInParallel 124 = .ok (.aload_n 1, 1) := by decide +kernel
theorem dX9_goOnInParallel_125 : decode cX9_goOnInParallel 125 = .ok (.getfield 147, 3) := by decide +kernel
theorem dX9_goOnInParallel_128 : decode cX9_goOnInParallel 128 = .ok (.isub, 1) := by decide +kernel
theorem dX9_goOnInParallel_129 : decode cX9_goOnInParallel 129 = .ok (.if_icmp .gt 5, 3) := by decide +kernel
theorem dX9_goOnInParallel_132 : decode cX9_goOnInParallel 132 = .ok (.iconst 1, 1) := by decide +kernel
theorem dX9_goOnInParallel_133 : decode cX9_goOnInParallel 133 = .ok (.ireturn, 1) := by decide +kernel
theorem dX9_goOnInParallel_134 : decode cX9_goOnInParallel 134 = .ok (.aload_n 0, 1) := by decide +kernel
theorem dX9_goOnInParallel_135 : decode cX9_goOnInParallel 135 = .ok (.aload_n 1, 1) := by decide +kernel
theorem dX9_goOnInParallel_136 : decode cX9_goOnInParallel 136 = .ok (.aload_n 1, 1) := by decide +kernel
theorem dX9_goOnInParallel_137 : decode cX9_goOnInParallel 137 = .ok (.getfield 133, 3) := by decide +kernel
theorem dX9_goOnInParallel_140 : decode cX9_goOnInParallel 140 = .ok (.invokevirtual 162, 3) := by decide +kernel
theorem dX9_goOnInParallel_143 : decode cX9_goOnInParallel 143 = .ok (.iload_n 3, 1) := by decide +kernel
theorem dX9_goOnInParallel_144 : decode cX9_goOnInParallel 144 = .ok (.aload_n 1, 1) := by decide +kernel
theorem dX9_goOnInParallel_145 : decode cX9_goOnInParallel 145 = .ok (.getfield 147, 3) := by decide +kernel
theorem dX9_goOnInParallel_148 : decode cX9_goOnInParallel 148 = .ok (.if_icmp .lt 7, 3) := by decide +kernel
theorem dX9_goOnInParallel_151 : decode cX9_goOnInParallel 151 = .ok (.iconst 2, 1) := by decide +kernel
theorem dX9_goOnInParallel_152 : decode cX9_goOnInParallel 152 = .ok (.goto 4, 3) := by decide +kernel
theorem dX9_goOnInParallel_155 : decode cX9_goOnInParallel 155 = .ok (.iconst 3, 1) := by decide +kernel
theorem dX9_goOnInParallel_156 : decode cX9_goOnInParallel 156 = .ok (.ireturn, 1) := by decide +kernel
theorem pyX9_goOnInParallel : PY yX9_goOnInParallel 2 := ⟨by decide +kernel, by decide +kernel, by decide +kernel⟩
def fX9_goOnInParallel_134 (Y : LY) (S : HS) (l0 : Option Nat) (l1 : Option Nat) (l3 : Int32) : Option (HS × Int32) :=
  (gR Y 4 410 l1 S).bind fun v137 =>
  (rcv Y 9 l0).bind fun _ =>
  (fX9_stopBack Y S l0 l1 v137).bind fun S140 =>
  (gI Y 4 405 l1 S140).bind fun v145 =>
  if l3 < v145 then
    some (S140, 3)
  else
    some (S140, 2)
set_option maxRecDepth 100000 in
set_option maxHeartbeats 4000000 in
theorem wX9_goOnInParallel_134 {p : Program} {l : Launch} {e : Env} {R : Room} {s : State} {m : MethodId} {args : Array Value} {below : List Frame} {meth : Method} {c : Code} {G : GG} {Y : LY} {res : HS × Int32} (X : Cx p R s m args meth c RX9 cX9_goOnInParallel 6 4 98 (fun q => q ∈ Y.1) G (some .int)) : ∀ (S : HS) (l0 : Option Nat) (l1 : Option Nat) (l3 : Int32), fX9_goOnInParallel_134 Y S l0 l1 l3 = some res → ∀ (H : Heap) (locs : List Loc) (ls : Array Slot), HP (fun q => q ∈ Y.1) G Y s S H locs → LV ls 6 [(0, va_rf l0), (1, va_rf l1), (3, .int l3)] → W p l e R s m args below meth c H locs 0 0 (MQ below (QI G Y res.1 (some (.int res.2))) args s 0 0 (fun q => q ∈ Y.1)) (F0 m 134 ls []) := by
  have hx := X.1.1
  have hb := X.1.2.1
  intro S l0 l1 l3 hf H locs ls hP hl
  unfold fX9_goOnInParallel_134 at hf
  refine rw_aload_n X dX9_goOnInParallel_134 rfl (hl.at 0 rfl) ?_
  refine rw_aload_n X dX9_goOnInParallel_135 rfl (hl.at 1 rfl) ?_
  refine rw_aload_n X dX9_goOnInParallel_136 rfl (hl.at 1 rfl) ?_
  obtain ⟨v137, e137, hf⟩ := ob hf
  refine rw_getR X dX9_goOnInParallel_137 fl9_133 e137 rfl hP ?_
  obtain ⟨u140, r140, hf⟩ := ob hf
  obtain ⟨S140, e140, hf⟩ := ob hf
  refine rw_callVv (As := [va_rf l1, va_rf v137]) X dX9_goOnInParallel_140 clX9_162 pyX9_stopBack (mX9_stopBack l e140) (by decide) r140 rfl hP rfl (catL c1n (Nat.le_of_ble_eq_true rfl)) hl.1.1 (fun H locs hP => ?_)
  refine lv_iload_n hx hb dX9_goOnInParallel_143 rfl (hl.at 2 rfl) ?_
  refine rw_aload_n X dX9_goOnInParallel_144 rfl (hl.at 1 rfl) ?_
  obtain ⟨v145, e145, hf⟩ := ob hf
  refine rw_getI X dX9_goOnInParallel_145 fl9_147 e145 rfl hP ?_
  refine lv_icmp_lt hx hb (tgt := 155) dX9_goOnInParallel_148 (by decide) (fun c148 => ?_) (fun c148 => ?_)
  · have hf := ifp hf c148
    refine lv_iconst (v := 3) hx hb dX9_goOnInParallel_155 (by decide) ?_
    cases hf
    exact rw_iret X dX9_goOnInParallel_156 hP
  · have hf := ifn hf c148
    refine lv_iconst (v := 2) hx hb dX9_goOnInParallel_151 (by decide) ?_
    refine lv_goto (tgt := 156) hx hb dX9_goOnInParallel_152 (by decide) ?_
    cases hf
    exact rw_iret X dX9_goOnInParallel_156 hP
def fX9_goOnInParallel_76 (k53 : HS → Option Nat → Option Nat → Int32 → Int32 → Option Nat → Option (HS × Int32)) (Y : LY) (S : HS) (l0 : Option Nat) (l1 : Option Nat) (l4 : Int32) (l5 : Option Nat) (s0 : Int32) (s1 : Int32) : Option (HS × Int32) :=
  (gR Y 4 403 l5 S).bind fun v82 =>
  (gI Y 3 303 v82 S).bind fun v85 =>
  if v85 = 3 then
    (gR Y 4 412 l5 S).bind fun v102 =>
    k53 S l0 l1 (s0 + s1) (l4 + 1) v102
  else
    (gR Y 4 412 l5 S).bind fun v102 =>
    k53 S l0 l1 (s0 + s1) (l4 + 0) v102
set_option maxRecDepth 100000 in
set_option maxHeartbeats 4000000 in
theorem wX9_goOnInParallel_76 {p : Program} {l : Launch} {e : Env} {R : Room} {s : State} {m : MethodId} {args : Array Value} {below : List Frame} {meth : Method} {c : Code} {G : GG} {Y : LY} {res : HS × Int32} (X : Cx p R s m args meth c RX9 cX9_goOnInParallel 6 4 98 (fun q => q ∈ Y.1) G (some .int)) {k53 : HS → Option Nat → Option Nat → Int32 → Int32 → Option Nat → Option (HS × Int32)} (hk53 : ∀ (S : HS) (l0 : Option Nat) (l1 : Option Nat) (l3 : Int32) (l4 : Int32) (l5 : Option Nat), k53 S l0 l1 l3 l4 l5 = some res → ∀ (H : Heap) (locs : List Loc) (ls : Array Slot), HP (fun q => q ∈ Y.1) G Y s S H locs → LV ls 6 [(0, va_rf l0), (1, va_rf l1), (3, .int l3), (4, .int l4), (5, va_rf l5)] → W p l e R s m args below meth c H locs 0 0 (MQ below (QI G Y res.1 (some (.int res.2))) args s 0 0 (fun q => q ∈ Y.1)) (F0 m 53 ls [])) : ∀ (S : HS) (l0 : Option Nat) (l1 : Option Nat) (l4 : Int32) (l5 : Option Nat) (s0 : Int32) (s1 : Int32), fX9_goOnInParallel_76 k53 Y S l0 l1 l4 l5 s0 s1 = some res → ∀ (H : Heap) (locs : List Loc) (ls : Array Slot), HP (fun q => q ∈ Y.1) G Y s S H locs → LV ls 6 [(0, va_rf l0), (1, va_rf l1), (4, .int l4), (5, va_rf l5)] → W p l e R s m args below meth c H locs 0 0 (MQ below (QI G Y res.1 (some (.int res.2))) args s 0 0 (fun q => q ∈ Y.1)) (F0 m 76 ls (.int s1 :: (.int s0 :: []))) := by
  have hx := X.1.1
  have hb := X.1.2.1
  intro S l0 l1 l4 l5 s0 s1 hf H locs ls hP hl
  unfold fX9_goOnInParallel_76 at hf
  refine lv_iadd hx hb dX9_goOnInParallel_76 ?_
  refine rv_istore_n X dX9_goOnInParallel_77 rfl hl (by decide) rfl (fun ls hl => ?_)
  have hl : LV ls 6 [(3, .int (s0 + s1)), (0, va_rf l0), (1, va_rf l1), (4, .int l4), (5, va_rf l5)] := hl
  refine lv_iload hx hb dX9_goOnInParallel_78 (hl.at 3 rfl) ?_
  refine rw_aload X dX9_goOnInParallel_80 (hl.at 4 rfl) ?_
  obtain ⟨v82, e82, hf⟩ := ob hf
  refine rw_getR X dX9_goOnInParallel_82 fl9_60 e82 rfl hP ?_
  obtain ⟨v85, e85, hf⟩ := ob hf
  refine rw_getI X dX9_goOnInParallel_85 fl9_156 e85 rfl hP ?_
  refine lv_iconst (v := 3) hx hb dX9_goOnInParallel_88 (by decide) ?_
  refine lv_icmp_ne hx hb (tgt := 96) dX9_goOnInParallel_89 (by decide) (fun c89 => ?_) (fun c89 => ?_)
  · have hf := ifn hf c89
    refine lv_iconst (v := 0) hx hb dX9_goOnInParallel_96 (by decide) ?_
    refine lv_iadd hx hb dX9_goOnInParallel_97 ?_
    refine rv_istore X dX9_goOnInParallel_98 hl (by decide) rfl (fun ls hl => ?_)
    have hl : LV ls 6 [(4, .int (l4 + 0)), (3, .int (s0 + s1)), (0, va_rf l0), (1, va_rf l1), (5, va_rf l5)] := hl
    refine rw_aload X dX9_goOnInParallel_100 (hl.at 4 rfl) ?_
    obtain ⟨v102, e102, hf⟩ := ob hf
    refine rw_getR X dX9_goOnInParallel_102 fl9_159 e102 rfl hP ?_
    refine rv_astore X dX9_goOnInParallel_105 hl (by decide) rfl (fun ls hl => ?_)
    have hl : LV ls 6 [(5, va_rf v102), (4, .int (l4 + 0)), (3, .int (s0 + s1)), (0, va_rf l0), (1, va_rf l1)] := hl
    refine lv_goto (tgt := 53) hx hb dX9_goOnInParallel_107 (by decide) ?_
    exact hk53 S l0 l1 (s0 + s1) (l4 + 0) v102 hf _ _ _ hP (hl.sub [3, 4, 2, 1, 0] rfl)
  · have hf := ifp hf c89
    refine lv_iconst (v := 1) hx hb dX9_goOnInParallel_92 (by decide) ?_
    refine lv_goto (tgt := 97) hx hb dX9_goOnInParallel_93 (by decide) ?_
    refine lv_iadd hx hb dX9_goOnInParallel_97 ?_
    refine rv_istore X dX9_goOnInParallel_98 hl (by decide) rfl (fun ls hl => ?_)
    have hl : LV ls 6 [(4, .int (l4 + 1)), (3, .int (s0 + s1)), (0, va_rf l0), (1, va_rf l1), (5, va_rf l5)] := hl
    refine rw_aload X dX9_goOnInParallel_100 (hl.at 4 rfl) ?_
    obtain ⟨v102, e102, hf⟩ := ob hf
    refine rw_getR X dX9_goOnInParallel_102 fl9_159 e102 rfl hP ?_
    refine rv_astore X dX9_goOnInParallel_105 hl (by decide) rfl (fun ls hl => ?_)
    have hl : LV ls 6 [(5, va_rf v102), (4, .int (l4 + 1)), (3, .int (s0 + s1)), (0, va_rf l0), (1, va_rf l1)] := hl
    refine lv_goto (tgt := 53) hx hb dX9_goOnInParallel_107 (by decide) ?_
    exact hk53 S l0 l1 (s0 + s1) (l4 + 1) v102 hf _ _ _ hP (hl.sub [3, 4, 2, 1, 0] rfl)
def fX9_goOnInParallel_53 (Y : LY) : Nat → HS → Option Nat → Option Nat → Int32 → Int32 → Option Nat → Option (HS × Int32)
  | 0, _, _, _, _, _, _ => none
  | n + 1, S, l0, l1, l3, l4, l5 =>
    if l5 = none then
      (gI Y 4 405 l1 S).bind fun v112 =>
      if v112 ≤ l3 then
        fX9_goOnInParallel_134 Y S l0 l1 l3
      else
        (gI Y 4 407 l1 S).bind fun v121 =>
        (gI Y 4 405 l1 S).bind fun v125 =>
        if (v121 - v125) < l4 then
          fX9_goOnInParallel_134 Y S l0 l1 l3
        else
          some (S, 1)
    else
      (gR Y 4 403 l5 S).bind fun v61 =>
      (gI Y 3 303 v61 S).bind fun v64 =>
      if v64 = 2 then
        fX9_goOnInParallel_76 (fX9_goOnInParallel_53 Y n) Y S l0 l1 l4 l5 l3 1
      else
        fX9_goOnInParallel_76 (fX9_goOnInParallel_53 Y n) Y S l0 l1 l4 l5 l3 0
set_option maxRecDepth 100000 in
set_option maxHeartbeats 4000000 in
theorem wX9_goOnInParallel_53 {p : Program} {l : Launch} {e : Env} {R : Room} {s : State} {m : MethodId} {args : Array Value} {below : List Frame} {meth : Method} {c : Code} {G : GG} {Y : LY} {res : HS × Int32} (X : Cx p R s m args meth c RX9 cX9_goOnInParallel 6 4 98 (fun q => q ∈ Y.1) G (some .int)) : ∀ (n : Nat) (S : HS) (l0 : Option Nat) (l1 : Option Nat) (l3 : Int32) (l4 : Int32) (l5 : Option Nat), fX9_goOnInParallel_53 Y n S l0 l1 l3 l4 l5 = some res → ∀ (H : Heap) (locs : List Loc) (ls : Array Slot), HP (fun q => q ∈ Y.1) G Y s S H locs → LV ls 6 [(0, va_rf l0), (1, va_rf l1), (3, .int l3), (4, .int l4), (5, va_rf l5)] → W p l e R s m args below meth c H locs 0 0 (MQ below (QI G Y res.1 (some (.int res.2))) args s 0 0 (fun q => q ∈ Y.1)) (F0 m 53 ls []) := by
  have hx := X.1.1
  have hb := X.1.2.1
  intro n
  induction n with
  | zero =>
    intro S l0 l1 l3 l4 l5 hf
    cases hf
  | succ n ih =>
    intro S l0 l1 l3 l4 l5 hf H locs ls hP hl
    rw [fX9_goOnInParallel_53] at hf
    refine rw_aload X dX9_goOnInParallel_53 (hl.at 4 rfl) ?_
    refine rw_ifnull X (tgt := 110) dX9_goOnInParallel_55 (by decide) (fun c55 => ?_) (fun c55 => ?_)
    · have hf := ifp hf c55
      refine lv_iload_n hx hb dX9_goOnInParallel_110 rfl (hl.at 2 rfl) ?_
      refine rw_aload_n X dX9_goOnInParallel_111 rfl (hl.at 1 rfl) ?_
      obtain ⟨v112, e112, hf⟩ := ob hf
      refine rw_getI X dX9_goOnInParallel_112 fl9_147 e112 rfl hP ?_
      refine lv_icmp_ge hx hb (tgt := 134) dX9_goOnInParallel_115 (by decide) (fun c115 => ?_) (fun c115 => ?_)
      · have hf := ifp hf c115
        exact wX9_goOnInParallel_134 X S l0 l1 l3 hf _ _ _ hP (hl.sub [0, 1, 2] rfl)
      · have hf := ifn hf c115
        refine lv_iload hx hb dX9_goOnInParallel_118 (hl.at 3 rfl) ?_
        refine rw_aload_n X dX9_goOnInParallel_120 rfl (hl.at 1 rfl) ?_
        obtain ⟨v121, e121, hf⟩ := ob hf
        refine rw_getI X dX9_goOnInParallel_121 fl9_178 e121 rfl hP ?_
        refine rw_aload_n X dX9_goOnInParallel_124 rfl (hl.at 1 rfl) ?_
        obtain ⟨v125, e125, hf⟩ := ob hf
        refine rw_getI X dX9_goOnInParallel_125 fl9_147 e125 rfl hP ?_
        refine lv_isub hx hb dX9_goOnInParallel_128 ?_
        refine lv_icmp_gt hx hb (tgt := 134) dX9_goOnInParallel_129 (by decide) (fun c129 => ?_) (fun c129 => ?_)
        · have hf := ifp hf c129
          exact wX9_goOnInParallel_134 X S l0 l1 l3 hf _ _ _ hP (hl.sub [0, 1, 2] rfl)
        · have hf := ifn hf c129
          refine lv_iconst (v := 1) hx hb dX9_goOnInParallel_132 (by decide) ?_
          cases hf
          exact rw_iret X dX9_goOnInParallel_133 hP
    · have hf := ifn hf c55
      refine lv_iload_n hx hb dX9_goOnInParallel_58 rfl (hl.at 2 rfl) ?_
      refine rw_aload X dX9_goOnInParallel_59 (hl.at 4 rfl) ?_
      obtain ⟨v61, e61, hf⟩ := ob hf
      refine rw_getR X dX9_goOnInParallel_61 fl9_60 e61 rfl hP ?_
      obtain ⟨v64, e64, hf⟩ := ob hf
      refine rw_getI X dX9_goOnInParallel_64 fl9_156 e64 rfl hP ?_
      refine lv_iconst (v := 2) hx hb dX9_goOnInParallel_67 (by decide) ?_
      refine lv_icmp_ne hx hb (tgt := 75) dX9_goOnInParallel_68 (by decide) (fun c68 => ?_) (fun c68 => ?_)
      · have hf := ifn hf c68
        refine lv_iconst (v := 0) hx hb dX9_goOnInParallel_75 (by decide) ?_
        exact wX9_goOnInParallel_76 X ih S l0 l1 l4 l5 l3 0 hf _ _ _ hP (hl.sub [0, 1, 3, 4] rfl)
      · have hf := ifp hf c68
        refine lv_iconst (v := 1) hx hb dX9_goOnInParallel_71 (by decide) ?_
        refine lv_goto (tgt := 76) hx hb dX9_goOnInParallel_72 (by decide) ?_
        exact wX9_goOnInParallel_76 X ih S l0 l1 l4 l5 l3 1 hf _ _ _ hP (hl.sub [0, 1, 3, 4] rfl)
def fX9_goOnInParallel_2 (Y : LY) : Nat → HS → Option Nat → Option Nat → Option Nat → Option (HS × Int32)
  | 0, _, _, _, _ => none
  | n + 1, S, l0, l1, l3 =>
    if l3 = none then
      (gR Y 4 410 l1 S).bind fun v48 =>
      fX9_goOnInParallel_53 Y FU S l0 l1 0 0 v48
    else
      (gR Y 4 403 l3 S).bind fun v7 =>
      (gI Y 3 303 v7 S).bind fun v10 =>
      if v10 = 2 then
        (gR Y 4 412 l3 S).bind fun v35 =>
        fX9_goOnInParallel_2 Y n S l0 l1 v35
      else
        (gR Y 4 403 l3 S).bind fun v18 =>
        (gI Y 3 303 v18 S).bind fun v21 =>
        if v21 = 3 then
          (gR Y 4 412 l3 S).bind fun v35 =>
          fX9_goOnInParallel_2 Y n S l0 l1 v35
        else
          (rcv Y 9 l0).bind fun _ =>
          (fX9_goDown Y S l0 l3).bind fun q30 =>
          some (q30.1, q30.2)
set_option maxRecDepth 100000 in
set_option maxHeartbeats 4000000 in
theorem wX9_goOnInParallel_2 {p : Program} {l : Launch} {e : Env} {R : Room} {s : State} {m : MethodId} {args : Array Value} {below : List Frame} {meth : Method} {c : Code} {G : GG} {Y : LY} {res : HS × Int32} (X : Cx p R s m args meth c RX9 cX9_goOnInParallel 6 4 98 (fun q => q ∈ Y.1) G (some .int)) : ∀ (n : Nat) (S : HS) (l0 : Option Nat) (l1 : Option Nat) (l3 : Option Nat), fX9_goOnInParallel_2 Y n S l0 l1 l3 = some res → ∀ (H : Heap) (locs : List Loc) (ls : Array Slot), HP (fun q => q ∈ Y.1) G Y s S H locs → LV ls 6 [(0, va_rf l0), (1, va_rf l1), (3, va_rf l3)] → W p l e R s m args below meth c H locs 0 0 (MQ below (QI G Y res.1 (some (.int res.2))) args s 0 0 (fun q => q ∈ Y.1)) (F0 m 2 ls []) := by
  have hx := X.1.1
  have hb := X.1.2.1
  intro n
  induction n with
  | zero =>
    intro S l0 l1 l3 hf
    cases hf
  | succ n ih =>
    intro S l0 l1 l3 hf H locs ls hP hl
    rw [fX9_goOnInParallel_2] at hf
    refine rw_aload_n X dX9_goOnInParallel_2 rfl (hl.at 2 rfl) ?_
    refine rw_ifnull X (tgt := 42) dX9_goOnInParallel_3 (by decide) (fun c3 => ?_) (fun c3 => ?_)
    · have hf := ifp hf c3
      refine lv_iconst (v := 0) hx hb dX9_goOnInParallel_42 (by decide) ?_
      refine rv_istore_n X dX9_goOnInParallel_43 rfl hl (by decide) rfl (fun ls hl => ?_)
      have hl : LV ls 6 [(3, .int 0), (0, va_rf l0), (1, va_rf l1)] := hl
      refine lv_iconst (v := 0) hx hb dX9_goOnInParallel_44 (by decide) ?_
      refine rv_istore X dX9_goOnInParallel_45 hl (by decide) rfl (fun ls hl => ?_)
      have hl : LV ls 6 [(4, .int 0), (3, .int 0), (0, va_rf l0), (1, va_rf l1)] := hl
      refine rw_aload_n X dX9_goOnInParallel_47 rfl (hl.at 3 rfl) ?_
      obtain ⟨v48, e48, hf⟩ := ob hf
      refine rw_getR X dX9_goOnInParallel_48 fl9_133 e48 rfl hP ?_
      refine rv_astore X dX9_goOnInParallel_51 hl (by decide) rfl (fun ls hl => ?_)
      have hl : LV ls 6 [(5, va_rf v48), (4, .int 0), (3, .int 0), (0, va_rf l0), (1, va_rf l1)] := hl
      exact wX9_goOnInParallel_53 X FU S l0 l1 0 0 v48 hf _ _ _ hP (hl.sub [3, 4, 2, 1, 0] rfl)
    · have hf := ifn hf c3
      refine rw_aload_n X dX9_goOnInParallel_6 rfl (hl.at 2 rfl) ?_
      obtain ⟨v7, e7, hf⟩ := ob hf
      refine rw_getR X dX9_goOnInParallel_7 fl9_60 e7 rfl hP ?_
      obtain ⟨v10, e10, hf⟩ := ob hf
      refine rw_getI X dX9_goOnInParallel_10 fl9_156 e10 rfl hP ?_
      refine lv_iconst (v := 2) hx hb dX9_goOnInParallel_13 (by decide) ?_
      refine lv_icmp_eq hx hb (tgt := 34) dX9_goOnInParallel_14 (by decide) (fun c14 => ?_) (fun c14 => ?_)
      · have hf := ifp hf c14
        refine rw_aload_n X dX9_goOnInParallel_34 rfl (hl.at 2 rfl) ?_
        obtain ⟨v35, e35, hf⟩ := ob hf
        refine rw_getR X dX9_goOnInParallel_35 fl9_159 e35 rfl hP ?_
        refine rv_astore_n X dX9_goOnInParallel_38 rfl hl (by decide) rfl (fun ls hl => ?_)
        have hl : LV ls 6 [(3, va_rf v35), (0, va_rf l0), (1, va_rf l1)] := hl
        refine lv_goto (tgt := 2) hx hb dX9_goOnInParallel_39 (by decide) ?_
        exact ih S l0 l1 v35 hf _ _ _ hP (hl.sub [1, 2, 0] rfl)
      · have hf := ifn hf c14
        refine rw_aload_n X dX9_goOnInParallel_17 rfl (hl.at 2 rfl) ?_
        obtain ⟨v18, e18, hf⟩ := ob hf
        refine rw_getR X dX9_goOnInParallel_18 fl9_60 e18 rfl hP ?_
        obtain ⟨v21, e21, hf⟩ := ob hf
        refine rw_getI X dX9_goOnInParallel_21 fl9_156 e21 rfl hP ?_
        refine lv_iconst (v := 3) hx hb dX9_goOnInParallel_24 (by decide) ?_
        refine lv_icmp_eq hx hb (tgt := 34) dX9_goOnInParallel_25 (by decide) (fun c25 => ?_) (fun c25 => ?_)
        · have hf := ifp hf c25
          refine rw_aload_n X dX9_goOnInParallel_34 rfl (hl.at 2 rfl) ?_
          obtain ⟨v35, e35, hf⟩ := ob hf
          refine rw_getR X dX9_goOnInParallel_35 fl9_159 e35 rfl hP ?_
          refine rv_astore_n X dX9_goOnInParallel_38 rfl hl (by decide) rfl (fun ls hl => ?_)
          have hl : LV ls 6 [(3, va_rf v35), (0, va_rf l0), (1, va_rf l1)] := hl
          refine lv_goto (tgt := 2) hx hb dX9_goOnInParallel_39 (by decide) ?_
          exact ih S l0 l1 v35 hf _ _ _ hP (hl.sub [1, 2, 0] rfl)
        · have hf := ifn hf c25
          refine rw_aload_n X dX9_goOnInParallel_28 rfl (hl.at 0 rfl) ?_
          refine rw_aload_n X dX9_goOnInParallel_29 rfl (hl.at 2 rfl) ?_
          obtain ⟨u30, r30, hf⟩ := ob hf
          obtain ⟨q30, e30, hf⟩ := ob hf
          refine rw_callVi (As := [va_rf l3]) X dX9_goOnInParallel_30 clX9_130 pyX9_goDown (mX9_goDown l e30) (by decide) r30 rfl hP rfl (catL c1n (Nat.le_of_ble_eq_true rfl)) hl.1.1 (fun H locs hP => ?_)
          cases hf
          exact rw_iret X dX9_goOnInParallel_33 hP
def fX9_goOnInParallel (Y : LY) (S : HS) (l0 : Option Nat) (l1 : Option Nat) (l2 : Option Nat) : Option (HS × Int32) :=
  fX9_goOnInParallel_2 Y FU S l0 l1 l2
set_option maxRecDepth 100000 in
set_option maxHeartbeats 4000000 in
theorem mX9_goOnInParallel (l : Launch) {G : GG} {Y : LY} {S : HS} {l0 : Option Nat} {l1 : Option Nat} {l2 : Option Nat} {res : HS × Int32} (hf : fX9_goOnInParallel Y S l0 l1 l2 = some res) : MM l yX9_goOnInParallel cX9_goOnInParallel 6 (some .int) 4 98 G Y S [va_rf l0, va_rf l1, va_rf l2] res.1 (some (.int res.2)) := by
  refine mm_of2 (plainFor_of_name (by decide +kernel)) (Nat.le_of_ble_eq_true rfl) (c1c (cr _) (c1c (cr _) (c1c (cr _) c1n))) ?_
  intro p e R s m args below meth c X H locs ls hP hl
  have X : Cx p R s m args meth c RX9 cX9_goOnInParallel 6 4 98 (fun q => q ∈ Y.1) G (some .int) := X
  have hx := X.1.1
  have hb := X.1.2.1
  have hl : LV ls 6 [(0, va_rf l0), (1, va_rf l1), (2, va_rf l2)] := hl
  unfold fX9_goOnInParallel at hf
  refine rw_aload_n X dX9_goOnInParallel_0 rfl (hl.at 2 rfl) ?_
  refine rv_astore_n X dX9_goOnInParallel_1 rfl hl (by decide) rfl (fun ls hl => ?_)
  have hl : LV ls 6 [(3, va_rf l2), (0, va_rf l0), (1, va_rf l1), (2, va_rf l2)] := hl
  exact wX9_goOnInParallel_2 X FU S l0 l1 l2 hf _ _ _ hP (hl.sub [1, 2, 0] rfl)
theorem dX9_goDownIf_0 : decode cX9_goDownIf 0 = .ok (.iload_n 1, 1) := by decide +kernel
theorem dX9_goDownIf_1 : decode cX9_goDownIf 1 = .ok (.ifCond .eq 12, 3) := by decide +kernel
theorem dX9_goDownIf_4 : decode cX9_goDownIf 4 = .ok (.aload_n 0, 1) := by decide +kernel
theorem dX9_goDownIf_5 : decode cX9_goDownIf 5 = .ok (.aload_n 2, 1) := by decide +kernel
theorem dX9_goDownIf_6 : decode cX9_goDownIf 6 = .ok (.getfield 133, 3) := by decide +kernel
theorem dX9_goDownIf_9 : decode cX9_goDownIf 9 = .ok (.invokevirtual 130, 3) := by decide +kernel
theorem dX9_goDownIf_12 : decode cX9_goDownIf 12 = .ok (.ireturn, 1) := by decide +kernel
theorem dX9_goDownIf_13 : decode cX9_goDownIf 13 = .ok (.aload_n 0, 1) := by decide +kernel
theorem dX9_goDownIf_14 : decode cX9_goDownIf 14 = .ok (.aload_n 2, 1) := by decide +kernel
theorem dX9_goDownIf_15 : decode cX9_goDownIf 15 = .ok (.aload_n 2, 1) := by decide +kernel
theorem dX9_goDownIf_16 : decode cX9_goDownIf 16 = .ok (.getfield 133, 3) := by decide +kernel
theorem dX9_goDownIf_19 : decode cX9_goDownIf 19 = .ok (.invokevirtual 162, 3) := by decide +kernel
theorem dX9_goDownIf_22 : decode cX9_goDownIf 22 = .ok (.iconst 3, 1) := by decide +kernel
theorem dX9_goDownIf_23 : decode cX9_goDownIf 23 = .ok (.ireturn, 1) := by decide +kernel
theorem pyX9_goDownIf : PY yX9_goDownIf 2 := ⟨by decide +kernel, by decide +kernel, by decide +kernel⟩
def fX9_goDownIf (Y : LY) (S : HS) (l0 : Option Nat) (l1 : Int32) (l2 : Option Nat) : Option (HS × Int32) :=
  if l1 = 0 then
    (gR Y 4 410 l2 S).bind fun v16 =>
    (rcv Y 9 l0).bind fun _ =>
    (fX9_stopBack Y S l0 l2 v16).bind fun S19 =>
    some (S19, 3)
  else
    (gR Y 4 410 l2 S).bind fun v6 =>
    (rcv Y 9 l0).bind fun _ =>
    (fX9_goDown Y S l0 v6).bind fun q9 =>
    some (q9.1, q9.2)
set_option maxRecDepth 100000 in
set_option maxHeartbeats 4000000 in
theorem mX9_goDownIf (l : Launch) {G : GG} {Y : LY} {S : HS} {l0 : Option Nat} {l1 : Int32} {l2 : Option Nat} {res : HS × Int32} (hf : fX9_goDownIf Y S l0 l1 l2 = some res) : MM l yX9_goDownIf cX9_goDownIf 3 (some .int) 4 98 G Y S [va_rf l0, .int l1, va_rf l2] res.1 (some (.int res.2)) := by
  refine mm_of2 (plainFor_of_name (by decide +kernel)) (Nat.le_of_ble_eq_true rfl) (c1c (cr _) (c1c (ci _) (c1c (cr _) c1n))) ?_
  intro p e R s m args below meth c X H locs ls hP hl
  have X : Cx p R s m args meth c RX9 cX9_goDownIf 3 4 98 (fun q => q ∈ Y.1) G (some .int) := X
  have hx := X.1.1
  have hb := X.1.2.1
  have hl : LV ls 3 [(0, va_rf l0), (1, .int l1), (2, va_rf l2)] := hl
  unfold fX9_goDownIf at hf
  refine lv_iload_n hx hb dX9_goDownIf_0 rfl (hl.at 1 rfl) ?_
  refine lv_if_eq hx hb (tgt := 13) dX9_goDownIf_1 (by decide) (fun c1 => ?_) (fun c1 => ?_)
  · have hf := ifp hf c1
    refine rw_aload_n X dX9_goDownIf_13 rfl (hl.at 0 rfl) ?_
    refine rw_aload_n X dX9_goDownIf_14 rfl (hl.at 2 rfl) ?_
    refine rw_aload_n X dX9_goDownIf_15 rfl (hl.at 2 rfl) ?_
    obtain ⟨v16, e16, hf⟩ := ob hf
    refine rw_getR X dX9_goDownIf_16 fl9_133 e16 rfl hP ?_
    obtain ⟨u19, r19, hf⟩ := ob hf
    obtain ⟨S19, e19, hf⟩ := ob hf
    refine rw_callVv (As := [va_rf l2, va_rf v16]) X dX9_goDownIf_19 clX9_162 pyX9_stopBack (mX9_stopBack l e19) (by decide) r19 rfl hP rfl (catL c1n (Nat.le_of_ble_eq_true rfl)) hl.1.1 (fun H locs hP => ?_)
    refine lv_iconst (v := 3) hx hb dX9_goDownIf_22 (by decide) ?_
    cases hf
    exact rw_iret X dX9_goDownIf_23 hP
  · have hf := ifn hf c1
    refine rw_aload_n X dX9_goDownIf_4 rfl (hl.at 0 rfl) ?_
    refine rw_aload_n X dX9_goDownIf_5 rfl (hl.at 2 rfl) ?_
    obtain ⟨v6, e6, hf⟩ := ob hf
    refine rw_getR X dX9_goDownIf_6 fl9_133 e6 rfl hP ?_
    obtain ⟨u9, r9, hf⟩ := ob hf
    obtain ⟨q9, e9, hf⟩ := ob hf
    refine rw_callVi (As := [va_rf v6]) X dX9_goDownIf_9 clX9_130 pyX9_goDown (mX9_goDown l e9) (by decide) r9 rfl hP rfl (catL c1n (Nat.le_of_ble_eq_true rfl)) hl.1.1 (fun H locs hP => ?_)
    cases hf
    exact rw_iret X dX9_goDownIf_12 hP
theorem dX9_beginVisit_0 : decode cX9_beginVisit 0 = .ok (.aload_n 1, 1) := by decide +kernel
theorem dX9_beginVisit_1 : decode cX9_beginVisit 1 = .ok (.getfield 60, 3) := by decide +kernel
theorem dX9_beginVisit_4 : decode cX9_beginVisit 4 = .ok (.astore_n 2, 1) := by decide +kernel
theorem dX9_beginVisit_5 : decode cX9_beginVisit 5 = .ok (.aload_n 2, 1) := by decide +kernel
theorem dX9_beginVisit_6 : decode cX9_beginVisit 6 = .ok (.dup, 1) := by decide +kernel
theorem dX9_beginVisit_7 : decode cX9_beginVisit 7 = .ok (.getfield 105, 3) := by decide +kernel
theorem dX9_beginVisit_10 : decode cX9_beginVisit 10 = .ok (.iconst 1, 1) := by decide +kernel
theorem dX9_beginVisit_11 : decode cX9_beginVisit 11 = .ok (.iadd, 1) := by decide +kernel
theorem dX9_beginVisit_12 : decode cX9_beginVisit 12 = .ok (.putfield 105, 3) := by decide +kernel
theorem dX9_beginVisit_15 : decode cX9_beginVisit 15 = .ok (.aload_n 0, 1) := by decide +kernel
theorem dX9_beginVisit_16 : decode cX9_beginVisit 16 = .ok (.getfield 21, 3) := by decide +kernel
theorem dX9_beginVisit_19 : decode cX9_beginVisit 19 = .ok (.dup, 1) := by decide +kernel
theorem dX9_beginVisit_20 : decode cX9_beginVisit 20 = .ok (.getfield 108, 3) := by decide +kernel
theorem dX9_beginVisit_23 : decode cX9_beginVisit 23 = .ok (.iconst 1, 1) := by decide +kernel
theorem dX9_beginVisit_24 : decode cX9_beginVisit 24 = .ok (.iadd, 1) := by decide +kernel
theorem dX9_beginVisit_25 : decode cX9_beginVisit 25 = .ok (.putfield 108, 3) := by decide +kernel
theorem dX9_beginVisit_28 : decode cX9_beginVisit 28 = .ok (.aload_n 2, 1) := by decide +kernel
theorem dX9_beginVisit_29 : decode cX9_beginVisit 29 = .ok (.getfield 64, 3) := by decide +kernel
theorem dX9_beginVisit_32 : decode cX9_beginVisit 32 = .ok (.ifCond .ne 8, 3) := by decide +kernel
theorem dX9_beginVisit_35 : decode cX9_beginVisit 35 = .ok (.aload_n 0, 1) := by decide +kernel
theorem dX9_beginVisit_36 : decode cX9_beginVisit 36 = .ok (.aload_n 1, 1) := by decide +kernel
theorem dX9_beginVisit_37 : decode cX9_beginVisit 37 = .ok (.invokevirtual 109, 3) := by decide +kernel
theorem dX9_beginVisit_40 : decode cX9_beginVisit 40 = .ok (.aload_n 1, 1) := by decide +kernel
theorem dX9_beginVisit_41 : decode cX9_beginVisit 41 = .ok (.getfield 113, 3) := by decide +kernel
theorem dX9_beginVisit_44 : decode cX9_beginVisit 44 = .ok (.tableswitch 187 0 13 #[72, 79, 86, 106, 119, 119, 187, 187, 128, 187, 187, 187, 138, 155], 72) := by decide +kernel
theorem dX9_beginVisit_116 : decode cX9_beginVisit 116 = .ok (.aload_n 0, 1) := by decide +kernel
theorem dX9_beginVisit_117 : decode cX9_beginVisit 117 = .ok (.aload_n 1, 1) := by decide +kernel
theorem dX9_beginVisit_118 : decode cX9_beginVisit 118 = .ok (.iconst 2, 1) := by decide +kernel
theorem dX9_beginVisit_119 : decode cX9_beginVisit 119 = .ok (.invokevirtual 116, 3) := by decide +kernel
theorem dX9_beginVisit_122 : decode cX9_beginVisit 122 = .ok (.ireturn, 1) := by decide +kernel
theorem dX9_beginVisit_123 : decode cX9_beginVisit 123 = .ok (.aload_n 0, 1) := by decide +kernel
theorem dX9_beginVisit_124 : decode cX9_beginVisit 124 = .ok (.aload_n 1, 1) := by decide +kernel
theorem dX9_beginVisit_125 : decode cX9_beginVisit 125 = .ok (.iconst 3, 1) := by decide +kernel
theorem dX9_beginVisit_126 : decode cX9_beginVisit 126 = .ok (.invokevirtual 116, 3) := by decide +kernel
theorem dX9_beginVisit_129 : decode cX9_beginVisit 129 = .ok (.ireturn, 1) := by decide +kernel
theorem dX9_beginVisit_130 : decode cX9_beginVisit 130 = .ok (.aload_n 0, 1) := by decide +kernel
theorem dX9_beginVisit_131 : decode cX9_beginVisit 131 = .ok (.getfield 12, 3) := by decide +kernel
theorem dX9_beginVisit_134 : decode cX9_beginVisit 134 = .ok (.aload_n 1, 1) := by decide +kernel
theorem dX9_beginVisit_135 : decode cX9_beginVisit 135 = .ok (.getfield 120, 3) := by decide +kernel
theorem dX9_beginVisit_138 : decode cX9_beginVisit 138 = .ok (.invokevirtual 123, 3) := by decide +kernel
theorem dX9_beginVisit_141 : decode cX9_beginVisit 141 = .ok (.ifCond .eq 7, 3) := by decide +kernel
theorem dX9_beginVisit_144 : decode cX9_beginVisit 144 = .ok (.iconst 2, 1) := by decide +kernel
theorem dX9_beginVisit_145 : decode cX9_beginVisit 145 = .ok (.goto 4, 3) := by decide +kernel
theorem dX9_beginVisit_148 : decode cX9_beginVisit 148 = .ok (.iconst 3, 1) := by decide +kernel
theorem dX9_beginVisit_149 : decode cX9_beginVisit 149 = .ok (.ireturn, 1) := by decide +kernel
theorem dX9_beginVisit_150 : decode cX9_beginVisit 150 = .ok (.aload_n 0, 1) := by decide +kernel
theorem dX9_beginVisit_151 : decode cX9_beginVisit 151 = .ok (.getfield 12, 3) := by decide +kernel
theorem dX9_beginVisit_154 : decode cX9_beginVisit 154 = .ok (.aload_n 1, 1) := by decide +kernel
theorem dX9_beginVisit_155 : decode cX9_beginVisit 155 = .ok (.getfield 120, 3) := by decide +kernel
theorem dX9_beginVisit_158 : decode cX9_beginVisit 158 = .ok (.invokevirtual 98, 3) := by decide +kernel
theorem dX9_beginVisit_161 : decode cX9_beginVisit 161 = .ok (.iconst 2, 1) := by decide +kernel
theorem dX9_beginVisit_162 : decode cX9_beginVisit 162 = .ok (.ireturn, 1) := by decide +kernel
theorem dX9_beginVisit_163 : decode cX9_beginVisit 163 = .ok (.aload_n 0, 1) := by decide +kernel
theorem dX9_beginVisit_164 : decode cX9_beginVisit 164 = .ok (.aload_n 2, 1) := by decide +kernel
theorem dX9_beginVisit_165 : decode cX9_beginVisit 165 = .ok (.getfield 127, 3) := by decide +kernel
theorem dX9_beginVisit_168 : decode cX9_beginVisit 168 = .ok (.invokevirtual 130, 3) := by decide +kernel
theorem dX9_beginVisit_171 : decode cX9_beginVisit 171 = .ok (.ireturn, 1) := by decide +kernel
theorem dX9_beginVisit_172 : decode cX9_beginVisit 172 = .ok (.aload_n 0, 1) := by decide +kernel
theorem dX9_beginVisit_173 : decode cX9_beginVisit 173 = .ok (.aload_n 1, 1) := by decide +kernel
theorem dX9_beginVisit_174 : decode cX9_beginVisit 174 = .ok (.aload_n 1, 1) := by decide +kernel
theorem dX9_beginVisit_175 : decode cX9_beginVisit 175 = .ok (.getfield 133, 3) := by decide +kernel
theorem dX9_beginVisit_178 : decode cX9_beginVisit 178 = .ok (.invokevirtual 136, 3) := by decide +kernel
theorem dX9_beginVisit_181 : decode cX9_beginVisit 181 = .ok (.ireturn, 1) := by decide +kernel
theorem dX9_beginVisit_182 : decode cX9_beginVisit 182 = .ok (.aload_n 0, 1) := by decide +kernel
theorem dX9_beginVisit_183 : decode cX9_beginVisit 183 = .ok (.aload_n 0, 1) := by decide +kernel
theorem dX9_beginVisit_184 : decode cX9_beginVisit 184 = .ok (.getfield 12, 3) := by decide +kernel
theorem dX9_beginVisit_187 : decode cX9_beginVisit 187 = .ok (.aload_n 1, 1) := by decide +kernel
theorem dX9_beginVisit_188 : decode cX9_beginVisit 188 = .ok (.getfield 120, 3) := by decide +kernel
theorem dX9_beginVisit_191 : decode cX9_beginVisit 191 = .ok (.invokevirtual 123, 3) := by decide +kernel
theorem dX9_beginVisit_194 : decode cX9_beginVisit 194 = .ok (.aload_n 1, 1) := by decide +kernel
theorem dX9_beginVisit_195 : decode cX9_beginVisit 195 = .ok (.invokevirtual 140, 3) := by decide +kernel
theorem dX9_beginVisit_198 : decode cX9_beginVisit 198 = .ok (.ireturn, 1) := by decide +kernel
theorem dX9_beginVisit_199 : decode cX9_beginVisit 199 = .ok (.aload_n 2, 1) := by decide +kernel
theorem dX9_beginVisit_200 : decode cX9_beginVisit 200 = .ok (.dup, 1) := by decide +kernel
theorem dX9_beginVisit_201 : decode cX9_beginVisit 201 = .ok (.getfield 144, 3) := by decide +kernel
theorem dX9_beginVisit_204 : decode cX9_beginVisit 204 = .ok (.iconst 1, 1) := by decide +kernel
theorem dX9_beginVisit_205 : decode cX9_beginVisit 205 = .ok (.iadd, 1) := by decide +kernel
theorem dX9_beginVisit_206 : decode cX9_beginVisit 206 = .ok (.putfield 144, 3) := by decide +kernel
theorem dX9_beginVisit_209 : decode cX9_beginVisit 209 = .ok (.aload_n 0, 1) := by decide +kernel
theorem dX9_beginVisit_210 : decode cX9_beginVisit 210 = .ok (.aload_n 2, 1) := by decide +kernel
theorem dX9_beginVisit_211 : decode cX9_beginVisit 211 = .ok (.getfield 144, 3) := by decide +kernel
theorem dX9_beginVisit_214 : decode cX9_beginVisit 214 = .ok (.aload_n 1, 1) := by decide +kernel
theorem dX9_beginVisit_215 : decode cX9_beginVisit 215 = .ok (.getfield 147, 3) := by decide +kernel
theorem dX9_beginVisit_218 : decode cX9_beginVisit 218 = .ok (.if_icmp .gt 7, 3) := by decide +kernel
theorem dX9_beginVisit_221 : decode cX9_beginVisit 221 = .ok (.iconst 1, 1) := by decide +kernel
theorem dX9_beginVisit_222 : decode cX9_beginVisit 222 = .ok (.goto 4, 3) := by decide +kernel
theorem dX9_beginVisit_225 : decode cX9_beginVisit 225 = .ok (.iconst 0, 1) := by decide +kernel
theorem dX9_beginVisit_226 : decode cX9_beginVisit 226 = .ok (.aload_n 1, 1) := by decide +kernel
theorem dX9_beginVisit_227 : decode cX9_beginVisit 227 = .ok (.invokevirtual 140, 3) := by decide +kernel
theorem dX9_beginVisit_230 : decode cX9_beginVisit 230 = .ok (.ireturn, 1) := by decide +kernel
theorem dX9_beginVisit_231 : decode cX9_beginVisit 231 = .ok (.aload_n 0, 1) := by decide +kernel
theorem dX9_beginVisit_232 : decode cX9_beginVisit 232 = .ok (.aload_n 1, 1) := by decide +kernel
theorem dX9_beginVisit_233 : decode cX9_beginVisit 233 = .ok (.getfield 133, 3) := by decide +kernel
theorem dX9_beginVisit_236 : decode cX9_beginVisit 236 = .ok (.invokevirtual 130, 3) := by decide +kernel
theorem dX9_beginVisit_239 : decode cX9_beginVisit 239 = .ok (.ireturn, 1) := by decide +kernel
theorem pyX9_beginVisit : PY yX9_beginVisit 1 := ⟨by decide +kernel, by decide +kernel, by decide +kernel⟩
def fX9_beginVisit_40 (Y : LY) (S : HS) (l0 : Option Nat) (l1 : Option Nat) (l2 : Option Nat) : Option (HS × Int32) :=
  (gI Y 4 404 l1 S).bind fun v41 =>
  if v41 = 0 then
    (rcv Y 9 l0).bind fun _ =>
    (fX9_act Y S l0 l1 2).bind fun q119 =>
    some (q119.1, q119.2)
  else
  if v41 = 1 then
    (rcv Y 9 l0).bind fun _ =>
    (fX9_act Y S l0 l1 3).bind fun q126 =>
    some (q126.1, q126.2)
  else
  if v41 = 2 then
    (gR Y 9 900 l0 S).bind fun v131 =>
    (gR Y 4 401 l1 S).bind fun v135 =>
    (rcv Y 0 v131).bind fun _ =>
    (fX0_fulfils Y S v131 v135).bind fun v138 =>
    if v138 = 0 then
      some (S, 3)
    else
      some (S, 2)
  else
  if v41 = 3 then
    (gR Y 9 900 l0 S).bind fun v151 =>
    (gR Y 4 401 l1 S).bind fun v155 =>
    (rcv Y 0 v151).bind fun _ =>
    (fX0_change Y S v151 v155).bind fun S158 =>
    some (S158, 2)
  else
  if v41 = 4 then
    (gR Y 3 302 l2 S).bind fun v165 =>
    (rcv Y 9 l0).bind fun _ =>
    (fX9_goDown Y S l0 v165).bind fun q168 =>
    some (q168.1, q168.2)
  else
  if v41 = 5 then
    (gR Y 3 302 l2 S).bind fun v165 =>
    (rcv Y 9 l0).bind fun _ =>
    (fX9_goDown Y S l0 v165).bind fun q168 =>
    some (q168.1, q168.2)
  else
  if v41 = 6 then
    (gR Y 4 410 l1 S).bind fun v233 =>
    (rcv Y 9 l0).bind fun _ =>
    (fX9_goDown Y S l0 v233).bind fun q236 =>
    some (q236.1, q236.2)
  else
  if v41 = 7 then
    (gR Y 4 410 l1 S).bind fun v233 =>
    (rcv Y 9 l0).bind fun _ =>
    (fX9_goDown Y S l0 v233).bind fun q236 =>
    some (q236.1, q236.2)
  else
  if v41 = 8 then
    (gR Y 4 410 l1 S).bind fun v175 =>
    (rcv Y 9 l0).bind fun _ =>
    (fX9_goOnInParallel Y S l0 l1 v175).bind fun q178 =>
    some (q178.1, q178.2)
  else
  if v41 = 9 then
    (gR Y 4 410 l1 S).bind fun v233 =>
    (rcv Y 9 l0).bind fun _ =>
    (fX9_goDown Y S l0 v233).bind fun q236 =>
    some (q236.1, q236.2)
  else
  if v41 = 10 then
    (gR Y 4 410 l1 S).bind fun v233 =>
    (rcv Y 9 l0).bind fun _ =>
    (fX9_goDown Y S l0 v233).bind fun q236 =>
    some (q236.1, q236.2)
  else
  if v41 = 11 then
    (gR Y 4 410 l1 S).bind fun v233 =>
    (rcv Y 9 l0).bind fun _ =>
    (fX9_goDown Y S l0 v233).bind fun q236 =>
    some (q236.1, q236.2)
  else
  if v41 = 12 then
    (gR Y 9 900 l0 S).bind fun v184 =>
    (gR Y 4 401 l1 S).bind fun v188 =>
    (rcv Y 0 v184).bind fun _ =>
    (fX0_fulfils Y S v184 v188).bind fun v191 =>
    (rcv Y 9 l0).bind fun _ =>
    (fX9_goDownIf Y S l0 v191 l1).bind fun q195 =>
    some (q195.1, q195.2)
  else
  if v41 = 13 then
    (gI Y 3 301 l2 S).bind fun v201 =>
    (pI Y 3 301 l2 (v201 + 1) S).bind fun S206 =>
    (gI Y 3 301 l2 S206).bind fun v211 =>
    (gI Y 4 405 l1 S206).bind fun v215 =>
    if v215 < v211 then
      (rcv Y 9 l0).bind fun _ =>
      (fX9_goDownIf Y S206 l0 0 l1).bind fun q227 =>
      some (q227.1, q227.2)
    else
      (rcv Y 9 l0).bind fun _ =>
      (fX9_goDownIf Y S206 l0 1 l1).bind fun q227 =>
      some (q227.1, q227.2)
  else
  (gR Y 4 410 l1 S).bind fun v233 =>
  (rcv Y 9 l0).bind fun _ =>
  (fX9_goDown Y S l0 v233).bind fun q236 =>
  some (q236.1, q236.2)
set_option maxRecDepth 100000 in
set_option maxHeartbeats 4000000 in
theorem wX9_beginVisit_40 {p : Program} {l : Launch} {e : Env} {R : Room} {s : State} {m : MethodId} {args : Array Value} {below : List Frame} {meth : Method} {c : Code} {G : GG} {Y : LY} {res : HS × Int32} (X : Cx p R s m args meth c RX9 cX9_beginVisit 3 5 123 (fun q => q ∈ Y.1) G (some .int)) : ∀ (S : HS) (l0 : Option Nat) (l1 : Option Nat) (l2 : Option Nat), fX9_beginVisit_40 Y S l0 l1 l2 = some res → ∀ (H : Heap) (locs : List Loc) (ls : Array Slot), HP (fun q => q ∈ Y.1) G Y s S H locs → LV ls 3 [(0, va_rf l0), (1, va_rf l1), (2, va_rf l2)] → W p l e R s m args below meth c H locs 0 0 (MQ below (QI G Y res.1 (some (.int res.2))) args s 0 0 (fun q => q ∈ Y.1)) (F0 m 40 ls []) := by
  have hx := X.1.1
  have hb := X.1.2.1
  intro S l0 l1 l2 hf H locs ls hP hl
  unfold fX9_beginVisit_40 at hf
  refine rw_aload_n X dX9_beginVisit_40 rfl (hl.at 1 rfl) ?_
  obtain ⟨v41, e41, hf⟩ := ob hf
  refine rw_getI X dX9_beginVisit_41 fl9_113 e41 rfl hP ?_
  by_cases c44_0 : v41 = 0
  · have hf := ifp hf c44_0
    refine lv_tableIn (tgt := 116) hx hb dX9_beginVisit_44 (by rw [c44_0]; decide) (by rw [c44_0]; decide) (by rw [c44_0]; rfl) (by decide) ?_
    refine rw_aload_n X dX9_beginVisit_116 rfl (hl.at 0 rfl) ?_
    refine rw_aload_n X dX9_beginVisit_117 rfl (hl.at 1 rfl) ?_
    refine lv_iconst (v := 2) hx hb dX9_beginVisit_118 (by decide) ?_
    obtain ⟨u119, r119, hf⟩ := ob hf
    obtain ⟨q119, e119, hf⟩ := ob hf
    refine rw_callVi (As := [va_rf l1, .int 2]) X dX9_beginVisit_119 clX9_116 pyX9_act (mX9_act l e119) (by decide) r119 rfl hP rfl (catL c1n (Nat.le_of_ble_eq_true rfl)) hl.1.1 (fun H locs hP => ?_)
    cases hf
    exact rw_iret X dX9_beginVisit_122 hP
  have hf := ifn hf c44_0
  by_cases c44_1 : v41 = 1
  · have hf := ifp hf c44_1
    refine lv_tableIn (tgt := 123) hx hb dX9_beginVisit_44 (by rw [c44_1]; decide) (by rw [c44_1]; decide) (by rw [c44_1]; rfl) (by decide) ?_
    refine rw_aload_n X dX9_beginVisit_123 rfl (hl.at 0 rfl) ?_
    refine rw_aload_n X dX9_beginVisit_124 rfl (hl.at 1 rfl) ?_
    refine lv_iconst (v := 3) hx hb dX9_beginVisit_125 (by decide) ?_
    obtain ⟨u126, r126, hf⟩ := ob hf
    obtain ⟨q126, e126, hf⟩ := ob hf
    refine rw_callVi (As := [va_rf l1, .int 3]) X dX9_beginVisit_126 clX9_116 pyX9_act (mX9_act l e126) (by decide) r126 rfl hP rfl (catL c1n (Nat.le_of_ble_eq_true rfl)) hl.1.1 (fun H locs hP => ?_)
    cases hf
    exact rw_iret X dX9_beginVisit_129 hP
  have hf := ifn hf c44_1
  by_cases c44_2 : v41 = 2
  · have hf := ifp hf c44_2
    refine lv_tableIn (tgt := 130) hx hb dX9_beginVisit_44 (by rw [c44_2]; decide) (by rw [c44_2]; decide) (by rw [c44_2]; rfl) (by decide) ?_
    refine rw_aload_n X dX9_beginVisit_130 rfl (hl.at 0 rfl) ?_
    obtain ⟨v131, e131, hf⟩ := ob hf
    refine rw_getR X dX9_beginVisit_131 fl9_12 e131 rfl hP ?_
    refine rw_aload_n X dX9_beginVisit_134 rfl (hl.at 1 rfl) ?_
    obtain ⟨v135, e135, hf⟩ := ob hf
    refine rw_getR X dX9_beginVisit_135 fl9_120 e135 rfl hP ?_
    obtain ⟨u138, r138, hf⟩ := ob hf
    obtain ⟨v138, e138, hf⟩ := ob hf
    refine rw_callVi (As := [va_rf v135]) X dX9_beginVisit_138 clX9_123 pyX0_fulfils (mX0_fulfils l e138) (by decide) r138 rfl hP rfl (catL c1n (Nat.le_of_ble_eq_true rfl)) hl.1.1 (fun H locs hP => ?_)
    refine lv_if_eq hx hb (tgt := 148) dX9_beginVisit_141 (by decide) (fun c141 => ?_) (fun c141 => ?_)
    · have hf := ifp hf c141
      refine lv_iconst (v := 3) hx hb dX9_beginVisit_148 (by decide) ?_
      cases hf
      exact rw_iret X dX9_beginVisit_149 hP
    · have hf := ifn hf c141
      refine lv_iconst (v := 2) hx hb dX9_beginVisit_144 (by decide) ?_
      refine lv_goto (tgt := 149) hx hb dX9_beginVisit_145 (by decide) ?_
      cases hf
      exact rw_iret X dX9_beginVisit_149 hP
  have hf := ifn hf c44_2
  by_cases c44_3 : v41 = 3
  · have hf := ifp hf c44_3
    refine lv_tableIn (tgt := 150) hx hb dX9_beginVisit_44 (by rw [c44_3]; decide) (by rw [c44_3]; decide) (by rw [c44_3]; rfl) (by decide) ?_
    refine rw_aload_n X dX9_beginVisit_150 rfl (hl.at 0 rfl) ?_
    obtain ⟨v151, e151, hf⟩ := ob hf
    refine rw_getR X dX9_beginVisit_151 fl9_12 e151 rfl hP ?_
    refine rw_aload_n X dX9_beginVisit_154 rfl (hl.at 1 rfl) ?_
    obtain ⟨v155, e155, hf⟩ := ob hf
    refine rw_getR X dX9_beginVisit_155 fl9_120 e155 rfl hP ?_
    obtain ⟨u158, r158, hf⟩ := ob hf
    obtain ⟨S158, e158, hf⟩ := ob hf
    refine rw_callVv (As := [va_rf v155]) X dX9_beginVisit_158 clX9_98 pyX0_change (mX0_change l e158) (by decide) r158 rfl hP rfl (catL c1n (Nat.le_of_ble_eq_true rfl)) hl.1.1 (fun H locs hP => ?_)
    refine lv_iconst (v := 2) hx hb dX9_beginVisit_161 (by decide) ?_
    cases hf
    exact rw_iret X dX9_beginVisit_162 hP
  have hf := ifn hf c44_3
  by_cases c44_4 : v41 = 4
  · have hf := ifp hf c44_4
    refine lv_tableIn (tgt := 163) hx hb dX9_beginVisit_44 (by rw [c44_4]; decide) (by rw [c44_4]; decide) (by rw [c44_4]; rfl) (by decide) ?_
    refine rw_aload_n X dX9_beginVisit_163 rfl (hl.at 0 rfl) ?_
    refine rw_aload_n X dX9_beginVisit_164 rfl (hl.at 2 rfl) ?_
    obtain ⟨v165, e165, hf⟩ := ob hf
    refine rw_getR X dX9_beginVisit_165 fl9_127 e165 rfl hP ?_
    obtain ⟨u168, r168, hf⟩ := ob hf
    obtain ⟨q168, e168, hf⟩ := ob hf
    refine rw_callVi (As := [va_rf v165]) X dX9_beginVisit_168 clX9_130 pyX9_goDown (mX9_goDown l e168) (by decide) r168 rfl hP rfl (catL c1n (Nat.le_of_ble_eq_true rfl)) hl.1.1 (fun H locs hP => ?_)
    cases hf
    exact rw_iret X dX9_beginVisit_171 hP
  have hf := ifn hf c44_4
  by_cases c44_5 : v41 = 5
  · have hf := ifp hf c44_5
    refine lv_tableIn (tgt := 163) hx hb dX9_beginVisit_44 (by rw [c44_5]; decide) (by rw [c44_5]; decide) (by rw [c44_5]; rfl) (by decide) ?_
    refine rw_aload_n X dX9_beginVisit_163 rfl (hl.at 0 rfl) ?_
    refine rw_aload_n X dX9_beginVisit_164 rfl (hl.at 2 rfl) ?_
    obtain ⟨v165, e165, hf⟩ := ob hf
    refine rw_getR X dX9_beginVisit_165 fl9_127 e165 rfl hP ?_
    obtain ⟨u168, r168, hf⟩ := ob hf
    obtain ⟨q168, e168, hf⟩ := ob hf
    refine rw_callVi (As := [va_rf v165]) X dX9_beginVisit_168 clX9_130 pyX9_goDown (mX9_goDown l e168) (by decide) r168 rfl hP rfl (catL c1n (Nat.le_of_ble_eq_true rfl)) hl.1.1 (fun H locs hP => ?_)
    cases hf
    exact rw_iret X dX9_beginVisit_171 hP
  have hf := ifn hf c44_5
  by_cases c44_6 : v41 = 6
  · have hf := ifp hf c44_6
    refine lv_tableIn (tgt := 231) hx hb dX9_beginVisit_44 (by rw [c44_6]; decide) (by rw [c44_6]; decide) (by rw [c44_6]; rfl) (by decide) ?_
    refine rw_aload_n X dX9_beginVisit_231 rfl (hl.at 0 rfl) ?_
    refine rw_aload_n X dX9_beginVisit_232 rfl (hl.at 1 rfl) ?_
    obtain ⟨v233, e233, hf⟩ := ob hf
    refine rw_getR X dX9_beginVisit_233 fl9_133 e233 rfl hP ?_
    obtain ⟨u236, r236, hf⟩ := ob hf
    obtain ⟨q236, e236, hf⟩ := ob hf
    refine rw_callVi (As := [va_rf v233]) X dX9_beginVisit_236 clX9_130 pyX9_goDown (mX9_goDown l e236) (by decide) r236 rfl hP rfl (catL c1n (Nat.le_of_ble_eq_true rfl)) hl.1.1 (fun H locs hP => ?_)
    cases hf
    exact rw_iret X dX9_beginVisit_239 hP
  have hf := ifn hf c44_6
  by_cases c44_7 : v41 = 7
  · have hf := ifp hf c44_7
    refine lv_tableIn (tgt := 231) hx hb dX9_beginVisit_44 (by rw [c44_7]; decide) (by rw [c44_7]; decide) (by rw [c44_7]; rfl) (by decide) ?_
    refine rw_aload_n X dX9_beginVisit_231 rfl (hl.at 0 rfl) ?_
    refine rw_aload_n X dX9_beginVisit_232 rfl (hl.at 1 rfl) ?_
    obtain ⟨v233, e233, hf⟩ := ob hf
    refine rw_getR X dX9_beginVisit_233 fl9_133 e233 rfl hP ?_
    obtain ⟨u236, r236, hf⟩ := ob hf
    obtain ⟨q236, e236, hf⟩ := ob hf
    refine rw_callVi (As := [va_rf v233]) X dX9_beginVisit_236 clX9_130 pyX9_goDown (mX9_goDown l e236) (by decide) r236 rfl hP rfl (catL c1n (Nat.le_of_ble_eq_true rfl)) hl.1.1 (fun H locs hP => ?_)
    cases hf
    exact rw_iret X dX9_beginVisit_239 hP
  have hf := ifn hf c44_7
  by_cases c44_8 : v41 = 8
  · have hf := ifp hf c44_8
    refine lv_tableIn (tgt := 172) hx hb dX9_beginVisit_44 (by rw [c44_8]; decide) (by rw [c44_8]; decide) (by rw [c44_8]; rfl) (by decide) ?_
    refine rw_aload_n X dX9_beginVisit_172 rfl (hl.at 0 rfl) ?_
    refine rw_aload_n X dX9_beginVisit_173 rfl (hl.at 1 rfl) ?_
    refine rw_aload_n X dX9_beginVisit_174 rfl (hl.at 1 rfl) ?_
    obtain ⟨v175, e175, hf⟩ := ob hf
    refine rw_getR X dX9_beginVisit_175 fl9_133 e175 rfl hP ?_
    obtain ⟨u178, r178, hf⟩ := ob hf
    obtain ⟨q178, e178, hf⟩ := ob hf
    refine rw_callVi (As := [va_rf l1, va_rf v175]) X dX9_beginVisit_178 clX9_136 pyX9_goOnInParallel (mX9_goOnInParallel l e178) (by decide) r178 rfl hP rfl (catL c1n (Nat.le_of_ble_eq_true rfl)) hl.1.1 (fun H locs hP => ?_)
    cases hf
    exact rw_iret X dX9_beginVisit_181 hP
  have hf := ifn hf c44_8
  by_cases c44_9 : v41 = 9
  · have hf := ifp hf c44_9
    refine lv_tableIn (tgt := 231) hx hb dX9_beginVisit_44 (by rw [c44_9]; decide) (by rw [c44_9]; decide) (by rw [c44_9]; rfl) (by decide) ?_
    refine rw_aload_n X dX9_beginVisit_231 rfl (hl.at 0 rfl) ?_
    refine rw_aload_n X dX9_beginVisit_232 rfl (hl.at 1 rfl) ?_
    obtain ⟨v233, e233, hf⟩ := ob hf
    refine rw_getR X dX9_beginVisit_233 fl9_133 e233 rfl hP ?_
    obtain ⟨u236, r236, hf⟩ := ob hf
    obtain ⟨q236, e236, hf⟩ := ob hf
    refine rw_callVi (As := [va_rf v233]) X dX9_beginVisit_236 clX9_130 pyX9_goDown (mX9_goDown l e236) (by decide) r236 rfl hP rfl (catL c1n (Nat.le_of_ble_eq_true rfl)) hl.1.1 (fun H locs hP => ?_)
    cases hf
    exact rw_iret X dX9_beginVisit_239 hP
  have hf := ifn hf c44_9
  by_cases c44_10 : v41 = 10
  · have hf := ifp hf c44_10
    refine lv_tableIn (tgt := 231) hx hb dX9_beginVisit_44 (by rw [c44_10]; decide) (by rw [c44_10]; decide) (by rw [c44_10]; rfl) (by decide) ?_
    refine rw_aload_n X dX9_beginVisit_231 rfl (hl.at 0 rfl) ?_
    refine rw_aload_n X dX9_beginVisit_232 rfl (hl.at 1 rfl) ?_
    obtain ⟨v233, e233, hf⟩ := ob hf
    refine rw_getR X dX9_beginVisit_233 fl9_133 e233 rfl hP ?_
    obtain ⟨u236, r236, hf⟩ := ob hf
    obtain ⟨q236, e236, hf⟩ := ob hf
    refine rw_callVi (As := [va_rf v233]) X dX9_beginVisit_236 clX9_130 pyX9_goDown (mX9_goDown l e236) (by decide) r236 rfl hP rfl (catL c1n (Nat.le_of_ble_eq_true rfl)) hl.1.1 (fun H locs hP => ?_)
    cases hf
    exact rw_iret X dX9_beginVisit_239 hP
  have hf := ifn hf c44_10
  by_cases c44_11 : v41 = 11
  · have hf := ifp hf c44_11
    refine lv_tableIn (tgt := 231) hx hb dX9_beginVisit_44 (by rw [c44_11]; decide) (by rw [c44_11]; decide) (by rw [c44_11]; rfl) (by decide) ?_
    refine rw_aload_n X dX9_beginVisit_231 rfl (hl.at 0 rfl) ?_
    refine rw_aload_n X dX9_beginVisit_232 rfl (hl.at 1 rfl) ?_
    obtain ⟨v233, e233, hf⟩ := ob hf
    refine rw_getR X dX9_beginVisit_233 fl9_133 e233 rfl hP ?_
    obtain ⟨u236, r236, hf⟩ := ob hf
    obtain ⟨q236, e236, hf⟩ := ob hf
    refine rw_callVi (As := [va_rf v233]) X dX9_beginVisit_236 clX9_130 pyX9_goDown (mX9_goDown l e236) (by decide) r236 rfl hP rfl (catL c1n (Nat.le_of_ble_eq_true rfl)) hl.1.1 (fun H locs hP => ?_)
    cases hf
    exact rw_iret X dX9_beginVisit_239 hP
  have hf := ifn hf c44_11
  by_cases c44_12 : v41 = 12
  · have hf := ifp hf c44_12
    refine lv_tableIn (tgt := 182) hx hb dX9_beginVisit_44 (by rw [c44_12]; decide) (by rw [c44_12]; decide) (by rw [c44_12]; rfl) (by decide) ?_
    refine rw_aload_n X dX9_beginVisit_182 rfl (hl.at 0 rfl) ?_
    refine rw_aload_n X dX9_beginVisit_183 rfl (hl.at 0 rfl) ?_
    obtain ⟨v184, e184, hf⟩ := ob hf
    refine rw_getR X dX9_beginVisit_184 fl9_12 e184 rfl hP ?_
    refine rw_aload_n X dX9_beginVisit_187 rfl (hl.at 1 rfl) ?_
    obtain ⟨v188, e188, hf⟩ := ob hf
    refine rw_getR X dX9_beginVisit_188 fl9_120 e188 rfl hP ?_
    obtain ⟨u191, r191, hf⟩ := ob hf
    obtain ⟨v191, e191, hf⟩ := ob hf
    refine rw_callVi (As := [va_rf v188]) X dX9_beginVisit_191 clX9_123 pyX0_fulfils (mX0_fulfils l e191) (by decide) r191 rfl hP rfl (catL (c1c (cr _) c1n) (Nat.le_of_ble_eq_true rfl)) hl.1.1 (fun H locs hP => ?_)
    refine rw_aload_n X dX9_beginVisit_194 rfl (hl.at 1 rfl) ?_
    obtain ⟨u195, r195, hf⟩ := ob hf
    obtain ⟨q195, e195, hf⟩ := ob hf
    refine rw_callVi (As := [.int v191, va_rf l1]) X dX9_beginVisit_195 clX9_140 pyX9_goDownIf (mX9_goDownIf l e195) (by decide) r195 rfl hP rfl (catL c1n (Nat.le_of_ble_eq_true rfl)) hl.1.1 (fun H locs hP => ?_)
    cases hf
    exact rw_iret X dX9_beginVisit_198 hP
  have hf := ifn hf c44_12
  by_cases c44_13 : v41 = 13
  · have hf := ifp hf c44_13
    refine lv_tableIn (tgt := 199) hx hb dX9_beginVisit_44 (by rw [c44_13]; decide) (by rw [c44_13]; decide) (by rw [c44_13]; rfl) (by decide) ?_
    refine rw_aload_n X dX9_beginVisit_199 rfl (hl.at 2 rfl) ?_
    refine lv_dup hx hb dX9_beginVisit_200 (cr _) ?_
    obtain ⟨v201, e201, hf⟩ := ob hf
    refine rw_getI X dX9_beginVisit_201 fl9_144 e201 rfl hP ?_
    refine lv_iconst (v := 1) hx hb dX9_beginVisit_204 (by decide) ?_
    refine lv_iadd hx hb dX9_beginVisit_205 ?_
    obtain ⟨S206, e206, hf⟩ := ob hf
    refine rw_putI X dX9_beginVisit_206 fl9_144 fw3_1 e206 rfl hP (fun H locs hP => ?_)
    refine rw_aload_n X dX9_beginVisit_209 rfl (hl.at 0 rfl) ?_
    refine rw_aload_n X dX9_beginVisit_210 rfl (hl.at 2 rfl) ?_
    obtain ⟨v211, e211, hf⟩ := ob hf
    refine rw_getI X dX9_beginVisit_211 fl9_144 e211 rfl hP ?_
    refine rw_aload_n X dX9_beginVisit_214 rfl (hl.at 1 rfl) ?_
    obtain ⟨v215, e215, hf⟩ := ob hf
    refine rw_getI X dX9_beginVisit_215 fl9_147 e215 rfl hP ?_
    refine lv_icmp_gt hx hb (tgt := 225) dX9_beginVisit_218 (by decide) (fun c218 => ?_) (fun c218 => ?_)
    · have hf := ifp hf c218
      refine lv_iconst (v := 0) hx hb dX9_beginVisit_225 (by decide) ?_
      refine rw_aload_n X dX9_beginVisit_226 rfl (hl.at 1 rfl) ?_
      obtain ⟨u227, r227, hf⟩ := ob hf
      obtain ⟨q227, e227, hf⟩ := ob hf
      refine rw_callVi (As := [.int 0, va_rf l1]) X dX9_beginVisit_227 clX9_140 pyX9_goDownIf (mX9_goDownIf l e227) (by decide) r227 rfl hP rfl (catL c1n (Nat.le_of_ble_eq_true rfl)) hl.1.1 (fun H locs hP => ?_)
      cases hf
      exact rw_iret X dX9_beginVisit_230 hP
    · have hf := ifn hf c218
      refine lv_iconst (v := 1) hx hb dX9_beginVisit_221 (by decide) ?_
      refine lv_goto (tgt := 226) hx hb dX9_beginVisit_222 (by decide) ?_
      refine rw_aload_n X dX9_beginVisit_226 rfl (hl.at 1 rfl) ?_
      obtain ⟨u227, r227, hf⟩ := ob hf
      obtain ⟨q227, e227, hf⟩ := ob hf
      refine rw_callVi (As := [.int 1, va_rf l1]) X dX9_beginVisit_227 clX9_140 pyX9_goDownIf (mX9_goDownIf l e227) (by decide) r227 rfl hP rfl (catL c1n (Nat.le_of_ble_eq_true rfl)) hl.1.1 (fun H locs hP => ?_)
      cases hf
      exact rw_iret X dX9_beginVisit_230 hP
  have hf := ifn hf c44_13
  have t44_0 := tsw (k := 0) (v := 0) (by decide) c44_0
  have t44_1 := tsw (k := 1) (v := 1) (by decide) c44_1
  have t44_2 := tsw (k := 2) (v := 2) (by decide) c44_2
  have t44_3 := tsw (k := 3) (v := 3) (by decide) c44_3
  have t44_4 := tsw (k := 4) (v := 4) (by decide) c44_4
  have t44_5 := tsw (k := 5) (v := 5) (by decide) c44_5
  have t44_6 := tsw (k := 6) (v := 6) (by decide) c44_6
  have t44_7 := tsw (k := 7) (v := 7) (by decide) c44_7
  have t44_8 := tsw (k := 8) (v := 8) (by decide) c44_8
  have t44_9 := tsw (k := 9) (v := 9) (by decide) c44_9
  have t44_10 := tsw (k := 10) (v := 10) (by decide) c44_10
  have t44_11 := tsw (k := 11) (v := 11) (by decide) c44_11
  have t44_12 := tsw (k := 12) (v := 12) (by decide) c44_12
  have t44_13 := tsw (k := 13) (v := 13) (by decide) c44_13
  refine lv_tableOut (tgt := 231) hx hb dX9_beginVisit_44 (by omega) (by decide) ?_
  refine rw_aload_n X dX9_beginVisit_231 rfl (hl.at 0 rfl) ?_
  refine rw_aload_n X dX9_beginVisit_232 rfl (hl.at 1 rfl) ?_
  obtain ⟨v233, e233, hf⟩ := ob hf
  refine rw_getR X dX9_beginVisit_233 fl9_133 e233 rfl hP ?_
  obtain ⟨u236, r236, hf⟩ := ob hf
  obtain ⟨q236, e236, hf⟩ := ob hf
  refine rw_callVi (As := [va_rf v233]) X dX9_beginVisit_236 clX9_130 pyX9_goDown (mX9_goDown l e236) (by decide) r236 rfl hP rfl (catL c1n (Nat.le_of_ble_eq_true rfl)) hl.1.1 (fun H locs hP => ?_)
  cases hf
  exact rw_iret X dX9_beginVisit_239 hP
def fX9_beginVisit (Y : LY) (S : HS) (l0 : Option Nat) (l1 : Option Nat) : Option (HS × Int32) :=
  (gR Y 4 403 l1 S).bind fun v1 =>
  (gI Y 3 309 v1 S).bind fun v7 =>
  (pI Y 3 309 v1 (v7 + 1) S).bind fun S12 =>
  (gR Y 9 901 l0 S12).bind fun v16 =>
  (gI Y 2 204 v16 S12).bind fun v20 =>
  (pI Y 2 204 v16 (v20 + 1) S12).bind fun S25 =>
  (gI Y 3 300 v1 S25).bind fun v29 =>
  if v29 = 0 then
    (rcv Y 9 l0).bind fun _ =>
    (fX9_beginRun Y S25 l0 l1).bind fun S37 =>
    fX9_beginVisit_40 Y S37 l0 l1 v1
  else
    fX9_beginVisit_40 Y S25 l0 l1 v1
set_option maxRecDepth 100000 in
set_option maxHeartbeats 4000000 in
theorem mX9_beginVisit (l : Launch) {G : GG} {Y : LY} {S : HS} {l0 : Option Nat} {l1 : Option Nat} {res : HS × Int32} (hf : fX9_beginVisit Y S l0 l1 = some res) : MM l yX9_beginVisit cX9_beginVisit 3 (some .int) 5 123 G Y S [va_rf l0, va_rf l1] res.1 (some (.int res.2)) := by
  refine mm_of2 (plainFor_of_name (by decide +kernel)) (Nat.le_of_ble_eq_true rfl) (c1c (cr _) (c1c (cr _) c1n)) ?_
  intro p e R s m args below meth c X H locs ls hP hl
  have X : Cx p R s m args meth c RX9 cX9_beginVisit 3 5 123 (fun q => q ∈ Y.1) G (some .int) := X
  have hx := X.1.1
  have hb := X.1.2.1
  have hl : LV ls 3 [(0, va_rf l0), (1, va_rf l1)] := hl
  unfold fX9_beginVisit at hf
  refine rw_aload_n X dX9_beginVisit_0 rfl (hl.at 1 rfl) ?_
  obtain ⟨v1, e1, hf⟩ := ob hf
  refine rw_getR X dX9_beginVisit_1 fl9_60 e1 rfl hP ?_
  refine rv_astore_n X dX9_beginVisit_4 rfl hl (by decide) rfl (fun ls hl => ?_)
  have hl : LV ls 3 [(2, va_rf v1), (0, va_rf l0), (1, va_rf l1)] := hl
  refine rw_aload_n X dX9_beginVisit_5 rfl (hl.at 0 rfl) ?_
  refine lv_dup hx hb dX9_beginVisit_6 (cr _) ?_
  obtain ⟨v7, e7, hf⟩ := ob hf
  refine rw_getI X dX9_beginVisit_7 fl9_105 e7 rfl hP ?_
  refine lv_iconst (v := 1) hx hb dX9_beginVisit_10 (by decide) ?_
  refine lv_iadd hx hb dX9_beginVisit_11 ?_
  obtain ⟨S12, e12, hf⟩ := ob hf
  refine rw_putI X dX9_beginVisit_12 fl9_105 fw3_9 e12 rfl hP (fun H locs hP => ?_)
  refine rw_aload_n X dX9_beginVisit_15 rfl (hl.at 1 rfl) ?_
  obtain ⟨v16, e16, hf⟩ := ob hf
  refine rw_getR X dX9_beginVisit_16 fl9_21 e16 rfl hP ?_
  refine lv_dup hx hb dX9_beginVisit_19 (cr _) ?_
  obtain ⟨v20, e20, hf⟩ := ob hf
  refine rw_getI X dX9_beginVisit_20 fl9_108 e20 rfl hP ?_
  refine lv_iconst (v := 1) hx hb dX9_beginVisit_23 (by decide) ?_
  refine lv_iadd hx hb dX9_beginVisit_24 ?_
  obtain ⟨S25, e25, hf⟩ := ob hf
  refine rw_putI X dX9_beginVisit_25 fl9_108 fw2_4 e25 rfl hP (fun H locs hP => ?_)
  refine rw_aload_n X dX9_beginVisit_28 rfl (hl.at 0 rfl) ?_
  obtain ⟨v29, e29, hf⟩ := ob hf
  refine rw_getI X dX9_beginVisit_29 fl9_64 e29 rfl hP ?_
  refine lv_if_ne hx hb (tgt := 40) dX9_beginVisit_32 (by decide) (fun c32 => ?_) (fun c32 => ?_)
  · have hf := ifn hf c32
    exact wX9_beginVisit_40 X S25 l0 l1 v1 hf _ _ _ hP (hl.sub [1, 2, 0] rfl)
  · have hf := ifp hf c32
    refine rw_aload_n X dX9_beginVisit_35 rfl (hl.at 1 rfl) ?_
    refine rw_aload_n X dX9_beginVisit_36 rfl (hl.at 2 rfl) ?_
    obtain ⟨u37, r37, hf⟩ := ob hf
    obtain ⟨S37, e37, hf⟩ := ob hf
    refine rw_callVv (As := [va_rf l1]) X dX9_beginVisit_37 clX9_109 pyX9_beginRun (mX9_beginRun l e37) (by decide) r37 rfl hP rfl (catL c1n (Nat.le_of_ble_eq_true rfl)) hl.1.1 (fun H locs hP => ?_)
    exact wX9_beginVisit_40 X S37 l0 l1 v1 hf _ _ _ hP (hl.sub [1, 2, 0] rfl)
theorem dX9_endVisit_0 : decode cX9_endVisit 0 = .ok (.aload_n 1, 1) := by decide +kernel
theorem dX9_endVisit_1 : decode cX9_endVisit 1 = .ok (.getfield 60, 3) := by decide +kernel
theorem dX9_endVisit_4 : decode cX9_endVisit 4 = .ok (.iload_n 2, 1) := by decide +kernel
theorem dX9_endVisit_5 : decode cX9_endVisit 5 = .ok (.putfield 156, 3) := by decide +kernel
theorem dX9_endVisit_8 : decode cX9_endVisit 8 = .ok (.iload_n 2, 1) := by decide +kernel
theorem dX9_endVisit_9 : decode cX9_endVisit 9 = .ok (.iconst 1, 1) := by decide +kernel
theorem dX9_endVisit_10 : decode cX9_endVisit 10 = .ok (.if_icmp .ne 15, 3) := by decide +kernel
theorem dX9_endVisit_13 : decode cX9_endVisit 13 = .ok (.aload_n 0, 1) := by decide +kernel
theorem dX9_endVisit_14 : decode cX9_endVisit 14 = .ok (.getfield 21, 3) := by decide +kernel
theorem dX9_endVisit_17 : decode cX9_endVisit 17 = .ok (.aload_n 1, 1) := by decide +kernel
theorem dX9_endVisit_18 : decode cX9_endVisit 18 = .ok (.iload_n 2, 1) := by decide +kernel
theorem dX9_endVisit_19 : decode cX9_endVisit 19 = .ok (.invokevirtual 86, 3) := by decide +kernel
theorem dX9_endVisit_22 : decode cX9_endVisit 22 = .ok (.goto 9, 3) := by decide +kernel
theorem dX9_endVisit_25 : decode cX9_endVisit 25 = .ok (.aload_n 0, 1) := by decide +kernel
theorem dX9_endVisit_26 : decode cX9_endVisit 26 = .ok (.aload_n 1, 1) := by decide +kernel
theorem dX9_endVisit_27 : decode cX9_endVisit 27 = .ok (.iload_n 2, 1) := by decide +kernel
theorem dX9_endVisit_28 : decode cX9_endVisit 28 = .ok (.invokevirtual 70, 3) := by decide +kernel
theorem dX9_endVisit_31 : decode cX9_endVisit 31 = .ok (.return_, 1) := by decide +kernel
theorem pyX9_endVisit : PY yX9_endVisit 2 := ⟨by decide +kernel, by decide +kernel, by decide +kernel⟩
def fX9_endVisit (Y : LY) (S : HS) (l0 : Option Nat) (l1 : Option Nat) (l2 : Int32) : Option (HS) :=
  (gR Y 4 403 l1 S).bind fun v1 =>
  (pI Y 3 303 v1 l2 S).bind fun S5 =>
  if l2 = 1 then
    (gR Y 9 901 l0 S5).bind fun v14 =>
    (rcv Y 2 v14).bind fun _ =>
    (fX2_enter Y S5 v14 l1 l2).bind fun S19 =>
    some S19
  else
    (rcv Y 9 l0).bind fun _ =>
    (fX9_endRun Y S5 l0 l1 l2).bind fun S28 =>
    some S28
set_option maxRecDepth 100000 in
set_option maxHeartbeats 4000000 in
theorem mX9_endVisit (l : Launch) {G : GG} {Y : LY} {S : HS} {l0 : Option Nat} {l1 : Option Nat} {l2 : Int32} {res : HS} (hf : fX9_endVisit Y S l0 l1 l2 = some res) : MM l yX9_endVisit cX9_endVisit 3 none 3 75 G Y S [va_rf l0, va_rf l1, .int l2] res none := by
  refine mm_of2 (plainFor_of_name (by decide +kernel)) (Nat.le_of_ble_eq_true rfl) (c1c (cr _) (c1c (cr _) (c1c (ci _) c1n))) ?_
  intro p e R s m args below meth c X H locs ls hP hl
  have X : Cx p R s m args meth c RX9 cX9_endVisit 3 3 75 (fun q => q ∈ Y.1) G none := X
  have hx := X.1.1
  have hb := X.1.2.1
  have hl : LV ls 3 [(0, va_rf l0), (1, va_rf l1), (2, .int l2)] := hl
  unfold fX9_endVisit at hf
  refine rw_aload_n X dX9_endVisit_0 rfl (hl.at 1 rfl) ?_
  obtain ⟨v1, e1, hf⟩ := ob hf
  refine rw_getR X dX9_endVisit_1 fl9_60 e1 rfl hP ?_
  refine lv_iload_n hx hb dX9_endVisit_4 rfl (hl.at 2 rfl) ?_
  obtain ⟨S5, e5, hf⟩ := ob hf
  refine rw_putI X dX9_endVisit_5 fl9_156 fw3_3 e5 rfl hP (fun H locs hP => ?_)
  refine lv_iload_n hx hb dX9_endVisit_8 rfl (hl.at 2 rfl) ?_
  refine lv_iconst (v := 1) hx hb dX9_endVisit_9 (by decide) ?_
  refine lv_icmp_ne hx hb (tgt := 25) dX9_endVisit_10 (by decide) (fun c10 => ?_) (fun c10 => ?_)
  · have hf := ifn hf c10
    refine rw_aload_n X dX9_endVisit_25 rfl (hl.at 0 rfl) ?_
    refine rw_aload_n X dX9_endVisit_26 rfl (hl.at 1 rfl) ?_
    refine lv_iload_n hx hb dX9_endVisit_27 rfl (hl.at 2 rfl) ?_
    obtain ⟨u28, r28, hf⟩ := ob hf
    obtain ⟨S28, e28, hf⟩ := ob hf
    refine rw_callVv (As := [va_rf l1, .int l2]) X dX9_endVisit_28 clX9_70 pyX9_endRun (mX9_endRun l e28) (by decide) r28 rfl hP rfl (catL c1n (Nat.le_of_ble_eq_true rfl)) hl.1.1 (fun H locs hP => ?_)
    cases hf
    exact rw_vret X dX9_endVisit_31 hP
  · have hf := ifp hf c10
    refine rw_aload_n X dX9_endVisit_13 rfl (hl.at 0 rfl) ?_
    obtain ⟨v14, e14, hf⟩ := ob hf
    refine rw_getR X dX9_endVisit_14 fl9_21 e14 rfl hP ?_
    refine rw_aload_n X dX9_endVisit_17 rfl (hl.at 1 rfl) ?_
    refine lv_iload_n hx hb dX9_endVisit_18 rfl (hl.at 2 rfl) ?_
    obtain ⟨u19, r19, hf⟩ := ob hf
    obtain ⟨S19, e19, hf⟩ := ob hf
    refine rw_callVv (As := [va_rf l1, .int l2]) X dX9_endVisit_19 clX9_86 pyX2_enter (mX2_enter l e19) (by decide) r19 rfl hP rfl (catL c1n (Nat.le_of_ble_eq_true rfl)) hl.1.1 (fun H locs hP => ?_)
    refine lv_goto (tgt := 31) hx hb dX9_endVisit_22 (by decide) ?_
    cases hf
    exact rw_vret X dX9_endVisit_31 hP
theorem dX9_goOnInList_0 : decode cX9_goOnInList 0 = .ok (.aload_n 2, 1) := by decide +kernel
theorem dX9_goOnInList_1 : decode cX9_goOnInList 1 = .ok (.getfield 159, 3) := by decide +kernel
theorem dX9_goOnInList_4 : decode cX9_goOnInList 4 = .ok (.astore 5, 2) := by decide +kernel
theorem dX9_goOnInList_6 : decode cX9_goOnInList 6 = .ok (.iload_n 3, 1) := by decide +kernel
theorem dX9_goOnInList_7 : decode cX9_goOnInList 7 = .ok (.iload 4, 2) := by decide +kernel
theorem dX9_goOnInList_9 : decode cX9_goOnInList 9 = .ok (.if_icmp .ne 24, 3) := by decide +kernel
theorem dX9_goOnInList_12 : decode cX9_goOnInList 12 = .ok (.aload 5, 2) := by decide +kernel
theorem dX9_goOnInList_14 : decode cX9_goOnInList 14 = .ok (.ifnull 19, 3) := by decide +kernel
theorem dX9_goOnInList_17 : decode cX9_goOnInList 17 = .ok (.aload_n 1, 1) := by decide +kernel
theorem dX9_goOnInList_18 : decode cX9_goOnInList 18 = .ok (.getfield 60, 3) := by decide +kernel
theorem dX9_goOnInList_21 : decode cX9_goOnInList 21 = .ok (.aload 5, 2) := by decide +kernel
theorem dX9_goOnInList_23 : decode cX9_goOnInList 23 = .ok (.putfield 127, 3) := by decide +kernel
theorem dX9_goOnInList_26 : decode cX9_goOnInList 26 = .ok (.aload_n 0, 1) := by decide +kernel
theorem dX9_goOnInList_27 : decode cX9_goOnInList 27 = .ok (.aload 5, 2) := by decide +kernel
theorem dX9_goOnInList_29 : decode cX9_goOnInList 29 = .ok (.invokevirtual 130, 3) := by decide +kernel
theorem dX9_goOnInList_32 : decode cX9_goOnInList 32 = .ok (.ireturn, 1) := by decide +kernel
theorem dX9_goOnInList_33 : decode cX9_goOnInList 33 = .ok (.aload_n 1, 1) := by decide +kernel
theorem dX9_goOnInList_34 : decode cX9_goOnInList 34 = .ok (.invokevirtual 174, 3) := by decide +kernel
theorem dX9_goOnInList_37 : decode cX9_goOnInList 37 = .ok (.ifCond .eq 10, 3) := by decide +kernel
theorem dX9_goOnInList_40 : decode cX9_goOnInList 40 = .ok (.aload_n 0, 1) := by decide +kernel
theorem dX9_goOnInList_41 : decode cX9_goOnInList 41 = .ok (.aload_n 1, 1) := by decide +kernel
theorem dX9_goOnInList_42 : decode cX9_goOnInList 42 = .ok (.aload 5, 2) := by decide +kernel
theorem dX9_goOnInList_44 : decode cX9_goOnInList 44 = .ok (.invokevirtual 162, 3) := by decide +kernel
theorem dX9_goOnInList_47 : decode cX9_goOnInList 47 = .ok (.iload_n 3, 1) := by decide +kernel
theorem dX9_goOnInList_48 : decode cX9_goOnInList 48 = .ok (.ireturn, 1) := by decide +kernel
theorem pyX9_goOnInList : PY yX9_goOnInList 4 := ⟨by decide +kernel, by decide +kernel, by decide +kernel⟩
def fX9_goOnInList_33 (Y : LY) (S : HS) (l0 : Option Nat) (l1 : Option Nat) (l3 : Int32) (l5 : Option Nat) : Option (HS × Int32) :=
  (rcv Y 4 l1).bind fun _ =>
  (fX4_isReactive Y S l1 ).bind fun v34 =>
  if v34 = 0 then
    some (S, l3)
  else
    (rcv Y 9 l0).bind fun _ =>
    (fX9_stopBack Y S l0 l1 l5).bind fun S44 =>
    some (S44, l3)
set_option maxRecDepth 100000 in
set_option maxHeartbeats 4000000 in
theorem wX9_goOnInList_33 {p : Program} {l : Launch} {e : Env} {R : Room} {s : State} {m : MethodId} {args : Array Value} {below : List Frame} {meth : Method} {c : Code} {G : GG} {Y : LY} {res : HS × Int32} (X : Cx p R s m args meth c RX9 cX9_goOnInList 6 4 98 (fun q => q ∈ Y.1) G (some .int)) : ∀ (S : HS) (l0 : Option Nat) (l1 : Option Nat) (l3 : Int32) (l5 : Option Nat), fX9_goOnInList_33 Y S l0 l1 l3 l5 = some res → ∀ (H : Heap) (locs : List Loc) (ls : Array Slot), HP (fun q => q ∈ Y.1) G Y s S H locs → LV ls 6 [(0, va_rf l0), (1, va_rf l1), (3, .int l3), (5, va_rf l5)] → W p l e R s m args below meth c H locs 0 0 (MQ below (QI G Y res.1 (some (.int res.2))) args s 0 0 (fun q => q ∈ Y.1)) (F0 m 33 ls []) := by
  have hx := X.1.1
  have hb := X.1.2.1
  intro S l0 l1 l3 l5 hf H locs ls hP hl
  unfold fX9_goOnInList_33 at hf
  refine rw_aload_n X dX9_goOnInList_33 rfl (hl.at 1 rfl) ?_
  obtain ⟨u34, r34, hf⟩ := ob hf
  obtain ⟨v34, e34, hf⟩ := ob hf
  refine rw_callVi (As := []) X dX9_goOnInList_34 clX9_174 pyX4_isReactive (mX4_isReactive l e34) (by decide) r34 rfl hP rfl (catL c1n (Nat.le_of_ble_eq_true rfl)) hl.1.1 (fun H locs hP => ?_)
  refine lv_if_eq hx hb (tgt := 47) dX9_goOnInList_37 (by decide) (fun c37 => ?_) (fun c37 => ?_)
  · have hf := ifp hf c37
    refine lv_iload_n hx hb dX9_goOnInList_47 rfl (hl.at 2 rfl) ?_
    cases hf
    exact rw_iret X dX9_goOnInList_48 hP
  · have hf := ifn hf c37
    refine rw_aload_n X dX9_goOnInList_40 rfl (hl.at 0 rfl) ?_
    refine rw_aload_n X dX9_goOnInList_41 rfl (hl.at 1 rfl) ?_
    refine rw_aload X dX9_goOnInList_42 (hl.at 3 rfl) ?_
    obtain ⟨u44, r44, hf⟩ := ob hf
    obtain ⟨S44, e44, hf⟩ := ob hf
    refine rw_callVv (As := [va_rf l1, va_rf l5]) X dX9_goOnInList_44 clX9_162 pyX9_stopBack (mX9_stopBack l e44) (by decide) r44 rfl hP rfl (catL c1n (Nat.le_of_ble_eq_true rfl)) hl.1.1 (fun H locs hP => ?_)
    refine lv_iload_n hx hb dX9_goOnInList_47 rfl (hl.at 2 rfl) ?_
    cases hf
    exact rw_iret X dX9_goOnInList_48 hP
def fX9_goOnInList (Y : LY) (S : HS) (l0 : Option Nat) (l1 : Option Nat) (l2 : Option Nat) (l3 : Int32) (l4 : Int32) : Option (HS × Int32) :=
  (gR Y 4 412 l2 S).bind fun v1 =>
  if l3 = l4 then
    if v1 = none then
      fX9_goOnInList_33 Y S l0 l1 l3 v1
    else
      (gR Y 4 403 l1 S).bind fun v18 =>
      (pR Y 3 302 v18 v1 S).bind fun S23 =>
      (rcv Y 9 l0).bind fun _ =>
      (fX9_goDown Y S23 l0 v1).bind fun q29 =>
      some (q29.1, q29.2)
  else
    fX9_goOnInList_33 Y S l0 l1 l3 v1
set_option maxRecDepth 100000 in
set_option maxHeartbeats 4000000 in
theorem mX9_goOnInList (l : Launch) {G : GG} {Y : LY} {S : HS} {l0 : Option Nat} {l1 : Option Nat} {l2 : Option Nat} {l3 : Int32} {l4 : Int32} {res : HS × Int32} (hf : fX9_goOnInList Y S l0 l1 l2 l3 l4 = some res) : MM l yX9_goOnInList cX9_goOnInList 6 (some .int) 4 98 G Y S [va_rf l0, va_rf l1, va_rf l2, .int l3, .int l4] res.1 (some (.int res.2)) := by
  refine mm_of2 (plainFor_of_name (by decide +kernel)) (Nat.le_of_ble_eq_true rfl) (c1c (cr _) (c1c (cr _) (c1c (cr _) (c1c (ci _) (c1c (ci _) c1n))))) ?_
  intro p e R s m args below meth c X H locs ls hP hl
  have X : Cx p R s m args meth c RX9 cX9_goOnInList 6 4 98 (fun q => q ∈ Y.1) G (some .int) := X
  have hx := X.1.1
  have hb := X.1.2.1
  have hl : LV ls 6 [(0, va_rf l0), (1, va_rf l1), (2, va_rf l2), (3, .int l3), (4, .int l4)] := hl
  unfold fX9_goOnInList at hf
  refine rw_aload_n X dX9_goOnInList_0 rfl (hl.at 2 rfl) ?_
  obtain ⟨v1, e1, hf⟩ := ob hf
  refine rw_getR X dX9_goOnInList_1 fl9_159 e1 rfl hP ?_
  refine rv_astore X dX9_goOnInList_4 hl (by decide) rfl (fun ls hl => ?_)
  have hl : LV ls 6 [(5, va_rf v1), (0, va_rf l0), (1, va_rf l1), (2, va_rf l2), (3, .int l3), (4, .int l4)] := hl
  refine lv_iload_n hx hb dX9_goOnInList_6 rfl (hl.at 4 rfl) ?_
  refine lv_iload hx hb dX9_goOnInList_7 (hl.at 5 rfl) ?_
  refine lv_icmp_ne hx hb (tgt := 33) dX9_goOnInList_9 (by decide) (fun c9 => ?_) (fun c9 => ?_)
  · have hf := ifn hf c9
    exact wX9_goOnInList_33 X S l0 l1 l3 v1 hf _ _ _ hP (hl.sub [1, 2, 4, 0] rfl)
  · have hf := ifp hf c9
    refine rw_aload X dX9_goOnInList_12 (hl.at 0 rfl) ?_
    refine rw_ifnull X (tgt := 33) dX9_goOnInList_14 (by decide) (fun c14 => ?_) (fun c14 => ?_)
    · have hf := ifp hf c14
      exact wX9_goOnInList_33 X S l0 l1 l3 v1 hf _ _ _ hP (hl.sub [1, 2, 4, 0] rfl)
    · have hf := ifn hf c14
      refine rw_aload_n X dX9_goOnInList_17 rfl (hl.at 2 rfl) ?_
      obtain ⟨v18, e18, hf⟩ := ob hf
      refine rw_getR X dX9_goOnInList_18 fl9_60 e18 rfl hP ?_
      refine rw_aload X dX9_goOnInList_21 (hl.at 0 rfl) ?_
      obtain ⟨S23, e23, hf⟩ := ob hf
      refine rw_putR X dX9_goOnInList_23 fl9_127 fw3_2 e23 rfl hP (fun H locs hP => ?_)
      refine rw_aload_n X dX9_goOnInList_26 rfl (hl.at 1 rfl) ?_
      refine rw_aload X dX9_goOnInList_27 (hl.at 0 rfl) ?_
      obtain ⟨u29, r29, hf⟩ := ob hf
      obtain ⟨q29, e29, hf⟩ := ob hf
      refine rw_callVi (As := [va_rf v1]) X dX9_goOnInList_29 clX9_130 pyX9_goDown (mX9_goDown l e29) (by decide) r29 rfl hP rfl (catL c1n (Nat.le_of_ble_eq_true rfl)) hl.1.1 (fun H locs hP => ?_)
      cases hf
      exact rw_iret X dX9_goOnInList_32 hP
theorem dX9_countResult_0 : decode cX9_countResult 0 = .ok (.iload_n 2, 1) := by decide +kernel
theorem dX9_countResult_1 : decode cX9_countResult 1 = .ok (.iload_n 3, 1) := by decide +kernel
theorem dX9_countResult_2 : decode cX9_countResult 2 = .ok (.if_icmp .eq 5, 3) := by decide +kernel
theorem dX9_countResult_5 : decode cX9_countResult 5 = .ok (.iload_n 2, 1) := by decide +kernel
theorem dX9_countResult_6 : decode cX9_countResult 6 = .ok (.ireturn, 1) := by decide +kernel
theorem dX9_countResult_7 : decode cX9_countResult 7 = .ok (.aload_n 1, 1) := by decide +kernel
theorem dX9_countResult_8 : decode cX9_countResult 8 = .ok (.getfield 60, 3) := by decide +kernel
theorem dX9_countResult_11 : decode cX9_countResult 11 = .ok (.dup, 1) := by decide +kernel
theorem dX9_countResult_12 : decode cX9_countResult 12 = .ok (.getfield 144, 3) := by decide +kernel
theorem dX9_countResult_15 : decode cX9_countResult 15 = .ok (.iconst 1, 1) := by decide +kernel
theorem dX9_countResult_16 : decode cX9_countResult 16 = .ok (.iadd, 1) := by decide +kernel
theorem dX9_countResult_17 : decode cX9_countResult 17 = .ok (.putfield 144, 3) := by decide +kernel
theorem dX9_countResult_20 : decode cX9_countResult 20 = .ok (.aload_n 1, 1) := by decide +kernel
theorem dX9_countResult_21 : decode cX9_countResult 21 = .ok (.getfield 60, 3) := by decide +kernel
theorem dX9_countResult_24 : decode cX9_countResult 24 = .ok (.getfield 144, 3) := by decide +kernel
theorem dX9_countResult_27 : decode cX9_countResult 27 = .ok (.aload_n 1, 1) := by decide +kernel
theorem dX9_countResult_28 : decode cX9_countResult 28 = .ok (.getfield 147, 3) := by decide +kernel
theorem dX9_countResult_31 : decode cX9_countResult 31 = .ok (.if_icmp .ge 7, 3) := by decide +kernel
theorem dX9_countResult_34 : decode cX9_countResult 34 = .ok (.iconst 1, 1) := by decide +kernel
theorem dX9_countResult_35 : decode cX9_countResult 35 = .ok (.goto 4, 3) := by decide +kernel
theorem dX9_countResult_38 : decode cX9_countResult 38 = .ok (.iload_n 2, 1) := by decide +kernel
theorem dX9_countResult_39 : decode cX9_countResult 39 = .ok (.ireturn, 1) := by decide +kernel
theorem pyX9_countResult : PY yX9_countResult 3 := ⟨by decide +kernel, by decide +kernel, by decide +kernel⟩
def fX9_countResult (Y : LY) (S : HS) (l0 : Option Nat) (l1 : Option Nat) (l2 : Int32) (l3 : Int32) : Option (HS × Int32) :=
  if l2 = l3 then
    (gR Y 4 403 l1 S).bind fun v8 =>
    (gI Y 3 301 v8 S).bind fun v12 =>
    (pI Y 3 301 v8 (v12 + 1) S).bind fun S17 =>
    (gR Y 4 403 l1 S17).bind fun v21 =>
    (gI Y 3 301 v21 S17).bind fun v24 =>
    (gI Y 4 405 l1 S17).bind fun v28 =>
    if v28 ≤ v24 then
      some (S17, l2)
    else
      some (S17, 1)
  else
    some (S, l2)
set_option maxRecDepth 100000 in
set_option maxHeartbeats 4000000 in
theorem mX9_countResult (l : Launch) {G : GG} {Y : LY} {S : HS} {l0 : Option Nat} {l1 : Option Nat} {l2 : Int32} {l3 : Int32} {res : HS × Int32} (hf : fX9_countResult Y S l0 l1 l2 l3 = some res) : MM l yX9_countResult cX9_countResult 4 (some .int) 0 0 G Y S [va_rf l0, va_rf l1, .int l2, .int l3] res.1 (some (.int res.2)) := by
  refine mm_of2 (plainFor_of_name (by decide +kernel)) (Nat.le_of_ble_eq_true rfl) (c1c (cr _) (c1c (cr _) (c1c (ci _) (c1c (ci _) c1n)))) ?_
  intro p e R s m args below meth c X H locs ls hP hl
  have X : Cx p R s m args meth c RX9 cX9_countResult 4 0 0 (fun q => q ∈ Y.1) G (some .int) := X
  have hx := X.1.1
  have hb := X.1.2.1
  have hl : LV ls 4 [(0, va_rf l0), (1, va_rf l1), (2, .int l2), (3, .int l3)] := hl
  unfold fX9_countResult at hf
  refine lv_iload_n hx hb dX9_countResult_0 rfl (hl.at 2 rfl) ?_
  refine lv_iload_n hx hb dX9_countResult_1 rfl (hl.at 3 rfl) ?_
  refine lv_icmp_eq hx hb (tgt := 7) dX9_countResult_2 (by decide) (fun c2 => ?_) (fun c2 => ?_)
  · have hf := ifp hf c2
    refine rw_aload_n X dX9_countResult_7 rfl (hl.at 1 rfl) ?_
    obtain ⟨v8, e8, hf⟩ := ob hf
    refine rw_getR X dX9_countResult_8 fl9_60 e8 rfl hP ?_
    refine lv_dup hx hb dX9_countResult_11 (cr _) ?_
    obtain ⟨v12, e12, hf⟩ := ob hf
    refine rw_getI X dX9_countResult_12 fl9_144 e12 rfl hP ?_
    refine lv_iconst (v := 1) hx hb dX9_countResult_15 (by decide) ?_
    refine lv_iadd hx hb dX9_countResult_16 ?_
    obtain ⟨S17, e17, hf⟩ := ob hf
    refine rw_putI X dX9_countResult_17 fl9_144 fw3_1 e17 rfl hP (fun H locs hP => ?_)
    refine rw_aload_n X dX9_countResult_20 rfl (hl.at 1 rfl) ?_
    obtain ⟨v21, e21, hf⟩ := ob hf
    refine rw_getR X dX9_countResult_21 fl9_60 e21 rfl hP ?_
    obtain ⟨v24, e24, hf⟩ := ob hf
    refine rw_getI X dX9_countResult_24 fl9_144 e24 rfl hP ?_
    refine rw_aload_n X dX9_countResult_27 rfl (hl.at 1 rfl) ?_
    obtain ⟨v28, e28, hf⟩ := ob hf
    refine rw_getI X dX9_countResult_28 fl9_147 e28 rfl hP ?_
    refine lv_icmp_ge hx hb (tgt := 38) dX9_countResult_31 (by decide) (fun c31 => ?_) (fun c31 => ?_)
    · have hf := ifp hf c31
      refine lv_iload_n hx hb dX9_countResult_38 rfl (hl.at 2 rfl) ?_
      cases hf
      exact rw_iret X dX9_countResult_39 hP
    · have hf := ifn hf c31
      refine lv_iconst (v := 1) hx hb dX9_countResult_34 (by decide) ?_
      refine lv_goto (tgt := 39) hx hb dX9_countResult_35 (by decide) ?_
      cases hf
      exact rw_iret X dX9_countResult_39 hP
  · have hf := ifn hf c2
    refine lv_iload_n hx hb dX9_countResult_5 rfl (hl.at 2 rfl) ?_
    cases hf
    exact rw_iret X dX9_countResult_6 hP
theorem dX9_goOn_0 : decode cX9_goOn 0 = .ok (.aload_n 1, 1) := by decide +kernel
theorem dX9_goOn_1 : decode cX9_goOn 1 = .ok (.getfield 113, 3) := by decide +kernel
theorem dX9_goOn_4 : decode cX9_goOn 4 = .ok (.tableswitch 105 4 11 #[48, 57, 48, 57, 66, 76, 89, 97], 48) := by decide +kernel
theorem dX9_goOn_52 : decode cX9_goOn 52 = .ok (.aload_n 0, 1) := by decide +kernel
theorem dX9_goOn_53 : decode cX9_goOn 53 = .ok (.aload_n 1, 1) := by decide +kernel
theorem dX9_goOn_54 : decode cX9_goOn 54 = .ok (.aload_n 2, 1) := by decide +kernel
theorem dX9_goOn_55 : decode cX9_goOn 55 = .ok (.iload_n 3, 1) := by decide +kernel
theorem dX9_goOn_56 : decode cX9_goOn 56 = .ok (.iconst 2, 1) := by decide +kernel
theorem dX9_goOn_57 : decode cX9_goOn 57 = .ok (.invokevirtual 166, 3) := by decide +kernel
theorem dX9_goOn_60 : decode cX9_goOn 60 = .ok (.ireturn, 1) := by decide +kernel
theorem dX9_goOn_61 : decode cX9_goOn 61 = .ok (.aload_n 0, 1) := by decide +kernel
theorem dX9_goOn_62 : decode cX9_goOn 62 = .ok (.aload_n 1, 1) := by decide +kernel
theorem dX9_goOn_63 : decode cX9_goOn 63 = .ok (.aload_n 2, 1) := by decide +kernel
theorem dX9_goOn_64 : decode cX9_goOn 64 = .ok (.iload_n 3, 1) := by decide +kernel
theorem dX9_goOn_65 : decode cX9_goOn 65 = .ok (.iconst 3, 1) := by decide +kernel
theorem dX9_goOn_66 : decode cX9_goOn 66 = .ok (.invokevirtual 166, 3) := by decide +kernel
theorem dX9_goOn_69 : decode cX9_goOn 69 = .ok (.ireturn, 1) := by decide +kernel
theorem dX9_goOn_70 : decode cX9_goOn 70 = .ok (.aload_n 0, 1) := by decide +kernel
theorem dX9_goOn_71 : decode cX9_goOn 71 = .ok (.aload_n 1, 1) := by decide +kernel
theorem dX9_goOn_72 : decode cX9_goOn 72 = .ok (.aload_n 2, 1) := by decide +kernel
theorem dX9_goOn_73 : decode cX9_goOn 73 = .ok (.getfield 159, 3) := by decide +kernel
theorem dX9_goOn_76 : decode cX9_goOn 76 = .ok (.invokevirtual 136, 3) := by decide +kernel
theorem dX9_goOn_79 : decode cX9_goOn 79 = .ok (.ireturn, 1) := by decide +kernel
theorem dX9_goOn_80 : decode cX9_goOn 80 = .ok (.iload_n 3, 1) := by decide +kernel
theorem dX9_goOn_81 : decode cX9_goOn 81 = .ok (.iconst 1, 1) := by decide +kernel
theorem dX9_goOn_82 : decode cX9_goOn 82 = .ok (.if_icmp .ne 7, 3) := by decide +kernel
theorem dX9_goOn_85 : decode cX9_goOn 85 = .ok (.iconst 1, 1) := by decide +kernel
theorem dX9_goOn_86 : decode cX9_goOn 86 = .ok (.goto 6, 3) := by decide +kernel
theorem dX9_goOn_89 : decode cX9_goOn 89 = .ok (.iconst 5, 1) := by decide +kernel
theorem dX9_goOn_90 : decode cX9_goOn 90 = .ok (.iload_n 3, 1) := by decide +kernel
theorem dX9_goOn_91 : decode cX9_goOn 91 = .ok (.isub, 1) := by decide +kernel
theorem dX9_goOn_92 : decode cX9_goOn 92 = .ok (.ireturn, 1) := by decide +kernel
theorem dX9_goOn_93 : decode cX9_goOn 93 = .ok (.aload_n 0, 1) := by decide +kernel
theorem dX9_goOn_94 : decode cX9_goOn 94 = .ok (.aload_n 1, 1) := by decide +kernel
theorem dX9_goOn_95 : decode cX9_goOn 95 = .ok (.iload_n 3, 1) := by decide +kernel
theorem dX9_goOn_96 : decode cX9_goOn 96 = .ok (.iconst 2, 1) := by decide +kernel
theorem dX9_goOn_97 : decode cX9_goOn 97 = .ok (.invokevirtual 170, 3) := by decide +kernel
theorem dX9_goOn_100 : decode cX9_goOn 100 = .ok (.ireturn, 1) := by decide +kernel
theorem dX9_goOn_101 : decode cX9_goOn 101 = .ok (.aload_n 0, 1) := by decide +kernel
theorem dX9_goOn_102 : decode cX9_goOn 102 = .ok (.aload_n 1, 1) := by decide +kernel
theorem dX9_goOn_103 : decode cX9_goOn 103 = .ok (.iload_n 3, 1) := by decide +kernel
theorem dX9_goOn_104 : decode cX9_goOn 104 = .ok (.iconst 3, 1) := by decide +kernel
theorem dX9_goOn_105 : decode cX9_goOn 105 = .ok (.invokevirtual 170, 3) := by decide +kernel
theorem dX9_goOn_108 : decode cX9_goOn 108 = .ok (.ireturn, 1) := by decide +kernel
theorem dX9_goOn_109 : decode cX9_goOn 109 = .ok (.iload_n 3, 1) := by decide +kernel
theorem dX9_goOn_110 : decode cX9_goOn 110 = .ok (.ireturn, 1) := by decide +kernel
theorem pyX9_goOn : PY yX9_goOn 3 := ⟨by decide +kernel, by decide +kernel, by decide +kernel⟩
def fX9_goOn_52 (Y : LY) (S : HS) (l0 : Option Nat) (l1 : Option Nat) (l2 : Option Nat) (l3 : Int32) : Option (HS × Int32) :=
  (rcv Y 9 l0).bind fun _ =>
  (fX9_goOnInList Y S l0 l1 l2 l3 2).bind fun q57 =>
  some (q57.1, q57.2)
set_option maxRecDepth 100000 in
set_option maxHeartbeats 4000000 in
theorem wX9_goOn_52 {p : Program} {l : Launch} {e : Env} {R : Room} {s : State} {m : MethodId} {args : Array Value} {below : List Frame} {meth : Method} {c : Code} {G : GG} {Y : LY} {res : HS × Int32} (X : Cx p R s m args meth c RX9 cX9_goOn 4 5 123 (fun q => q ∈ Y.1) G (some .int)) : ∀ (S : HS) (l0 : Option Nat) (l1 : Option Nat) (l2 : Option Nat) (l3 : Int32), fX9_goOn_52 Y S l0 l1 l2 l3 = some res → ∀ (H : Heap) (locs : List Loc) (ls : Array Slot), HP (fun q => q ∈ Y.1) G Y s S H locs → LV ls 4 [(0, va_rf l0), (1, va_rf l1), (2, va_rf l2), (3, .int l3)] → W p l e R s m args below meth c H locs 0 0 (MQ below (QI G Y res.1 (some (.int res.2))) args s 0 0 (fun q => q ∈ Y.1)) (F0 m 52 ls []) := by
  have hx := X.1.1
  have hb := X.1.2.1
  intro S l0 l1 l2 l3 hf H locs ls hP hl
  unfold fX9_goOn_52 at hf
  refine rw_aload_n X dX9_goOn_52 rfl (hl.at 0 rfl) ?_
  refine rw_aload_n X dX9_goOn_53 rfl (hl.at 1 rfl) ?_
  refine rw_aload_n X dX9_goOn_54 rfl (hl.at 2 rfl) ?_
  refine lv_iload_n hx hb dX9_goOn_55 rfl (hl.at 3 rfl) ?_
  refine lv_iconst (v := 2) hx hb dX9_goOn_56 (by decide) ?_
  obtain ⟨u57, r57, hf⟩ := ob hf
  obtain ⟨q57, e57, hf⟩ := ob hf
  refine rw_callVi (As := [va_rf l1, va_rf l2, .int l3, .int 2]) X dX9_goOn_57 clX9_166 pyX9_goOnInList (mX9_goOnInList l e57) (by decide) r57 rfl hP rfl (catL c1n (Nat.le_of_ble_eq_true rfl)) hl.1.1 (fun H locs hP => ?_)
  cases hf
  exact rw_iret X dX9_goOn_60 hP
def fX9_goOn_61 (Y : LY) (S : HS) (l0 : Option Nat) (l1 : Option Nat) (l2 : Option Nat) (l3 : Int32) : Option (HS × Int32) :=
  (rcv Y 9 l0).bind fun _ =>
  (fX9_goOnInList Y S l0 l1 l2 l3 3).bind fun q66 =>
  some (q66.1, q66.2)
set_option maxRecDepth 100000 in
set_option maxHeartbeats 4000000 in
theorem wX9_goOn_61 {p : Program} {l : Launch} {e : Env} {R : Room} {s : State} {m : MethodId} {args : Array Value} {below : List Frame} {meth : Method} {c : Code} {G : GG} {Y : LY} {res : HS × Int32} (X : Cx p R s m args meth c RX9 cX9_goOn 4 5 123 (fun q => q ∈ Y.1) G (some .int)) : ∀ (S : HS) (l0 : Option Nat) (l1 : Option Nat) (l2 : Option Nat) (l3 : Int32), fX9_goOn_61 Y S l0 l1 l2 l3 = some res → ∀ (H : Heap) (locs : List Loc) (ls : Array Slot), HP (fun q => q ∈ Y.1) G Y s S H locs → LV ls 4 [(0, va_rf l0), (1, va_rf l1), (2, va_rf l2), (3, .int l3)] → W p l e R s m args below meth c H locs 0 0 (MQ below (QI G Y res.1 (some (.int res.2))) args s 0 0 (fun q => q ∈ Y.1)) (F0 m 61 ls []) := by
  have hx := X.1.1
  have hb := X.1.2.1
  intro S l0 l1 l2 l3 hf H locs ls hP hl
  unfold fX9_goOn_61 at hf
  refine rw_aload_n X dX9_goOn_61 rfl (hl.at 0 rfl) ?_
  refine rw_aload_n X dX9_goOn_62 rfl (hl.at 1 rfl) ?_
  refine rw_aload_n X dX9_goOn_63 rfl (hl.at 2 rfl) ?_
  refine lv_iload_n hx hb dX9_goOn_64 rfl (hl.at 3 rfl) ?_
  refine lv_iconst (v := 3) hx hb dX9_goOn_65 (by decide) ?_
  obtain ⟨u66, r66, hf⟩ := ob hf
  obtain ⟨q66, e66, hf⟩ := ob hf
  refine rw_callVi (As := [va_rf l1, va_rf l2, .int l3, .int 3]) X dX9_goOn_66 clX9_166 pyX9_goOnInList (mX9_goOnInList l e66) (by decide) r66 rfl hP rfl (catL c1n (Nat.le_of_ble_eq_true rfl)) hl.1.1 (fun H locs hP => ?_)
  cases hf
  exact rw_iret X dX9_goOn_69 hP
def fX9_goOn (Y : LY) (S : HS) (l0 : Option Nat) (l1 : Option Nat) (l2 : Option Nat) (l3 : Int32) : Option (HS × Int32) :=
  (gI Y 4 404 l1 S).bind fun v1 =>
  if v1 = 4 then
    fX9_goOn_52 Y S l0 l1 l2 l3
  else
  if v1 = 5 then
    fX9_goOn_61 Y S l0 l1 l2 l3
  else
  if v1 = 6 then
    fX9_goOn_52 Y S l0 l1 l2 l3
  else
  if v1 = 7 then
    fX9_goOn_61 Y S l0 l1 l2 l3
  else
  if v1 = 8 then
    (gR Y 4 412 l2 S).bind fun v73 =>
    (rcv Y 9 l0).bind fun _ =>
    (fX9_goOnInParallel Y S l0 l1 v73).bind fun q76 =>
    some (q76.1, q76.2)
  else
  if v1 = 9 then
    if l3 = 1 then
      some (S, 1)
    else
      some (S, (5 - l3))
  else
  if v1 = 10 then
    (rcv Y 9 l0).bind fun _ =>
    (fX9_countResult Y S l0 l1 l3 2).bind fun q97 =>
    some (q97.1, q97.2)
  else
  if v1 = 11 then
    (rcv Y 9 l0).bind fun _ =>
    (fX9_countResult Y S l0 l1 l3 3).bind fun q105 =>
    some (q105.1, q105.2)
  else
  some (S, l3)
set_option maxRecDepth 100000 in
set_option maxHeartbeats 4000000 in
theorem mX9_goOn (l : Launch) {G : GG} {Y : LY} {S : HS} {l0 : Option Nat} {l1 : Option Nat} {l2 : Option Nat} {l3 : Int32} {res : HS × Int32} (hf : fX9_goOn Y S l0 l1 l2 l3 = some res) : MM l yX9_goOn cX9_goOn 4 (some .int) 5 123 G Y S [va_rf l0, va_rf l1, va_rf l2, .int l3] res.1 (some (.int res.2)) := by
  refine mm_of2 (plainFor_of_name (by decide +kernel)) (Nat.le_of_ble_eq_true rfl) (c1c (cr _) (c1c (cr _) (c1c (cr _) (c1c (ci _) c1n)))) ?_
  intro p e R s m args below meth c X H locs ls hP hl
  have X : Cx p R s m args meth c RX9 cX9_goOn 4 5 123 (fun q => q ∈ Y.1) G (some .int) := X
  have hx := X.1.1
  have hb := X.1.2.1
  have hl : LV ls 4 [(0, va_rf l0), (1, va_rf l1), (2, va_rf l2), (3, .int l3)] := hl
  unfold fX9_goOn at hf
  refine rw_aload_n X dX9_goOn_0 rfl (hl.at 1 rfl) ?_
  obtain ⟨v1, e1, hf⟩ := ob hf
  refine rw_getI X dX9_goOn_1 fl9_113 e1 rfl hP ?_
  by_cases c4_0 : v1 = 4
  · have hf := ifp hf c4_0
    refine lv_tableIn (tgt := 52) hx hb dX9_goOn_4 (by rw [c4_0]; decide) (by rw [c4_0]; decide) (by rw [c4_0]; rfl) (by decide) ?_
    exact wX9_goOn_52 X S l0 l1 l2 l3 hf _ _ _ hP (hl.sub [0, 1, 2, 3] rfl)
  have hf := ifn hf c4_0
  by_cases c4_1 : v1 = 5
  · have hf := ifp hf c4_1
    refine lv_tableIn (tgt := 61) hx hb dX9_goOn_4 (by rw [c4_1]; decide) (by rw [c4_1]; decide) (by rw [c4_1]; rfl) (by decide) ?_
    exact wX9_goOn_61 X S l0 l1 l2 l3 hf _ _ _ hP (hl.sub [0, 1, 2, 3] rfl)
  have hf := ifn hf c4_1
  by_cases c4_2 : v1 = 6
  · have hf := ifp hf c4_2
    refine lv_tableIn (tgt := 52) hx hb dX9_goOn_4 (by rw [c4_2]; decide) (by rw [c4_2]; decide) (by rw [c4_2]; rfl) (by decide) ?_
    exact wX9_goOn_52 X S l0 l1 l2 l3 hf _ _ _ hP (hl.sub [0, 1, 2, 3] rfl)
  have hf := ifn hf c4_2
  by_cases c4_3 : v1 = 7
  · have hf := ifp hf c4_3
    refine lv_tableIn (tgt := 61) hx hb dX9_goOn_4 (by rw [c4_3]; decide) (by rw [c4_3]; decide) (by rw [c4_3]; rfl) (by decide) ?_
    exact wX9_goOn_61 X S l0 l1 l2 l3 hf _ _ _ hP (hl.sub [0, 1, 2, 3] rfl)
  have hf := ifn hf c4_3
  by_cases c4_4 : v1 = 8
  · have hf := ifp hf c4_4
    refine lv_tableIn (tgt := 70) hx hb dX9_goOn_4 (by rw [c4_4]; decide) (by rw [c4_4]; decide) (by rw [c4_4]; rfl) (by decide) ?_
    refine rw_aload_n X dX9_goOn_70 rfl (hl.at 0 rfl) ?_
    refine rw_aload_n X dX9_goOn_71 rfl (hl.at 1 rfl) ?_
    refine rw_aload_n X dX9_goOn_72 rfl (hl.at 2 rfl) ?_
    obtain ⟨v73, e73, hf⟩ := ob hf
    refine rw_getR X dX9_goOn_73 fl9_159 e73 rfl hP ?_
    obtain ⟨u76, r76, hf⟩ := ob hf
    obtain ⟨q76, e76, hf⟩ := ob hf
    refine rw_callVi (As := [va_rf l1, va_rf v73]) X dX9_goOn_76 clX9_136 pyX9_goOnInParallel (mX9_goOnInParallel l e76) (by decide) r76 rfl hP rfl (catL c1n (Nat.le_of_ble_eq_true rfl)) hl.1.1 (fun H locs hP => ?_)
    cases hf
    exact rw_iret X dX9_goOn_79 hP
  have hf := ifn hf c4_4
  by_cases c4_5 : v1 = 9
  · have hf := ifp hf c4_5
    refine lv_tableIn (tgt := 80) hx hb dX9_goOn_4 (by rw [c4_5]; decide) (by rw [c4_5]; decide) (by rw [c4_5]; rfl) (by decide) ?_
    refine lv_iload_n hx hb dX9_goOn_80 rfl (hl.at 3 rfl) ?_
    refine lv_iconst (v := 1) hx hb dX9_goOn_81 (by decide) ?_
    refine lv_icmp_ne hx hb (tgt := 89) dX9_goOn_82 (by decide) (fun c82 => ?_) (fun c82 => ?_)
    · have hf := ifn hf c82
      refine lv_iconst (v := 5) hx hb dX9_goOn_89 (by decide) ?_
      refine lv_iload_n hx hb dX9_goOn_90 rfl (hl.at 3 rfl) ?_
      refine lv_isub hx hb dX9_goOn_91 ?_
      cases hf
      exact rw_iret X dX9_goOn_92 hP
    · have hf := ifp hf c82
      refine lv_iconst (v := 1) hx hb dX9_goOn_85 (by decide) ?_
      refine lv_goto (tgt := 92) hx hb dX9_goOn_86 (by decide) ?_
      cases hf
      exact rw_iret X dX9_goOn_92 hP
  have hf := ifn hf c4_5
  by_cases c4_6 : v1 = 10
  · have hf := ifp hf c4_6
    refine lv_tableIn (tgt := 93) hx hb dX9_goOn_4 (by rw [c4_6]; decide) (by rw [c4_6]; decide) (by rw [c4_6]; rfl) (by decide) ?_
    refine rw_aload_n X dX9_goOn_93 rfl (hl.at 0 rfl) ?_
    refine rw_aload_n X dX9_goOn_94 rfl (hl.at 1 rfl) ?_
    refine lv_iload_n hx hb dX9_goOn_95 rfl (hl.at 3 rfl) ?_
    refine lv_iconst (v := 2) hx hb dX9_goOn_96 (by decide) ?_
    obtain ⟨u97, r97, hf⟩ := ob hf
    obtain ⟨q97, e97, hf⟩ := ob hf
    refine rw_callVi (As := [va_rf l1, .int l3, .int 2]) X dX9_goOn_97 clX9_170 pyX9_countResult (mX9_countResult l e97) (by decide) r97 rfl hP rfl (catL c1n (Nat.le_of_ble_eq_true rfl)) hl.1.1 (fun H locs hP => ?_)
    cases hf
    exact rw_iret X dX9_goOn_100 hP
  have hf := ifn hf c4_6
  by_cases c4_7 : v1 = 11
  · have hf := ifp hf c4_7
    refine lv_tableIn (tgt := 101) hx hb dX9_goOn_4 (by rw [c4_7]; decide) (by rw [c4_7]; decide) (by rw [c4_7]; rfl) (by decide) ?_
    refine rw_aload_n X dX9_goOn_101 rfl (hl.at 0 rfl) ?_
    refine rw_aload_n X dX9_goOn_102 rfl (hl.at 1 rfl) ?_
    refine lv_iload_n hx hb dX9_goOn_103 rfl (hl.at 3 rfl) ?_
    refine lv_iconst (v := 3) hx hb dX9_goOn_104 (by decide) ?_
    obtain ⟨u105, r105, hf⟩ := ob hf
    obtain ⟨q105, e105, hf⟩ := ob hf
    refine rw_callVi (As := [va_rf l1, .int l3, .int 3]) X dX9_goOn_105 clX9_170 pyX9_countResult (mX9_countResult l e105) (by decide) r105 rfl hP rfl (catL c1n (Nat.le_of_ble_eq_true rfl)) hl.1.1 (fun H locs hP => ?_)
    cases hf
    exact rw_iret X dX9_goOn_108 hP
  have hf := ifn hf c4_7
  have t4_0 := tsw (k := 4) (v := 4) (by decide) c4_0
  have t4_1 := tsw (k := 5) (v := 5) (by decide) c4_1
  have t4_2 := tsw (k := 6) (v := 6) (by decide) c4_2
  have t4_3 := tsw (k := 7) (v := 7) (by decide) c4_3
  have t4_4 := tsw (k := 8) (v := 8) (by decide) c4_4
  have t4_5 := tsw (k := 9) (v := 9) (by decide) c4_5
  have t4_6 := tsw (k := 10) (v := 10) (by decide) c4_6
  have t4_7 := tsw (k := 11) (v := 11) (by decide) c4_7
  refine lv_tableOut (tgt := 109) hx hb dX9_goOn_4 (by omega) (by decide) ?_
  refine lv_iload_n hx hb dX9_goOn_109 rfl (hl.at 3 rfl) ?_
  cases hf
  exact rw_iret X dX9_goOn_110 hP
theorem dX9_perform_0 : decode cX9_perform 0 = .ok (.aload_n 0, 1) := by decide +kernel
theorem dX9_perform_1 : decode cX9_perform 1 = .ok (.getfield 21, 3) := by decide +kernel
theorem dX9_perform_4 : decode cX9_perform 4 = .ok (.getfield 25, 3) := by decide +kernel
theorem dX9_perform_7 : decode cX9_perform 7 = .ok (.ifnonnull 7, 3) := by decide +kernel
theorem dX9_perform_10 : decode cX9_perform 10 = .ok (.aload_n 1, 1) := by decide +kernel
theorem dX9_perform_11 : decode cX9_perform 11 = .ok (.goto 10, 3) := by decide +kernel
theorem dX9_perform_14 : decode cX9_perform 14 = .ok (.aload_n 0, 1) := by decide +kernel
theorem dX9_perform_15 : decode cX9_perform 15 = .ok (.getfield 21, 3) := by decide +kernel
theorem dX9_perform_18 : decode cX9_perform 18 = .ok (.getfield 25, 3) := by decide +kernel
theorem dX9_perform_21 : decode cX9_perform 21 = .ok (.astore_n 3, 1) := by decide +kernel
theorem dX9_perform_22 : decode cX9_perform 22 = .ok (.iload_n 2, 1) := by decide +kernel
theorem dX9_perform_23 : decode cX9_perform 23 = .ok (.istore 4, 2) := by decide +kernel
theorem dX9_perform_25 : decode cX9_perform 25 = .ok (.iload 4, 2) := by decide +kernel
theorem dX9_perform_27 : decode cX9_perform 27 = .ok (.ifCond .le 118, 3) := by decide +kernel
theorem dX9_perform_30 : decode cX9_perform 30 = .ok (.aload_n 0, 1) := by decide +kernel
theorem dX9_perform_31 : decode cX9_perform 31 = .ok (.getfield 21, 3) := by decide +kernel
theorem dX9_perform_34 : decode cX9_perform 34 = .ok (.aconst_null, 1) := by decide +kernel
theorem dX9_perform_35 : decode cX9_perform 35 = .ok (.putfield 25, 3) := by decide +kernel
theorem dX9_perform_38 : decode cX9_perform 38 = .ok (.aload_n 0, 1) := by decide +kernel
theorem dX9_perform_39 : decode cX9_perform 39 = .ok (.aload_n 3, 1) := by decide +kernel
theorem dX9_perform_40 : decode cX9_perform 40 = .ok (.invokevirtual 29, 3) := by decide +kernel
theorem dX9_perform_43 : decode cX9_perform 43 = .ok (.istore 5, 2) := by decide +kernel
theorem dX9_perform_45 : decode cX9_perform 45 = .ok (.aload_n 3, 1) := by decide +kernel
theorem dX9_perform_46 : decode cX9_perform 46 = .ok (.astore 6, 2) := by decide +kernel
theorem dX9_perform_48 : decode cX9_perform 48 = .ok (.aload 6, 2) := by decide +kernel
theorem dX9_perform_50 : decode cX9_perform 50 = .ok (.ifnull 59, 3) := by decide +kernel
theorem dX9_perform_53 : decode cX9_perform 53 = .ok (.aload_n 0, 1) := by decide +kernel
theorem dX9_perform_54 : decode cX9_perform 54 = .ok (.getfield 21, 3) := by decide +kernel
theorem dX9_perform_57 : decode cX9_perform 57 = .ok (.getfield 25, 3) := by decide +kernel
theorem dX9_perform_60 : decode cX9_perform 60 = .ok (.ifnonnull 49, 3) := by decide +kernel
theorem dX9_perform_63 : decode cX9_perform 63 = .ok (.aload_n 0, 1) := by decide +kernel
theorem dX9_perform_64 : decode cX9_perform 64 = .ok (.aload 6, 2) := by decide +kernel
theorem dX9_perform_66 : decode cX9_perform 66 = .ok (.iload 5, 2) := by decide +kernel
theorem dX9_perform_68 : decode cX9_perform 68 = .ok (.invokevirtual 33, 3) := by decide +kernel
theorem dX9_perform_71 : decode cX9_perform 71 = .ok (.aload 6, 2) := by decide +kernel
theorem dX9_perform_73 : decode cX9_perform 73 = .ok (.getfield 37, 3) := by decide +kernel
theorem dX9_perform_76 : decode cX9_perform 76 = .ok (.ifnonnull 8, 3) := by decide +kernel
theorem dX9_perform_79 : decode cX9_perform 79 = .ok (.iload 5, 2) := by decide +kernel
theorem dX9_perform_81 : decode cX9_perform 81 = .ok (.goto 16, 3) := by decide +kernel
theorem dX9_perform_84 : decode cX9_perform 84 = .ok (.aload_n 0, 1) := by decide +kernel
theorem dX9_perform_85 : decode cX9_perform 85 = .ok (.aload 6, 2) := by decide +kernel
theorem dX9_perform_87 : decode cX9_perform 87 = .ok (.getfield 37, 3) := by decide +kernel
theorem dX9_perform_90 : decode cX9_perform 90 = .ok (.aload 6, 2) := by decide +kernel
theorem dX9_perform_92 : decode cX9_perform 92 = .ok (.iload 5, 2) := by decide +kernel
theorem dX9_perform_94 : decode cX9_perform 94 = .ok (.invokevirtual 42, 3) := by decide +kernel
theorem dX9_perform_97 : decode cX9_perform 97 = .ok (.istore 5, 2) := by decide +kernel
theorem dX9_perform_99 : decode cX9_perform 99 = .ok (.aload 6, 2) := by decide +kernel
theorem dX9_perform_101 : decode cX9_perform 101 = .ok (.getfield 37, 3) := by decide +kernel
theorem dX9_perform_104 : decode cX9_perform 104 = .ok (.astore 6, 2) := by decide +kernel
theorem dX9_perform_106 : decode cX9_perform 106 = .ok (.goto (-58), 3) := by decide +kernel
theorem dX9_perform_109 : decode cX9_perform 109 = .ok (.aload_n 0, 1) := by decide +kernel
theorem dX9_perform_110 : decode cX9_perform 110 = .ok (.getfield 21, 3) := by decide +kernel
theorem dX9_perform_113 : decode cX9_perform 113 = .ok (.getfield 25, 3) := by decide +kernel
theorem dX9_perform_116 : decode cX9_perform 116 = .ok (.ifnonnull 15, 3) := by decide +kernel
theorem dX9_perform_119 : decode cX9_perform 119 = .ok (.aload_n 0, 1) := by decide +kernel
theorem dX9_perform_120 : decode cX9_perform 120 = .ok (.getfield 21, 3) := by decide +kernel
theorem dX9_perform_123 : decode cX9_perform 123 = .ok (.iload 5, 2) := by decide +kernel
theorem dX9_perform_125 : decode cX9_perform 125 = .ok (.invokevirtual 46, 3) := by decide +kernel
theorem dX9_perform_128 : decode cX9_perform 128 = .ok (.iload 5, 2) := by decide +kernel
theorem dX9_perform_130 : decode cX9_perform 130 = .ok (.ireturn, 1) := by decide +kernel
theorem dX9_perform_131 : decode cX9_perform 131 = .ok (.aload_n 0, 1) := by decide +kernel
theorem dX9_perform_132 : decode cX9_perform 132 = .ok (.getfield 21, 3) := by decide +kernel
theorem dX9_perform_135 : decode cX9_perform 135 = .ok (.getfield 25, 3) := by decide +kernel
theorem dX9_perform_138 : decode cX9_perform 138 = .ok (.astore_n 3, 1) := by decide +kernel
theorem dX9_perform_139 : decode cX9_perform 139 = .ok (.iinc 4 (-1), 3) := by decide +kernel
theorem dX9_perform_142 : decode cX9_perform 142 = .ok (.goto (-117), 3) := by decide +kernel
theorem dX9_perform_145 : decode cX9_perform 145 = .ok (.aload_n 0, 1) := by decide +kernel
theorem dX9_perform_146 : decode cX9_perform 146 = .ok (.getfield 21, 3) := by decide +kernel
theorem dX9_perform_149 : decode cX9_perform 149 = .ok (.dup, 1) := by decide +kernel
theorem dX9_perform_150 : decode cX9_perform 150 = .ok (.getfield 50, 3) := by decide +kernel
theorem dX9_perform_153 : decode cX9_perform 153 = .ok (.iconst 1, 1) := by decide +kernel
theorem dX9_perform_154 : decode cX9_perform 154 = .ok (.iadd, 1) := by decide +kernel
theorem dX9_perform_155 : decode cX9_perform 155 = .ok (.putfield 50, 3) := by decide +kernel
theorem dX9_perform_158 : decode cX9_perform 158 = .ok (.iconst 5, 1) := by decide +kernel
theorem dX9_perform_159 : decode cX9_perform 159 = .ok (.ireturn, 1) := by decide +kernel
theorem pyX9_perform : PY yX9_perform 2 := ⟨by decide +kernel, by decide +kernel, by decide +kernel⟩
def fX9_perform_109 (k25 : HS → Option Nat → Option Nat → Int32 → Option (HS × Int32)) (Y : LY) (S : HS) (l0 : Option Nat) (l4 : Int32) (l5 : Int32) : Option (HS × Int32) :=
  (gR Y 9 901 l0 S).bind fun v110 =>
  (gR Y 2 200 v110 S).bind fun v113 =>
  if v113 = none then
    (gR Y 9 901 l0 S).bind fun v120 =>
    (rcv Y 2 v120).bind fun _ =>
    (fX2_endTick Y S v120 l5).bind fun S125 =>
    some (S125, l5)
  else
    (gR Y 9 901 l0 S).bind fun v132 =>
    (gR Y 2 200 v132 S).bind fun v135 =>
    k25 S l0 v135 (l4 + (-1))
set_option maxRecDepth 100000 in
set_option maxHeartbeats 4000000 in
theorem wX9_perform_109 {p : Program} {l : Launch} {e : Env} {R : Room} {s : State} {m : MethodId} {args : Array Value} {below : List Frame} {meth : Method} {c : Code} {G : GG} {Y : LY} {res : HS × Int32} (X : Cx p R s m args meth c RX9 cX9_perform 7 6 146 (fun q => q ∈ Y.1) G (some .int)) {k25 : HS → Option Nat → Option Nat → Int32 → Option (HS × Int32)} (hk25 : ∀ (S : HS) (l0 : Option Nat) (l3 : Option Nat) (l4 : Int32), k25 S l0 l3 l4 = some res → ∀ (H : Heap) (locs : List Loc) (ls : Array Slot), HP (fun q => q ∈ Y.1) G Y s S H locs → LV ls 7 [(0, va_rf l0), (3, va_rf l3), (4, .int l4)] → W p l e R s m args below meth c H locs 0 0 (MQ below (QI G Y res.1 (some (.int res.2))) args s 0 0 (fun q => q ∈ Y.1)) (F0 m 25 ls [])) : ∀ (S : HS) (l0 : Option Nat) (l4 : Int32) (l5 : Int32), fX9_perform_109 k25 Y S l0 l4 l5 = some res → ∀ (H : Heap) (locs : List Loc) (ls : Array Slot), HP (fun q => q ∈ Y.1) G Y s S H locs → LV ls 7 [(0, va_rf l0), (4, .int l4), (5, .int l5)] → W p l e R s m args below meth c H locs 0 0 (MQ below (QI G Y res.1 (some (.int res.2))) args s 0 0 (fun q => q ∈ Y.1)) (F0 m 109 ls []) := by
  have hx := X.1.1
  have hb := X.1.2.1
  intro S l0 l4 l5 hf H locs ls hP hl
  unfold fX9_perform_109 at hf
  refine rw_aload_n X dX9_perform_109 rfl (hl.at 0 rfl) ?_
  obtain ⟨v110, e110, hf⟩ := ob hf
  refine rw_getR X dX9_perform_110 fl9_21 e110 rfl hP ?_
  obtain ⟨v113, e113, hf⟩ := ob hf
  refine rw_getR X dX9_perform_113 fl9_25 e113 rfl hP ?_
  refine rw_ifnonnull X (tgt := 131) dX9_perform_116 (by decide) (fun c116 => ?_) (fun c116 => ?_)
  · have hf := ifn hf c116
    refine rw_aload_n X dX9_perform_131 rfl (hl.at 0 rfl) ?_
    obtain ⟨v132, e132, hf⟩ := ob hf
    refine rw_getR X dX9_perform_132 fl9_21 e132 rfl hP ?_
    obtain ⟨v135, e135, hf⟩ := ob hf
    refine rw_getR X dX9_perform_135 fl9_25 e135 rfl hP ?_
    refine rv_astore_n X dX9_perform_138 rfl hl (by decide) rfl (fun ls hl => ?_)
    have hl : LV ls 7 [(3, va_rf v135), (0, va_rf l0), (4, .int l4), (5, .int l5)] := hl
    refine rv_iinc (k := 2) (d := (-1)) X dX9_perform_139 hl rfl (by decide) (by decide) rfl (fun ls hl => ?_)
    have hl : LV ls 7 [(4, .int (l4 + (-1))), (3, va_rf v135), (0, va_rf l0), (5, .int l5)] := hl
    refine lv_goto (tgt := 25) hx hb dX9_perform_142 (by decide) ?_
    exact hk25 S l0 v135 (l4 + (-1)) hf _ _ _ hP (hl.sub [2, 1, 0] rfl)
  · have hf := ifp hf c116
    refine rw_aload_n X dX9_perform_119 rfl (hl.at 0 rfl) ?_
    obtain ⟨v120, e120, hf⟩ := ob hf
    refine rw_getR X dX9_perform_120 fl9_21 e120 rfl hP ?_
    refine lv_iload hx hb dX9_perform_123 (hl.at 2 rfl) ?_
    obtain ⟨u125, r125, hf⟩ := ob hf
    obtain ⟨S125, e125, hf⟩ := ob hf
    refine rw_callVv (As := [.int l5]) X dX9_perform_125 clX9_46 pyX2_endTick (mX2_endTick l e125) (by decide) r125 rfl hP rfl (catL c1n (Nat.le_of_ble_eq_true rfl)) hl.1.1 (fun H locs hP => ?_)
    refine lv_iload hx hb dX9_perform_128 (hl.at 2 rfl) ?_
    cases hf
    exact rw_iret X dX9_perform_130 hP
def fX9_perform_48 (k25 : HS → Option Nat → Option Nat → Int32 → Option (HS × Int32)) (Y : LY) : Nat → HS → Option Nat → Int32 → Int32 → Option Nat → Option (HS × Int32)
  | 0, _, _, _, _, _ => none
  | n + 1, S, l0, l4, l5, l6 =>
    if l6 = none then
      fX9_perform_109 k25 Y S l0 l4 l5
    else
      (gR Y 9 901 l0 S).bind fun v54 =>
      (gR Y 2 200 v54 S).bind fun v57 =>
      if v57 = none then
        (rcv Y 9 l0).bind fun _ =>
        (fX9_endVisit Y S l0 l6 l5).bind fun S68 =>
        (gR Y 4 409 l6 S68).bind fun v73 =>
        if v73 = none then
          (gR Y 4 409 l6 S68).bind fun v101 =>
          fX9_perform_48 k25 Y n S68 l0 l4 l5 v101
        else
          (gR Y 4 409 l6 S68).bind fun v87 =>
          (rcv Y 9 l0).bind fun _ =>
          (fX9_goOn Y S68 l0 v87 l6 l5).bind fun q94 =>
          (gR Y 4 409 l6 q94.1).bind fun v101 =>
          fX9_perform_48 k25 Y n q94.1 l0 l4 q94.2 v101
      else
        fX9_perform_109 k25 Y S l0 l4 l5
set_option maxRecDepth 100000 in
set_option maxHeartbeats 4000000 in
theorem wX9_perform_48 {p : Program} {l : Launch} {e : Env} {R : Room} {s : State} {m : MethodId} {args : Array Value} {below : List Frame} {meth : Method} {c : Code} {G : GG} {Y : LY} {res : HS × Int32} (X : Cx p R s m args meth c RX9 cX9_perform 7 6 146 (fun q => q ∈ Y.1) G (some .int)) {k25 : HS → Option Nat → Option Nat → Int32 → Option (HS × Int32)} (hk25 : ∀ (S : HS) (l0 : Option Nat) (l3 : Option Nat) (l4 : Int32), k25 S l0 l3 l4 = some res → ∀ (H : Heap) (locs : List Loc) (ls : Array Slot), HP (fun q => q ∈ Y.1) G Y s S H locs → LV ls 7 [(0, va_rf l0), (3, va_rf l3), (4, .int l4)] → W p l e R s m args below meth c H locs 0 0 (MQ below (QI G Y res.1 (some (.int res.2))) args s 0 0 (fun q => q ∈ Y.1)) (F0 m 25 ls [])) : ∀ (n : Nat) (S : HS) (l0 : Option Nat) (l4 : Int32) (l5 : Int32) (l6 : Option Nat), fX9_perform_48 k25 Y n S l0 l4 l5 l6 = some res → ∀ (H : Heap) (locs : List Loc) (ls : Array Slot), HP (fun q => q ∈ Y.1) G Y s S H locs → LV ls 7 [(0, va_rf l0), (4, .int l4), (5, .int l5), (6, va_rf l6)] → W p l e R s m args below meth c H locs 0 0 (MQ below (QI G Y res.1 (some (.int res.2))) args s 0 0 (fun q => q ∈ Y.1)) (F0 m 48 ls []) := by
  have hx := X.1.1
  have hb := X.1.2.1
  intro n
  induction n with
  | zero =>
    intro S l0 l4 l5 l6 hf
    cases hf
  | succ n ih =>
    intro S l0 l4 l5 l6 hf H locs ls hP hl
    rw [fX9_perform_48] at hf
    refine rw_aload X dX9_perform_48 (hl.at 3 rfl) ?_
    refine rw_ifnull X (tgt := 109) dX9_perform_50 (by decide) (fun c50 => ?_) (fun c50 => ?_)
    · have hf := ifp hf c50
      exact wX9_perform_109 X hk25 S l0 l4 l5 hf _ _ _ hP (hl.sub [0, 1, 2] rfl)
    · have hf := ifn hf c50
      refine rw_aload_n X dX9_perform_53 rfl (hl.at 0 rfl) ?_
      obtain ⟨v54, e54, hf⟩ := ob hf
      refine rw_getR X dX9_perform_54 fl9_21 e54 rfl hP ?_
      obtain ⟨v57, e57, hf⟩ := ob hf
      refine rw_getR X dX9_perform_57 fl9_25 e57 rfl hP ?_
      refine rw_ifnonnull X (tgt := 109) dX9_perform_60 (by decide) (fun c60 => ?_) (fun c60 => ?_)
      · have hf := ifn hf c60
        exact wX9_perform_109 X hk25 S l0 l4 l5 hf _ _ _ hP (hl.sub [0, 1, 2] rfl)
      · have hf := ifp hf c60
        refine rw_aload_n X dX9_perform_63 rfl (hl.at 0 rfl) ?_
        refine rw_aload X dX9_perform_64 (hl.at 3 rfl) ?_
        refine lv_iload hx hb dX9_perform_66 (hl.at 2 rfl) ?_
        obtain ⟨u68, r68, hf⟩ := ob hf
        obtain ⟨S68, e68, hf⟩ := ob hf
        refine rw_callVv (As := [va_rf l6, .int l5]) X dX9_perform_68 clX9_33 pyX9_endVisit (mX9_endVisit l e68) (by decide) r68 rfl hP rfl (catL c1n (Nat.le_of_ble_eq_true rfl)) hl.1.1 (fun H locs hP => ?_)
        refine rw_aload X dX9_perform_71 (hl.at 3 rfl) ?_
        obtain ⟨v73, e73, hf⟩ := ob hf
        refine rw_getR X dX9_perform_73 fl9_37 e73 rfl hP ?_
        refine rw_ifnonnull X (tgt := 84) dX9_perform_76 (by decide) (fun c76 => ?_) (fun c76 => ?_)
        · have hf := ifn hf c76
          refine rw_aload_n X dX9_perform_84 rfl (hl.at 0 rfl) ?_
          refine rw_aload X dX9_perform_85 (hl.at 3 rfl) ?_
          obtain ⟨v87, e87, hf⟩ := ob hf
          refine rw_getR X dX9_perform_87 fl9_37 e87 rfl hP ?_
          refine rw_aload X dX9_perform_90 (hl.at 3 rfl) ?_
          refine lv_iload hx hb dX9_perform_92 (hl.at 2 rfl) ?_
          obtain ⟨u94, r94, hf⟩ := ob hf
          obtain ⟨q94, e94, hf⟩ := ob hf
          refine rw_callVi (As := [va_rf v87, va_rf l6, .int l5]) X dX9_perform_94 clX9_42 pyX9_goOn (mX9_goOn l e94) (by decide) r94 rfl hP rfl (catL c1n (Nat.le_of_ble_eq_true rfl)) hl.1.1 (fun H locs hP => ?_)
          refine rv_istore X dX9_perform_97 hl (by decide) rfl (fun ls hl => ?_)
          have hl : LV ls 7 [(5, .int q94.2), (0, va_rf l0), (4, .int l4), (6, va_rf l6)] := hl
          refine rw_aload X dX9_perform_99 (hl.at 3 rfl) ?_
          obtain ⟨v101, e101, hf⟩ := ob hf
          refine rw_getR X dX9_perform_101 fl9_37 e101 rfl hP ?_
          refine rv_astore X dX9_perform_104 hl (by decide) rfl (fun ls hl => ?_)
          have hl : LV ls 7 [(6, va_rf v101), (5, .int q94.2), (0, va_rf l0), (4, .int l4)] := hl
          refine lv_goto (tgt := 48) hx hb dX9_perform_106 (by decide) ?_
          exact ih q94.1 l0 l4 q94.2 v101 hf _ _ _ hP (hl.sub [2, 3, 1, 0] rfl)
        · have hf := ifp hf c76
          refine lv_iload hx hb dX9_perform_79 (hl.at 2 rfl) ?_
          refine lv_goto (tgt := 97) hx hb dX9_perform_81 (by decide) ?_
          refine rv_istore X dX9_perform_97 hl (by decide) rfl (fun ls hl => ?_)
          have hl : LV ls 7 [(5, .int l5), (0, va_rf l0), (4, .int l4), (6, va_rf l6)] := hl
          refine rw_aload X dX9_perform_99 (hl.at 3 rfl) ?_
          obtain ⟨v101, e101, hf⟩ := ob hf
          refine rw_getR X dX9_perform_101 fl9_37 e101 rfl hP ?_
          refine rv_astore X dX9_perform_104 hl (by decide) rfl (fun ls hl => ?_)
          have hl : LV ls 7 [(6, va_rf v101), (5, .int l5), (0, va_rf l0), (4, .int l4)] := hl
          refine lv_goto (tgt := 48) hx hb dX9_perform_106 (by decide) ?_
          exact ih S68 l0 l4 l5 v101 hf _ _ _ hP (hl.sub [2, 3, 1, 0] rfl)
def fX9_perform_25 (Y : LY) : Nat → HS → Option Nat → Option Nat → Int32 → Option (HS × Int32)
  | 0, _, _, _, _ => none
  | n + 1, S, l0, l3, l4 =>
    if l4 ≤ 0 then
      (gR Y 9 901 l0 S).bind fun v146 =>
      (gI Y 2 207 v146 S).bind fun v150 =>
      (pI Y 2 207 v146 (v150 + 1) S).bind fun S155 =>
      some (S155, 5)
    else
      (gR Y 9 901 l0 S).bind fun v31 =>
      (pR Y 2 200 v31 none S).bind fun S35 =>
      (rcv Y 9 l0).bind fun _ =>
      (fX9_beginVisit Y S35 l0 l3).bind fun q40 =>
      fX9_perform_48 (fX9_perform_25 Y n) Y FU q40.1 l0 l4 q40.2 l3
set_option maxRecDepth 100000 in
set_option maxHeartbeats 4000000 in
theorem wX9_perform_25 {p : Program} {l : Launch} {e : Env} {R : Room} {s : State} {m : MethodId} {args : Array Value} {below : List Frame} {meth : Method} {c : Code} {G : GG} {Y : LY} {res : HS × Int32} (X : Cx p R s m args meth c RX9 cX9_perform 7 6 146 (fun q => q ∈ Y.1) G (some .int)) : ∀ (n : Nat) (S : HS) (l0 : Option Nat) (l3 : Option Nat) (l4 : Int32), fX9_perform_25 Y n S l0 l3 l4 = some res → ∀ (H : Heap) (locs : List Loc) (ls : Array Slot), HP (fun q => q ∈ Y.1) G Y s S H locs → LV ls 7 [(0, va_rf l0), (3, va_rf l3), (4, .int l4)] → W p l e R s m args below meth c H locs 0 0 (MQ below (QI G Y res.1 (some (.int res.2))) args s 0 0 (fun q => q ∈ Y.1)) (F0 m 25 ls []) := by
  have hx := X.1.1
  have hb := X.1.2.1
  intro n
  induction n with
  | zero =>
    intro S l0 l3 l4 hf
    cases hf
  | succ n ih =>
    intro S l0 l3 l4 hf H locs ls hP hl
    rw [fX9_perform_25] at hf
    refine lv_iload hx hb dX9_perform_25 (hl.at 2 rfl) ?_
    refine lv_if_le hx hb (tgt := 145) dX9_perform_27 (by decide) (fun c27 => ?_) (fun c27 => ?_)
    · have hf := ifp hf c27
      refine rw_aload_n X dX9_perform_145 rfl (hl.at 0 rfl) ?_
      obtain ⟨v146, e146, hf⟩ := ob hf
      refine rw_getR X dX9_perform_146 fl9_21 e146 rfl hP ?_
      refine lv_dup hx hb dX9_perform_149 (cr _) ?_
      obtain ⟨v150, e150, hf⟩ := ob hf
      refine rw_getI X dX9_perform_150 fl9_50 e150 rfl hP ?_
      refine lv_iconst (v := 1) hx hb dX9_perform_153 (by decide) ?_
      refine lv_iadd hx hb dX9_perform_154 ?_
      obtain ⟨S155, e155, hf⟩ := ob hf
      refine rw_putI X dX9_perform_155 fl9_50 fw2_7 e155 rfl hP (fun H locs hP => ?_)
      refine lv_iconst (v := 5) hx hb dX9_perform_158 (by decide) ?_
      cases hf
      exact rw_iret X dX9_perform_159 hP
    · have hf := ifn hf c27
      refine rw_aload_n X dX9_perform_30 rfl (hl.at 0 rfl) ?_
      obtain ⟨v31, e31, hf⟩ := ob hf
      refine rw_getR X dX9_perform_31 fl9_21 e31 rfl hP ?_
      refine lv_null hx hb dX9_perform_34 ?_
      refine W.eq (g2 := F0 m 35 ls (va_rf none :: (va_rf v31 :: []))) rfl ?_
      obtain ⟨S35, e35, hf⟩ := ob hf
      refine rw_putR X dX9_perform_35 fl9_25 fw2_0 e35 rfl hP (fun H locs hP => ?_)
      refine rw_aload_n X dX9_perform_38 rfl (hl.at 0 rfl) ?_
      refine rw_aload_n X dX9_perform_39 rfl (hl.at 1 rfl) ?_
      obtain ⟨u40, r40, hf⟩ := ob hf
      obtain ⟨q40, e40, hf⟩ := ob hf
      refine rw_callVi (As := [va_rf l3]) X dX9_perform_40 clX9_29 pyX9_beginVisit (mX9_beginVisit l e40) (by decide) r40 rfl hP rfl (catL c1n (Nat.le_of_ble_eq_true rfl)) hl.1.1 (fun H locs hP => ?_)
      refine rv_istore X dX9_perform_43 hl (by decide) rfl (fun ls hl => ?_)
      have hl : LV ls 7 [(5, .int q40.2), (0, va_rf l0), (3, va_rf l3), (4, .int l4)] := hl
      refine rw_aload_n X dX9_perform_45 rfl (hl.at 2 rfl) ?_
      refine rv_astore X dX9_perform_46 hl (by decide) rfl (fun ls hl => ?_)
      have hl : LV ls 7 [(6, va_rf l3), (5, .int q40.2), (0, va_rf l0), (3, va_rf l3), (4, .int l4)] := hl
      exact wX9_perform_48 X ih FU q40.1 l0 l4 q40.2 l3 hf _ _ _ hP (hl.sub [2, 4, 1, 0] rfl)
def fX9_perform (Y : LY) (S : HS) (l0 : Option Nat) (l1 : Option Nat) (l2 : Int32) : Option (HS × Int32) :=
  (gR Y 9 901 l0 S).bind fun v1 =>
  (gR Y 2 200 v1 S).bind fun v4 =>
  if v4 = none then
    fX9_perform_25 Y FU S l0 l1 l2
  else
    (gR Y 9 901 l0 S).bind fun v15 =>
    (gR Y 2 200 v15 S).bind fun v18 =>
    fX9_perform_25 Y FU S l0 v18 l2
set_option maxRecDepth 100000 in
set_option maxHeartbeats 4000000 in
theorem mX9_perform (l : Launch) {G : GG} {Y : LY} {S : HS} {l0 : Option Nat} {l1 : Option Nat} {l2 : Int32} {res : HS × Int32} (hf : fX9_perform Y S l0 l1 l2 = some res) : MM l yX9_perform cX9_perform 7 (some .int) 6 146 G Y S [va_rf l0, va_rf l1, .int l2] res.1 (some (.int res.2)) := by
  refine mm_of2 (plainFor_of_name (by decide +kernel)) (Nat.le_of_ble_eq_true rfl) (c1c (cr _) (c1c (cr _) (c1c (ci _) c1n))) ?_
  intro p e R s m args below meth c X H locs ls hP hl
  have X : Cx p R s m args meth c RX9 cX9_perform 7 6 146 (fun q => q ∈ Y.1) G (some .int) := X
  have hx := X.1.1
  have hb := X.1.2.1
  have hl : LV ls 7 [(0, va_rf l0), (1, va_rf l1), (2, .int l2)] := hl
  unfold fX9_perform at hf
  refine rw_aload_n X dX9_perform_0 rfl (hl.at 0 rfl) ?_
  obtain ⟨v1, e1, hf⟩ := ob hf
  refine rw_getR X dX9_perform_1 fl9_21 e1 rfl hP ?_
  obtain ⟨v4, e4, hf⟩ := ob hf
  refine rw_getR X dX9_perform_4 fl9_25 e4 rfl hP ?_
  refine rw_ifnonnull X (tgt := 14) dX9_perform_7 (by decide) (fun c7 => ?_) (fun c7 => ?_)
  · have hf := ifn hf c7
    refine rw_aload_n X dX9_perform_14 rfl (hl.at 0 rfl) ?_
    obtain ⟨v15, e15, hf⟩ := ob hf
    refine rw_getR X dX9_perform_15 fl9_21 e15 rfl hP ?_
    obtain ⟨v18, e18, hf⟩ := ob hf
    refine rw_getR X dX9_perform_18 fl9_25 e18 rfl hP ?_
    refine rv_astore_n X dX9_perform_21 rfl hl (by decide) rfl (fun ls hl => ?_)
    have hl : LV ls 7 [(3, va_rf v18), (0, va_rf l0), (1, va_rf l1), (2, .int l2)] := hl
    refine lv_iload_n hx hb dX9_perform_22 rfl (hl.at 3 rfl) ?_
    refine rv_istore X dX9_perform_23 hl (by decide) rfl (fun ls hl => ?_)
    have hl : LV ls 7 [(4, .int l2), (3, va_rf v18), (0, va_rf l0), (1, va_rf l1), (2, .int l2)] := hl
    exact wX9_perform_25 X FU S l0 v18 l2 hf _ _ _ hP (hl.sub [2, 1, 0] rfl)
  · have hf := ifp hf c7
    refine rw_aload_n X dX9_perform_10 rfl (hl.at 1 rfl) ?_
    refine lv_goto (tgt := 21) hx hb dX9_perform_11 (by decide) ?_
    refine rv_astore_n X dX9_perform_21 rfl hl (by decide) rfl (fun ls hl => ?_)
    have hl : LV ls 7 [(3, va_rf l1), (0, va_rf l0), (1, va_rf l1), (2, .int l2)] := hl
    refine lv_iload_n hx hb dX9_perform_22 rfl (hl.at 3 rfl) ?_
    refine rv_istore X dX9_perform_23 hl (by decide) rfl (fun ls hl => ?_)
    have hl : LV ls 7 [(4, .int l2), (3, va_rf l1), (0, va_rf l0), (1, va_rf l1), (2, .int l2)] := hl
    exact wX9_perform_25 X FU S l0 l1 l2 hf _ _ _ hP (hl.sub [2, 1, 0] rfl)
