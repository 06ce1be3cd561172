/-! printed by wip/whole/gen/gen_parts.py: 20.model1 -/
theorem dX12_isIn_0 : decode cX12_isIn 0 = .ok (.iload_n 0, 1) := by decide +kernel
theorem dX12_isIn_1 : decode cX12_isIn 1 = .ok (.iload_n 1, 1) := by decide +kernel
theorem dX12_isIn_2 : decode cX12_isIn 2 = .ok (.if_icmp .lt 12, 3) := by decide +kernel
theorem dX12_isIn_5 : decode cX12_isIn 5 = .ok (.iload_n 0, 1) := by decide +kernel
theorem dX12_isIn_6 : decode cX12_isIn 6 = .ok (.iload_n 2, 1) := by decide +kernel
theorem dX12_isIn_7 : decode cX12_isIn 7 = .ok (.if_icmp .gt 7, 3) := by decide +kernel
theorem dX12_isIn_10 : decode cX12_isIn 10 = .ok (.iconst 1, 1) := by decide +kernel
theorem dX12_isIn_11 : decode cX12_isIn 11 = .ok (.goto 4, 3) := by decide +kernel
theorem dX12_isIn_14 : decode cX12_isIn 14 = .ok (.iconst 0, 1) := by decide +kernel
theorem dX12_isIn_15 : decode cX12_isIn 15 = .ok (.ireturn, 1) := by decide +kernel
theorem pyX12_isIn : PY yX12_isIn 3 := ⟨by decide +kernel, by decide +kernel, by decide +kernel⟩
def fX12_isIn (Y : LY) (S : HS) (l0 : Int32) (l1 : Int32) (l2 : Int32) : Option (Int32) :=
  if l0 < l1 then
    some 0
  else
    if l2 < l0 then
      some 0
    else
      some 1
set_option maxRecDepth 100000 in
set_option maxHeartbeats 4000000 in
theorem mX12_isIn (l : Launch) {G : GG} {Y : LY} {S : HS} {l0 : Int32} {l1 : Int32} {l2 : Int32} {res : Int32} (hf : fX12_isIn Y S l0 l1 l2 = some res) : MM l yX12_isIn cX12_isIn 3 (some .boolean) 0 0 G Y S [.int l0, .int l1, .int l2] S (some (.int res)) := by
  refine mm_of2 (plainFor_of_name (by decide +kernel)) (Nat.le_of_ble_eq_true rfl) (c1c (ci _) (c1c (ci _) (c1c (ci _) c1n))) ?_
  intro p e R s m args below meth c X H locs ls hP hl
  have X : Cx p R s m args meth c RX12 cX12_isIn 3 0 0 (fun q => q ∈ Y.1) G (some .boolean) := X
  have hx := X.1.1
  have hb := X.1.2.1
  have hl : LV ls 3 [(0, .int l0), (1, .int l1), (2, .int l2)] := hl
  unfold fX12_isIn at hf
  refine lv_iload_n hx hb dX12_isIn_0 rfl (hl.at 0 rfl) ?_
  refine lv_iload_n hx hb dX12_isIn_1 rfl (hl.at 1 rfl) ?_
  refine lv_icmp_lt hx hb (tgt := 14) dX12_isIn_2 (by decide) (fun c2 => ?_) (fun c2 => ?_)
  · have hf := ifp hf c2
    refine lv_iconst (v := 0) hx hb dX12_isIn_14 (by decide) ?_
    cases hf
    exact rw_zret X (by decide) dX12_isIn_15 hP
  · have hf := ifn hf c2
    refine lv_iload_n hx hb dX12_isIn_5 rfl (hl.at 0 rfl) ?_
    refine lv_iload_n hx hb dX12_isIn_6 rfl (hl.at 2 rfl) ?_
    refine lv_icmp_gt hx hb (tgt := 14) dX12_isIn_7 (by decide) (fun c7 => ?_) (fun c7 => ?_)
    · have hf := ifp hf c7
      refine lv_iconst (v := 0) hx hb dX12_isIn_14 (by decide) ?_
      cases hf
      exact rw_zret X (by decide) dX12_isIn_15 hP
    · have hf := ifn hf c7
      refine lv_iconst (v := 1) hx hb dX12_isIn_10 (by decide) ?_
      refine lv_goto (tgt := 15) hx hb dX12_isIn_11 (by decide) ?_
      cases hf
      exact rw_zret X (by decide) dX12_isIn_15 hP
theorem dX12_copies_0 : decode cX12_copies 0 = .ok (.iconst 0, 1) := by decide +kernel
theorem dX12_copies_1 : decode cX12_copies 1 = .ok (.istore_n 2, 1) := by decide +kernel
theorem dX12_copies_2 : decode cX12_copies 2 = .ok (.iload_n 2, 1) := by decide +kernel
theorem dX12_copies_3 : decode cX12_copies 3 = .ok (.sipush 355, 3) := by decide +kernel
theorem dX12_copies_6 : decode cX12_copies 6 = .ok (.if_icmp .ge 15, 3) := by decide +kernel
theorem dX12_copies_9 : decode cX12_copies 9 = .ok (.aload_n 1, 1) := by decide +kernel
theorem dX12_copies_10 : decode cX12_copies 10 = .ok (.iload_n 2, 1) := by decide +kernel
theorem dX12_copies_11 : decode cX12_copies 11 = .ok (.aload_n 0, 1) := by decide +kernel
theorem dX12_copies_12 : decode cX12_copies 12 = .ok (.iload_n 2, 1) := by decide +kernel
theorem dX12_copies_13 : decode cX12_copies 13 = .ok (.iaload, 1) := by decide +kernel
theorem dX12_copies_14 : decode cX12_copies 14 = .ok (.iastore, 1) := by decide +kernel
theorem dX12_copies_15 : decode cX12_copies 15 = .ok (.iinc 2 1, 3) := by decide +kernel
theorem dX12_copies_18 : decode cX12_copies 18 = .ok (.goto (-16), 3) := by decide +kernel
theorem dX12_copies_21 : decode cX12_copies 21 = .ok (.return_, 1) := by decide +kernel
theorem pyX12_copies : PY yX12_copies 2 := ⟨by decide +kernel, by decide +kernel, by decide +kernel⟩
def fX12_copies_2 (Y : LY) : Nat → HS → Option Nat → Option Nat → Int32 → Option (HS)
  | 0, _, _, _, _ => none
  | n + 1, S, l0, l1, l2 =>
    if 355 ≤ l2 then
      some S
    else
      (gA Y 14 l0 l2 S).bind fun v13 =>
      (pA Y 14 l1 l2 v13 S).bind fun S14 =>
      fX12_copies_2 Y n S14 l0 l1 (l2 + 1)
set_option maxRecDepth 100000 in
set_option maxHeartbeats 4000000 in
theorem wX12_copies_2 {p : Program} {l : Launch} {e : Env} {R : Room} {s : State} {m : MethodId} {args : Array Value} {below : List Frame} {meth : Method} {c : Code} {G : GG} {Y : LY} {res : HS} (X : Cx p R s m args meth c RX12 cX12_copies 3 0 0 (fun q => q ∈ Y.1) G none) : ∀ (n : Nat) (S : HS) (l0 : Option Nat) (l1 : Option Nat) (l2 : Int32), fX12_copies_2 Y n S l0 l1 l2 = some res → ∀ (H : Heap) (locs : List Loc) (ls : Array Slot), HP (fun q => q ∈ Y.1) G Y s S H locs → LV ls 3 [(0, va_rf l0), (1, va_rf l1), (2, .int l2)] → W p l e R s m args below meth c H locs 0 0 (MQ below (QI G Y res none) args s 0 0 (fun q => q ∈ Y.1)) (F0 m 2 ls []) := by
  have hx := X.1.1
  have hb := X.1.2.1
  intro n
  induction n with
  | zero =>
    intro S l0 l1 l2 hf
    cases hf
  | succ n ih =>
    intro S l0 l1 l2 hf H locs ls hP hl
    rw [fX12_copies_2] at hf
    refine lv_iload_n hx hb dX12_copies_2 rfl (hl.at 2 rfl) ?_
    refine lv_sipush (v := 355) hx hb dX12_copies_3 (by decide) ?_
    refine lv_icmp_ge hx hb (tgt := 21) dX12_copies_6 (by decide) (fun c6 => ?_) (fun c6 => ?_)
    · have hf := ifp hf c6
      cases hf
      exact rw_vret X dX12_copies_21 hP
    · have hf := ifn hf c6
      refine rw_aload_n X dX12_copies_9 rfl (hl.at 1 rfl) ?_
      refine lv_iload_n hx hb dX12_copies_10 rfl (hl.at 2 rfl) ?_
      refine rw_aload_n X dX12_copies_11 rfl (hl.at 0 rfl) ?_
      refine lv_iload_n hx hb dX12_copies_12 rfl (hl.at 2 rfl) ?_
      obtain ⟨v13, e13, hf⟩ := ob hf
      refine rw_iald X dX12_copies_13 e13 hP ?_
      obtain ⟨S14, e14, hf⟩ := ob hf
      refine rw_iast X dX12_copies_14 e14 hP (fun H locs hP => ?_)
      refine rv_iinc (k := 2) (d := 1) X dX12_copies_15 hl rfl (by decide) (by decide) rfl (fun ls hl => ?_)
      have hl : LV ls 3 [(2, .int (l2 + 1)), (0, va_rf l0), (1, va_rf l1)] := hl
      refine lv_goto (tgt := 2) hx hb dX12_copies_18 (by decide) ?_
      exact ih S14 l0 l1 (l2 + 1) hf _ _ _ hP (hl.sub [1, 2, 0] rfl)
def fX12_copies (Y : LY) (S : HS) (l0 : Option Nat) (l1 : Option Nat) : Option (HS) :=
  fX12_copies_2 Y FU S l0 l1 0
set_option maxRecDepth 100000 in
set_option maxHeartbeats 4000000 in
theorem mX12_copies (l : Launch) {G : GG} {Y : LY} {S : HS} {l0 : Option Nat} {l1 : Option Nat} {res : HS} (hf : fX12_copies Y S l0 l1 = some res) : MM l yX12_copies cX12_copies 3 none 0 0 G Y S [va_rf l0, va_rf l1] res none := by
  refine mm_of2 (plainFor_of_name (by decide +kernel)) (Nat.le_of_ble_eq_true rfl) (c1c (cr _) (c1c (cr _) c1n)) ?_
  intro p e R s m args below meth c X H locs ls hP hl
  have X : Cx p R s m args meth c RX12 cX12_copies 3 0 0 (fun q => q ∈ Y.1) G none := X
  have hx := X.1.1
  have hb := X.1.2.1
  have hl : LV ls 3 [(0, va_rf l0), (1, va_rf l1)] := hl
  unfold fX12_copies at hf
  refine lv_iconst (v := 0) hx hb dX12_copies_0 (by decide) ?_
  refine rv_istore_n X dX12_copies_1 rfl hl (by decide) rfl (fun ls hl => ?_)
  have hl : LV ls 3 [(2, .int 0), (0, va_rf l0), (1, va_rf l1)] := hl
  exact wX12_copies_2 X FU S l0 l1 0 hf _ _ _ hP (hl.sub [1, 2, 0] rfl)
theorem dX12_of_0 : decode cX12_of 0 = .ok (.aload_n 0, 1) := by decide +kernel
theorem dX12_of_1 : decode cX12_of 1 = .ok (.getfield 9, 3) := by decide +kernel
theorem dX12_of_4 : decode cX12_of 4 = .ok (.bipush 11, 2) := by decide +kernel
theorem dX12_of_6 : decode cX12_of 6 = .ok (.iload_n 1, 1) := by decide +kernel
theorem dX12_of_7 : decode cX12_of 7 = .ok (.imul, 1) := by decide +kernel
theorem dX12_of_8 : decode cX12_of 8 = .ok (.iload_n 2, 1) := by decide +kernel
theorem dX12_of_9 : decode cX12_of 9 = .ok (.iadd, 1) := by decide +kernel
theorem dX12_of_10 : decode cX12_of 10 = .ok (.iaload, 1) := by decide +kernel
theorem dX12_of_11 : decode cX12_of 11 = .ok (.ireturn, 1) := by decide +kernel
theorem pyX12_of : PY yX12_of 2 := ⟨by decide +kernel, by decide +kernel, by decide +kernel⟩
def fX12_of (Y : LY) (S : HS) (l0 : Option Nat) (l1 : Int32) (l2 : Int32) : Option (Int32) :=
  (gR Y 12 1200 l0 S).bind fun v1 =>
  (gA Y 14 v1 ((11 * l1) + l2) S).bind fun v10 =>
  some v10
set_option maxRecDepth 100000 in
set_option maxHeartbeats 4000000 in
theorem mX12_of (l : Launch) {G : GG} {Y : LY} {S : HS} {l0 : Option Nat} {l1 : Int32} {l2 : Int32} {res : Int32} (hf : fX12_of Y S l0 l1 l2 = some res) : MM l yX12_of cX12_of 3 (some .int) 0 0 G Y S [va_rf l0, .int l1, .int l2] S (some (.int res)) := by
  refine mm_of2 (plainFor_of_name (by decide +kernel)) (Nat.le_of_ble_eq_true rfl) (c1c (cr _) (c1c (ci _) (c1c (ci _) c1n))) ?_
  intro p e R s m args below meth c X H locs ls hP hl
  have X : Cx p R s m args meth c RX12 cX12_of 3 0 0 (fun q => q ∈ Y.1) G (some .int) := X
  have hx := X.1.1
  have hb := X.1.2.1
  have hl : LV ls 3 [(0, va_rf l0), (1, .int l1), (2, .int l2)] := hl
  unfold fX12_of at hf
  refine rw_aload_n X dX12_of_0 rfl (hl.at 0 rfl) ?_
  obtain ⟨v1, e1, hf⟩ := ob hf
  refine rw_getR X dX12_of_1 fl12_9 e1 rfl hP ?_
  refine lv_bipush (v := 11) hx hb dX12_of_4 (by decide) ?_
  refine lv_iload_n hx hb dX12_of_6 rfl (hl.at 1 rfl) ?_
  refine lv_imul hx hb dX12_of_7 ?_
  refine lv_iload_n hx hb dX12_of_8 rfl (hl.at 2 rfl) ?_
  refine lv_iadd hx hb dX12_of_9 ?_
  obtain ⟨v10, e10, hf⟩ := ob hf
  refine rw_iald X dX12_of_10 e10 hP ?_
  cases hf
  exact rw_iret X dX12_of_11 hP
theorem dX12_sets_0 : decode cX12_sets 0 = .ok (.aload_n 0, 1) := by decide +kernel
theorem dX12_sets_1 : decode cX12_sets 1 = .ok (.getfield 9, 3) := by decide +kernel
theorem dX12_sets_4 : decode cX12_sets 4 = .ok (.bipush 11, 2) := by decide +kernel
theorem dX12_sets_6 : decode cX12_sets 6 = .ok (.iload_n 1, 1) := by decide +kernel
theorem dX12_sets_7 : decode cX12_sets 7 = .ok (.imul, 1) := by decide +kernel
theorem dX12_sets_8 : decode cX12_sets 8 = .ok (.iload_n 2, 1) := by decide +kernel
theorem dX12_sets_9 : decode cX12_sets 9 = .ok (.iadd, 1) := by decide +kernel
theorem dX12_sets_10 : decode cX12_sets 10 = .ok (.iload_n 3, 1) := by decide +kernel
theorem dX12_sets_11 : decode cX12_sets 11 = .ok (.iastore, 1) := by decide +kernel
theorem dX12_sets_12 : decode cX12_sets 12 = .ok (.return_, 1) := by decide +kernel
theorem pyX12_sets : PY yX12_sets 3 := ⟨by decide +kernel, by decide +kernel, by decide +kernel⟩
def fX12_sets (Y : LY) (S : HS) (l0 : Option Nat) (l1 : Int32) (l2 : Int32) (l3 : Int32) : Option (HS) :=
  (gR Y 12 1200 l0 S).bind fun v1 =>
  (pA Y 14 v1 ((11 * l1) + l2) l3 S).bind fun S11 =>
  some S11
set_option maxRecDepth 100000 in
set_option maxHeartbeats 4000000 in
theorem mX12_sets (l : Launch) {G : GG} {Y : LY} {S : HS} {l0 : Option Nat} {l1 : Int32} {l2 : Int32} {l3 : Int32} {res : HS} (hf : fX12_sets Y S l0 l1 l2 l3 = some res) : MM l yX12_sets cX12_sets 4 none 0 0 G Y S [va_rf l0, .int l1, .int l2, .int l3] res none := by
  refine mm_of2 (plainFor_of_name (by decide +kernel)) (Nat.le_of_ble_eq_true rfl) (c1c (cr _) (c1c (ci _) (c1c (ci _) (c1c (ci _) c1n)))) ?_
  intro p e R s m args below meth c X H locs ls hP hl
  have X : Cx p R s m args meth c RX12 cX12_sets 4 0 0 (fun q => q ∈ Y.1) G none := X
  have hx := X.1.1
  have hb := X.1.2.1
  have hl : LV ls 4 [(0, va_rf l0), (1, .int l1), (2, .int l2), (3, .int l3)] := hl
  unfold fX12_sets at hf
  refine rw_aload_n X dX12_sets_0 rfl (hl.at 0 rfl) ?_
  obtain ⟨v1, e1, hf⟩ := ob hf
  refine rw_getR X dX12_sets_1 fl12_9 e1 rfl hP ?_
  refine lv_bipush (v := 11) hx hb dX12_sets_4 (by decide) ?_
  refine lv_iload_n hx hb dX12_sets_6 rfl (hl.at 1 rfl) ?_
  refine lv_imul hx hb dX12_sets_7 ?_
  refine lv_iload_n hx hb dX12_sets_8 rfl (hl.at 2 rfl) ?_
  refine lv_iadd hx hb dX12_sets_9 ?_
  refine lv_iload_n hx hb dX12_sets_10 rfl (hl.at 3 rfl) ?_
  obtain ⟨S11, e11, hf⟩ := ob hf
  refine rw_iast X dX12_sets_11 e11 hP (fun H locs hP => ?_)
  cases hf
  exact rw_vret X dX12_sets_12 hP
theorem dX12_adds_0 : decode cX12_adds 0 = .ok (.aload_n 0, 1) := by decide +kernel
theorem dX12_adds_1 : decode cX12_adds 1 = .ok (.getfield 9, 3) := by decide +kernel
theorem dX12_adds_4 : decode cX12_adds 4 = .ok (.bipush 11, 2) := by decide +kernel
theorem dX12_adds_6 : decode cX12_adds 6 = .ok (.iload_n 1, 1) := by decide +kernel
theorem dX12_adds_7 : decode cX12_adds 7 = .ok (.imul, 1) := by decide +kernel
theorem dX12_adds_8 : decode cX12_adds 8 = .ok (.iload_n 2, 1) := by decide +kernel
theorem dX12_adds_9 : decode cX12_adds 9 = .ok (.iadd, 1) := by decide +kernel
theorem dX12_adds_10 : decode cX12_adds 10 = .ok (.dup2, 1) := by decide +kernel
theorem dX12_adds_11 : decode cX12_adds 11 = .ok (.iaload, 1) := by decide +kernel
theorem dX12_adds_12 : decode cX12_adds 12 = .ok (.iconst 1, 1) := by decide +kernel
theorem dX12_adds_13 : decode cX12_adds 13 = .ok (.iadd, 1) := by decide +kernel
theorem dX12_adds_14 : decode cX12_adds 14 = .ok (.iastore, 1) := by decide +kernel
theorem dX12_adds_15 : decode cX12_adds 15 = .ok (.return_, 1) := by decide +kernel
theorem pyX12_adds : PY yX12_adds 2 := ⟨by decide +kernel, by decide +kernel, by decide +kernel⟩
def fX12_adds (Y : LY) (S : HS) (l0 : Option Nat) (l1 : Int32) (l2 : Int32) : Option (HS) :=
  (gR Y 12 1200 l0 S).bind fun v1 =>
  (gA Y 14 v1 ((11 * l1) + l2) S).bind fun v11 =>
  (pA Y 14 v1 ((11 * l1) + l2) (v11 + 1) S).bind fun S14 =>
  some S14
set_option maxRecDepth 100000 in
set_option maxHeartbeats 4000000 in
theorem mX12_adds (l : Launch) {G : GG} {Y : LY} {S : HS} {l0 : Option Nat} {l1 : Int32} {l2 : Int32} {res : HS} (hf : fX12_adds Y S l0 l1 l2 = some res) : MM l yX12_adds cX12_adds 3 none 0 0 G Y S [va_rf l0, .int l1, .int l2] res none := by
  refine mm_of2 (plainFor_of_name (by decide +kernel)) (Nat.le_of_ble_eq_true rfl) (c1c (cr _) (c1c (ci _) (c1c (ci _) c1n))) ?_
  intro p e R s m args below meth c X H locs ls hP hl
  have X : Cx p R s m args meth c RX12 cX12_adds 3 0 0 (fun q => q ∈ Y.1) G none := X
  have hx := X.1.1
  have hb := X.1.2.1
  have hl : LV ls 3 [(0, va_rf l0), (1, .int l1), (2, .int l2)] := hl
  unfold fX12_adds at hf
  refine rw_aload_n X dX12_adds_0 rfl (hl.at 0 rfl) ?_
  obtain ⟨v1, e1, hf⟩ := ob hf
  refine rw_getR X dX12_adds_1 fl12_9 e1 rfl hP ?_
  refine lv_bipush (v := 11) hx hb dX12_adds_4 (by decide) ?_
  refine lv_iload_n hx hb dX12_adds_6 rfl (hl.at 1 rfl) ?_
  refine lv_imul hx hb dX12_adds_7 ?_
  refine lv_iload_n hx hb dX12_adds_8 rfl (hl.at 2 rfl) ?_
  refine lv_iadd hx hb dX12_adds_9 ?_
  refine lv_dup2_11 hx hb dX12_adds_10 (ci _) (cr _) ?_
  obtain ⟨v11, e11, hf⟩ := ob hf
  refine rw_iald X dX12_adds_11 e11 hP ?_
  refine lv_iconst (v := 1) hx hb dX12_adds_12 (by decide) ?_
  refine lv_iadd hx hb dX12_adds_13 ?_
  obtain ⟨S14, e14, hf⟩ := ob hf
  refine rw_iast X dX12_adds_14 e14 hP (fun H locs hP => ?_)
  cases hf
  exact rw_vret X dX12_adds_15 hP
theorem dX12_append_0 : decode cX12_append 0 = .ok (.iload_n 1, 1) := by decide +kernel
theorem dX12_append_1 : decode cX12_append 1 = .ok (.iconst 0, 1) := by decide +kernel
theorem dX12_append_2 : decode cX12_append 2 = .ok (.bipush 127, 2) := by decide +kernel
theorem dX12_append_4 : decode cX12_append 4 = .ok (.invokestatic 94, 3) := by decide +kernel
theorem dX12_append_7 : decode cX12_append 7 = .ok (.ifCond .eq 13, 3) := by decide +kernel
theorem dX12_append_10 : decode cX12_append 10 = .ok (.iload_n 2, 1) := by decide +kernel
theorem dX12_append_11 : decode cX12_append 11 = .ok (.iconst 1, 1) := by decide +kernel
theorem dX12_append_12 : decode cX12_append 12 = .ok (.bipush 70, 2) := by decide +kernel
theorem dX12_append_14 : decode cX12_append 14 = .ok (.invokestatic 94, 3) := by decide +kernel
theorem dX12_append_17 : decode cX12_append 17 = .ok (.ifCond .ne 7, 3) := by decide +kernel
theorem dX12_append_20 : decode cX12_append 20 = .ok (.sipush (-1002), 3) := by decide +kernel
theorem dX12_append_23 : decode cX12_append 23 = .ok (.ireturn, 1) := by decide +kernel
theorem dX12_append_24 : decode cX12_append 24 = .ok (.aload_n 0, 1) := by decide +kernel
theorem dX12_append_25 : decode cX12_append 25 = .ok (.getfield 98, 3) := by decide +kernel
theorem dX12_append_28 : decode cX12_append 28 = .ok (.iload_n 2, 1) := by decide +kernel
theorem dX12_append_29 : decode cX12_append 29 = .ok (.iadd, 1) := by decide +kernel
theorem dX12_append_30 : decode cX12_append 30 = .ok (.bipush 70, 2) := by decide +kernel
theorem dX12_append_32 : decode cX12_append 32 = .ok (.if_icmp .le 7, 3) := by decide +kernel
theorem dX12_append_35 : decode cX12_append 35 = .ok (.sipush (-1003), 3) := by decide +kernel
theorem dX12_append_38 : decode cX12_append 38 = .ok (.ireturn, 1) := by decide +kernel
theorem dX12_append_39 : decode cX12_append 39 = .ok (.iconst 0, 1) := by decide +kernel
theorem dX12_append_40 : decode cX12_append 40 = .ok (.istore_n 3, 1) := by decide +kernel
theorem dX12_append_41 : decode cX12_append 41 = .ok (.iload_n 3, 1) := by decide +kernel
theorem dX12_append_42 : decode cX12_append 42 = .ok (.iload_n 2, 1) := by decide +kernel
theorem dX12_append_43 : decode cX12_append 43 = .ok (.if_icmp .ge 29, 3) := by decide +kernel
theorem dX12_append_46 : decode cX12_append 46 = .ok (.aload_n 0, 1) := by decide +kernel
theorem dX12_append_47 : decode cX12_append 47 = .ok (.getfield 19, 3) := by decide +kernel
theorem dX12_append_50 : decode cX12_append 50 = .ok (.aload_n 0, 1) := by decide +kernel
theorem dX12_append_51 : decode cX12_append 51 = .ok (.getfield 98, 3) := by decide +kernel
theorem dX12_append_54 : decode cX12_append 54 = .ok (.iload_n 1, 1) := by decide +kernel
theorem dX12_append_55 : decode cX12_append 55 = .ok (.iastore, 1) := by decide +kernel
theorem dX12_append_56 : decode cX12_append 56 = .ok (.aload_n 0, 1) := by decide +kernel
theorem dX12_append_57 : decode cX12_append 57 = .ok (.dup, 1) := by decide +kernel
theorem dX12_append_58 : decode cX12_append 58 = .ok (.getfield 98, 3) := by decide +kernel
theorem dX12_append_61 : decode cX12_append 61 = .ok (.iconst 1, 1) := by decide +kernel
theorem dX12_append_62 : decode cX12_append 62 = .ok (.iadd, 1) := by decide +kernel
theorem dX12_append_63 : decode cX12_append 63 = .ok (.putfield 98, 3) := by decide +kernel
theorem dX12_append_66 : decode cX12_append 66 = .ok (.iinc 3 1, 3) := by decide +kernel
theorem dX12_append_69 : decode cX12_append 69 = .ok (.goto (-28), 3) := by decide +kernel
theorem dX12_append_72 : decode cX12_append 72 = .ok (.aload_n 0, 1) := by decide +kernel
theorem dX12_append_73 : decode cX12_append 73 = .ok (.getfield 98, 3) := by decide +kernel
theorem dX12_append_76 : decode cX12_append 76 = .ok (.ireturn, 1) := by decide +kernel
theorem pyX12_append : PY yX12_append 2 := ⟨by decide +kernel, by decide +kernel, by decide +kernel⟩
def fX12_append_41 (Y : LY) : Nat → HS → Option Nat → Int32 → Int32 → Int32 → Option (HS × Int32)
  | 0, _, _, _, _, _ => none
  | n + 1, S, l0, l1, l2, l3 =>
    if l2 ≤ l3 then
      (gI Y 12 1206 l0 S).bind fun v73 =>
      some (S, v73)
    else
      (gR Y 12 1204 l0 S).bind fun v47 =>
      (gI Y 12 1206 l0 S).bind fun v51 =>
      (pA Y 14 v47 v51 l1 S).bind fun S55 =>
      (gI Y 12 1206 l0 S55).bind fun v58 =>
      (pI Y 12 1206 l0 (v58 + 1) S55).bind fun S63 =>
      fX12_append_41 Y n S63 l0 l1 l2 (l3 + 1)
set_option maxRecDepth 100000 in
set_option maxHeartbeats 4000000 in
theorem wX12_append_41 {p : Program} {l : Launch} {e : Env} {R : Room} {s : State} {m : MethodId} {args : Array Value} {below : List Frame} {meth : Method} {c : Code} {G : GG} {Y : LY} {res : HS × Int32} (X : Cx p R s m args meth c RX12 cX12_append 4 1 22 (fun q => q ∈ Y.1) G (some .int)) : ∀ (n : Nat) (S : HS) (l0 : Option Nat) (l1 : Int32) (l2 : Int32) (l3 : Int32), fX12_append_41 Y n S l0 l1 l2 l3 = some res → ∀ (H : Heap) (locs : List Loc) (ls : Array Slot), HP (fun q => q ∈ Y.1) G Y s S H locs → LV ls 4 [(0, va_rf l0), (1, .int l1), (2, .int l2), (3, .int l3)] → W p l e R s m args below meth c H locs 0 0 (MQ below (QI G Y res.1 (some (.int res.2))) args s 0 0 (fun q => q ∈ Y.1)) (F0 m 41 ls []) := by
  have hx := X.1.1
  have hb := X.1.2.1
  intro n
  induction n with
  | zero =>
    intro S l0 l1 l2 l3 hf
    cases hf
  | succ n ih =>
    intro S l0 l1 l2 l3 hf H locs ls hP hl
    rw [fX12_append_41] at hf
    refine lv_iload_n hx hb dX12_append_41 rfl (hl.at 3 rfl) ?_
    refine lv_iload_n hx hb dX12_append_42 rfl (hl.at 2 rfl) ?_
    refine lv_icmp_ge hx hb (tgt := 72) dX12_append_43 (by decide) (fun c43 => ?_) (fun c43 => ?_)
    · have hf := ifp hf c43
      refine rw_aload_n X dX12_append_72 rfl (hl.at 0 rfl) ?_
      obtain ⟨v73, e73, hf⟩ := ob hf
      refine rw_getI X dX12_append_73 fl12_98 e73 rfl hP ?_
      cases hf
      exact rw_iret X dX12_append_76 hP
    · have hf := ifn hf c43
      refine rw_aload_n X dX12_append_46 rfl (hl.at 0 rfl) ?_
      obtain ⟨v47, e47, hf⟩ := ob hf
      refine rw_getR X dX12_append_47 fl12_19 e47 rfl hP ?_
      refine rw_aload_n X dX12_append_50 rfl (hl.at 0 rfl) ?_
      obtain ⟨v51, e51, hf⟩ := ob hf
      refine rw_getI X dX12_append_51 fl12_98 e51 rfl hP ?_
      refine lv_iload_n hx hb dX12_append_54 rfl (hl.at 1 rfl) ?_
      obtain ⟨S55, e55, hf⟩ := ob hf
      refine rw_iast X dX12_append_55 e55 hP (fun H locs hP => ?_)
      refine rw_aload_n X dX12_append_56 rfl (hl.at 0 rfl) ?_
      refine lv_dup hx hb dX12_append_57 (cr _) ?_
      obtain ⟨v58, e58, hf⟩ := ob hf
      refine rw_getI X dX12_append_58 fl12_98 e58 rfl hP ?_
      refine lv_iconst (v := 1) hx hb dX12_append_61 (by decide) ?_
      refine lv_iadd hx hb dX12_append_62 ?_
      obtain ⟨S63, e63, hf⟩ := ob hf
      refine rw_putI X dX12_append_63 fl12_98 fw12_6 e63 rfl hP (fun H locs hP => ?_)
      refine rv_iinc (k := 3) (d := 1) X dX12_append_66 hl rfl (by decide) (by decide) rfl (fun ls hl => ?_)
      have hl : LV ls 4 [(3, .int (l3 + 1)), (0, va_rf l0), (1, .int l1), (2, .int l2)] := hl
      refine lv_goto (tgt := 41) hx hb dX12_append_69 (by decide) ?_
      exact ih S63 l0 l1 l2 (l3 + 1) hf _ _ _ hP (hl.sub [1, 2, 3, 0] rfl)
def fX12_append (Y : LY) (S : HS) (l0 : Option Nat) (l1 : Int32) (l2 : Int32) : Option (HS × Int32) :=
  (fX12_isIn Y S l1 0 127).bind fun v4 =>
  if v4 = 0 then
    some (S, (-1002))
  else
    (fX12_isIn Y S l2 1 70).bind fun v14 =>
    if v14 = 0 then
      some (S, (-1002))
    else
      (gI Y 12 1206 l0 S).bind fun v25 =>
      if (v25 + l2) ≤ 70 then
        fX12_append_41 Y FU S l0 l1 l2 0
      else
        some (S, (-1003))
set_option maxRecDepth 100000 in
set_option maxHeartbeats 4000000 in
theorem mX12_append (l : Launch) {G : GG} {Y : LY} {S : HS} {l0 : Option Nat} {l1 : Int32} {l2 : Int32} {res : HS × Int32} (hf : fX12_append Y S l0 l1 l2 = some res) : MM l yX12_append cX12_append 4 (some .int) 1 22 G Y S [va_rf l0, .int l1, .int l2] res.1 (some (.int res.2)) := by
  refine mm_of2 (plainFor_of_name (by decide +kernel)) (Nat.le_of_ble_eq_true rfl) (c1c (cr _) (c1c (ci _) (c1c (ci _) c1n))) ?_
  intro p e R s m args below meth c X H locs ls hP hl
  have X : Cx p R s m args meth c RX12 cX12_append 4 1 22 (fun q => q ∈ Y.1) G (some .int) := X
  have hx := X.1.1
  have hb := X.1.2.1
  have hl : LV ls 4 [(0, va_rf l0), (1, .int l1), (2, .int l2)] := hl
  unfold fX12_append at hf
  refine lv_iload_n hx hb dX12_append_0 rfl (hl.at 1 rfl) ?_
  refine lv_iconst (v := 0) hx hb dX12_append_1 (by decide) ?_
  refine lv_bipush (v := 127) hx hb dX12_append_2 (by decide) ?_
  obtain ⟨v4, e4, hf⟩ := ob hf
  refine rw_callSi (As := [.int l1, .int 0, .int 127]) X dX12_append_4 clX12_94 pyX12_isIn (mX12_isIn l e4) (by decide) hP rfl (catL c1n (Nat.le_of_ble_eq_true rfl)) hl.1.1 (fun H locs hP => ?_)
  refine lv_if_eq hx hb (tgt := 20) dX12_append_7 (by decide) (fun c7 => ?_) (fun c7 => ?_)
  · have hf := ifp hf c7
    refine lv_sipush (v := (-1002)) hx hb dX12_append_20 (by decide) ?_
    cases hf
    exact rw_iret X dX12_append_23 hP
  · have hf := ifn hf c7
    refine lv_iload_n hx hb dX12_append_10 rfl (hl.at 2 rfl) ?_
    refine lv_iconst (v := 1) hx hb dX12_append_11 (by decide) ?_
    refine lv_bipush (v := 70) hx hb dX12_append_12 (by decide) ?_
    obtain ⟨v14, e14, hf⟩ := ob hf
    refine rw_callSi (As := [.int l2, .int 1, .int 70]) X dX12_append_14 clX12_94 pyX12_isIn (mX12_isIn l e14) (by decide) hP rfl (catL c1n (Nat.le_of_ble_eq_true rfl)) hl.1.1 (fun H locs hP => ?_)
    refine lv_if_ne hx hb (tgt := 24) dX12_append_17 (by decide) (fun c17 => ?_) (fun c17 => ?_)
    · have hf := ifn hf c17
      refine rw_aload_n X dX12_append_24 rfl (hl.at 0 rfl) ?_
      obtain ⟨v25, e25, hf⟩ := ob hf
      refine rw_getI X dX12_append_25 fl12_98 e25 rfl hP ?_
      refine lv_iload_n hx hb dX12_append_28 rfl (hl.at 2 rfl) ?_
      refine lv_iadd hx hb dX12_append_29 ?_
      refine lv_bipush (v := 70) hx hb dX12_append_30 (by decide) ?_
      refine lv_icmp_le hx hb (tgt := 39) dX12_append_32 (by decide) (fun c32 => ?_) (fun c32 => ?_)
      · have hf := ifp hf c32
        refine lv_iconst (v := 0) hx hb dX12_append_39 (by decide) ?_
        refine rv_istore_n X dX12_append_40 rfl hl (by decide) rfl (fun ls hl => ?_)
        have hl : LV ls 4 [(3, .int 0), (0, va_rf l0), (1, .int l1), (2, .int l2)] := hl
        exact wX12_append_41 X FU S l0 l1 l2 0 hf _ _ _ hP (hl.sub [1, 2, 3, 0] rfl)
      · have hf := ifn hf c32
        refine lv_sipush (v := (-1003)) hx hb dX12_append_35 (by decide) ?_
        cases hf
        exact rw_iret X dX12_append_38 hP
    · have hf := ifp hf c17
      refine lv_sipush (v := (-1002)) hx hb dX12_append_20 (by decide) ?_
      cases hf
      exact rw_iret X dX12_append_23 hP
theorem dX12_here_0 : decode cX12_here 0 = .ok (.aload_n 0, 1) := by decide +kernel
theorem dX12_here_1 : decode cX12_here 1 = .ok (.getfield 102, 3) := by decide +kernel
theorem dX12_here_4 : decode cX12_here 4 = .ok (.aload_n 0, 1) := by decide +kernel
theorem dX12_here_5 : decode cX12_here 5 = .ok (.getfield 98, 3) := by decide +kernel
theorem dX12_here_8 : decode cX12_here 8 = .ok (.if_icmp .ge 15, 3) := by decide +kernel
theorem dX12_here_11 : decode cX12_here 11 = .ok (.aload_n 0, 1) := by decide +kernel
theorem dX12_here_12 : decode cX12_here 12 = .ok (.getfield 19, 3) := by decide +kernel
theorem dX12_here_15 : decode cX12_here 15 = .ok (.aload_n 0, 1) := by decide +kernel
theorem dX12_here_16 : decode cX12_here 16 = .ok (.getfield 102, 3) := by decide +kernel
theorem dX12_here_19 : decode cX12_here 19 = .ok (.iaload, 1) := by decide +kernel
theorem dX12_here_20 : decode cX12_here 20 = .ok (.goto 4, 3) := by decide +kernel
theorem dX12_here_23 : decode cX12_here 23 = .ok (.iconst (-1), 1) := by decide +kernel
theorem dX12_here_24 : decode cX12_here 24 = .ok (.ireturn, 1) := by decide +kernel
theorem pyX12_here : PY yX12_here 0 := ⟨by decide +kernel, by decide +kernel, by decide +kernel⟩
def fX12_here (Y : LY) (S : HS) (l0 : Option Nat) : Option (Int32) :=
  (gI Y 12 1220 l0 S).bind fun v1 =>
  (gI Y 12 1206 l0 S).bind fun v5 =>
  if v5 ≤ v1 then
    some (-1)
  else
    (gR Y 12 1204 l0 S).bind fun v12 =>
    (gI Y 12 1220 l0 S).bind fun v16 =>
    (gA Y 14 v12 v16 S).bind fun v19 =>
    some v19
set_option maxRecDepth 100000 in
set_option maxHeartbeats 4000000 in
theorem mX12_here (l : Launch) {G : GG} {Y : LY} {S : HS} {l0 : Option Nat} {res : Int32} (hf : fX12_here Y S l0 = some res) : MM l yX12_here cX12_here 1 (some .int) 0 0 G Y S [va_rf l0] S (some (.int res)) := by
  refine mm_of2 (plainFor_of_name (by decide +kernel)) (Nat.le_of_ble_eq_true rfl) (c1c (cr _) c1n) ?_
  intro p e R s m args below meth c X H locs ls hP hl
  have X : Cx p R s m args meth c RX12 cX12_here 1 0 0 (fun q => q ∈ Y.1) G (some .int) := X
  have hx := X.1.1
  have hb := X.1.2.1
  have hl : LV ls 1 [(0, va_rf l0)] := hl
  unfold fX12_here at hf
  refine rw_aload_n X dX12_here_0 rfl (hl.at 0 rfl) ?_
  obtain ⟨v1, e1, hf⟩ := ob hf
  refine rw_getI X dX12_here_1 fl12_102 e1 rfl hP ?_
  refine rw_aload_n X dX12_here_4 rfl (hl.at 0 rfl) ?_
  obtain ⟨v5, e5, hf⟩ := ob hf
  refine rw_getI X dX12_here_5 fl12_98 e5 rfl hP ?_
  refine lv_icmp_ge hx hb (tgt := 23) dX12_here_8 (by decide) (fun c8 => ?_) (fun c8 => ?_)
  · have hf := ifp hf c8
    refine lv_iconst (v := (-1)) hx hb dX12_here_23 (by decide) ?_
    cases hf
    exact rw_iret X dX12_here_24 hP
  · have hf := ifn hf c8
    refine rw_aload_n X dX12_here_11 rfl (hl.at 0 rfl) ?_
    obtain ⟨v12, e12, hf⟩ := ob hf
    refine rw_getR X dX12_here_12 fl12_19 e12 rfl hP ?_
    refine rw_aload_n X dX12_here_15 rfl (hl.at 0 rfl) ?_
    obtain ⟨v16, e16, hf⟩ := ob hf
    refine rw_getI X dX12_here_16 fl12_102 e16 rfl hP ?_
    obtain ⟨v19, e19, hf⟩ := ob hf
    refine rw_iald X dX12_here_19 e19 hP ?_
    refine lv_goto (tgt := 24) hx hb dX12_here_20 (by decide) ?_
    cases hf
    exact rw_iret X dX12_here_24 hP
theorem dX12_digit_0 : decode cX12_digit 0 = .ok (.aload_n 0, 1) := by decide +kernel
theorem dX12_digit_1 : decode cX12_digit 1 = .ok (.invokevirtual 105, 3) := by decide +kernel
theorem dX12_digit_4 : decode cX12_digit 4 = .ok (.bipush 48, 2) := by decide +kernel
theorem dX12_digit_6 : decode cX12_digit 6 = .ok (.isub, 1) := by decide +kernel
theorem dX12_digit_7 : decode cX12_digit 7 = .ok (.istore_n 3, 1) := by decide +kernel
theorem dX12_digit_8 : decode cX12_digit 8 = .ok (.aload_n 0, 1) := by decide +kernel
theorem dX12_digit_9 : decode cX12_digit 9 = .ok (.dup, 1) := by decide +kernel
theorem dX12_digit_10 : decode cX12_digit 10 = .ok (.getfield 109, 3) := by decide +kernel
theorem dX12_digit_13 : decode cX12_digit 13 = .ok (.iload_n 3, 1) := by decide +kernel
theorem dX12_digit_14 : decode cX12_digit 14 = .ok (.iload_n 1, 1) := by decide +kernel
theorem dX12_digit_15 : decode cX12_digit 15 = .ok (.iload_n 2, 1) := by decide +kernel
theorem dX12_digit_16 : decode cX12_digit 16 = .ok (.invokestatic 94, 3) := by decide +kernel
theorem dX12_digit_19 : decode cX12_digit 19 = .ok (.ifCond .ne 7, 3) := by decide +kernel
theorem dX12_digit_22 : decode cX12_digit 22 = .ok (.iconst 1, 1) := by decide +kernel
theorem dX12_digit_23 : decode cX12_digit 23 = .ok (.goto 4, 3) := by decide +kernel
theorem dX12_digit_26 : decode cX12_digit 26 = .ok (.iconst 0, 1) := by decide +kernel
theorem dX12_digit_27 : decode cX12_digit 27 = .ok (.ior, 1) := by decide +kernel
theorem dX12_digit_28 : decode cX12_digit 28 = .ok (.putfield 109, 3) := by decide +kernel
theorem dX12_digit_31 : decode cX12_digit 31 = .ok (.aload_n 0, 1) := by decide +kernel
theorem dX12_digit_32 : decode cX12_digit 32 = .ok (.dup, 1) := by decide +kernel
theorem dX12_digit_33 : decode cX12_digit 33 = .ok (.getfield 102, 3) := by decide +kernel
theorem dX12_digit_36 : decode cX12_digit 36 = .ok (.aload_n 0, 1) := by decide +kernel
theorem dX12_digit_37 : decode cX12_digit 37 = .ok (.getfield 109, 3) := by decide +kernel
theorem dX12_digit_40 : decode cX12_digit 40 = .ok (.ifCond .eq 7, 3) := by decide +kernel
theorem dX12_digit_43 : decode cX12_digit 43 = .ok (.iconst 0, 1) := by decide +kernel
theorem dX12_digit_44 : decode cX12_digit 44 = .ok (.goto 4, 3) := by decide +kernel
theorem dX12_digit_47 : decode cX12_digit 47 = .ok (.iconst 1, 1) := by decide +kernel
theorem dX12_digit_48 : decode cX12_digit 48 = .ok (.iadd, 1) := by decide +kernel
theorem dX12_digit_49 : decode cX12_digit 49 = .ok (.putfield 102, 3) := by decide +kernel
theorem dX12_digit_52 : decode cX12_digit 52 = .ok (.aload_n 0, 1) := by decide +kernel
theorem dX12_digit_53 : decode cX12_digit 53 = .ok (.getfield 109, 3) := by decide +kernel
theorem dX12_digit_56 : decode cX12_digit 56 = .ok (.ifCond .eq 7, 3) := by decide +kernel
theorem dX12_digit_59 : decode cX12_digit 59 = .ok (.iconst 0, 1) := by decide +kernel
theorem dX12_digit_60 : decode cX12_digit 60 = .ok (.goto 4, 3) := by decide +kernel
theorem dX12_digit_63 : decode cX12_digit 63 = .ok (.iload_n 3, 1) := by decide +kernel
theorem dX12_digit_64 : decode cX12_digit 64 = .ok (.ireturn, 1) := by decide +kernel
theorem pyX12_digit : PY yX12_digit 2 := ⟨by decide +kernel, by decide +kernel, by decide +kernel⟩
def fX12_digit_27 (Y : LY) (S : HS) (l0 : Option Nat) (l3 : Int32) (s0 : Option Nat) (s1 : Int32) (s2 : Int32) : Option (HS × Int32) :=
  (pZ Y 12 1222 s0 (s1 ||| s2) S).bind fun S28 =>
  (gI Y 12 1220 l0 S28).bind fun v33 =>
  (gI Y 12 1222 l0 S28).bind fun v37 =>
  if v37 = 0 then
    (pI Y 12 1220 l0 (v33 + 1) S28).bind fun S49 =>
    (gI Y 12 1222 l0 S49).bind fun v53 =>
    if v53 = 0 then
      some (S49, l3)
    else
      some (S49, 0)
  else
    (pI Y 12 1220 l0 (v33 + 0) S28).bind fun S49 =>
    (gI Y 12 1222 l0 S49).bind fun v53 =>
    if v53 = 0 then
      some (S49, l3)
    else
      some (S49, 0)
set_option maxRecDepth 100000 in
set_option maxHeartbeats 4000000 in
theorem wX12_digit_27 {p : Program} {l : Launch} {e : Env} {R : Room} {s : State} {m : MethodId} {args : Array Value} {below : List Frame} {meth : Method} {c : Code} {G : GG} {Y : LY} {res : HS × Int32} (X : Cx p R s m args meth c RX12 cX12_digit 4 1 22 (fun q => q ∈ Y.1) G (some .int)) : ∀ (S : HS) (l0 : Option Nat) (l3 : Int32) (s0 : Option Nat) (s1 : Int32) (s2 : Int32), fX12_digit_27 Y S l0 l3 s0 s1 s2 = some res → ∀ (H : Heap) (locs : List Loc) (ls : Array Slot), HP (fun q => q ∈ Y.1) G Y s S H locs → LV ls 4 [(0, va_rf l0), (3, .int l3)] → W p l e R s m args below meth c H locs 0 0 (MQ below (QI G Y res.1 (some (.int res.2))) args s 0 0 (fun q => q ∈ Y.1)) (F0 m 27 ls (.int s2 :: (.int s1 :: (va_rf s0 :: [])))) := by
  have hx := X.1.1
  have hb := X.1.2.1
  intro S l0 l3 s0 s1 s2 hf H locs ls hP hl
  unfold fX12_digit_27 at hf
  refine lv_ior hx hb dX12_digit_27 ?_
  obtain ⟨S28, e28, hf⟩ := ob hf
  refine rw_putZ X dX12_digit_28 fl12_109 fw12_22 e28 rfl hP (fun H locs hP => ?_)
  refine rw_aload_n X dX12_digit_31 rfl (hl.at 0 rfl) ?_
  refine lv_dup hx hb dX12_digit_32 (cr _) ?_
  obtain ⟨v33, e33, hf⟩ := ob hf
  refine rw_getI X dX12_digit_33 fl12_102 e33 rfl hP ?_
  refine rw_aload_n X dX12_digit_36 rfl (hl.at 0 rfl) ?_
  obtain ⟨v37, e37, hf⟩ := ob hf
  refine rw_getI X dX12_digit_37 fl12_109 e37 rfl hP ?_
  refine lv_if_eq hx hb (tgt := 47) dX12_digit_40 (by decide) (fun c40 => ?_) (fun c40 => ?_)
  · have hf := ifp hf c40
    refine lv_iconst (v := 1) hx hb dX12_digit_47 (by decide) ?_
    refine lv_iadd hx hb dX12_digit_48 ?_
    obtain ⟨S49, e49, hf⟩ := ob hf
    refine rw_putI X dX12_digit_49 fl12_102 fw12_20 e49 rfl hP (fun H locs hP => ?_)
    refine rw_aload_n X dX12_digit_52 rfl (hl.at 0 rfl) ?_
    obtain ⟨v53, e53, hf⟩ := ob hf
    refine rw_getI X dX12_digit_53 fl12_109 e53 rfl hP ?_
    refine lv_if_eq hx hb (tgt := 63) dX12_digit_56 (by decide) (fun c56 => ?_) (fun c56 => ?_)
    · have hf := ifp hf c56
      refine lv_iload_n hx hb dX12_digit_63 rfl (hl.at 1 rfl) ?_
      cases hf
      exact rw_iret X dX12_digit_64 hP
    · have hf := ifn hf c56
      refine lv_iconst (v := 0) hx hb dX12_digit_59 (by decide) ?_
      refine lv_goto (tgt := 64) hx hb dX12_digit_60 (by decide) ?_
      cases hf
      exact rw_iret X dX12_digit_64 hP
  · have hf := ifn hf c40
    refine lv_iconst (v := 0) hx hb dX12_digit_43 (by decide) ?_
    refine lv_goto (tgt := 48) hx hb dX12_digit_44 (by decide) ?_
    refine lv_iadd hx hb dX12_digit_48 ?_
    obtain ⟨S49, e49, hf⟩ := ob hf
    refine rw_putI X dX12_digit_49 fl12_102 fw12_20 e49 rfl hP (fun H locs hP => ?_)
    refine rw_aload_n X dX12_digit_52 rfl (hl.at 0 rfl) ?_
    obtain ⟨v53, e53, hf⟩ := ob hf
    refine rw_getI X dX12_digit_53 fl12_109 e53 rfl hP ?_
    refine lv_if_eq hx hb (tgt := 63) dX12_digit_56 (by decide) (fun c56 => ?_) (fun c56 => ?_)
    · have hf := ifp hf c56
      refine lv_iload_n hx hb dX12_digit_63 rfl (hl.at 1 rfl) ?_
      cases hf
      exact rw_iret X dX12_digit_64 hP
    · have hf := ifn hf c56
      refine lv_iconst (v := 0) hx hb dX12_digit_59 (by decide) ?_
      refine lv_goto (tgt := 64) hx hb dX12_digit_60 (by decide) ?_
      cases hf
      exact rw_iret X dX12_digit_64 hP
def fX12_digit (Y : LY) (S : HS) (l0 : Option Nat) (l1 : Int32) (l2 : Int32) : Option (HS × Int32) :=
  (rcv Y 12 l0).bind fun _ =>
  (fX12_here Y S l0 ).bind fun v1 =>
  (gI Y 12 1222 l0 S).bind fun v10 =>
  (fX12_isIn Y S (v1 - 48) l1 l2).bind fun v16 =>
  if v16 = 0 then
    fX12_digit_27 Y S l0 (v1 - 48) l0 v10 1
  else
    fX12_digit_27 Y S l0 (v1 - 48) l0 v10 0
set_option maxRecDepth 100000 in
set_option maxHeartbeats 4000000 in
theorem mX12_digit (l : Launch) {G : GG} {Y : LY} {S : HS} {l0 : Option Nat} {l1 : Int32} {l2 : Int32} {res : HS × Int32} (hf : fX12_digit Y S l0 l1 l2 = some res) : MM l yX12_digit cX12_digit 4 (some .int) 1 22 G Y S [va_rf l0, .int l1, .int l2] res.1 (some (.int res.2)) := by
  refine mm_of2 (plainFor_of_name (by decide +kernel)) (Nat.le_of_ble_eq_true rfl) (c1c (cr _) (c1c (ci _) (c1c (ci _) c1n))) ?_
  intro p e R s m args below meth c X H locs ls hP hl
  have X : Cx p R s m args meth c RX12 cX12_digit 4 1 22 (fun q => q ∈ Y.1) G (some .int) := X
  have hx := X.1.1
  have hb := X.1.2.1
  have hl : LV ls 4 [(0, va_rf l0), (1, .int l1), (2, .int l2)] := hl
  unfold fX12_digit at hf
  refine rw_aload_n X dX12_digit_0 rfl (hl.at 0 rfl) ?_
  obtain ⟨u1, r1, hf⟩ := ob hf
  obtain ⟨v1, e1, hf⟩ := ob hf
  refine rw_callVi (As := []) X dX12_digit_1 clX12_105 pyX12_here (mX12_here l e1) (by decide) r1 rfl hP rfl (catL c1n (Nat.le_of_ble_eq_true rfl)) hl.1.1 (fun H locs hP => ?_)
  refine lv_bipush (v := 48) hx hb dX12_digit_4 (by decide) ?_
  refine lv_isub hx hb dX12_digit_6 ?_
  refine rv_istore_n X dX12_digit_7 rfl hl (by decide) rfl (fun ls hl => ?_)
  have hl : LV ls 4 [(3, .int (v1 - 48)), (0, va_rf l0), (1, .int l1), (2, .int l2)] := hl
  refine rw_aload_n X dX12_digit_8 rfl (hl.at 1 rfl) ?_
  refine lv_dup hx hb dX12_digit_9 (cr _) ?_
  obtain ⟨v10, e10, hf⟩ := ob hf
  refine rw_getI X dX12_digit_10 fl12_109 e10 rfl hP ?_
  refine lv_iload_n hx hb dX12_digit_13 rfl (hl.at 0 rfl) ?_
  refine lv_iload_n hx hb dX12_digit_14 rfl (hl.at 2 rfl) ?_
  refine lv_iload_n hx hb dX12_digit_15 rfl (hl.at 3 rfl) ?_
  obtain ⟨v16, e16, hf⟩ := ob hf
  refine rw_callSi (As := [.int (v1 - 48), .int l1, .int l2]) X dX12_digit_16 clX12_94 pyX12_isIn (mX12_isIn l e16) (by decide) hP rfl (catL (c1c (ci _) (c1c (cr _) c1n)) (Nat.le_of_ble_eq_true rfl)) hl.1.1 (fun H locs hP => ?_)
  refine lv_if_ne hx hb (tgt := 26) dX12_digit_19 (by decide) (fun c19 => ?_) (fun c19 => ?_)
  · have hf := ifn hf c19
    refine lv_iconst (v := 0) hx hb dX12_digit_26 (by decide) ?_
    exact wX12_digit_27 X S l0 (v1 - 48) l0 v10 0 hf _ _ _ hP (hl.sub [1, 0] rfl)
  · have hf := ifp hf c19
    refine lv_iconst (v := 1) hx hb dX12_digit_22 (by decide) ?_
    refine lv_goto (tgt := 27) hx hb dX12_digit_23 (by decide) ?_
    exact wX12_digit_27 X S l0 (v1 - 48) l0 v10 1 hf _ _ _ hP (hl.sub [1, 0] rfl)
theorem dX12_worth_0 : decode cX12_worth 0 = .ok (.aload_n 0, 1) := by decide +kernel
theorem dX12_worth_1 : decode cX12_worth 1 = .ok (.iconst 0, 1) := by decide +kernel
theorem dX12_worth_2 : decode cX12_worth 2 = .ok (.bipush 9, 2) := by decide +kernel
theorem dX12_worth_4 : decode cX12_worth 4 = .ok (.invokevirtual 113, 3) := by decide +kernel
theorem dX12_worth_7 : decode cX12_worth 7 = .ok (.istore_n 1, 1) := by decide +kernel
theorem dX12_worth_8 : decode cX12_worth 8 = .ok (.aload_n 0, 1) := by decide +kernel
theorem dX12_worth_9 : decode cX12_worth 9 = .ok (.getfield 109, 3) := by decide +kernel
theorem dX12_worth_12 : decode cX12_worth 12 = .ok (.ifCond .ne 32, 3) := by decide +kernel
theorem dX12_worth_15 : decode cX12_worth 15 = .ok (.aload_n 0, 1) := by decide +kernel
theorem dX12_worth_16 : decode cX12_worth 16 = .ok (.invokevirtual 105, 3) := by decide +kernel
theorem dX12_worth_19 : decode cX12_worth 19 = .ok (.bipush 48, 2) := by decide +kernel
theorem dX12_worth_21 : decode cX12_worth 21 = .ok (.bipush 57, 2) := by decide +kernel
theorem dX12_worth_23 : decode cX12_worth 23 = .ok (.invokestatic 94, 3) := by decide +kernel
theorem dX12_worth_26 : decode cX12_worth 26 = .ok (.ifCond .eq 18, 3) := by decide +kernel
theorem dX12_worth_29 : decode cX12_worth 29 = .ok (.bipush 10, 2) := by decide +kernel
theorem dX12_worth_31 : decode cX12_worth 31 = .ok (.iload_n 1, 1) := by decide +kernel
theorem dX12_worth_32 : decode cX12_worth 32 = .ok (.imul, 1) := by decide +kernel
theorem dX12_worth_33 : decode cX12_worth 33 = .ok (.aload_n 0, 1) := by decide +kernel
theorem dX12_worth_34 : decode cX12_worth 34 = .ok (.iconst 0, 1) := by decide +kernel
theorem dX12_worth_35 : decode cX12_worth 35 = .ok (.bipush 9, 2) := by decide +kernel
theorem dX12_worth_37 : decode cX12_worth 37 = .ok (.invokevirtual 113, 3) := by decide +kernel
theorem dX12_worth_40 : decode cX12_worth 40 = .ok (.iadd, 1) := by decide +kernel
theorem dX12_worth_41 : decode cX12_worth 41 = .ok (.goto 4, 3) := by decide +kernel
theorem dX12_worth_44 : decode cX12_worth 44 = .ok (.iload_n 1, 1) := by decide +kernel
theorem dX12_worth_45 : decode cX12_worth 45 = .ok (.ireturn, 1) := by decide +kernel
theorem pyX12_worth : PY yX12_worth 0 := ⟨by decide +kernel, by decide +kernel, by decide +kernel⟩
def fX12_worth (Y : LY) (S : HS) (l0 : Option Nat) : Option (HS × Int32) :=
  (rcv Y 12 l0).bind fun _ =>
  (fX12_digit Y S l0 0 9).bind fun q4 =>
  (gI Y 12 1222 l0 q4.1).bind fun v9 =>
  if v9 = 0 then
    (rcv Y 12 l0).bind fun _ =>
    (fX12_here Y q4.1 l0 ).bind fun v16 =>
    (fX12_isIn Y q4.1 v16 48 57).bind fun v23 =>
    if v23 = 0 then
      some (q4.1, q4.2)
    else
      (rcv Y 12 l0).bind fun _ =>
      (fX12_digit Y q4.1 l0 0 9).bind fun q37 =>
      some (q37.1, ((10 * q4.2) + q37.2))
  else
    some (q4.1, q4.2)
set_option maxRecDepth 100000 in
set_option maxHeartbeats 4000000 in
theorem mX12_worth (l : Launch) {G : GG} {Y : LY} {S : HS} {l0 : Option Nat} {res : HS × Int32} (hf : fX12_worth Y S l0 = some res) : MM l yX12_worth cX12_worth 2 (some .int) 2 45 G Y S [va_rf l0] res.1 (some (.int res.2)) := by
  refine mm_of2 (plainFor_of_name (by decide +kernel)) (Nat.le_of_ble_eq_true rfl) (c1c (cr _) c1n) ?_
  intro p e R s m args below meth c X H locs ls hP hl
  have X : Cx p R s m args meth c RX12 cX12_worth 2 2 45 (fun q => q ∈ Y.1) G (some .int) := X
  have hx := X.1.1
  have hb := X.1.2.1
  have hl : LV ls 2 [(0, va_rf l0)] := hl
  unfold fX12_worth at hf
  refine rw_aload_n X dX12_worth_0 rfl (hl.at 0 rfl) ?_
  refine lv_iconst (v := 0) hx hb dX12_worth_1 (by decide) ?_
  refine lv_bipush (v := 9) hx hb dX12_worth_2 (by decide) ?_
  obtain ⟨u4, r4, hf⟩ := ob hf
  obtain ⟨q4, e4, hf⟩ := ob hf
  refine rw_callVi (As := [.int 0, .int 9]) X dX12_worth_4 clX12_113 pyX12_digit (mX12_digit l e4) (by decide) r4 rfl hP rfl (catL c1n (Nat.le_of_ble_eq_true rfl)) hl.1.1 (fun H locs hP => ?_)
  refine rv_istore_n X dX12_worth_7 rfl hl (by decide) rfl (fun ls hl => ?_)
  have hl : LV ls 2 [(1, .int q4.2), (0, va_rf l0)] := hl
  refine rw_aload_n X dX12_worth_8 rfl (hl.at 1 rfl) ?_
  obtain ⟨v9, e9, hf⟩ := ob hf
  refine rw_getI X dX12_worth_9 fl12_109 e9 rfl hP ?_
  refine lv_if_ne hx hb (tgt := 44) dX12_worth_12 (by decide) (fun c12 => ?_) (fun c12 => ?_)
  · have hf := ifn hf c12
    refine lv_iload_n hx hb dX12_worth_44 rfl (hl.at 0 rfl) ?_
    cases hf
    exact rw_iret X dX12_worth_45 hP
  · have hf := ifp hf c12
    refine rw_aload_n X dX12_worth_15 rfl (hl.at 1 rfl) ?_
    obtain ⟨u16, r16, hf⟩ := ob hf
    obtain ⟨v16, e16, hf⟩ := ob hf
    refine rw_callVi (As := []) X dX12_worth_16 clX12_105 pyX12_here (mX12_here l e16) (by decide) r16 rfl hP rfl (catL c1n (Nat.le_of_ble_eq_true rfl)) hl.1.1 (fun H locs hP => ?_)
    refine lv_bipush (v := 48) hx hb dX12_worth_19 (by decide) ?_
    refine lv_bipush (v := 57) hx hb dX12_worth_21 (by decide) ?_
    obtain ⟨v23, e23, hf⟩ := ob hf
    refine rw_callSi (As := [.int v16, .int 48, .int 57]) X dX12_worth_23 clX12_94 pyX12_isIn (mX12_isIn l e23) (by decide) hP rfl (catL c1n (Nat.le_of_ble_eq_true rfl)) hl.1.1 (fun H locs hP => ?_)
    refine lv_if_eq hx hb (tgt := 44) dX12_worth_26 (by decide) (fun c26 => ?_) (fun c26 => ?_)
    · have hf := ifp hf c26
      refine lv_iload_n hx hb dX12_worth_44 rfl (hl.at 0 rfl) ?_
      cases hf
      exact rw_iret X dX12_worth_45 hP
    · have hf := ifn hf c26
      refine lv_bipush (v := 10) hx hb dX12_worth_29 (by decide) ?_
      refine lv_iload_n hx hb dX12_worth_31 rfl (hl.at 0 rfl) ?_
      refine lv_imul hx hb dX12_worth_32 ?_
      refine rw_aload_n X dX12_worth_33 rfl (hl.at 1 rfl) ?_
      refine lv_iconst (v := 0) hx hb dX12_worth_34 (by decide) ?_
      refine lv_bipush (v := 9) hx hb dX12_worth_35 (by decide) ?_
      obtain ⟨u37, r37, hf⟩ := ob hf
      obtain ⟨q37, e37, hf⟩ := ob hf
      refine rw_callVi (As := [.int 0, .int 9]) X dX12_worth_37 clX12_113 pyX12_digit (mX12_digit l e37) (by decide) r37 rfl hP rfl (catL (c1c (ci _) c1n) (Nat.le_of_ble_eq_true rfl)) hl.1.1 (fun H locs hP => ?_)
      refine lv_iadd hx hb dX12_worth_40 ?_
      refine lv_goto (tgt := 45) hx hb dX12_worth_41 (by decide) ?_
      cases hf
      exact rw_iret X dX12_worth_45 hP
theorem dX12_sign_0 : decode cX12_sign 0 = .ok (.aload_n 0, 1) := by decide +kernel
theorem dX12_sign_1 : decode cX12_sign 1 = .ok (.invokevirtual 105, 3) := by decide +kernel
theorem dX12_sign_4 : decode cX12_sign 4 = .ok (.istore_n 2, 1) := by decide +kernel
theorem dX12_sign_5 : decode cX12_sign 5 = .ok (.iload_n 1, 1) := by decide +kernel
theorem dX12_sign_6 : decode cX12_sign 6 = .ok (.ifCond .eq 38, 3) := by decide +kernel
theorem dX12_sign_9 : decode cX12_sign 9 = .ok (.iload_n 2, 1) := by decide +kernel
theorem dX12_sign_10 : decode cX12_sign 10 = .ok (.bipush 58, 2) := by decide +kernel
theorem dX12_sign_12 : decode cX12_sign 12 = .ok (.if_icmp .ne 7, 3) := by decide +kernel
theorem dX12_sign_15 : decode cX12_sign 15 = .ok (.iconst 4, 1) := by decide +kernel
theorem dX12_sign_16 : decode cX12_sign 16 = .ok (.goto 59, 3) := by decide +kernel
theorem dX12_sign_19 : decode cX12_sign 19 = .ok (.iload_n 2, 1) := by decide +kernel
theorem dX12_sign_20 : decode cX12_sign 20 = .ok (.bipush 43, 2) := by decide +kernel
theorem dX12_sign_22 : decode cX12_sign 22 = .ok (.if_icmp .ne 7, 3) := by decide +kernel
theorem dX12_sign_25 : decode cX12_sign 25 = .ok (.iconst 5, 1) := by decide +kernel
theorem dX12_sign_26 : decode cX12_sign 26 = .ok (.goto 49, 3) := by decide +kernel
theorem dX12_sign_29 : decode cX12_sign 29 = .ok (.iload_n 2, 1) := by decide +kernel
theorem dX12_sign_30 : decode cX12_sign 30 = .ok (.bipush 45, 2) := by decide +kernel
theorem dX12_sign_32 : decode cX12_sign 32 = .ok (.if_icmp .ne 8, 3) := by decide +kernel
theorem dX12_sign_35 : decode cX12_sign 35 = .ok (.bipush 6, 2) := by decide +kernel
theorem dX12_sign_37 : decode cX12_sign 37 = .ok (.goto 38, 3) := by decide +kernel
theorem dX12_sign_40 : decode cX12_sign 40 = .ok (.iconst 0, 1) := by decide +kernel
theorem dX12_sign_41 : decode cX12_sign 41 = .ok (.goto 34, 3) := by decide +kernel
theorem dX12_sign_44 : decode cX12_sign 44 = .ok (.iload_n 2, 1) := by decide +kernel
theorem dX12_sign_45 : decode cX12_sign 45 = .ok (.bipush 60, 2) := by decide +kernel
theorem dX12_sign_47 : decode cX12_sign 47 = .ok (.if_icmp .ne 7, 3) := by decide +kernel
theorem dX12_sign_50 : decode cX12_sign 50 = .ok (.iconst 1, 1) := by decide +kernel
theorem dX12_sign_51 : decode cX12_sign 51 = .ok (.goto 24, 3) := by decide +kernel
theorem dX12_sign_54 : decode cX12_sign 54 = .ok (.iload_n 2, 1) := by decide +kernel
theorem dX12_sign_55 : decode cX12_sign 55 = .ok (.bipush 61, 2) := by decide +kernel
theorem dX12_sign_57 : decode cX12_sign 57 = .ok (.if_icmp .ne 7, 3) := by decide +kernel
theorem dX12_sign_60 : decode cX12_sign 60 = .ok (.iconst 2, 1) := by decide +kernel
theorem dX12_sign_61 : decode cX12_sign 61 = .ok (.goto 14, 3) := by decide +kernel
theorem dX12_sign_64 : decode cX12_sign 64 = .ok (.iload_n 2, 1) := by decide +kernel
theorem dX12_sign_65 : decode cX12_sign 65 = .ok (.bipush 62, 2) := by decide +kernel
theorem dX12_sign_67 : decode cX12_sign 67 = .ok (.if_icmp .ne 7, 3) := by decide +kernel
theorem dX12_sign_70 : decode cX12_sign 70 = .ok (.iconst 3, 1) := by decide +kernel
theorem dX12_sign_71 : decode cX12_sign 71 = .ok (.goto 4, 3) := by decide +kernel
theorem dX12_sign_74 : decode cX12_sign 74 = .ok (.iconst 0, 1) := by decide +kernel
theorem dX12_sign_75 : decode cX12_sign 75 = .ok (.istore_n 3, 1) := by decide +kernel
theorem dX12_sign_76 : decode cX12_sign 76 = .ok (.aload_n 0, 1) := by decide +kernel
theorem dX12_sign_77 : decode cX12_sign 77 = .ok (.dup, 1) := by decide +kernel
theorem dX12_sign_78 : decode cX12_sign 78 = .ok (.getfield 109, 3) := by decide +kernel
theorem dX12_sign_81 : decode cX12_sign 81 = .ok (.iload_n 3, 1) := by decide +kernel
theorem dX12_sign_82 : decode cX12_sign 82 = .ok (.ifCond .ne 7, 3) := by decide +kernel
theorem dX12_sign_85 : decode cX12_sign 85 = .ok (.iconst 1, 1) := by decide +kernel
theorem dX12_sign_86 : decode cX12_sign 86 = .ok (.goto 4, 3) := by decide +kernel
theorem dX12_sign_89 : decode cX12_sign 89 = .ok (.iconst 0, 1) := by decide +kernel
theorem dX12_sign_90 : decode cX12_sign 90 = .ok (.ior, 1) := by decide +kernel
theorem dX12_sign_91 : decode cX12_sign 91 = .ok (.putfield 109, 3) := by decide +kernel
theorem dX12_sign_94 : decode cX12_sign 94 = .ok (.aload_n 0, 1) := by decide +kernel
theorem dX12_sign_95 : decode cX12_sign 95 = .ok (.dup, 1) := by decide +kernel
theorem dX12_sign_96 : decode cX12_sign 96 = .ok (.getfield 102, 3) := by decide +kernel
theorem dX12_sign_99 : decode cX12_sign 99 = .ok (.aload_n 0, 1) := by decide +kernel
theorem dX12_sign_100 : decode cX12_sign 100 = .ok (.getfield 109, 3) := by decide +kernel
theorem dX12_sign_103 : decode cX12_sign 103 = .ok (.ifCond .eq 7, 3) := by decide +kernel
theorem dX12_sign_106 : decode cX12_sign 106 = .ok (.iconst 0, 1) := by decide +kernel
theorem dX12_sign_107 : decode cX12_sign 107 = .ok (.goto 4, 3) := by decide +kernel
theorem dX12_sign_110 : decode cX12_sign 110 = .ok (.iconst 1, 1) := by decide +kernel
theorem dX12_sign_111 : decode cX12_sign 111 = .ok (.iadd, 1) := by decide +kernel
theorem dX12_sign_112 : decode cX12_sign 112 = .ok (.putfield 102, 3) := by decide +kernel
theorem dX12_sign_115 : decode cX12_sign 115 = .ok (.iload_n 3, 1) := by decide +kernel
theorem dX12_sign_116 : decode cX12_sign 116 = .ok (.ireturn, 1) := by decide +kernel
theorem pyX12_sign : PY yX12_sign 1 := ⟨by decide +kernel, by decide +kernel, by decide +kernel⟩
def fX12_sign_90 (Y : LY) (S : HS) (l0 : Option Nat) (l3 : Int32) (s0 : Option Nat) (s1 : Int32) (s2 : Int32) : Option (HS × Int32) :=
  (pZ Y 12 1222 s0 (s1 ||| s2) S).bind fun S91 =>
  (gI Y 12 1220 l0 S91).bind fun v96 =>
  (gI Y 12 1222 l0 S91).bind fun v100 =>
  if v100 = 0 then
    (pI Y 12 1220 l0 (v96 + 1) S91).bind fun S112 =>
    some (S112, l3)
  else
    (pI Y 12 1220 l0 (v96 + 0) S91).bind fun S112 =>
    some (S112, l3)
set_option maxRecDepth 100000 in
set_option maxHeartbeats 4000000 in
theorem wX12_sign_90 {p : Program} {l : Launch} {e : Env} {R : Room} {s : State} {m : MethodId} {args : Array Value} {below : List Frame} {meth : Method} {c : Code} {G : GG} {Y : LY} {res : HS × Int32} (X : Cx p R s m args meth c RX12 cX12_sign 4 1 20 (fun q => q ∈ Y.1) G (some .int)) : ∀ (S : HS) (l0 : Option Nat) (l3 : Int32) (s0 : Option Nat) (s1 : Int32) (s2 : Int32), fX12_sign_90 Y S l0 l3 s0 s1 s2 = some res → ∀ (H : Heap) (locs : List Loc) (ls : Array Slot), HP (fun q => q ∈ Y.1) G Y s S H locs → LV ls 4 [(0, va_rf l0), (3, .int l3)] → W p l e R s m args below meth c H locs 0 0 (MQ below (QI G Y res.1 (some (.int res.2))) args s 0 0 (fun q => q ∈ Y.1)) (F0 m 90 ls (.int s2 :: (.int s1 :: (va_rf s0 :: [])))) := by
  have hx := X.1.1
  have hb := X.1.2.1
  intro S l0 l3 s0 s1 s2 hf H locs ls hP hl
  unfold fX12_sign_90 at hf
  refine lv_ior hx hb dX12_sign_90 ?_
  obtain ⟨S91, e91, hf⟩ := ob hf
  refine rw_putZ X dX12_sign_91 fl12_109 fw12_22 e91 rfl hP (fun H locs hP => ?_)
  refine rw_aload_n X dX12_sign_94 rfl (hl.at 0 rfl) ?_
  refine lv_dup hx hb dX12_sign_95 (cr _) ?_
  obtain ⟨v96, e96, hf⟩ := ob hf
  refine rw_getI X dX12_sign_96 fl12_102 e96 rfl hP ?_
  refine rw_aload_n X dX12_sign_99 rfl (hl.at 0 rfl) ?_
  obtain ⟨v100, e100, hf⟩ := ob hf
  refine rw_getI X dX12_sign_100 fl12_109 e100 rfl hP ?_
  refine lv_if_eq hx hb (tgt := 110) dX12_sign_103 (by decide) (fun c103 => ?_) (fun c103 => ?_)
  · have hf := ifp hf c103
    refine lv_iconst (v := 1) hx hb dX12_sign_110 (by decide) ?_
    refine lv_iadd hx hb dX12_sign_111 ?_
    obtain ⟨S112, e112, hf⟩ := ob hf
    refine rw_putI X dX12_sign_112 fl12_102 fw12_20 e112 rfl hP (fun H locs hP => ?_)
    refine lv_iload_n hx hb dX12_sign_115 rfl (hl.at 1 rfl) ?_
    cases hf
    exact rw_iret X dX12_sign_116 hP
  · have hf := ifn hf c103
    refine lv_iconst (v := 0) hx hb dX12_sign_106 (by decide) ?_
    refine lv_goto (tgt := 111) hx hb dX12_sign_107 (by decide) ?_
    refine lv_iadd hx hb dX12_sign_111 ?_
    obtain ⟨S112, e112, hf⟩ := ob hf
    refine rw_putI X dX12_sign_112 fl12_102 fw12_20 e112 rfl hP (fun H locs hP => ?_)
    refine lv_iload_n hx hb dX12_sign_115 rfl (hl.at 1 rfl) ?_
    cases hf
    exact rw_iret X dX12_sign_116 hP
def fX12_sign_75 (Y : LY) (S : HS) (l0 : Option Nat) (s0 : Int32) : Option (HS × Int32) :=
  (gI Y 12 1222 l0 S).bind fun v78 =>
  if s0 = 0 then
    fX12_sign_90 Y S l0 s0 l0 v78 1
  else
    fX12_sign_90 Y S l0 s0 l0 v78 0
set_option maxRecDepth 100000 in
set_option maxHeartbeats 4000000 in
theorem wX12_sign_75 {p : Program} {l : Launch} {e : Env} {R : Room} {s : State} {m : MethodId} {args : Array Value} {below : List Frame} {meth : Method} {c : Code} {G : GG} {Y : LY} {res : HS × Int32} (X : Cx p R s m args meth c RX12 cX12_sign 4 1 20 (fun q => q ∈ Y.1) G (some .int)) : ∀ (S : HS) (l0 : Option Nat) (s0 : Int32), fX12_sign_75 Y S l0 s0 = some res → ∀ (H : Heap) (locs : List Loc) (ls : Array Slot), HP (fun q => q ∈ Y.1) G Y s S H locs → LV ls 4 [(0, va_rf l0)] → W p l e R s m args below meth c H locs 0 0 (MQ below (QI G Y res.1 (some (.int res.2))) args s 0 0 (fun q => q ∈ Y.1)) (F0 m 75 ls (.int s0 :: [])) := by
  have hx := X.1.1
  have hb := X.1.2.1
  intro S l0 s0 hf H locs ls hP hl
  unfold fX12_sign_75 at hf
  refine rv_istore_n X dX12_sign_75 rfl hl (by decide) rfl (fun ls hl => ?_)
  have hl : LV ls 4 [(3, .int s0), (0, va_rf l0)] := hl
  refine rw_aload_n X dX12_sign_76 rfl (hl.at 1 rfl) ?_
  refine lv_dup hx hb dX12_sign_77 (cr _) ?_
  obtain ⟨v78, e78, hf⟩ := ob hf
  refine rw_getI X dX12_sign_78 fl12_109 e78 rfl hP ?_
  refine lv_iload_n hx hb dX12_sign_81 rfl (hl.at 0 rfl) ?_
  refine lv_if_ne hx hb (tgt := 89) dX12_sign_82 (by decide) (fun c82 => ?_) (fun c82 => ?_)
  · have hf := ifn hf c82
    refine lv_iconst (v := 0) hx hb dX12_sign_89 (by decide) ?_
    exact wX12_sign_90 X S l0 s0 l0 v78 0 hf _ _ _ hP (hl.sub [1, 0] rfl)
  · have hf := ifp hf c82
    refine lv_iconst (v := 1) hx hb dX12_sign_85 (by decide) ?_
    refine lv_goto (tgt := 90) hx hb dX12_sign_86 (by decide) ?_
    exact wX12_sign_90 X S l0 s0 l0 v78 1 hf _ _ _ hP (hl.sub [1, 0] rfl)
def fX12_sign (Y : LY) (S : HS) (l0 : Option Nat) (l1 : Int32) : Option (HS × Int32) :=
  (rcv Y 12 l0).bind fun _ =>
  (fX12_here Y S l0 ).bind fun v1 =>
  if l1 = 0 then
    if v1 = 60 then
      fX12_sign_75 Y S l0 1
    else
      if v1 = 61 then
        fX12_sign_75 Y S l0 2
      else
        if v1 = 62 then
          fX12_sign_75 Y S l0 3
        else
          fX12_sign_75 Y S l0 0
  else
    if v1 = 58 then
      fX12_sign_75 Y S l0 4
    else
      if v1 = 43 then
        fX12_sign_75 Y S l0 5
      else
        if v1 = 45 then
          fX12_sign_75 Y S l0 6
        else
          fX12_sign_75 Y S l0 0
set_option maxRecDepth 100000 in
set_option maxHeartbeats 4000000 in
theorem mX12_sign (l : Launch) {G : GG} {Y : LY} {S : HS} {l0 : Option Nat} {l1 : Int32} {res : HS × Int32} (hf : fX12_sign Y S l0 l1 = some res) : MM l yX12_sign cX12_sign 4 (some .int) 1 20 G Y S [va_rf l0, .int l1] res.1 (some (.int res.2)) := by
  refine mm_of2 (plainFor_of_name (by decide +kernel)) (Nat.le_of_ble_eq_true rfl) (c1c (cr _) (c1c (ci _) c1n)) ?_
  intro p e R s m args below meth c X H locs ls hP hl
  have X : Cx p R s m args meth c RX12 cX12_sign 4 1 20 (fun q => q ∈ Y.1) G (some .int) := X
  have hx := X.1.1
  have hb := X.1.2.1
  have hl : LV ls 4 [(0, va_rf l0), (1, .int l1)] := hl
  unfold fX12_sign at hf
  refine rw_aload_n X dX12_sign_0 rfl (hl.at 0 rfl) ?_
  obtain ⟨u1, r1, hf⟩ := ob hf
  obtain ⟨v1, e1, hf⟩ := ob hf
  refine rw_callVi (As := []) X dX12_sign_1 clX12_105 pyX12_here (mX12_here l e1) (by decide) r1 rfl hP rfl (catL c1n (Nat.le_of_ble_eq_true rfl)) hl.1.1 (fun H locs hP => ?_)
  refine rv_istore_n X dX12_sign_4 rfl hl (by decide) rfl (fun ls hl => ?_)
  have hl : LV ls 4 [(2, .int v1), (0, va_rf l0), (1, .int l1)] := hl
  refine lv_iload_n hx hb dX12_sign_5 rfl (hl.at 2 rfl) ?_
  refine lv_if_eq hx hb (tgt := 44) dX12_sign_6 (by decide) (fun c6 => ?_) (fun c6 => ?_)
  · have hf := ifp hf c6
    refine lv_iload_n hx hb dX12_sign_44 rfl (hl.at 0 rfl) ?_
    refine lv_bipush (v := 60) hx hb dX12_sign_45 (by decide) ?_
    refine lv_icmp_ne hx hb (tgt := 54) dX12_sign_47 (by decide) (fun c47 => ?_) (fun c47 => ?_)
    · have hf := ifn hf c47
      refine lv_iload_n hx hb dX12_sign_54 rfl (hl.at 0 rfl) ?_
      refine lv_bipush (v := 61) hx hb dX12_sign_55 (by decide) ?_
      refine lv_icmp_ne hx hb (tgt := 64) dX12_sign_57 (by decide) (fun c57 => ?_) (fun c57 => ?_)
      · have hf := ifn hf c57
        refine lv_iload_n hx hb dX12_sign_64 rfl (hl.at 0 rfl) ?_
        refine lv_bipush (v := 62) hx hb dX12_sign_65 (by decide) ?_
        refine lv_icmp_ne hx hb (tgt := 74) dX12_sign_67 (by decide) (fun c67 => ?_) (fun c67 => ?_)
        · have hf := ifn hf c67
          refine lv_iconst (v := 0) hx hb dX12_sign_74 (by decide) ?_
          exact wX12_sign_75 X S l0 0 hf _ _ _ hP (hl.sub [1] rfl)
        · have hf := ifp hf c67
          refine lv_iconst (v := 3) hx hb dX12_sign_70 (by decide) ?_
          refine lv_goto (tgt := 75) hx hb dX12_sign_71 (by decide) ?_
          exact wX12_sign_75 X S l0 3 hf _ _ _ hP (hl.sub [1] rfl)
      · have hf := ifp hf c57
        refine lv_iconst (v := 2) hx hb dX12_sign_60 (by decide) ?_
        refine lv_goto (tgt := 75) hx hb dX12_sign_61 (by decide) ?_
        exact wX12_sign_75 X S l0 2 hf _ _ _ hP (hl.sub [1] rfl)
    · have hf := ifp hf c47
      refine lv_iconst (v := 1) hx hb dX12_sign_50 (by decide) ?_
      refine lv_goto (tgt := 75) hx hb dX12_sign_51 (by decide) ?_
      exact wX12_sign_75 X S l0 1 hf _ _ _ hP (hl.sub [1] rfl)
  · have hf := ifn hf c6
    refine lv_iload_n hx hb dX12_sign_9 rfl (hl.at 0 rfl) ?_
    refine lv_bipush (v := 58) hx hb dX12_sign_10 (by decide) ?_
    refine lv_icmp_ne hx hb (tgt := 19) dX12_sign_12 (by decide) (fun c12 => ?_) (fun c12 => ?_)
    · have hf := ifn hf c12
      refine lv_iload_n hx hb dX12_sign_19 rfl (hl.at 0 rfl) ?_
      refine lv_bipush (v := 43) hx hb dX12_sign_20 (by decide) ?_
      refine lv_icmp_ne hx hb (tgt := 29) dX12_sign_22 (by decide) (fun c22 => ?_) (fun c22 => ?_)
      · have hf := ifn hf c22
        refine lv_iload_n hx hb dX12_sign_29 rfl (hl.at 0 rfl) ?_
        refine lv_bipush (v := 45) hx hb dX12_sign_30 (by decide) ?_
        refine lv_icmp_ne hx hb (tgt := 40) dX12_sign_32 (by decide) (fun c32 => ?_) (fun c32 => ?_)
        · have hf := ifn hf c32
          refine lv_iconst (v := 0) hx hb dX12_sign_40 (by decide) ?_
          refine lv_goto (tgt := 75) hx hb dX12_sign_41 (by decide) ?_
          exact wX12_sign_75 X S l0 0 hf _ _ _ hP (hl.sub [1] rfl)
        · have hf := ifp hf c32
          refine lv_bipush (v := 6) hx hb dX12_sign_35 (by decide) ?_
          refine lv_goto (tgt := 75) hx hb dX12_sign_37 (by decide) ?_
          exact wX12_sign_75 X S l0 6 hf _ _ _ hP (hl.sub [1] rfl)
      · have hf := ifp hf c22
        refine lv_iconst (v := 5) hx hb dX12_sign_25 (by decide) ?_
        refine lv_goto (tgt := 75) hx hb dX12_sign_26 (by decide) ?_
        exact wX12_sign_75 X S l0 5 hf _ _ _ hP (hl.sub [1] rfl)
    · have hf := ifp hf c12
      refine lv_iconst (v := 4) hx hb dX12_sign_15 (by decide) ?_
      refine lv_goto (tgt := 75) hx hb dX12_sign_16 (by decide) ?_
      exact wX12_sign_75 X S l0 4 hf _ _ _ hP (hl.sub [1] rfl)
theorem dX12_deed_0 : decode cX12_deed 0 = .ok (.aload_n 0, 1) := by decide +kernel
theorem dX12_deed_1 : decode cX12_deed 1 = .ok (.getfield 73, 3) := by decide +kernel
theorem dX12_deed_4 : decode cX12_deed 4 = .ok (.iload_n 1, 1) := by decide +kernel
theorem dX12_deed_5 : decode cX12_deed 5 = .ok (.aload_n 0, 1) := by decide +kernel
theorem dX12_deed_6 : decode cX12_deed 6 = .ok (.iconst 0, 1) := by decide +kernel
theorem dX12_deed_7 : decode cX12_deed 7 = .ok (.bipush 7, 2) := by decide +kernel
theorem dX12_deed_9 : decode cX12_deed 9 = .ok (.invokevirtual 113, 3) := by decide +kernel
theorem dX12_deed_12 : decode cX12_deed 12 = .ok (.iastore, 1) := by decide +kernel
theorem dX12_deed_13 : decode cX12_deed 13 = .ok (.aload_n 0, 1) := by decide +kernel
theorem dX12_deed_14 : decode cX12_deed 14 = .ok (.getfield 109, 3) := by decide +kernel
theorem dX12_deed_17 : decode cX12_deed 17 = .ok (.ifCond .ne 14, 3) := by decide +kernel
theorem dX12_deed_20 : decode cX12_deed 20 = .ok (.aload_n 0, 1) := by decide +kernel
theorem dX12_deed_21 : decode cX12_deed 21 = .ok (.getfield 76, 3) := by decide +kernel
theorem dX12_deed_24 : decode cX12_deed 24 = .ok (.iload_n 1, 1) := by decide +kernel
theorem dX12_deed_25 : decode cX12_deed 25 = .ok (.aload_n 0, 1) := by decide +kernel
theorem dX12_deed_26 : decode cX12_deed 26 = .ok (.iload_n 2, 1) := by decide +kernel
theorem dX12_deed_27 : decode cX12_deed 27 = .ok (.invokevirtual 117, 3) := by decide +kernel
theorem dX12_deed_30 : decode cX12_deed 30 = .ok (.iastore, 1) := by decide +kernel
theorem dX12_deed_31 : decode cX12_deed 31 = .ok (.aload_n 0, 1) := by decide +kernel
theorem dX12_deed_32 : decode cX12_deed 32 = .ok (.getfield 109, 3) := by decide +kernel
theorem dX12_deed_35 : decode cX12_deed 35 = .ok (.ifCond .ne 13, 3) := by decide +kernel
theorem dX12_deed_38 : decode cX12_deed 38 = .ok (.aload_n 0, 1) := by decide +kernel
theorem dX12_deed_39 : decode cX12_deed 39 = .ok (.getfield 79, 3) := by decide +kernel
theorem dX12_deed_42 : decode cX12_deed 42 = .ok (.iload_n 1, 1) := by decide +kernel
theorem dX12_deed_43 : decode cX12_deed 43 = .ok (.aload_n 0, 1) := by decide +kernel
theorem dX12_deed_44 : decode cX12_deed 44 = .ok (.invokevirtual 121, 3) := by decide +kernel
theorem dX12_deed_47 : decode cX12_deed 47 = .ok (.iastore, 1) := by decide +kernel
theorem dX12_deed_48 : decode cX12_deed 48 = .ok (.return_, 1) := by decide +kernel
theorem pyX12_deed : PY yX12_deed 2 := ⟨by decide +kernel, by decide +kernel, by decide +kernel⟩
def fX12_deed_31 (Y : LY) (S : HS) (l0 : Option Nat) (l1 : Int32) : Option (HS) :=
  (gI Y 12 1222 l0 S).bind fun v32 =>
  if v32 = 0 then
    (gR Y 12 1230 l0 S).bind fun v39 =>
    (rcv Y 12 l0).bind fun _ =>
    (fX12_worth Y S l0 ).bind fun q44 =>
    (pA Y 14 v39 l1 q44.2 q44.1).bind fun S47 =>
    some S47
  else
    some S
set_option maxRecDepth 100000 in
set_option maxHeartbeats 4000000 in
theorem wX12_deed_31 {p : Program} {l : Launch} {e : Env} {R : Room} {s : State} {m : MethodId} {args : Array Value} {below : List Frame} {meth : Method} {c : Code} {G : GG} {Y : LY} {res : HS} (X : Cx p R s m args meth c RX12 cX12_deed 3 3 66 (fun q => q ∈ Y.1) G none) : ∀ (S : HS) (l0 : Option Nat) (l1 : Int32), fX12_deed_31 Y S l0 l1 = some res → ∀ (H : Heap) (locs : List Loc) (ls : Array Slot), HP (fun q => q ∈ Y.1) G Y s S H locs → LV ls 3 [(0, va_rf l0), (1, .int l1)] → W p l e R s m args below meth c H locs 0 0 (MQ below (QI G Y res none) args s 0 0 (fun q => q ∈ Y.1)) (F0 m 31 ls []) := by
  have hx := X.1.1
  have hb := X.1.2.1
  intro S l0 l1 hf H locs ls hP hl
  unfold fX12_deed_31 at hf
  refine rw_aload_n X dX12_deed_31 rfl (hl.at 0 rfl) ?_
  obtain ⟨v32, e32, hf⟩ := ob hf
  refine rw_getI X dX12_deed_32 fl12_109 e32 rfl hP ?_
  refine lv_if_ne hx hb (tgt := 48) dX12_deed_35 (by decide) (fun c35 => ?_) (fun c35 => ?_)
  · have hf := ifn hf c35
    cases hf
    exact rw_vret X dX12_deed_48 hP
  · have hf := ifp hf c35
    refine rw_aload_n X dX12_deed_38 rfl (hl.at 0 rfl) ?_
    obtain ⟨v39, e39, hf⟩ := ob hf
    refine rw_getR X dX12_deed_39 fl12_79 e39 rfl hP ?_
    refine lv_iload_n hx hb dX12_deed_42 rfl (hl.at 1 rfl) ?_
    refine rw_aload_n X dX12_deed_43 rfl (hl.at 0 rfl) ?_
    obtain ⟨u44, r44, hf⟩ := ob hf
    obtain ⟨q44, e44, hf⟩ := ob hf
    refine rw_callVi (As := []) X dX12_deed_44 clX12_121 pyX12_worth (mX12_worth l e44) (by decide) r44 rfl hP rfl (catL (c1c (ci _) (c1c (cr _) c1n)) (Nat.le_of_ble_eq_true rfl)) hl.1.1 (fun H locs hP => ?_)
    obtain ⟨S47, e47, hf⟩ := ob hf
    refine rw_iast X dX12_deed_47 e47 hP (fun H locs hP => ?_)
    cases hf
    exact rw_vret X dX12_deed_48 hP
def fX12_deed (Y : LY) (S : HS) (l0 : Option Nat) (l1 : Int32) (l2 : Int32) : Option (HS) :=
  (gR Y 12 1228 l0 S).bind fun v1 =>
  (rcv Y 12 l0).bind fun _ =>
  (fX12_digit Y S l0 0 7).bind fun q9 =>
  (pA Y 14 v1 l1 q9.2 q9.1).bind fun S12 =>
  (gI Y 12 1222 l0 S12).bind fun v14 =>
  if v14 = 0 then
    (gR Y 12 1229 l0 S12).bind fun v21 =>
    (rcv Y 12 l0).bind fun _ =>
    (fX12_sign Y S12 l0 l2).bind fun q27 =>
    (pA Y 14 v21 l1 q27.2 q27.1).bind fun S30 =>
    fX12_deed_31 Y S30 l0 l1
  else
    fX12_deed_31 Y S12 l0 l1
set_option maxRecDepth 100000 in
set_option maxHeartbeats 4000000 in
theorem mX12_deed (l : Launch) {G : GG} {Y : LY} {S : HS} {l0 : Option Nat} {l1 : Int32} {l2 : Int32} {res : HS} (hf : fX12_deed Y S l0 l1 l2 = some res) : MM l yX12_deed cX12_deed 3 none 3 66 G Y S [va_rf l0, .int l1, .int l2] res none := by
  refine mm_of2 (plainFor_of_name (by decide +kernel)) (Nat.le_of_ble_eq_true rfl) (c1c (cr _) (c1c (ci _) (c1c (ci _) c1n))) ?_
  intro p e R s m args below meth c X H locs ls hP hl
  have X : Cx p R s m args meth c RX12 cX12_deed 3 3 66 (fun q => q ∈ Y.1) G none := X
  have hx := X.1.1
  have hb := X.1.2.1
  have hl : LV ls 3 [(0, va_rf l0), (1, .int l1), (2, .int l2)] := hl
  unfold fX12_deed at hf
  refine rw_aload_n X dX12_deed_0 rfl (hl.at 0 rfl) ?_
  obtain ⟨v1, e1, hf⟩ := ob hf
  refine rw_getR X dX12_deed_1 fl12_73 e1 rfl hP ?_
  refine lv_iload_n hx hb dX12_deed_4 rfl (hl.at 1 rfl) ?_
  refine rw_aload_n X dX12_deed_5 rfl (hl.at 0 rfl) ?_
  refine lv_iconst (v := 0) hx hb dX12_deed_6 (by decide) ?_
  refine lv_bipush (v := 7) hx hb dX12_deed_7 (by decide) ?_
  obtain ⟨u9, r9, hf⟩ := ob hf
  obtain ⟨q9, e9, hf⟩ := ob hf
  refine rw_callVi (As := [.int 0, .int 7]) X dX12_deed_9 clX12_113 pyX12_digit (mX12_digit l e9) (by decide) r9 rfl hP rfl (catL (c1c (ci _) (c1c (cr _) c1n)) (Nat.le_of_ble_eq_true rfl)) hl.1.1 (fun H locs hP => ?_)
  obtain ⟨S12, e12, hf⟩ := ob hf
  refine rw_iast X dX12_deed_12 e12 hP (fun H locs hP => ?_)
  refine rw_aload_n X dX12_deed_13 rfl (hl.at 0 rfl) ?_
  obtain ⟨v14, e14, hf⟩ := ob hf
  refine rw_getI X dX12_deed_14 fl12_109 e14 rfl hP ?_
  refine lv_if_ne hx hb (tgt := 31) dX12_deed_17 (by decide) (fun c17 => ?_) (fun c17 => ?_)
  · have hf := ifn hf c17
    exact wX12_deed_31 X S12 l0 l1 hf _ _ _ hP (hl.sub [0, 1] rfl)
  · have hf := ifp hf c17
    refine rw_aload_n X dX12_deed_20 rfl (hl.at 0 rfl) ?_
    obtain ⟨v21, e21, hf⟩ := ob hf
    refine rw_getR X dX12_deed_21 fl12_76 e21 rfl hP ?_
    refine lv_iload_n hx hb dX12_deed_24 rfl (hl.at 1 rfl) ?_
    refine rw_aload_n X dX12_deed_25 rfl (hl.at 0 rfl) ?_
    refine lv_iload_n hx hb dX12_deed_26 rfl (hl.at 2 rfl) ?_
    obtain ⟨u27, r27, hf⟩ := ob hf
    obtain ⟨q27, e27, hf⟩ := ob hf
    refine rw_callVi (As := [.int l2]) X dX12_deed_27 clX12_117 pyX12_sign (mX12_sign l e27) (by decide) r27 rfl hP rfl (catL (c1c (ci _) (c1c (cr _) c1n)) (Nat.le_of_ble_eq_true rfl)) hl.1.1 (fun H locs hP => ?_)
    obtain ⟨S30, e30, hf⟩ := ob hf
    refine rw_iast X dX12_deed_30 e30 hP (fun H locs hP => ?_)
    exact wX12_deed_31 X S30 l0 l1 hf _ _ _ hP (hl.sub [0, 1] rfl)
theorem dX12_end_0 : decode cX12_end 0 = .ok (.aload_n 0, 1) := by decide +kernel
theorem dX12_end_1 : decode cX12_end 1 = .ok (.dup, 1) := by decide +kernel
theorem dX12_end_2 : decode cX12_end 2 = .ok (.getfield 102, 3) := by decide +kernel
theorem dX12_end_5 : decode cX12_end 5 = .ok (.iconst 1, 1) := by decide +kernel
theorem dX12_end_6 : decode cX12_end 6 = .ok (.iadd, 1) := by decide +kernel
theorem dX12_end_7 : decode cX12_end 7 = .ok (.putfield 102, 3) := by decide +kernel
theorem dX12_end_10 : decode cX12_end 10 = .ok (.aload_n 0, 1) := by decide +kernel
theorem dX12_end_11 : decode cX12_end 11 = .ok (.getfield 82, 3) := by decide +kernel
theorem dX12_end_14 : decode cX12_end 14 = .ok (.iload_n 1, 1) := by decide +kernel
theorem dX12_end_15 : decode cX12_end 15 = .ok (.aload_n 0, 1) := by decide +kernel
theorem dX12_end_16 : decode cX12_end 16 = .ok (.iconst 0, 1) := by decide +kernel
theorem dX12_end_17 : decode cX12_end 17 = .ok (.bipush 7, 2) := by decide +kernel
theorem dX12_end_19 : decode cX12_end 19 = .ok (.invokevirtual 113, 3) := by decide +kernel
theorem dX12_end_22 : decode cX12_end 22 = .ok (.iastore, 1) := by decide +kernel
theorem dX12_end_23 : decode cX12_end 23 = .ok (.aload_n 0, 1) := by decide +kernel
theorem dX12_end_24 : decode cX12_end 24 = .ok (.getfield 109, 3) := by decide +kernel
theorem dX12_end_27 : decode cX12_end 27 = .ok (.ifCond .ne 14, 3) := by decide +kernel
theorem dX12_end_30 : decode cX12_end 30 = .ok (.aload_n 0, 1) := by decide +kernel
theorem dX12_end_31 : decode cX12_end 31 = .ok (.getfield 85, 3) := by decide +kernel
theorem dX12_end_34 : decode cX12_end 34 = .ok (.iload_n 1, 1) := by decide +kernel
theorem dX12_end_35 : decode cX12_end 35 = .ok (.aload_n 0, 1) := by decide +kernel
theorem dX12_end_36 : decode cX12_end 36 = .ok (.iconst 1, 1) := by decide +kernel
theorem dX12_end_37 : decode cX12_end 37 = .ok (.invokevirtual 117, 3) := by decide +kernel
theorem dX12_end_40 : decode cX12_end 40 = .ok (.iastore, 1) := by decide +kernel
theorem dX12_end_41 : decode cX12_end 41 = .ok (.aload_n 0, 1) := by decide +kernel
theorem dX12_end_42 : decode cX12_end 42 = .ok (.getfield 109, 3) := by decide +kernel
theorem dX12_end_45 : decode cX12_end 45 = .ok (.ifCond .ne 13, 3) := by decide +kernel
theorem dX12_end_48 : decode cX12_end 48 = .ok (.aload_n 0, 1) := by decide +kernel
theorem dX12_end_49 : decode cX12_end 49 = .ok (.getfield 88, 3) := by decide +kernel
theorem dX12_end_52 : decode cX12_end 52 = .ok (.iload_n 1, 1) := by decide +kernel
theorem dX12_end_53 : decode cX12_end 53 = .ok (.aload_n 0, 1) := by decide +kernel
theorem dX12_end_54 : decode cX12_end 54 = .ok (.invokevirtual 121, 3) := by decide +kernel
theorem dX12_end_57 : decode cX12_end 57 = .ok (.iastore, 1) := by decide +kernel
theorem dX12_end_58 : decode cX12_end 58 = .ok (.return_, 1) := by decide +kernel
theorem pyX12_end : PY yX12_end 1 := ⟨by decide +kernel, by decide +kernel, by decide +kernel⟩
def fX12_end_41 (Y : LY) (S : HS) (l0 : Option Nat) (l1 : Int32) : Option (HS) :=
  (gI Y 12 1222 l0 S).bind fun v42 =>
  if v42 = 0 then
    (gR Y 12 1233 l0 S).bind fun v49 =>
    (rcv Y 12 l0).bind fun _ =>
    (fX12_worth Y S l0 ).bind fun q54 =>
    (pA Y 14 v49 l1 q54.2 q54.1).bind fun S57 =>
    some S57
  else
    some S
set_option maxRecDepth 100000 in
set_option maxHeartbeats 4000000 in
theorem wX12_end_41 {p : Program} {l : Launch} {e : Env} {R : Room} {s : State} {m : MethodId} {args : Array Value} {below : List Frame} {meth : Method} {c : Code} {G : GG} {Y : LY} {res : HS} (X : Cx p R s m args meth c RX12 cX12_end 2 3 66 (fun q => q ∈ Y.1) G none) : ∀ (S : HS) (l0 : Option Nat) (l1 : Int32), fX12_end_41 Y S l0 l1 = some res → ∀ (H : Heap) (locs : List Loc) (ls : Array Slot), HP (fun q => q ∈ Y.1) G Y s S H locs → LV ls 2 [(0, va_rf l0), (1, .int l1)] → W p l e R s m args below meth c H locs 0 0 (MQ below (QI G Y res none) args s 0 0 (fun q => q ∈ Y.1)) (F0 m 41 ls []) := by
  have hx := X.1.1
  have hb := X.1.2.1
  intro S l0 l1 hf H locs ls hP hl
  unfold fX12_end_41 at hf
  refine rw_aload_n X dX12_end_41 rfl (hl.at 0 rfl) ?_
  obtain ⟨v42, e42, hf⟩ := ob hf
  refine rw_getI X dX12_end_42 fl12_109 e42 rfl hP ?_
  refine lv_if_ne hx hb (tgt := 58) dX12_end_45 (by decide) (fun c45 => ?_) (fun c45 => ?_)
  · have hf := ifn hf c45
    cases hf
    exact rw_vret X dX12_end_58 hP
  · have hf := ifp hf c45
    refine rw_aload_n X dX12_end_48 rfl (hl.at 0 rfl) ?_
    obtain ⟨v49, e49, hf⟩ := ob hf
    refine rw_getR X dX12_end_49 fl12_88 e49 rfl hP ?_
    refine lv_iload_n hx hb dX12_end_52 rfl (hl.at 1 rfl) ?_
    refine rw_aload_n X dX12_end_53 rfl (hl.at 0 rfl) ?_
    obtain ⟨u54, r54, hf⟩ := ob hf
    obtain ⟨q54, e54, hf⟩ := ob hf
    refine rw_callVi (As := []) X dX12_end_54 clX12_121 pyX12_worth (mX12_worth l e54) (by decide) r54 rfl hP rfl (catL (c1c (ci _) (c1c (cr _) c1n)) (Nat.le_of_ble_eq_true rfl)) hl.1.1 (fun H locs hP => ?_)
    obtain ⟨S57, e57, hf⟩ := ob hf
    refine rw_iast X dX12_end_57 e57 hP (fun H locs hP => ?_)
    cases hf
    exact rw_vret X dX12_end_58 hP
def fX12_end (Y : LY) (S : HS) (l0 : Option Nat) (l1 : Int32) : Option (HS) :=
  (gI Y 12 1220 l0 S).bind fun v2 =>
  (pI Y 12 1220 l0 (v2 + 1) S).bind fun S7 =>
  (gR Y 12 1231 l0 S7).bind fun v11 =>
  (rcv Y 12 l0).bind fun _ =>
  (fX12_digit Y S7 l0 0 7).bind fun q19 =>
  (pA Y 14 v11 l1 q19.2 q19.1).bind fun S22 =>
  (gI Y 12 1222 l0 S22).bind fun v24 =>
  if v24 = 0 then
    (gR Y 12 1232 l0 S22).bind fun v31 =>
    (rcv Y 12 l0).bind fun _ =>
    (fX12_sign Y S22 l0 1).bind fun q37 =>
    (pA Y 14 v31 l1 q37.2 q37.1).bind fun S40 =>
    fX12_end_41 Y S40 l0 l1
  else
    fX12_end_41 Y S22 l0 l1
set_option maxRecDepth 100000 in
set_option maxHeartbeats 4000000 in
theorem mX12_end (l : Launch) {G : GG} {Y : LY} {S : HS} {l0 : Option Nat} {l1 : Int32} {res : HS} (hf : fX12_end Y S l0 l1 = some res) : MM l yX12_end cX12_end 2 none 3 66 G Y S [va_rf l0, .int l1] res none := by
  refine mm_of2 (plainFor_of_name (by decide +kernel)) (Nat.le_of_ble_eq_true rfl) (c1c (cr _) (c1c (ci _) c1n)) ?_
  intro p e R s m args below meth c X H locs ls hP hl
  have X : Cx p R s m args meth c RX12 cX12_end 2 3 66 (fun q => q ∈ Y.1) G none := X
  have hx := X.1.1
  have hb := X.1.2.1
  have hl : LV ls 2 [(0, va_rf l0), (1, .int l1)] := hl
  unfold fX12_end at hf
  refine rw_aload_n X dX12_end_0 rfl (hl.at 0 rfl) ?_
  refine lv_dup hx hb dX12_end_1 (cr _) ?_
  obtain ⟨v2, e2, hf⟩ := ob hf
  refine rw_getI X dX12_end_2 fl12_102 e2 rfl hP ?_
  refine lv_iconst (v := 1) hx hb dX12_end_5 (by decide) ?_
  refine lv_iadd hx hb dX12_end_6 ?_
  obtain ⟨S7, e7, hf⟩ := ob hf
  refine rw_putI X dX12_end_7 fl12_102 fw12_20 e7 rfl hP (fun H locs hP => ?_)
  refine rw_aload_n X dX12_end_10 rfl (hl.at 0 rfl) ?_
  obtain ⟨v11, e11, hf⟩ := ob hf
  refine rw_getR X dX12_end_11 fl12_82 e11 rfl hP ?_
  refine lv_iload_n hx hb dX12_end_14 rfl (hl.at 1 rfl) ?_
  refine rw_aload_n X dX12_end_15 rfl (hl.at 0 rfl) ?_
  refine lv_iconst (v := 0) hx hb dX12_end_16 (by decide) ?_
  refine lv_bipush (v := 7) hx hb dX12_end_17 (by decide) ?_
  obtain ⟨u19, r19, hf⟩ := ob hf
  obtain ⟨q19, e19, hf⟩ := ob hf
  refine rw_callVi (As := [.int 0, .int 7]) X dX12_end_19 clX12_113 pyX12_digit (mX12_digit l e19) (by decide) r19 rfl hP rfl (catL (c1c (ci _) (c1c (cr _) c1n)) (Nat.le_of_ble_eq_true rfl)) hl.1.1 (fun H locs hP => ?_)
  obtain ⟨S22, e22, hf⟩ := ob hf
  refine rw_iast X dX12_end_22 e22 hP (fun H locs hP => ?_)
  refine rw_aload_n X dX12_end_23 rfl (hl.at 0 rfl) ?_
  obtain ⟨v24, e24, hf⟩ := ob hf
  refine rw_getI X dX12_end_24 fl12_109 e24 rfl hP ?_
  refine lv_if_ne hx hb (tgt := 41) dX12_end_27 (by decide) (fun c27 => ?_) (fun c27 => ?_)
  · have hf := ifn hf c27
    exact wX12_end_41 X S22 l0 l1 hf _ _ _ hP (hl.sub [0, 1] rfl)
  · have hf := ifp hf c27
    refine rw_aload_n X dX12_end_30 rfl (hl.at 0 rfl) ?_
    obtain ⟨v31, e31, hf⟩ := ob hf
    refine rw_getR X dX12_end_31 fl12_85 e31 rfl hP ?_
    refine lv_iload_n hx hb dX12_end_34 rfl (hl.at 1 rfl) ?_
    refine rw_aload_n X dX12_end_35 rfl (hl.at 0 rfl) ?_
    refine lv_iconst (v := 1) hx hb dX12_end_36 (by decide) ?_
    obtain ⟨u37, r37, hf⟩ := ob hf
    obtain ⟨q37, e37, hf⟩ := ob hf
    refine rw_callVi (As := [.int 1]) X dX12_end_37 clX12_117 pyX12_sign (mX12_sign l e37) (by decide) r37 rfl hP rfl (catL (c1c (ci _) (c1c (cr _) c1n)) (Nat.le_of_ble_eq_true rfl)) hl.1.1 (fun H locs hP => ?_)
    obtain ⟨S40, e40, hf⟩ := ob hf
    refine rw_iast X dX12_end_40 e40 hP (fun H locs hP => ?_)
    exact wX12_end_41 X S40 l0 l1 hf _ _ _ hP (hl.sub [0, 1] rfl)
theorem dX12_kindOf_0 : decode cX12_kindOf 0 = .ok (.iload_n 0, 1) := by decide +kernel
theorem dX12_kindOf_1 : decode cX12_kindOf 1 = .ok (.lookupswitch 170 #[(33, 152), (61, 137), (63, 135), (70, 146), (83, 143), (97, 131), (102, 141), (103, 161), (108, 167), (112, 149), (114, 155), (115, 139), (116, 158), (119, 164), (120, 133)], 131) := by decide +kernel
theorem dX12_kindOf_132 : decode cX12_kindOf 132 = .ok (.iconst 0, 1) := by decide +kernel
theorem dX12_kindOf_133 : decode cX12_kindOf 133 = .ok (.ireturn, 1) := by decide +kernel
theorem dX12_kindOf_134 : decode cX12_kindOf 134 = .ok (.iconst 1, 1) := by decide +kernel
theorem dX12_kindOf_135 : decode cX12_kindOf 135 = .ok (.ireturn, 1) := by decide +kernel
theorem dX12_kindOf_136 : decode cX12_kindOf 136 = .ok (.iconst 2, 1) := by decide +kernel
theorem dX12_kindOf_137 : decode cX12_kindOf 137 = .ok (.ireturn, 1) := by decide +kernel
theorem dX12_kindOf_138 : decode cX12_kindOf 138 = .ok (.iconst 3, 1) := by decide +kernel
theorem dX12_kindOf_139 : decode cX12_kindOf 139 = .ok (.ireturn, 1) := by decide +kernel
theorem dX12_kindOf_140 : decode cX12_kindOf 140 = .ok (.iconst 4, 1) := by decide +kernel
theorem dX12_kindOf_141 : decode cX12_kindOf 141 = .ok (.ireturn, 1) := by decide +kernel
theorem dX12_kindOf_142 : decode cX12_kindOf 142 = .ok (.iconst 5, 1) := by decide +kernel
theorem dX12_kindOf_143 : decode cX12_kindOf 143 = .ok (.ireturn, 1) := by decide +kernel
theorem dX12_kindOf_144 : decode cX12_kindOf 144 = .ok (.bipush 6, 2) := by decide +kernel
theorem dX12_kindOf_146 : decode cX12_kindOf 146 = .ok (.ireturn, 1) := by decide +kernel
theorem dX12_kindOf_147 : decode cX12_kindOf 147 = .ok (.bipush 7, 2) := by decide +kernel
theorem dX12_kindOf_149 : decode cX12_kindOf 149 = .ok (.ireturn, 1) := by decide +kernel
theorem dX12_kindOf_150 : decode cX12_kindOf 150 = .ok (.bipush 8, 2) := by decide +kernel
theorem dX12_kindOf_152 : decode cX12_kindOf 152 = .ok (.ireturn, 1) := by decide +kernel
theorem dX12_kindOf_153 : decode cX12_kindOf 153 = .ok (.bipush 9, 2) := by decide +kernel
theorem dX12_kindOf_155 : decode cX12_kindOf 155 = .ok (.ireturn, 1) := by decide +kernel
theorem dX12_kindOf_156 : decode cX12_kindOf 156 = .ok (.bipush 10, 2) := by decide +kernel
theorem dX12_kindOf_158 : decode cX12_kindOf 158 = .ok (.ireturn, 1) := by decide +kernel
theorem dX12_kindOf_159 : decode cX12_kindOf 159 = .ok (.bipush 11, 2) := by decide +kernel
theorem dX12_kindOf_161 : decode cX12_kindOf 161 = .ok (.ireturn, 1) := by decide +kernel
theorem dX12_kindOf_162 : decode cX12_kindOf 162 = .ok (.bipush 12, 2) := by decide +kernel
theorem dX12_kindOf_164 : decode cX12_kindOf 164 = .ok (.ireturn, 1) := by decide +kernel
theorem dX12_kindOf_165 : decode cX12_kindOf 165 = .ok (.bipush 13, 2) := by decide +kernel
theorem dX12_kindOf_167 : decode cX12_kindOf 167 = .ok (.ireturn, 1) := by decide +kernel
theorem dX12_kindOf_168 : decode cX12_kindOf 168 = .ok (.bipush 14, 2) := by decide +kernel
theorem dX12_kindOf_170 : decode cX12_kindOf 170 = .ok (.ireturn, 1) := by decide +kernel
theorem dX12_kindOf_171 : decode cX12_kindOf 171 = .ok (.iconst (-1), 1) := by decide +kernel
theorem dX12_kindOf_172 : decode cX12_kindOf 172 = .ok (.ireturn, 1) := by decide +kernel
theorem pyX12_kindOf : PY yX12_kindOf 1 := ⟨by decide +kernel, by decide +kernel, by decide +kernel⟩
def fX12_kindOf (Y : LY) (S : HS) (l0 : Int32) : Option (Int32) :=
  if l0 = 33 then
    some 9
  else
  if l0 = 61 then
    some 3
  else
  if l0 = 63 then
    some 2
  else
  if l0 = 70 then
    some 7
  else
  if l0 = 83 then
    some 6
  else
  if l0 = 97 then
    some 0
  else
  if l0 = 102 then
    some 5
  else
  if l0 = 103 then
    some 12
  else
  if l0 = 108 then
    some 14
  else
  if l0 = 112 then
    some 8
  else
  if l0 = 114 then
    some 10
  else
  if l0 = 115 then
    some 4
  else
  if l0 = 116 then
    some 11
  else
  if l0 = 119 then
    some 13
  else
  if l0 = 120 then
    some 1
  else
  some (-1)
set_option maxRecDepth 100000 in
set_option maxHeartbeats 4000000 in
theorem mX12_kindOf (l : Launch) {G : GG} {Y : LY} {S : HS} {l0 : Int32} {res : Int32} (hf : fX12_kindOf Y S l0 = some res) : MM l yX12_kindOf cX12_kindOf 1 (some .int) 0 0 G Y S [.int l0] S (some (.int res)) := by
  refine mm_of2 (plainFor_of_name (by decide +kernel)) (Nat.le_of_ble_eq_true rfl) (c1c (ci _) c1n) ?_
  intro p e R s m args below meth c X H locs ls hP hl
  have X : Cx p R s m args meth c RX12 cX12_kindOf 1 0 0 (fun q => q ∈ Y.1) G (some .int) := X
  have hx := X.1.1
  have hb := X.1.2.1
  have hl : LV ls 1 [(0, .int l0)] := hl
  unfold fX12_kindOf at hf
  refine lv_iload_n hx hb dX12_kindOf_0 rfl (hl.at 0 rfl) ?_
  by_cases c1_0 : l0 = 33
  · have hf := ifp hf c1_0
    refine lv_lookup (tgt := 153) hx hb dX12_kindOf_1 (by decide) (by rw [c1_0]; try rfl) (by decide) ?_
    refine lv_bipush (v := 9) hx hb dX12_kindOf_153 (by decide) ?_
    cases hf
    exact rw_iret X dX12_kindOf_155 hP
  have hf := ifn hf c1_0
  by_cases c1_1 : l0 = 61
  · have hf := ifp hf c1_1
    refine lv_lookup (tgt := 138) hx hb dX12_kindOf_1 (by decide) (by rw [c1_1]; try rfl) (by decide) ?_
    refine lv_iconst (v := 3) hx hb dX12_kindOf_138 (by decide) ?_
    cases hf
    exact rw_iret X dX12_kindOf_139 hP
  have hf := ifn hf c1_1
  by_cases c1_2 : l0 = 63
  · have hf := ifp hf c1_2
    refine lv_lookup (tgt := 136) hx hb dX12_kindOf_1 (by decide) (by rw [c1_2]; try rfl) (by decide) ?_
    refine lv_iconst (v := 2) hx hb dX12_kindOf_136 (by decide) ?_
    cases hf
    exact rw_iret X dX12_kindOf_137 hP
  have hf := ifn hf c1_2
  by_cases c1_3 : l0 = 70
  · have hf := ifp hf c1_3
    refine lv_lookup (tgt := 147) hx hb dX12_kindOf_1 (by decide) (by rw [c1_3]; try rfl) (by decide) ?_
    refine lv_bipush (v := 7) hx hb dX12_kindOf_147 (by decide) ?_
    cases hf
    exact rw_iret X dX12_kindOf_149 hP
  have hf := ifn hf c1_3
  by_cases c1_4 : l0 = 83
  · have hf := ifp hf c1_4
    refine lv_lookup (tgt := 144) hx hb dX12_kindOf_1 (by decide) (by rw [c1_4]; try rfl) (by decide) ?_
    refine lv_bipush (v := 6) hx hb dX12_kindOf_144 (by decide) ?_
    cases hf
    exact rw_iret X dX12_kindOf_146 hP
  have hf := ifn hf c1_4
  by_cases c1_5 : l0 = 97
  · have hf := ifp hf c1_5
    refine lv_lookup (tgt := 132) hx hb dX12_kindOf_1 (by decide) (by rw [c1_5]; try rfl) (by decide) ?_
    refine lv_iconst (v := 0) hx hb dX12_kindOf_132 (by decide) ?_
    cases hf
    exact rw_iret X dX12_kindOf_133 hP
  have hf := ifn hf c1_5
  by_cases c1_6 : l0 = 102
  · have hf := ifp hf c1_6
    refine lv_lookup (tgt := 142) hx hb dX12_kindOf_1 (by decide) (by rw [c1_6]; try rfl) (by decide) ?_
    refine lv_iconst (v := 5) hx hb dX12_kindOf_142 (by decide) ?_
    cases hf
    exact rw_iret X dX12_kindOf_143 hP
  have hf := ifn hf c1_6
  by_cases c1_7 : l0 = 103
  · have hf := ifp hf c1_7
    refine lv_lookup (tgt := 162) hx hb dX12_kindOf_1 (by decide) (by rw [c1_7]; try rfl) (by decide) ?_
    refine lv_bipush (v := 12) hx hb dX12_kindOf_162 (by decide) ?_
    cases hf
    exact rw_iret X dX12_kindOf_164 hP
  have hf := ifn hf c1_7
  by_cases c1_8 : l0 = 108
  · have hf := ifp hf c1_8
    refine lv_lookup (tgt := 168) hx hb dX12_kindOf_1 (by decide) (by rw [c1_8]; try rfl) (by decide) ?_
    refine lv_bipush (v := 14) hx hb dX12_kindOf_168 (by decide) ?_
    cases hf
    exact rw_iret X dX12_kindOf_170 hP
  have hf := ifn hf c1_8
  by_cases c1_9 : l0 = 112
  · have hf := ifp hf c1_9
    refine lv_lookup (tgt := 150) hx hb dX12_kindOf_1 (by decide) (by rw [c1_9]; try rfl) (by decide) ?_
    refine lv_bipush (v := 8) hx hb dX12_kindOf_150 (by decide) ?_
    cases hf
    exact rw_iret X dX12_kindOf_152 hP
  have hf := ifn hf c1_9
  by_cases c1_10 : l0 = 114
  · have hf := ifp hf c1_10
    refine lv_lookup (tgt := 156) hx hb dX12_kindOf_1 (by decide) (by rw [c1_10]; try rfl) (by decide) ?_
    refine lv_bipush (v := 10) hx hb dX12_kindOf_156 (by decide) ?_
    cases hf
    exact rw_iret X dX12_kindOf_158 hP
  have hf := ifn hf c1_10
  by_cases c1_11 : l0 = 115
  · have hf := ifp hf c1_11
    refine lv_lookup (tgt := 140) hx hb dX12_kindOf_1 (by decide) (by rw [c1_11]; try rfl) (by decide) ?_
    refine lv_iconst (v := 4) hx hb dX12_kindOf_140 (by decide) ?_
    cases hf
    exact rw_iret X dX12_kindOf_141 hP
  have hf := ifn hf c1_11
  by_cases c1_12 : l0 = 116
  · have hf := ifp hf c1_12
    refine lv_lookup (tgt := 159) hx hb dX12_kindOf_1 (by decide) (by rw [c1_12]; try rfl) (by decide) ?_
    refine lv_bipush (v := 11) hx hb dX12_kindOf_159 (by decide) ?_
    cases hf
    exact rw_iret X dX12_kindOf_161 hP
  have hf := ifn hf c1_12
  by_cases c1_13 : l0 = 119
  · have hf := ifp hf c1_13
    refine lv_lookup (tgt := 165) hx hb dX12_kindOf_1 (by decide) (by rw [c1_13]; try rfl) (by decide) ?_
    refine lv_bipush (v := 13) hx hb dX12_kindOf_165 (by decide) ?_
    cases hf
    exact rw_iret X dX12_kindOf_167 hP
  have hf := ifn hf c1_13
  by_cases c1_14 : l0 = 120
  · have hf := ifp hf c1_14
    refine lv_lookup (tgt := 134) hx hb dX12_kindOf_1 (by decide) (by rw [c1_14]; try rfl) (by decide) ?_
    refine lv_iconst (v := 1) hx hb dX12_kindOf_134 (by decide) ?_
    cases hf
    exact rw_iret X dX12_kindOf_135 hP
  have hf := ifn hf c1_14
  have t1_0 := tsw (k := 33) (v := 33) (by decide) c1_0
  have t1_1 := tsw (k := 61) (v := 61) (by decide) c1_1
  have t1_2 := tsw (k := 63) (v := 63) (by decide) c1_2
  have t1_3 := tsw (k := 70) (v := 70) (by decide) c1_3
  have t1_4 := tsw (k := 83) (v := 83) (by decide) c1_4
  have t1_5 := tsw (k := 97) (v := 97) (by decide) c1_5
  have t1_6 := tsw (k := 102) (v := 102) (by decide) c1_6
  have t1_7 := tsw (k := 103) (v := 103) (by decide) c1_7
  have t1_8 := tsw (k := 108) (v := 108) (by decide) c1_8
  have t1_9 := tsw (k := 112) (v := 112) (by decide) c1_9
  have t1_10 := tsw (k := 114) (v := 114) (by decide) c1_10
  have t1_11 := tsw (k := 115) (v := 115) (by decide) c1_11
  have t1_12 := tsw (k := 116) (v := 116) (by decide) c1_12
  have t1_13 := tsw (k := 119) (v := 119) (by decide) c1_13
  have t1_14 := tsw (k := 120) (v := 120) (by decide) c1_14
  refine lv_lookup (off := 170) (tgt := 171) hx hb dX12_kindOf_1 (by decide) (by simp [Op.lookupswitch.offset, t1_0.symm, t1_1.symm, t1_2.symm, t1_3.symm, t1_4.symm, t1_5.symm, t1_6.symm, t1_7.symm, t1_8.symm, t1_9.symm, t1_10.symm, t1_11.symm, t1_12.symm, t1_13.symm, t1_14.symm]) (by decide) ?_
  refine lv_iconst (v := (-1)) hx hb dX12_kindOf_171 (by decide) ?_
  cases hf
  exact rw_iret X dX12_kindOf_172 hP
theorem dX12_isList_0 : decode cX12_isList 0 = .ok (.iload_n 0, 1) := by decide +kernel
theorem dX12_isList_1 : decode cX12_isList 1 = .ok (.iconst 4, 1) := by decide +kernel
theorem dX12_isList_2 : decode cX12_isList 2 = .ok (.if_icmp .lt 13, 3) := by decide +kernel
theorem dX12_isList_5 : decode cX12_isList 5 = .ok (.iload_n 0, 1) := by decide +kernel
theorem dX12_isList_6 : decode cX12_isList 6 = .ok (.bipush 8, 2) := by decide +kernel
theorem dX12_isList_8 : decode cX12_isList 8 = .ok (.if_icmp .gt 7, 3) := by decide +kernel
theorem dX12_isList_11 : decode cX12_isList 11 = .ok (.iconst 1, 1) := by decide +kernel
theorem dX12_isList_12 : decode cX12_isList 12 = .ok (.goto 4, 3) := by decide +kernel
theorem dX12_isList_15 : decode cX12_isList 15 = .ok (.iconst 0, 1) := by decide +kernel
theorem dX12_isList_16 : decode cX12_isList 16 = .ok (.ireturn, 1) := by decide +kernel
theorem pyX12_isList : PY yX12_isList 1 := ⟨by decide +kernel, by decide +kernel, by decide +kernel⟩
def fX12_isList (Y : LY) (S : HS) (l0 : Int32) : Option (Int32) :=
  if l0 < 4 then
    some 0
  else
    if 8 < l0 then
      some 0
    else
      some 1
set_option maxRecDepth 100000 in
set_option maxHeartbeats 4000000 in
theorem mX12_isList (l : Launch) {G : GG} {Y : LY} {S : HS} {l0 : Int32} {res : Int32} (hf : fX12_isList Y S l0 = some res) : MM l yX12_isList cX12_isList 1 (some .boolean) 0 0 G Y S [.int l0] S (some (.int res)) := by
  refine mm_of2 (plainFor_of_name (by decide +kernel)) (Nat.le_of_ble_eq_true rfl) (c1c (ci _) c1n) ?_
  intro p e R s m args below meth c X H locs ls hP hl
  have X : Cx p R s m args meth c RX12 cX12_isList 1 0 0 (fun q => q ∈ Y.1) G (some .boolean) := X
  have hx := X.1.1
  have hb := X.1.2.1
  have hl : LV ls 1 [(0, .int l0)] := hl
  unfold fX12_isList at hf
  refine lv_iload_n hx hb dX12_isList_0 rfl (hl.at 0 rfl) ?_
  refine lv_iconst (v := 4) hx hb dX12_isList_1 (by decide) ?_
  refine lv_icmp_lt hx hb (tgt := 15) dX12_isList_2 (by decide) (fun c2 => ?_) (fun c2 => ?_)
  · have hf := ifp hf c2
    refine lv_iconst (v := 0) hx hb dX12_isList_15 (by decide) ?_
    cases hf
    exact rw_zret X (by decide) dX12_isList_16 hP
  · have hf := ifn hf c2
    refine lv_iload_n hx hb dX12_isList_5 rfl (hl.at 0 rfl) ?_
    refine lv_bipush (v := 8) hx hb dX12_isList_6 (by decide) ?_
    refine lv_icmp_gt hx hb (tgt := 15) dX12_isList_8 (by decide) (fun c8 => ?_) (fun c8 => ?_)
    · have hf := ifp hf c8
      refine lv_iconst (v := 0) hx hb dX12_isList_15 (by decide) ?_
      cases hf
      exact rw_zret X (by decide) dX12_isList_16 hP
    · have hf := ifn hf c8
      refine lv_iconst (v := 1) hx hb dX12_isList_11 (by decide) ?_
      refine lv_goto (tgt := 16) hx hb dX12_isList_12 (by decide) ?_
      cases hf
      exact rw_zret X (by decide) dX12_isList_16 hP
theorem dX12_begins_0 : decode cX12_begins 0 = .ok (.aload_n 0, 1) := by decide +kernel
theorem dX12_begins_1 : decode cX12_begins 1 = .ok (.invokevirtual 105, 3) := by decide +kernel
theorem dX12_begins_4 : decode cX12_begins 4 = .ok (.invokestatic 124, 3) := by decide +kernel
theorem dX12_begins_7 : decode cX12_begins 7 = .ok (.istore_n 1, 1) := by decide +kernel
theorem dX12_begins_8 : decode cX12_begins 8 = .ok (.aload_n 0, 1) := by decide +kernel
theorem dX12_begins_9 : decode cX12_begins 9 = .ok (.dup, 1) := by decide +kernel
theorem dX12_begins_10 : decode cX12_begins 10 = .ok (.getfield 109, 3) := by decide +kernel
theorem dX12_begins_13 : decode cX12_begins 13 = .ok (.iload_n 1, 1) := by decide +kernel
theorem dX12_begins_14 : decode cX12_begins 14 = .ok (.ifCond .lt 21, 3) := by decide +kernel
theorem dX12_begins_17 : decode cX12_begins 17 = .ok (.aload_n 0, 1) := by decide +kernel
theorem dX12_begins_18 : decode cX12_begins 18 = .ok (.getfield 128, 3) := by decide +kernel
theorem dX12_begins_21 : decode cX12_begins 21 = .ok (.bipush 24, 2) := by decide +kernel
theorem dX12_begins_23 : decode cX12_begins 23 = .ok (.if_icmp .eq 12, 3) := by decide +kernel
theorem dX12_begins_26 : decode cX12_begins 26 = .ok (.aload_n 0, 1) := by decide +kernel
theorem dX12_begins_27 : decode cX12_begins 27 = .ok (.getfield 131, 3) := by decide +kernel
theorem dX12_begins_30 : decode cX12_begins 30 = .ok (.bipush 10, 2) := by decide +kernel
theorem dX12_begins_32 : decode cX12_begins 32 = .ok (.if_icmp .ne 7, 3) := by decide +kernel
theorem dX12_begins_35 : decode cX12_begins 35 = .ok (.iconst 1, 1) := by decide +kernel
theorem dX12_begins_36 : decode cX12_begins 36 = .ok (.goto 4, 3) := by decide +kernel
theorem dX12_begins_39 : decode cX12_begins 39 = .ok (.iconst 0, 1) := by decide +kernel
theorem dX12_begins_40 : decode cX12_begins 40 = .ok (.ior, 1) := by decide +kernel
theorem dX12_begins_41 : decode cX12_begins 41 = .ok (.putfield 109, 3) := by decide +kernel
theorem dX12_begins_44 : decode cX12_begins 44 = .ok (.aload_n 0, 1) := by decide +kernel
theorem dX12_begins_45 : decode cX12_begins 45 = .ok (.getfield 109, 3) := by decide +kernel
theorem dX12_begins_48 : decode cX12_begins 48 = .ok (.ifCond .eq 4, 3) := by decide +kernel
theorem dX12_begins_51 : decode cX12_begins 51 = .ok (.return_, 1) := by decide +kernel
theorem dX12_begins_52 : decode cX12_begins 52 = .ok (.aload_n 0, 1) := by decide +kernel
theorem dX12_begins_53 : decode cX12_begins 53 = .ok (.dup, 1) := by decide +kernel
theorem dX12_begins_54 : decode cX12_begins 54 = .ok (.getfield 102, 3) := by decide +kernel
theorem dX12_begins_57 : decode cX12_begins 57 = .ok (.iconst 1, 1) := by decide +kernel
theorem dX12_begins_58 : decode cX12_begins 58 = .ok (.iadd, 1) := by decide +kernel
theorem dX12_begins_59 : decode cX12_begins 59 = .ok (.putfield 102, 3) := by decide +kernel
theorem dX12_begins_62 : decode cX12_begins 62 = .ok (.aload_n 0, 1) := by decide +kernel
theorem dX12_begins_63 : decode cX12_begins 63 = .ok (.getfield 128, 3) := by decide +kernel
theorem dX12_begins_66 : decode cX12_begins 66 = .ok (.istore_n 2, 1) := by decide +kernel
theorem dX12_begins_67 : decode cX12_begins 67 = .ok (.aload_n 0, 1) := by decide +kernel
theorem dX12_begins_68 : decode cX12_begins 68 = .ok (.dup, 1) := by decide +kernel
theorem dX12_begins_69 : decode cX12_begins 69 = .ok (.getfield 128, 3) := by decide +kernel
theorem dX12_begins_72 : decode cX12_begins 72 = .ok (.iconst 1, 1) := by decide +kernel
theorem dX12_begins_73 : decode cX12_begins 73 = .ok (.iadd, 1) := by decide +kernel
theorem dX12_begins_74 : decode cX12_begins 74 = .ok (.putfield 128, 3) := by decide +kernel
theorem dX12_begins_77 : decode cX12_begins 77 = .ok (.aload_n 0, 1) := by decide +kernel
theorem dX12_begins_78 : decode cX12_begins 78 = .ok (.getfield 58, 3) := by decide +kernel
theorem dX12_begins_81 : decode cX12_begins 81 = .ok (.iload_n 2, 1) := by decide +kernel
theorem dX12_begins_82 : decode cX12_begins 82 = .ok (.iload_n 1, 1) := by decide +kernel
theorem dX12_begins_83 : decode cX12_begins 83 = .ok (.iastore, 1) := by decide +kernel
theorem dX12_begins_84 : decode cX12_begins 84 = .ok (.aload_n 0, 1) := by decide +kernel
theorem dX12_begins_85 : decode cX12_begins 85 = .ok (.getfield 61, 3) := by decide +kernel
theorem dX12_begins_88 : decode cX12_begins 88 = .ok (.iload_n 2, 1) := by decide +kernel
theorem dX12_begins_89 : decode cX12_begins 89 = .ok (.iconst 0, 1) := by decide +kernel
theorem dX12_begins_90 : decode cX12_begins 90 = .ok (.iastore, 1) := by decide +kernel
theorem dX12_begins_91 : decode cX12_begins 91 = .ok (.aload_n 0, 1) := by decide +kernel
theorem dX12_begins_92 : decode cX12_begins 92 = .ok (.getfield 76, 3) := by decide +kernel
theorem dX12_begins_95 : decode cX12_begins 95 = .ok (.iload_n 2, 1) := by decide +kernel
theorem dX12_begins_96 : decode cX12_begins 96 = .ok (.iconst 0, 1) := by decide +kernel
theorem dX12_begins_97 : decode cX12_begins 97 = .ok (.iastore, 1) := by decide +kernel
theorem dX12_begins_98 : decode cX12_begins 98 = .ok (.aload_n 0, 1) := by decide +kernel
theorem dX12_begins_99 : decode cX12_begins 99 = .ok (.getfield 85, 3) := by decide +kernel
theorem dX12_begins_102 : decode cX12_begins 102 = .ok (.iload_n 2, 1) := by decide +kernel
theorem dX12_begins_103 : decode cX12_begins 103 = .ok (.iconst 0, 1) := by decide +kernel
theorem dX12_begins_104 : decode cX12_begins 104 = .ok (.iastore, 1) := by decide +kernel
theorem dX12_begins_105 : decode cX12_begins 105 = .ok (.aload_n 0, 1) := by decide +kernel
theorem dX12_begins_106 : decode cX12_begins 106 = .ok (.getfield 64, 3) := by decide +kernel
theorem dX12_begins_109 : decode cX12_begins 109 = .ok (.iload_n 2, 1) := by decide +kernel
theorem dX12_begins_110 : decode cX12_begins 110 = .ok (.aload_n 0, 1) := by decide +kernel
theorem dX12_begins_111 : decode cX12_begins 111 = .ok (.getfield 131, 3) := by decide +kernel
theorem dX12_begins_114 : decode cX12_begins 114 = .ok (.ifCond .ne 7, 3) := by decide +kernel
theorem dX12_begins_117 : decode cX12_begins 117 = .ok (.iconst (-1), 1) := by decide +kernel
theorem dX12_begins_118 : decode cX12_begins 118 = .ok (.goto 14, 3) := by decide +kernel
theorem dX12_begins_121 : decode cX12_begins 121 = .ok (.aload_n 0, 1) := by decide +kernel
theorem dX12_begins_122 : decode cX12_begins 122 = .ok (.getfield 91, 3) := by decide +kernel
theorem dX12_begins_125 : decode cX12_begins 125 = .ok (.aload_n 0, 1) := by decide +kernel
theorem dX12_begins_126 : decode cX12_begins 126 = .ok (.getfield 131, 3) := by decide +kernel
theorem dX12_begins_129 : decode cX12_begins 129 = .ok (.iconst 1, 1) := by decide +kernel
theorem dX12_begins_130 : decode cX12_begins 130 = .ok (.isub, 1) := by decide +kernel
theorem dX12_begins_131 : decode cX12_begins 131 = .ok (.iaload, 1) := by decide +kernel
theorem dX12_begins_132 : decode cX12_begins 132 = .ok (.iastore, 1) := by decide +kernel
theorem dX12_begins_133 : decode cX12_begins 133 = .ok (.aload_n 0, 1) := by decide +kernel
theorem dX12_begins_134 : decode cX12_begins 134 = .ok (.getfield 67, 3) := by decide +kernel
theorem dX12_begins_137 : decode cX12_begins 137 = .ok (.iload_n 2, 1) := by decide +kernel
theorem dX12_begins_138 : decode cX12_begins 138 = .ok (.aload_n 0, 1) := by decide +kernel
theorem dX12_begins_139 : decode cX12_begins 139 = .ok (.getfield 131, 3) := by decide +kernel
theorem dX12_begins_142 : decode cX12_begins 142 = .ok (.iconst 1, 1) := by decide +kernel
theorem dX12_begins_143 : decode cX12_begins 143 = .ok (.iadd, 1) := by decide +kernel
theorem dX12_begins_144 : decode cX12_begins 144 = .ok (.iastore, 1) := by decide +kernel
theorem dX12_begins_145 : decode cX12_begins 145 = .ok (.iload_n 1, 1) := by decide +kernel
theorem dX12_begins_146 : decode cX12_begins 146 = .ok (.iconst 2, 1) := by decide +kernel
theorem dX12_begins_147 : decode cX12_begins 147 = .ok (.if_icmp .lt 15, 3) := by decide +kernel
theorem dX12_begins_150 : decode cX12_begins 150 = .ok (.iload_n 1, 1) := by decide +kernel
theorem dX12_begins_151 : decode cX12_begins 151 = .ok (.bipush 8, 2) := by decide +kernel
theorem dX12_begins_153 : decode cX12_begins 153 = .ok (.if_icmp .eq 9, 3) := by decide +kernel
theorem dX12_begins_156 : decode cX12_begins 156 = .ok (.iload_n 1, 1) := by decide +kernel
theorem dX12_begins_157 : decode cX12_begins 157 = .ok (.bipush 13, 2) := by decide +kernel
theorem dX12_begins_159 : decode cX12_begins 159 = .ok (.if_icmp .ne 16, 3) := by decide +kernel
theorem dX12_begins_162 : decode cX12_begins 162 = .ok (.aload_n 0, 1) := by decide +kernel
theorem dX12_begins_163 : decode cX12_begins 163 = .ok (.getfield 61, 3) := by decide +kernel
theorem dX12_begins_166 : decode cX12_begins 166 = .ok (.iload_n 2, 1) := by decide +kernel
theorem dX12_begins_167 : decode cX12_begins 167 = .ok (.aload_n 0, 1) := by decide +kernel
theorem dX12_begins_168 : decode cX12_begins 168 = .ok (.iconst 0, 1) := by decide +kernel
theorem dX12_begins_169 : decode cX12_begins 169 = .ok (.bipush 9, 2) := by decide +kernel
theorem dX12_begins_171 : decode cX12_begins 171 = .ok (.invokevirtual 113, 3) := by decide +kernel
theorem dX12_begins_174 : decode cX12_begins 174 = .ok (.iastore, 1) := by decide +kernel
theorem dX12_begins_175 : decode cX12_begins 175 = .ok (.iload_n 1, 1) := by decide +kernel
theorem dX12_begins_176 : decode cX12_begins 176 = .ok (.bipush 10, 2) := by decide +kernel
theorem dX12_begins_178 : decode cX12_begins 178 = .ok (.if_icmp .eq 9, 3) := by decide +kernel
theorem dX12_begins_181 : decode cX12_begins 181 = .ok (.iload_n 1, 1) := by decide +kernel
theorem dX12_begins_182 : decode cX12_begins 182 = .ok (.bipush 11, 2) := by decide +kernel
theorem dX12_begins_184 : decode cX12_begins 184 = .ok (.if_icmp .ne 16, 3) := by decide +kernel
theorem dX12_begins_187 : decode cX12_begins 187 = .ok (.aload_n 0, 1) := by decide +kernel
theorem dX12_begins_188 : decode cX12_begins 188 = .ok (.getfield 61, 3) := by decide +kernel
theorem dX12_begins_191 : decode cX12_begins 191 = .ok (.iload_n 2, 1) := by decide +kernel
theorem dX12_begins_192 : decode cX12_begins 192 = .ok (.aload_n 0, 1) := by decide +kernel
theorem dX12_begins_193 : decode cX12_begins 193 = .ok (.iconst 1, 1) := by decide +kernel
theorem dX12_begins_194 : decode cX12_begins 194 = .ok (.bipush 9, 2) := by decide +kernel
theorem dX12_begins_196 : decode cX12_begins 196 = .ok (.invokevirtual 113, 3) := by decide +kernel
theorem dX12_begins_199 : decode cX12_begins 199 = .ok (.iastore, 1) := by decide +kernel
theorem dX12_begins_200 : decode cX12_begins 200 = .ok (.iload_n 1, 1) := by decide +kernel
theorem dX12_begins_201 : decode cX12_begins 201 = .ok (.bipush 14, 2) := by decide +kernel
theorem dX12_begins_203 : decode cX12_begins 203 = .ok (.if_icmp .ne 16, 3) := by decide +kernel
theorem dX12_begins_206 : decode cX12_begins 206 = .ok (.aload_n 0, 1) := by decide +kernel
theorem dX12_begins_207 : decode cX12_begins 207 = .ok (.getfield 61, 3) := by decide +kernel
theorem dX12_begins_210 : decode cX12_begins 210 = .ok (.iload_n 2, 1) := by decide +kernel
theorem dX12_begins_211 : decode cX12_begins 211 = .ok (.aload_n 0, 1) := by decide +kernel
theorem dX12_begins_212 : decode cX12_begins 212 = .ok (.iconst 0, 1) := by decide +kernel
theorem dX12_begins_213 : decode cX12_begins 213 = .ok (.bipush 7, 2) := by decide +kernel
theorem dX12_begins_215 : decode cX12_begins 215 = .ok (.invokevirtual 113, 3) := by decide +kernel
theorem dX12_begins_218 : decode cX12_begins 218 = .ok (.iastore, 1) := by decide +kernel
theorem dX12_begins_219 : decode cX12_begins 219 = .ok (.aload_n 0, 1) := by decide +kernel
theorem dX12_begins_220 : decode cX12_begins 220 = .ok (.getfield 109, 3) := by decide +kernel
theorem dX12_begins_223 : decode cX12_begins 223 = .ok (.ifCond .eq 4, 3) := by decide +kernel
theorem dX12_begins_226 : decode cX12_begins 226 = .ok (.return_, 1) := by decide +kernel
theorem dX12_begins_227 : decode cX12_begins 227 = .ok (.iload_n 1, 1) := by decide +kernel
theorem dX12_begins_228 : decode cX12_begins 228 = .ok (.iconst 2, 1) := by decide +kernel
theorem dX12_begins_229 : decode cX12_begins 229 = .ok (.if_icmp .eq 9, 3) := by decide +kernel
theorem dX12_begins_232 : decode cX12_begins 232 = .ok (.iload_n 1, 1) := by decide +kernel
theorem dX12_begins_233 : decode cX12_begins 233 = .ok (.bipush 12, 2) := by decide +kernel
theorem dX12_begins_235 : decode cX12_begins 235 = .ok (.if_icmp .ne 9, 3) := by decide +kernel
theorem dX12_begins_238 : decode cX12_begins 238 = .ok (.aload_n 0, 1) := by decide +kernel
theorem dX12_begins_239 : decode cX12_begins 239 = .ok (.iload_n 2, 1) := by decide +kernel
theorem dX12_begins_240 : decode cX12_begins 240 = .ok (.iconst 0, 1) := by decide +kernel
theorem dX12_begins_241 : decode cX12_begins 241 = .ok (.invokevirtual 134, 3) := by decide +kernel
theorem dX12_begins_244 : decode cX12_begins 244 = .ok (.iload_n 1, 1) := by decide +kernel
theorem dX12_begins_245 : decode cX12_begins 245 = .ok (.iconst 3, 1) := by decide +kernel
theorem dX12_begins_246 : decode cX12_begins 246 = .ok (.if_icmp .eq 22, 3) := by decide +kernel
theorem dX12_begins_249 : decode cX12_begins 249 = .ok (.iload_n 1, 1) := by decide +kernel
theorem dX12_begins_250 : decode cX12_begins 250 = .ok (.iconst 2, 1) := by decide +kernel
theorem dX12_begins_251 : decode cX12_begins 251 = .ok (.if_icmp .ge 23, 3) := by decide +kernel
theorem dX12_begins_254 : decode cX12_begins 254 = .ok (.aload_n 0, 1) := by decide +kernel
theorem dX12_begins_255 : decode cX12_begins 255 = .ok (.invokevirtual 105, 3) := by decide +kernel
theorem dX12_begins_258 : decode cX12_begins 258 = .ok (.bipush 48, 2) := by decide +kernel
theorem dX12_begins_260 : decode cX12_begins 260 = .ok (.bipush 57, 2) := by decide +kernel
theorem dX12_begins_262 : decode cX12_begins 262 = .ok (.invokestatic 94, 3) := by decide +kernel
theorem dX12_begins_265 : decode cX12_begins 265 = .ok (.ifCond .eq 9, 3) := by decide +kernel
theorem dX12_begins_268 : decode cX12_begins 268 = .ok (.aload_n 0, 1) := by decide +kernel
theorem dX12_begins_269 : decode cX12_begins 269 = .ok (.iload_n 2, 1) := by decide +kernel
theorem dX12_begins_270 : decode cX12_begins 270 = .ok (.iconst 1, 1) := by decide +kernel
theorem dX12_begins_271 : decode cX12_begins 271 = .ok (.invokevirtual 134, 3) := by decide +kernel
theorem dX12_begins_274 : decode cX12_begins 274 = .ok (.aload_n 0, 1) := by decide +kernel
theorem dX12_begins_275 : decode cX12_begins 275 = .ok (.getfield 109, 3) := by decide +kernel
theorem dX12_begins_278 : decode cX12_begins 278 = .ok (.ifCond .ne 22, 3) := by decide +kernel
theorem dX12_begins_281 : decode cX12_begins 281 = .ok (.iload_n 1, 1) := by decide +kernel
theorem dX12_begins_282 : decode cX12_begins 282 = .ok (.iconst 2, 1) := by decide +kernel
theorem dX12_begins_283 : decode cX12_begins 283 = .ok (.if_icmp .ge 17, 3) := by decide +kernel
theorem dX12_begins_286 : decode cX12_begins 286 = .ok (.aload_n 0, 1) := by decide +kernel
theorem dX12_begins_287 : decode cX12_begins 287 = .ok (.invokevirtual 105, 3) := by decide +kernel
theorem dX12_begins_290 : decode cX12_begins 290 = .ok (.bipush 126, 2) := by decide +kernel
theorem dX12_begins_292 : decode cX12_begins 292 = .ok (.if_icmp .ne 8, 3) := by decide +kernel
theorem dX12_begins_295 : decode cX12_begins 295 = .ok (.aload_n 0, 1) := by decide +kernel
theorem dX12_begins_296 : decode cX12_begins 296 = .ok (.iload_n 2, 1) := by decide +kernel
theorem dX12_begins_297 : decode cX12_begins 297 = .ok (.invokevirtual 138, 3) := by decide +kernel
theorem dX12_begins_300 : decode cX12_begins 300 = .ok (.iload_n 1, 1) := by decide +kernel
theorem dX12_begins_301 : decode cX12_begins 301 = .ok (.invokestatic 142, 3) := by decide +kernel
theorem dX12_begins_304 : decode cX12_begins 304 = .ok (.ifCond .eq 17, 3) := by decide +kernel
theorem dX12_begins_307 : decode cX12_begins 307 = .ok (.aload_n 0, 1) := by decide +kernel
theorem dX12_begins_308 : decode cX12_begins 308 = .ok (.invokevirtual 105, 3) := by decide +kernel
theorem dX12_begins_311 : decode cX12_begins 311 = .ok (.bipush 40, 2) := by decide +kernel
theorem dX12_begins_313 : decode cX12_begins 313 = .ok (.if_icmp .eq 8, 3) := by decide +kernel
theorem dX12_begins_316 : decode cX12_begins 316 = .ok (.aload_n 0, 1) := by decide +kernel
theorem dX12_begins_317 : decode cX12_begins 317 = .ok (.iconst 1, 1) := by decide +kernel
theorem dX12_begins_318 : decode cX12_begins 318 = .ok (.putfield 109, 3) := by decide +kernel
theorem dX12_begins_321 : decode cX12_begins 321 = .ok (.aload_n 0, 1) := by decide +kernel
theorem dX12_begins_322 : decode cX12_begins 322 = .ok (.getfield 109, 3) := by decide +kernel
theorem dX12_begins_325 : decode cX12_begins 325 = .ok (.ifCond .eq 4, 3) := by decide +kernel
theorem dX12_begins_328 : decode cX12_begins 328 = .ok (.return_, 1) := by decide +kernel
theorem dX12_begins_329 : decode cX12_begins 329 = .ok (.aload_n 0, 1) := by decide +kernel
theorem dX12_begins_330 : decode cX12_begins 330 = .ok (.dup, 1) := by decide +kernel
theorem dX12_begins_331 : decode cX12_begins 331 = .ok (.getfield 102, 3) := by decide +kernel
theorem dX12_begins_334 : decode cX12_begins 334 = .ok (.iload_n 1, 1) := by decide +kernel
theorem dX12_begins_335 : decode cX12_begins 335 = .ok (.invokestatic 142, 3) := by decide +kernel
theorem dX12_begins_338 : decode cX12_begins 338 = .ok (.ifCond .eq 7, 3) := by decide +kernel
theorem dX12_begins_341 : decode cX12_begins 341 = .ok (.iconst 1, 1) := by decide +kernel
theorem dX12_begins_342 : decode cX12_begins 342 = .ok (.goto 4, 3) := by decide +kernel
theorem dX12_begins_345 : decode cX12_begins 345 = .ok (.iconst 0, 1) := by decide +kernel
theorem dX12_begins_346 : decode cX12_begins 346 = .ok (.iadd, 1) := by decide +kernel
theorem dX12_begins_347 : decode cX12_begins 347 = .ok (.putfield 102, 3) := by decide +kernel
theorem dX12_begins_350 : decode cX12_begins 350 = .ok (.iload_n 1, 1) := by decide +kernel
theorem dX12_begins_351 : decode cX12_begins 351 = .ok (.iconst 4, 1) := by decide +kernel
theorem dX12_begins_352 : decode cX12_begins 352 = .ok (.if_icmp .ge 11, 3) := by decide +kernel
theorem dX12_begins_355 : decode cX12_begins 355 = .ok (.aload_n 0, 1) := by decide +kernel
theorem dX12_begins_356 : decode cX12_begins 356 = .ok (.getfield 70, 3) := by decide +kernel
theorem dX12_begins_359 : decode cX12_begins 359 = .ok (.iload_n 2, 1) := by decide +kernel
theorem dX12_begins_360 : decode cX12_begins 360 = .ok (.iload_n 2, 1) := by decide +kernel
theorem dX12_begins_361 : decode cX12_begins 361 = .ok (.iastore, 1) := by decide +kernel
theorem dX12_begins_362 : decode cX12_begins 362 = .ok (.return_, 1) := by decide +kernel
theorem dX12_begins_363 : decode cX12_begins 363 = .ok (.aload_n 0, 1) := by decide +kernel
theorem dX12_begins_364 : decode cX12_begins 364 = .ok (.getfield 91, 3) := by decide +kernel
theorem dX12_begins_367 : decode cX12_begins 367 = .ok (.aload_n 0, 1) := by decide +kernel
theorem dX12_begins_368 : decode cX12_begins 368 = .ok (.getfield 131, 3) := by decide +kernel
theorem dX12_begins_371 : decode cX12_begins 371 = .ok (.iload_n 2, 1) := by decide +kernel
theorem dX12_begins_372 : decode cX12_begins 372 = .ok (.iastore, 1) := by decide +kernel
theorem dX12_begins_373 : decode cX12_begins 373 = .ok (.aload_n 0, 1) := by decide +kernel
theorem dX12_begins_374 : decode cX12_begins 374 = .ok (.dup, 1) := by decide +kernel
theorem dX12_begins_375 : decode cX12_begins 375 = .ok (.getfield 131, 3) := by decide +kernel
theorem dX12_begins_378 : decode cX12_begins 378 = .ok (.iconst 1, 1) := by decide +kernel
theorem dX12_begins_379 : decode cX12_begins 379 = .ok (.iadd, 1) := by decide +kernel
theorem dX12_begins_380 : decode cX12_begins 380 = .ok (.putfield 131, 3) := by decide +kernel
theorem dX12_begins_383 : decode cX12_begins 383 = .ok (.aload_n 0, 1) := by decide +kernel
theorem dX12_begins_384 : decode cX12_begins 384 = .ok (.iconst 1, 1) := by decide +kernel
theorem dX12_begins_385 : decode cX12_begins 385 = .ok (.putfield 146, 3) := by decide +kernel
theorem dX12_begins_388 : decode cX12_begins 388 = .ok (.return_, 1) := by decide +kernel
theorem pyX12_begins : PY yX12_begins 0 := ⟨by decide +kernel, by decide +kernel, by decide +kernel⟩
def fX12_begins_346 (Y : LY) (S : HS) (l0 : Option Nat) (l1 : Int32) (l2 : Int32) (s0 : Option Nat) (s1 : Int32) (s2 : Int32) : Option (HS) :=
  (pI Y 12 1220 s0 (s1 + s2) S).bind fun S347 =>
  if 4 ≤ l1 then
    (gR Y 12 1234 l0 S347).bind fun v364 =>
    (gI Y 12 1235 l0 S347).bind fun v368 =>
    (pA Y 14 v364 v368 l2 S347).bind fun S372 =>
    (gI Y 12 1235 l0 S372).bind fun v375 =>
    (pI Y 12 1235 l0 (v375 + 1) S372).bind fun S380 =>
    (pZ Y 12 1236 l0 1 S380).bind fun S385 =>
    some S385
  else
    (gR Y 12 1227 l0 S347).bind fun v356 =>
    (pA Y 14 v356 l2 l2 S347).bind fun S361 =>
    some S361
set_option maxRecDepth 100000 in
set_option maxHeartbeats 4000000 in
theorem wX12_begins_346 {p : Program} {l : Launch} {e : Env} {R : Room} {s : State} {m : MethodId} {args : Array Value} {below : List Frame} {meth : Method} {c : Code} {G : GG} {Y : LY} {res : HS} (X : Cx p R s m args meth c RX12 cX12_begins 3 4 88 (fun q => q ∈ Y.1) G none) : ∀ (S : HS) (l0 : Option Nat) (l1 : Int32) (l2 : Int32) (s0 : Option Nat) (s1 : Int32) (s2 : Int32), fX12_begins_346 Y S l0 l1 l2 s0 s1 s2 = some res → ∀ (H : Heap) (locs : List Loc) (ls : Array Slot), HP (fun q => q ∈ Y.1) G Y s S H locs → LV ls 3 [(0, va_rf l0), (1, .int l1), (2, .int l2)] → W p l e R s m args below meth c H locs 0 0 (MQ below (QI G Y res none) args s 0 0 (fun q => q ∈ Y.1)) (F0 m 346 ls (.int s2 :: (.int s1 :: (va_rf s0 :: [])))) := by
  have hx := X.1.1
  have hb := X.1.2.1
  intro S l0 l1 l2 s0 s1 s2 hf H locs ls hP hl
  unfold fX12_begins_346 at hf
  refine lv_iadd hx hb dX12_begins_346 ?_
  obtain ⟨S347, e347, hf⟩ := ob hf
  refine rw_putI X dX12_begins_347 fl12_102 fw12_20 e347 rfl hP (fun H locs hP => ?_)
  refine lv_iload_n hx hb dX12_begins_350 rfl (hl.at 1 rfl) ?_
  refine lv_iconst (v := 4) hx hb dX12_begins_351 (by decide) ?_
  refine lv_icmp_ge hx hb (tgt := 363) dX12_begins_352 (by decide) (fun c352 => ?_) (fun c352 => ?_)
  · have hf := ifp hf c352
    refine rw_aload_n X dX12_begins_363 rfl (hl.at 0 rfl) ?_
    obtain ⟨v364, e364, hf⟩ := ob hf
    refine rw_getR X dX12_begins_364 fl12_91 e364 rfl hP ?_
    refine rw_aload_n X dX12_begins_367 rfl (hl.at 0 rfl) ?_
    obtain ⟨v368, e368, hf⟩ := ob hf
    refine rw_getI X dX12_begins_368 fl12_131 e368 rfl hP ?_
    refine lv_iload_n hx hb dX12_begins_371 rfl (hl.at 2 rfl) ?_
    obtain ⟨S372, e372, hf⟩ := ob hf
    refine rw_iast X dX12_begins_372 e372 hP (fun H locs hP => ?_)
    refine rw_aload_n X dX12_begins_373 rfl (hl.at 0 rfl) ?_
    refine lv_dup hx hb dX12_begins_374 (cr _) ?_
    obtain ⟨v375, e375, hf⟩ := ob hf
    refine rw_getI X dX12_begins_375 fl12_131 e375 rfl hP ?_
    refine lv_iconst (v := 1) hx hb dX12_begins_378 (by decide) ?_
    refine lv_iadd hx hb dX12_begins_379 ?_
    obtain ⟨S380, e380, hf⟩ := ob hf
    refine rw_putI X dX12_begins_380 fl12_131 fw12_35 e380 rfl hP (fun H locs hP => ?_)
    refine rw_aload_n X dX12_begins_383 rfl (hl.at 0 rfl) ?_
    refine lv_iconst (v := 1) hx hb dX12_begins_384 (by decide) ?_
    obtain ⟨S385, e385, hf⟩ := ob hf
    refine rw_putZ X dX12_begins_385 fl12_146 fw12_36 e385 rfl hP (fun H locs hP => ?_)
    cases hf
    exact rw_vret X dX12_begins_388 hP
  · have hf := ifn hf c352
    refine rw_aload_n X dX12_begins_355 rfl (hl.at 0 rfl) ?_
    obtain ⟨v356, e356, hf⟩ := ob hf
    refine rw_getR X dX12_begins_356 fl12_70 e356 rfl hP ?_
    refine lv_iload_n hx hb dX12_begins_359 rfl (hl.at 2 rfl) ?_
    refine lv_iload_n hx hb dX12_begins_360 rfl (hl.at 2 rfl) ?_
    obtain ⟨S361, e361, hf⟩ := ob hf
    refine rw_iast X dX12_begins_361 e361 hP (fun H locs hP => ?_)
    cases hf
    exact rw_vret X dX12_begins_362 hP
def fX12_begins_321 (Y : LY) (S : HS) (l0 : Option Nat) (l1 : Int32) (l2 : Int32) : Option (HS) :=
  (gI Y 12 1222 l0 S).bind fun v322 =>
  if v322 = 0 then
    (gI Y 12 1220 l0 S).bind fun v331 =>
    (fX12_isList Y S l1).bind fun v335 =>
    if v335 = 0 then
      fX12_begins_346 Y S l0 l1 l2 l0 v331 0
    else
      fX12_begins_346 Y S l0 l1 l2 l0 v331 1
  else
    some S
set_option maxRecDepth 100000 in
set_option maxHeartbeats 4000000 in
theorem wX12_begins_321 {p : Program} {l : Launch} {e : Env} {R : Room} {s : State} {m : MethodId} {args : Array Value} {below : List Frame} {meth : Method} {c : Code} {G : GG} {Y : LY} {res : HS} (X : Cx p R s m args meth c RX12 cX12_begins 3 4 88 (fun q => q ∈ Y.1) G none) : ∀ (S : HS) (l0 : Option Nat) (l1 : Int32) (l2 : Int32), fX12_begins_321 Y S l0 l1 l2 = some res → ∀ (H : Heap) (locs : List Loc) (ls : Array Slot), HP (fun q => q ∈ Y.1) G Y s S H locs → LV ls 3 [(0, va_rf l0), (1, .int l1), (2, .int l2)] → W p l e R s m args below meth c H locs 0 0 (MQ below (QI G Y res none) args s 0 0 (fun q => q ∈ Y.1)) (F0 m 321 ls []) := by
  have hx := X.1.1
  have hb := X.1.2.1
  intro S l0 l1 l2 hf H locs ls hP hl
  unfold fX12_begins_321 at hf
  refine rw_aload_n X dX12_begins_321 rfl (hl.at 0 rfl) ?_
  obtain ⟨v322, e322, hf⟩ := ob hf
  refine rw_getI X dX12_begins_322 fl12_109 e322 rfl hP ?_
  refine lv_if_eq hx hb (tgt := 329) dX12_begins_325 (by decide) (fun c325 => ?_) (fun c325 => ?_)
  · have hf := ifp hf c325
    refine rw_aload_n X dX12_begins_329 rfl (hl.at 0 rfl) ?_
    refine lv_dup hx hb dX12_begins_330 (cr _) ?_
    obtain ⟨v331, e331, hf⟩ := ob hf
    refine rw_getI X dX12_begins_331 fl12_102 e331 rfl hP ?_
    refine lv_iload_n hx hb dX12_begins_334 rfl (hl.at 1 rfl) ?_
    obtain ⟨v335, e335, hf⟩ := ob hf
    refine rw_callSi (As := [.int l1]) X dX12_begins_335 clX12_142 pyX12_isList (mX12_isList l e335) (by decide) hP rfl (catL (c1c (ci _) (c1c (cr _) c1n)) (Nat.le_of_ble_eq_true rfl)) hl.1.1 (fun H locs hP => ?_)
    refine lv_if_eq hx hb (tgt := 345) dX12_begins_338 (by decide) (fun c338 => ?_) (fun c338 => ?_)
    · have hf := ifp hf c338
      refine lv_iconst (v := 0) hx hb dX12_begins_345 (by decide) ?_
      exact wX12_begins_346 X S l0 l1 l2 l0 v331 0 hf _ _ _ hP (hl.sub [0, 1, 2] rfl)
    · have hf := ifn hf c338
      refine lv_iconst (v := 1) hx hb dX12_begins_341 (by decide) ?_
      refine lv_goto (tgt := 346) hx hb dX12_begins_342 (by decide) ?_
      exact wX12_begins_346 X S l0 l1 l2 l0 v331 1 hf _ _ _ hP (hl.sub [0, 1, 2] rfl)
  · have hf := ifn hf c325
    cases hf
    exact rw_vret X dX12_begins_328 hP
def fX12_begins_300 (Y : LY) (S : HS) (l0 : Option Nat) (l1 : Int32) (l2 : Int32) : Option (HS) :=
  (fX12_isList Y S l1).bind fun v301 =>
  if v301 = 0 then
    fX12_begins_321 Y S l0 l1 l2
  else
    (rcv Y 12 l0).bind fun _ =>
    (fX12_here Y S l0 ).bind fun v308 =>
    if v308 = 40 then
      fX12_begins_321 Y S l0 l1 l2
    else
      (pZ Y 12 1222 l0 1 S).bind fun S318 =>
      fX12_begins_321 Y S318 l0 l1 l2
set_option maxRecDepth 100000 in
set_option maxHeartbeats 4000000 in
theorem wX12_begins_300 {p : Program} {l : Launch} {e : Env} {R : Room} {s : State} {m : MethodId} {args : Array Value} {below : List Frame} {meth : Method} {c : Code} {G : GG} {Y : LY} {res : HS} (X : Cx p R s m args meth c RX12 cX12_begins 3 4 88 (fun q => q ∈ Y.1) G none) : ∀ (S : HS) (l0 : Option Nat) (l1 : Int32) (l2 : Int32), fX12_begins_300 Y S l0 l1 l2 = some res → ∀ (H : Heap) (locs : List Loc) (ls : Array Slot), HP (fun q => q ∈ Y.1) G Y s S H locs → LV ls 3 [(0, va_rf l0), (1, .int l1), (2, .int l2)] → W p l e R s m args below meth c H locs 0 0 (MQ below (QI G Y res none) args s 0 0 (fun q => q ∈ Y.1)) (F0 m 300 ls []) := by
  have hx := X.1.1
  have hb := X.1.2.1
  intro S l0 l1 l2 hf H locs ls hP hl
  unfold fX12_begins_300 at hf
  refine lv_iload_n hx hb dX12_begins_300 rfl (hl.at 1 rfl) ?_
  obtain ⟨v301, e301, hf⟩ := ob hf
  refine rw_callSi (As := [.int l1]) X dX12_begins_301 clX12_142 pyX12_isList (mX12_isList l e301) (by decide) hP rfl (catL c1n (Nat.le_of_ble_eq_true rfl)) hl.1.1 (fun H locs hP => ?_)
  refine lv_if_eq hx hb (tgt := 321) dX12_begins_304 (by decide) (fun c304 => ?_) (fun c304 => ?_)
  · have hf := ifp hf c304
    exact wX12_begins_321 X S l0 l1 l2 hf _ _ _ hP (hl.sub [0, 1, 2] rfl)
  · have hf := ifn hf c304
    refine rw_aload_n X dX12_begins_307 rfl (hl.at 0 rfl) ?_
    obtain ⟨u308, r308, hf⟩ := ob hf
    obtain ⟨v308, e308, hf⟩ := ob hf
    refine rw_callVi (As := []) X dX12_begins_308 clX12_105 pyX12_here (mX12_here l e308) (by decide) r308 rfl hP rfl (catL c1n (Nat.le_of_ble_eq_true rfl)) hl.1.1 (fun H locs hP => ?_)
    refine lv_bipush (v := 40) hx hb dX12_begins_311 (by decide) ?_
    refine lv_icmp_eq hx hb (tgt := 321) dX12_begins_313 (by decide) (fun c313 => ?_) (fun c313 => ?_)
    · have hf := ifp hf c313
      exact wX12_begins_321 X S l0 l1 l2 hf _ _ _ hP (hl.sub [0, 1, 2] rfl)
    · have hf := ifn hf c313
      refine rw_aload_n X dX12_begins_316 rfl (hl.at 0 rfl) ?_
      refine lv_iconst (v := 1) hx hb dX12_begins_317 (by decide) ?_
      obtain ⟨S318, e318, hf⟩ := ob hf
      refine rw_putZ X dX12_begins_318 fl12_109 fw12_22 e318 rfl hP (fun H locs hP => ?_)
      exact wX12_begins_321 X S318 l0 l1 l2 hf _ _ _ hP (hl.sub [0, 1, 2] rfl)
def fX12_begins_274 (Y : LY) (S : HS) (l0 : Option Nat) (l1 : Int32) (l2 : Int32) : Option (HS) :=
  (gI Y 12 1222 l0 S).bind fun v275 =>
  if v275 = 0 then
    if 2 ≤ l1 then
      fX12_begins_300 Y S l0 l1 l2
    else
      (rcv Y 12 l0).bind fun _ =>
      (fX12_here Y S l0 ).bind fun v287 =>
      if v287 = 126 then
        (rcv Y 12 l0).bind fun _ =>
        (fX12_end Y S l0 l2).bind fun S297 =>
        fX12_begins_300 Y S297 l0 l1 l2
      else
        fX12_begins_300 Y S l0 l1 l2
  else
    fX12_begins_300 Y S l0 l1 l2
set_option maxRecDepth 100000 in
set_option maxHeartbeats 4000000 in
theorem wX12_begins_274 {p : Program} {l : Launch} {e : Env} {R : Room} {s : State} {m : MethodId} {args : Array Value} {below : List Frame} {meth : Method} {c : Code} {G : GG} {Y : LY} {res : HS} (X : Cx p R s m args meth c RX12 cX12_begins 3 4 88 (fun q => q ∈ Y.1) G none) : ∀ (S : HS) (l0 : Option Nat) (l1 : Int32) (l2 : Int32), fX12_begins_274 Y S l0 l1 l2 = some res → ∀ (H : Heap) (locs : List Loc) (ls : Array Slot), HP (fun q => q ∈ Y.1) G Y s S H locs → LV ls 3 [(0, va_rf l0), (1, .int l1), (2, .int l2)] → W p l e R s m args below meth c H locs 0 0 (MQ below (QI G Y res none) args s 0 0 (fun q => q ∈ Y.1)) (F0 m 274 ls []) := by
  have hx := X.1.1
  have hb := X.1.2.1
  intro S l0 l1 l2 hf H locs ls hP hl
  unfold fX12_begins_274 at hf
  refine rw_aload_n X dX12_begins_274 rfl (hl.at 0 rfl) ?_
  obtain ⟨v275, e275, hf⟩ := ob hf
  refine rw_getI X dX12_begins_275 fl12_109 e275 rfl hP ?_
  refine lv_if_ne hx hb (tgt := 300) dX12_begins_278 (by decide) (fun c278 => ?_) (fun c278 => ?_)
  · have hf := ifn hf c278
    exact wX12_begins_300 X S l0 l1 l2 hf _ _ _ hP (hl.sub [0, 1, 2] rfl)
  · have hf := ifp hf c278
    refine lv_iload_n hx hb dX12_begins_281 rfl (hl.at 1 rfl) ?_
    refine lv_iconst (v := 2) hx hb dX12_begins_282 (by decide) ?_
    refine lv_icmp_ge hx hb (tgt := 300) dX12_begins_283 (by decide) (fun c283 => ?_) (fun c283 => ?_)
    · have hf := ifp hf c283
      exact wX12_begins_300 X S l0 l1 l2 hf _ _ _ hP (hl.sub [0, 1, 2] rfl)
    · have hf := ifn hf c283
      refine rw_aload_n X dX12_begins_286 rfl (hl.at 0 rfl) ?_
      obtain ⟨u287, r287, hf⟩ := ob hf
      obtain ⟨v287, e287, hf⟩ := ob hf
      refine rw_callVi (As := []) X dX12_begins_287 clX12_105 pyX12_here (mX12_here l e287) (by decide) r287 rfl hP rfl (catL c1n (Nat.le_of_ble_eq_true rfl)) hl.1.1 (fun H locs hP => ?_)
      refine lv_bipush (v := 126) hx hb dX12_begins_290 (by decide) ?_
      refine lv_icmp_ne hx hb (tgt := 300) dX12_begins_292 (by decide) (fun c292 => ?_) (fun c292 => ?_)
      · have hf := ifn hf c292
        exact wX12_begins_300 X S l0 l1 l2 hf _ _ _ hP (hl.sub [0, 1, 2] rfl)
      · have hf := ifp hf c292
        refine rw_aload_n X dX12_begins_295 rfl (hl.at 0 rfl) ?_
        refine lv_iload_n hx hb dX12_begins_296 rfl (hl.at 2 rfl) ?_
        obtain ⟨u297, r297, hf⟩ := ob hf
        obtain ⟨S297, e297, hf⟩ := ob hf
        refine rw_callVv (As := [.int l2]) X dX12_begins_297 clX12_138 pyX12_end (mX12_end l e297) (by decide) r297 rfl hP rfl (catL c1n (Nat.le_of_ble_eq_true rfl)) hl.1.1 (fun H locs hP => ?_)
        exact wX12_begins_300 X S297 l0 l1 l2 hf _ _ _ hP (hl.sub [0, 1, 2] rfl)
def fX12_begins_244 (Y : LY) (S : HS) (l0 : Option Nat) (l1 : Int32) (l2 : Int32) : Option (HS) :=
  if l1 = 3 then
    (rcv Y 12 l0).bind fun _ =>
    (fX12_deed Y S l0 l2 1).bind fun S271 =>
    fX12_begins_274 Y S271 l0 l1 l2
  else
    if 2 ≤ l1 then
      fX12_begins_274 Y S l0 l1 l2
    else
      (rcv Y 12 l0).bind fun _ =>
      (fX12_here Y S l0 ).bind fun v255 =>
      (fX12_isIn Y S v255 48 57).bind fun v262 =>
      if v262 = 0 then
        fX12_begins_274 Y S l0 l1 l2
      else
        (rcv Y 12 l0).bind fun _ =>
        (fX12_deed Y S l0 l2 1).bind fun S271 =>
        fX12_begins_274 Y S271 l0 l1 l2
set_option maxRecDepth 100000 in
set_option maxHeartbeats 4000000 in
theorem wX12_begins_244 {p : Program} {l : Launch} {e : Env} {R : Room} {s : State} {m : MethodId} {args : Array Value} {below : List Frame} {meth : Method} {c : Code} {G : GG} {Y : LY} {res : HS} (X : Cx p R s m args meth c RX12 cX12_begins 3 4 88 (fun q => q ∈ Y.1) G none) : ∀ (S : HS) (l0 : Option Nat) (l1 : Int32) (l2 : Int32), fX12_begins_244 Y S l0 l1 l2 = some res → ∀ (H : Heap) (locs : List Loc) (ls : Array Slot), HP (fun q => q ∈ Y.1) G Y s S H locs → LV ls 3 [(0, va_rf l0), (1, .int l1), (2, .int l2)] → W p l e R s m args below meth c H locs 0 0 (MQ below (QI G Y res none) args s 0 0 (fun q => q ∈ Y.1)) (F0 m 244 ls []) := by
  have hx := X.1.1
  have hb := X.1.2.1
  intro S l0 l1 l2 hf H locs ls hP hl
  unfold fX12_begins_244 at hf
  refine lv_iload_n hx hb dX12_begins_244 rfl (hl.at 1 rfl) ?_
  refine lv_iconst (v := 3) hx hb dX12_begins_245 (by decide) ?_
  refine lv_icmp_eq hx hb (tgt := 268) dX12_begins_246 (by decide) (fun c246 => ?_) (fun c246 => ?_)
  · have hf := ifp hf c246
    refine rw_aload_n X dX12_begins_268 rfl (hl.at 0 rfl) ?_
    refine lv_iload_n hx hb dX12_begins_269 rfl (hl.at 2 rfl) ?_
    refine lv_iconst (v := 1) hx hb dX12_begins_270 (by decide) ?_
    obtain ⟨u271, r271, hf⟩ := ob hf
    obtain ⟨S271, e271, hf⟩ := ob hf
    refine rw_callVv (As := [.int l2, .int 1]) X dX12_begins_271 clX12_134 pyX12_deed (mX12_deed l e271) (by decide) r271 rfl hP rfl (catL c1n (Nat.le_of_ble_eq_true rfl)) hl.1.1 (fun H locs hP => ?_)
    exact wX12_begins_274 X S271 l0 l1 l2 hf _ _ _ hP (hl.sub [0, 1, 2] rfl)
  · have hf := ifn hf c246
    refine lv_iload_n hx hb dX12_begins_249 rfl (hl.at 1 rfl) ?_
    refine lv_iconst (v := 2) hx hb dX12_begins_250 (by decide) ?_
    refine lv_icmp_ge hx hb (tgt := 274) dX12_begins_251 (by decide) (fun c251 => ?_) (fun c251 => ?_)
    · have hf := ifp hf c251
      exact wX12_begins_274 X S l0 l1 l2 hf _ _ _ hP (hl.sub [0, 1, 2] rfl)
    · have hf := ifn hf c251
      refine rw_aload_n X dX12_begins_254 rfl (hl.at 0 rfl) ?_
      obtain ⟨u255, r255, hf⟩ := ob hf
      obtain ⟨v255, e255, hf⟩ := ob hf
      refine rw_callVi (As := []) X dX12_begins_255 clX12_105 pyX12_here (mX12_here l e255) (by decide) r255 rfl hP rfl (catL c1n (Nat.le_of_ble_eq_true rfl)) hl.1.1 (fun H locs hP => ?_)
      refine lv_bipush (v := 48) hx hb dX12_begins_258 (by decide) ?_
      refine lv_bipush (v := 57) hx hb dX12_begins_260 (by decide) ?_
      obtain ⟨v262, e262, hf⟩ := ob hf
      refine rw_callSi (As := [.int v255, .int 48, .int 57]) X dX12_begins_262 clX12_94 pyX12_isIn (mX12_isIn l e262) (by decide) hP rfl (catL c1n (Nat.le_of_ble_eq_true rfl)) hl.1.1 (fun H locs hP => ?_)
      refine lv_if_eq hx hb (tgt := 274) dX12_begins_265 (by decide) (fun c265 => ?_) (fun c265 => ?_)
      · have hf := ifp hf c265
        exact wX12_begins_274 X S l0 l1 l2 hf _ _ _ hP (hl.sub [0, 1, 2] rfl)
      · have hf := ifn hf c265
        refine rw_aload_n X dX12_begins_268 rfl (hl.at 0 rfl) ?_
        refine lv_iload_n hx hb dX12_begins_269 rfl (hl.at 2 rfl) ?_
        refine lv_iconst (v := 1) hx hb dX12_begins_270 (by decide) ?_
        obtain ⟨u271, r271, hf⟩ := ob hf
        obtain ⟨S271, e271, hf⟩ := ob hf
        refine rw_callVv (As := [.int l2, .int 1]) X dX12_begins_271 clX12_134 pyX12_deed (mX12_deed l e271) (by decide) r271 rfl hP rfl (catL c1n (Nat.le_of_ble_eq_true rfl)) hl.1.1 (fun H locs hP => ?_)
        exact wX12_begins_274 X S271 l0 l1 l2 hf _ _ _ hP (hl.sub [0, 1, 2] rfl)
def fX12_begins_219 (Y : LY) (S : HS) (l0 : Option Nat) (l1 : Int32) (l2 : Int32) : Option (HS) :=
  (gI Y 12 1222 l0 S).bind fun v220 =>
  if v220 = 0 then
    if l1 = 2 then
      (rcv Y 12 l0).bind fun _ =>
      (fX12_deed Y S l0 l2 0).bind fun S241 =>
      fX12_begins_244 Y S241 l0 l1 l2
    else
      if l1 = 12 then
        (rcv Y 12 l0).bind fun _ =>
        (fX12_deed Y S l0 l2 0).bind fun S241 =>
        fX12_begins_244 Y S241 l0 l1 l2
      else
        fX12_begins_244 Y S l0 l1 l2
  else
    some S
set_option maxRecDepth 100000 in
set_option maxHeartbeats 4000000 in
theorem wX12_begins_219 {p : Program} {l : Launch} {e : Env} {R : Room} {s : State} {m : MethodId} {args : Array Value} {below : List Frame} {meth : Method} {c : Code} {G : GG} {Y : LY} {res : HS} (X : Cx p R s m args meth c RX12 cX12_begins 3 4 88 (fun q => q ∈ Y.1) G none) : ∀ (S : HS) (l0 : Option Nat) (l1 : Int32) (l2 : Int32), fX12_begins_219 Y S l0 l1 l2 = some res → ∀ (H : Heap) (locs : List Loc) (ls : Array Slot), HP (fun q => q ∈ Y.1) G Y s S H locs → LV ls 3 [(0, va_rf l0), (1, .int l1), (2, .int l2)] → W p l e R s m args below meth c H locs 0 0 (MQ below (QI G Y res none) args s 0 0 (fun q => q ∈ Y.1)) (F0 m 219 ls []) := by
  have hx := X.1.1
  have hb := X.1.2.1
  intro S l0 l1 l2 hf H locs ls hP hl
  unfold fX12_begins_219 at hf
  refine rw_aload_n X dX12_begins_219 rfl (hl.at 0 rfl) ?_
  obtain ⟨v220, e220, hf⟩ := ob hf
  refine rw_getI X dX12_begins_220 fl12_109 e220 rfl hP ?_
  refine lv_if_eq hx hb (tgt := 227) dX12_begins_223 (by decide) (fun c223 => ?_) (fun c223 => ?_)
  · have hf := ifp hf c223
    refine lv_iload_n hx hb dX12_begins_227 rfl (hl.at 1 rfl) ?_
    refine lv_iconst (v := 2) hx hb dX12_begins_228 (by decide) ?_
    refine lv_icmp_eq hx hb (tgt := 238) dX12_begins_229 (by decide) (fun c229 => ?_) (fun c229 => ?_)
    · have hf := ifp hf c229
      refine rw_aload_n X dX12_begins_238 rfl (hl.at 0 rfl) ?_
      refine lv_iload_n hx hb dX12_begins_239 rfl (hl.at 2 rfl) ?_
      refine lv_iconst (v := 0) hx hb dX12_begins_240 (by decide) ?_
      obtain ⟨u241, r241, hf⟩ := ob hf
      obtain ⟨S241, e241, hf⟩ := ob hf
      refine rw_callVv (As := [.int l2, .int 0]) X dX12_begins_241 clX12_134 pyX12_deed (mX12_deed l e241) (by decide) r241 rfl hP rfl (catL c1n (Nat.le_of_ble_eq_true rfl)) hl.1.1 (fun H locs hP => ?_)
      exact wX12_begins_244 X S241 l0 l1 l2 hf _ _ _ hP (hl.sub [0, 1, 2] rfl)
    · have hf := ifn hf c229
      refine lv_iload_n hx hb dX12_begins_232 rfl (hl.at 1 rfl) ?_
      refine lv_bipush (v := 12) hx hb dX12_begins_233 (by decide) ?_
      refine lv_icmp_ne hx hb (tgt := 244) dX12_begins_235 (by decide) (fun c235 => ?_) (fun c235 => ?_)
      · have hf := ifn hf c235
        exact wX12_begins_244 X S l0 l1 l2 hf _ _ _ hP (hl.sub [0, 1, 2] rfl)
      · have hf := ifp hf c235
        refine rw_aload_n X dX12_begins_238 rfl (hl.at 0 rfl) ?_
        refine lv_iload_n hx hb dX12_begins_239 rfl (hl.at 2 rfl) ?_
        refine lv_iconst (v := 0) hx hb dX12_begins_240 (by decide) ?_
        obtain ⟨u241, r241, hf⟩ := ob hf
        obtain ⟨S241, e241, hf⟩ := ob hf
        refine rw_callVv (As := [.int l2, .int 0]) X dX12_begins_241 clX12_134 pyX12_deed (mX12_deed l e241) (by decide) r241 rfl hP rfl (catL c1n (Nat.le_of_ble_eq_true rfl)) hl.1.1 (fun H locs hP => ?_)
        exact wX12_begins_244 X S241 l0 l1 l2 hf _ _ _ hP (hl.sub [0, 1, 2] rfl)
  · have hf := ifn hf c223
    cases hf
    exact rw_vret X dX12_begins_226 hP
def fX12_begins_200 (Y : LY) (S : HS) (l0 : Option Nat) (l1 : Int32) (l2 : Int32) : Option (HS) :=
  if l1 = 14 then
    (gR Y 12 1224 l0 S).bind fun v207 =>
    (rcv Y 12 l0).bind fun _ =>
    (fX12_digit Y S l0 0 7).bind fun q215 =>
    (pA Y 14 v207 l2 q215.2 q215.1).bind fun S218 =>
    fX12_begins_219 Y S218 l0 l1 l2
  else
    fX12_begins_219 Y S l0 l1 l2
set_option maxRecDepth 100000 in
set_option maxHeartbeats 4000000 in
theorem wX12_begins_200 {p : Program} {l : Launch} {e : Env} {R : Room} {s : State} {m : MethodId} {args : Array Value} {below : List Frame} {meth : Method} {c : Code} {G : GG} {Y : LY} {res : HS} (X : Cx p R s m args meth c RX12 cX12_begins 3 4 88 (fun q => q ∈ Y.1) G none) : ∀ (S : HS) (l0 : Option Nat) (l1 : Int32) (l2 : Int32), fX12_begins_200 Y S l0 l1 l2 = some res → ∀ (H : Heap) (locs : List Loc) (ls : Array Slot), HP (fun q => q ∈ Y.1) G Y s S H locs → LV ls 3 [(0, va_rf l0), (1, .int l1), (2, .int l2)] → W p l e R s m args below meth c H locs 0 0 (MQ below (QI G Y res none) args s 0 0 (fun q => q ∈ Y.1)) (F0 m 200 ls []) := by
  have hx := X.1.1
  have hb := X.1.2.1
  intro S l0 l1 l2 hf H locs ls hP hl
  unfold fX12_begins_200 at hf
  refine lv_iload_n hx hb dX12_begins_200 rfl (hl.at 1 rfl) ?_
  refine lv_bipush (v := 14) hx hb dX12_begins_201 (by decide) ?_
  refine lv_icmp_ne hx hb (tgt := 219) dX12_begins_203 (by decide) (fun c203 => ?_) (fun c203 => ?_)
  · have hf := ifn hf c203
    exact wX12_begins_219 X S l0 l1 l2 hf _ _ _ hP (hl.sub [0, 1, 2] rfl)
  · have hf := ifp hf c203
    refine rw_aload_n X dX12_begins_206 rfl (hl.at 0 rfl) ?_
    obtain ⟨v207, e207, hf⟩ := ob hf
    refine rw_getR X dX12_begins_207 fl12_61 e207 rfl hP ?_
    refine lv_iload_n hx hb dX12_begins_210 rfl (hl.at 2 rfl) ?_
    refine rw_aload_n X dX12_begins_211 rfl (hl.at 0 rfl) ?_
    refine lv_iconst (v := 0) hx hb dX12_begins_212 (by decide) ?_
    refine lv_bipush (v := 7) hx hb dX12_begins_213 (by decide) ?_
    obtain ⟨u215, r215, hf⟩ := ob hf
    obtain ⟨q215, e215, hf⟩ := ob hf
    refine rw_callVi (As := [.int 0, .int 7]) X dX12_begins_215 clX12_113 pyX12_digit (mX12_digit l e215) (by decide) r215 rfl hP rfl (catL (c1c (ci _) (c1c (cr _) c1n)) (Nat.le_of_ble_eq_true rfl)) hl.1.1 (fun H locs hP => ?_)
    obtain ⟨S218, e218, hf⟩ := ob hf
    refine rw_iast X dX12_begins_218 e218 hP (fun H locs hP => ?_)
    exact wX12_begins_219 X S218 l0 l1 l2 hf _ _ _ hP (hl.sub [0, 1, 2] rfl)
def fX12_begins_187 (Y : LY) (S : HS) (l0 : Option Nat) (l1 : Int32) (l2 : Int32) : Option (HS) :=
  (gR Y 12 1224 l0 S).bind fun v188 =>
  (rcv Y 12 l0).bind fun _ =>
  (fX12_digit Y S l0 1 9).bind fun q196 =>
  (pA Y 14 v188 l2 q196.2 q196.1).bind fun S199 =>
  fX12_begins_200 Y S199 l0 l1 l2
set_option maxRecDepth 100000 in
set_option maxHeartbeats 4000000 in
theorem wX12_begins_187 {p : Program} {l : Launch} {e : Env} {R : Room} {s : State} {m : MethodId} {args : Array Value} {below : List Frame} {meth : Method} {c : Code} {G : GG} {Y : LY} {res : HS} (X : Cx p R s m args meth c RX12 cX12_begins 3 4 88 (fun q => q ∈ Y.1) G none) : ∀ (S : HS) (l0 : Option Nat) (l1 : Int32) (l2 : Int32), fX12_begins_187 Y S l0 l1 l2 = some res → ∀ (H : Heap) (locs : List Loc) (ls : Array Slot), HP (fun q => q ∈ Y.1) G Y s S H locs → LV ls 3 [(0, va_rf l0), (1, .int l1), (2, .int l2)] → W p l e R s m args below meth c H locs 0 0 (MQ below (QI G Y res none) args s 0 0 (fun q => q ∈ Y.1)) (F0 m 187 ls []) := by
  have hx := X.1.1
  have hb := X.1.2.1
  intro S l0 l1 l2 hf H locs ls hP hl
  unfold fX12_begins_187 at hf
  refine rw_aload_n X dX12_begins_187 rfl (hl.at 0 rfl) ?_
  obtain ⟨v188, e188, hf⟩ := ob hf
  refine rw_getR X dX12_begins_188 fl12_61 e188 rfl hP ?_
  refine lv_iload_n hx hb dX12_begins_191 rfl (hl.at 2 rfl) ?_
  refine rw_aload_n X dX12_begins_192 rfl (hl.at 0 rfl) ?_
  refine lv_iconst (v := 1) hx hb dX12_begins_193 (by decide) ?_
  refine lv_bipush (v := 9) hx hb dX12_begins_194 (by decide) ?_
  obtain ⟨u196, r196, hf⟩ := ob hf
  obtain ⟨q196, e196, hf⟩ := ob hf
  refine rw_callVi (As := [.int 1, .int 9]) X dX12_begins_196 clX12_113 pyX12_digit (mX12_digit l e196) (by decide) r196 rfl hP rfl (catL (c1c (ci _) (c1c (cr _) c1n)) (Nat.le_of_ble_eq_true rfl)) hl.1.1 (fun H locs hP => ?_)
  obtain ⟨S199, e199, hf⟩ := ob hf
  refine rw_iast X dX12_begins_199 e199 hP (fun H locs hP => ?_)
  exact wX12_begins_200 X S199 l0 l1 l2 hf _ _ _ hP (hl.sub [0, 1, 2] rfl)
def fX12_begins_162 (Y : LY) (S : HS) (l0 : Option Nat) (l1 : Int32) (l2 : Int32) : Option (HS) :=
  (gR Y 12 1224 l0 S).bind fun v163 =>
  (rcv Y 12 l0).bind fun _ =>
  (fX12_digit Y S l0 0 9).bind fun q171 =>
  (pA Y 14 v163 l2 q171.2 q171.1).bind fun S174 =>
  if l1 = 10 then
    fX12_begins_187 Y S174 l0 l1 l2
  else
    if l1 = 11 then
      fX12_begins_187 Y S174 l0 l1 l2
    else
      fX12_begins_200 Y S174 l0 l1 l2
set_option maxRecDepth 100000 in
set_option maxHeartbeats 4000000 in
theorem wX12_begins_162 {p : Program} {l : Launch} {e : Env} {R : Room} {s : State} {m : MethodId} {args : Array Value} {below : List Frame} {meth : Method} {c : Code} {G : GG} {Y : LY} {res : HS} (X : Cx p R s m args meth c RX12 cX12_begins 3 4 88 (fun q => q ∈ Y.1) G none) : ∀ (S : HS) (l0 : Option Nat) (l1 : Int32) (l2 : Int32), fX12_begins_162 Y S l0 l1 l2 = some res → ∀ (H : Heap) (locs : List Loc) (ls : Array Slot), HP (fun q => q ∈ Y.1) G Y s S H locs → LV ls 3 [(0, va_rf l0), (1, .int l1), (2, .int l2)] → W p l e R s m args below meth c H locs 0 0 (MQ below (QI G Y res none) args s 0 0 (fun q => q ∈ Y.1)) (F0 m 162 ls []) := by
  have hx := X.1.1
  have hb := X.1.2.1
  intro S l0 l1 l2 hf H locs ls hP hl
  unfold fX12_begins_162 at hf
  refine rw_aload_n X dX12_begins_162 rfl (hl.at 0 rfl) ?_
  obtain ⟨v163, e163, hf⟩ := ob hf
  refine rw_getR X dX12_begins_163 fl12_61 e163 rfl hP ?_
  refine lv_iload_n hx hb dX12_begins_166 rfl (hl.at 2 rfl) ?_
  refine rw_aload_n X dX12_begins_167 rfl (hl.at 0 rfl) ?_
  refine lv_iconst (v := 0) hx hb dX12_begins_168 (by decide) ?_
  refine lv_bipush (v := 9) hx hb dX12_begins_169 (by decide) ?_
  obtain ⟨u171, r171, hf⟩ := ob hf
  obtain ⟨q171, e171, hf⟩ := ob hf
  refine rw_callVi (As := [.int 0, .int 9]) X dX12_begins_171 clX12_113 pyX12_digit (mX12_digit l e171) (by decide) r171 rfl hP rfl (catL (c1c (ci _) (c1c (cr _) c1n)) (Nat.le_of_ble_eq_true rfl)) hl.1.1 (fun H locs hP => ?_)
  obtain ⟨S174, e174, hf⟩ := ob hf
  refine rw_iast X dX12_begins_174 e174 hP (fun H locs hP => ?_)
  refine lv_iload_n hx hb dX12_begins_175 rfl (hl.at 1 rfl) ?_
  refine lv_bipush (v := 10) hx hb dX12_begins_176 (by decide) ?_
  refine lv_icmp_eq hx hb (tgt := 187) dX12_begins_178 (by decide) (fun c178 => ?_) (fun c178 => ?_)
  · have hf := ifp hf c178
    exact wX12_begins_187 X S174 l0 l1 l2 hf _ _ _ hP (hl.sub [0, 1, 2] rfl)
  · have hf := ifn hf c178
    refine lv_iload_n hx hb dX12_begins_181 rfl (hl.at 1 rfl) ?_
    refine lv_bipush (v := 11) hx hb dX12_begins_182 (by decide) ?_
    refine lv_icmp_ne hx hb (tgt := 200) dX12_begins_184 (by decide) (fun c184 => ?_) (fun c184 => ?_)
    · have hf := ifn hf c184
      exact wX12_begins_200 X S174 l0 l1 l2 hf _ _ _ hP (hl.sub [0, 1, 2] rfl)
    · have hf := ifp hf c184
      exact wX12_begins_187 X S174 l0 l1 l2 hf _ _ _ hP (hl.sub [0, 1, 2] rfl)
def fX12_begins_132 (Y : LY) (S : HS) (l0 : Option Nat) (l1 : Int32) (l2 : Int32) (s0 : Option Nat) (s1 : Int32) (s2 : Int32) : Option (HS) :=
  (pA Y 14 s0 s1 s2 S).bind fun S132 =>
  (gR Y 12 1226 l0 S132).bind fun v134 =>
  (gI Y 12 1235 l0 S132).bind fun v139 =>
  (pA Y 14 v134 l2 (v139 + 1) S132).bind fun S144 =>
  if l1 < 2 then
    fX12_begins_162 Y S144 l0 l1 l2
  else
    if l1 = 8 then
      fX12_begins_162 Y S144 l0 l1 l2
    else
      if l1 = 13 then
        fX12_begins_162 Y S144 l0 l1 l2
      else
        if l1 = 10 then
          fX12_begins_187 Y S144 l0 l1 l2
        else
          if l1 = 11 then
            fX12_begins_187 Y S144 l0 l1 l2
          else
            fX12_begins_200 Y S144 l0 l1 l2
set_option maxRecDepth 100000 in
set_option maxHeartbeats 4000000 in
theorem wX12_begins_132 {p : Program} {l : Launch} {e : Env} {R : Room} {s : State} {m : MethodId} {args : Array Value} {below : List Frame} {meth : Method} {c : Code} {G : GG} {Y : LY} {res : HS} (X : Cx p R s m args meth c RX12 cX12_begins 3 4 88 (fun q => q ∈ Y.1) G none) : ∀ (S : HS) (l0 : Option Nat) (l1 : Int32) (l2 : Int32) (s0 : Option Nat) (s1 : Int32) (s2 : Int32), fX12_begins_132 Y S l0 l1 l2 s0 s1 s2 = some res → ∀ (H : Heap) (locs : List Loc) (ls : Array Slot), HP (fun q => q ∈ Y.1) G Y s S H locs → LV ls 3 [(0, va_rf l0), (1, .int l1), (2, .int l2)] → W p l e R s m args below meth c H locs 0 0 (MQ below (QI G Y res none) args s 0 0 (fun q => q ∈ Y.1)) (F0 m 132 ls (.int s2 :: (.int s1 :: (va_rf s0 :: [])))) := by
  have hx := X.1.1
  have hb := X.1.2.1
  intro S l0 l1 l2 s0 s1 s2 hf H locs ls hP hl
  unfold fX12_begins_132 at hf
  obtain ⟨S132, e132, hf⟩ := ob hf
  refine rw_iast X dX12_begins_132 e132 hP (fun H locs hP => ?_)
  refine rw_aload_n X dX12_begins_133 rfl (hl.at 0 rfl) ?_
  obtain ⟨v134, e134, hf⟩ := ob hf
  refine rw_getR X dX12_begins_134 fl12_67 e134 rfl hP ?_
  refine lv_iload_n hx hb dX12_begins_137 rfl (hl.at 2 rfl) ?_
  refine rw_aload_n X dX12_begins_138 rfl (hl.at 0 rfl) ?_
  obtain ⟨v139, e139, hf⟩ := ob hf
  refine rw_getI X dX12_begins_139 fl12_131 e139 rfl hP ?_
  refine lv_iconst (v := 1) hx hb dX12_begins_142 (by decide) ?_
  refine lv_iadd hx hb dX12_begins_143 ?_
  obtain ⟨S144, e144, hf⟩ := ob hf
  refine rw_iast X dX12_begins_144 e144 hP (fun H locs hP => ?_)
  refine lv_iload_n hx hb dX12_begins_145 rfl (hl.at 1 rfl) ?_
  refine lv_iconst (v := 2) hx hb dX12_begins_146 (by decide) ?_
  refine lv_icmp_lt hx hb (tgt := 162) dX12_begins_147 (by decide) (fun c147 => ?_) (fun c147 => ?_)
  · have hf := ifp hf c147
    exact wX12_begins_162 X S144 l0 l1 l2 hf _ _ _ hP (hl.sub [0, 1, 2] rfl)
  · have hf := ifn hf c147
    refine lv_iload_n hx hb dX12_begins_150 rfl (hl.at 1 rfl) ?_
    refine lv_bipush (v := 8) hx hb dX12_begins_151 (by decide) ?_
    refine lv_icmp_eq hx hb (tgt := 162) dX12_begins_153 (by decide) (fun c153 => ?_) (fun c153 => ?_)
    · have hf := ifp hf c153
      exact wX12_begins_162 X S144 l0 l1 l2 hf _ _ _ hP (hl.sub [0, 1, 2] rfl)
    · have hf := ifn hf c153
      refine lv_iload_n hx hb dX12_begins_156 rfl (hl.at 1 rfl) ?_
      refine lv_bipush (v := 13) hx hb dX12_begins_157 (by decide) ?_
      refine lv_icmp_ne hx hb (tgt := 175) dX12_begins_159 (by decide) (fun c159 => ?_) (fun c159 => ?_)
      · have hf := ifn hf c159
        refine lv_iload_n hx hb dX12_begins_175 rfl (hl.at 1 rfl) ?_
        refine lv_bipush (v := 10) hx hb dX12_begins_176 (by decide) ?_
        refine lv_icmp_eq hx hb (tgt := 187) dX12_begins_178 (by decide) (fun c178 => ?_) (fun c178 => ?_)
        · have hf := ifp hf c178
          exact wX12_begins_187 X S144 l0 l1 l2 hf _ _ _ hP (hl.sub [0, 1, 2] rfl)
        · have hf := ifn hf c178
          refine lv_iload_n hx hb dX12_begins_181 rfl (hl.at 1 rfl) ?_
          refine lv_bipush (v := 11) hx hb dX12_begins_182 (by decide) ?_
          refine lv_icmp_ne hx hb (tgt := 200) dX12_begins_184 (by decide) (fun c184 => ?_) (fun c184 => ?_)
          · have hf := ifn hf c184
            exact wX12_begins_200 X S144 l0 l1 l2 hf _ _ _ hP (hl.sub [0, 1, 2] rfl)
          · have hf := ifp hf c184
            exact wX12_begins_187 X S144 l0 l1 l2 hf _ _ _ hP (hl.sub [0, 1, 2] rfl)
      · have hf := ifp hf c159
        exact wX12_begins_162 X S144 l0 l1 l2 hf _ _ _ hP (hl.sub [0, 1, 2] rfl)
def fX12_begins_40 (Y : LY) (S : HS) (l0 : Option Nat) (l1 : Int32) (s0 : Option Nat) (s1 : Int32) (s2 : Int32) : Option (HS) :=
  (pZ Y 12 1222 s0 (s1 ||| s2) S).bind fun S41 =>
  (gI Y 12 1222 l0 S41).bind fun v45 =>
  if v45 = 0 then
    (gI Y 12 1220 l0 S41).bind fun v54 =>
    (pI Y 12 1220 l0 (v54 + 1) S41).bind fun S59 =>
    (gI Y 12 1221 l0 S59).bind fun v63 =>
    (gI Y 12 1221 l0 S59).bind fun v69 =>
    (pI Y 12 1221 l0 (v69 + 1) S59).bind fun S74 =>
    (gR Y 12 1223 l0 S74).bind fun v78 =>
    (pA Y 14 v78 v63 l1 S74).bind fun S83 =>
    (gR Y 12 1224 l0 S83).bind fun v85 =>
    (pA Y 14 v85 v63 0 S83).bind fun S90 =>
    (gR Y 12 1229 l0 S90).bind fun v92 =>
    (pA Y 14 v92 v63 0 S90).bind fun S97 =>
    (gR Y 12 1232 l0 S97).bind fun v99 =>
    (pA Y 14 v99 v63 0 S97).bind fun S104 =>
    (gR Y 12 1225 l0 S104).bind fun v106 =>
    (gI Y 12 1235 l0 S104).bind fun v111 =>
    if v111 = 0 then
      fX12_begins_132 Y S104 l0 l1 v63 v106 v63 (-1)
    else
      (gR Y 12 1234 l0 S104).bind fun v122 =>
      (gI Y 12 1235 l0 S104).bind fun v126 =>
      (gA Y 14 v122 (v126 - 1) S104).bind fun v131 =>
      fX12_begins_132 Y S104 l0 l1 v63 v106 v63 v131
  else
    some S41
set_option maxRecDepth 100000 in
set_option maxHeartbeats 4000000 in
theorem wX12_begins_40 {p : Program} {l : Launch} {e : Env} {R : Room} {s : State} {m : MethodId} {args : Array Value} {below : List Frame} {meth : Method} {c : Code} {G : GG} {Y : LY} {res : HS} (X : Cx p R s m args meth c RX12 cX12_begins 3 4 88 (fun q => q ∈ Y.1) G none) : ∀ (S : HS) (l0 : Option Nat) (l1 : Int32) (s0 : Option Nat) (s1 : Int32) (s2 : Int32), fX12_begins_40 Y S l0 l1 s0 s1 s2 = some res → ∀ (H : Heap) (locs : List Loc) (ls : Array Slot), HP (fun q => q ∈ Y.1) G Y s S H locs → LV ls 3 [(0, va_rf l0), (1, .int l1)] → W p l e R s m args below meth c H locs 0 0 (MQ below (QI G Y res none) args s 0 0 (fun q => q ∈ Y.1)) (F0 m 40 ls (.int s2 :: (.int s1 :: (va_rf s0 :: [])))) := by
  have hx := X.1.1
  have hb := X.1.2.1
  intro S l0 l1 s0 s1 s2 hf H locs ls hP hl
  unfold fX12_begins_40 at hf
  refine lv_ior hx hb dX12_begins_40 ?_
  obtain ⟨S41, e41, hf⟩ := ob hf
  refine rw_putZ X dX12_begins_41 fl12_109 fw12_22 e41 rfl hP (fun H locs hP => ?_)
  refine rw_aload_n X dX12_begins_44 rfl (hl.at 0 rfl) ?_
  obtain ⟨v45, e45, hf⟩ := ob hf
  refine rw_getI X dX12_begins_45 fl12_109 e45 rfl hP ?_
  refine lv_if_eq hx hb (tgt := 52) dX12_begins_48 (by decide) (fun c48 => ?_) (fun c48 => ?_)
  · have hf := ifp hf c48
    refine rw_aload_n X dX12_begins_52 rfl (hl.at 0 rfl) ?_
    refine lv_dup hx hb dX12_begins_53 (cr _) ?_
    obtain ⟨v54, e54, hf⟩ := ob hf
    refine rw_getI X dX12_begins_54 fl12_102 e54 rfl hP ?_
    refine lv_iconst (v := 1) hx hb dX12_begins_57 (by decide) ?_
    refine lv_iadd hx hb dX12_begins_58 ?_
    obtain ⟨S59, e59, hf⟩ := ob hf
    refine rw_putI X dX12_begins_59 fl12_102 fw12_20 e59 rfl hP (fun H locs hP => ?_)
    refine rw_aload_n X dX12_begins_62 rfl (hl.at 0 rfl) ?_
    obtain ⟨v63, e63, hf⟩ := ob hf
    refine rw_getI X dX12_begins_63 fl12_128 e63 rfl hP ?_
    refine rv_istore_n X dX12_begins_66 rfl hl (by decide) rfl (fun ls hl => ?_)
    have hl : LV ls 3 [(2, .int v63), (0, va_rf l0), (1, .int l1)] := hl
    refine rw_aload_n X dX12_begins_67 rfl (hl.at 1 rfl) ?_
    refine lv_dup hx hb dX12_begins_68 (cr _) ?_
    obtain ⟨v69, e69, hf⟩ := ob hf
    refine rw_getI X dX12_begins_69 fl12_128 e69 rfl hP ?_
    refine lv_iconst (v := 1) hx hb dX12_begins_72 (by decide) ?_
    refine lv_iadd hx hb dX12_begins_73 ?_
    obtain ⟨S74, e74, hf⟩ := ob hf
    refine rw_putI X dX12_begins_74 fl12_128 fw12_21 e74 rfl hP (fun H locs hP => ?_)
    refine rw_aload_n X dX12_begins_77 rfl (hl.at 1 rfl) ?_
    obtain ⟨v78, e78, hf⟩ := ob hf
    refine rw_getR X dX12_begins_78 fl12_58 e78 rfl hP ?_
    refine lv_iload_n hx hb dX12_begins_81 rfl (hl.at 0 rfl) ?_
    refine lv_iload_n hx hb dX12_begins_82 rfl (hl.at 2 rfl) ?_
    obtain ⟨S83, e83, hf⟩ := ob hf
    refine rw_iast X dX12_begins_83 e83 hP (fun H locs hP => ?_)
    refine rw_aload_n X dX12_begins_84 rfl (hl.at 1 rfl) ?_
    obtain ⟨v85, e85, hf⟩ := ob hf
    refine rw_getR X dX12_begins_85 fl12_61 e85 rfl hP ?_
    refine lv_iload_n hx hb dX12_begins_88 rfl (hl.at 0 rfl) ?_
    refine lv_iconst (v := 0) hx hb dX12_begins_89 (by decide) ?_
    obtain ⟨S90, e90, hf⟩ := ob hf
    refine rw_iast X dX12_begins_90 e90 hP (fun H locs hP => ?_)
    refine rw_aload_n X dX12_begins_91 rfl (hl.at 1 rfl) ?_
    obtain ⟨v92, e92, hf⟩ := ob hf
    refine rw_getR X dX12_begins_92 fl12_76 e92 rfl hP ?_
    refine lv_iload_n hx hb dX12_begins_95 rfl (hl.at 0 rfl) ?_
    refine lv_iconst (v := 0) hx hb dX12_begins_96 (by decide) ?_
    obtain ⟨S97, e97, hf⟩ := ob hf
    refine rw_iast X dX12_begins_97 e97 hP (fun H locs hP => ?_)
    refine rw_aload_n X dX12_begins_98 rfl (hl.at 1 rfl) ?_
    obtain ⟨v99, e99, hf⟩ := ob hf
    refine rw_getR X dX12_begins_99 fl12_85 e99 rfl hP ?_
    refine lv_iload_n hx hb dX12_begins_102 rfl (hl.at 0 rfl) ?_
    refine lv_iconst (v := 0) hx hb dX12_begins_103 (by decide) ?_
    obtain ⟨S104, e104, hf⟩ := ob hf
    refine rw_iast X dX12_begins_104 e104 hP (fun H locs hP => ?_)
    refine rw_aload_n X dX12_begins_105 rfl (hl.at 1 rfl) ?_
    obtain ⟨v106, e106, hf⟩ := ob hf
    refine rw_getR X dX12_begins_106 fl12_64 e106 rfl hP ?_
    refine lv_iload_n hx hb dX12_begins_109 rfl (hl.at 0 rfl) ?_
    refine rw_aload_n X dX12_begins_110 rfl (hl.at 1 rfl) ?_
    obtain ⟨v111, e111, hf⟩ := ob hf
    refine rw_getI X dX12_begins_111 fl12_131 e111 rfl hP ?_
    refine lv_if_ne hx hb (tgt := 121) dX12_begins_114 (by decide) (fun c114 => ?_) (fun c114 => ?_)
    · have hf := ifn hf c114
      refine rw_aload_n X dX12_begins_121 rfl (hl.at 1 rfl) ?_
      obtain ⟨v122, e122, hf⟩ := ob hf
      refine rw_getR X dX12_begins_122 fl12_91 e122 rfl hP ?_
      refine rw_aload_n X dX12_begins_125 rfl (hl.at 1 rfl) ?_
      obtain ⟨v126, e126, hf⟩ := ob hf
      refine rw_getI X dX12_begins_126 fl12_131 e126 rfl hP ?_
      refine lv_iconst (v := 1) hx hb dX12_begins_129 (by decide) ?_
      refine lv_isub hx hb dX12_begins_130 ?_
      obtain ⟨v131, e131, hf⟩ := ob hf
      refine rw_iald X dX12_begins_131 e131 hP ?_
      exact wX12_begins_132 X S104 l0 l1 v63 v106 v63 v131 hf _ _ _ hP (hl.sub [1, 2, 0] rfl)
    · have hf := ifp hf c114
      refine lv_iconst (v := (-1)) hx hb dX12_begins_117 (by decide) ?_
      refine lv_goto (tgt := 132) hx hb dX12_begins_118 (by decide) ?_
      exact wX12_begins_132 X S104 l0 l1 v63 v106 v63 (-1) hf _ _ _ hP (hl.sub [1, 2, 0] rfl)
  · have hf := ifn hf c48
    cases hf
    exact rw_vret X dX12_begins_51 hP
def fX12_begins (Y : LY) (S : HS) (l0 : Option Nat) : Option (HS) :=
  (rcv Y 12 l0).bind fun _ =>
  (fX12_here Y S l0 ).bind fun v1 =>
  (fX12_kindOf Y S v1).bind fun v4 =>
  (gI Y 12 1222 l0 S).bind fun v10 =>
  if v4 < 0 then
    fX12_begins_40 Y S l0 v4 l0 v10 1
  else
    (gI Y 12 1221 l0 S).bind fun v18 =>
    if v18 = 24 then
      fX12_begins_40 Y S l0 v4 l0 v10 1
    else
      (gI Y 12 1235 l0 S).bind fun v27 =>
      if v27 = 10 then
        fX12_begins_40 Y S l0 v4 l0 v10 1
      else
        fX12_begins_40 Y S l0 v4 l0 v10 0
set_option maxRecDepth 100000 in
set_option maxHeartbeats 4000000 in
theorem mX12_begins (l : Launch) {G : GG} {Y : LY} {S : HS} {l0 : Option Nat} {res : HS} (hf : fX12_begins Y S l0 = some res) : MM l yX12_begins cX12_begins 3 none 4 88 G Y S [va_rf l0] res none := by
  refine mm_of2 (plainFor_of_name (by decide +kernel)) (Nat.le_of_ble_eq_true rfl) (c1c (cr _) c1n) ?_
  intro p e R s m args below meth c X H locs ls hP hl
  have X : Cx p R s m args meth c RX12 cX12_begins 3 4 88 (fun q => q ∈ Y.1) G none := X
  have hx := X.1.1
  have hb := X.1.2.1
  have hl : LV ls 3 [(0, va_rf l0)] := hl
  unfold fX12_begins at hf
  refine rw_aload_n X dX12_begins_0 rfl (hl.at 0 rfl) ?_
  obtain ⟨u1, r1, hf⟩ := ob hf
  obtain ⟨v1, e1, hf⟩ := ob hf
  refine rw_callVi (As := []) X dX12_begins_1 clX12_105 pyX12_here (mX12_here l e1) (by decide) r1 rfl hP rfl (catL c1n (Nat.le_of_ble_eq_true rfl)) hl.1.1 (fun H locs hP => ?_)
  obtain ⟨v4, e4, hf⟩ := ob hf
  refine rw_callSi (As := [.int v1]) X dX12_begins_4 clX12_124 pyX12_kindOf (mX12_kindOf l e4) (by decide) hP rfl (catL c1n (Nat.le_of_ble_eq_true rfl)) hl.1.1 (fun H locs hP => ?_)
  refine rv_istore_n X dX12_begins_7 rfl hl (by decide) rfl (fun ls hl => ?_)
  have hl : LV ls 3 [(1, .int v4), (0, va_rf l0)] := hl
  refine rw_aload_n X dX12_begins_8 rfl (hl.at 1 rfl) ?_
  refine lv_dup hx hb dX12_begins_9 (cr _) ?_
  obtain ⟨v10, e10, hf⟩ := ob hf
  refine rw_getI X dX12_begins_10 fl12_109 e10 rfl hP ?_
  refine lv_iload_n hx hb dX12_begins_13 rfl (hl.at 0 rfl) ?_
  refine lv_if_lt hx hb (tgt := 35) dX12_begins_14 (by decide) (fun c14 => ?_) (fun c14 => ?_)
  · have hf := ifp hf c14
    refine lv_iconst (v := 1) hx hb dX12_begins_35 (by decide) ?_
    refine lv_goto (tgt := 40) hx hb dX12_begins_36 (by decide) ?_
    exact wX12_begins_40 X S l0 v4 l0 v10 1 hf _ _ _ hP (hl.sub [1, 0] rfl)
  · have hf := ifn hf c14
    refine rw_aload_n X dX12_begins_17 rfl (hl.at 1 rfl) ?_
    obtain ⟨v18, e18, hf⟩ := ob hf
    refine rw_getI X dX12_begins_18 fl12_128 e18 rfl hP ?_
    refine lv_bipush (v := 24) hx hb dX12_begins_21 (by decide) ?_
    refine lv_icmp_eq hx hb (tgt := 35) dX12_begins_23 (by decide) (fun c23 => ?_) (fun c23 => ?_)
    · have hf := ifp hf c23
      refine lv_iconst (v := 1) hx hb dX12_begins_35 (by decide) ?_
      refine lv_goto (tgt := 40) hx hb dX12_begins_36 (by decide) ?_
      exact wX12_begins_40 X S l0 v4 l0 v10 1 hf _ _ _ hP (hl.sub [1, 0] rfl)
    · have hf := ifn hf c23
      refine rw_aload_n X dX12_begins_26 rfl (hl.at 1 rfl) ?_
      obtain ⟨v27, e27, hf⟩ := ob hf
      refine rw_getI X dX12_begins_27 fl12_131 e27 rfl hP ?_
      refine lv_bipush (v := 10) hx hb dX12_begins_30 (by decide) ?_
      refine lv_icmp_ne hx hb (tgt := 39) dX12_begins_32 (by decide) (fun c32 => ?_) (fun c32 => ?_)
      · have hf := ifn hf c32
        refine lv_iconst (v := 0) hx hb dX12_begins_39 (by decide) ?_
        exact wX12_begins_40 X S l0 v4 l0 v10 0 hf _ _ _ hP (hl.sub [1, 0] rfl)
      · have hf := ifp hf c32
        refine lv_iconst (v := 1) hx hb dX12_begins_35 (by decide) ?_
        refine lv_goto (tgt := 40) hx hb dX12_begins_36 (by decide) ?_
        exact wX12_begins_40 X S l0 v4 l0 v10 1 hf _ _ _ hP (hl.sub [1, 0] rfl)
theorem dX12_goesUp_0 : decode cX12_goesUp 0 = .ok (.aload_n 0, 1) := by decide +kernel
theorem dX12_goesUp_1 : decode cX12_goesUp 1 = .ok (.getfield 131, 3) := by decide +kernel
theorem dX12_goesUp_4 : decode cX12_goesUp 4 = .ok (.ifCond .le 147, 3) := by decide +kernel
theorem dX12_goesUp_7 : decode cX12_goesUp 7 = .ok (.aload_n 0, 1) := by decide +kernel
theorem dX12_goesUp_8 : decode cX12_goesUp 8 = .ok (.getfield 146, 3) := by decide +kernel
theorem dX12_goesUp_11 : decode cX12_goesUp 11 = .ok (.ifCond .ne 140, 3) := by decide +kernel
theorem dX12_goesUp_14 : decode cX12_goesUp 14 = .ok (.aload_n 0, 1) := by decide +kernel
theorem dX12_goesUp_15 : decode cX12_goesUp 15 = .ok (.getfield 109, 3) := by decide +kernel
theorem dX12_goesUp_18 : decode cX12_goesUp 18 = .ok (.ifCond .ne 133, 3) := by decide +kernel
theorem dX12_goesUp_21 : decode cX12_goesUp 21 = .ok (.aload_n 0, 1) := by decide +kernel
theorem dX12_goesUp_22 : decode cX12_goesUp 22 = .ok (.getfield 91, 3) := by decide +kernel
theorem dX12_goesUp_25 : decode cX12_goesUp 25 = .ok (.aload_n 0, 1) := by decide +kernel
theorem dX12_goesUp_26 : decode cX12_goesUp 26 = .ok (.getfield 131, 3) := by decide +kernel
theorem dX12_goesUp_29 : decode cX12_goesUp 29 = .ok (.iconst 1, 1) := by decide +kernel
theorem dX12_goesUp_30 : decode cX12_goesUp 30 = .ok (.isub, 1) := by decide +kernel
theorem dX12_goesUp_31 : decode cX12_goesUp 31 = .ok (.iaload, 1) := by decide +kernel
theorem dX12_goesUp_32 : decode cX12_goesUp 32 = .ok (.istore_n 1, 1) := by decide +kernel
theorem dX12_goesUp_33 : decode cX12_goesUp 33 = .ok (.aload_n 0, 1) := by decide +kernel
theorem dX12_goesUp_34 : decode cX12_goesUp 34 = .ok (.invokevirtual 105, 3) := by decide +kernel
theorem dX12_goesUp_37 : decode cX12_goesUp 37 = .ok (.istore_n 2, 1) := by decide +kernel
theorem dX12_goesUp_38 : decode cX12_goesUp 38 = .ok (.aload_n 0, 1) := by decide +kernel
theorem dX12_goesUp_39 : decode cX12_goesUp 39 = .ok (.getfield 58, 3) := by decide +kernel
theorem dX12_goesUp_42 : decode cX12_goesUp 42 = .ok (.iload_n 1, 1) := by decide +kernel
theorem dX12_goesUp_43 : decode cX12_goesUp 43 = .ok (.iaload, 1) := by decide +kernel
theorem dX12_goesUp_44 : decode cX12_goesUp 44 = .ok (.invokestatic 142, 3) := by decide +kernel
theorem dX12_goesUp_47 : decode cX12_goesUp 47 = .ok (.ifCond .eq 27, 3) := by decide +kernel
theorem dX12_goesUp_50 : decode cX12_goesUp 50 = .ok (.iload_n 2, 1) := by decide +kernel
theorem dX12_goesUp_51 : decode cX12_goesUp 51 = .ok (.bipush 44, 2) := by decide +kernel
theorem dX12_goesUp_53 : decode cX12_goesUp 53 = .ok (.if_icmp .ne 21, 3) := by decide +kernel
theorem dX12_goesUp_56 : decode cX12_goesUp 56 = .ok (.aload_n 0, 1) := by decide +kernel
theorem dX12_goesUp_57 : decode cX12_goesUp 57 = .ok (.iconst 1, 1) := by decide +kernel
theorem dX12_goesUp_58 : decode cX12_goesUp 58 = .ok (.putfield 146, 3) := by decide +kernel
theorem dX12_goesUp_61 : decode cX12_goesUp 61 = .ok (.aload_n 0, 1) := by decide +kernel
theorem dX12_goesUp_62 : decode cX12_goesUp 62 = .ok (.dup, 1) := by decide +kernel
theorem dX12_goesUp_63 : decode cX12_goesUp 63 = .ok (.getfield 102, 3) := by decide +kernel
theorem dX12_goesUp_66 : decode cX12_goesUp 66 = .ok (.iconst 1, 1) := by decide +kernel
theorem dX12_goesUp_67 : decode cX12_goesUp 67 = .ok (.iadd, 1) := by decide +kernel
theorem dX12_goesUp_68 : decode cX12_goesUp 68 = .ok (.putfield 102, 3) := by decide +kernel
theorem dX12_goesUp_71 : decode cX12_goesUp 71 = .ok (.goto 77, 3) := by decide +kernel
theorem dX12_goesUp_74 : decode cX12_goesUp 74 = .ok (.aload_n 0, 1) := by decide +kernel
theorem dX12_goesUp_75 : decode cX12_goesUp 75 = .ok (.getfield 58, 3) := by decide +kernel
theorem dX12_goesUp_78 : decode cX12_goesUp 78 = .ok (.iload_n 1, 1) := by decide +kernel
theorem dX12_goesUp_79 : decode cX12_goesUp 79 = .ok (.iaload, 1) := by decide +kernel
theorem dX12_goesUp_80 : decode cX12_goesUp 80 = .ok (.invokestatic 142, 3) := by decide +kernel
theorem dX12_goesUp_83 : decode cX12_goesUp 83 = .ok (.ifCond .eq 17, 3) := by decide +kernel
theorem dX12_goesUp_86 : decode cX12_goesUp 86 = .ok (.iload_n 2, 1) := by decide +kernel
theorem dX12_goesUp_87 : decode cX12_goesUp 87 = .ok (.bipush 41, 2) := by decide +kernel
theorem dX12_goesUp_89 : decode cX12_goesUp 89 = .ok (.if_icmp .eq 11, 3) := by decide +kernel
theorem dX12_goesUp_92 : decode cX12_goesUp 92 = .ok (.aload_n 0, 1) := by decide +kernel
theorem dX12_goesUp_93 : decode cX12_goesUp 93 = .ok (.iconst 1, 1) := by decide +kernel
theorem dX12_goesUp_94 : decode cX12_goesUp 94 = .ok (.putfield 109, 3) := by decide +kernel
theorem dX12_goesUp_97 : decode cX12_goesUp 97 = .ok (.goto 51, 3) := by decide +kernel
theorem dX12_goesUp_100 : decode cX12_goesUp 100 = .ok (.aload_n 0, 1) := by decide +kernel
theorem dX12_goesUp_101 : decode cX12_goesUp 101 = .ok (.dup, 1) := by decide +kernel
theorem dX12_goesUp_102 : decode cX12_goesUp 102 = .ok (.getfield 102, 3) := by decide +kernel
theorem dX12_goesUp_105 : decode cX12_goesUp 105 = .ok (.aload_n 0, 1) := by decide +kernel
theorem dX12_goesUp_106 : decode cX12_goesUp 106 = .ok (.getfield 58, 3) := by decide +kernel
theorem dX12_goesUp_109 : decode cX12_goesUp 109 = .ok (.iload_n 1, 1) := by decide +kernel
theorem dX12_goesUp_110 : decode cX12_goesUp 110 = .ok (.iaload, 1) := by decide +kernel
theorem dX12_goesUp_111 : decode cX12_goesUp 111 = .ok (.invokestatic 142, 3) := by decide +kernel
theorem dX12_goesUp_114 : decode cX12_goesUp 114 = .ok (.ifCond .eq 7, 3) := by decide +kernel
theorem dX12_goesUp_117 : decode cX12_goesUp 117 = .ok (.iconst 1, 1) := by decide +kernel
theorem dX12_goesUp_118 : decode cX12_goesUp 118 = .ok (.goto 4, 3) := by decide +kernel
theorem dX12_goesUp_121 : decode cX12_goesUp 121 = .ok (.iconst 0, 1) := by decide +kernel
theorem dX12_goesUp_122 : decode cX12_goesUp 122 = .ok (.iadd, 1) := by decide +kernel
theorem dX12_goesUp_123 : decode cX12_goesUp 123 = .ok (.putfield 102, 3) := by decide +kernel
theorem dX12_goesUp_126 : decode cX12_goesUp 126 = .ok (.aload_n 0, 1) := by decide +kernel
theorem dX12_goesUp_127 : decode cX12_goesUp 127 = .ok (.getfield 70, 3) := by decide +kernel
theorem dX12_goesUp_130 : decode cX12_goesUp 130 = .ok (.iload_n 1, 1) := by decide +kernel
theorem dX12_goesUp_131 : decode cX12_goesUp 131 = .ok (.aload_n 0, 1) := by decide +kernel
theorem dX12_goesUp_132 : decode cX12_goesUp 132 = .ok (.getfield 128, 3) := by decide +kernel
theorem dX12_goesUp_135 : decode cX12_goesUp 135 = .ok (.iconst 1, 1) := by decide +kernel
theorem dX12_goesUp_136 : decode cX12_goesUp 136 = .ok (.isub, 1) := by decide +kernel
theorem dX12_goesUp_137 : decode cX12_goesUp 137 = .ok (.iastore, 1) := by decide +kernel
theorem dX12_goesUp_138 : decode cX12_goesUp 138 = .ok (.aload_n 0, 1) := by decide +kernel
theorem dX12_goesUp_139 : decode cX12_goesUp 139 = .ok (.dup, 1) := by decide +kernel
theorem dX12_goesUp_140 : decode cX12_goesUp 140 = .ok (.getfield 131, 3) := by decide +kernel
theorem dX12_goesUp_143 : decode cX12_goesUp 143 = .ok (.iconst 1, 1) := by decide +kernel
theorem dX12_goesUp_144 : decode cX12_goesUp 144 = .ok (.isub, 1) := by decide +kernel
theorem dX12_goesUp_145 : decode cX12_goesUp 145 = .ok (.putfield 131, 3) := by decide +kernel
theorem dX12_goesUp_148 : decode cX12_goesUp 148 = .ok (.goto (-148), 3) := by decide +kernel
theorem dX12_goesUp_151 : decode cX12_goesUp 151 = .ok (.return_, 1) := by decide +kernel
theorem pyX12_goesUp : PY yX12_goesUp 0 := ⟨by decide +kernel, by decide +kernel, by decide +kernel⟩
def fX12_goesUp_122 (k0 : HS → Option Nat → Option (HS)) (Y : LY) (S : HS) (l0 : Option Nat) (l1 : Int32) (s0 : Option Nat) (s1 : Int32) (s2 : Int32) : Option (HS) :=
  (pI Y 12 1220 s0 (s1 + s2) S).bind fun S123 =>
  (gR Y 12 1227 l0 S123).bind fun v127 =>
  (gI Y 12 1221 l0 S123).bind fun v132 =>
  (pA Y 14 v127 l1 (v132 - 1) S123).bind fun S137 =>
  (gI Y 12 1235 l0 S137).bind fun v140 =>
  (pI Y 12 1235 l0 (v140 - 1) S137).bind fun S145 =>
  k0 S145 l0
set_option maxRecDepth 100000 in
set_option maxHeartbeats 4000000 in
theorem wX12_goesUp_122 {p : Program} {l : Launch} {e : Env} {R : Room} {s : State} {m : MethodId} {args : Array Value} {below : List Frame} {meth : Method} {c : Code} {G : GG} {Y : LY} {res : HS} (X : Cx p R s m args meth c RX12 cX12_goesUp 3 1 20 (fun q => q ∈ Y.1) G none) {k0 : HS → Option Nat → Option (HS)} (hk0 : ∀ (S : HS) (l0 : Option Nat), k0 S l0 = some res → ∀ (H : Heap) (locs : List Loc) (ls : Array Slot), HP (fun q => q ∈ Y.1) G Y s S H locs → LV ls 3 [(0, va_rf l0)] → W p l e R s m args below meth c H locs 0 0 (MQ below (QI G Y res none) args s 0 0 (fun q => q ∈ Y.1)) (F0 m 0 ls [])) : ∀ (S : HS) (l0 : Option Nat) (l1 : Int32) (s0 : Option Nat) (s1 : Int32) (s2 : Int32), fX12_goesUp_122 k0 Y S l0 l1 s0 s1 s2 = some res → ∀ (H : Heap) (locs : List Loc) (ls : Array Slot), HP (fun q => q ∈ Y.1) G Y s S H locs → LV ls 3 [(0, va_rf l0), (1, .int l1)] → W p l e R s m args below meth c H locs 0 0 (MQ below (QI G Y res none) args s 0 0 (fun q => q ∈ Y.1)) (F0 m 122 ls (.int s2 :: (.int s1 :: (va_rf s0 :: [])))) := by
  have hx := X.1.1
  have hb := X.1.2.1
  intro S l0 l1 s0 s1 s2 hf H locs ls hP hl
  unfold fX12_goesUp_122 at hf
  refine lv_iadd hx hb dX12_goesUp_122 ?_
  obtain ⟨S123, e123, hf⟩ := ob hf
  refine rw_putI X dX12_goesUp_123 fl12_102 fw12_20 e123 rfl hP (fun H locs hP => ?_)
  refine rw_aload_n X dX12_goesUp_126 rfl (hl.at 0 rfl) ?_
  obtain ⟨v127, e127, hf⟩ := ob hf
  refine rw_getR X dX12_goesUp_127 fl12_70 e127 rfl hP ?_
  refine lv_iload_n hx hb dX12_goesUp_130 rfl (hl.at 1 rfl) ?_
  refine rw_aload_n X dX12_goesUp_131 rfl (hl.at 0 rfl) ?_
  obtain ⟨v132, e132, hf⟩ := ob hf
  refine rw_getI X dX12_goesUp_132 fl12_128 e132 rfl hP ?_
  refine lv_iconst (v := 1) hx hb dX12_goesUp_135 (by decide) ?_
  refine lv_isub hx hb dX12_goesUp_136 ?_
  obtain ⟨S137, e137, hf⟩ := ob hf
  refine rw_iast X dX12_goesUp_137 e137 hP (fun H locs hP => ?_)
  refine rw_aload_n X dX12_goesUp_138 rfl (hl.at 0 rfl) ?_
  refine lv_dup hx hb dX12_goesUp_139 (cr _) ?_
  obtain ⟨v140, e140, hf⟩ := ob hf
  refine rw_getI X dX12_goesUp_140 fl12_131 e140 rfl hP ?_
  refine lv_iconst (v := 1) hx hb dX12_goesUp_143 (by decide) ?_
  refine lv_isub hx hb dX12_goesUp_144 ?_
  obtain ⟨S145, e145, hf⟩ := ob hf
  refine rw_putI X dX12_goesUp_145 fl12_131 fw12_35 e145 rfl hP (fun H locs hP => ?_)
  refine lv_goto (tgt := 0) hx hb dX12_goesUp_148 (by decide) ?_
  exact hk0 S145 l0 hf _ _ _ hP (hl.sub [0] rfl)
def fX12_goesUp_100 (k0 : HS → Option Nat → Option (HS)) (Y : LY) (S : HS) (l0 : Option Nat) (l1 : Int32) : Option (HS) :=
  (gI Y 12 1220 l0 S).bind fun v102 =>
  (gR Y 12 1223 l0 S).bind fun v106 =>
  (gA Y 14 v106 l1 S).bind fun v110 =>
  (fX12_isList Y S v110).bind fun v111 =>
  if v111 = 0 then
    fX12_goesUp_122 k0 Y S l0 l1 l0 v102 0
  else
    fX12_goesUp_122 k0 Y S l0 l1 l0 v102 1
set_option maxRecDepth 100000 in
set_option maxHeartbeats 4000000 in
theorem wX12_goesUp_100 {p : Program} {l : Launch} {e : Env} {R : Room} {s : State} {m : MethodId} {args : Array Value} {below : List Frame} {meth : Method} {c : Code} {G : GG} {Y : LY} {res : HS} (X : Cx p R s m args meth c RX12 cX12_goesUp 3 1 20 (fun q => q ∈ Y.1) G none) {k0 : HS → Option Nat → Option (HS)} (hk0 : ∀ (S : HS) (l0 : Option Nat), k0 S l0 = some res → ∀ (H : Heap) (locs : List Loc) (ls : Array Slot), HP (fun q => q ∈ Y.1) G Y s S H locs → LV ls 3 [(0, va_rf l0)] → W p l e R s m args below meth c H locs 0 0 (MQ below (QI G Y res none) args s 0 0 (fun q => q ∈ Y.1)) (F0 m 0 ls [])) : ∀ (S : HS) (l0 : Option Nat) (l1 : Int32), fX12_goesUp_100 k0 Y S l0 l1 = some res → ∀ (H : Heap) (locs : List Loc) (ls : Array Slot), HP (fun q => q ∈ Y.1) G Y s S H locs → LV ls 3 [(0, va_rf l0), (1, .int l1)] → W p l e R s m args below meth c H locs 0 0 (MQ below (QI G Y res none) args s 0 0 (fun q => q ∈ Y.1)) (F0 m 100 ls []) := by
  have hx := X.1.1
  have hb := X.1.2.1
  intro S l0 l1 hf H locs ls hP hl
  unfold fX12_goesUp_100 at hf
  refine rw_aload_n X dX12_goesUp_100 rfl (hl.at 0 rfl) ?_
  refine lv_dup hx hb dX12_goesUp_101 (cr _) ?_
  obtain ⟨v102, e102, hf⟩ := ob hf
  refine rw_getI X dX12_goesUp_102 fl12_102 e102 rfl hP ?_
  refine rw_aload_n X dX12_goesUp_105 rfl (hl.at 0 rfl) ?_
  obtain ⟨v106, e106, hf⟩ := ob hf
  refine rw_getR X dX12_goesUp_106 fl12_58 e106 rfl hP ?_
  refine lv_iload_n hx hb dX12_goesUp_109 rfl (hl.at 1 rfl) ?_
  obtain ⟨v110, e110, hf⟩ := ob hf
  refine rw_iald X dX12_goesUp_110 e110 hP ?_
  obtain ⟨v111, e111, hf⟩ := ob hf
  refine rw_callSi (As := [.int v110]) X dX12_goesUp_111 clX12_142 pyX12_isList (mX12_isList l e111) (by decide) hP rfl (catL (c1c (ci _) (c1c (cr _) c1n)) (Nat.le_of_ble_eq_true rfl)) hl.1.1 (fun H locs hP => ?_)
  refine lv_if_eq hx hb (tgt := 121) dX12_goesUp_114 (by decide) (fun c114 => ?_) (fun c114 => ?_)
  · have hf := ifp hf c114
    refine lv_iconst (v := 0) hx hb dX12_goesUp_121 (by decide) ?_
    exact wX12_goesUp_122 X hk0 S l0 l1 l0 v102 0 hf _ _ _ hP (hl.sub [0, 1] rfl)
  · have hf := ifn hf c114
    refine lv_iconst (v := 1) hx hb dX12_goesUp_117 (by decide) ?_
    refine lv_goto (tgt := 122) hx hb dX12_goesUp_118 (by decide) ?_
    exact wX12_goesUp_122 X hk0 S l0 l1 l0 v102 1 hf _ _ _ hP (hl.sub [0, 1] rfl)
def fX12_goesUp_74 (k0 : HS → Option Nat → Option (HS)) (Y : LY) (S : HS) (l0 : Option Nat) (l1 : Int32) (l2 : Int32) : Option (HS) :=
  (gR Y 12 1223 l0 S).bind fun v75 =>
  (gA Y 14 v75 l1 S).bind fun v79 =>
  (fX12_isList Y S v79).bind fun v80 =>
  if v80 = 0 then
    fX12_goesUp_100 k0 Y S l0 l1
  else
    if l2 = 41 then
      fX12_goesUp_100 k0 Y S l0 l1
    else
      (pZ Y 12 1222 l0 1 S).bind fun S94 =>
      k0 S94 l0
set_option maxRecDepth 100000 in
set_option maxHeartbeats 4000000 in
theorem wX12_goesUp_74 {p : Program} {l : Launch} {e : Env} {R : Room} {s : State} {m : MethodId} {args : Array Value} {below : List Frame} {meth : Method} {c : Code} {G : GG} {Y : LY} {res : HS} (X : Cx p R s m args meth c RX12 cX12_goesUp 3 1 20 (fun q => q ∈ Y.1) G none) {k0 : HS → Option Nat → Option (HS)} (hk0 : ∀ (S : HS) (l0 : Option Nat), k0 S l0 = some res → ∀ (H : Heap) (locs : List Loc) (ls : Array Slot), HP (fun q => q ∈ Y.1) G Y s S H locs → LV ls 3 [(0, va_rf l0)] → W p l e R s m args below meth c H locs 0 0 (MQ below (QI G Y res none) args s 0 0 (fun q => q ∈ Y.1)) (F0 m 0 ls [])) : ∀ (S : HS) (l0 : Option Nat) (l1 : Int32) (l2 : Int32), fX12_goesUp_74 k0 Y S l0 l1 l2 = some res → ∀ (H : Heap) (locs : List Loc) (ls : Array Slot), HP (fun q => q ∈ Y.1) G Y s S H locs → LV ls 3 [(0, va_rf l0), (1, .int l1), (2, .int l2)] → W p l e R s m args below meth c H locs 0 0 (MQ below (QI G Y res none) args s 0 0 (fun q => q ∈ Y.1)) (F0 m 74 ls []) := by
  have hx := X.1.1
  have hb := X.1.2.1
  intro S l0 l1 l2 hf H locs ls hP hl
  unfold fX12_goesUp_74 at hf
  refine rw_aload_n X dX12_goesUp_74 rfl (hl.at 0 rfl) ?_
  obtain ⟨v75, e75, hf⟩ := ob hf
  refine rw_getR X dX12_goesUp_75 fl12_58 e75 rfl hP ?_
  refine lv_iload_n hx hb dX12_goesUp_78 rfl (hl.at 1 rfl) ?_
  obtain ⟨v79, e79, hf⟩ := ob hf
  refine rw_iald X dX12_goesUp_79 e79 hP ?_
  obtain ⟨v80, e80, hf⟩ := ob hf
  refine rw_callSi (As := [.int v79]) X dX12_goesUp_80 clX12_142 pyX12_isList (mX12_isList l e80) (by decide) hP rfl (catL c1n (Nat.le_of_ble_eq_true rfl)) hl.1.1 (fun H locs hP => ?_)
  refine lv_if_eq hx hb (tgt := 100) dX12_goesUp_83 (by decide) (fun c83 => ?_) (fun c83 => ?_)
  · have hf := ifp hf c83
    exact wX12_goesUp_100 X hk0 S l0 l1 hf _ _ _ hP (hl.sub [0, 1] rfl)
  · have hf := ifn hf c83
    refine lv_iload_n hx hb dX12_goesUp_86 rfl (hl.at 2 rfl) ?_
    refine lv_bipush (v := 41) hx hb dX12_goesUp_87 (by decide) ?_
    refine lv_icmp_eq hx hb (tgt := 100) dX12_goesUp_89 (by decide) (fun c89 => ?_) (fun c89 => ?_)
    · have hf := ifp hf c89
      exact wX12_goesUp_100 X hk0 S l0 l1 hf _ _ _ hP (hl.sub [0, 1] rfl)
    · have hf := ifn hf c89
      refine rw_aload_n X dX12_goesUp_92 rfl (hl.at 0 rfl) ?_
      refine lv_iconst (v := 1) hx hb dX12_goesUp_93 (by decide) ?_
      obtain ⟨S94, e94, hf⟩ := ob hf
      refine rw_putZ X dX12_goesUp_94 fl12_109 fw12_22 e94 rfl hP (fun H locs hP => ?_)
      refine lv_goto (tgt := 148) hx hb dX12_goesUp_97 (by decide) ?_
      refine lv_goto (tgt := 0) hx hb dX12_goesUp_148 (by decide) ?_
      exact hk0 S94 l0 hf _ _ _ hP (hl.sub [0] rfl)
def fX12_goesUp_0 (Y : LY) : Nat → HS → Option Nat → Option (HS)
  | 0, _, _ => none
  | n + 1, S, l0 =>
    (gI Y 12 1235 l0 S).bind fun v1 =>
    if v1 ≤ 0 then
      some S
    else
      (gI Y 12 1236 l0 S).bind fun v8 =>
      if v8 = 0 then
        (gI Y 12 1222 l0 S).bind fun v15 =>
        if v15 = 0 then
          (gR Y 12 1234 l0 S).bind fun v22 =>
          (gI Y 12 1235 l0 S).bind fun v26 =>
          (gA Y 14 v22 (v26 - 1) S).bind fun v31 =>
          (rcv Y 12 l0).bind fun _ =>
          (fX12_here Y S l0 ).bind fun v34 =>
          (gR Y 12 1223 l0 S).bind fun v39 =>
          (gA Y 14 v39 v31 S).bind fun v43 =>
          (fX12_isList Y S v43).bind fun v44 =>
          if v44 = 0 then
            fX12_goesUp_74 (fX12_goesUp_0 Y n) Y S l0 v31 v34
          else
            if v34 = 44 then
              (pZ Y 12 1236 l0 1 S).bind fun S58 =>
              (gI Y 12 1220 l0 S58).bind fun v63 =>
              (pI Y 12 1220 l0 (v63 + 1) S58).bind fun S68 =>
              fX12_goesUp_0 Y n S68 l0
            else
              fX12_goesUp_74 (fX12_goesUp_0 Y n) Y S l0 v31 v34
        else
          some S
      else
        some S
set_option maxRecDepth 100000 in
set_option maxHeartbeats 4000000 in
theorem wX12_goesUp_0 {p : Program} {l : Launch} {e : Env} {R : Room} {s : State} {m : MethodId} {args : Array Value} {below : List Frame} {meth : Method} {c : Code} {G : GG} {Y : LY} {res : HS} (X : Cx p R s m args meth c RX12 cX12_goesUp 3 1 20 (fun q => q ∈ Y.1) G none) : ∀ (n : Nat) (S : HS) (l0 : Option Nat), fX12_goesUp_0 Y n S l0 = some res → ∀ (H : Heap) (locs : List Loc) (ls : Array Slot), HP (fun q => q ∈ Y.1) G Y s S H locs → LV ls 3 [(0, va_rf l0)] → W p l e R s m args below meth c H locs 0 0 (MQ below (QI G Y res none) args s 0 0 (fun q => q ∈ Y.1)) (F0 m 0 ls []) := by
  have hx := X.1.1
  have hb := X.1.2.1
  intro n
  induction n with
  | zero =>
    intro S l0 hf
    cases hf
  | succ n ih =>
    intro S l0 hf H locs ls hP hl
    rw [fX12_goesUp_0] at hf
    refine rw_aload_n X dX12_goesUp_0 rfl (hl.at 0 rfl) ?_
    obtain ⟨v1, e1, hf⟩ := ob hf
    refine rw_getI X dX12_goesUp_1 fl12_131 e1 rfl hP ?_
    refine lv_if_le hx hb (tgt := 151) dX12_goesUp_4 (by decide) (fun c4 => ?_) (fun c4 => ?_)
    · have hf := ifp hf c4
      cases hf
      exact rw_vret X dX12_goesUp_151 hP
    · have hf := ifn hf c4
      refine rw_aload_n X dX12_goesUp_7 rfl (hl.at 0 rfl) ?_
      obtain ⟨v8, e8, hf⟩ := ob hf
      refine rw_getI X dX12_goesUp_8 fl12_146 e8 rfl hP ?_
      refine lv_if_ne hx hb (tgt := 151) dX12_goesUp_11 (by decide) (fun c11 => ?_) (fun c11 => ?_)
      · have hf := ifn hf c11
        cases hf
        exact rw_vret X dX12_goesUp_151 hP
      · have hf := ifp hf c11
        refine rw_aload_n X dX12_goesUp_14 rfl (hl.at 0 rfl) ?_
        obtain ⟨v15, e15, hf⟩ := ob hf
        refine rw_getI X dX12_goesUp_15 fl12_109 e15 rfl hP ?_
        refine lv_if_ne hx hb (tgt := 151) dX12_goesUp_18 (by decide) (fun c18 => ?_) (fun c18 => ?_)
        · have hf := ifn hf c18
          cases hf
          exact rw_vret X dX12_goesUp_151 hP
        · have hf := ifp hf c18
          refine rw_aload_n X dX12_goesUp_21 rfl (hl.at 0 rfl) ?_
          obtain ⟨v22, e22, hf⟩ := ob hf
          refine rw_getR X dX12_goesUp_22 fl12_91 e22 rfl hP ?_
          refine rw_aload_n X dX12_goesUp_25 rfl (hl.at 0 rfl) ?_
          obtain ⟨v26, e26, hf⟩ := ob hf
          refine rw_getI X dX12_goesUp_26 fl12_131 e26 rfl hP ?_
          refine lv_iconst (v := 1) hx hb dX12_goesUp_29 (by decide) ?_
          refine lv_isub hx hb dX12_goesUp_30 ?_
          obtain ⟨v31, e31, hf⟩ := ob hf
          refine rw_iald X dX12_goesUp_31 e31 hP ?_
          refine rv_istore_n X dX12_goesUp_32 rfl hl (by decide) rfl (fun ls hl => ?_)
          have hl : LV ls 3 [(1, .int v31), (0, va_rf l0)] := hl
          refine rw_aload_n X dX12_goesUp_33 rfl (hl.at 1 rfl) ?_
          obtain ⟨u34, r34, hf⟩ := ob hf
          obtain ⟨v34, e34, hf⟩ := ob hf
          refine rw_callVi (As := []) X dX12_goesUp_34 clX12_105 pyX12_here (mX12_here l e34) (by decide) r34 rfl hP rfl (catL c1n (Nat.le_of_ble_eq_true rfl)) hl.1.1 (fun H locs hP => ?_)
          refine rv_istore_n X dX12_goesUp_37 rfl hl (by decide) rfl (fun ls hl => ?_)
          have hl : LV ls 3 [(2, .int v34), (1, .int v31), (0, va_rf l0)] := hl
          refine rw_aload_n X dX12_goesUp_38 rfl (hl.at 2 rfl) ?_
          obtain ⟨v39, e39, hf⟩ := ob hf
          refine rw_getR X dX12_goesUp_39 fl12_58 e39 rfl hP ?_
          refine lv_iload_n hx hb dX12_goesUp_42 rfl (hl.at 1 rfl) ?_
          obtain ⟨v43, e43, hf⟩ := ob hf
          refine rw_iald X dX12_goesUp_43 e43 hP ?_
          obtain ⟨v44, e44, hf⟩ := ob hf
          refine rw_callSi (As := [.int v43]) X dX12_goesUp_44 clX12_142 pyX12_isList (mX12_isList l e44) (by decide) hP rfl (catL c1n (Nat.le_of_ble_eq_true rfl)) hl.1.1 (fun H locs hP => ?_)
          refine lv_if_eq hx hb (tgt := 74) dX12_goesUp_47 (by decide) (fun c47 => ?_) (fun c47 => ?_)
          · have hf := ifp hf c47
            exact wX12_goesUp_74 X ih S l0 v31 v34 hf _ _ _ hP (hl.sub [2, 1, 0] rfl)
          · have hf := ifn hf c47
            refine lv_iload_n hx hb dX12_goesUp_50 rfl (hl.at 0 rfl) ?_
            refine lv_bipush (v := 44) hx hb dX12_goesUp_51 (by decide) ?_
            refine lv_icmp_ne hx hb (tgt := 74) dX12_goesUp_53 (by decide) (fun c53 => ?_) (fun c53 => ?_)
            · have hf := ifn hf c53
              exact wX12_goesUp_74 X ih S l0 v31 v34 hf _ _ _ hP (hl.sub [2, 1, 0] rfl)
            · have hf := ifp hf c53
              refine rw_aload_n X dX12_goesUp_56 rfl (hl.at 2 rfl) ?_
              refine lv_iconst (v := 1) hx hb dX12_goesUp_57 (by decide) ?_
              obtain ⟨S58, e58, hf⟩ := ob hf
              refine rw_putZ X dX12_goesUp_58 fl12_146 fw12_36 e58 rfl hP (fun H locs hP => ?_)
              refine rw_aload_n X dX12_goesUp_61 rfl (hl.at 2 rfl) ?_
              refine lv_dup hx hb dX12_goesUp_62 (cr _) ?_
              obtain ⟨v63, e63, hf⟩ := ob hf
              refine rw_getI X dX12_goesUp_63 fl12_102 e63 rfl hP ?_
              refine lv_iconst (v := 1) hx hb dX12_goesUp_66 (by decide) ?_
              refine lv_iadd hx hb dX12_goesUp_67 ?_
              obtain ⟨S68, e68, hf⟩ := ob hf
              refine rw_putI X dX12_goesUp_68 fl12_102 fw12_20 e68 rfl hP (fun H locs hP => ?_)
              refine lv_goto (tgt := 148) hx hb dX12_goesUp_71 (by decide) ?_
              refine lv_goto (tgt := 0) hx hb dX12_goesUp_148 (by decide) ?_
              exact ih S68 l0 hf _ _ _ hP (hl.sub [2] rfl)
def fX12_goesUp (Y : LY) (S : HS) (l0 : Option Nat) : Option (HS) :=
  fX12_goesUp_0 Y FU S l0
set_option maxRecDepth 100000 in
set_option maxHeartbeats 4000000 in
theorem mX12_goesUp (l : Launch) {G : GG} {Y : LY} {S : HS} {l0 : Option Nat} {res : HS} (hf : fX12_goesUp Y S l0 = some res) : MM l yX12_goesUp cX12_goesUp 3 none 1 20 G Y S [va_rf l0] res none := by
  refine mm_of2 (plainFor_of_name (by decide +kernel)) (Nat.le_of_ble_eq_true rfl) (c1c (cr _) c1n) ?_
  intro p e R s m args below meth c X H locs ls hP hl
  have X : Cx p R s m args meth c RX12 cX12_goesUp 3 1 20 (fun q => q ∈ Y.1) G none := X
  have hx := X.1.1
  have hb := X.1.2.1
  have hl : LV ls 3 [(0, va_rf l0)] := hl
  unfold fX12_goesUp at hf
  exact wX12_goesUp_0 X FU S l0 hf _ _ _ hP (hl.sub [0] rfl)
theorem dX12_readTree_0 : decode cX12_readTree 0 = .ok (.aload_n 0, 1) := by decide +kernel
theorem dX12_readTree_1 : decode cX12_readTree 1 = .ok (.iconst 0, 1) := by decide +kernel
theorem dX12_readTree_2 : decode cX12_readTree 2 = .ok (.putfield 102, 3) := by decide +kernel
theorem dX12_readTree_5 : decode cX12_readTree 5 = .ok (.aload_n 0, 1) := by decide +kernel
theorem dX12_readTree_6 : decode cX12_readTree 6 = .ok (.iconst 0, 1) := by decide +kernel
theorem dX12_readTree_7 : decode cX12_readTree 7 = .ok (.putfield 128, 3) := by decide +kernel
theorem dX12_readTree_10 : decode cX12_readTree 10 = .ok (.aload_n 0, 1) := by decide +kernel
theorem dX12_readTree_11 : decode cX12_readTree 11 = .ok (.iconst 0, 1) := by decide +kernel
theorem dX12_readTree_12 : decode cX12_readTree 12 = .ok (.putfield 131, 3) := by decide +kernel
theorem dX12_readTree_15 : decode cX12_readTree 15 = .ok (.aload_n 0, 1) := by decide +kernel
theorem dX12_readTree_16 : decode cX12_readTree 16 = .ok (.iconst 0, 1) := by decide +kernel
theorem dX12_readTree_17 : decode cX12_readTree 17 = .ok (.putfield 109, 3) := by decide +kernel
theorem dX12_readTree_20 : decode cX12_readTree 20 = .ok (.aload_n 0, 1) := by decide +kernel
theorem dX12_readTree_21 : decode cX12_readTree 21 = .ok (.iconst 1, 1) := by decide +kernel
theorem dX12_readTree_22 : decode cX12_readTree 22 = .ok (.putfield 146, 3) := by decide +kernel
theorem dX12_readTree_25 : decode cX12_readTree 25 = .ok (.aload_n 0, 1) := by decide +kernel
theorem dX12_readTree_26 : decode cX12_readTree 26 = .ok (.getfield 146, 3) := by decide +kernel
theorem dX12_readTree_29 : decode cX12_readTree 29 = .ok (.ifCond .eq 33, 3) := by decide +kernel
theorem dX12_readTree_32 : decode cX12_readTree 32 = .ok (.aload_n 0, 1) := by decide +kernel
theorem dX12_readTree_33 : decode cX12_readTree 33 = .ok (.getfield 109, 3) := by decide +kernel
theorem dX12_readTree_36 : decode cX12_readTree 36 = .ok (.ifCond .ne 26, 3) := by decide +kernel
theorem dX12_readTree_39 : decode cX12_readTree 39 = .ok (.aload_n 0, 1) := by decide +kernel
theorem dX12_readTree_40 : decode cX12_readTree 40 = .ok (.iconst 0, 1) := by decide +kernel
theorem dX12_readTree_41 : decode cX12_readTree 41 = .ok (.putfield 146, 3) := by decide +kernel
theorem dX12_readTree_44 : decode cX12_readTree 44 = .ok (.aload_n 0, 1) := by decide +kernel
theorem dX12_readTree_45 : decode cX12_readTree 45 = .ok (.invokevirtual 149, 3) := by decide +kernel
theorem dX12_readTree_48 : decode cX12_readTree 48 = .ok (.aload_n 0, 1) := by decide +kernel
theorem dX12_readTree_49 : decode cX12_readTree 49 = .ok (.getfield 146, 3) := by decide +kernel
theorem dX12_readTree_52 : decode cX12_readTree 52 = .ok (.ifCond .ne (-27), 3) := by decide +kernel
theorem dX12_readTree_55 : decode cX12_readTree 55 = .ok (.aload_n 0, 1) := by decide +kernel
theorem dX12_readTree_56 : decode cX12_readTree 56 = .ok (.invokevirtual 152, 3) := by decide +kernel
theorem dX12_readTree_59 : decode cX12_readTree 59 = .ok (.goto (-34), 3) := by decide +kernel
theorem dX12_readTree_62 : decode cX12_readTree 62 = .ok (.aload_n 0, 1) := by decide +kernel
theorem dX12_readTree_63 : decode cX12_readTree 63 = .ok (.dup, 1) := by decide +kernel
theorem dX12_readTree_64 : decode cX12_readTree 64 = .ok (.getfield 109, 3) := by decide +kernel
theorem dX12_readTree_67 : decode cX12_readTree 67 = .ok (.aload_n 0, 1) := by decide +kernel
theorem dX12_readTree_68 : decode cX12_readTree 68 = .ok (.getfield 102, 3) := by decide +kernel
theorem dX12_readTree_71 : decode cX12_readTree 71 = .ok (.aload_n 0, 1) := by decide +kernel
theorem dX12_readTree_72 : decode cX12_readTree 72 = .ok (.getfield 98, 3) := by decide +kernel
theorem dX12_readTree_75 : decode cX12_readTree 75 = .ok (.if_icmp .ge 7, 3) := by decide +kernel
theorem dX12_readTree_78 : decode cX12_readTree 78 = .ok (.iconst 1, 1) := by decide +kernel
theorem dX12_readTree_79 : decode cX12_readTree 79 = .ok (.goto 4, 3) := by decide +kernel
theorem dX12_readTree_82 : decode cX12_readTree 82 = .ok (.iconst 0, 1) := by decide +kernel
theorem dX12_readTree_83 : decode cX12_readTree 83 = .ok (.ior, 1) := by decide +kernel
theorem dX12_readTree_84 : decode cX12_readTree 84 = .ok (.putfield 109, 3) := by decide +kernel
theorem dX12_readTree_87 : decode cX12_readTree 87 = .ok (.aload_n 0, 1) := by decide +kernel
theorem dX12_readTree_88 : decode cX12_readTree 88 = .ok (.iconst 0, 1) := by decide +kernel
theorem dX12_readTree_89 : decode cX12_readTree 89 = .ok (.putfield 98, 3) := by decide +kernel
theorem dX12_readTree_92 : decode cX12_readTree 92 = .ok (.aload_n 0, 1) := by decide +kernel
theorem dX12_readTree_93 : decode cX12_readTree 93 = .ok (.getfield 109, 3) := by decide +kernel
theorem dX12_readTree_96 : decode cX12_readTree 96 = .ok (.ifCond .eq 12, 3) := by decide +kernel
theorem dX12_readTree_99 : decode cX12_readTree 99 = .ok (.sipush (-2000), 3) := by decide +kernel
theorem dX12_readTree_102 : decode cX12_readTree 102 = .ok (.aload_n 0, 1) := by decide +kernel
theorem dX12_readTree_103 : decode cX12_readTree 103 = .ok (.getfield 102, 3) := by decide +kernel
theorem dX12_readTree_106 : decode cX12_readTree 106 = .ok (.isub, 1) := by decide +kernel
theorem dX12_readTree_107 : decode cX12_readTree 107 = .ok (.ireturn, 1) := by decide +kernel
theorem dX12_readTree_108 : decode cX12_readTree 108 = .ok (.aload_n 0, 1) := by decide +kernel
theorem dX12_readTree_109 : decode cX12_readTree 109 = .ok (.aload_n 0, 1) := by decide +kernel
theorem dX12_readTree_110 : decode cX12_readTree 110 = .ok (.getfield 128, 3) := by decide +kernel
theorem dX12_readTree_113 : decode cX12_readTree 113 = .ok (.putfield 155, 3) := by decide +kernel
theorem dX12_readTree_116 : decode cX12_readTree 116 = .ok (.iconst 0, 1) := by decide +kernel
theorem dX12_readTree_117 : decode cX12_readTree 117 = .ok (.istore_n 1, 1) := by decide +kernel
theorem dX12_readTree_118 : decode cX12_readTree 118 = .ok (.iload_n 1, 1) := by decide +kernel
theorem dX12_readTree_119 : decode cX12_readTree 119 = .ok (.aload_n 0, 1) := by decide +kernel
theorem dX12_readTree_120 : decode cX12_readTree 120 = .ok (.getfield 155, 3) := by decide +kernel
theorem dX12_readTree_123 : decode cX12_readTree 123 = .ok (.if_icmp .ge 141, 3) := by decide +kernel
theorem dX12_readTree_126 : decode cX12_readTree 126 = .ok (.aload_n 0, 1) := by decide +kernel
theorem dX12_readTree_127 : decode cX12_readTree 127 = .ok (.getfield 25, 3) := by decide +kernel
theorem dX12_readTree_130 : decode cX12_readTree 130 = .ok (.iload_n 1, 1) := by decide +kernel
theorem dX12_readTree_131 : decode cX12_readTree 131 = .ok (.aload_n 0, 1) := by decide +kernel
theorem dX12_readTree_132 : decode cX12_readTree 132 = .ok (.getfield 58, 3) := by decide +kernel
theorem dX12_readTree_135 : decode cX12_readTree 135 = .ok (.iload_n 1, 1) := by decide +kernel
theorem dX12_readTree_136 : decode cX12_readTree 136 = .ok (.iaload, 1) := by decide +kernel
theorem dX12_readTree_137 : decode cX12_readTree 137 = .ok (.iastore, 1) := by decide +kernel
theorem dX12_readTree_138 : decode cX12_readTree 138 = .ok (.aload_n 0, 1) := by decide +kernel
theorem dX12_readTree_139 : decode cX12_readTree 139 = .ok (.getfield 28, 3) := by decide +kernel
theorem dX12_readTree_142 : decode cX12_readTree 142 = .ok (.iload_n 1, 1) := by decide +kernel
theorem dX12_readTree_143 : decode cX12_readTree 143 = .ok (.aload_n 0, 1) := by decide +kernel
theorem dX12_readTree_144 : decode cX12_readTree 144 = .ok (.getfield 61, 3) := by decide +kernel
theorem dX12_readTree_147 : decode cX12_readTree 147 = .ok (.iload_n 1, 1) := by decide +kernel
theorem dX12_readTree_148 : decode cX12_readTree 148 = .ok (.iaload, 1) := by decide +kernel
theorem dX12_readTree_149 : decode cX12_readTree 149 = .ok (.iastore, 1) := by decide +kernel
theorem dX12_readTree_150 : decode cX12_readTree 150 = .ok (.aload_n 0, 1) := by decide +kernel
theorem dX12_readTree_151 : decode cX12_readTree 151 = .ok (.getfield 31, 3) := by decide +kernel
theorem dX12_readTree_154 : decode cX12_readTree 154 = .ok (.iload_n 1, 1) := by decide +kernel
theorem dX12_readTree_155 : decode cX12_readTree 155 = .ok (.aload_n 0, 1) := by decide +kernel
theorem dX12_readTree_156 : decode cX12_readTree 156 = .ok (.getfield 64, 3) := by decide +kernel
theorem dX12_readTree_159 : decode cX12_readTree 159 = .ok (.iload_n 1, 1) := by decide +kernel
theorem dX12_readTree_160 : decode cX12_readTree 160 = .ok (.iaload, 1) := by decide +kernel
theorem dX12_readTree_161 : decode cX12_readTree 161 = .ok (.iastore, 1) := by decide +kernel
theorem dX12_readTree_162 : decode cX12_readTree 162 = .ok (.aload_n 0, 1) := by decide +kernel
theorem dX12_readTree_163 : decode cX12_readTree 163 = .ok (.getfield 34, 3) := by decide +kernel
theorem dX12_readTree_166 : decode cX12_readTree 166 = .ok (.iload_n 1, 1) := by decide +kernel
theorem dX12_readTree_167 : decode cX12_readTree 167 = .ok (.aload_n 0, 1) := by decide +kernel
theorem dX12_readTree_168 : decode cX12_readTree 168 = .ok (.getfield 67, 3) := by decide +kernel
theorem dX12_readTree_171 : decode cX12_readTree 171 = .ok (.iload_n 1, 1) := by decide +kernel
theorem dX12_readTree_172 : decode cX12_readTree 172 = .ok (.iaload, 1) := by decide +kernel
theorem dX12_readTree_173 : decode cX12_readTree 173 = .ok (.iastore, 1) := by decide +kernel
theorem dX12_readTree_174 : decode cX12_readTree 174 = .ok (.aload_n 0, 1) := by decide +kernel
theorem dX12_readTree_175 : decode cX12_readTree 175 = .ok (.getfield 37, 3) := by decide +kernel
theorem dX12_readTree_178 : decode cX12_readTree 178 = .ok (.iload_n 1, 1) := by decide +kernel
theorem dX12_readTree_179 : decode cX12_readTree 179 = .ok (.aload_n 0, 1) := by decide +kernel
theorem dX12_readTree_180 : decode cX12_readTree 180 = .ok (.getfield 70, 3) := by decide +kernel
theorem dX12_readTree_183 : decode cX12_readTree 183 = .ok (.iload_n 1, 1) := by decide +kernel
theorem dX12_readTree_184 : decode cX12_readTree 184 = .ok (.iaload, 1) := by decide +kernel
theorem dX12_readTree_185 : decode cX12_readTree 185 = .ok (.iastore, 1) := by decide +kernel
theorem dX12_readTree_186 : decode cX12_readTree 186 = .ok (.aload_n 0, 1) := by decide +kernel
theorem dX12_readTree_187 : decode cX12_readTree 187 = .ok (.getfield 40, 3) := by decide +kernel
theorem dX12_readTree_190 : decode cX12_readTree 190 = .ok (.iload_n 1, 1) := by decide +kernel
theorem dX12_readTree_191 : decode cX12_readTree 191 = .ok (.aload_n 0, 1) := by decide +kernel
theorem dX12_readTree_192 : decode cX12_readTree 192 = .ok (.getfield 73, 3) := by decide +kernel
theorem dX12_readTree_195 : decode cX12_readTree 195 = .ok (.iload_n 1, 1) := by decide +kernel
theorem dX12_readTree_196 : decode cX12_readTree 196 = .ok (.iaload, 1) := by decide +kernel
theorem dX12_readTree_197 : decode cX12_readTree 197 = .ok (.iastore, 1) := by decide +kernel
theorem dX12_readTree_198 : decode cX12_readTree 198 = .ok (.aload_n 0, 1) := by decide +kernel
theorem dX12_readTree_199 : decode cX12_readTree 199 = .ok (.getfield 43, 3) := by decide +kernel
theorem dX12_readTree_202 : decode cX12_readTree 202 = .ok (.iload_n 1, 1) := by decide +kernel
theorem dX12_readTree_203 : decode cX12_readTree 203 = .ok (.aload_n 0, 1) := by decide +kernel
theorem dX12_readTree_204 : decode cX12_readTree 204 = .ok (.getfield 76, 3) := by decide +kernel
theorem dX12_readTree_207 : decode cX12_readTree 207 = .ok (.iload_n 1, 1) := by decide +kernel
theorem dX12_readTree_208 : decode cX12_readTree 208 = .ok (.iaload, 1) := by decide +kernel
theorem dX12_readTree_209 : decode cX12_readTree 209 = .ok (.iastore, 1) := by decide +kernel
theorem dX12_readTree_210 : decode cX12_readTree 210 = .ok (.aload_n 0, 1) := by decide +kernel
theorem dX12_readTree_211 : decode cX12_readTree 211 = .ok (.getfield 46, 3) := by decide +kernel
theorem dX12_readTree_214 : decode cX12_readTree 214 = .ok (.iload_n 1, 1) := by decide +kernel
theorem dX12_readTree_215 : decode cX12_readTree 215 = .ok (.aload_n 0, 1) := by decide +kernel
theorem dX12_readTree_216 : decode cX12_readTree 216 = .ok (.getfield 79, 3) := by decide +kernel
theorem dX12_readTree_219 : decode cX12_readTree 219 = .ok (.iload_n 1, 1) := by decide +kernel
theorem dX12_readTree_220 : decode cX12_readTree 220 = .ok (.iaload, 1) := by decide +kernel
theorem dX12_readTree_221 : decode cX12_readTree 221 = .ok (.iastore, 1) := by decide +kernel
theorem dX12_readTree_222 : decode cX12_readTree 222 = .ok (.aload_n 0, 1) := by decide +kernel
theorem dX12_readTree_223 : decode cX12_readTree 223 = .ok (.getfield 49, 3) := by decide +kernel
theorem dX12_readTree_226 : decode cX12_readTree 226 = .ok (.iload_n 1, 1) := by decide +kernel
theorem dX12_readTree_227 : decode cX12_readTree 227 = .ok (.aload_n 0, 1) := by decide +kernel
theorem dX12_readTree_228 : decode cX12_readTree 228 = .ok (.getfield 82, 3) := by decide +kernel
theorem dX12_readTree_231 : decode cX12_readTree 231 = .ok (.iload_n 1, 1) := by decide +kernel
theorem dX12_readTree_232 : decode cX12_readTree 232 = .ok (.iaload, 1) := by decide +kernel
theorem dX12_readTree_233 : decode cX12_readTree 233 = .ok (.iastore, 1) := by decide +kernel
theorem dX12_readTree_234 : decode cX12_readTree 234 = .ok (.aload_n 0, 1) := by decide +kernel
theorem dX12_readTree_235 : decode cX12_readTree 235 = .ok (.getfield 52, 3) := by decide +kernel
theorem dX12_readTree_238 : decode cX12_readTree 238 = .ok (.iload_n 1, 1) := by decide +kernel
theorem dX12_readTree_239 : decode cX12_readTree 239 = .ok (.aload_n 0, 1) := by decide +kernel
theorem dX12_readTree_240 : decode cX12_readTree 240 = .ok (.getfield 85, 3) := by decide +kernel
theorem dX12_readTree_243 : decode cX12_readTree 243 = .ok (.iload_n 1, 1) := by decide +kernel
theorem dX12_readTree_244 : decode cX12_readTree 244 = .ok (.iaload, 1) := by decide +kernel
theorem dX12_readTree_245 : decode cX12_readTree 245 = .ok (.iastore, 1) := by decide +kernel
theorem dX12_readTree_246 : decode cX12_readTree 246 = .ok (.aload_n 0, 1) := by decide +kernel
theorem dX12_readTree_247 : decode cX12_readTree 247 = .ok (.getfield 55, 3) := by decide +kernel
theorem dX12_readTree_250 : decode cX12_readTree 250 = .ok (.iload_n 1, 1) := by decide +kernel
theorem dX12_readTree_251 : decode cX12_readTree 251 = .ok (.aload_n 0, 1) := by decide +kernel
theorem dX12_readTree_252 : decode cX12_readTree 252 = .ok (.getfield 88, 3) := by decide +kernel
theorem dX12_readTree_255 : decode cX12_readTree 255 = .ok (.iload_n 1, 1) := by decide +kernel
theorem dX12_readTree_256 : decode cX12_readTree 256 = .ok (.iaload, 1) := by decide +kernel
theorem dX12_readTree_257 : decode cX12_readTree 257 = .ok (.iastore, 1) := by decide +kernel
theorem dX12_readTree_258 : decode cX12_readTree 258 = .ok (.iinc 1 1, 3) := by decide +kernel
theorem dX12_readTree_261 : decode cX12_readTree 261 = .ok (.goto (-143), 3) := by decide +kernel
theorem dX12_readTree_264 : decode cX12_readTree 264 = .ok (.iconst 0, 1) := by decide +kernel
theorem dX12_readTree_265 : decode cX12_readTree 265 = .ok (.istore_n 1, 1) := by decide +kernel
theorem dX12_readTree_266 : decode cX12_readTree 266 = .ok (.iload_n 1, 1) := by decide +kernel
theorem dX12_readTree_267 : decode cX12_readTree 267 = .ok (.sipush 355, 3) := by decide +kernel
theorem dX12_readTree_270 : decode cX12_readTree 270 = .ok (.if_icmp .ge 39, 3) := by decide +kernel
theorem dX12_readTree_273 : decode cX12_readTree 273 = .ok (.aload_n 0, 1) := by decide +kernel
theorem dX12_readTree_274 : decode cX12_readTree 274 = .ok (.getfield 9, 3) := by decide +kernel
theorem dX12_readTree_277 : decode cX12_readTree 277 = .ok (.iload_n 1, 1) := by decide +kernel
theorem dX12_readTree_278 : decode cX12_readTree 278 = .ok (.iload_n 1, 1) := by decide +kernel
theorem dX12_readTree_279 : decode cX12_readTree 279 = .ok (.sipush 264, 3) := by decide +kernel
theorem dX12_readTree_282 : decode cX12_readTree 282 = .ok (.if_icmp .lt 19, 3) := by decide +kernel
theorem dX12_readTree_285 : decode cX12_readTree 285 = .ok (.iload_n 1, 1) := by decide +kernel
theorem dX12_readTree_286 : decode cX12_readTree 286 = .ok (.sipush 272, 3) := by decide +kernel
theorem dX12_readTree_289 : decode cX12_readTree 289 = .ok (.if_icmp .ge 12, 3) := by decide +kernel
theorem dX12_readTree_292 : decode cX12_readTree 292 = .ok (.aload_n 0, 1) := by decide +kernel
theorem dX12_readTree_293 : decode cX12_readTree 293 = .ok (.getfield 9, 3) := by decide +kernel
theorem dX12_readTree_296 : decode cX12_readTree 296 = .ok (.iload_n 1, 1) := by decide +kernel
theorem dX12_readTree_297 : decode cX12_readTree 297 = .ok (.iaload, 1) := by decide +kernel
theorem dX12_readTree_298 : decode cX12_readTree 298 = .ok (.goto 4, 3) := by decide +kernel
theorem dX12_readTree_301 : decode cX12_readTree 301 = .ok (.iconst 0, 1) := by decide +kernel
theorem dX12_readTree_302 : decode cX12_readTree 302 = .ok (.iastore, 1) := by decide +kernel
theorem dX12_readTree_303 : decode cX12_readTree 303 = .ok (.iinc 1 1, 3) := by decide +kernel
theorem dX12_readTree_306 : decode cX12_readTree 306 = .ok (.goto (-40), 3) := by decide +kernel
theorem dX12_readTree_309 : decode cX12_readTree 309 = .ok (.aload_n 0, 1) := by decide +kernel
theorem dX12_readTree_310 : decode cX12_readTree 310 = .ok (.getfield 9, 3) := by decide +kernel
theorem dX12_readTree_313 : decode cX12_readTree 313 = .ok (.sipush 284, 3) := by decide +kernel
theorem dX12_readTree_316 : decode cX12_readTree 316 = .ok (.iconst (-1), 1) := by decide +kernel
theorem dX12_readTree_317 : decode cX12_readTree 317 = .ok (.iastore, 1) := by decide +kernel
theorem dX12_readTree_318 : decode cX12_readTree 318 = .ok (.aload_n 0, 1) := by decide +kernel
theorem dX12_readTree_319 : decode cX12_readTree 319 = .ok (.iconst 0, 1) := by decide +kernel
theorem dX12_readTree_320 : decode cX12_readTree 320 = .ok (.putfield 158, 3) := by decide +kernel
theorem dX12_readTree_323 : decode cX12_readTree 323 = .ok (.aload_n 0, 1) := by decide +kernel
theorem dX12_readTree_324 : decode cX12_readTree 324 = .ok (.getfield 155, 3) := by decide +kernel
theorem dX12_readTree_327 : decode cX12_readTree 327 = .ok (.ireturn, 1) := by decide +kernel
theorem pyX12_readTree : PY yX12_readTree 0 := ⟨by decide +kernel, by decide +kernel, by decide +kernel⟩
def fX12_readTree_266 (Y : LY) : Nat → HS → Option Nat → Int32 → Option (HS × Int32)
  | 0, _, _, _ => none
  | n + 1, S, l0, l1 =>
    if 355 ≤ l1 then
      (gR Y 12 1200 l0 S).bind fun v310 =>
      (pA Y 14 v310 284 (-1) S).bind fun S317 =>
      (pZ Y 12 1203 l0 0 S317).bind fun S320 =>
      (gI Y 12 1208 l0 S320).bind fun v324 =>
      some (S320, v324)
    else
      (gR Y 12 1200 l0 S).bind fun v274 =>
      if l1 < 264 then
        (pA Y 14 v274 l1 0 S).bind fun S302 =>
        fX12_readTree_266 Y n S302 l0 (l1 + 1)
      else
        if 272 ≤ l1 then
          (pA Y 14 v274 l1 0 S).bind fun S302 =>
          fX12_readTree_266 Y n S302 l0 (l1 + 1)
        else
          (gR Y 12 1200 l0 S).bind fun v293 =>
          (gA Y 14 v293 l1 S).bind fun v297 =>
          (pA Y 14 v274 l1 v297 S).bind fun S302 =>
          fX12_readTree_266 Y n S302 l0 (l1 + 1)
set_option maxRecDepth 100000 in
set_option maxHeartbeats 4000000 in
theorem wX12_readTree_266 {p : Program} {l : Launch} {e : Env} {R : Room} {s : State} {m : MethodId} {args : Array Value} {below : List Frame} {meth : Method} {c : Code} {G : GG} {Y : LY} {res : HS × Int32} (X : Cx p R s m args meth c RX12 cX12_readTree 2 5 110 (fun q => q ∈ Y.1) G (some .int)) : ∀ (n : Nat) (S : HS) (l0 : Option Nat) (l1 : Int32), fX12_readTree_266 Y n S l0 l1 = some res → ∀ (H : Heap) (locs : List Loc) (ls : Array Slot), HP (fun q => q ∈ Y.1) G Y s S H locs → LV ls 2 [(0, va_rf l0), (1, .int l1)] → W p l e R s m args below meth c H locs 0 0 (MQ below (QI G Y res.1 (some (.int res.2))) args s 0 0 (fun q => q ∈ Y.1)) (F0 m 266 ls []) := by
  have hx := X.1.1
  have hb := X.1.2.1
  intro n
  induction n with
  | zero =>
    intro S l0 l1 hf
    cases hf
  | succ n ih =>
    intro S l0 l1 hf H locs ls hP hl
    rw [fX12_readTree_266] at hf
    refine lv_iload_n hx hb dX12_readTree_266 rfl (hl.at 1 rfl) ?_
    refine lv_sipush (v := 355) hx hb dX12_readTree_267 (by decide) ?_
    refine lv_icmp_ge hx hb (tgt := 309) dX12_readTree_270 (by decide) (fun c270 => ?_) (fun c270 => ?_)
    · have hf := ifp hf c270
      refine rw_aload_n X dX12_readTree_309 rfl (hl.at 0 rfl) ?_
      obtain ⟨v310, e310, hf⟩ := ob hf
      refine rw_getR X dX12_readTree_310 fl12_9 e310 rfl hP ?_
      refine lv_sipush (v := 284) hx hb dX12_readTree_313 (by decide) ?_
      refine lv_iconst (v := (-1)) hx hb dX12_readTree_316 (by decide) ?_
      obtain ⟨S317, e317, hf⟩ := ob hf
      refine rw_iast X dX12_readTree_317 e317 hP (fun H locs hP => ?_)
      refine rw_aload_n X dX12_readTree_318 rfl (hl.at 0 rfl) ?_
      refine lv_iconst (v := 0) hx hb dX12_readTree_319 (by decide) ?_
      obtain ⟨S320, e320, hf⟩ := ob hf
      refine rw_putZ X dX12_readTree_320 fl12_158 fw12_3 e320 rfl hP (fun H locs hP => ?_)
      refine rw_aload_n X dX12_readTree_323 rfl (hl.at 0 rfl) ?_
      obtain ⟨v324, e324, hf⟩ := ob hf
      refine rw_getI X dX12_readTree_324 fl12_155 e324 rfl hP ?_
      cases hf
      exact rw_iret X dX12_readTree_327 hP
    · have hf := ifn hf c270
      refine rw_aload_n X dX12_readTree_273 rfl (hl.at 0 rfl) ?_
      obtain ⟨v274, e274, hf⟩ := ob hf
      refine rw_getR X dX12_readTree_274 fl12_9 e274 rfl hP ?_
      refine lv_iload_n hx hb dX12_readTree_277 rfl (hl.at 1 rfl) ?_
      refine lv_iload_n hx hb dX12_readTree_278 rfl (hl.at 1 rfl) ?_
      refine lv_sipush (v := 264) hx hb dX12_readTree_279 (by decide) ?_
      refine lv_icmp_lt hx hb (tgt := 301) dX12_readTree_282 (by decide) (fun c282 => ?_) (fun c282 => ?_)
      · have hf := ifp hf c282
        refine lv_iconst (v := 0) hx hb dX12_readTree_301 (by decide) ?_
        obtain ⟨S302, e302, hf⟩ := ob hf
        refine rw_iast X dX12_readTree_302 e302 hP (fun H locs hP => ?_)
        refine rv_iinc (k := 1) (d := 1) X dX12_readTree_303 hl rfl (by decide) (by decide) rfl (fun ls hl => ?_)
        have hl : LV ls 2 [(1, .int (l1 + 1)), (0, va_rf l0)] := hl
        refine lv_goto (tgt := 266) hx hb dX12_readTree_306 (by decide) ?_
        exact ih S302 l0 (l1 + 1) hf _ _ _ hP (hl.sub [1, 0] rfl)
      · have hf := ifn hf c282
        refine lv_iload_n hx hb dX12_readTree_285 rfl (hl.at 1 rfl) ?_
        refine lv_sipush (v := 272) hx hb dX12_readTree_286 (by decide) ?_
        refine lv_icmp_ge hx hb (tgt := 301) dX12_readTree_289 (by decide) (fun c289 => ?_) (fun c289 => ?_)
        · have hf := ifp hf c289
          refine lv_iconst (v := 0) hx hb dX12_readTree_301 (by decide) ?_
          obtain ⟨S302, e302, hf⟩ := ob hf
          refine rw_iast X dX12_readTree_302 e302 hP (fun H locs hP => ?_)
          refine rv_iinc (k := 1) (d := 1) X dX12_readTree_303 hl rfl (by decide) (by decide) rfl (fun ls hl => ?_)
          have hl : LV ls 2 [(1, .int (l1 + 1)), (0, va_rf l0)] := hl
          refine lv_goto (tgt := 266) hx hb dX12_readTree_306 (by decide) ?_
          exact ih S302 l0 (l1 + 1) hf _ _ _ hP (hl.sub [1, 0] rfl)
        · have hf := ifn hf c289
          refine rw_aload_n X dX12_readTree_292 rfl (hl.at 0 rfl) ?_
          obtain ⟨v293, e293, hf⟩ := ob hf
          refine rw_getR X dX12_readTree_293 fl12_9 e293 rfl hP ?_
          refine lv_iload_n hx hb dX12_readTree_296 rfl (hl.at 1 rfl) ?_
          obtain ⟨v297, e297, hf⟩ := ob hf
          refine rw_iald X dX12_readTree_297 e297 hP ?_
          refine lv_goto (tgt := 302) hx hb dX12_readTree_298 (by decide) ?_
          obtain ⟨S302, e302, hf⟩ := ob hf
          refine rw_iast X dX12_readTree_302 e302 hP (fun H locs hP => ?_)
          refine rv_iinc (k := 1) (d := 1) X dX12_readTree_303 hl rfl (by decide) (by decide) rfl (fun ls hl => ?_)
          have hl : LV ls 2 [(1, .int (l1 + 1)), (0, va_rf l0)] := hl
          refine lv_goto (tgt := 266) hx hb dX12_readTree_306 (by decide) ?_
          exact ih S302 l0 (l1 + 1) hf _ _ _ hP (hl.sub [1, 0] rfl)
def fX12_readTree_118 (Y : LY) : Nat → HS → Option Nat → Int32 → Option (HS × Int32)
  | 0, _, _, _ => none
  | n + 1, S, l0, l1 =>
    (gI Y 12 1208 l0 S).bind fun v120 =>
    if v120 ≤ l1 then
      fX12_readTree_266 Y FU S l0 0
    else
      (gR Y 12 1209 l0 S).bind fun v127 =>
      (gR Y 12 1223 l0 S).bind fun v132 =>
      (gA Y 14 v132 l1 S).bind fun v136 =>
      (pA Y 14 v127 l1 v136 S).bind fun S137 =>
      (gR Y 12 1210 l0 S137).bind fun v139 =>
      (gR Y 12 1224 l0 S137).bind fun v144 =>
      (gA Y 14 v144 l1 S137).bind fun v148 =>
      (pA Y 14 v139 l1 v148 S137).bind fun S149 =>
      (gR Y 12 1211 l0 S149).bind fun v151 =>
      (gR Y 12 1225 l0 S149).bind fun v156 =>
      (gA Y 14 v156 l1 S149).bind fun v160 =>
      (pA Y 14 v151 l1 v160 S149).bind fun S161 =>
      (gR Y 12 1212 l0 S161).bind fun v163 =>
      (gR Y 12 1226 l0 S161).bind fun v168 =>
      (gA Y 14 v168 l1 S161).bind fun v172 =>
      (pA Y 14 v163 l1 v172 S161).bind fun S173 =>
      (gR Y 12 1213 l0 S173).bind fun v175 =>
      (gR Y 12 1227 l0 S173).bind fun v180 =>
      (gA Y 14 v180 l1 S173).bind fun v184 =>
      (pA Y 14 v175 l1 v184 S173).bind fun S185 =>
      (gR Y 12 1214 l0 S185).bind fun v187 =>
      (gR Y 12 1228 l0 S185).bind fun v192 =>
      (gA Y 14 v192 l1 S185).bind fun v196 =>
      (pA Y 14 v187 l1 v196 S185).bind fun S197 =>
      (gR Y 12 1215 l0 S197).bind fun v199 =>
      (gR Y 12 1229 l0 S197).bind fun v204 =>
      (gA Y 14 v204 l1 S197).bind fun v208 =>
      (pA Y 14 v199 l1 v208 S197).bind fun S209 =>
      (gR Y 12 1216 l0 S209).bind fun v211 =>
      (gR Y 12 1230 l0 S209).bind fun v216 =>
      (gA Y 14 v216 l1 S209).bind fun v220 =>
      (pA Y 14 v211 l1 v220 S209).bind fun S221 =>
      (gR Y 12 1217 l0 S221).bind fun v223 =>
      (gR Y 12 1231 l0 S221).bind fun v228 =>
      (gA Y 14 v228 l1 S221).bind fun v232 =>
      (pA Y 14 v223 l1 v232 S221).bind fun S233 =>
      (gR Y 12 1218 l0 S233).bind fun v235 =>
      (gR Y 12 1232 l0 S233).bind fun v240 =>
      (gA Y 14 v240 l1 S233).bind fun v244 =>
      (pA Y 14 v235 l1 v244 S233).bind fun S245 =>
      (gR Y 12 1219 l0 S245).bind fun v247 =>
      (gR Y 12 1233 l0 S245).bind fun v252 =>
      (gA Y 14 v252 l1 S245).bind fun v256 =>
      (pA Y 14 v247 l1 v256 S245).bind fun S257 =>
      fX12_readTree_118 Y n S257 l0 (l1 + 1)
set_option maxRecDepth 100000 in
set_option maxHeartbeats 4000000 in
theorem wX12_readTree_118 {p : Program} {l : Launch} {e : Env} {R : Room} {s : State} {m : MethodId} {args : Array Value} {below : List Frame} {meth : Method} {c : Code} {G : GG} {Y : LY} {res : HS × Int32} (X : Cx p R s m args meth c RX12 cX12_readTree 2 5 110 (fun q => q ∈ Y.1) G (some .int)) : ∀ (n : Nat) (S : HS) (l0 : Option Nat) (l1 : Int32), fX12_readTree_118 Y n S l0 l1 = some res → ∀ (H : Heap) (locs : List Loc) (ls : Array Slot), HP (fun q => q ∈ Y.1) G Y s S H locs → LV ls 2 [(0, va_rf l0), (1, .int l1)] → W p l e R s m args below meth c H locs 0 0 (MQ below (QI G Y res.1 (some (.int res.2))) args s 0 0 (fun q => q ∈ Y.1)) (F0 m 118 ls []) := by
  have hx := X.1.1
  have hb := X.1.2.1
  intro n
  induction n with
  | zero =>
    intro S l0 l1 hf
    cases hf
  | succ n ih =>
    intro S l0 l1 hf H locs ls hP hl
    rw [fX12_readTree_118] at hf
    refine lv_iload_n hx hb dX12_readTree_118 rfl (hl.at 1 rfl) ?_
    refine rw_aload_n X dX12_readTree_119 rfl (hl.at 0 rfl) ?_
    obtain ⟨v120, e120, hf⟩ := ob hf
    refine rw_getI X dX12_readTree_120 fl12_155 e120 rfl hP ?_
    refine lv_icmp_ge hx hb (tgt := 264) dX12_readTree_123 (by decide) (fun c123 => ?_) (fun c123 => ?_)
    · have hf := ifp hf c123
      refine lv_iconst (v := 0) hx hb dX12_readTree_264 (by decide) ?_
      refine rv_istore_n X dX12_readTree_265 rfl hl (by decide) rfl (fun ls hl => ?_)
      have hl : LV ls 2 [(1, .int 0), (0, va_rf l0)] := hl
      exact wX12_readTree_266 X FU S l0 0 hf _ _ _ hP (hl.sub [1, 0] rfl)
    · have hf := ifn hf c123
      refine rw_aload_n X dX12_readTree_126 rfl (hl.at 0 rfl) ?_
      obtain ⟨v127, e127, hf⟩ := ob hf
      refine rw_getR X dX12_readTree_127 fl12_25 e127 rfl hP ?_
      refine lv_iload_n hx hb dX12_readTree_130 rfl (hl.at 1 rfl) ?_
      refine rw_aload_n X dX12_readTree_131 rfl (hl.at 0 rfl) ?_
      obtain ⟨v132, e132, hf⟩ := ob hf
      refine rw_getR X dX12_readTree_132 fl12_58 e132 rfl hP ?_
      refine lv_iload_n hx hb dX12_readTree_135 rfl (hl.at 1 rfl) ?_
      obtain ⟨v136, e136, hf⟩ := ob hf
      refine rw_iald X dX12_readTree_136 e136 hP ?_
      obtain ⟨S137, e137, hf⟩ := ob hf
      refine rw_iast X dX12_readTree_137 e137 hP (fun H locs hP => ?_)
      refine rw_aload_n X dX12_readTree_138 rfl (hl.at 0 rfl) ?_
      obtain ⟨v139, e139, hf⟩ := ob hf
      refine rw_getR X dX12_readTree_139 fl12_28 e139 rfl hP ?_
      refine lv_iload_n hx hb dX12_readTree_142 rfl (hl.at 1 rfl) ?_
      refine rw_aload_n X dX12_readTree_143 rfl (hl.at 0 rfl) ?_
      obtain ⟨v144, e144, hf⟩ := ob hf
      refine rw_getR X dX12_readTree_144 fl12_61 e144 rfl hP ?_
      refine lv_iload_n hx hb dX12_readTree_147 rfl (hl.at 1 rfl) ?_
      obtain ⟨v148, e148, hf⟩ := ob hf
      refine rw_iald X dX12_readTree_148 e148 hP ?_
      obtain ⟨S149, e149, hf⟩ := ob hf
      refine rw_iast X dX12_readTree_149 e149 hP (fun H locs hP => ?_)
      refine rw_aload_n X dX12_readTree_150 rfl (hl.at 0 rfl) ?_
      obtain ⟨v151, e151, hf⟩ := ob hf
      refine rw_getR X dX12_readTree_151 fl12_31 e151 rfl hP ?_
      refine lv_iload_n hx hb dX12_readTree_154 rfl (hl.at 1 rfl) ?_
      refine rw_aload_n X dX12_readTree_155 rfl (hl.at 0 rfl) ?_
      obtain ⟨v156, e156, hf⟩ := ob hf
      refine rw_getR X dX12_readTree_156 fl12_64 e156 rfl hP ?_
      refine lv_iload_n hx hb dX12_readTree_159 rfl (hl.at 1 rfl) ?_
      obtain ⟨v160, e160, hf⟩ := ob hf
      refine rw_iald X dX12_readTree_160 e160 hP ?_
      obtain ⟨S161, e161, hf⟩ := ob hf
      refine rw_iast X dX12_readTree_161 e161 hP (fun H locs hP => ?_)
      refine rw_aload_n X dX12_readTree_162 rfl (hl.at 0 rfl) ?_
      obtain ⟨v163, e163, hf⟩ := ob hf
      refine rw_getR X dX12_readTree_163 fl12_34 e163 rfl hP ?_
      refine lv_iload_n hx hb dX12_readTree_166 rfl (hl.at 1 rfl) ?_
      refine rw_aload_n X dX12_readTree_167 rfl (hl.at 0 rfl) ?_
      obtain ⟨v168, e168, hf⟩ := ob hf
      refine rw_getR X dX12_readTree_168 fl12_67 e168 rfl hP ?_
      refine lv_iload_n hx hb dX12_readTree_171 rfl (hl.at 1 rfl) ?_
      obtain ⟨v172, e172, hf⟩ := ob hf
      refine rw_iald X dX12_readTree_172 e172 hP ?_
      obtain ⟨S173, e173, hf⟩ := ob hf
      refine rw_iast X dX12_readTree_173 e173 hP (fun H locs hP => ?_)
      refine rw_aload_n X dX12_readTree_174 rfl (hl.at 0 rfl) ?_
      obtain ⟨v175, e175, hf⟩ := ob hf
      refine rw_getR X dX12_readTree_175 fl12_37 e175 rfl hP ?_
      refine lv_iload_n hx hb dX12_readTree_178 rfl (hl.at 1 rfl) ?_
      refine rw_aload_n X dX12_readTree_179 rfl (hl.at 0 rfl) ?_
      obtain ⟨v180, e180, hf⟩ := ob hf
      refine rw_getR X dX12_readTree_180 fl12_70 e180 rfl hP ?_
      refine lv_iload_n hx hb dX12_readTree_183 rfl (hl.at 1 rfl) ?_
      obtain ⟨v184, e184, hf⟩ := ob hf
      refine rw_iald X dX12_readTree_184 e184 hP ?_
      obtain ⟨S185, e185, hf⟩ := ob hf
      refine rw_iast X dX12_readTree_185 e185 hP (fun H locs hP => ?_)
      refine rw_aload_n X dX12_readTree_186 rfl (hl.at 0 rfl) ?_
      obtain ⟨v187, e187, hf⟩ := ob hf
      refine rw_getR X dX12_readTree_187 fl12_40 e187 rfl hP ?_
      refine lv_iload_n hx hb dX12_readTree_190 rfl (hl.at 1 rfl) ?_
      refine rw_aload_n X dX12_readTree_191 rfl (hl.at 0 rfl) ?_
      obtain ⟨v192, e192, hf⟩ := ob hf
      refine rw_getR X dX12_readTree_192 fl12_73 e192 rfl hP ?_
      refine lv_iload_n hx hb dX12_readTree_195 rfl (hl.at 1 rfl) ?_
      obtain ⟨v196, e196, hf⟩ := ob hf
      refine rw_iald X dX12_readTree_196 e196 hP ?_
      obtain ⟨S197, e197, hf⟩ := ob hf
      refine rw_iast X dX12_readTree_197 e197 hP (fun H locs hP => ?_)
      refine rw_aload_n X dX12_readTree_198 rfl (hl.at 0 rfl) ?_
      obtain ⟨v199, e199, hf⟩ := ob hf
      refine rw_getR X dX12_readTree_199 fl12_43 e199 rfl hP ?_
      refine lv_iload_n hx hb dX12_readTree_202 rfl (hl.at 1 rfl) ?_
      refine rw_aload_n X dX12_readTree_203 rfl (hl.at 0 rfl) ?_
      obtain ⟨v204, e204, hf⟩ := ob hf
      refine rw_getR X dX12_readTree_204 fl12_76 e204 rfl hP ?_
      refine lv_iload_n hx hb dX12_readTree_207 rfl (hl.at 1 rfl) ?_
      obtain ⟨v208, e208, hf⟩ := ob hf
      refine rw_iald X dX12_readTree_208 e208 hP ?_
      obtain ⟨S209, e209, hf⟩ := ob hf
      refine rw_iast X dX12_readTree_209 e209 hP (fun H locs hP => ?_)
      refine rw_aload_n X dX12_readTree_210 rfl (hl.at 0 rfl) ?_
      obtain ⟨v211, e211, hf⟩ := ob hf
      refine rw_getR X dX12_readTree_211 fl12_46 e211 rfl hP ?_
      refine lv_iload_n hx hb dX12_readTree_214 rfl (hl.at 1 rfl) ?_
      refine rw_aload_n X dX12_readTree_215 rfl (hl.at 0 rfl) ?_
      obtain ⟨v216, e216, hf⟩ := ob hf
      refine rw_getR X dX12_readTree_216 fl12_79 e216 rfl hP ?_
      refine lv_iload_n hx hb dX12_readTree_219 rfl (hl.at 1 rfl) ?_
      obtain ⟨v220, e220, hf⟩ := ob hf
      refine rw_iald X dX12_readTree_220 e220 hP ?_
      obtain ⟨S221, e221, hf⟩ := ob hf
      refine rw_iast X dX12_readTree_221 e221 hP (fun H locs hP => ?_)
      refine rw_aload_n X dX12_readTree_222 rfl (hl.at 0 rfl) ?_
      obtain ⟨v223, e223, hf⟩ := ob hf
      refine rw_getR X dX12_readTree_223 fl12_49 e223 rfl hP ?_
      refine lv_iload_n hx hb dX12_readTree_226 rfl (hl.at 1 rfl) ?_
      refine rw_aload_n X dX12_readTree_227 rfl (hl.at 0 rfl) ?_
      obtain ⟨v228, e228, hf⟩ := ob hf
      refine rw_getR X dX12_readTree_228 fl12_82 e228 rfl hP ?_
      refine lv_iload_n hx hb dX12_readTree_231 rfl (hl.at 1 rfl) ?_
      obtain ⟨v232, e232, hf⟩ := ob hf
      refine rw_iald X dX12_readTree_232 e232 hP ?_
      obtain ⟨S233, e233, hf⟩ := ob hf
      refine rw_iast X dX12_readTree_233 e233 hP (fun H locs hP => ?_)
      refine rw_aload_n X dX12_readTree_234 rfl (hl.at 0 rfl) ?_
      obtain ⟨v235, e235, hf⟩ := ob hf
      refine rw_getR X dX12_readTree_235 fl12_52 e235 rfl hP ?_
      refine lv_iload_n hx hb dX12_readTree_238 rfl (hl.at 1 rfl) ?_
      refine rw_aload_n X dX12_readTree_239 rfl (hl.at 0 rfl) ?_
      obtain ⟨v240, e240, hf⟩ := ob hf
      refine rw_getR X dX12_readTree_240 fl12_85 e240 rfl hP ?_
      refine lv_iload_n hx hb dX12_readTree_243 rfl (hl.at 1 rfl) ?_
      obtain ⟨v244, e244, hf⟩ := ob hf
      refine rw_iald X dX12_readTree_244 e244 hP ?_
      obtain ⟨S245, e245, hf⟩ := ob hf
      refine rw_iast X dX12_readTree_245 e245 hP (fun H locs hP => ?_)
      refine rw_aload_n X dX12_readTree_246 rfl (hl.at 0 rfl) ?_
      obtain ⟨v247, e247, hf⟩ := ob hf
      refine rw_getR X dX12_readTree_247 fl12_55 e247 rfl hP ?_
      refine lv_iload_n hx hb dX12_readTree_250 rfl (hl.at 1 rfl) ?_
      refine rw_aload_n X dX12_readTree_251 rfl (hl.at 0 rfl) ?_
      obtain ⟨v252, e252, hf⟩ := ob hf
      refine rw_getR X dX12_readTree_252 fl12_88 e252 rfl hP ?_
      refine lv_iload_n hx hb dX12_readTree_255 rfl (hl.at 1 rfl) ?_
      obtain ⟨v256, e256, hf⟩ := ob hf
      refine rw_iald X dX12_readTree_256 e256 hP ?_
      obtain ⟨S257, e257, hf⟩ := ob hf
      refine rw_iast X dX12_readTree_257 e257 hP (fun H locs hP => ?_)
      refine rv_iinc (k := 1) (d := 1) X dX12_readTree_258 hl rfl (by decide) (by decide) rfl (fun ls hl => ?_)
      have hl : LV ls 2 [(1, .int (l1 + 1)), (0, va_rf l0)] := hl
      refine lv_goto (tgt := 118) hx hb dX12_readTree_261 (by decide) ?_
      exact ih S257 l0 (l1 + 1) hf _ _ _ hP (hl.sub [1, 0] rfl)
def fX12_readTree_83 (Y : LY) (S : HS) (l0 : Option Nat) (s0 : Option Nat) (s1 : Int32) (s2 : Int32) : Option (HS × Int32) :=
  (pZ Y 12 1222 s0 (s1 ||| s2) S).bind fun S84 =>
  (pI Y 12 1206 l0 0 S84).bind fun S89 =>
  (gI Y 12 1222 l0 S89).bind fun v93 =>
  if v93 = 0 then
    (gI Y 12 1221 l0 S89).bind fun v110 =>
    (pI Y 12 1208 l0 v110 S89).bind fun S113 =>
    fX12_readTree_118 Y FU S113 l0 0
  else
    (gI Y 12 1220 l0 S89).bind fun v103 =>
    some (S89, ((-2000) - v103))
set_option maxRecDepth 100000 in
set_option maxHeartbeats 4000000 in
theorem wX12_readTree_83 {p : Program} {l : Launch} {e : Env} {R : Room} {s : State} {m : MethodId} {args : Array Value} {below : List Frame} {meth : Method} {c : Code} {G : GG} {Y : LY} {res : HS × Int32} (X : Cx p R s m args meth c RX12 cX12_readTree 2 5 110 (fun q => q ∈ Y.1) G (some .int)) : ∀ (S : HS) (l0 : Option Nat) (s0 : Option Nat) (s1 : Int32) (s2 : Int32), fX12_readTree_83 Y S l0 s0 s1 s2 = some res → ∀ (H : Heap) (locs : List Loc) (ls : Array Slot), HP (fun q => q ∈ Y.1) G Y s S H locs → LV ls 2 [(0, va_rf l0)] → W p l e R s m args below meth c H locs 0 0 (MQ below (QI G Y res.1 (some (.int res.2))) args s 0 0 (fun q => q ∈ Y.1)) (F0 m 83 ls (.int s2 :: (.int s1 :: (va_rf s0 :: [])))) := by
  have hx := X.1.1
  have hb := X.1.2.1
  intro S l0 s0 s1 s2 hf H locs ls hP hl
  unfold fX12_readTree_83 at hf
  refine lv_ior hx hb dX12_readTree_83 ?_
  obtain ⟨S84, e84, hf⟩ := ob hf
  refine rw_putZ X dX12_readTree_84 fl12_109 fw12_22 e84 rfl hP (fun H locs hP => ?_)
  refine rw_aload_n X dX12_readTree_87 rfl (hl.at 0 rfl) ?_
  refine lv_iconst (v := 0) hx hb dX12_readTree_88 (by decide) ?_
  obtain ⟨S89, e89, hf⟩ := ob hf
  refine rw_putI X dX12_readTree_89 fl12_98 fw12_6 e89 rfl hP (fun H locs hP => ?_)
  refine rw_aload_n X dX12_readTree_92 rfl (hl.at 0 rfl) ?_
  obtain ⟨v93, e93, hf⟩ := ob hf
  refine rw_getI X dX12_readTree_93 fl12_109 e93 rfl hP ?_
  refine lv_if_eq hx hb (tgt := 108) dX12_readTree_96 (by decide) (fun c96 => ?_) (fun c96 => ?_)
  · have hf := ifp hf c96
    refine rw_aload_n X dX12_readTree_108 rfl (hl.at 0 rfl) ?_
    refine rw_aload_n X dX12_readTree_109 rfl (hl.at 0 rfl) ?_
    obtain ⟨v110, e110, hf⟩ := ob hf
    refine rw_getI X dX12_readTree_110 fl12_128 e110 rfl hP ?_
    obtain ⟨S113, e113, hf⟩ := ob hf
    refine rw_putI X dX12_readTree_113 fl12_155 fw12_8 e113 rfl hP (fun H locs hP => ?_)
    refine lv_iconst (v := 0) hx hb dX12_readTree_116 (by decide) ?_
    refine rv_istore_n X dX12_readTree_117 rfl hl (by decide) rfl (fun ls hl => ?_)
    have hl : LV ls 2 [(1, .int 0), (0, va_rf l0)] := hl
    exact wX12_readTree_118 X FU S113 l0 0 hf _ _ _ hP (hl.sub [1, 0] rfl)
  · have hf := ifn hf c96
    refine lv_sipush (v := (-2000)) hx hb dX12_readTree_99 (by decide) ?_
    refine rw_aload_n X dX12_readTree_102 rfl (hl.at 0 rfl) ?_
    obtain ⟨v103, e103, hf⟩ := ob hf
    refine rw_getI X dX12_readTree_103 fl12_102 e103 rfl hP ?_
    refine lv_isub hx hb dX12_readTree_106 ?_
    cases hf
    exact rw_iret X dX12_readTree_107 hP
def fX12_readTree_62 (Y : LY) (S : HS) (l0 : Option Nat) : Option (HS × Int32) :=
  (gI Y 12 1222 l0 S).bind fun v64 =>
  (gI Y 12 1220 l0 S).bind fun v68 =>
  (gI Y 12 1206 l0 S).bind fun v72 =>
  if v72 ≤ v68 then
    fX12_readTree_83 Y S l0 l0 v64 0
  else
    fX12_readTree_83 Y S l0 l0 v64 1
set_option maxRecDepth 100000 in
set_option maxHeartbeats 4000000 in
theorem wX12_readTree_62 {p : Program} {l : Launch} {e : Env} {R : Room} {s : State} {m : MethodId} {args : Array Value} {below : List Frame} {meth : Method} {c : Code} {G : GG} {Y : LY} {res : HS × Int32} (X : Cx p R s m args meth c RX12 cX12_readTree 2 5 110 (fun q => q ∈ Y.1) G (some .int)) : ∀ (S : HS) (l0 : Option Nat), fX12_readTree_62 Y S l0 = some res → ∀ (H : Heap) (locs : List Loc) (ls : Array Slot), HP (fun q => q ∈ Y.1) G Y s S H locs → LV ls 2 [(0, va_rf l0)] → W p l e R s m args below meth c H locs 0 0 (MQ below (QI G Y res.1 (some (.int res.2))) args s 0 0 (fun q => q ∈ Y.1)) (F0 m 62 ls []) := by
  have hx := X.1.1
  have hb := X.1.2.1
  intro S l0 hf H locs ls hP hl
  unfold fX12_readTree_62 at hf
  refine rw_aload_n X dX12_readTree_62 rfl (hl.at 0 rfl) ?_
  refine lv_dup hx hb dX12_readTree_63 (cr _) ?_
  obtain ⟨v64, e64, hf⟩ := ob hf
  refine rw_getI X dX12_readTree_64 fl12_109 e64 rfl hP ?_
  refine rw_aload_n X dX12_readTree_67 rfl (hl.at 0 rfl) ?_
  obtain ⟨v68, e68, hf⟩ := ob hf
  refine rw_getI X dX12_readTree_68 fl12_102 e68 rfl hP ?_
  refine rw_aload_n X dX12_readTree_71 rfl (hl.at 0 rfl) ?_
  obtain ⟨v72, e72, hf⟩ := ob hf
  refine rw_getI X dX12_readTree_72 fl12_98 e72 rfl hP ?_
  refine lv_icmp_ge hx hb (tgt := 82) dX12_readTree_75 (by decide) (fun c75 => ?_) (fun c75 => ?_)
  · have hf := ifp hf c75
    refine lv_iconst (v := 0) hx hb dX12_readTree_82 (by decide) ?_
    exact wX12_readTree_83 X S l0 l0 v64 0 hf _ _ _ hP (hl.sub [0] rfl)
  · have hf := ifn hf c75
    refine lv_iconst (v := 1) hx hb dX12_readTree_78 (by decide) ?_
    refine lv_goto (tgt := 83) hx hb dX12_readTree_79 (by decide) ?_
    exact wX12_readTree_83 X S l0 l0 v64 1 hf _ _ _ hP (hl.sub [0] rfl)
def fX12_readTree_25 (Y : LY) : Nat → HS → Option Nat → Option (HS × Int32)
  | 0, _, _ => none
  | n + 1, S, l0 =>
    (gI Y 12 1236 l0 S).bind fun v26 =>
    if v26 = 0 then
      fX12_readTree_62 Y S l0
    else
      (gI Y 12 1222 l0 S).bind fun v33 =>
      if v33 = 0 then
        (pZ Y 12 1236 l0 0 S).bind fun S41 =>
        (rcv Y 12 l0).bind fun _ =>
        (fX12_begins Y S41 l0 ).bind fun S45 =>
        (gI Y 12 1236 l0 S45).bind fun v49 =>
        if v49 = 0 then
          (rcv Y 12 l0).bind fun _ =>
          (fX12_goesUp Y S45 l0 ).bind fun S56 =>
          fX12_readTree_25 Y n S56 l0
        else
          fX12_readTree_25 Y n S45 l0
      else
        fX12_readTree_62 Y S l0
set_option maxRecDepth 100000 in
set_option maxHeartbeats 4000000 in
theorem wX12_readTree_25 {p : Program} {l : Launch} {e : Env} {R : Room} {s : State} {m : MethodId} {args : Array Value} {below : List Frame} {meth : Method} {c : Code} {G : GG} {Y : LY} {res : HS × Int32} (X : Cx p R s m args meth c RX12 cX12_readTree 2 5 110 (fun q => q ∈ Y.1) G (some .int)) : ∀ (n : Nat) (S : HS) (l0 : Option Nat), fX12_readTree_25 Y n S l0 = some res → ∀ (H : Heap) (locs : List Loc) (ls : Array Slot), HP (fun q => q ∈ Y.1) G Y s S H locs → LV ls 2 [(0, va_rf l0)] → W p l e R s m args below meth c H locs 0 0 (MQ below (QI G Y res.1 (some (.int res.2))) args s 0 0 (fun q => q ∈ Y.1)) (F0 m 25 ls []) := by
  have hx := X.1.1
  have hb := X.1.2.1
  intro n
  induction n with
  | zero =>
    intro S l0 hf
    cases hf
  | succ n ih =>
    intro S l0 hf H locs ls hP hl
    rw [fX12_readTree_25] at hf
    refine rw_aload_n X dX12_readTree_25 rfl (hl.at 0 rfl) ?_
    obtain ⟨v26, e26, hf⟩ := ob hf
    refine rw_getI X dX12_readTree_26 fl12_146 e26 rfl hP ?_
    refine lv_if_eq hx hb (tgt := 62) dX12_readTree_29 (by decide) (fun c29 => ?_) (fun c29 => ?_)
    · have hf := ifp hf c29
      exact wX12_readTree_62 X S l0 hf _ _ _ hP (hl.sub [0] rfl)
    · have hf := ifn hf c29
      refine rw_aload_n X dX12_readTree_32 rfl (hl.at 0 rfl) ?_
      obtain ⟨v33, e33, hf⟩ := ob hf
      refine rw_getI X dX12_readTree_33 fl12_109 e33 rfl hP ?_
      refine lv_if_ne hx hb (tgt := 62) dX12_readTree_36 (by decide) (fun c36 => ?_) (fun c36 => ?_)
      · have hf := ifn hf c36
        exact wX12_readTree_62 X S l0 hf _ _ _ hP (hl.sub [0] rfl)
      · have hf := ifp hf c36
        refine rw_aload_n X dX12_readTree_39 rfl (hl.at 0 rfl) ?_
        refine lv_iconst (v := 0) hx hb dX12_readTree_40 (by decide) ?_
        obtain ⟨S41, e41, hf⟩ := ob hf
        refine rw_putZ X dX12_readTree_41 fl12_146 fw12_36 e41 rfl hP (fun H locs hP => ?_)
        refine rw_aload_n X dX12_readTree_44 rfl (hl.at 0 rfl) ?_
        obtain ⟨u45, r45, hf⟩ := ob hf
        obtain ⟨S45, e45, hf⟩ := ob hf
        refine rw_callVv (As := []) X dX12_readTree_45 clX12_149 pyX12_begins (mX12_begins l e45) (by decide) r45 rfl hP rfl (catL c1n (Nat.le_of_ble_eq_true rfl)) hl.1.1 (fun H locs hP => ?_)
        refine rw_aload_n X dX12_readTree_48 rfl (hl.at 0 rfl) ?_
        obtain ⟨v49, e49, hf⟩ := ob hf
        refine rw_getI X dX12_readTree_49 fl12_146 e49 rfl hP ?_
        refine lv_if_ne hx hb (tgt := 25) dX12_readTree_52 (by decide) (fun c52 => ?_) (fun c52 => ?_)
        · have hf := ifn hf c52
          exact ih S45 l0 hf _ _ _ hP (hl.sub [0] rfl)
        · have hf := ifp hf c52
          refine rw_aload_n X dX12_readTree_55 rfl (hl.at 0 rfl) ?_
          obtain ⟨u56, r56, hf⟩ := ob hf
          obtain ⟨S56, e56, hf⟩ := ob hf
          refine rw_callVv (As := []) X dX12_readTree_56 clX12_152 pyX12_goesUp (mX12_goesUp l e56) (by decide) r56 rfl hP rfl (catL c1n (Nat.le_of_ble_eq_true rfl)) hl.1.1 (fun H locs hP => ?_)
          refine lv_goto (tgt := 25) hx hb dX12_readTree_59 (by decide) ?_
          exact ih S56 l0 hf _ _ _ hP (hl.sub [0] rfl)
def fX12_readTree (Y : LY) (S : HS) (l0 : Option Nat) : Option (HS × Int32) :=
  (pI Y 12 1220 l0 0 S).bind fun S2 =>
  (pI Y 12 1221 l0 0 S2).bind fun S7 =>
  (pI Y 12 1235 l0 0 S7).bind fun S12 =>
  (pZ Y 12 1222 l0 0 S12).bind fun S17 =>
  (pZ Y 12 1236 l0 1 S17).bind fun S22 =>
  fX12_readTree_25 Y FU S22 l0
set_option maxRecDepth 100000 in
set_option maxHeartbeats 4000000 in
theorem mX12_readTree (l : Launch) {G : GG} {Y : LY} {S : HS} {l0 : Option Nat} {res : HS × Int32} (hf : fX12_readTree Y S l0 = some res) : MM l yX12_readTree cX12_readTree 2 (some .int) 5 110 G Y S [va_rf l0] res.1 (some (.int res.2)) := by
  refine mm_of2 (plainFor_of_name (by decide +kernel)) (Nat.le_of_ble_eq_true rfl) (c1c (cr _) c1n) ?_
  intro p e R s m args below meth c X H locs ls hP hl
  have X : Cx p R s m args meth c RX12 cX12_readTree 2 5 110 (fun q => q ∈ Y.1) G (some .int) := X
  have hx := X.1.1
  have hb := X.1.2.1
  have hl : LV ls 2 [(0, va_rf l0)] := hl
  unfold fX12_readTree at hf
  refine rw_aload_n X dX12_readTree_0 rfl (hl.at 0 rfl) ?_
  refine lv_iconst (v := 0) hx hb dX12_readTree_1 (by decide) ?_
  obtain ⟨S2, e2, hf⟩ := ob hf
  refine rw_putI X dX12_readTree_2 fl12_102 fw12_20 e2 rfl hP (fun H locs hP => ?_)
  refine rw_aload_n X dX12_readTree_5 rfl (hl.at 0 rfl) ?_
  refine lv_iconst (v := 0) hx hb dX12_readTree_6 (by decide) ?_
  obtain ⟨S7, e7, hf⟩ := ob hf
  refine rw_putI X dX12_readTree_7 fl12_128 fw12_21 e7 rfl hP (fun H locs hP => ?_)
  refine rw_aload_n X dX12_readTree_10 rfl (hl.at 0 rfl) ?_
  refine lv_iconst (v := 0) hx hb dX12_readTree_11 (by decide) ?_
  obtain ⟨S12, e12, hf⟩ := ob hf
  refine rw_putI X dX12_readTree_12 fl12_131 fw12_35 e12 rfl hP (fun H locs hP => ?_)
  refine rw_aload_n X dX12_readTree_15 rfl (hl.at 0 rfl) ?_
  refine lv_iconst (v := 0) hx hb dX12_readTree_16 (by decide) ?_
  obtain ⟨S17, e17, hf⟩ := ob hf
  refine rw_putZ X dX12_readTree_17 fl12_109 fw12_22 e17 rfl hP (fun H locs hP => ?_)
  refine rw_aload_n X dX12_readTree_20 rfl (hl.at 0 rfl) ?_
  refine lv_iconst (v := 1) hx hb dX12_readTree_21 (by decide) ?_
  obtain ⟨S22, e22, hf⟩ := ob hf
  refine rw_putZ X dX12_readTree_22 fl12_146 fw12_36 e22 rfl hP (fun H locs hP => ?_)
  exact wX12_readTree_25 X FU S22 l0 hf _ _ _ hP (hl.sub [0] rfl)
theorem dX12_set_0 : decode cX12_set 0 = .ok (.iload_n 1, 1) := by decide +kernel
theorem dX12_set_1 : decode cX12_set 1 = .ok (.iconst 0, 1) := by decide +kernel
theorem dX12_set_2 : decode cX12_set 2 = .ok (.bipush 7, 2) := by decide +kernel
theorem dX12_set_4 : decode cX12_set 4 = .ok (.invokestatic 94, 3) := by decide +kernel
theorem dX12_set_7 : decode cX12_set 7 = .ok (.ifCond .eq 16, 3) := by decide +kernel
theorem dX12_set_10 : decode cX12_set 10 = .ok (.iload_n 2, 1) := by decide +kernel
theorem dX12_set_11 : decode cX12_set 11 = .ok (.sipush (-999), 3) := by decide +kernel
theorem dX12_set_14 : decode cX12_set 14 = .ok (.sipush 999, 3) := by decide +kernel
theorem dX12_set_17 : decode cX12_set 17 = .ok (.invokestatic 94, 3) := by decide +kernel
theorem dX12_set_20 : decode cX12_set 20 = .ok (.ifCond .ne 7, 3) := by decide +kernel
theorem dX12_set_23 : decode cX12_set 23 = .ok (.sipush (-1002), 3) := by decide +kernel
theorem dX12_set_26 : decode cX12_set 26 = .ok (.ireturn, 1) := by decide +kernel
theorem dX12_set_27 : decode cX12_set 27 = .ok (.aload_n 0, 1) := by decide +kernel
theorem dX12_set_28 : decode cX12_set 28 = .ok (.getfield 9, 3) := by decide +kernel
theorem dX12_set_31 : decode cX12_set 31 = .ok (.sipush 264, 3) := by decide +kernel
theorem dX12_set_34 : decode cX12_set 34 = .ok (.iload_n 1, 1) := by decide +kernel
theorem dX12_set_35 : decode cX12_set 35 = .ok (.iadd, 1) := by decide +kernel
theorem dX12_set_36 : decode cX12_set 36 = .ok (.iaload, 1) := by decide +kernel
theorem dX12_set_37 : decode cX12_set 37 = .ok (.istore_n 3, 1) := by decide +kernel
theorem dX12_set_38 : decode cX12_set 38 = .ok (.aload_n 0, 1) := by decide +kernel
theorem dX12_set_39 : decode cX12_set 39 = .ok (.getfield 9, 3) := by decide +kernel
theorem dX12_set_42 : decode cX12_set 42 = .ok (.sipush 264, 3) := by decide +kernel
theorem dX12_set_45 : decode cX12_set 45 = .ok (.iload_n 1, 1) := by decide +kernel
theorem dX12_set_46 : decode cX12_set 46 = .ok (.iadd, 1) := by decide +kernel
theorem dX12_set_47 : decode cX12_set 47 = .ok (.iload_n 2, 1) := by decide +kernel
theorem dX12_set_48 : decode cX12_set 48 = .ok (.iastore, 1) := by decide +kernel
theorem dX12_set_49 : decode cX12_set 49 = .ok (.iload_n 3, 1) := by decide +kernel
theorem dX12_set_50 : decode cX12_set 50 = .ok (.ireturn, 1) := by decide +kernel
theorem pyX12_set : PY yX12_set 2 := ⟨by decide +kernel, by decide +kernel, by decide +kernel⟩
def fX12_set (Y : LY) (S : HS) (l0 : Option Nat) (l1 : Int32) (l2 : Int32) : Option (HS × Int32) :=
  (fX12_isIn Y S l1 0 7).bind fun v4 =>
  if v4 = 0 then
    some (S, (-1002))
  else
    (fX12_isIn Y S l2 (-999) 999).bind fun v17 =>
    if v17 = 0 then
      some (S, (-1002))
    else
      (gR Y 12 1200 l0 S).bind fun v28 =>
      (gA Y 14 v28 (264 + l1) S).bind fun v36 =>
      (gR Y 12 1200 l0 S).bind fun v39 =>
      (pA Y 14 v39 (264 + l1) l2 S).bind fun S48 =>
      some (S48, v36)
set_option maxRecDepth 100000 in
set_option maxHeartbeats 4000000 in
theorem mX12_set (l : Launch) {G : GG} {Y : LY} {S : HS} {l0 : Option Nat} {l1 : Int32} {l2 : Int32} {res : HS × Int32} (hf : fX12_set Y S l0 l1 l2 = some res) : MM l yX12_set cX12_set 4 (some .int) 1 22 G Y S [va_rf l0, .int l1, .int l2] res.1 (some (.int res.2)) := by
  refine mm_of2 (plainFor_of_name (by decide +kernel)) (Nat.le_of_ble_eq_true rfl) (c1c (cr _) (c1c (ci _) (c1c (ci _) c1n))) ?_
  intro p e R s m args below meth c X H locs ls hP hl
  have X : Cx p R s m args meth c RX12 cX12_set 4 1 22 (fun q => q ∈ Y.1) G (some .int) := X
  have hx := X.1.1
  have hb := X.1.2.1
  have hl : LV ls 4 [(0, va_rf l0), (1, .int l1), (2, .int l2)] := hl
  unfold fX12_set at hf
  refine lv_iload_n hx hb dX12_set_0 rfl (hl.at 1 rfl) ?_
  refine lv_iconst (v := 0) hx hb dX12_set_1 (by decide) ?_
  refine lv_bipush (v := 7) hx hb dX12_set_2 (by decide) ?_
  obtain ⟨v4, e4, hf⟩ := ob hf
  refine rw_callSi (As := [.int l1, .int 0, .int 7]) X dX12_set_4 clX12_94 pyX12_isIn (mX12_isIn l e4) (by decide) hP rfl (catL c1n (Nat.le_of_ble_eq_true rfl)) hl.1.1 (fun H locs hP => ?_)
  refine lv_if_eq hx hb (tgt := 23) dX12_set_7 (by decide) (fun c7 => ?_) (fun c7 => ?_)
  · have hf := ifp hf c7
    refine lv_sipush (v := (-1002)) hx hb dX12_set_23 (by decide) ?_
    cases hf
    exact rw_iret X dX12_set_26 hP
  · have hf := ifn hf c7
    refine lv_iload_n hx hb dX12_set_10 rfl (hl.at 2 rfl) ?_
    refine lv_sipush (v := (-999)) hx hb dX12_set_11 (by decide) ?_
    refine lv_sipush (v := 999) hx hb dX12_set_14 (by decide) ?_
    obtain ⟨v17, e17, hf⟩ := ob hf
    refine rw_callSi (As := [.int l2, .int (-999), .int 999]) X dX12_set_17 clX12_94 pyX12_isIn (mX12_isIn l e17) (by decide) hP rfl (catL c1n (Nat.le_of_ble_eq_true rfl)) hl.1.1 (fun H locs hP => ?_)
    refine lv_if_ne hx hb (tgt := 27) dX12_set_20 (by decide) (fun c20 => ?_) (fun c20 => ?_)
    · have hf := ifn hf c20
      refine rw_aload_n X dX12_set_27 rfl (hl.at 0 rfl) ?_
      obtain ⟨v28, e28, hf⟩ := ob hf
      refine rw_getR X dX12_set_28 fl12_9 e28 rfl hP ?_
      refine lv_sipush (v := 264) hx hb dX12_set_31 (by decide) ?_
      refine lv_iload_n hx hb dX12_set_34 rfl (hl.at 1 rfl) ?_
      refine lv_iadd hx hb dX12_set_35 ?_
      obtain ⟨v36, e36, hf⟩ := ob hf
      refine rw_iald X dX12_set_36 e36 hP ?_
      refine rv_istore_n X dX12_set_37 rfl hl (by decide) rfl (fun ls hl => ?_)
      have hl : LV ls 4 [(3, .int v36), (0, va_rf l0), (1, .int l1), (2, .int l2)] := hl
      refine rw_aload_n X dX12_set_38 rfl (hl.at 1 rfl) ?_
      obtain ⟨v39, e39, hf⟩ := ob hf
      refine rw_getR X dX12_set_39 fl12_9 e39 rfl hP ?_
      refine lv_sipush (v := 264) hx hb dX12_set_42 (by decide) ?_
      refine lv_iload_n hx hb dX12_set_45 rfl (hl.at 2 rfl) ?_
      refine lv_iadd hx hb dX12_set_46 ?_
      refine lv_iload_n hx hb dX12_set_47 rfl (hl.at 3 rfl) ?_
      obtain ⟨S48, e48, hf⟩ := ob hf
      refine rw_iast X dX12_set_48 e48 hP (fun H locs hP => ?_)
      refine lv_iload_n hx hb dX12_set_49 rfl (hl.at 0 rfl) ?_
      cases hf
      exact rw_iret X dX12_set_50 hP
    · have hf := ifp hf c20
      refine lv_sipush (v := (-1002)) hx hb dX12_set_23 (by decide) ?_
      cases hf
      exact rw_iret X dX12_set_26 hP
theorem dX12_place_0 : decode cX12_place 0 = .ok (.iload_n 1, 1) := by decide +kernel
theorem dX12_place_1 : decode cX12_place 1 = .ok (.ifCond .ge 7, 3) := by decide +kernel
theorem dX12_place_4 : decode cX12_place 4 = .ok (.iconst (-1), 1) := by decide +kernel
theorem dX12_place_5 : decode cX12_place 5 = .ok (.goto 9, 3) := by decide +kernel
theorem dX12_place_8 : decode cX12_place 8 = .ok (.aload_n 0, 1) := by decide +kernel
theorem dX12_place_9 : decode cX12_place 9 = .ok (.getfield 31, 3) := by decide +kernel
theorem dX12_place_12 : decode cX12_place 12 = .ok (.iload_n 1, 1) := by decide +kernel
theorem dX12_place_13 : decode cX12_place 13 = .ok (.iaload, 1) := by decide +kernel
theorem dX12_place_14 : decode cX12_place 14 = .ok (.istore_n 3, 1) := by decide +kernel
theorem dX12_place_15 : decode cX12_place 15 = .ok (.iload_n 3, 1) := by decide +kernel
theorem dX12_place_16 : decode cX12_place 16 = .ok (.ifCond .lt 34, 3) := by decide +kernel
theorem dX12_place_19 : decode cX12_place 19 = .ok (.aload_n 0, 1) := by decide +kernel
theorem dX12_place_20 : decode cX12_place 20 = .ok (.getfield 25, 3) := by decide +kernel
theorem dX12_place_23 : decode cX12_place 23 = .ok (.iload_n 3, 1) := by decide +kernel
theorem dX12_place_24 : decode cX12_place 24 = .ok (.iaload, 1) := by decide +kernel
theorem dX12_place_25 : decode cX12_place 25 = .ok (.bipush 14, 2) := by decide +kernel
theorem dX12_place_27 : decode cX12_place 27 = .ok (.if_icmp .ne 13, 3) := by decide +kernel
theorem dX12_place_30 : decode cX12_place 30 = .ok (.aload_n 0, 1) := by decide +kernel
theorem dX12_place_31 : decode cX12_place 31 = .ok (.getfield 28, 3) := by decide +kernel
theorem dX12_place_34 : decode cX12_place 34 = .ok (.iload_n 3, 1) := by decide +kernel
theorem dX12_place_35 : decode cX12_place 35 = .ok (.iaload, 1) := by decide +kernel
theorem dX12_place_36 : decode cX12_place 36 = .ok (.iload_n 2, 1) := by decide +kernel
theorem dX12_place_37 : decode cX12_place 37 = .ok (.if_icmp .eq 13, 3) := by decide +kernel
theorem dX12_place_40 : decode cX12_place 40 = .ok (.aload_n 0, 1) := by decide +kernel
theorem dX12_place_41 : decode cX12_place 41 = .ok (.getfield 31, 3) := by decide +kernel
theorem dX12_place_44 : decode cX12_place 44 = .ok (.iload_n 3, 1) := by decide +kernel
theorem dX12_place_45 : decode cX12_place 45 = .ok (.iaload, 1) := by decide +kernel
theorem dX12_place_46 : decode cX12_place 46 = .ok (.istore_n 3, 1) := by decide +kernel
theorem dX12_place_47 : decode cX12_place 47 = .ok (.goto (-32), 3) := by decide +kernel
theorem dX12_place_50 : decode cX12_place 50 = .ok (.iload_n 3, 1) := by decide +kernel
theorem dX12_place_51 : decode cX12_place 51 = .ok (.ifCond .lt 12, 3) := by decide +kernel
theorem dX12_place_54 : decode cX12_place 54 = .ok (.bipush 11, 2) := by decide +kernel
theorem dX12_place_56 : decode cX12_place 56 = .ok (.iload_n 3, 1) := by decide +kernel
theorem dX12_place_57 : decode cX12_place 57 = .ok (.imul, 1) := by decide +kernel
theorem dX12_place_58 : decode cX12_place 58 = .ok (.iconst 4, 1) := by decide +kernel
theorem dX12_place_59 : decode cX12_place 59 = .ok (.iadd, 1) := by decide +kernel
theorem dX12_place_60 : decode cX12_place 60 = .ok (.goto 8, 3) := by decide +kernel
theorem dX12_place_63 : decode cX12_place 63 = .ok (.sipush 264, 3) := by decide +kernel
theorem dX12_place_66 : decode cX12_place 66 = .ok (.iload_n 2, 1) := by decide +kernel
theorem dX12_place_67 : decode cX12_place 67 = .ok (.iadd, 1) := by decide +kernel
theorem dX12_place_68 : decode cX12_place 68 = .ok (.ireturn, 1) := by decide +kernel
theorem pyX12_place : PY yX12_place 2 := ⟨by decide +kernel, by decide +kernel, by decide +kernel⟩
def fX12_place_50 (Y : LY) (S : HS) (l2 : Int32) (l3 : Int32) : Option (Int32) :=
  if l3 < 0 then
    some (264 + l2)
  else
    some ((11 * l3) + 4)
set_option maxRecDepth 100000 in
set_option maxHeartbeats 4000000 in
theorem wX12_place_50 {p : Program} {l : Launch} {e : Env} {R : Room} {s : State} {m : MethodId} {args : Array Value} {below : List Frame} {meth : Method} {c : Code} {G : GG} {Y : LY} {S : HS} {res : Int32} (X : Cx p R s m args meth c RX12 cX12_place 4 0 0 (fun q => q ∈ Y.1) G (some .int)) : ∀ (l2 : Int32) (l3 : Int32), fX12_place_50 Y S l2 l3 = some res → ∀ (H : Heap) (locs : List Loc) (ls : Array Slot), HP (fun q => q ∈ Y.1) G Y s S H locs → LV ls 4 [(2, .int l2), (3, .int l3)] → W p l e R s m args below meth c H locs 0 0 (MQ below (QI G Y S (some (.int res))) args s 0 0 (fun q => q ∈ Y.1)) (F0 m 50 ls []) := by
  have hx := X.1.1
  have hb := X.1.2.1
  intro l2 l3 hf H locs ls hP hl
  unfold fX12_place_50 at hf
  refine lv_iload_n hx hb dX12_place_50 rfl (hl.at 1 rfl) ?_
  refine lv_if_lt hx hb (tgt := 63) dX12_place_51 (by decide) (fun c51 => ?_) (fun c51 => ?_)
  · have hf := ifp hf c51
    refine lv_sipush (v := 264) hx hb dX12_place_63 (by decide) ?_
    refine lv_iload_n hx hb dX12_place_66 rfl (hl.at 0 rfl) ?_
    refine lv_iadd hx hb dX12_place_67 ?_
    cases hf
    exact rw_iret X dX12_place_68 hP
  · have hf := ifn hf c51
    refine lv_bipush (v := 11) hx hb dX12_place_54 (by decide) ?_
    refine lv_iload_n hx hb dX12_place_56 rfl (hl.at 1 rfl) ?_
    refine lv_imul hx hb dX12_place_57 ?_
    refine lv_iconst (v := 4) hx hb dX12_place_58 (by decide) ?_
    refine lv_iadd hx hb dX12_place_59 ?_
    refine lv_goto (tgt := 68) hx hb dX12_place_60 (by decide) ?_
    cases hf
    exact rw_iret X dX12_place_68 hP
def fX12_place_15 (Y : LY) (S : HS) : Nat → Option Nat → Int32 → Int32 → Option (Int32)
  | 0, _, _, _ => none
  | n + 1, l0, l2, l3 =>
    if l3 < 0 then
      fX12_place_50 Y S l2 l3
    else
      (gR Y 12 1209 l0 S).bind fun v20 =>
      (gA Y 14 v20 l3 S).bind fun v24 =>
      if v24 = 14 then
        (gR Y 12 1210 l0 S).bind fun v31 =>
        (gA Y 14 v31 l3 S).bind fun v35 =>
        if v35 = l2 then
          fX12_place_50 Y S l2 l3
        else
          (gR Y 12 1211 l0 S).bind fun v41 =>
          (gA Y 14 v41 l3 S).bind fun v45 =>
          fX12_place_15 Y S n l0 l2 v45
      else
        (gR Y 12 1211 l0 S).bind fun v41 =>
        (gA Y 14 v41 l3 S).bind fun v45 =>
        fX12_place_15 Y S n l0 l2 v45
set_option maxRecDepth 100000 in
set_option maxHeartbeats 4000000 in
theorem wX12_place_15 {p : Program} {l : Launch} {e : Env} {R : Room} {s : State} {m : MethodId} {args : Array Value} {below : List Frame} {meth : Method} {c : Code} {G : GG} {Y : LY} {S : HS} {res : Int32} (X : Cx p R s m args meth c RX12 cX12_place 4 0 0 (fun q => q ∈ Y.1) G (some .int)) : ∀ (n : Nat) (l0 : Option Nat) (l2 : Int32) (l3 : Int32), fX12_place_15 Y S n l0 l2 l3 = some res → ∀ (H : Heap) (locs : List Loc) (ls : Array Slot), HP (fun q => q ∈ Y.1) G Y s S H locs → LV ls 4 [(0, va_rf l0), (2, .int l2), (3, .int l3)] → W p l e R s m args below meth c H locs 0 0 (MQ below (QI G Y S (some (.int res))) args s 0 0 (fun q => q ∈ Y.1)) (F0 m 15 ls []) := by
  have hx := X.1.1
  have hb := X.1.2.1
  intro n
  induction n with
  | zero =>
    intro l0 l2 l3 hf
    cases hf
  | succ n ih =>
    intro l0 l2 l3 hf H locs ls hP hl
    rw [fX12_place_15] at hf
    refine lv_iload_n hx hb dX12_place_15 rfl (hl.at 2 rfl) ?_
    refine lv_if_lt hx hb (tgt := 50) dX12_place_16 (by decide) (fun c16 => ?_) (fun c16 => ?_)
    · have hf := ifp hf c16
      exact wX12_place_50 X l2 l3 hf _ _ _ hP (hl.sub [1, 2] rfl)
    · have hf := ifn hf c16
      refine rw_aload_n X dX12_place_19 rfl (hl.at 0 rfl) ?_
      obtain ⟨v20, e20, hf⟩ := ob hf
      refine rw_getR X dX12_place_20 fl12_25 e20 rfl hP ?_
      refine lv_iload_n hx hb dX12_place_23 rfl (hl.at 2 rfl) ?_
      obtain ⟨v24, e24, hf⟩ := ob hf
      refine rw_iald X dX12_place_24 e24 hP ?_
      refine lv_bipush (v := 14) hx hb dX12_place_25 (by decide) ?_
      refine lv_icmp_ne hx hb (tgt := 40) dX12_place_27 (by decide) (fun c27 => ?_) (fun c27 => ?_)
      · have hf := ifn hf c27
        refine rw_aload_n X dX12_place_40 rfl (hl.at 0 rfl) ?_
        obtain ⟨v41, e41, hf⟩ := ob hf
        refine rw_getR X dX12_place_41 fl12_31 e41 rfl hP ?_
        refine lv_iload_n hx hb dX12_place_44 rfl (hl.at 2 rfl) ?_
        obtain ⟨v45, e45, hf⟩ := ob hf
        refine rw_iald X dX12_place_45 e45 hP ?_
        refine rv_istore_n X dX12_place_46 rfl hl (by decide) rfl (fun ls hl => ?_)
        have hl : LV ls 4 [(3, .int v45), (0, va_rf l0), (2, .int l2)] := hl
        refine lv_goto (tgt := 15) hx hb dX12_place_47 (by decide) ?_
        exact ih l0 l2 v45 hf _ _ _ hP (hl.sub [1, 2, 0] rfl)
      · have hf := ifp hf c27
        refine rw_aload_n X dX12_place_30 rfl (hl.at 0 rfl) ?_
        obtain ⟨v31, e31, hf⟩ := ob hf
        refine rw_getR X dX12_place_31 fl12_28 e31 rfl hP ?_
        refine lv_iload_n hx hb dX12_place_34 rfl (hl.at 2 rfl) ?_
        obtain ⟨v35, e35, hf⟩ := ob hf
        refine rw_iald X dX12_place_35 e35 hP ?_
        refine lv_iload_n hx hb dX12_place_36 rfl (hl.at 1 rfl) ?_
        refine lv_icmp_eq hx hb (tgt := 50) dX12_place_37 (by decide) (fun c37 => ?_) (fun c37 => ?_)
        · have hf := ifp hf c37
          exact wX12_place_50 X l2 l3 hf _ _ _ hP (hl.sub [1, 2] rfl)
        · have hf := ifn hf c37
          refine rw_aload_n X dX12_place_40 rfl (hl.at 0 rfl) ?_
          obtain ⟨v41, e41, hf⟩ := ob hf
          refine rw_getR X dX12_place_41 fl12_31 e41 rfl hP ?_
          refine lv_iload_n hx hb dX12_place_44 rfl (hl.at 2 rfl) ?_
          obtain ⟨v45, e45, hf⟩ := ob hf
          refine rw_iald X dX12_place_45 e45 hP ?_
          refine rv_istore_n X dX12_place_46 rfl hl (by decide) rfl (fun ls hl => ?_)
          have hl : LV ls 4 [(3, .int v45), (0, va_rf l0), (2, .int l2)] := hl
          refine lv_goto (tgt := 15) hx hb dX12_place_47 (by decide) ?_
          exact ih l0 l2 v45 hf _ _ _ hP (hl.sub [1, 2, 0] rfl)
def fX12_place (Y : LY) (S : HS) (l0 : Option Nat) (l1 : Int32) (l2 : Int32) : Option (Int32) :=
  if 0 ≤ l1 then
    (gR Y 12 1211 l0 S).bind fun v9 =>
    (gA Y 14 v9 l1 S).bind fun v13 =>
    fX12_place_15 Y S FU l0 l2 v13
  else
    fX12_place_15 Y S FU l0 l2 (-1)
set_option maxRecDepth 100000 in
set_option maxHeartbeats 4000000 in
theorem mX12_place (l : Launch) {G : GG} {Y : LY} {S : HS} {l0 : Option Nat} {l1 : Int32} {l2 : Int32} {res : Int32} (hf : fX12_place Y S l0 l1 l2 = some res) : MM l yX12_place cX12_place 4 (some .int) 0 0 G Y S [va_rf l0, .int l1, .int l2] S (some (.int res)) := by
  refine mm_of2 (plainFor_of_name (by decide +kernel)) (Nat.le_of_ble_eq_true rfl) (c1c (cr _) (c1c (ci _) (c1c (ci _) c1n))) ?_
  intro p e R s m args below meth c X H locs ls hP hl
  have X : Cx p R s m args meth c RX12 cX12_place 4 0 0 (fun q => q ∈ Y.1) G (some .int) := X
  have hx := X.1.1
  have hb := X.1.2.1
  have hl : LV ls 4 [(0, va_rf l0), (1, .int l1), (2, .int l2)] := hl
  unfold fX12_place at hf
  refine lv_iload_n hx hb dX12_place_0 rfl (hl.at 1 rfl) ?_
  refine lv_if_ge hx hb (tgt := 8) dX12_place_1 (by decide) (fun c1 => ?_) (fun c1 => ?_)
  · have hf := ifp hf c1
    refine rw_aload_n X dX12_place_8 rfl (hl.at 0 rfl) ?_
    obtain ⟨v9, e9, hf⟩ := ob hf
    refine rw_getR X dX12_place_9 fl12_31 e9 rfl hP ?_
    refine lv_iload_n hx hb dX12_place_12 rfl (hl.at 1 rfl) ?_
    obtain ⟨v13, e13, hf⟩ := ob hf
    refine rw_iald X dX12_place_13 e13 hP ?_
    refine rv_istore_n X dX12_place_14 rfl hl (by decide) rfl (fun ls hl => ?_)
    have hl : LV ls 4 [(3, .int v13), (0, va_rf l0), (1, .int l1), (2, .int l2)] := hl
    exact wX12_place_15 X FU l0 l2 v13 hf _ _ _ hP (hl.sub [1, 3, 0] rfl)
  · have hf := ifn hf c1
    refine lv_iconst (v := (-1)) hx hb dX12_place_4 (by decide) ?_
    refine lv_goto (tgt := 14) hx hb dX12_place_5 (by decide) ?_
    refine rv_istore_n X dX12_place_14 rfl hl (by decide) rfl (fun ls hl => ?_)
    have hl : LV ls 4 [(3, .int (-1)), (0, va_rf l0), (1, .int l1), (2, .int l2)] := hl
    exact wX12_place_15 X FU l0 l2 (-1) hf _ _ _ hP (hl.sub [1, 3, 0] rfl)
theorem dX12_value_0 : decode cX12_value 0 = .ok (.iload_n 2, 1) := by decide +kernel
theorem dX12_value_1 : decode cX12_value 1 = .ok (.iconst 0, 1) := by decide +kernel
theorem dX12_value_2 : decode cX12_value 2 = .ok (.bipush 7, 2) := by decide +kernel
theorem dX12_value_4 : decode cX12_value 4 = .ok (.invokestatic 94, 3) := by decide +kernel
theorem dX12_value_7 : decode cX12_value 7 = .ok (.ifCond .ne 7, 3) := by decide +kernel
theorem dX12_value_10 : decode cX12_value 10 = .ok (.sipush (-1002), 3) := by decide +kernel
theorem dX12_value_13 : decode cX12_value 13 = .ok (.ireturn, 1) := by decide +kernel
theorem dX12_value_14 : decode cX12_value 14 = .ok (.iload_n 1, 1) := by decide +kernel
theorem dX12_value_15 : decode cX12_value 15 = .ok (.iconst (-1), 1) := by decide +kernel
theorem dX12_value_16 : decode cX12_value 16 = .ok (.aload_n 0, 1) := by decide +kernel
theorem dX12_value_17 : decode cX12_value 17 = .ok (.getfield 155, 3) := by decide +kernel
theorem dX12_value_20 : decode cX12_value 20 = .ok (.iconst 1, 1) := by decide +kernel
theorem dX12_value_21 : decode cX12_value 21 = .ok (.isub, 1) := by decide +kernel
theorem dX12_value_22 : decode cX12_value 22 = .ok (.invokestatic 94, 3) := by decide +kernel
theorem dX12_value_25 : decode cX12_value 25 = .ok (.ifCond .ne 9, 3) := by decide +kernel
theorem dX12_value_28 : decode cX12_value 28 = .ok (.sipush (-1001), 3) := by decide +kernel
theorem dX12_value_31 : decode cX12_value 31 = .ok (.goto 14, 3) := by decide +kernel
theorem dX12_value_34 : decode cX12_value 34 = .ok (.aload_n 0, 1) := by decide +kernel
theorem dX12_value_35 : decode cX12_value 35 = .ok (.getfield 9, 3) := by decide +kernel
theorem dX12_value_38 : decode cX12_value 38 = .ok (.aload_n 0, 1) := by decide +kernel
theorem dX12_value_39 : decode cX12_value 39 = .ok (.iload_n 1, 1) := by decide +kernel
theorem dX12_value_40 : decode cX12_value 40 = .ok (.iload_n 2, 1) := by decide +kernel
theorem dX12_value_41 : decode cX12_value 41 = .ok (.invokevirtual 161, 3) := by decide +kernel
theorem dX12_value_44 : decode cX12_value 44 = .ok (.iaload, 1) := by decide +kernel
theorem dX12_value_45 : decode cX12_value 45 = .ok (.ireturn, 1) := by decide +kernel
theorem pyX12_value : PY yX12_value 2 := ⟨by decide +kernel, by decide +kernel, by decide +kernel⟩
def fX12_value (Y : LY) (S : HS) (l0 : Option Nat) (l1 : Int32) (l2 : Int32) : Option (Int32) :=
  (fX12_isIn Y S l2 0 7).bind fun v4 =>
  if v4 = 0 then
    some (-1002)
  else
    (gI Y 12 1208 l0 S).bind fun v17 =>
    (fX12_isIn Y S l1 (-1) (v17 - 1)).bind fun v22 =>
    if v22 = 0 then
      some (-1001)
    else
      (gR Y 12 1200 l0 S).bind fun v35 =>
      (rcv Y 12 l0).bind fun _ =>
      (fX12_place Y S l0 l1 l2).bind fun v41 =>
      (gA Y 14 v35 v41 S).bind fun v44 =>
      some v44
set_option maxRecDepth 100000 in
set_option maxHeartbeats 4000000 in
theorem mX12_value (l : Launch) {G : GG} {Y : LY} {S : HS} {l0 : Option Nat} {l1 : Int32} {l2 : Int32} {res : Int32} (hf : fX12_value Y S l0 l1 l2 = some res) : MM l yX12_value cX12_value 3 (some .int) 1 23 G Y S [va_rf l0, .int l1, .int l2] S (some (.int res)) := by
  refine mm_of2 (plainFor_of_name (by decide +kernel)) (Nat.le_of_ble_eq_true rfl) (c1c (cr _) (c1c (ci _) (c1c (ci _) c1n))) ?_
  intro p e R s m args below meth c X H locs ls hP hl
  have X : Cx p R s m args meth c RX12 cX12_value 3 1 23 (fun q => q ∈ Y.1) G (some .int) := X
  have hx := X.1.1
  have hb := X.1.2.1
  have hl : LV ls 3 [(0, va_rf l0), (1, .int l1), (2, .int l2)] := hl
  unfold fX12_value at hf
  refine lv_iload_n hx hb dX12_value_0 rfl (hl.at 2 rfl) ?_
  refine lv_iconst (v := 0) hx hb dX12_value_1 (by decide) ?_
  refine lv_bipush (v := 7) hx hb dX12_value_2 (by decide) ?_
  obtain ⟨v4, e4, hf⟩ := ob hf
  refine rw_callSi (As := [.int l2, .int 0, .int 7]) X dX12_value_4 clX12_94 pyX12_isIn (mX12_isIn l e4) (by decide) hP rfl (catL c1n (Nat.le_of_ble_eq_true rfl)) hl.1.1 (fun H locs hP => ?_)
  refine lv_if_ne hx hb (tgt := 14) dX12_value_7 (by decide) (fun c7 => ?_) (fun c7 => ?_)
  · have hf := ifn hf c7
    refine lv_iload_n hx hb dX12_value_14 rfl (hl.at 1 rfl) ?_
    refine lv_iconst (v := (-1)) hx hb dX12_value_15 (by decide) ?_
    refine rw_aload_n X dX12_value_16 rfl (hl.at 0 rfl) ?_
    obtain ⟨v17, e17, hf⟩ := ob hf
    refine rw_getI X dX12_value_17 fl12_155 e17 rfl hP ?_
    refine lv_iconst (v := 1) hx hb dX12_value_20 (by decide) ?_
    refine lv_isub hx hb dX12_value_21 ?_
    obtain ⟨v22, e22, hf⟩ := ob hf
    refine rw_callSi (As := [.int l1, .int (-1), .int (v17 - 1)]) X dX12_value_22 clX12_94 pyX12_isIn (mX12_isIn l e22) (by decide) hP rfl (catL c1n (Nat.le_of_ble_eq_true rfl)) hl.1.1 (fun H locs hP => ?_)
    refine lv_if_ne hx hb (tgt := 34) dX12_value_25 (by decide) (fun c25 => ?_) (fun c25 => ?_)
    · have hf := ifn hf c25
      refine rw_aload_n X dX12_value_34 rfl (hl.at 0 rfl) ?_
      obtain ⟨v35, e35, hf⟩ := ob hf
      refine rw_getR X dX12_value_35 fl12_9 e35 rfl hP ?_
      refine rw_aload_n X dX12_value_38 rfl (hl.at 0 rfl) ?_
      refine lv_iload_n hx hb dX12_value_39 rfl (hl.at 1 rfl) ?_
      refine lv_iload_n hx hb dX12_value_40 rfl (hl.at 2 rfl) ?_
      obtain ⟨u41, r41, hf⟩ := ob hf
      obtain ⟨v41, e41, hf⟩ := ob hf
      refine rw_callVi (As := [.int l1, .int l2]) X dX12_value_41 clX12_161 pyX12_place (mX12_place l e41) (by decide) r41 rfl hP rfl (catL (c1c (cr _) c1n) (Nat.le_of_ble_eq_true rfl)) hl.1.1 (fun H locs hP => ?_)
      obtain ⟨v44, e44, hf⟩ := ob hf
      refine rw_iald X dX12_value_44 e44 hP ?_
      cases hf
      exact rw_iret X dX12_value_45 hP
    · have hf := ifp hf c25
      refine lv_sipush (v := (-1001)) hx hb dX12_value_28 (by decide) ?_
      refine lv_goto (tgt := 45) hx hb dX12_value_31 (by decide) ?_
      cases hf
      exact rw_iret X dX12_value_45 hP
  · have hf := ifp hf c7
    refine lv_sipush (v := (-1002)) hx hb dX12_value_10 (by decide) ?_
    cases hf
    exact rw_iret X dX12_value_13 hP
theorem dX12_does_0 : decode cX12_does 0 = .ok (.aload_n 0, 1) := by decide +kernel
theorem dX12_does_1 : decode cX12_does 1 = .ok (.iload_n 1, 1) := by decide +kernel
theorem dX12_does_2 : decode cX12_does 2 = .ok (.iload_n 2, 1) := by decide +kernel
theorem dX12_does_3 : decode cX12_does 3 = .ok (.invokevirtual 161, 3) := by decide +kernel
theorem dX12_does_6 : decode cX12_does 6 = .ok (.istore 5, 2) := by decide +kernel
theorem dX12_does_8 : decode cX12_does 8 = .ok (.iload_n 3, 1) := by decide +kernel
theorem dX12_does_9 : decode cX12_does 9 = .ok (.iconst 4, 1) := by decide +kernel
theorem dX12_does_10 : decode cX12_does 10 = .ok (.if_icmp .ne 8, 3) := by decide +kernel
theorem dX12_does_13 : decode cX12_does 13 = .ok (.iload 4, 2) := by decide +kernel
theorem dX12_does_15 : decode cX12_does 15 = .ok (.goto 31, 3) := by decide +kernel
theorem dX12_does_18 : decode cX12_does 18 = .ok (.iload_n 3, 1) := by decide +kernel
theorem dX12_does_19 : decode cX12_does 19 = .ok (.iconst 5, 1) := by decide +kernel
theorem dX12_does_20 : decode cX12_does 20 = .ok (.if_icmp .ne 16, 3) := by decide +kernel
theorem dX12_does_23 : decode cX12_does 23 = .ok (.aload_n 0, 1) := by decide +kernel
theorem dX12_does_24 : decode cX12_does 24 = .ok (.getfield 9, 3) := by decide +kernel
theorem dX12_does_27 : decode cX12_does 27 = .ok (.iload 5, 2) := by decide +kernel
theorem dX12_does_29 : decode cX12_does 29 = .ok (.iaload, 1) := by decide +kernel
theorem dX12_does_30 : decode cX12_does 30 = .ok (.iload 4, 2) := by decide +kernel
theorem dX12_does_32 : decode cX12_does 32 = .ok (.iadd, 1) := by decide +kernel
theorem dX12_does_33 : decode cX12_does 33 = .ok (.goto 13, 3) := by decide +kernel
theorem dX12_does_36 : decode cX12_does 36 = .ok (.aload_n 0, 1) := by decide +kernel
theorem dX12_does_37 : decode cX12_does 37 = .ok (.getfield 9, 3) := by decide +kernel
theorem dX12_does_40 : decode cX12_does 40 = .ok (.iload 5, 2) := by decide +kernel
theorem dX12_does_42 : decode cX12_does 42 = .ok (.iaload, 1) := by decide +kernel
theorem dX12_does_43 : decode cX12_does 43 = .ok (.iload 4, 2) := by decide +kernel
theorem dX12_does_45 : decode cX12_does 45 = .ok (.isub, 1) := by decide +kernel
theorem dX12_does_46 : decode cX12_does 46 = .ok (.istore 6, 2) := by decide +kernel
theorem dX12_does_48 : decode cX12_does 48 = .ok (.aload_n 0, 1) := by decide +kernel
theorem dX12_does_49 : decode cX12_does 49 = .ok (.getfield 9, 3) := by decide +kernel
theorem dX12_does_52 : decode cX12_does 52 = .ok (.iload 5, 2) := by decide +kernel
theorem dX12_does_54 : decode cX12_does 54 = .ok (.iload 6, 2) := by decide +kernel
theorem dX12_does_56 : decode cX12_does 56 = .ok (.sipush 999, 3) := by decide +kernel
theorem dX12_does_59 : decode cX12_does 59 = .ok (.if_icmp .le 9, 3) := by decide +kernel
theorem dX12_does_62 : decode cX12_does 62 = .ok (.sipush 999, 3) := by decide +kernel
theorem dX12_does_65 : decode cX12_does 65 = .ok (.goto 19, 3) := by decide +kernel
theorem dX12_does_68 : decode cX12_does 68 = .ok (.iload 6, 2) := by decide +kernel
theorem dX12_does_70 : decode cX12_does 70 = .ok (.sipush (-999), 3) := by decide +kernel
theorem dX12_does_73 : decode cX12_does 73 = .ok (.if_icmp .ge 9, 3) := by decide +kernel
theorem dX12_does_76 : decode cX12_does 76 = .ok (.sipush (-999), 3) := by decide +kernel
theorem dX12_does_79 : decode cX12_does 79 = .ok (.goto 5, 3) := by decide +kernel
theorem dX12_does_82 : decode cX12_does 82 = .ok (.iload 6, 2) := by decide +kernel
theorem dX12_does_84 : decode cX12_does 84 = .ok (.iastore, 1) := by decide +kernel
theorem dX12_does_85 : decode cX12_does 85 = .ok (.return_, 1) := by decide +kernel
theorem pyX12_does : PY yX12_does 4 := ⟨by decide +kernel, by decide +kernel, by decide +kernel⟩
def fX12_does_46 (Y : LY) (S : HS) (l0 : Option Nat) (l5 : Int32) (s0 : Int32) : Option (HS) :=
  (gR Y 12 1200 l0 S).bind fun v49 =>
  if s0 ≤ 999 then
    if (-999) ≤ s0 then
      (pA Y 14 v49 l5 s0 S).bind fun S84 =>
      some S84
    else
      (pA Y 14 v49 l5 (-999) S).bind fun S84 =>
      some S84
  else
    (pA Y 14 v49 l5 999 S).bind fun S84 =>
    some S84
set_option maxRecDepth 100000 in
set_option maxHeartbeats 4000000 in
theorem wX12_does_46 {p : Program} {l : Launch} {e : Env} {R : Room} {s : State} {m : MethodId} {args : Array Value} {below : List Frame} {meth : Method} {c : Code} {G : GG} {Y : LY} {res : HS} (X : Cx p R s m args meth c RX12 cX12_does 7 1 23 (fun q => q ∈ Y.1) G none) : ∀ (S : HS) (l0 : Option Nat) (l5 : Int32) (s0 : Int32), fX12_does_46 Y S l0 l5 s0 = some res → ∀ (H : Heap) (locs : List Loc) (ls : Array Slot), HP (fun q => q ∈ Y.1) G Y s S H locs → LV ls 7 [(0, va_rf l0), (5, .int l5)] → W p l e R s m args below meth c H locs 0 0 (MQ below (QI G Y res none) args s 0 0 (fun q => q ∈ Y.1)) (F0 m 46 ls (.int s0 :: [])) := by
  have hx := X.1.1
  have hb := X.1.2.1
  intro S l0 l5 s0 hf H locs ls hP hl
  unfold fX12_does_46 at hf
  refine rv_istore X dX12_does_46 hl (by decide) rfl (fun ls hl => ?_)
  have hl : LV ls 7 [(6, .int s0), (0, va_rf l0), (5, .int l5)] := hl
  refine rw_aload_n X dX12_does_48 rfl (hl.at 1 rfl) ?_
  obtain ⟨v49, e49, hf⟩ := ob hf
  refine rw_getR X dX12_does_49 fl12_9 e49 rfl hP ?_
  refine lv_iload hx hb dX12_does_52 (hl.at 2 rfl) ?_
  refine lv_iload hx hb dX12_does_54 (hl.at 0 rfl) ?_
  refine lv_sipush (v := 999) hx hb dX12_does_56 (by decide) ?_
  refine lv_icmp_le hx hb (tgt := 68) dX12_does_59 (by decide) (fun c59 => ?_) (fun c59 => ?_)
  · have hf := ifp hf c59
    refine lv_iload hx hb dX12_does_68 (hl.at 0 rfl) ?_
    refine lv_sipush (v := (-999)) hx hb dX12_does_70 (by decide) ?_
    refine lv_icmp_ge hx hb (tgt := 82) dX12_does_73 (by decide) (fun c73 => ?_) (fun c73 => ?_)
    · have hf := ifp hf c73
      refine lv_iload hx hb dX12_does_82 (hl.at 0 rfl) ?_
      obtain ⟨S84, e84, hf⟩ := ob hf
      refine rw_iast X dX12_does_84 e84 hP (fun H locs hP => ?_)
      cases hf
      exact rw_vret X dX12_does_85 hP
    · have hf := ifn hf c73
      refine lv_sipush (v := (-999)) hx hb dX12_does_76 (by decide) ?_
      refine lv_goto (tgt := 84) hx hb dX12_does_79 (by decide) ?_
      obtain ⟨S84, e84, hf⟩ := ob hf
      refine rw_iast X dX12_does_84 e84 hP (fun H locs hP => ?_)
      cases hf
      exact rw_vret X dX12_does_85 hP
  · have hf := ifn hf c59
    refine lv_sipush (v := 999) hx hb dX12_does_62 (by decide) ?_
    refine lv_goto (tgt := 84) hx hb dX12_does_65 (by decide) ?_
    obtain ⟨S84, e84, hf⟩ := ob hf
    refine rw_iast X dX12_does_84 e84 hP (fun H locs hP => ?_)
    cases hf
    exact rw_vret X dX12_does_85 hP
def fX12_does (Y : LY) (S : HS) (l0 : Option Nat) (l1 : Int32) (l2 : Int32) (l3 : Int32) (l4 : Int32) : Option (HS) :=
  (rcv Y 12 l0).bind fun _ =>
  (fX12_place Y S l0 l1 l2).bind fun v3 =>
  if l3 = 4 then
    fX12_does_46 Y S l0 v3 l4
  else
    if l3 = 5 then
      (gR Y 12 1200 l0 S).bind fun v24 =>
      (gA Y 14 v24 v3 S).bind fun v29 =>
      fX12_does_46 Y S l0 v3 (v29 + l4)
    else
      (gR Y 12 1200 l0 S).bind fun v37 =>
      (gA Y 14 v37 v3 S).bind fun v42 =>
      fX12_does_46 Y S l0 v3 (v42 - l4)
set_option maxRecDepth 100000 in
set_option maxHeartbeats 4000000 in
theorem mX12_does (l : Launch) {G : GG} {Y : LY} {S : HS} {l0 : Option Nat} {l1 : Int32} {l2 : Int32} {l3 : Int32} {l4 : Int32} {res : HS} (hf : fX12_does Y S l0 l1 l2 l3 l4 = some res) : MM l yX12_does cX12_does 7 none 1 23 G Y S [va_rf l0, .int l1, .int l2, .int l3, .int l4] res none := by
  refine mm_of2 (plainFor_of_name (by decide +kernel)) (Nat.le_of_ble_eq_true rfl) (c1c (cr _) (c1c (ci _) (c1c (ci _) (c1c (ci _) (c1c (ci _) c1n))))) ?_
  intro p e R s m args below meth c X H locs ls hP hl
  have X : Cx p R s m args meth c RX12 cX12_does 7 1 23 (fun q => q ∈ Y.1) G none := X
  have hx := X.1.1
  have hb := X.1.2.1
  have hl : LV ls 7 [(0, va_rf l0), (1, .int l1), (2, .int l2), (3, .int l3), (4, .int l4)] := hl
  unfold fX12_does at hf
  refine rw_aload_n X dX12_does_0 rfl (hl.at 0 rfl) ?_
  refine lv_iload_n hx hb dX12_does_1 rfl (hl.at 1 rfl) ?_
  refine lv_iload_n hx hb dX12_does_2 rfl (hl.at 2 rfl) ?_
  obtain ⟨u3, r3, hf⟩ := ob hf
  obtain ⟨v3, e3, hf⟩ := ob hf
  refine rw_callVi (As := [.int l1, .int l2]) X dX12_does_3 clX12_161 pyX12_place (mX12_place l e3) (by decide) r3 rfl hP rfl (catL c1n (Nat.le_of_ble_eq_true rfl)) hl.1.1 (fun H locs hP => ?_)
  refine rv_istore X dX12_does_6 hl (by decide) rfl (fun ls hl => ?_)
  have hl : LV ls 7 [(5, .int v3), (0, va_rf l0), (1, .int l1), (2, .int l2), (3, .int l3), (4, .int l4)] := hl
  refine lv_iload_n hx hb dX12_does_8 rfl (hl.at 4 rfl) ?_
  refine lv_iconst (v := 4) hx hb dX12_does_9 (by decide) ?_
  refine lv_icmp_ne hx hb (tgt := 18) dX12_does_10 (by decide) (fun c10 => ?_) (fun c10 => ?_)
  · have hf := ifn hf c10
    refine lv_iload_n hx hb dX12_does_18 rfl (hl.at 4 rfl) ?_
    refine lv_iconst (v := 5) hx hb dX12_does_19 (by decide) ?_
    refine lv_icmp_ne hx hb (tgt := 36) dX12_does_20 (by decide) (fun c20 => ?_) (fun c20 => ?_)
    · have hf := ifn hf c20
      refine rw_aload_n X dX12_does_36 rfl (hl.at 1 rfl) ?_
      obtain ⟨v37, e37, hf⟩ := ob hf
      refine rw_getR X dX12_does_37 fl12_9 e37 rfl hP ?_
      refine lv_iload hx hb dX12_does_40 (hl.at 0 rfl) ?_
      obtain ⟨v42, e42, hf⟩ := ob hf
      refine rw_iald X dX12_does_42 e42 hP ?_
      refine lv_iload hx hb dX12_does_43 (hl.at 5 rfl) ?_
      refine lv_isub hx hb dX12_does_45 ?_
      exact wX12_does_46 X S l0 v3 (v42 - l4) hf _ _ _ hP (hl.sub [1, 0] rfl)
    · have hf := ifp hf c20
      refine rw_aload_n X dX12_does_23 rfl (hl.at 1 rfl) ?_
      obtain ⟨v24, e24, hf⟩ := ob hf
      refine rw_getR X dX12_does_24 fl12_9 e24 rfl hP ?_
      refine lv_iload hx hb dX12_does_27 (hl.at 0 rfl) ?_
      obtain ⟨v29, e29, hf⟩ := ob hf
      refine rw_iald X dX12_does_29 e29 hP ?_
      refine lv_iload hx hb dX12_does_30 (hl.at 5 rfl) ?_
      refine lv_iadd hx hb dX12_does_32 ?_
      refine lv_goto (tgt := 46) hx hb dX12_does_33 (by decide) ?_
      exact wX12_does_46 X S l0 v3 (v29 + l4) hf _ _ _ hP (hl.sub [1, 0] rfl)
  · have hf := ifp hf c10
    refine lv_iload hx hb dX12_does_13 (hl.at 5 rfl) ?_
    refine lv_goto (tgt := 46) hx hb dX12_does_15 (by decide) ?_
    exact wX12_does_46 X S l0 v3 l4 hf _ _ _ hP (hl.sub [1, 0] rfl)
theorem dX12_holds_0 : decode cX12_holds 0 = .ok (.aload_n 0, 1) := by decide +kernel
theorem dX12_holds_1 : decode cX12_holds 1 = .ok (.getfield 9, 3) := by decide +kernel
theorem dX12_holds_4 : decode cX12_holds 4 = .ok (.aload_n 0, 1) := by decide +kernel
theorem dX12_holds_5 : decode cX12_holds 5 = .ok (.iload_n 1, 1) := by decide +kernel
theorem dX12_holds_6 : decode cX12_holds 6 = .ok (.aload_n 0, 1) := by decide +kernel
theorem dX12_holds_7 : decode cX12_holds 7 = .ok (.getfield 40, 3) := by decide +kernel
theorem dX12_holds_10 : decode cX12_holds 10 = .ok (.iload_n 1, 1) := by decide +kernel
theorem dX12_holds_11 : decode cX12_holds 11 = .ok (.iaload, 1) := by decide +kernel
theorem dX12_holds_12 : decode cX12_holds 12 = .ok (.invokevirtual 161, 3) := by decide +kernel
theorem dX12_holds_15 : decode cX12_holds 15 = .ok (.iaload, 1) := by decide +kernel
theorem dX12_holds_16 : decode cX12_holds 16 = .ok (.istore_n 2, 1) := by decide +kernel
theorem dX12_holds_17 : decode cX12_holds 17 = .ok (.aload_n 0, 1) := by decide +kernel
theorem dX12_holds_18 : decode cX12_holds 18 = .ok (.getfield 43, 3) := by decide +kernel
theorem dX12_holds_21 : decode cX12_holds 21 = .ok (.iload_n 1, 1) := by decide +kernel
theorem dX12_holds_22 : decode cX12_holds 22 = .ok (.iaload, 1) := by decide +kernel
theorem dX12_holds_23 : decode cX12_holds 23 = .ok (.iconst 1, 1) := by decide +kernel
theorem dX12_holds_24 : decode cX12_holds 24 = .ok (.if_icmp .ne 21, 3) := by decide +kernel
theorem dX12_holds_27 : decode cX12_holds 27 = .ok (.iload_n 2, 1) := by decide +kernel
theorem dX12_holds_28 : decode cX12_holds 28 = .ok (.aload_n 0, 1) := by decide +kernel
theorem dX12_holds_29 : decode cX12_holds 29 = .ok (.getfield 46, 3) := by decide +kernel
theorem dX12_holds_32 : decode cX12_holds 32 = .ok (.iload_n 1, 1) := by decide +kernel
theorem dX12_holds_33 : decode cX12_holds 33 = .ok (.iaload, 1) := by decide +kernel
theorem dX12_holds_34 : decode cX12_holds 34 = .ok (.if_icmp .ge 7, 3) := by decide +kernel
theorem dX12_holds_37 : decode cX12_holds 37 = .ok (.iconst 1, 1) := by decide +kernel
theorem dX12_holds_38 : decode cX12_holds 38 = .ok (.goto 50, 3) := by decide +kernel
theorem dX12_holds_41 : decode cX12_holds 41 = .ok (.iconst 0, 1) := by decide +kernel
theorem dX12_holds_42 : decode cX12_holds 42 = .ok (.goto 46, 3) := by decide +kernel
theorem dX12_holds_45 : decode cX12_holds 45 = .ok (.aload_n 0, 1) := by decide +kernel
theorem dX12_holds_46 : decode cX12_holds 46 = .ok (.getfield 43, 3) := by decide +kernel
theorem dX12_holds_49 : decode cX12_holds 49 = .ok (.iload_n 1, 1) := by decide +kernel
theorem dX12_holds_50 : decode cX12_holds 50 = .ok (.iaload, 1) := by decide +kernel
theorem dX12_holds_51 : decode cX12_holds 51 = .ok (.iconst 2, 1) := by decide +kernel
theorem dX12_holds_52 : decode cX12_holds 52 = .ok (.if_icmp .ne 21, 3) := by decide +kernel
theorem dX12_holds_55 : decode cX12_holds 55 = .ok (.iload_n 2, 1) := by decide +kernel
theorem dX12_holds_56 : decode cX12_holds 56 = .ok (.aload_n 0, 1) := by decide +kernel
theorem dX12_holds_57 : decode cX12_holds 57 = .ok (.getfield 46, 3) := by decide +kernel
theorem dX12_holds_60 : decode cX12_holds 60 = .ok (.iload_n 1, 1) := by decide +kernel
theorem dX12_holds_61 : decode cX12_holds 61 = .ok (.iaload, 1) := by decide +kernel
theorem dX12_holds_62 : decode cX12_holds 62 = .ok (.if_icmp .ne 7, 3) := by decide +kernel
theorem dX12_holds_65 : decode cX12_holds 65 = .ok (.iconst 1, 1) := by decide +kernel
theorem dX12_holds_66 : decode cX12_holds 66 = .ok (.goto 22, 3) := by decide +kernel
theorem dX12_holds_69 : decode cX12_holds 69 = .ok (.iconst 0, 1) := by decide +kernel
theorem dX12_holds_70 : decode cX12_holds 70 = .ok (.goto 18, 3) := by decide +kernel
theorem dX12_holds_73 : decode cX12_holds 73 = .ok (.iload_n 2, 1) := by decide +kernel
theorem dX12_holds_74 : decode cX12_holds 74 = .ok (.aload_n 0, 1) := by decide +kernel
theorem dX12_holds_75 : decode cX12_holds 75 = .ok (.getfield 46, 3) := by decide +kernel
theorem dX12_holds_78 : decode cX12_holds 78 = .ok (.iload_n 1, 1) := by decide +kernel
theorem dX12_holds_79 : decode cX12_holds 79 = .ok (.iaload, 1) := by decide +kernel
theorem dX12_holds_80 : decode cX12_holds 80 = .ok (.if_icmp .le 7, 3) := by decide +kernel
theorem dX12_holds_83 : decode cX12_holds 83 = .ok (.iconst 1, 1) := by decide +kernel
theorem dX12_holds_84 : decode cX12_holds 84 = .ok (.goto 4, 3) := by decide +kernel
theorem dX12_holds_87 : decode cX12_holds 87 = .ok (.iconst 0, 1) := by decide +kernel
theorem dX12_holds_88 : decode cX12_holds 88 = .ok (.ireturn, 1) := by decide +kernel
theorem pyX12_holds : PY yX12_holds 1 := ⟨by decide +kernel, by decide +kernel, by decide +kernel⟩
def fX12_holds (Y : LY) (S : HS) (l0 : Option Nat) (l1 : Int32) : Option (Int32) :=
  (gR Y 12 1200 l0 S).bind fun v1 =>
  (gR Y 12 1214 l0 S).bind fun v7 =>
  (gA Y 14 v7 l1 S).bind fun v11 =>
  (rcv Y 12 l0).bind fun _ =>
  (fX12_place Y S l0 l1 v11).bind fun v12 =>
  (gA Y 14 v1 v12 S).bind fun v15 =>
  (gR Y 12 1215 l0 S).bind fun v18 =>
  (gA Y 14 v18 l1 S).bind fun v22 =>
  if v22 = 1 then
    (gR Y 12 1216 l0 S).bind fun v29 =>
    (gA Y 14 v29 l1 S).bind fun v33 =>
    if v33 ≤ v15 then
      some 0
    else
      some 1
  else
    (gR Y 12 1215 l0 S).bind fun v46 =>
    (gA Y 14 v46 l1 S).bind fun v50 =>
    if v50 = 2 then
      (gR Y 12 1216 l0 S).bind fun v57 =>
      (gA Y 14 v57 l1 S).bind fun v61 =>
      if v15 = v61 then
        some 1
      else
        some 0
    else
      (gR Y 12 1216 l0 S).bind fun v75 =>
      (gA Y 14 v75 l1 S).bind fun v79 =>
      if v15 ≤ v79 then
        some 0
      else
        some 1
set_option maxRecDepth 100000 in
set_option maxHeartbeats 4000000 in
theorem mX12_holds (l : Launch) {G : GG} {Y : LY} {S : HS} {l0 : Option Nat} {l1 : Int32} {res : Int32} (hf : fX12_holds Y S l0 l1 = some res) : MM l yX12_holds cX12_holds 3 (some .boolean) 1 23 G Y S [va_rf l0, .int l1] S (some (.int res)) := by
  refine mm_of2 (plainFor_of_name (by decide +kernel)) (Nat.le_of_ble_eq_true rfl) (c1c (cr _) (c1c (ci _) c1n)) ?_
  intro p e R s m args below meth c X H locs ls hP hl
  have X : Cx p R s m args meth c RX12 cX12_holds 3 1 23 (fun q => q ∈ Y.1) G (some .boolean) := X
  have hx := X.1.1
  have hb := X.1.2.1
  have hl : LV ls 3 [(0, va_rf l0), (1, .int l1)] := hl
  unfold fX12_holds at hf
  refine rw_aload_n X dX12_holds_0 rfl (hl.at 0 rfl) ?_
  obtain ⟨v1, e1, hf⟩ := ob hf
  refine rw_getR X dX12_holds_1 fl12_9 e1 rfl hP ?_
  refine rw_aload_n X dX12_holds_4 rfl (hl.at 0 rfl) ?_
  refine lv_iload_n hx hb dX12_holds_5 rfl (hl.at 1 rfl) ?_
  refine rw_aload_n X dX12_holds_6 rfl (hl.at 0 rfl) ?_
  obtain ⟨v7, e7, hf⟩ := ob hf
  refine rw_getR X dX12_holds_7 fl12_40 e7 rfl hP ?_
  refine lv_iload_n hx hb dX12_holds_10 rfl (hl.at 1 rfl) ?_
  obtain ⟨v11, e11, hf⟩ := ob hf
  refine rw_iald X dX12_holds_11 e11 hP ?_
  obtain ⟨u12, r12, hf⟩ := ob hf
  obtain ⟨v12, e12, hf⟩ := ob hf
  refine rw_callVi (As := [.int l1, .int v11]) X dX12_holds_12 clX12_161 pyX12_place (mX12_place l e12) (by decide) r12 rfl hP rfl (catL (c1c (cr _) c1n) (Nat.le_of_ble_eq_true rfl)) hl.1.1 (fun H locs hP => ?_)
  obtain ⟨v15, e15, hf⟩ := ob hf
  refine rw_iald X dX12_holds_15 e15 hP ?_
  refine rv_istore_n X dX12_holds_16 rfl hl (by decide) rfl (fun ls hl => ?_)
  have hl : LV ls 3 [(2, .int v15), (0, va_rf l0), (1, .int l1)] := hl
  refine rw_aload_n X dX12_holds_17 rfl (hl.at 1 rfl) ?_
  obtain ⟨v18, e18, hf⟩ := ob hf
  refine rw_getR X dX12_holds_18 fl12_43 e18 rfl hP ?_
  refine lv_iload_n hx hb dX12_holds_21 rfl (hl.at 2 rfl) ?_
  obtain ⟨v22, e22, hf⟩ := ob hf
  refine rw_iald X dX12_holds_22 e22 hP ?_
  refine lv_iconst (v := 1) hx hb dX12_holds_23 (by decide) ?_
  refine lv_icmp_ne hx hb (tgt := 45) dX12_holds_24 (by decide) (fun c24 => ?_) (fun c24 => ?_)
  · have hf := ifn hf c24
    refine rw_aload_n X dX12_holds_45 rfl (hl.at 1 rfl) ?_
    obtain ⟨v46, e46, hf⟩ := ob hf
    refine rw_getR X dX12_holds_46 fl12_43 e46 rfl hP ?_
    refine lv_iload_n hx hb dX12_holds_49 rfl (hl.at 2 rfl) ?_
    obtain ⟨v50, e50, hf⟩ := ob hf
    refine rw_iald X dX12_holds_50 e50 hP ?_
    refine lv_iconst (v := 2) hx hb dX12_holds_51 (by decide) ?_
    refine lv_icmp_ne hx hb (tgt := 73) dX12_holds_52 (by decide) (fun c52 => ?_) (fun c52 => ?_)
    · have hf := ifn hf c52
      refine lv_iload_n hx hb dX12_holds_73 rfl (hl.at 0 rfl) ?_
      refine rw_aload_n X dX12_holds_74 rfl (hl.at 1 rfl) ?_
      obtain ⟨v75, e75, hf⟩ := ob hf
      refine rw_getR X dX12_holds_75 fl12_46 e75 rfl hP ?_
      refine lv_iload_n hx hb dX12_holds_78 rfl (hl.at 2 rfl) ?_
      obtain ⟨v79, e79, hf⟩ := ob hf
      refine rw_iald X dX12_holds_79 e79 hP ?_
      refine lv_icmp_le hx hb (tgt := 87) dX12_holds_80 (by decide) (fun c80 => ?_) (fun c80 => ?_)
      · have hf := ifp hf c80
        refine lv_iconst (v := 0) hx hb dX12_holds_87 (by decide) ?_
        cases hf
        exact rw_zret X (by decide) dX12_holds_88 hP
      · have hf := ifn hf c80
        refine lv_iconst (v := 1) hx hb dX12_holds_83 (by decide) ?_
        refine lv_goto (tgt := 88) hx hb dX12_holds_84 (by decide) ?_
        cases hf
        exact rw_zret X (by decide) dX12_holds_88 hP
    · have hf := ifp hf c52
      refine lv_iload_n hx hb dX12_holds_55 rfl (hl.at 0 rfl) ?_
      refine rw_aload_n X dX12_holds_56 rfl (hl.at 1 rfl) ?_
      obtain ⟨v57, e57, hf⟩ := ob hf
      refine rw_getR X dX12_holds_57 fl12_46 e57 rfl hP ?_
      refine lv_iload_n hx hb dX12_holds_60 rfl (hl.at 2 rfl) ?_
      obtain ⟨v61, e61, hf⟩ := ob hf
      refine rw_iald X dX12_holds_61 e61 hP ?_
      refine lv_icmp_ne hx hb (tgt := 69) dX12_holds_62 (by decide) (fun c62 => ?_) (fun c62 => ?_)
      · have hf := ifn hf c62
        refine lv_iconst (v := 0) hx hb dX12_holds_69 (by decide) ?_
        refine lv_goto (tgt := 88) hx hb dX12_holds_70 (by decide) ?_
        cases hf
        exact rw_zret X (by decide) dX12_holds_88 hP
      · have hf := ifp hf c62
        refine lv_iconst (v := 1) hx hb dX12_holds_65 (by decide) ?_
        refine lv_goto (tgt := 88) hx hb dX12_holds_66 (by decide) ?_
        cases hf
        exact rw_zret X (by decide) dX12_holds_88 hP
  · have hf := ifp hf c24
    refine lv_iload_n hx hb dX12_holds_27 rfl (hl.at 0 rfl) ?_
    refine rw_aload_n X dX12_holds_28 rfl (hl.at 1 rfl) ?_
    obtain ⟨v29, e29, hf⟩ := ob hf
    refine rw_getR X dX12_holds_29 fl12_46 e29 rfl hP ?_
    refine lv_iload_n hx hb dX12_holds_32 rfl (hl.at 2 rfl) ?_
    obtain ⟨v33, e33, hf⟩ := ob hf
    refine rw_iald X dX12_holds_33 e33 hP ?_
    refine lv_icmp_ge hx hb (tgt := 41) dX12_holds_34 (by decide) (fun c34 => ?_) (fun c34 => ?_)
    · have hf := ifp hf c34
      refine lv_iconst (v := 0) hx hb dX12_holds_41 (by decide) ?_
      refine lv_goto (tgt := 88) hx hb dX12_holds_42 (by decide) ?_
      cases hf
      exact rw_zret X (by decide) dX12_holds_88 hP
    · have hf := ifn hf c34
      refine lv_iconst (v := 1) hx hb dX12_holds_37 (by decide) ?_
      refine lv_goto (tgt := 88) hx hb dX12_holds_38 (by decide) ?_
      cases hf
      exact rw_zret X (by decide) dX12_holds_88 hP
theorem dX12_tells_0 : decode cX12_tells 0 = .ok (.bipush 59, 2) := by decide +kernel
theorem dX12_tells_2 : decode cX12_tells 2 = .ok (.istore_n 3, 1) := by decide +kernel
theorem dX12_tells_3 : decode cX12_tells 3 = .ok (.iload_n 3, 1) := by decide +kernel
theorem dX12_tells_4 : decode cX12_tells 4 = .ok (.iconst 2, 1) := by decide +kernel
theorem dX12_tells_5 : decode cX12_tells 5 = .ok (.if_icmp .lt 31, 3) := by decide +kernel
theorem dX12_tells_8 : decode cX12_tells 8 = .ok (.aload_n 0, 1) := by decide +kernel
theorem dX12_tells_9 : decode cX12_tells 9 = .ok (.getfield 9, 3) := by decide +kernel
theorem dX12_tells_12 : decode cX12_tells 12 = .ok (.sipush 295, 3) := by decide +kernel
theorem dX12_tells_15 : decode cX12_tells 15 = .ok (.iload_n 3, 1) := by decide +kernel
theorem dX12_tells_16 : decode cX12_tells 16 = .ok (.iadd, 1) := by decide +kernel
theorem dX12_tells_17 : decode cX12_tells 17 = .ok (.aload_n 0, 1) := by decide +kernel
theorem dX12_tells_18 : decode cX12_tells 18 = .ok (.getfield 9, 3) := by decide +kernel
theorem dX12_tells_21 : decode cX12_tells 21 = .ok (.sipush 295, 3) := by decide +kernel
theorem dX12_tells_24 : decode cX12_tells 24 = .ok (.iload_n 3, 1) := by decide +kernel
theorem dX12_tells_25 : decode cX12_tells 25 = .ok (.iadd, 1) := by decide +kernel
theorem dX12_tells_26 : decode cX12_tells 26 = .ok (.iconst 2, 1) := by decide +kernel
theorem dX12_tells_27 : decode cX12_tells 27 = .ok (.isub, 1) := by decide +kernel
theorem dX12_tells_28 : decode cX12_tells 28 = .ok (.iaload, 1) := by decide +kernel
theorem dX12_tells_29 : decode cX12_tells 29 = .ok (.iastore, 1) := by decide +kernel
theorem dX12_tells_30 : decode cX12_tells 30 = .ok (.iinc 3 (-1), 3) := by decide +kernel
theorem dX12_tells_33 : decode cX12_tells 33 = .ok (.goto (-30), 3) := by decide +kernel
theorem dX12_tells_36 : decode cX12_tells 36 = .ok (.aload_n 0, 1) := by decide +kernel
theorem dX12_tells_37 : decode cX12_tells 37 = .ok (.getfield 9, 3) := by decide +kernel
theorem dX12_tells_40 : decode cX12_tells 40 = .ok (.sipush 295, 3) := by decide +kernel
theorem dX12_tells_43 : decode cX12_tells 43 = .ok (.iload_n 1, 1) := by decide +kernel
theorem dX12_tells_44 : decode cX12_tells 44 = .ok (.iastore, 1) := by decide +kernel
theorem dX12_tells_45 : decode cX12_tells 45 = .ok (.aload_n 0, 1) := by decide +kernel
theorem dX12_tells_46 : decode cX12_tells 46 = .ok (.getfield 9, 3) := by decide +kernel
theorem dX12_tells_49 : decode cX12_tells 49 = .ok (.sipush 296, 3) := by decide +kernel
theorem dX12_tells_52 : decode cX12_tells 52 = .ok (.iload_n 2, 1) := by decide +kernel
theorem dX12_tells_53 : decode cX12_tells 53 = .ok (.iastore, 1) := by decide +kernel
theorem dX12_tells_54 : decode cX12_tells 54 = .ok (.aload_n 0, 1) := by decide +kernel
theorem dX12_tells_55 : decode cX12_tells 55 = .ok (.getfield 9, 3) := by decide +kernel
theorem dX12_tells_58 : decode cX12_tells 58 = .ok (.sipush 294, 3) := by decide +kernel
theorem dX12_tells_61 : decode cX12_tells 61 = .ok (.dup2, 1) := by decide +kernel
theorem dX12_tells_62 : decode cX12_tells 62 = .ok (.iaload, 1) := by decide +kernel
theorem dX12_tells_63 : decode cX12_tells 63 = .ok (.aload_n 0, 1) := by decide +kernel
theorem dX12_tells_64 : decode cX12_tells 64 = .ok (.getfield 9, 3) := by decide +kernel
theorem dX12_tells_67 : decode cX12_tells 67 = .ok (.sipush 294, 3) := by decide +kernel
theorem dX12_tells_70 : decode cX12_tells 70 = .ok (.iaload, 1) := by decide +kernel
theorem dX12_tells_71 : decode cX12_tells 71 = .ok (.bipush 30, 2) := by decide +kernel
theorem dX12_tells_73 : decode cX12_tells 73 = .ok (.if_icmp .ge 7, 3) := by decide +kernel
theorem dX12_tells_76 : decode cX12_tells 76 = .ok (.iconst 1, 1) := by decide +kernel
theorem dX12_tells_77 : decode cX12_tells 77 = .ok (.goto 4, 3) := by decide +kernel
theorem dX12_tells_80 : decode cX12_tells 80 = .ok (.iconst 0, 1) := by decide +kernel
theorem dX12_tells_81 : decode cX12_tells 81 = .ok (.iadd, 1) := by decide +kernel
theorem dX12_tells_82 : decode cX12_tells 82 = .ok (.iastore, 1) := by decide +kernel
theorem dX12_tells_83 : decode cX12_tells 83 = .ok (.return_, 1) := by decide +kernel
theorem pyX12_tells : PY yX12_tells 2 := ⟨by decide +kernel, by decide +kernel, by decide +kernel⟩
def fX12_tells_3 (Y : LY) : Nat → HS → Option Nat → Int32 → Int32 → Int32 → Option (HS)
  | 0, _, _, _, _, _ => none
  | n + 1, S, l0, l1, l2, l3 =>
    if l3 < 2 then
      (gR Y 12 1200 l0 S).bind fun v37 =>
      (pA Y 14 v37 295 l1 S).bind fun S44 =>
      (gR Y 12 1200 l0 S44).bind fun v46 =>
      (pA Y 14 v46 296 l2 S44).bind fun S53 =>
      (gR Y 12 1200 l0 S53).bind fun v55 =>
      (gA Y 14 v55 294 S53).bind fun v62 =>
      (gR Y 12 1200 l0 S53).bind fun v64 =>
      (gA Y 14 v64 294 S53).bind fun v70 =>
      if 30 ≤ v70 then
        (pA Y 14 v55 294 (v62 + 0) S53).bind fun S82 =>
        some S82
      else
        (pA Y 14 v55 294 (v62 + 1) S53).bind fun S82 =>
        some S82
    else
      (gR Y 12 1200 l0 S).bind fun v9 =>
      (gR Y 12 1200 l0 S).bind fun v18 =>
      (gA Y 14 v18 ((295 + l3) - 2) S).bind fun v28 =>
      (pA Y 14 v9 (295 + l3) v28 S).bind fun S29 =>
      fX12_tells_3 Y n S29 l0 l1 l2 (l3 + (-1))
set_option maxRecDepth 100000 in
set_option maxHeartbeats 4000000 in
theorem wX12_tells_3 {p : Program} {l : Launch} {e : Env} {R : Room} {s : State} {m : MethodId} {args : Array Value} {below : List Frame} {meth : Method} {c : Code} {G : GG} {Y : LY} {res : HS} (X : Cx p R s m args meth c RX12 cX12_tells 4 0 0 (fun q => q ∈ Y.1) G none) : ∀ (n : Nat) (S : HS) (l0 : Option Nat) (l1 : Int32) (l2 : Int32) (l3 : Int32), fX12_tells_3 Y n S l0 l1 l2 l3 = some res → ∀ (H : Heap) (locs : List Loc) (ls : Array Slot), HP (fun q => q ∈ Y.1) G Y s S H locs → LV ls 4 [(0, va_rf l0), (1, .int l1), (2, .int l2), (3, .int l3)] → W p l e R s m args below meth c H locs 0 0 (MQ below (QI G Y res none) args s 0 0 (fun q => q ∈ Y.1)) (F0 m 3 ls []) := by
  have hx := X.1.1
  have hb := X.1.2.1
  intro n
  induction n with
  | zero =>
    intro S l0 l1 l2 l3 hf
    cases hf
  | succ n ih =>
    intro S l0 l1 l2 l3 hf H locs ls hP hl
    rw [fX12_tells_3] at hf
    refine lv_iload_n hx hb dX12_tells_3 rfl (hl.at 3 rfl) ?_
    refine lv_iconst (v := 2) hx hb dX12_tells_4 (by decide) ?_
    refine lv_icmp_lt hx hb (tgt := 36) dX12_tells_5 (by decide) (fun c5 => ?_) (fun c5 => ?_)
    · have hf := ifp hf c5
      refine rw_aload_n X dX12_tells_36 rfl (hl.at 0 rfl) ?_
      obtain ⟨v37, e37, hf⟩ := ob hf
      refine rw_getR X dX12_tells_37 fl12_9 e37 rfl hP ?_
      refine lv_sipush (v := 295) hx hb dX12_tells_40 (by decide) ?_
      refine lv_iload_n hx hb dX12_tells_43 rfl (hl.at 1 rfl) ?_
      obtain ⟨S44, e44, hf⟩ := ob hf
      refine rw_iast X dX12_tells_44 e44 hP (fun H locs hP => ?_)
      refine rw_aload_n X dX12_tells_45 rfl (hl.at 0 rfl) ?_
      obtain ⟨v46, e46, hf⟩ := ob hf
      refine rw_getR X dX12_tells_46 fl12_9 e46 rfl hP ?_
      refine lv_sipush (v := 296) hx hb dX12_tells_49 (by decide) ?_
      refine lv_iload_n hx hb dX12_tells_52 rfl (hl.at 2 rfl) ?_
      obtain ⟨S53, e53, hf⟩ := ob hf
      refine rw_iast X dX12_tells_53 e53 hP (fun H locs hP => ?_)
      refine rw_aload_n X dX12_tells_54 rfl (hl.at 0 rfl) ?_
      obtain ⟨v55, e55, hf⟩ := ob hf
      refine rw_getR X dX12_tells_55 fl12_9 e55 rfl hP ?_
      refine lv_sipush (v := 294) hx hb dX12_tells_58 (by decide) ?_
      refine lv_dup2_11 hx hb dX12_tells_61 (ci _) (cr _) ?_
      obtain ⟨v62, e62, hf⟩ := ob hf
      refine rw_iald X dX12_tells_62 e62 hP ?_
      refine rw_aload_n X dX12_tells_63 rfl (hl.at 0 rfl) ?_
      obtain ⟨v64, e64, hf⟩ := ob hf
      refine rw_getR X dX12_tells_64 fl12_9 e64 rfl hP ?_
      refine lv_sipush (v := 294) hx hb dX12_tells_67 (by decide) ?_
      obtain ⟨v70, e70, hf⟩ := ob hf
      refine rw_iald X dX12_tells_70 e70 hP ?_
      refine lv_bipush (v := 30) hx hb dX12_tells_71 (by decide) ?_
      refine lv_icmp_ge hx hb (tgt := 80) dX12_tells_73 (by decide) (fun c73 => ?_) (fun c73 => ?_)
      · have hf := ifp hf c73
        refine lv_iconst (v := 0) hx hb dX12_tells_80 (by decide) ?_
        refine lv_iadd hx hb dX12_tells_81 ?_
        obtain ⟨S82, e82, hf⟩ := ob hf
        refine rw_iast X dX12_tells_82 e82 hP (fun H locs hP => ?_)
        cases hf
        exact rw_vret X dX12_tells_83 hP
      · have hf := ifn hf c73
        refine lv_iconst (v := 1) hx hb dX12_tells_76 (by decide) ?_
        refine lv_goto (tgt := 81) hx hb dX12_tells_77 (by decide) ?_
        refine lv_iadd hx hb dX12_tells_81 ?_
        obtain ⟨S82, e82, hf⟩ := ob hf
        refine rw_iast X dX12_tells_82 e82 hP (fun H locs hP => ?_)
        cases hf
        exact rw_vret X dX12_tells_83 hP
    · have hf := ifn hf c5
      refine rw_aload_n X dX12_tells_8 rfl (hl.at 0 rfl) ?_
      obtain ⟨v9, e9, hf⟩ := ob hf
      refine rw_getR X dX12_tells_9 fl12_9 e9 rfl hP ?_
      refine lv_sipush (v := 295) hx hb dX12_tells_12 (by decide) ?_
      refine lv_iload_n hx hb dX12_tells_15 rfl (hl.at 3 rfl) ?_
      refine lv_iadd hx hb dX12_tells_16 ?_
      refine rw_aload_n X dX12_tells_17 rfl (hl.at 0 rfl) ?_
      obtain ⟨v18, e18, hf⟩ := ob hf
      refine rw_getR X dX12_tells_18 fl12_9 e18 rfl hP ?_
      refine lv_sipush (v := 295) hx hb dX12_tells_21 (by decide) ?_
      refine lv_iload_n hx hb dX12_tells_24 rfl (hl.at 3 rfl) ?_
      refine lv_iadd hx hb dX12_tells_25 ?_
      refine lv_iconst (v := 2) hx hb dX12_tells_26 (by decide) ?_
      refine lv_isub hx hb dX12_tells_27 ?_
      obtain ⟨v28, e28, hf⟩ := ob hf
      refine rw_iald X dX12_tells_28 e28 hP ?_
      obtain ⟨S29, e29, hf⟩ := ob hf
      refine rw_iast X dX12_tells_29 e29 hP (fun H locs hP => ?_)
      refine rv_iinc (k := 3) (d := (-1)) X dX12_tells_30 hl rfl (by decide) (by decide) rfl (fun ls hl => ?_)
      have hl : LV ls 4 [(3, .int (l3 + (-1))), (0, va_rf l0), (1, .int l1), (2, .int l2)] := hl
      refine lv_goto (tgt := 3) hx hb dX12_tells_33 (by decide) ?_
      exact ih S29 l0 l1 l2 (l3 + (-1)) hf _ _ _ hP (hl.sub [1, 2, 3, 0] rfl)
def fX12_tells (Y : LY) (S : HS) (l0 : Option Nat) (l1 : Int32) (l2 : Int32) : Option (HS) :=
  fX12_tells_3 Y FU S l0 l1 l2 59
set_option maxRecDepth 100000 in
set_option maxHeartbeats 4000000 in
theorem mX12_tells (l : Launch) {G : GG} {Y : LY} {S : HS} {l0 : Option Nat} {l1 : Int32} {l2 : Int32} {res : HS} (hf : fX12_tells Y S l0 l1 l2 = some res) : MM l yX12_tells cX12_tells 4 none 0 0 G Y S [va_rf l0, .int l1, .int l2] res none := by
  refine mm_of2 (plainFor_of_name (by decide +kernel)) (Nat.le_of_ble_eq_true rfl) (c1c (cr _) (c1c (ci _) (c1c (ci _) c1n))) ?_
  intro p e R s m args below meth c X H locs ls hP hl
  have X : Cx p R s m args meth c RX12 cX12_tells 4 0 0 (fun q => q ∈ Y.1) G none := X
  have hx := X.1.1
  have hb := X.1.2.1
  have hl : LV ls 4 [(0, va_rf l0), (1, .int l1), (2, .int l2)] := hl
  unfold fX12_tells at hf
  refine lv_bipush (v := 59) hx hb dX12_tells_0 (by decide) ?_
  refine rv_istore_n X dX12_tells_2 rfl hl (by decide) rfl (fun ls hl => ?_)
  have hl : LV ls 4 [(3, .int 59), (0, va_rf l0), (1, .int l1), (2, .int l2)] := hl
  exact wX12_tells_3 X FU S l0 l1 l2 59 hf _ _ _ hP (hl.sub [1, 2, 3, 0] rfl)
theorem dX12_ends_0 : decode cX12_ends 0 = .ok (.aload_n 0, 1) := by decide +kernel
theorem dX12_ends_1 : decode cX12_ends 1 = .ok (.getfield 52, 3) := by decide +kernel
theorem dX12_ends_4 : decode cX12_ends 4 = .ok (.iload_n 1, 1) := by decide +kernel
theorem dX12_ends_5 : decode cX12_ends 5 = .ok (.iaload, 1) := by decide +kernel
theorem dX12_ends_6 : decode cX12_ends 6 = .ok (.ifCond .ne 4, 3) := by decide +kernel
theorem dX12_ends_9 : decode cX12_ends 9 = .ok (.return_, 1) := by decide +kernel
theorem dX12_ends_10 : decode cX12_ends 10 = .ok (.aload_n 0, 1) := by decide +kernel
theorem dX12_ends_11 : decode cX12_ends 11 = .ok (.iload_n 1, 1) := by decide +kernel
theorem dX12_ends_12 : decode cX12_ends 12 = .ok (.aload_n 0, 1) := by decide +kernel
theorem dX12_ends_13 : decode cX12_ends 13 = .ok (.getfield 49, 3) := by decide +kernel
theorem dX12_ends_16 : decode cX12_ends 16 = .ok (.iload_n 1, 1) := by decide +kernel
theorem dX12_ends_17 : decode cX12_ends 17 = .ok (.iaload, 1) := by decide +kernel
theorem dX12_ends_18 : decode cX12_ends 18 = .ok (.aload_n 0, 1) := by decide +kernel
theorem dX12_ends_19 : decode cX12_ends 19 = .ok (.getfield 52, 3) := by decide +kernel
theorem dX12_ends_22 : decode cX12_ends 22 = .ok (.iload_n 1, 1) := by decide +kernel
theorem dX12_ends_23 : decode cX12_ends 23 = .ok (.iaload, 1) := by decide +kernel
theorem dX12_ends_24 : decode cX12_ends 24 = .ok (.aload_n 0, 1) := by decide +kernel
theorem dX12_ends_25 : decode cX12_ends 25 = .ok (.getfield 55, 3) := by decide +kernel
theorem dX12_ends_28 : decode cX12_ends 28 = .ok (.iload_n 1, 1) := by decide +kernel
theorem dX12_ends_29 : decode cX12_ends 29 = .ok (.iaload, 1) := by decide +kernel
theorem dX12_ends_30 : decode cX12_ends 30 = .ok (.invokevirtual 164, 3) := by decide +kernel
theorem dX12_ends_33 : decode cX12_ends 33 = .ok (.aload_n 0, 1) := by decide +kernel
theorem dX12_ends_34 : decode cX12_ends 34 = .ok (.getfield 9, 3) := by decide +kernel
theorem dX12_ends_37 : decode cX12_ends 37 = .ok (.sipush 291, 3) := by decide +kernel
theorem dX12_ends_40 : decode cX12_ends 40 = .ok (.dup2, 1) := by decide +kernel
theorem dX12_ends_41 : decode cX12_ends 41 = .ok (.iaload, 1) := by decide +kernel
theorem dX12_ends_42 : decode cX12_ends 42 = .ok (.iconst 1, 1) := by decide +kernel
theorem dX12_ends_43 : decode cX12_ends 43 = .ok (.iadd, 1) := by decide +kernel
theorem dX12_ends_44 : decode cX12_ends 44 = .ok (.iastore, 1) := by decide +kernel
theorem dX12_ends_45 : decode cX12_ends 45 = .ok (.return_, 1) := by decide +kernel
theorem pyX12_ends : PY yX12_ends 1 := ⟨by decide +kernel, by decide +kernel, by decide +kernel⟩
def fX12_ends (Y : LY) (S : HS) (l0 : Option Nat) (l1 : Int32) : Option (HS) :=
  (gR Y 12 1218 l0 S).bind fun v1 =>
  (gA Y 14 v1 l1 S).bind fun v5 =>
  if v5 = 0 then
    some S
  else
    (gR Y 12 1217 l0 S).bind fun v13 =>
    (gA Y 14 v13 l1 S).bind fun v17 =>
    (gR Y 12 1218 l0 S).bind fun v19 =>
    (gA Y 14 v19 l1 S).bind fun v23 =>
    (gR Y 12 1219 l0 S).bind fun v25 =>
    (gA Y 14 v25 l1 S).bind fun v29 =>
    (rcv Y 12 l0).bind fun _ =>
    (fX12_does Y S l0 l1 v17 v23 v29).bind fun S30 =>
    (gR Y 12 1200 l0 S30).bind fun v34 =>
    (gA Y 14 v34 291 S30).bind fun v41 =>
    (pA Y 14 v34 291 (v41 + 1) S30).bind fun S44 =>
    some S44
set_option maxRecDepth 100000 in
set_option maxHeartbeats 4000000 in
theorem mX12_ends (l : Launch) {G : GG} {Y : LY} {S : HS} {l0 : Option Nat} {l1 : Int32} {res : HS} (hf : fX12_ends Y S l0 l1 = some res) : MM l yX12_ends cX12_ends 2 none 2 49 G Y S [va_rf l0, .int l1] res none := by
  refine mm_of2 (plainFor_of_name (by decide +kernel)) (Nat.le_of_ble_eq_true rfl) (c1c (cr _) (c1c (ci _) c1n)) ?_
  intro p e R s m args below meth c X H locs ls hP hl
  have X : Cx p R s m args meth c RX12 cX12_ends 2 2 49 (fun q => q ∈ Y.1) G none := X
  have hx := X.1.1
  have hb := X.1.2.1
  have hl : LV ls 2 [(0, va_rf l0), (1, .int l1)] := hl
  unfold fX12_ends at hf
  refine rw_aload_n X dX12_ends_0 rfl (hl.at 0 rfl) ?_
  obtain ⟨v1, e1, hf⟩ := ob hf
  refine rw_getR X dX12_ends_1 fl12_52 e1 rfl hP ?_
  refine lv_iload_n hx hb dX12_ends_4 rfl (hl.at 1 rfl) ?_
  obtain ⟨v5, e5, hf⟩ := ob hf
  refine rw_iald X dX12_ends_5 e5 hP ?_
  refine lv_if_ne hx hb (tgt := 10) dX12_ends_6 (by decide) (fun c6 => ?_) (fun c6 => ?_)
  · have hf := ifn hf c6
    refine rw_aload_n X dX12_ends_10 rfl (hl.at 0 rfl) ?_
    refine lv_iload_n hx hb dX12_ends_11 rfl (hl.at 1 rfl) ?_
    refine rw_aload_n X dX12_ends_12 rfl (hl.at 0 rfl) ?_
    obtain ⟨v13, e13, hf⟩ := ob hf
    refine rw_getR X dX12_ends_13 fl12_49 e13 rfl hP ?_
    refine lv_iload_n hx hb dX12_ends_16 rfl (hl.at 1 rfl) ?_
    obtain ⟨v17, e17, hf⟩ := ob hf
    refine rw_iald X dX12_ends_17 e17 hP ?_
    refine rw_aload_n X dX12_ends_18 rfl (hl.at 0 rfl) ?_
    obtain ⟨v19, e19, hf⟩ := ob hf
    refine rw_getR X dX12_ends_19 fl12_52 e19 rfl hP ?_
    refine lv_iload_n hx hb dX12_ends_22 rfl (hl.at 1 rfl) ?_
    obtain ⟨v23, e23, hf⟩ := ob hf
    refine rw_iald X dX12_ends_23 e23 hP ?_
    refine rw_aload_n X dX12_ends_24 rfl (hl.at 0 rfl) ?_
    obtain ⟨v25, e25, hf⟩ := ob hf
    refine rw_getR X dX12_ends_25 fl12_55 e25 rfl hP ?_
    refine lv_iload_n hx hb dX12_ends_28 rfl (hl.at 1 rfl) ?_
    obtain ⟨v29, e29, hf⟩ := ob hf
    refine rw_iald X dX12_ends_29 e29 hP ?_
    obtain ⟨u30, r30, hf⟩ := ob hf
    obtain ⟨S30, e30, hf⟩ := ob hf
    refine rw_callVv (As := [.int l1, .int v17, .int v23, .int v29]) X dX12_ends_30 clX12_164 pyX12_does (mX12_does l e30) (by decide) r30 rfl hP rfl (catL c1n (Nat.le_of_ble_eq_true rfl)) hl.1.1 (fun H locs hP => ?_)
    refine rw_aload_n X dX12_ends_33 rfl (hl.at 0 rfl) ?_
    obtain ⟨v34, e34, hf⟩ := ob hf
    refine rw_getR X dX12_ends_34 fl12_9 e34 rfl hP ?_
    refine lv_sipush (v := 291) hx hb dX12_ends_37 (by decide) ?_
    refine lv_dup2_11 hx hb dX12_ends_40 (ci _) (cr _) ?_
    obtain ⟨v41, e41, hf⟩ := ob hf
    refine rw_iald X dX12_ends_41 e41 hP ?_
    refine lv_iconst (v := 1) hx hb dX12_ends_42 (by decide) ?_
    refine lv_iadd hx hb dX12_ends_43 ?_
    obtain ⟨S44, e44, hf⟩ := ob hf
    refine rw_iast X dX12_ends_44 e44 hP (fun H locs hP => ?_)
    cases hf
    exact rw_vret X dX12_ends_45 hP
  · have hf := ifp hf c6
    cases hf
    exact rw_vret X dX12_ends_9 hP
theorem dX12_aborts_0 : decode cX12_aborts 0 = .ok (.iconst 0, 1) := by decide +kernel
theorem dX12_aborts_1 : decode cX12_aborts 1 = .ok (.istore_n 2, 1) := by decide +kernel
theorem dX12_aborts_2 : decode cX12_aborts 2 = .ok (.aload_n 0, 1) := by decide +kernel
theorem dX12_aborts_3 : decode cX12_aborts 3 = .ok (.getfield 37, 3) := by decide +kernel
theorem dX12_aborts_6 : decode cX12_aborts 6 = .ok (.iload_n 1, 1) := by decide +kernel
theorem dX12_aborts_7 : decode cX12_aborts 7 = .ok (.iaload, 1) := by decide +kernel
theorem dX12_aborts_8 : decode cX12_aborts 8 = .ok (.istore_n 3, 1) := by decide +kernel
theorem dX12_aborts_9 : decode cX12_aborts 9 = .ok (.iload_n 3, 1) := by decide +kernel
theorem dX12_aborts_10 : decode cX12_aborts 10 = .ok (.iload_n 1, 1) := by decide +kernel
theorem dX12_aborts_11 : decode cX12_aborts 11 = .ok (.if_icmp .lt 61, 3) := by decide +kernel
theorem dX12_aborts_14 : decode cX12_aborts 14 = .ok (.aload_n 0, 1) := by decide +kernel
theorem dX12_aborts_15 : decode cX12_aborts 15 = .ok (.iload_n 3, 1) := by decide +kernel
theorem dX12_aborts_16 : decode cX12_aborts 16 = .ok (.iconst 0, 1) := by decide +kernel
theorem dX12_aborts_17 : decode cX12_aborts 17 = .ok (.invokevirtual 168, 3) := by decide +kernel
theorem dX12_aborts_20 : decode cX12_aborts 20 = .ok (.ifCond .ne 6, 3) := by decide +kernel
theorem dX12_aborts_23 : decode cX12_aborts 23 = .ok (.goto 43, 3) := by decide +kernel
theorem dX12_aborts_26 : decode cX12_aborts 26 = .ok (.aload_n 0, 1) := by decide +kernel
theorem dX12_aborts_27 : decode cX12_aborts 27 = .ok (.iload_n 3, 1) := by decide +kernel
theorem dX12_aborts_28 : decode cX12_aborts 28 = .ok (.iconst 0, 1) := by decide +kernel
theorem dX12_aborts_29 : decode cX12_aborts 29 = .ok (.iconst 0, 1) := by decide +kernel
theorem dX12_aborts_30 : decode cX12_aborts 30 = .ok (.invokevirtual 171, 3) := by decide +kernel
theorem dX12_aborts_33 : decode cX12_aborts 33 = .ok (.aload_n 0, 1) := by decide +kernel
theorem dX12_aborts_34 : decode cX12_aborts 34 = .ok (.iload_n 3, 1) := by decide +kernel
theorem dX12_aborts_35 : decode cX12_aborts 35 = .ok (.bipush 9, 2) := by decide +kernel
theorem dX12_aborts_37 : decode cX12_aborts 37 = .ok (.invokevirtual 175, 3) := by decide +kernel
theorem dX12_aborts_40 : decode cX12_aborts 40 = .ok (.aload_n 0, 1) := by decide +kernel
theorem dX12_aborts_41 : decode cX12_aborts 41 = .ok (.getfield 9, 3) := by decide +kernel
theorem dX12_aborts_44 : decode cX12_aborts 44 = .ok (.sipush 290, 3) := by decide +kernel
theorem dX12_aborts_47 : decode cX12_aborts 47 = .ok (.dup2, 1) := by decide +kernel
theorem dX12_aborts_48 : decode cX12_aborts 48 = .ok (.iaload, 1) := by decide +kernel
theorem dX12_aborts_49 : decode cX12_aborts 49 = .ok (.iconst 1, 1) := by decide +kernel
theorem dX12_aborts_50 : decode cX12_aborts 50 = .ok (.iadd, 1) := by decide +kernel
theorem dX12_aborts_51 : decode cX12_aborts 51 = .ok (.iastore, 1) := by decide +kernel
theorem dX12_aborts_52 : decode cX12_aborts 52 = .ok (.aload_n 0, 1) := by decide +kernel
theorem dX12_aborts_53 : decode cX12_aborts 53 = .ok (.iload_n 3, 1) := by decide +kernel
theorem dX12_aborts_54 : decode cX12_aborts 54 = .ok (.iconst 4, 1) := by decide +kernel
theorem dX12_aborts_55 : decode cX12_aborts 55 = .ok (.invokevirtual 179, 3) := by decide +kernel
theorem dX12_aborts_58 : decode cX12_aborts 58 = .ok (.aload_n 0, 1) := by decide +kernel
theorem dX12_aborts_59 : decode cX12_aborts 59 = .ok (.iload_n 3, 1) := by decide +kernel
theorem dX12_aborts_60 : decode cX12_aborts 60 = .ok (.invokevirtual 182, 3) := by decide +kernel
theorem dX12_aborts_63 : decode cX12_aborts 63 = .ok (.iinc 2 1, 3) := by decide +kernel
theorem dX12_aborts_66 : decode cX12_aborts 66 = .ok (.iinc 3 (-1), 3) := by decide +kernel
theorem dX12_aborts_69 : decode cX12_aborts 69 = .ok (.goto (-60), 3) := by decide +kernel
theorem dX12_aborts_72 : decode cX12_aborts 72 = .ok (.iload_n 2, 1) := by decide +kernel
theorem dX12_aborts_73 : decode cX12_aborts 73 = .ok (.ireturn, 1) := by decide +kernel
theorem pyX12_aborts : PY yX12_aborts 1 := ⟨by decide +kernel, by decide +kernel, by decide +kernel⟩
def fX12_aborts_9 (Y : LY) : Nat → HS → Option Nat → Int32 → Int32 → Int32 → Option (HS × Int32)
  | 0, _, _, _, _, _ => none
  | n + 1, S, l0, l1, l2, l3 =>
    if l3 < l1 then
      some (S, l2)
    else
      (rcv Y 12 l0).bind fun _ =>
      (fX12_of Y S l0 l3 0).bind fun v17 =>
      if v17 = 0 then
        fX12_aborts_9 Y n S l0 l1 l2 (l3 + (-1))
      else
        (rcv Y 12 l0).bind fun _ =>
        (fX12_sets Y S l0 l3 0 0).bind fun S30 =>
        (rcv Y 12 l0).bind fun _ =>
        (fX12_adds Y S30 l0 l3 9).bind fun S37 =>
        (gR Y 12 1200 l0 S37).bind fun v41 =>
        (gA Y 14 v41 290 S37).bind fun v48 =>
        (pA Y 14 v41 290 (v48 + 1) S37).bind fun S51 =>
        (rcv Y 12 l0).bind fun _ =>
        (fX12_tells Y S51 l0 l3 4).bind fun S55 =>
        (rcv Y 12 l0).bind fun _ =>
        (fX12_ends Y S55 l0 l3).bind fun S60 =>
        fX12_aborts_9 Y n S60 l0 l1 (l2 + 1) (l3 + (-1))
set_option maxRecDepth 100000 in
set_option maxHeartbeats 4000000 in
theorem wX12_aborts_9 {p : Program} {l : Launch} {e : Env} {R : Room} {s : State} {m : MethodId} {args : Array Value} {below : List Frame} {meth : Method} {c : Code} {G : GG} {Y : LY} {res : HS × Int32} (X : Cx p R s m args meth c RX12 cX12_aborts 4 3 70 (fun q => q ∈ Y.1) G (some .int)) : ∀ (n : Nat) (S : HS) (l0 : Option Nat) (l1 : Int32) (l2 : Int32) (l3 : Int32), fX12_aborts_9 Y n S l0 l1 l2 l3 = some res → ∀ (H : Heap) (locs : List Loc) (ls : Array Slot), HP (fun q => q ∈ Y.1) G Y s S H locs → LV ls 4 [(0, va_rf l0), (1, .int l1), (2, .int l2), (3, .int l3)] → W p l e R s m args below meth c H locs 0 0 (MQ below (QI G Y res.1 (some (.int res.2))) args s 0 0 (fun q => q ∈ Y.1)) (F0 m 9 ls []) := by
  have hx := X.1.1
  have hb := X.1.2.1
  intro n
  induction n with
  | zero =>
    intro S l0 l1 l2 l3 hf
    cases hf
  | succ n ih =>
    intro S l0 l1 l2 l3 hf H locs ls hP hl
    rw [fX12_aborts_9] at hf
    refine lv_iload_n hx hb dX12_aborts_9 rfl (hl.at 3 rfl) ?_
    refine lv_iload_n hx hb dX12_aborts_10 rfl (hl.at 1 rfl) ?_
    refine lv_icmp_lt hx hb (tgt := 72) dX12_aborts_11 (by decide) (fun c11 => ?_) (fun c11 => ?_)
    · have hf := ifp hf c11
      refine lv_iload_n hx hb dX12_aborts_72 rfl (hl.at 2 rfl) ?_
      cases hf
      exact rw_iret X dX12_aborts_73 hP
    · have hf := ifn hf c11
      refine rw_aload_n X dX12_aborts_14 rfl (hl.at 0 rfl) ?_
      refine lv_iload_n hx hb dX12_aborts_15 rfl (hl.at 3 rfl) ?_
      refine lv_iconst (v := 0) hx hb dX12_aborts_16 (by decide) ?_
      obtain ⟨u17, r17, hf⟩ := ob hf
      obtain ⟨v17, e17, hf⟩ := ob hf
      refine rw_callVi (As := [.int l3, .int 0]) X dX12_aborts_17 clX12_168 pyX12_of (mX12_of l e17) (by decide) r17 rfl hP rfl (catL c1n (Nat.le_of_ble_eq_true rfl)) hl.1.1 (fun H locs hP => ?_)
      refine lv_if_ne hx hb (tgt := 26) dX12_aborts_20 (by decide) (fun c20 => ?_) (fun c20 => ?_)
      · have hf := ifn hf c20
        refine rw_aload_n X dX12_aborts_26 rfl (hl.at 0 rfl) ?_
        refine lv_iload_n hx hb dX12_aborts_27 rfl (hl.at 3 rfl) ?_
        refine lv_iconst (v := 0) hx hb dX12_aborts_28 (by decide) ?_
        refine lv_iconst (v := 0) hx hb dX12_aborts_29 (by decide) ?_
        obtain ⟨u30, r30, hf⟩ := ob hf
        obtain ⟨S30, e30, hf⟩ := ob hf
        refine rw_callVv (As := [.int l3, .int 0, .int 0]) X dX12_aborts_30 clX12_171 pyX12_sets (mX12_sets l e30) (by decide) r30 rfl hP rfl (catL c1n (Nat.le_of_ble_eq_true rfl)) hl.1.1 (fun H locs hP => ?_)
        refine rw_aload_n X dX12_aborts_33 rfl (hl.at 0 rfl) ?_
        refine lv_iload_n hx hb dX12_aborts_34 rfl (hl.at 3 rfl) ?_
        refine lv_bipush (v := 9) hx hb dX12_aborts_35 (by decide) ?_
        obtain ⟨u37, r37, hf⟩ := ob hf
        obtain ⟨S37, e37, hf⟩ := ob hf
        refine rw_callVv (As := [.int l3, .int 9]) X dX12_aborts_37 clX12_175 pyX12_adds (mX12_adds l e37) (by decide) r37 rfl hP rfl (catL c1n (Nat.le_of_ble_eq_true rfl)) hl.1.1 (fun H locs hP => ?_)
        refine rw_aload_n X dX12_aborts_40 rfl (hl.at 0 rfl) ?_
        obtain ⟨v41, e41, hf⟩ := ob hf
        refine rw_getR X dX12_aborts_41 fl12_9 e41 rfl hP ?_
        refine lv_sipush (v := 290) hx hb dX12_aborts_44 (by decide) ?_
        refine lv_dup2_11 hx hb dX12_aborts_47 (ci _) (cr _) ?_
        obtain ⟨v48, e48, hf⟩ := ob hf
        refine rw_iald X dX12_aborts_48 e48 hP ?_
        refine lv_iconst (v := 1) hx hb dX12_aborts_49 (by decide) ?_
        refine lv_iadd hx hb dX12_aborts_50 ?_
        obtain ⟨S51, e51, hf⟩ := ob hf
        refine rw_iast X dX12_aborts_51 e51 hP (fun H locs hP => ?_)
        refine rw_aload_n X dX12_aborts_52 rfl (hl.at 0 rfl) ?_
        refine lv_iload_n hx hb dX12_aborts_53 rfl (hl.at 3 rfl) ?_
        refine lv_iconst (v := 4) hx hb dX12_aborts_54 (by decide) ?_
        obtain ⟨u55, r55, hf⟩ := ob hf
        obtain ⟨S55, e55, hf⟩ := ob hf
        refine rw_callVv (As := [.int l3, .int 4]) X dX12_aborts_55 clX12_179 pyX12_tells (mX12_tells l e55) (by decide) r55 rfl hP rfl (catL c1n (Nat.le_of_ble_eq_true rfl)) hl.1.1 (fun H locs hP => ?_)
        refine rw_aload_n X dX12_aborts_58 rfl (hl.at 0 rfl) ?_
        refine lv_iload_n hx hb dX12_aborts_59 rfl (hl.at 3 rfl) ?_
        obtain ⟨u60, r60, hf⟩ := ob hf
        obtain ⟨S60, e60, hf⟩ := ob hf
        refine rw_callVv (As := [.int l3]) X dX12_aborts_60 clX12_182 pyX12_ends (mX12_ends l e60) (by decide) r60 rfl hP rfl (catL c1n (Nat.le_of_ble_eq_true rfl)) hl.1.1 (fun H locs hP => ?_)
        refine rv_iinc (k := 2) (d := 1) X dX12_aborts_63 hl rfl (by decide) (by decide) rfl (fun ls hl => ?_)
        have hl : LV ls 4 [(2, .int (l2 + 1)), (0, va_rf l0), (1, .int l1), (3, .int l3)] := hl
        refine rv_iinc (k := 3) (d := (-1)) X dX12_aborts_66 hl rfl (by decide) (by decide) rfl (fun ls hl => ?_)
        have hl : LV ls 4 [(3, .int (l3 + (-1))), (2, .int (l2 + 1)), (0, va_rf l0), (1, .int l1)] := hl
        refine lv_goto (tgt := 9) hx hb dX12_aborts_69 (by decide) ?_
        exact ih S60 l0 l1 (l2 + 1) (l3 + (-1)) hf _ _ _ hP (hl.sub [2, 3, 1, 0] rfl)
      · have hf := ifp hf c20
        refine lv_goto (tgt := 66) hx hb dX12_aborts_23 (by decide) ?_
        refine rv_iinc (k := 3) (d := (-1)) X dX12_aborts_66 hl rfl (by decide) (by decide) rfl (fun ls hl => ?_)
        have hl : LV ls 4 [(3, .int (l3 + (-1))), (0, va_rf l0), (1, .int l1), (2, .int l2)] := hl
        refine lv_goto (tgt := 9) hx hb dX12_aborts_69 (by decide) ?_
        exact ih S l0 l1 l2 (l3 + (-1)) hf _ _ _ hP (hl.sub [1, 2, 3, 0] rfl)
def fX12_aborts (Y : LY) (S : HS) (l0 : Option Nat) (l1 : Int32) : Option (HS × Int32) :=
  (gR Y 12 1213 l0 S).bind fun v3 =>
  (gA Y 14 v3 l1 S).bind fun v7 =>
  fX12_aborts_9 Y FU S l0 l1 0 v7
set_option maxRecDepth 100000 in
set_option maxHeartbeats 4000000 in
theorem mX12_aborts (l : Launch) {G : GG} {Y : LY} {S : HS} {l0 : Option Nat} {l1 : Int32} {res : HS × Int32} (hf : fX12_aborts Y S l0 l1 = some res) : MM l yX12_aborts cX12_aborts 4 (some .int) 3 70 G Y S [va_rf l0, .int l1] res.1 (some (.int res.2)) := by
  refine mm_of2 (plainFor_of_name (by decide +kernel)) (Nat.le_of_ble_eq_true rfl) (c1c (cr _) (c1c (ci _) c1n)) ?_
  intro p e R s m args below meth c X H locs ls hP hl
  have X : Cx p R s m args meth c RX12 cX12_aborts 4 3 70 (fun q => q ∈ Y.1) G (some .int) := X
  have hx := X.1.1
  have hb := X.1.2.1
  have hl : LV ls 4 [(0, va_rf l0), (1, .int l1)] := hl
  unfold fX12_aborts at hf
  refine lv_iconst (v := 0) hx hb dX12_aborts_0 (by decide) ?_
  refine rv_istore_n X dX12_aborts_1 rfl hl (by decide) rfl (fun ls hl => ?_)
  have hl : LV ls 4 [(2, .int 0), (0, va_rf l0), (1, .int l1)] := hl
  refine rw_aload_n X dX12_aborts_2 rfl (hl.at 1 rfl) ?_
  obtain ⟨v3, e3, hf⟩ := ob hf
  refine rw_getR X dX12_aborts_3 fl12_37 e3 rfl hP ?_
  refine lv_iload_n hx hb dX12_aborts_6 rfl (hl.at 2 rfl) ?_
  obtain ⟨v7, e7, hf⟩ := ob hf
  refine rw_iald X dX12_aborts_7 e7 hP ?_
  refine rv_istore_n X dX12_aborts_8 rfl hl (by decide) rfl (fun ls hl => ?_)
  have hl : LV ls 4 [(3, .int v7), (2, .int 0), (0, va_rf l0), (1, .int l1)] := hl
  exact wX12_aborts_9 X FU S l0 l1 0 v7 hf _ _ _ hP (hl.sub [2, 3, 1, 0] rfl)
theorem dX12_childOf_0 : decode cX12_childOf 0 = .ok (.iload_n 1, 1) := by decide +kernel
theorem dX12_childOf_1 : decode cX12_childOf 1 = .ok (.iconst 1, 1) := by decide +kernel
theorem dX12_childOf_2 : decode cX12_childOf 2 = .ok (.iadd, 1) := by decide +kernel
theorem dX12_childOf_3 : decode cX12_childOf 3 = .ok (.istore_n 3, 1) := by decide +kernel
theorem dX12_childOf_4 : decode cX12_childOf 4 = .ok (.iconst 0, 1) := by decide +kernel
theorem dX12_childOf_5 : decode cX12_childOf 5 = .ok (.istore 4, 2) := by decide +kernel
theorem dX12_childOf_7 : decode cX12_childOf 7 = .ok (.iload 4, 2) := by decide +kernel
theorem dX12_childOf_9 : decode cX12_childOf 9 = .ok (.iload_n 2, 1) := by decide +kernel
theorem dX12_childOf_10 : decode cX12_childOf 10 = .ok (.if_icmp .ge 28, 3) := by decide +kernel
theorem dX12_childOf_13 : decode cX12_childOf 13 = .ok (.iload_n 3, 1) := by decide +kernel
theorem dX12_childOf_14 : decode cX12_childOf 14 = .ok (.aload_n 0, 1) := by decide +kernel
theorem dX12_childOf_15 : decode cX12_childOf 15 = .ok (.getfield 37, 3) := by decide +kernel
theorem dX12_childOf_18 : decode cX12_childOf 18 = .ok (.iload_n 1, 1) := by decide +kernel
theorem dX12_childOf_19 : decode cX12_childOf 19 = .ok (.iaload, 1) := by decide +kernel
theorem dX12_childOf_20 : decode cX12_childOf 20 = .ok (.if_icmp .gt 18, 3) := by decide +kernel
theorem dX12_childOf_23 : decode cX12_childOf 23 = .ok (.aload_n 0, 1) := by decide +kernel
theorem dX12_childOf_24 : decode cX12_childOf 24 = .ok (.getfield 37, 3) := by decide +kernel
theorem dX12_childOf_27 : decode cX12_childOf 27 = .ok (.iload_n 3, 1) := by decide +kernel
theorem dX12_childOf_28 : decode cX12_childOf 28 = .ok (.iaload, 1) := by decide +kernel
theorem dX12_childOf_29 : decode cX12_childOf 29 = .ok (.iconst 1, 1) := by decide +kernel
theorem dX12_childOf_30 : decode cX12_childOf 30 = .ok (.iadd, 1) := by decide +kernel
theorem dX12_childOf_31 : decode cX12_childOf 31 = .ok (.istore_n 3, 1) := by decide +kernel
theorem dX12_childOf_32 : decode cX12_childOf 32 = .ok (.iinc 4 1, 3) := by decide +kernel
theorem dX12_childOf_35 : decode cX12_childOf 35 = .ok (.goto (-28), 3) := by decide +kernel
theorem dX12_childOf_38 : decode cX12_childOf 38 = .ok (.iload_n 3, 1) := by decide +kernel
theorem dX12_childOf_39 : decode cX12_childOf 39 = .ok (.aload_n 0, 1) := by decide +kernel
theorem dX12_childOf_40 : decode cX12_childOf 40 = .ok (.getfield 37, 3) := by decide +kernel
theorem dX12_childOf_43 : decode cX12_childOf 43 = .ok (.iload_n 1, 1) := by decide +kernel
theorem dX12_childOf_44 : decode cX12_childOf 44 = .ok (.iaload, 1) := by decide +kernel
theorem dX12_childOf_45 : decode cX12_childOf 45 = .ok (.if_icmp .gt 17, 3) := by decide +kernel
theorem dX12_childOf_48 : decode cX12_childOf 48 = .ok (.aload_n 0, 1) := by decide +kernel
theorem dX12_childOf_49 : decode cX12_childOf 49 = .ok (.getfield 25, 3) := by decide +kernel
theorem dX12_childOf_52 : decode cX12_childOf 52 = .ok (.iload_n 1, 1) := by decide +kernel
theorem dX12_childOf_53 : decode cX12_childOf 53 = .ok (.iaload, 1) := by decide +kernel
theorem dX12_childOf_54 : decode cX12_childOf 54 = .ok (.iconst 3, 1) := by decide +kernel
theorem dX12_childOf_55 : decode cX12_childOf 55 = .ok (.if_icmp .le 7, 3) := by decide +kernel
theorem dX12_childOf_58 : decode cX12_childOf 58 = .ok (.iload_n 3, 1) := by decide +kernel
theorem dX12_childOf_59 : decode cX12_childOf 59 = .ok (.goto 4, 3) := by decide +kernel
theorem dX12_childOf_62 : decode cX12_childOf 62 = .ok (.iconst (-1), 1) := by decide +kernel
theorem dX12_childOf_63 : decode cX12_childOf 63 = .ok (.ireturn, 1) := by decide +kernel
theorem pyX12_childOf : PY yX12_childOf 2 := ⟨by decide +kernel, by decide +kernel, by decide +kernel⟩
def fX12_childOf_38 (Y : LY) (S : HS) (l0 : Option Nat) (l1 : Int32) (l3 : Int32) : Option (Int32) :=
  (gR Y 12 1213 l0 S).bind fun v40 =>
  (gA Y 14 v40 l1 S).bind fun v44 =>
  if v44 < l3 then
    some (-1)
  else
    (gR Y 12 1209 l0 S).bind fun v49 =>
    (gA Y 14 v49 l1 S).bind fun v53 =>
    if v53 ≤ 3 then
      some (-1)
    else
      some l3
set_option maxRecDepth 100000 in
set_option maxHeartbeats 4000000 in
theorem wX12_childOf_38 {p : Program} {l : Launch} {e : Env} {R : Room} {s : State} {m : MethodId} {args : Array Value} {below : List Frame} {meth : Method} {c : Code} {G : GG} {Y : LY} {S : HS} {res : Int32} (X : Cx p R s m args meth c RX12 cX12_childOf 5 0 0 (fun q => q ∈ Y.1) G (some .int)) : ∀ (l0 : Option Nat) (l1 : Int32) (l3 : Int32), fX12_childOf_38 Y S l0 l1 l3 = some res → ∀ (H : Heap) (locs : List Loc) (ls : Array Slot), HP (fun q => q ∈ Y.1) G Y s S H locs → LV ls 5 [(0, va_rf l0), (1, .int l1), (3, .int l3)] → W p l e R s m args below meth c H locs 0 0 (MQ below (QI G Y S (some (.int res))) args s 0 0 (fun q => q ∈ Y.1)) (F0 m 38 ls []) := by
  have hx := X.1.1
  have hb := X.1.2.1
  intro l0 l1 l3 hf H locs ls hP hl
  unfold fX12_childOf_38 at hf
  refine lv_iload_n hx hb dX12_childOf_38 rfl (hl.at 2 rfl) ?_
  refine rw_aload_n X dX12_childOf_39 rfl (hl.at 0 rfl) ?_
  obtain ⟨v40, e40, hf⟩ := ob hf
  refine rw_getR X dX12_childOf_40 fl12_37 e40 rfl hP ?_
  refine lv_iload_n hx hb dX12_childOf_43 rfl (hl.at 1 rfl) ?_
  obtain ⟨v44, e44, hf⟩ := ob hf
  refine rw_iald X dX12_childOf_44 e44 hP ?_
  refine lv_icmp_gt hx hb (tgt := 62) dX12_childOf_45 (by decide) (fun c45 => ?_) (fun c45 => ?_)
  · have hf := ifp hf c45
    refine lv_iconst (v := (-1)) hx hb dX12_childOf_62 (by decide) ?_
    cases hf
    exact rw_iret X dX12_childOf_63 hP
  · have hf := ifn hf c45
    refine rw_aload_n X dX12_childOf_48 rfl (hl.at 0 rfl) ?_
    obtain ⟨v49, e49, hf⟩ := ob hf
    refine rw_getR X dX12_childOf_49 fl12_25 e49 rfl hP ?_
    refine lv_iload_n hx hb dX12_childOf_52 rfl (hl.at 1 rfl) ?_
    obtain ⟨v53, e53, hf⟩ := ob hf
    refine rw_iald X dX12_childOf_53 e53 hP ?_
    refine lv_iconst (v := 3) hx hb dX12_childOf_54 (by decide) ?_
    refine lv_icmp_le hx hb (tgt := 62) dX12_childOf_55 (by decide) (fun c55 => ?_) (fun c55 => ?_)
    · have hf := ifp hf c55
      refine lv_iconst (v := (-1)) hx hb dX12_childOf_62 (by decide) ?_
      cases hf
      exact rw_iret X dX12_childOf_63 hP
    · have hf := ifn hf c55
      refine lv_iload_n hx hb dX12_childOf_58 rfl (hl.at 2 rfl) ?_
      refine lv_goto (tgt := 63) hx hb dX12_childOf_59 (by decide) ?_
      cases hf
      exact rw_iret X dX12_childOf_63 hP
def fX12_childOf_7 (Y : LY) (S : HS) : Nat → Option Nat → Int32 → Int32 → Int32 → Int32 → Option (Int32)
  | 0, _, _, _, _, _ => none
  | n + 1, l0, l1, l2, l3, l4 =>
    if l2 ≤ l4 then
      fX12_childOf_38 Y S l0 l1 l3
    else
      (gR Y 12 1213 l0 S).bind fun v15 =>
      (gA Y 14 v15 l1 S).bind fun v19 =>
      if v19 < l3 then
        fX12_childOf_38 Y S l0 l1 l3
      else
        (gR Y 12 1213 l0 S).bind fun v24 =>
        (gA Y 14 v24 l3 S).bind fun v28 =>
        fX12_childOf_7 Y S n l0 l1 l2 (v28 + 1) (l4 + 1)
set_option maxRecDepth 100000 in
set_option maxHeartbeats 4000000 in
theorem wX12_childOf_7 {p : Program} {l : Launch} {e : Env} {R : Room} {s : State} {m : MethodId} {args : Array Value} {below : List Frame} {meth : Method} {c : Code} {G : GG} {Y : LY} {S : HS} {res : Int32} (X : Cx p R s m args meth c RX12 cX12_childOf 5 0 0 (fun q => q ∈ Y.1) G (some .int)) : ∀ (n : Nat) (l0 : Option Nat) (l1 : Int32) (l2 : Int32) (l3 : Int32) (l4 : Int32), fX12_childOf_7 Y S n l0 l1 l2 l3 l4 = some res → ∀ (H : Heap) (locs : List Loc) (ls : Array Slot), HP (fun q => q ∈ Y.1) G Y s S H locs → LV ls 5 [(0, va_rf l0), (1, .int l1), (2, .int l2), (3, .int l3), (4, .int l4)] → W p l e R s m args below meth c H locs 0 0 (MQ below (QI G Y S (some (.int res))) args s 0 0 (fun q => q ∈ Y.1)) (F0 m 7 ls []) := by
  have hx := X.1.1
  have hb := X.1.2.1
  intro n
  induction n with
  | zero =>
    intro l0 l1 l2 l3 l4 hf
    cases hf
  | succ n ih =>
    intro l0 l1 l2 l3 l4 hf H locs ls hP hl
    rw [fX12_childOf_7] at hf
    refine lv_iload hx hb dX12_childOf_7 (hl.at 4 rfl) ?_
    refine lv_iload_n hx hb dX12_childOf_9 rfl (hl.at 2 rfl) ?_
    refine lv_icmp_ge hx hb (tgt := 38) dX12_childOf_10 (by decide) (fun c10 => ?_) (fun c10 => ?_)
    · have hf := ifp hf c10
      exact wX12_childOf_38 X l0 l1 l3 hf _ _ _ hP (hl.sub [0, 1, 3] rfl)
    · have hf := ifn hf c10
      refine lv_iload_n hx hb dX12_childOf_13 rfl (hl.at 3 rfl) ?_
      refine rw_aload_n X dX12_childOf_14 rfl (hl.at 0 rfl) ?_
      obtain ⟨v15, e15, hf⟩ := ob hf
      refine rw_getR X dX12_childOf_15 fl12_37 e15 rfl hP ?_
      refine lv_iload_n hx hb dX12_childOf_18 rfl (hl.at 1 rfl) ?_
      obtain ⟨v19, e19, hf⟩ := ob hf
      refine rw_iald X dX12_childOf_19 e19 hP ?_
      refine lv_icmp_gt hx hb (tgt := 38) dX12_childOf_20 (by decide) (fun c20 => ?_) (fun c20 => ?_)
      · have hf := ifp hf c20
        exact wX12_childOf_38 X l0 l1 l3 hf _ _ _ hP (hl.sub [0, 1, 3] rfl)
      · have hf := ifn hf c20
        refine rw_aload_n X dX12_childOf_23 rfl (hl.at 0 rfl) ?_
        obtain ⟨v24, e24, hf⟩ := ob hf
        refine rw_getR X dX12_childOf_24 fl12_37 e24 rfl hP ?_
        refine lv_iload_n hx hb dX12_childOf_27 rfl (hl.at 3 rfl) ?_
        obtain ⟨v28, e28, hf⟩ := ob hf
        refine rw_iald X dX12_childOf_28 e28 hP ?_
        refine lv_iconst (v := 1) hx hb dX12_childOf_29 (by decide) ?_
        refine lv_iadd hx hb dX12_childOf_30 ?_
        refine rv_istore_n X dX12_childOf_31 rfl hl (by decide) rfl (fun ls hl => ?_)
        have hl : LV ls 5 [(3, .int (v28 + 1)), (0, va_rf l0), (1, .int l1), (2, .int l2), (4, .int l4)] := hl
        refine rv_iinc (k := 4) (d := 1) X dX12_childOf_32 hl rfl (by decide) (by decide) rfl (fun ls hl => ?_)
        have hl : LV ls 5 [(4, .int (l4 + 1)), (3, .int (v28 + 1)), (0, va_rf l0), (1, .int l1), (2, .int l2)] := hl
        refine lv_goto (tgt := 7) hx hb dX12_childOf_35 (by decide) ?_
        exact ih l0 l1 l2 (v28 + 1) (l4 + 1) hf _ _ _ hP (hl.sub [2, 3, 4, 1, 0] rfl)
def fX12_childOf (Y : LY) (S : HS) (l0 : Option Nat) (l1 : Int32) (l2 : Int32) : Option (Int32) :=
  fX12_childOf_7 Y S FU l0 l1 l2 (l1 + 1) 0
set_option maxRecDepth 100000 in
set_option maxHeartbeats 4000000 in
theorem mX12_childOf (l : Launch) {G : GG} {Y : LY} {S : HS} {l0 : Option Nat} {l1 : Int32} {l2 : Int32} {res : Int32} (hf : fX12_childOf Y S l0 l1 l2 = some res) : MM l yX12_childOf cX12_childOf 5 (some .int) 0 0 G Y S [va_rf l0, .int l1, .int l2] S (some (.int res)) := by
  refine mm_of2 (plainFor_of_name (by decide +kernel)) (Nat.le_of_ble_eq_true rfl) (c1c (cr _) (c1c (ci _) (c1c (ci _) c1n))) ?_
  intro p e R s m args below meth c X H locs ls hP hl
  have X : Cx p R s m args meth c RX12 cX12_childOf 5 0 0 (fun q => q ∈ Y.1) G (some .int) := X
  have hx := X.1.1
  have hb := X.1.2.1
  have hl : LV ls 5 [(0, va_rf l0), (1, .int l1), (2, .int l2)] := hl
  unfold fX12_childOf at hf
  refine lv_iload_n hx hb dX12_childOf_0 rfl (hl.at 1 rfl) ?_
  refine lv_iconst (v := 1) hx hb dX12_childOf_1 (by decide) ?_
  refine lv_iadd hx hb dX12_childOf_2 ?_
  refine rv_istore_n X dX12_childOf_3 rfl hl (by decide) rfl (fun ls hl => ?_)
  have hl : LV ls 5 [(3, .int (l1 + 1)), (0, va_rf l0), (1, .int l1), (2, .int l2)] := hl
  refine lv_iconst (v := 0) hx hb dX12_childOf_4 (by decide) ?_
  refine rv_istore X dX12_childOf_5 hl (by decide) rfl (fun ls hl => ?_)
  have hl : LV ls 5 [(4, .int 0), (3, .int (l1 + 1)), (0, va_rf l0), (1, .int l1), (2, .int l2)] := hl
  exact wX12_childOf_7 X FU l0 l1 l2 (l1 + 1) 0 hf _ _ _ hP (hl.sub [2, 3, 4, 1, 0] rfl)
theorem dX12_children_0 : decode cX12_children 0 = .ok (.iconst 0, 1) := by decide +kernel
theorem dX12_children_1 : decode cX12_children 1 = .ok (.istore_n 2, 1) := by decide +kernel
theorem dX12_children_2 : decode cX12_children 2 = .ok (.aload_n 0, 1) := by decide +kernel
theorem dX12_children_3 : decode cX12_children 3 = .ok (.iload_n 1, 1) := by decide +kernel
theorem dX12_children_4 : decode cX12_children 4 = .ok (.iload_n 2, 1) := by decide +kernel
theorem dX12_children_5 : decode cX12_children 5 = .ok (.invokevirtual 185, 3) := by decide +kernel
theorem dX12_children_8 : decode cX12_children 8 = .ok (.ifCond .lt 9, 3) := by decide +kernel
theorem dX12_children_11 : decode cX12_children 11 = .ok (.iinc 2 1, 3) := by decide +kernel
theorem dX12_children_14 : decode cX12_children 14 = .ok (.goto (-12), 3) := by decide +kernel
theorem dX12_children_17 : decode cX12_children 17 = .ok (.iload_n 2, 1) := by decide +kernel
theorem dX12_children_18 : decode cX12_children 18 = .ok (.ireturn, 1) := by decide +kernel
theorem pyX12_children : PY yX12_children 1 := ⟨by decide +kernel, by decide +kernel, by decide +kernel⟩
def fX12_children_2 (Y : LY) (S : HS) : Nat → Option Nat → Int32 → Int32 → Option (Int32)
  | 0, _, _, _ => none
  | n + 1, l0, l1, l2 =>
    (rcv Y 12 l0).bind fun _ =>
    (fX12_childOf Y S l0 l1 l2).bind fun v5 =>
    if v5 < 0 then
      some l2
    else
      fX12_children_2 Y S n l0 l1 (l2 + 1)
set_option maxRecDepth 100000 in
set_option maxHeartbeats 4000000 in
theorem wX12_children_2 {p : Program} {l : Launch} {e : Env} {R : Room} {s : State} {m : MethodId} {args : Array Value} {below : List Frame} {meth : Method} {c : Code} {G : GG} {Y : LY} {S : HS} {res : Int32} (X : Cx p R s m args meth c RX12 cX12_children 3 1 24 (fun q => q ∈ Y.1) G (some .int)) : ∀ (n : Nat) (l0 : Option Nat) (l1 : Int32) (l2 : Int32), fX12_children_2 Y S n l0 l1 l2 = some res → ∀ (H : Heap) (locs : List Loc) (ls : Array Slot), HP (fun q => q ∈ Y.1) G Y s S H locs → LV ls 3 [(0, va_rf l0), (1, .int l1), (2, .int l2)] → W p l e R s m args below meth c H locs 0 0 (MQ below (QI G Y S (some (.int res))) args s 0 0 (fun q => q ∈ Y.1)) (F0 m 2 ls []) := by
  have hx := X.1.1
  have hb := X.1.2.1
  intro n
  induction n with
  | zero =>
    intro l0 l1 l2 hf
    cases hf
  | succ n ih =>
    intro l0 l1 l2 hf H locs ls hP hl
    rw [fX12_children_2] at hf
    refine rw_aload_n X dX12_children_2 rfl (hl.at 0 rfl) ?_
    refine lv_iload_n hx hb dX12_children_3 rfl (hl.at 1 rfl) ?_
    refine lv_iload_n hx hb dX12_children_4 rfl (hl.at 2 rfl) ?_
    obtain ⟨u5, r5, hf⟩ := ob hf
    obtain ⟨v5, e5, hf⟩ := ob hf
    refine rw_callVi (As := [.int l1, .int l2]) X dX12_children_5 clX12_185 pyX12_childOf (mX12_childOf l e5) (by decide) r5 rfl hP rfl (catL c1n (Nat.le_of_ble_eq_true rfl)) hl.1.1 (fun H locs hP => ?_)
    refine lv_if_lt hx hb (tgt := 17) dX12_children_8 (by decide) (fun c8 => ?_) (fun c8 => ?_)
    · have hf := ifp hf c8
      refine lv_iload_n hx hb dX12_children_17 rfl (hl.at 2 rfl) ?_
      cases hf
      exact rw_iret X dX12_children_18 hP
    · have hf := ifn hf c8
      refine rv_iinc (k := 2) (d := 1) X dX12_children_11 hl rfl (by decide) (by decide) rfl (fun ls hl => ?_)
      have hl : LV ls 3 [(2, .int (l2 + 1)), (0, va_rf l0), (1, .int l1)] := hl
      refine lv_goto (tgt := 2) hx hb dX12_children_14 (by decide) ?_
      exact ih l0 l1 (l2 + 1) hf _ _ _ hP (hl.sub [1, 2, 0] rfl)
def fX12_children (Y : LY) (S : HS) (l0 : Option Nat) (l1 : Int32) : Option (Int32) :=
  fX12_children_2 Y S FU l0 l1 0
set_option maxRecDepth 100000 in
set_option maxHeartbeats 4000000 in
theorem mX12_children (l : Launch) {G : GG} {Y : LY} {S : HS} {l0 : Option Nat} {l1 : Int32} {res : Int32} (hf : fX12_children Y S l0 l1 = some res) : MM l yX12_children cX12_children 3 (some .int) 1 24 G Y S [va_rf l0, .int l1] S (some (.int res)) := by
  refine mm_of2 (plainFor_of_name (by decide +kernel)) (Nat.le_of_ble_eq_true rfl) (c1c (cr _) (c1c (ci _) c1n)) ?_
  intro p e R s m args below meth c X H locs ls hP hl
  have X : Cx p R s m args meth c RX12 cX12_children 3 1 24 (fun q => q ∈ Y.1) G (some .int) := X
  have hx := X.1.1
  have hb := X.1.2.1
  have hl : LV ls 3 [(0, va_rf l0), (1, .int l1)] := hl
  unfold fX12_children at hf
  refine lv_iconst (v := 0) hx hb dX12_children_0 (by decide) ?_
  refine rv_istore_n X dX12_children_1 rfl hl (by decide) rfl (fun ls hl => ?_)
  have hl : LV ls 3 [(2, .int 0), (0, va_rf l0), (1, .int l1)] := hl
  exact wX12_children_2 X FU l0 l1 0 hf _ _ _ hP (hl.sub [1, 2, 0] rfl)
theorem dX12_acts_0 : decode cX12_acts 0 = .ok (.aload_n 0, 1) := by decide +kernel
theorem dX12_acts_1 : decode cX12_acts 1 = .ok (.iload_n 1, 1) := by decide +kernel
theorem dX12_acts_2 : decode cX12_acts 2 = .ok (.iconst 1, 1) := by decide +kernel
theorem dX12_acts_3 : decode cX12_acts 3 = .ok (.invokevirtual 168, 3) := by decide +kernel
theorem dX12_acts_6 : decode cX12_acts 6 = .ok (.aload_n 0, 1) := by decide +kernel
theorem dX12_acts_7 : decode cX12_acts 7 = .ok (.getfield 28, 3) := by decide +kernel
theorem dX12_acts_10 : decode cX12_acts 10 = .ok (.iload_n 1, 1) := by decide +kernel
theorem dX12_acts_11 : decode cX12_acts 11 = .ok (.iaload, 1) := by decide +kernel
theorem dX12_acts_12 : decode cX12_acts 12 = .ok (.if_icmp .ge 11, 3) := by decide +kernel
theorem dX12_acts_15 : decode cX12_acts 15 = .ok (.aload_n 0, 1) := by decide +kernel
theorem dX12_acts_16 : decode cX12_acts 16 = .ok (.iload_n 1, 1) := by decide +kernel
theorem dX12_acts_17 : decode cX12_acts 17 = .ok (.iconst 1, 1) := by decide +kernel
theorem dX12_acts_18 : decode cX12_acts 18 = .ok (.invokevirtual 175, 3) := by decide +kernel
theorem dX12_acts_21 : decode cX12_acts 21 = .ok (.iconst 1, 1) := by decide +kernel
theorem dX12_acts_22 : decode cX12_acts 22 = .ok (.ireturn, 1) := by decide +kernel
theorem dX12_acts_23 : decode cX12_acts 23 = .ok (.aload_n 0, 1) := by decide +kernel
theorem dX12_acts_24 : decode cX12_acts 24 = .ok (.getfield 43, 3) := by decide +kernel
theorem dX12_acts_27 : decode cX12_acts 27 = .ok (.iload_n 1, 1) := by decide +kernel
theorem dX12_acts_28 : decode cX12_acts 28 = .ok (.iaload, 1) := by decide +kernel
theorem dX12_acts_29 : decode cX12_acts 29 = .ok (.ifCond .le 26, 3) := by decide +kernel
theorem dX12_acts_32 : decode cX12_acts 32 = .ok (.aload_n 0, 1) := by decide +kernel
theorem dX12_acts_33 : decode cX12_acts 33 = .ok (.iload_n 1, 1) := by decide +kernel
theorem dX12_acts_34 : decode cX12_acts 34 = .ok (.aload_n 0, 1) := by decide +kernel
theorem dX12_acts_35 : decode cX12_acts 35 = .ok (.getfield 40, 3) := by decide +kernel
theorem dX12_acts_38 : decode cX12_acts 38 = .ok (.iload_n 1, 1) := by decide +kernel
theorem dX12_acts_39 : decode cX12_acts 39 = .ok (.iaload, 1) := by decide +kernel
theorem dX12_acts_40 : decode cX12_acts 40 = .ok (.aload_n 0, 1) := by decide +kernel
theorem dX12_acts_41 : decode cX12_acts 41 = .ok (.getfield 43, 3) := by decide +kernel
theorem dX12_acts_44 : decode cX12_acts 44 = .ok (.iload_n 1, 1) := by decide +kernel
theorem dX12_acts_45 : decode cX12_acts 45 = .ok (.iaload, 1) := by decide +kernel
theorem dX12_acts_46 : decode cX12_acts 46 = .ok (.aload_n 0, 1) := by decide +kernel
theorem dX12_acts_47 : decode cX12_acts 47 = .ok (.getfield 46, 3) := by decide +kernel
theorem dX12_acts_50 : decode cX12_acts 50 = .ok (.iload_n 1, 1) := by decide +kernel
theorem dX12_acts_51 : decode cX12_acts 51 = .ok (.iaload, 1) := by decide +kernel
theorem dX12_acts_52 : decode cX12_acts 52 = .ok (.invokevirtual 164, 3) := by decide +kernel
theorem dX12_acts_55 : decode cX12_acts 55 = .ok (.aload_n 0, 1) := by decide +kernel
theorem dX12_acts_56 : decode cX12_acts 56 = .ok (.getfield 25, 3) := by decide +kernel
theorem dX12_acts_59 : decode cX12_acts 59 = .ok (.iload_n 1, 1) := by decide +kernel
theorem dX12_acts_60 : decode cX12_acts 60 = .ok (.iaload, 1) := by decide +kernel
theorem dX12_acts_61 : decode cX12_acts 61 = .ok (.ifCond .ne 7, 3) := by decide +kernel
theorem dX12_acts_64 : decode cX12_acts 64 = .ok (.iconst 2, 1) := by decide +kernel
theorem dX12_acts_65 : decode cX12_acts 65 = .ok (.goto 4, 3) := by decide +kernel
theorem dX12_acts_68 : decode cX12_acts 68 = .ok (.iconst 3, 1) := by decide +kernel
theorem dX12_acts_69 : decode cX12_acts 69 = .ok (.ireturn, 1) := by decide +kernel
theorem pyX12_acts : PY yX12_acts 1 := ⟨by decide +kernel, by decide +kernel, by decide +kernel⟩
def fX12_acts (Y : LY) (S : HS) (l0 : Option Nat) (l1 : Int32) : Option (HS × Int32) :=
  (rcv Y 12 l0).bind fun _ =>
  (fX12_of Y S l0 l1 1).bind fun v3 =>
  (gR Y 12 1210 l0 S).bind fun v7 =>
  (gA Y 14 v7 l1 S).bind fun v11 =>
  if v11 ≤ v3 then
    (gR Y 12 1215 l0 S).bind fun v24 =>
    (gA Y 14 v24 l1 S).bind fun v28 =>
    if v28 ≤ 0 then
      (gR Y 12 1209 l0 S).bind fun v56 =>
      (gA Y 14 v56 l1 S).bind fun v60 =>
      if v60 = 0 then
        some (S, 2)
      else
        some (S, 3)
    else
      (gR Y 12 1214 l0 S).bind fun v35 =>
      (gA Y 14 v35 l1 S).bind fun v39 =>
      (gR Y 12 1215 l0 S).bind fun v41 =>
      (gA Y 14 v41 l1 S).bind fun v45 =>
      (gR Y 12 1216 l0 S).bind fun v47 =>
      (gA Y 14 v47 l1 S).bind fun v51 =>
      (rcv Y 12 l0).bind fun _ =>
      (fX12_does Y S l0 l1 v39 v45 v51).bind fun S52 =>
      (gR Y 12 1209 l0 S52).bind fun v56 =>
      (gA Y 14 v56 l1 S52).bind fun v60 =>
      if v60 = 0 then
        some (S52, 2)
      else
        some (S52, 3)
  else
    (rcv Y 12 l0).bind fun _ =>
    (fX12_adds Y S l0 l1 1).bind fun S18 =>
    some (S18, 1)
set_option maxRecDepth 100000 in
set_option maxHeartbeats 4000000 in
theorem mX12_acts (l : Launch) {G : GG} {Y : LY} {S : HS} {l0 : Option Nat} {l1 : Int32} {res : HS × Int32} (hf : fX12_acts Y S l0 l1 = some res) : MM l yX12_acts cX12_acts 2 (some .int) 2 49 G Y S [va_rf l0, .int l1] res.1 (some (.int res.2)) := by
  refine mm_of2 (plainFor_of_name (by decide +kernel)) (Nat.le_of_ble_eq_true rfl) (c1c (cr _) (c1c (ci _) c1n)) ?_
  intro p e R s m args below meth c X H locs ls hP hl
  have X : Cx p R s m args meth c RX12 cX12_acts 2 2 49 (fun q => q ∈ Y.1) G (some .int) := X
  have hx := X.1.1
  have hb := X.1.2.1
  have hl : LV ls 2 [(0, va_rf l0), (1, .int l1)] := hl
  unfold fX12_acts at hf
  refine rw_aload_n X dX12_acts_0 rfl (hl.at 0 rfl) ?_
  refine lv_iload_n hx hb dX12_acts_1 rfl (hl.at 1 rfl) ?_
  refine lv_iconst (v := 1) hx hb dX12_acts_2 (by decide) ?_
  obtain ⟨u3, r3, hf⟩ := ob hf
  obtain ⟨v3, e3, hf⟩ := ob hf
  refine rw_callVi (As := [.int l1, .int 1]) X dX12_acts_3 clX12_168 pyX12_of (mX12_of l e3) (by decide) r3 rfl hP rfl (catL c1n (Nat.le_of_ble_eq_true rfl)) hl.1.1 (fun H locs hP => ?_)
  refine rw_aload_n X dX12_acts_6 rfl (hl.at 0 rfl) ?_
  obtain ⟨v7, e7, hf⟩ := ob hf
  refine rw_getR X dX12_acts_7 fl12_28 e7 rfl hP ?_
  refine lv_iload_n hx hb dX12_acts_10 rfl (hl.at 1 rfl) ?_
  obtain ⟨v11, e11, hf⟩ := ob hf
  refine rw_iald X dX12_acts_11 e11 hP ?_
  refine lv_icmp_ge hx hb (tgt := 23) dX12_acts_12 (by decide) (fun c12 => ?_) (fun c12 => ?_)
  · have hf := ifp hf c12
    refine rw_aload_n X dX12_acts_23 rfl (hl.at 0 rfl) ?_
    obtain ⟨v24, e24, hf⟩ := ob hf
    refine rw_getR X dX12_acts_24 fl12_43 e24 rfl hP ?_
    refine lv_iload_n hx hb dX12_acts_27 rfl (hl.at 1 rfl) ?_
    obtain ⟨v28, e28, hf⟩ := ob hf
    refine rw_iald X dX12_acts_28 e28 hP ?_
    refine lv_if_le hx hb (tgt := 55) dX12_acts_29 (by decide) (fun c29 => ?_) (fun c29 => ?_)
    · have hf := ifp hf c29
      refine rw_aload_n X dX12_acts_55 rfl (hl.at 0 rfl) ?_
      obtain ⟨v56, e56, hf⟩ := ob hf
      refine rw_getR X dX12_acts_56 fl12_25 e56 rfl hP ?_
      refine lv_iload_n hx hb dX12_acts_59 rfl (hl.at 1 rfl) ?_
      obtain ⟨v60, e60, hf⟩ := ob hf
      refine rw_iald X dX12_acts_60 e60 hP ?_
      refine lv_if_ne hx hb (tgt := 68) dX12_acts_61 (by decide) (fun c61 => ?_) (fun c61 => ?_)
      · have hf := ifn hf c61
        refine lv_iconst (v := 3) hx hb dX12_acts_68 (by decide) ?_
        cases hf
        exact rw_iret X dX12_acts_69 hP
      · have hf := ifp hf c61
        refine lv_iconst (v := 2) hx hb dX12_acts_64 (by decide) ?_
        refine lv_goto (tgt := 69) hx hb dX12_acts_65 (by decide) ?_
        cases hf
        exact rw_iret X dX12_acts_69 hP
    · have hf := ifn hf c29
      refine rw_aload_n X dX12_acts_32 rfl (hl.at 0 rfl) ?_
      refine lv_iload_n hx hb dX12_acts_33 rfl (hl.at 1 rfl) ?_
      refine rw_aload_n X dX12_acts_34 rfl (hl.at 0 rfl) ?_
      obtain ⟨v35, e35, hf⟩ := ob hf
      refine rw_getR X dX12_acts_35 fl12_40 e35 rfl hP ?_
      refine lv_iload_n hx hb dX12_acts_38 rfl (hl.at 1 rfl) ?_
      obtain ⟨v39, e39, hf⟩ := ob hf
      refine rw_iald X dX12_acts_39 e39 hP ?_
      refine rw_aload_n X dX12_acts_40 rfl (hl.at 0 rfl) ?_
      obtain ⟨v41, e41, hf⟩ := ob hf
      refine rw_getR X dX12_acts_41 fl12_43 e41 rfl hP ?_
      refine lv_iload_n hx hb dX12_acts_44 rfl (hl.at 1 rfl) ?_
      obtain ⟨v45, e45, hf⟩ := ob hf
      refine rw_iald X dX12_acts_45 e45 hP ?_
      refine rw_aload_n X dX12_acts_46 rfl (hl.at 0 rfl) ?_
      obtain ⟨v47, e47, hf⟩ := ob hf
      refine rw_getR X dX12_acts_47 fl12_46 e47 rfl hP ?_
      refine lv_iload_n hx hb dX12_acts_50 rfl (hl.at 1 rfl) ?_
      obtain ⟨v51, e51, hf⟩ := ob hf
      refine rw_iald X dX12_acts_51 e51 hP ?_
      obtain ⟨u52, r52, hf⟩ := ob hf
      obtain ⟨S52, e52, hf⟩ := ob hf
      refine rw_callVv (As := [.int l1, .int v39, .int v45, .int v51]) X dX12_acts_52 clX12_164 pyX12_does (mX12_does l e52) (by decide) r52 rfl hP rfl (catL c1n (Nat.le_of_ble_eq_true rfl)) hl.1.1 (fun H locs hP => ?_)
      refine rw_aload_n X dX12_acts_55 rfl (hl.at 0 rfl) ?_
      obtain ⟨v56, e56, hf⟩ := ob hf
      refine rw_getR X dX12_acts_56 fl12_25 e56 rfl hP ?_
      refine lv_iload_n hx hb dX12_acts_59 rfl (hl.at 1 rfl) ?_
      obtain ⟨v60, e60, hf⟩ := ob hf
      refine rw_iald X dX12_acts_60 e60 hP ?_
      refine lv_if_ne hx hb (tgt := 68) dX12_acts_61 (by decide) (fun c61 => ?_) (fun c61 => ?_)
      · have hf := ifn hf c61
        refine lv_iconst (v := 3) hx hb dX12_acts_68 (by decide) ?_
        cases hf
        exact rw_iret X dX12_acts_69 hP
      · have hf := ifp hf c61
        refine lv_iconst (v := 2) hx hb dX12_acts_64 (by decide) ?_
        refine lv_goto (tgt := 69) hx hb dX12_acts_65 (by decide) ?_
        cases hf
        exact rw_iret X dX12_acts_69 hP
  · have hf := ifn hf c12
    refine rw_aload_n X dX12_acts_15 rfl (hl.at 0 rfl) ?_
    refine lv_iload_n hx hb dX12_acts_16 rfl (hl.at 1 rfl) ?_
    refine lv_iconst (v := 1) hx hb dX12_acts_17 (by decide) ?_
    obtain ⟨u18, r18, hf⟩ := ob hf
    obtain ⟨S18, e18, hf⟩ := ob hf
    refine rw_callVv (As := [.int l1, .int 1]) X dX12_acts_18 clX12_175 pyX12_adds (mX12_adds l e18) (by decide) r18 rfl hP rfl (catL c1n (Nat.le_of_ble_eq_true rfl)) hl.1.1 (fun H locs hP => ?_)
    refine lv_iconst (v := 1) hx hb dX12_acts_21 (by decide) ?_
    cases hf
    exact rw_iret X dX12_acts_22 hP
