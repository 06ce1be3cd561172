/-! printed by wip/whole/gen/gen_parts.py: 21.model2 -/
theorem dX12_asks_0 : decode cX12_asks 0 = .ok (.aload_n 0, 1) := by decide +kernel
theorem dX12_asks_1 : decode cX12_asks 1 = .ok (.iload_n 1, 1) := by decide +kernel
theorem dX12_asks_2 : decode cX12_asks 2 = .ok (.iconst 5, 1) := by decide +kernel
theorem dX12_asks_3 : decode cX12_asks 3 = .ok (.iload_n 2, 1) := by decide +kernel
theorem dX12_asks_4 : decode cX12_asks 4 = .ok (.invokevirtual 171, 3) := by decide +kernel
theorem dX12_asks_7 : decode cX12_asks 7 = .ok (.aload_n 0, 1) := by decide +kernel
theorem dX12_asks_8 : decode cX12_asks 8 = .ok (.getfield 9, 3) := by decide +kernel
theorem dX12_asks_11 : decode cX12_asks 11 = .ok (.sipush 284, 3) := by decide +kernel
theorem dX12_asks_14 : decode cX12_asks 14 = .ok (.aload_n 0, 1) := by decide +kernel
theorem dX12_asks_15 : decode cX12_asks 15 = .ok (.iload_n 1, 1) := by decide +kernel
theorem dX12_asks_16 : decode cX12_asks 16 = .ok (.iload_n 2, 1) := by decide +kernel
theorem dX12_asks_17 : decode cX12_asks 17 = .ok (.invokevirtual 185, 3) := by decide +kernel
theorem dX12_asks_20 : decode cX12_asks 20 = .ok (.iastore, 1) := by decide +kernel
theorem dX12_asks_21 : decode cX12_asks 21 = .ok (.iconst 0, 1) := by decide +kernel
theorem dX12_asks_22 : decode cX12_asks 22 = .ok (.ireturn, 1) := by decide +kernel
theorem pyX12_asks : PY yX12_asks 2 := ⟨by decide +kernel, by decide +kernel, by decide +kernel⟩
def fX12_asks (Y : LY) (S : HS) (l0 : Option Nat) (l1 : Int32) (l2 : Int32) : Option (HS × Int32) :=
  (rcv Y 12 l0).bind fun _ =>
  (fX12_sets Y S l0 l1 5 l2).bind fun S4 =>
  (gR Y 12 1200 l0 S4).bind fun v8 =>
  (rcv Y 12 l0).bind fun _ =>
  (fX12_childOf Y S4 l0 l1 l2).bind fun v17 =>
  (pA Y 14 v8 284 v17 S4).bind fun S20 =>
  some (S20, 0)
set_option maxRecDepth 100000 in
set_option maxHeartbeats 4000000 in
theorem mX12_asks (l : Launch) {G : GG} {Y : LY} {S : HS} {l0 : Option Nat} {l1 : Int32} {l2 : Int32} {res : HS × Int32} (hf : fX12_asks Y S l0 l1 l2 = some res) : MM l yX12_asks cX12_asks 3 (some .int) 1 24 G Y S [va_rf l0, .int l1, .int l2] res.1 (some (.int res.2)) := by
  refine mm_of2 (plainFor_of_name (by decide +kernel)) (Nat.le_of_ble_eq_true rfl) (c1c (cr _) (c1c (ci _) (c1c (ci _) c1n))) ?_
  intro p e R s m args below meth c X H locs ls hP hl
  have X : Cx p R s m args meth c RX12 cX12_asks 3 1 24 (fun q => q ∈ Y.1) G (some .int) := X
  have hx := X.1.1
  have hb := X.1.2.1
  have hl : LV ls 3 [(0, va_rf l0), (1, .int l1), (2, .int l2)] := hl
  unfold fX12_asks at hf
  refine rw_aload_n X dX12_asks_0 rfl (hl.at 0 rfl) ?_
  refine lv_iload_n hx hb dX12_asks_1 rfl (hl.at 1 rfl) ?_
  refine lv_iconst (v := 5) hx hb dX12_asks_2 (by decide) ?_
  refine lv_iload_n hx hb dX12_asks_3 rfl (hl.at 2 rfl) ?_
  obtain ⟨u4, r4, hf⟩ := ob hf
  obtain ⟨S4, e4, hf⟩ := ob hf
  refine rw_callVv (As := [.int l1, .int 5, .int l2]) X dX12_asks_4 clX12_171 pyX12_sets (mX12_sets l e4) (by decide) r4 rfl hP rfl (catL c1n (Nat.le_of_ble_eq_true rfl)) hl.1.1 (fun H locs hP => ?_)
  refine rw_aload_n X dX12_asks_7 rfl (hl.at 0 rfl) ?_
  obtain ⟨v8, e8, hf⟩ := ob hf
  refine rw_getR X dX12_asks_8 fl12_9 e8 rfl hP ?_
  refine lv_sipush (v := 284) hx hb dX12_asks_11 (by decide) ?_
  refine rw_aload_n X dX12_asks_14 rfl (hl.at 0 rfl) ?_
  refine lv_iload_n hx hb dX12_asks_15 rfl (hl.at 1 rfl) ?_
  refine lv_iload_n hx hb dX12_asks_16 rfl (hl.at 2 rfl) ?_
  obtain ⟨u17, r17, hf⟩ := ob hf
  obtain ⟨v17, e17, hf⟩ := ob hf
  refine rw_callVi (As := [.int l1, .int l2]) X dX12_asks_17 clX12_185 pyX12_childOf (mX12_childOf l e17) (by decide) r17 rfl hP rfl (catL (c1c (ci _) (c1c (cr _) c1n)) (Nat.le_of_ble_eq_true rfl)) hl.1.1 (fun H locs hP => ?_)
  obtain ⟨S20, e20, hf⟩ := ob hf
  refine rw_iast X dX12_asks_20 e20 hP (fun H locs hP => ?_)
  refine lv_iconst (v := 0) hx hb dX12_asks_21 (by decide) ?_
  cases hf
  exact rw_iret X dX12_asks_22 hP
theorem dX12_bits_0 : decode cX12_bits 0 = .ok (.iconst 0, 1) := by decide +kernel
theorem dX12_bits_1 : decode cX12_bits 1 = .ok (.istore_n 1, 1) := by decide +kernel
theorem dX12_bits_2 : decode cX12_bits 2 = .ok (.iconst 0, 1) := by decide +kernel
theorem dX12_bits_3 : decode cX12_bits 3 = .ok (.istore_n 2, 1) := by decide +kernel
theorem dX12_bits_4 : decode cX12_bits 4 = .ok (.iload_n 2, 1) := by decide +kernel
theorem dX12_bits_5 : decode cX12_bits 5 = .ok (.bipush 24, 2) := by decide +kernel
theorem dX12_bits_7 : decode cX12_bits 7 = .ok (.if_icmp .ge 17, 3) := by decide +kernel
theorem dX12_bits_10 : decode cX12_bits 10 = .ok (.iload_n 1, 1) := by decide +kernel
theorem dX12_bits_11 : decode cX12_bits 11 = .ok (.iload_n 0, 1) := by decide +kernel
theorem dX12_bits_12 : decode cX12_bits 12 = .ok (.iload_n 2, 1) := by decide +kernel
theorem dX12_bits_13 : decode cX12_bits 13 = .ok (.ishr, 1) := by decide +kernel
theorem dX12_bits_14 : decode cX12_bits 14 = .ok (.iconst 1, 1) := by decide +kernel
theorem dX12_bits_15 : decode cX12_bits 15 = .ok (.iand, 1) := by decide +kernel
theorem dX12_bits_16 : decode cX12_bits 16 = .ok (.iadd, 1) := by decide +kernel
theorem dX12_bits_17 : decode cX12_bits 17 = .ok (.istore_n 1, 1) := by decide +kernel
theorem dX12_bits_18 : decode cX12_bits 18 = .ok (.iinc 2 1, 3) := by decide +kernel
theorem dX12_bits_21 : decode cX12_bits 21 = .ok (.goto (-17), 3) := by decide +kernel
theorem dX12_bits_24 : decode cX12_bits 24 = .ok (.iload_n 1, 1) := by decide +kernel
theorem dX12_bits_25 : decode cX12_bits 25 = .ok (.ireturn, 1) := by decide +kernel
theorem pyX12_bits : PY yX12_bits 1 := ⟨by decide +kernel, by decide +kernel, by decide +kernel⟩
def fX12_bits_4 (Y : LY) (S : HS) : Nat → Int32 → Int32 → Int32 → Option (Int32)
  | 0, _, _, _ => none
  | n + 1, l0, l1, l2 =>
    if 24 ≤ l2 then
      some l1
    else
      fX12_bits_4 Y S n l0 (l1 + ((l0 >>> (l2 &&& 31)) &&& 1)) (l2 + 1)
set_option maxRecDepth 100000 in
set_option maxHeartbeats 4000000 in
theorem wX12_bits_4 {p : Program} {l : Launch} {e : Env} {R : Room} {s : State} {m : MethodId} {args : Array Value} {below : List Frame} {meth : Method} {c : Code} {G : GG} {Y : LY} {S : HS} {res : Int32} (X : Cx p R s m args meth c RX12 cX12_bits 3 0 0 (fun q => q ∈ Y.1) G (some .int)) : ∀ (n : Nat) (l0 : Int32) (l1 : Int32) (l2 : Int32), fX12_bits_4 Y S n l0 l1 l2 = some res → ∀ (H : Heap) (locs : List Loc) (ls : Array Slot), HP (fun q => q ∈ Y.1) G Y s S H locs → LV ls 3 [(0, .int l0), (1, .int l1), (2, .int l2)] → W p l e R s m args below meth c H locs 0 0 (MQ below (QI G Y S (some (.int res))) args s 0 0 (fun q => q ∈ Y.1)) (F0 m 4 ls []) := by
  have hx := X.1.1
  have hb := X.1.2.1
  intro n
  induction n with
  | zero =>
    intro l0 l1 l2 hf
    cases hf
  | succ n ih =>
    intro l0 l1 l2 hf H locs ls hP hl
    rw [fX12_bits_4] at hf
    refine lv_iload_n hx hb dX12_bits_4 rfl (hl.at 2 rfl) ?_
    refine lv_bipush (v := 24) hx hb dX12_bits_5 (by decide) ?_
    refine lv_icmp_ge hx hb (tgt := 24) dX12_bits_7 (by decide) (fun c7 => ?_) (fun c7 => ?_)
    · have hf := ifp hf c7
      refine lv_iload_n hx hb dX12_bits_24 rfl (hl.at 1 rfl) ?_
      cases hf
      exact rw_iret X dX12_bits_25 hP
    · have hf := ifn hf c7
      refine lv_iload_n hx hb dX12_bits_10 rfl (hl.at 1 rfl) ?_
      refine lv_iload_n hx hb dX12_bits_11 rfl (hl.at 0 rfl) ?_
      refine lv_iload_n hx hb dX12_bits_12 rfl (hl.at 2 rfl) ?_
      refine lv_ishr hx hb dX12_bits_13 ?_
      refine lv_iconst (v := 1) hx hb dX12_bits_14 (by decide) ?_
      refine lv_iand hx hb dX12_bits_15 ?_
      refine lv_iadd hx hb dX12_bits_16 ?_
      refine rv_istore_n X dX12_bits_17 rfl hl (by decide) rfl (fun ls hl => ?_)
      have hl : LV ls 3 [(1, .int (l1 + ((l0 >>> (l2 &&& 31)) &&& 1))), (0, .int l0), (2, .int l2)] := hl
      refine rv_iinc (k := 2) (d := 1) X dX12_bits_18 hl rfl (by decide) (by decide) rfl (fun ls hl => ?_)
      have hl : LV ls 3 [(2, .int (l2 + 1)), (1, .int (l1 + ((l0 >>> (l2 &&& 31)) &&& 1))), (0, .int l0)] := hl
      refine lv_goto (tgt := 4) hx hb dX12_bits_21 (by decide) ?_
      exact ih l0 (l1 + ((l0 >>> (l2 &&& 31)) &&& 1)) (l2 + 1) hf _ _ _ hP (hl.sub [2, 1, 0] rfl)
def fX12_bits (Y : LY) (S : HS) (l0 : Int32) : Option (Int32) :=
  fX12_bits_4 Y S FU l0 0 0
set_option maxRecDepth 100000 in
set_option maxHeartbeats 4000000 in
theorem mX12_bits (l : Launch) {G : GG} {Y : LY} {S : HS} {l0 : Int32} {res : Int32} (hf : fX12_bits Y S l0 = some res) : MM l yX12_bits cX12_bits 3 (some .int) 0 0 G Y S [.int l0] S (some (.int res)) := by
  refine mm_of2 (plainFor_of_name (by decide +kernel)) (Nat.le_of_ble_eq_true rfl) (c1c (ci _) c1n) ?_
  intro p e R s m args below meth c X H locs ls hP hl
  have X : Cx p R s m args meth c RX12 cX12_bits 3 0 0 (fun q => q ∈ Y.1) G (some .int) := X
  have hx := X.1.1
  have hb := X.1.2.1
  have hl : LV ls 3 [(0, .int l0)] := hl
  unfold fX12_bits at hf
  refine lv_iconst (v := 0) hx hb dX12_bits_0 (by decide) ?_
  refine rv_istore_n X dX12_bits_1 rfl hl (by decide) rfl (fun ls hl => ?_)
  have hl : LV ls 3 [(1, .int 0), (0, .int l0)] := hl
  refine lv_iconst (v := 0) hx hb dX12_bits_2 (by decide) ?_
  refine rv_istore_n X dX12_bits_3 rfl hl (by decide) rfl (fun ls hl => ?_)
  have hl : LV ls 3 [(2, .int 0), (1, .int 0), (0, .int l0)] := hl
  exact wX12_bits_4 X FU l0 0 0 hf _ _ _ hP (hl.sub [2, 1, 0] rfl)
theorem dX12_goesOn_0 : decode cX12_goesOn 0 = .ok (.aload_n 0, 1) := by decide +kernel
theorem dX12_goesOn_1 : decode cX12_goesOn 1 = .ok (.iload_n 1, 1) := by decide +kernel
theorem dX12_goesOn_2 : decode cX12_goesOn 2 = .ok (.invokevirtual 203, 3) := by decide +kernel
theorem dX12_goesOn_5 : decode cX12_goesOn 5 = .ok (.istore_n 2, 1) := by decide +kernel
theorem dX12_goesOn_6 : decode cX12_goesOn 6 = .ok (.aload_n 0, 1) := by decide +kernel
theorem dX12_goesOn_7 : decode cX12_goesOn 7 = .ok (.iload_n 1, 1) := by decide +kernel
theorem dX12_goesOn_8 : decode cX12_goesOn 8 = .ok (.iconst 5, 1) := by decide +kernel
theorem dX12_goesOn_9 : decode cX12_goesOn 9 = .ok (.invokevirtual 168, 3) := by decide +kernel
theorem dX12_goesOn_12 : decode cX12_goesOn 12 = .ok (.istore_n 3, 1) := by decide +kernel
theorem dX12_goesOn_13 : decode cX12_goesOn 13 = .ok (.aload_n 0, 1) := by decide +kernel
theorem dX12_goesOn_14 : decode cX12_goesOn 14 = .ok (.iload_n 1, 1) := by decide +kernel
theorem dX12_goesOn_15 : decode cX12_goesOn 15 = .ok (.iconst 2, 1) := by decide +kernel
theorem dX12_goesOn_16 : decode cX12_goesOn 16 = .ok (.invokevirtual 168, 3) := by decide +kernel
theorem dX12_goesOn_19 : decode cX12_goesOn 19 = .ok (.aload_n 0, 1) := by decide +kernel
theorem dX12_goesOn_20 : decode cX12_goesOn 20 = .ok (.iload_n 1, 1) := by decide +kernel
theorem dX12_goesOn_21 : decode cX12_goesOn 21 = .ok (.iconst 3, 1) := by decide +kernel
theorem dX12_goesOn_22 : decode cX12_goesOn 22 = .ok (.invokevirtual 168, 3) := by decide +kernel
theorem dX12_goesOn_25 : decode cX12_goesOn 25 = .ok (.ior, 1) := by decide +kernel
theorem dX12_goesOn_26 : decode cX12_goesOn 26 = .ok (.istore 4, 2) := by decide +kernel
theorem dX12_goesOn_28 : decode cX12_goesOn 28 = .ok (.iload_n 3, 1) := by decide +kernel
theorem dX12_goesOn_29 : decode cX12_goesOn 29 = .ok (.iload_n 2, 1) := by decide +kernel
theorem dX12_goesOn_30 : decode cX12_goesOn 30 = .ok (.if_icmp .ge 19, 3) := by decide +kernel
theorem dX12_goesOn_33 : decode cX12_goesOn 33 = .ok (.iload 4, 2) := by decide +kernel
theorem dX12_goesOn_35 : decode cX12_goesOn 35 = .ok (.iload_n 3, 1) := by decide +kernel
theorem dX12_goesOn_36 : decode cX12_goesOn 36 = .ok (.ishr, 1) := by decide +kernel
theorem dX12_goesOn_37 : decode cX12_goesOn 37 = .ok (.iconst 1, 1) := by decide +kernel
theorem dX12_goesOn_38 : decode cX12_goesOn 38 = .ok (.iand, 1) := by decide +kernel
theorem dX12_goesOn_39 : decode cX12_goesOn 39 = .ok (.iconst 1, 1) := by decide +kernel
theorem dX12_goesOn_40 : decode cX12_goesOn 40 = .ok (.if_icmp .ne 9, 3) := by decide +kernel
theorem dX12_goesOn_43 : decode cX12_goesOn 43 = .ok (.iinc 3 1, 3) := by decide +kernel
theorem dX12_goesOn_46 : decode cX12_goesOn 46 = .ok (.goto (-18), 3) := by decide +kernel
theorem dX12_goesOn_49 : decode cX12_goesOn 49 = .ok (.iload_n 3, 1) := by decide +kernel
theorem dX12_goesOn_50 : decode cX12_goesOn 50 = .ok (.iload_n 2, 1) := by decide +kernel
theorem dX12_goesOn_51 : decode cX12_goesOn 51 = .ok (.if_icmp .ge 10, 3) := by decide +kernel
theorem dX12_goesOn_54 : decode cX12_goesOn 54 = .ok (.aload_n 0, 1) := by decide +kernel
theorem dX12_goesOn_55 : decode cX12_goesOn 55 = .ok (.iload_n 1, 1) := by decide +kernel
theorem dX12_goesOn_56 : decode cX12_goesOn 56 = .ok (.iload_n 3, 1) := by decide +kernel
theorem dX12_goesOn_57 : decode cX12_goesOn 57 = .ok (.invokevirtual 194, 3) := by decide +kernel
theorem dX12_goesOn_60 : decode cX12_goesOn 60 = .ok (.ireturn, 1) := by decide +kernel
theorem dX12_goesOn_61 : decode cX12_goesOn 61 = .ok (.aload_n 0, 1) := by decide +kernel
theorem dX12_goesOn_62 : decode cX12_goesOn 62 = .ok (.iload_n 1, 1) := by decide +kernel
theorem dX12_goesOn_63 : decode cX12_goesOn 63 = .ok (.iconst 2, 1) := by decide +kernel
theorem dX12_goesOn_64 : decode cX12_goesOn 64 = .ok (.invokevirtual 168, 3) := by decide +kernel
theorem dX12_goesOn_67 : decode cX12_goesOn 67 = .ok (.invokestatic 206, 3) := by decide +kernel
theorem dX12_goesOn_70 : decode cX12_goesOn 70 = .ok (.istore 5, 2) := by decide +kernel
theorem dX12_goesOn_72 : decode cX12_goesOn 72 = .ok (.iload 5, 2) := by decide +kernel
theorem dX12_goesOn_74 : decode cX12_goesOn 74 = .ok (.aload_n 0, 1) := by decide +kernel
theorem dX12_goesOn_75 : decode cX12_goesOn 75 = .ok (.getfield 28, 3) := by decide +kernel
theorem dX12_goesOn_78 : decode cX12_goesOn 78 = .ok (.iload_n 1, 1) := by decide +kernel
theorem dX12_goesOn_79 : decode cX12_goesOn 79 = .ok (.iaload, 1) := by decide +kernel
theorem dX12_goesOn_80 : decode cX12_goesOn 80 = .ok (.if_icmp .ge 25, 3) := by decide +kernel
theorem dX12_goesOn_83 : decode cX12_goesOn 83 = .ok (.aload_n 0, 1) := by decide +kernel
theorem dX12_goesOn_84 : decode cX12_goesOn 84 = .ok (.iload_n 1, 1) := by decide +kernel
theorem dX12_goesOn_85 : decode cX12_goesOn 85 = .ok (.iconst 3, 1) := by decide +kernel
theorem dX12_goesOn_86 : decode cX12_goesOn 86 = .ok (.invokevirtual 168, 3) := by decide +kernel
theorem dX12_goesOn_89 : decode cX12_goesOn 89 = .ok (.invokestatic 206, 3) := by decide +kernel
theorem dX12_goesOn_92 : decode cX12_goesOn 92 = .ok (.iload_n 2, 1) := by decide +kernel
theorem dX12_goesOn_93 : decode cX12_goesOn 93 = .ok (.aload_n 0, 1) := by decide +kernel
theorem dX12_goesOn_94 : decode cX12_goesOn 94 = .ok (.getfield 28, 3) := by decide +kernel
theorem dX12_goesOn_97 : decode cX12_goesOn 97 = .ok (.iload_n 1, 1) := by decide +kernel
theorem dX12_goesOn_98 : decode cX12_goesOn 98 = .ok (.iaload, 1) := by decide +kernel
theorem dX12_goesOn_99 : decode cX12_goesOn 99 = .ok (.isub, 1) := by decide +kernel
theorem dX12_goesOn_100 : decode cX12_goesOn 100 = .ok (.if_icmp .gt 5, 3) := by decide +kernel
theorem dX12_goesOn_103 : decode cX12_goesOn 103 = .ok (.iconst 1, 1) := by decide +kernel
theorem dX12_goesOn_104 : decode cX12_goesOn 104 = .ok (.ireturn, 1) := by decide +kernel
theorem dX12_goesOn_105 : decode cX12_goesOn 105 = .ok (.iload_n 2, 1) := by decide +kernel
theorem dX12_goesOn_106 : decode cX12_goesOn 106 = .ok (.iconst 1, 1) := by decide +kernel
theorem dX12_goesOn_107 : decode cX12_goesOn 107 = .ok (.isub, 1) := by decide +kernel
theorem dX12_goesOn_108 : decode cX12_goesOn 108 = .ok (.istore 6, 2) := by decide +kernel
theorem dX12_goesOn_110 : decode cX12_goesOn 110 = .ok (.iload 6, 2) := by decide +kernel
theorem dX12_goesOn_112 : decode cX12_goesOn 112 = .ok (.ifCond .lt 21, 3) := by decide +kernel
theorem dX12_goesOn_115 : decode cX12_goesOn 115 = .ok (.aload_n 0, 1) := by decide +kernel
theorem dX12_goesOn_116 : decode cX12_goesOn 116 = .ok (.aload_n 0, 1) := by decide +kernel
theorem dX12_goesOn_117 : decode cX12_goesOn 117 = .ok (.iload_n 1, 1) := by decide +kernel
theorem dX12_goesOn_118 : decode cX12_goesOn 118 = .ok (.iload 6, 2) := by decide +kernel
theorem dX12_goesOn_120 : decode cX12_goesOn 120 = .ok (.invokevirtual 185, 3) := by decide +kernel
theorem dX12_goesOn_123 : decode cX12_goesOn 123 = .ok (.invokevirtual 200, 3) := by decide +kernel
theorem dX12_goesOn_126 : decode cX12_goesOn 126 = .ok (.pop, 1) := by decide +kernel
theorem dX12_goesOn_127 : decode cX12_goesOn 127 = .ok (.iinc 6 (-1), 3) := by decide +kernel
theorem dX12_goesOn_130 : decode cX12_goesOn 130 = .ok (.goto (-20), 3) := by decide +kernel
theorem dX12_goesOn_133 : decode cX12_goesOn 133 = .ok (.iload 5, 2) := by decide +kernel
theorem dX12_goesOn_135 : decode cX12_goesOn 135 = .ok (.aload_n 0, 1) := by decide +kernel
theorem dX12_goesOn_136 : decode cX12_goesOn 136 = .ok (.getfield 28, 3) := by decide +kernel
theorem dX12_goesOn_139 : decode cX12_goesOn 139 = .ok (.iload_n 1, 1) := by decide +kernel
theorem dX12_goesOn_140 : decode cX12_goesOn 140 = .ok (.iaload, 1) := by decide +kernel
theorem dX12_goesOn_141 : decode cX12_goesOn 141 = .ok (.if_icmp .lt 7, 3) := by decide +kernel
theorem dX12_goesOn_144 : decode cX12_goesOn 144 = .ok (.iconst 2, 1) := by decide +kernel
theorem dX12_goesOn_145 : decode cX12_goesOn 145 = .ok (.goto 4, 3) := by decide +kernel
theorem dX12_goesOn_148 : decode cX12_goesOn 148 = .ok (.iconst 3, 1) := by decide +kernel
theorem dX12_goesOn_149 : decode cX12_goesOn 149 = .ok (.ireturn, 1) := by decide +kernel
theorem pyX12_goesOn : PY yX12_goesOn 1 := ⟨by decide +kernel, by decide +kernel, by decide +kernel⟩
def fX12_goesOn_110 (Y : LY) : Nat → HS → Option Nat → Int32 → Int32 → Int32 → Option (HS × Int32)
  | 0, _, _, _, _, _ => none
  | n + 1, S, l0, l1, l5, l6 =>
    if l6 < 0 then
      (gR Y 12 1210 l0 S).bind fun v136 =>
      (gA Y 14 v136 l1 S).bind fun v140 =>
      if l5 < v140 then
        some (S, 3)
      else
        some (S, 2)
    else
      (rcv Y 12 l0).bind fun _ =>
      (fX12_childOf Y S l0 l1 l6).bind fun v120 =>
      (rcv Y 12 l0).bind fun _ =>
      (fX12_aborts Y S l0 v120).bind fun q123 =>
      fX12_goesOn_110 Y n q123.1 l0 l1 l5 (l6 + (-1))
set_option maxRecDepth 100000 in
set_option maxHeartbeats 4000000 in
theorem wX12_goesOn_110 {p : Program} {l : Launch} {e : Env} {R : Room} {s : State} {m : MethodId} {args : Array Value} {below : List Frame} {meth : Method} {c : Code} {G : GG} {Y : LY} {res : HS × Int32} (X : Cx p R s m args meth c RX12 cX12_goesOn 7 4 93 (fun q => q ∈ Y.1) G (some .int)) : ∀ (n : Nat) (S : HS) (l0 : Option Nat) (l1 : Int32) (l5 : Int32) (l6 : Int32), fX12_goesOn_110 Y n S l0 l1 l5 l6 = some res → ∀ (H : Heap) (locs : List Loc) (ls : Array Slot), HP (fun q => q ∈ Y.1) G Y s S H locs → LV ls 7 [(0, va_rf l0), (1, .int l1), (5, .int l5), (6, .int l6)] → W p l e R s m args below meth c H locs 0 0 (MQ below (QI G Y res.1 (some (.int res.2))) args s 0 0 (fun q => q ∈ Y.1)) (F0 m 110 ls []) := by
  have hx := X.1.1
  have hb := X.1.2.1
  intro n
  induction n with
  | zero =>
    intro S l0 l1 l5 l6 hf
    cases hf
  | succ n ih =>
    intro S l0 l1 l5 l6 hf H locs ls hP hl
    rw [fX12_goesOn_110] at hf
    refine lv_iload hx hb dX12_goesOn_110 (hl.at 3 rfl) ?_
    refine lv_if_lt hx hb (tgt := 133) dX12_goesOn_112 (by decide) (fun c112 => ?_) (fun c112 => ?_)
    · have hf := ifp hf c112
      refine lv_iload hx hb dX12_goesOn_133 (hl.at 2 rfl) ?_
      refine rw_aload_n X dX12_goesOn_135 rfl (hl.at 0 rfl) ?_
      obtain ⟨v136, e136, hf⟩ := ob hf
      refine rw_getR X dX12_goesOn_136 fl12_28 e136 rfl hP ?_
      refine lv_iload_n hx hb dX12_goesOn_139 rfl (hl.at 1 rfl) ?_
      obtain ⟨v140, e140, hf⟩ := ob hf
      refine rw_iald X dX12_goesOn_140 e140 hP ?_
      refine lv_icmp_lt hx hb (tgt := 148) dX12_goesOn_141 (by decide) (fun c141 => ?_) (fun c141 => ?_)
      · have hf := ifp hf c141
        refine lv_iconst (v := 3) hx hb dX12_goesOn_148 (by decide) ?_
        cases hf
        exact rw_iret X dX12_goesOn_149 hP
      · have hf := ifn hf c141
        refine lv_iconst (v := 2) hx hb dX12_goesOn_144 (by decide) ?_
        refine lv_goto (tgt := 149) hx hb dX12_goesOn_145 (by decide) ?_
        cases hf
        exact rw_iret X dX12_goesOn_149 hP
    · have hf := ifn hf c112
      refine rw_aload_n X dX12_goesOn_115 rfl (hl.at 0 rfl) ?_
      refine rw_aload_n X dX12_goesOn_116 rfl (hl.at 0 rfl) ?_
      refine lv_iload_n hx hb dX12_goesOn_117 rfl (hl.at 1 rfl) ?_
      refine lv_iload hx hb dX12_goesOn_118 (hl.at 3 rfl) ?_
      obtain ⟨u120, r120, hf⟩ := ob hf
      obtain ⟨v120, e120, hf⟩ := ob hf
      refine rw_callVi (As := [.int l1, .int l6]) X dX12_goesOn_120 clX12_185 pyX12_childOf (mX12_childOf l e120) (by decide) r120 rfl hP rfl (catL (c1c (cr _) c1n) (Nat.le_of_ble_eq_true rfl)) hl.1.1 (fun H locs hP => ?_)
      obtain ⟨u123, r123, hf⟩ := ob hf
      obtain ⟨q123, e123, hf⟩ := ob hf
      refine rw_callVi (As := [.int v120]) X dX12_goesOn_123 clX12_200 pyX12_aborts (mX12_aborts l e123) (by decide) r123 rfl hP rfl (catL c1n (Nat.le_of_ble_eq_true rfl)) hl.1.1 (fun H locs hP => ?_)
      refine lv_pop hx hb dX12_goesOn_126 (ci _) ?_
      refine rv_iinc (k := 3) (d := (-1)) X dX12_goesOn_127 hl rfl (by decide) (by decide) rfl (fun ls hl => ?_)
      have hl : LV ls 7 [(6, .int (l6 + (-1))), (0, va_rf l0), (1, .int l1), (5, .int l5)] := hl
      refine lv_goto (tgt := 110) hx hb dX12_goesOn_130 (by decide) ?_
      exact ih q123.1 l0 l1 l5 (l6 + (-1)) hf _ _ _ hP (hl.sub [1, 2, 3, 0] rfl)
def fX12_goesOn_49 (Y : LY) (S : HS) (l0 : Option Nat) (l1 : Int32) (l2 : Int32) (l3 : Int32) : Option (HS × Int32) :=
  if l2 ≤ l3 then
    (rcv Y 12 l0).bind fun _ =>
    (fX12_of Y S l0 l1 2).bind fun v64 =>
    (fX12_bits Y S v64).bind fun v67 =>
    (gR Y 12 1210 l0 S).bind fun v75 =>
    (gA Y 14 v75 l1 S).bind fun v79 =>
    if v79 ≤ v67 then
      fX12_goesOn_110 Y FU S l0 l1 v67 (l2 - 1)
    else
      (rcv Y 12 l0).bind fun _ =>
      (fX12_of Y S l0 l1 3).bind fun v86 =>
      (fX12_bits Y S v86).bind fun v89 =>
      (gR Y 12 1210 l0 S).bind fun v94 =>
      (gA Y 14 v94 l1 S).bind fun v98 =>
      if (l2 - v98) < v89 then
        fX12_goesOn_110 Y FU S l0 l1 v67 (l2 - 1)
      else
        some (S, 1)
  else
    (rcv Y 12 l0).bind fun _ =>
    (fX12_asks Y S l0 l1 l3).bind fun q57 =>
    some (q57.1, q57.2)
set_option maxRecDepth 100000 in
set_option maxHeartbeats 4000000 in
theorem wX12_goesOn_49 {p : Program} {l : Launch} {e : Env} {R : Room} {s : State} {m : MethodId} {args : Array Value} {below : List Frame} {meth : Method} {c : Code} {G : GG} {Y : LY} {res : HS × Int32} (X : Cx p R s m args meth c RX12 cX12_goesOn 7 4 93 (fun q => q ∈ Y.1) G (some .int)) : ∀ (S : HS) (l0 : Option Nat) (l1 : Int32) (l2 : Int32) (l3 : Int32), fX12_goesOn_49 Y S l0 l1 l2 l3 = some res → ∀ (H : Heap) (locs : List Loc) (ls : Array Slot), HP (fun q => q ∈ Y.1) G Y s S H locs → LV ls 7 [(0, va_rf l0), (1, .int l1), (2, .int l2), (3, .int l3)] → W p l e R s m args below meth c H locs 0 0 (MQ below (QI G Y res.1 (some (.int res.2))) args s 0 0 (fun q => q ∈ Y.1)) (F0 m 49 ls []) := by
  have hx := X.1.1
  have hb := X.1.2.1
  intro S l0 l1 l2 l3 hf H locs ls hP hl
  unfold fX12_goesOn_49 at hf
  refine lv_iload_n hx hb dX12_goesOn_49 rfl (hl.at 3 rfl) ?_
  refine lv_iload_n hx hb dX12_goesOn_50 rfl (hl.at 2 rfl) ?_
  refine lv_icmp_ge hx hb (tgt := 61) dX12_goesOn_51 (by decide) (fun c51 => ?_) (fun c51 => ?_)
  · have hf := ifp hf c51
    refine rw_aload_n X dX12_goesOn_61 rfl (hl.at 0 rfl) ?_
    refine lv_iload_n hx hb dX12_goesOn_62 rfl (hl.at 1 rfl) ?_
    refine lv_iconst (v := 2) hx hb dX12_goesOn_63 (by decide) ?_
    obtain ⟨u64, r64, hf⟩ := ob hf
    obtain ⟨v64, e64, hf⟩ := ob hf
    refine rw_callVi (As := [.int l1, .int 2]) X dX12_goesOn_64 clX12_168 pyX12_of (mX12_of l e64) (by decide) r64 rfl hP rfl (catL c1n (Nat.le_of_ble_eq_true rfl)) hl.1.1 (fun H locs hP => ?_)
    obtain ⟨v67, e67, hf⟩ := ob hf
    refine rw_callSi (As := [.int v64]) X dX12_goesOn_67 clX12_206 pyX12_bits (mX12_bits l e67) (by decide) hP rfl (catL c1n (Nat.le_of_ble_eq_true rfl)) hl.1.1 (fun H locs hP => ?_)
    refine rv_istore X dX12_goesOn_70 hl (by decide) rfl (fun ls hl => ?_)
    have hl : LV ls 7 [(5, .int v67), (0, va_rf l0), (1, .int l1), (2, .int l2), (3, .int l3)] := hl
    refine lv_iload hx hb dX12_goesOn_72 (hl.at 0 rfl) ?_
    refine rw_aload_n X dX12_goesOn_74 rfl (hl.at 1 rfl) ?_
    obtain ⟨v75, e75, hf⟩ := ob hf
    refine rw_getR X dX12_goesOn_75 fl12_28 e75 rfl hP ?_
    refine lv_iload_n hx hb dX12_goesOn_78 rfl (hl.at 2 rfl) ?_
    obtain ⟨v79, e79, hf⟩ := ob hf
    refine rw_iald X dX12_goesOn_79 e79 hP ?_
    refine lv_icmp_ge hx hb (tgt := 105) dX12_goesOn_80 (by decide) (fun c80 => ?_) (fun c80 => ?_)
    · have hf := ifp hf c80
      refine lv_iload_n hx hb dX12_goesOn_105 rfl (hl.at 3 rfl) ?_
      refine lv_iconst (v := 1) hx hb dX12_goesOn_106 (by decide) ?_
      refine lv_isub hx hb dX12_goesOn_107 ?_
      refine rv_istore X dX12_goesOn_108 hl (by decide) rfl (fun ls hl => ?_)
      have hl : LV ls 7 [(6, .int (l2 - 1)), (5, .int v67), (0, va_rf l0), (1, .int l1), (2, .int l2), (3, .int l3)] := hl
      exact wX12_goesOn_110 X FU S l0 l1 v67 (l2 - 1) hf _ _ _ hP (hl.sub [2, 3, 1, 0] rfl)
    · have hf := ifn hf c80
      refine rw_aload_n X dX12_goesOn_83 rfl (hl.at 1 rfl) ?_
      refine lv_iload_n hx hb dX12_goesOn_84 rfl (hl.at 2 rfl) ?_
      refine lv_iconst (v := 3) hx hb dX12_goesOn_85 (by decide) ?_
      obtain ⟨u86, r86, hf⟩ := ob hf
      obtain ⟨v86, e86, hf⟩ := ob hf
      refine rw_callVi (As := [.int l1, .int 3]) X dX12_goesOn_86 clX12_168 pyX12_of (mX12_of l e86) (by decide) r86 rfl hP rfl (catL c1n (Nat.le_of_ble_eq_true rfl)) hl.1.1 (fun H locs hP => ?_)
      obtain ⟨v89, e89, hf⟩ := ob hf
      refine rw_callSi (As := [.int v86]) X dX12_goesOn_89 clX12_206 pyX12_bits (mX12_bits l e89) (by decide) hP rfl (catL c1n (Nat.le_of_ble_eq_true rfl)) hl.1.1 (fun H locs hP => ?_)
      refine lv_iload_n hx hb dX12_goesOn_92 rfl (hl.at 3 rfl) ?_
      refine rw_aload_n X dX12_goesOn_93 rfl (hl.at 1 rfl) ?_
      obtain ⟨v94, e94, hf⟩ := ob hf
      refine rw_getR X dX12_goesOn_94 fl12_28 e94 rfl hP ?_
      refine lv_iload_n hx hb dX12_goesOn_97 rfl (hl.at 2 rfl) ?_
      obtain ⟨v98, e98, hf⟩ := ob hf
      refine rw_iald X dX12_goesOn_98 e98 hP ?_
      refine lv_isub hx hb dX12_goesOn_99 ?_
      refine lv_icmp_gt hx hb (tgt := 105) dX12_goesOn_100 (by decide) (fun c100 => ?_) (fun c100 => ?_)
      · have hf := ifp hf c100
        refine lv_iload_n hx hb dX12_goesOn_105 rfl (hl.at 3 rfl) ?_
        refine lv_iconst (v := 1) hx hb dX12_goesOn_106 (by decide) ?_
        refine lv_isub hx hb dX12_goesOn_107 ?_
        refine rv_istore X dX12_goesOn_108 hl (by decide) rfl (fun ls hl => ?_)
        have hl : LV ls 7 [(6, .int (l2 - 1)), (5, .int v67), (0, va_rf l0), (1, .int l1), (2, .int l2), (3, .int l3)] := hl
        exact wX12_goesOn_110 X FU S l0 l1 v67 (l2 - 1) hf _ _ _ hP (hl.sub [2, 3, 1, 0] rfl)
      · have hf := ifn hf c100
        refine lv_iconst (v := 1) hx hb dX12_goesOn_103 (by decide) ?_
        cases hf
        exact rw_iret X dX12_goesOn_104 hP
  · have hf := ifn hf c51
    refine rw_aload_n X dX12_goesOn_54 rfl (hl.at 0 rfl) ?_
    refine lv_iload_n hx hb dX12_goesOn_55 rfl (hl.at 1 rfl) ?_
    refine lv_iload_n hx hb dX12_goesOn_56 rfl (hl.at 3 rfl) ?_
    obtain ⟨u57, r57, hf⟩ := ob hf
    obtain ⟨q57, e57, hf⟩ := ob hf
    refine rw_callVi (As := [.int l1, .int l3]) X dX12_goesOn_57 clX12_194 pyX12_asks (mX12_asks l e57) (by decide) r57 rfl hP rfl (catL c1n (Nat.le_of_ble_eq_true rfl)) hl.1.1 (fun H locs hP => ?_)
    cases hf
    exact rw_iret X dX12_goesOn_60 hP
def fX12_goesOn_28 (Y : LY) : Nat → HS → Option Nat → Int32 → Int32 → Int32 → Int32 → Option (HS × Int32)
  | 0, _, _, _, _, _, _ => none
  | n + 1, S, l0, l1, l2, l3, l4 =>
    if l2 ≤ l3 then
      fX12_goesOn_49 Y S l0 l1 l2 l3
    else
      if ((l4 >>> (l3 &&& 31)) &&& 1) = 1 then
        fX12_goesOn_28 Y n S l0 l1 l2 (l3 + 1) l4
      else
        fX12_goesOn_49 Y S l0 l1 l2 l3
set_option maxRecDepth 100000 in
set_option maxHeartbeats 4000000 in
theorem wX12_goesOn_28 {p : Program} {l : Launch} {e : Env} {R : Room} {s : State} {m : MethodId} {args : Array Value} {below : List Frame} {meth : Method} {c : Code} {G : GG} {Y : LY} {res : HS × Int32} (X : Cx p R s m args meth c RX12 cX12_goesOn 7 4 93 (fun q => q ∈ Y.1) G (some .int)) : ∀ (n : Nat) (S : HS) (l0 : Option Nat) (l1 : Int32) (l2 : Int32) (l3 : Int32) (l4 : Int32), fX12_goesOn_28 Y n S l0 l1 l2 l3 l4 = some res → ∀ (H : Heap) (locs : List Loc) (ls : Array Slot), HP (fun q => q ∈ Y.1) G Y s S H locs → LV ls 7 [(0, va_rf l0), (1, .int l1), (2, .int l2), (3, .int l3), (4, .int l4)] → W p l e R s m args below meth c H locs 0 0 (MQ below (QI G Y res.1 (some (.int res.2))) args s 0 0 (fun q => q ∈ Y.1)) (F0 m 28 ls []) := by
  have hx := X.1.1
  have hb := X.1.2.1
  intro n
  induction n with
  | zero =>
    intro S l0 l1 l2 l3 l4 hf
    cases hf
  | succ n ih =>
    intro S l0 l1 l2 l3 l4 hf H locs ls hP hl
    rw [fX12_goesOn_28] at hf
    refine lv_iload_n hx hb dX12_goesOn_28 rfl (hl.at 3 rfl) ?_
    refine lv_iload_n hx hb dX12_goesOn_29 rfl (hl.at 2 rfl) ?_
    refine lv_icmp_ge hx hb (tgt := 49) dX12_goesOn_30 (by decide) (fun c30 => ?_) (fun c30 => ?_)
    · have hf := ifp hf c30
      exact wX12_goesOn_49 X S l0 l1 l2 l3 hf _ _ _ hP (hl.sub [0, 1, 2, 3] rfl)
    · have hf := ifn hf c30
      refine lv_iload hx hb dX12_goesOn_33 (hl.at 4 rfl) ?_
      refine lv_iload_n hx hb dX12_goesOn_35 rfl (hl.at 3 rfl) ?_
      refine lv_ishr hx hb dX12_goesOn_36 ?_
      refine lv_iconst (v := 1) hx hb dX12_goesOn_37 (by decide) ?_
      refine lv_iand hx hb dX12_goesOn_38 ?_
      refine lv_iconst (v := 1) hx hb dX12_goesOn_39 (by decide) ?_
      refine lv_icmp_ne hx hb (tgt := 49) dX12_goesOn_40 (by decide) (fun c40 => ?_) (fun c40 => ?_)
      · have hf := ifn hf c40
        exact wX12_goesOn_49 X S l0 l1 l2 l3 hf _ _ _ hP (hl.sub [0, 1, 2, 3] rfl)
      · have hf := ifp hf c40
        refine rv_iinc (k := 3) (d := 1) X dX12_goesOn_43 hl rfl (by decide) (by decide) rfl (fun ls hl => ?_)
        have hl : LV ls 7 [(3, .int (l3 + 1)), (0, va_rf l0), (1, .int l1), (2, .int l2), (4, .int l4)] := hl
        refine lv_goto (tgt := 28) hx hb dX12_goesOn_46 (by decide) ?_
        exact ih S l0 l1 l2 (l3 + 1) l4 hf _ _ _ hP (hl.sub [1, 2, 3, 0, 4] rfl)
def fX12_goesOn (Y : LY) (S : HS) (l0 : Option Nat) (l1 : Int32) : Option (HS × Int32) :=
  (rcv Y 12 l0).bind fun _ =>
  (fX12_children Y S l0 l1).bind fun v2 =>
  (rcv Y 12 l0).bind fun _ =>
  (fX12_of Y S l0 l1 5).bind fun v9 =>
  (rcv Y 12 l0).bind fun _ =>
  (fX12_of Y S l0 l1 2).bind fun v16 =>
  (rcv Y 12 l0).bind fun _ =>
  (fX12_of Y S l0 l1 3).bind fun v22 =>
  fX12_goesOn_28 Y FU S l0 l1 v2 v9 (v16 ||| v22)
set_option maxRecDepth 100000 in
set_option maxHeartbeats 4000000 in
theorem mX12_goesOn (l : Launch) {G : GG} {Y : LY} {S : HS} {l0 : Option Nat} {l1 : Int32} {res : HS × Int32} (hf : fX12_goesOn Y S l0 l1 = some res) : MM l yX12_goesOn cX12_goesOn 7 (some .int) 4 93 G Y S [va_rf l0, .int l1] res.1 (some (.int res.2)) := by
  refine mm_of2 (plainFor_of_name (by decide +kernel)) (Nat.le_of_ble_eq_true rfl) (c1c (cr _) (c1c (ci _) c1n)) ?_
  intro p e R s m args below meth c X H locs ls hP hl
  have X : Cx p R s m args meth c RX12 cX12_goesOn 7 4 93 (fun q => q ∈ Y.1) G (some .int) := X
  have hx := X.1.1
  have hb := X.1.2.1
  have hl : LV ls 7 [(0, va_rf l0), (1, .int l1)] := hl
  unfold fX12_goesOn at hf
  refine rw_aload_n X dX12_goesOn_0 rfl (hl.at 0 rfl) ?_
  refine lv_iload_n hx hb dX12_goesOn_1 rfl (hl.at 1 rfl) ?_
  obtain ⟨u2, r2, hf⟩ := ob hf
  obtain ⟨v2, e2, hf⟩ := ob hf
  refine rw_callVi (As := [.int l1]) X dX12_goesOn_2 clX12_203 pyX12_children (mX12_children l e2) (by decide) r2 rfl hP rfl (catL c1n (Nat.le_of_ble_eq_true rfl)) hl.1.1 (fun H locs hP => ?_)
  refine rv_istore_n X dX12_goesOn_5 rfl hl (by decide) rfl (fun ls hl => ?_)
  have hl : LV ls 7 [(2, .int v2), (0, va_rf l0), (1, .int l1)] := hl
  refine rw_aload_n X dX12_goesOn_6 rfl (hl.at 1 rfl) ?_
  refine lv_iload_n hx hb dX12_goesOn_7 rfl (hl.at 2 rfl) ?_
  refine lv_iconst (v := 5) hx hb dX12_goesOn_8 (by decide) ?_
  obtain ⟨u9, r9, hf⟩ := ob hf
  obtain ⟨v9, e9, hf⟩ := ob hf
  refine rw_callVi (As := [.int l1, .int 5]) X dX12_goesOn_9 clX12_168 pyX12_of (mX12_of l e9) (by decide) r9 rfl hP rfl (catL c1n (Nat.le_of_ble_eq_true rfl)) hl.1.1 (fun H locs hP => ?_)
  refine rv_istore_n X dX12_goesOn_12 rfl hl (by decide) rfl (fun ls hl => ?_)
  have hl : LV ls 7 [(3, .int v9), (2, .int v2), (0, va_rf l0), (1, .int l1)] := hl
  refine rw_aload_n X dX12_goesOn_13 rfl (hl.at 2 rfl) ?_
  refine lv_iload_n hx hb dX12_goesOn_14 rfl (hl.at 3 rfl) ?_
  refine lv_iconst (v := 2) hx hb dX12_goesOn_15 (by decide) ?_
  obtain ⟨u16, r16, hf⟩ := ob hf
  obtain ⟨v16, e16, hf⟩ := ob hf
  refine rw_callVi (As := [.int l1, .int 2]) X dX12_goesOn_16 clX12_168 pyX12_of (mX12_of l e16) (by decide) r16 rfl hP rfl (catL c1n (Nat.le_of_ble_eq_true rfl)) hl.1.1 (fun H locs hP => ?_)
  refine rw_aload_n X dX12_goesOn_19 rfl (hl.at 2 rfl) ?_
  refine lv_iload_n hx hb dX12_goesOn_20 rfl (hl.at 3 rfl) ?_
  refine lv_iconst (v := 3) hx hb dX12_goesOn_21 (by decide) ?_
  obtain ⟨u22, r22, hf⟩ := ob hf
  obtain ⟨v22, e22, hf⟩ := ob hf
  refine rw_callVi (As := [.int l1, .int 3]) X dX12_goesOn_22 clX12_168 pyX12_of (mX12_of l e22) (by decide) r22 rfl hP rfl (catL (c1c (ci _) c1n) (Nat.le_of_ble_eq_true rfl)) hl.1.1 (fun H locs hP => ?_)
  refine lv_ior hx hb dX12_goesOn_25 ?_
  refine rv_istore X dX12_goesOn_26 hl (by decide) rfl (fun ls hl => ?_)
  have hl : LV ls 7 [(4, .int (v16 ||| v22)), (3, .int v9), (2, .int v2), (0, va_rf l0), (1, .int l1)] := hl
  exact wX12_goesOn_28 X FU S l0 l1 v2 v9 (v16 ||| v22) hf _ _ _ hP (hl.sub [3, 4, 2, 1, 0] rfl)
theorem dX12_enters_0 : decode cX12_enters 0 = .ok (.aload_n 0, 1) := by decide +kernel
theorem dX12_enters_1 : decode cX12_enters 1 = .ok (.iload_n 1, 1) := by decide +kernel
theorem dX12_enters_2 : decode cX12_enters 2 = .ok (.bipush 10, 2) := by decide +kernel
theorem dX12_enters_4 : decode cX12_enters 4 = .ok (.invokevirtual 175, 3) := by decide +kernel
theorem dX12_enters_7 : decode cX12_enters 7 = .ok (.aload_n 0, 1) := by decide +kernel
theorem dX12_enters_8 : decode cX12_enters 8 = .ok (.getfield 9, 3) := by decide +kernel
theorem dX12_enters_11 : decode cX12_enters 11 = .ok (.sipush 289, 3) := by decide +kernel
theorem dX12_enters_14 : decode cX12_enters 14 = .ok (.dup2, 1) := by decide +kernel
theorem dX12_enters_15 : decode cX12_enters 15 = .ok (.iaload, 1) := by decide +kernel
theorem dX12_enters_16 : decode cX12_enters 16 = .ok (.iconst 1, 1) := by decide +kernel
theorem dX12_enters_17 : decode cX12_enters 17 = .ok (.iadd, 1) := by decide +kernel
theorem dX12_enters_18 : decode cX12_enters 18 = .ok (.iastore, 1) := by decide +kernel
theorem dX12_enters_19 : decode cX12_enters 19 = .ok (.aload_n 0, 1) := by decide +kernel
theorem dX12_enters_20 : decode cX12_enters 20 = .ok (.iload_n 1, 1) := by decide +kernel
theorem dX12_enters_21 : decode cX12_enters 21 = .ok (.iconst 0, 1) := by decide +kernel
theorem dX12_enters_22 : decode cX12_enters 22 = .ok (.invokevirtual 168, 3) := by decide +kernel
theorem dX12_enters_25 : decode cX12_enters 25 = .ok (.ifCond .ne 45, 3) := by decide +kernel
theorem dX12_enters_28 : decode cX12_enters 28 = .ok (.aload_n 0, 1) := by decide +kernel
theorem dX12_enters_29 : decode cX12_enters 29 = .ok (.iload_n 1, 1) := by decide +kernel
theorem dX12_enters_30 : decode cX12_enters 30 = .ok (.iconst 0, 1) := by decide +kernel
theorem dX12_enters_31 : decode cX12_enters 31 = .ok (.iconst 1, 1) := by decide +kernel
theorem dX12_enters_32 : decode cX12_enters 32 = .ok (.invokevirtual 171, 3) := by decide +kernel
theorem dX12_enters_35 : decode cX12_enters 35 = .ok (.aload_n 0, 1) := by decide +kernel
theorem dX12_enters_36 : decode cX12_enters 36 = .ok (.iload_n 1, 1) := by decide +kernel
theorem dX12_enters_37 : decode cX12_enters 37 = .ok (.iconst 1, 1) := by decide +kernel
theorem dX12_enters_38 : decode cX12_enters 38 = .ok (.iconst 0, 1) := by decide +kernel
theorem dX12_enters_39 : decode cX12_enters 39 = .ok (.invokevirtual 171, 3) := by decide +kernel
theorem dX12_enters_42 : decode cX12_enters 42 = .ok (.aload_n 0, 1) := by decide +kernel
theorem dX12_enters_43 : decode cX12_enters 43 = .ok (.iload_n 1, 1) := by decide +kernel
theorem dX12_enters_44 : decode cX12_enters 44 = .ok (.iconst 2, 1) := by decide +kernel
theorem dX12_enters_45 : decode cX12_enters 45 = .ok (.iconst 0, 1) := by decide +kernel
theorem dX12_enters_46 : decode cX12_enters 46 = .ok (.invokevirtual 171, 3) := by decide +kernel
theorem dX12_enters_49 : decode cX12_enters 49 = .ok (.aload_n 0, 1) := by decide +kernel
theorem dX12_enters_50 : decode cX12_enters 50 = .ok (.iload_n 1, 1) := by decide +kernel
theorem dX12_enters_51 : decode cX12_enters 51 = .ok (.iconst 3, 1) := by decide +kernel
theorem dX12_enters_52 : decode cX12_enters 52 = .ok (.iconst 0, 1) := by decide +kernel
theorem dX12_enters_53 : decode cX12_enters 53 = .ok (.invokevirtual 171, 3) := by decide +kernel
theorem dX12_enters_56 : decode cX12_enters 56 = .ok (.aload_n 0, 1) := by decide +kernel
theorem dX12_enters_57 : decode cX12_enters 57 = .ok (.iload_n 1, 1) := by decide +kernel
theorem dX12_enters_58 : decode cX12_enters 58 = .ok (.iconst 4, 1) := by decide +kernel
theorem dX12_enters_59 : decode cX12_enters 59 = .ok (.iconst 0, 1) := by decide +kernel
theorem dX12_enters_60 : decode cX12_enters 60 = .ok (.invokevirtual 171, 3) := by decide +kernel
theorem dX12_enters_63 : decode cX12_enters 63 = .ok (.aload_n 0, 1) := by decide +kernel
theorem dX12_enters_64 : decode cX12_enters 64 = .ok (.iload_n 1, 1) := by decide +kernel
theorem dX12_enters_65 : decode cX12_enters 65 = .ok (.bipush 6, 2) := by decide +kernel
theorem dX12_enters_67 : decode cX12_enters 67 = .ok (.invokevirtual 175, 3) := by decide +kernel
theorem dX12_enters_70 : decode cX12_enters 70 = .ok (.aload_n 0, 1) := by decide +kernel
theorem dX12_enters_71 : decode cX12_enters 71 = .ok (.iload_n 1, 1) := by decide +kernel
theorem dX12_enters_72 : decode cX12_enters 72 = .ok (.iconst 5, 1) := by decide +kernel
theorem dX12_enters_73 : decode cX12_enters 73 = .ok (.iconst 0, 1) := by decide +kernel
theorem dX12_enters_74 : decode cX12_enters 74 = .ok (.invokevirtual 171, 3) := by decide +kernel
theorem dX12_enters_77 : decode cX12_enters 77 = .ok (.aload_n 0, 1) := by decide +kernel
theorem dX12_enters_78 : decode cX12_enters 78 = .ok (.getfield 25, 3) := by decide +kernel
theorem dX12_enters_81 : decode cX12_enters 81 = .ok (.iload_n 1, 1) := by decide +kernel
theorem dX12_enters_82 : decode cX12_enters 82 = .ok (.iaload, 1) := by decide +kernel
theorem dX12_enters_83 : decode cX12_enters 83 = .ok (.istore_n 2, 1) := by decide +kernel
theorem dX12_enters_84 : decode cX12_enters 84 = .ok (.iload_n 2, 1) := by decide +kernel
theorem dX12_enters_85 : decode cX12_enters 85 = .ok (.tableswitch 204 0 13 #[71, 71, 77, 91, 116, 116, 128, 128, 135, 204, 204, 204, 141, 166], 71) := by decide +kernel
theorem dX12_enters_156 : decode cX12_enters 156 = .ok (.aload_n 0, 1) := by decide +kernel
theorem dX12_enters_157 : decode cX12_enters 157 = .ok (.iload_n 1, 1) := by decide +kernel
theorem dX12_enters_158 : decode cX12_enters 158 = .ok (.invokevirtual 188, 3) := by decide +kernel
theorem dX12_enters_161 : decode cX12_enters 161 = .ok (.ireturn, 1) := by decide +kernel
theorem dX12_enters_162 : decode cX12_enters 162 = .ok (.aload_n 0, 1) := by decide +kernel
theorem dX12_enters_163 : decode cX12_enters 163 = .ok (.iload_n 1, 1) := by decide +kernel
theorem dX12_enters_164 : decode cX12_enters 164 = .ok (.invokevirtual 191, 3) := by decide +kernel
theorem dX12_enters_167 : decode cX12_enters 167 = .ok (.ifCond .eq 7, 3) := by decide +kernel
theorem dX12_enters_170 : decode cX12_enters 170 = .ok (.iconst 2, 1) := by decide +kernel
theorem dX12_enters_171 : decode cX12_enters 171 = .ok (.goto 4, 3) := by decide +kernel
theorem dX12_enters_174 : decode cX12_enters 174 = .ok (.iconst 3, 1) := by decide +kernel
theorem dX12_enters_175 : decode cX12_enters 175 = .ok (.ireturn, 1) := by decide +kernel
theorem dX12_enters_176 : decode cX12_enters 176 = .ok (.aload_n 0, 1) := by decide +kernel
theorem dX12_enters_177 : decode cX12_enters 177 = .ok (.iload_n 1, 1) := by decide +kernel
theorem dX12_enters_178 : decode cX12_enters 178 = .ok (.aload_n 0, 1) := by decide +kernel
theorem dX12_enters_179 : decode cX12_enters 179 = .ok (.getfield 40, 3) := by decide +kernel
theorem dX12_enters_182 : decode cX12_enters 182 = .ok (.iload_n 1, 1) := by decide +kernel
theorem dX12_enters_183 : decode cX12_enters 183 = .ok (.iaload, 1) := by decide +kernel
theorem dX12_enters_184 : decode cX12_enters 184 = .ok (.aload_n 0, 1) := by decide +kernel
theorem dX12_enters_185 : decode cX12_enters 185 = .ok (.getfield 43, 3) := by decide +kernel
theorem dX12_enters_188 : decode cX12_enters 188 = .ok (.iload_n 1, 1) := by decide +kernel
theorem dX12_enters_189 : decode cX12_enters 189 = .ok (.iaload, 1) := by decide +kernel
theorem dX12_enters_190 : decode cX12_enters 190 = .ok (.aload_n 0, 1) := by decide +kernel
theorem dX12_enters_191 : decode cX12_enters 191 = .ok (.getfield 46, 3) := by decide +kernel
theorem dX12_enters_194 : decode cX12_enters 194 = .ok (.iload_n 1, 1) := by decide +kernel
theorem dX12_enters_195 : decode cX12_enters 195 = .ok (.iaload, 1) := by decide +kernel
theorem dX12_enters_196 : decode cX12_enters 196 = .ok (.invokevirtual 164, 3) := by decide +kernel
theorem dX12_enters_199 : decode cX12_enters 199 = .ok (.iconst 2, 1) := by decide +kernel
theorem dX12_enters_200 : decode cX12_enters 200 = .ok (.ireturn, 1) := by decide +kernel
theorem dX12_enters_201 : decode cX12_enters 201 = .ok (.aload_n 0, 1) := by decide +kernel
theorem dX12_enters_202 : decode cX12_enters 202 = .ok (.iload_n 1, 1) := by decide +kernel
theorem dX12_enters_203 : decode cX12_enters 203 = .ok (.aload_n 0, 1) := by decide +kernel
theorem dX12_enters_204 : decode cX12_enters 204 = .ok (.iload_n 1, 1) := by decide +kernel
theorem dX12_enters_205 : decode cX12_enters 205 = .ok (.iconst 1, 1) := by decide +kernel
theorem dX12_enters_206 : decode cX12_enters 206 = .ok (.invokevirtual 168, 3) := by decide +kernel
theorem dX12_enters_209 : decode cX12_enters 209 = .ok (.invokevirtual 194, 3) := by decide +kernel
theorem dX12_enters_212 : decode cX12_enters 212 = .ok (.ireturn, 1) := by decide +kernel
theorem dX12_enters_213 : decode cX12_enters 213 = .ok (.aload_n 0, 1) := by decide +kernel
theorem dX12_enters_214 : decode cX12_enters 214 = .ok (.iload_n 1, 1) := by decide +kernel
theorem dX12_enters_215 : decode cX12_enters 215 = .ok (.iconst 0, 1) := by decide +kernel
theorem dX12_enters_216 : decode cX12_enters 216 = .ok (.invokevirtual 194, 3) := by decide +kernel
theorem dX12_enters_219 : decode cX12_enters 219 = .ok (.ireturn, 1) := by decide +kernel
theorem dX12_enters_220 : decode cX12_enters 220 = .ok (.aload_n 0, 1) := by decide +kernel
theorem dX12_enters_221 : decode cX12_enters 221 = .ok (.iload_n 1, 1) := by decide +kernel
theorem dX12_enters_222 : decode cX12_enters 222 = .ok (.invokevirtual 197, 3) := by decide +kernel
theorem dX12_enters_225 : decode cX12_enters 225 = .ok (.ireturn, 1) := by decide +kernel
theorem dX12_enters_226 : decode cX12_enters 226 = .ok (.aload_n 0, 1) := by decide +kernel
theorem dX12_enters_227 : decode cX12_enters 227 = .ok (.iload_n 1, 1) := by decide +kernel
theorem dX12_enters_228 : decode cX12_enters 228 = .ok (.invokevirtual 191, 3) := by decide +kernel
theorem dX12_enters_231 : decode cX12_enters 231 = .ok (.ifCond .eq 10, 3) := by decide +kernel
theorem dX12_enters_234 : decode cX12_enters 234 = .ok (.aload_n 0, 1) := by decide +kernel
theorem dX12_enters_235 : decode cX12_enters 235 = .ok (.iload_n 1, 1) := by decide +kernel
theorem dX12_enters_236 : decode cX12_enters 236 = .ok (.iconst 0, 1) := by decide +kernel
theorem dX12_enters_237 : decode cX12_enters 237 = .ok (.invokevirtual 194, 3) := by decide +kernel
theorem dX12_enters_240 : decode cX12_enters 240 = .ok (.ireturn, 1) := by decide +kernel
theorem dX12_enters_241 : decode cX12_enters 241 = .ok (.aload_n 0, 1) := by decide +kernel
theorem dX12_enters_242 : decode cX12_enters 242 = .ok (.iload_n 1, 1) := by decide +kernel
theorem dX12_enters_243 : decode cX12_enters 243 = .ok (.iconst 1, 1) := by decide +kernel
theorem dX12_enters_244 : decode cX12_enters 244 = .ok (.iadd, 1) := by decide +kernel
theorem dX12_enters_245 : decode cX12_enters 245 = .ok (.invokevirtual 200, 3) := by decide +kernel
theorem dX12_enters_248 : decode cX12_enters 248 = .ok (.pop, 1) := by decide +kernel
theorem dX12_enters_249 : decode cX12_enters 249 = .ok (.iconst 3, 1) := by decide +kernel
theorem dX12_enters_250 : decode cX12_enters 250 = .ok (.ireturn, 1) := by decide +kernel
theorem dX12_enters_251 : decode cX12_enters 251 = .ok (.aload_n 0, 1) := by decide +kernel
theorem dX12_enters_252 : decode cX12_enters 252 = .ok (.iload_n 1, 1) := by decide +kernel
theorem dX12_enters_253 : decode cX12_enters 253 = .ok (.iconst 1, 1) := by decide +kernel
theorem dX12_enters_254 : decode cX12_enters 254 = .ok (.invokevirtual 168, 3) := by decide +kernel
theorem dX12_enters_257 : decode cX12_enters 257 = .ok (.aload_n 0, 1) := by decide +kernel
theorem dX12_enters_258 : decode cX12_enters 258 = .ok (.getfield 28, 3) := by decide +kernel
theorem dX12_enters_261 : decode cX12_enters 261 = .ok (.iload_n 1, 1) := by decide +kernel
theorem dX12_enters_262 : decode cX12_enters 262 = .ok (.iaload, 1) := by decide +kernel
theorem dX12_enters_263 : decode cX12_enters 263 = .ok (.if_icmp .ne 13, 3) := by decide +kernel
theorem dX12_enters_266 : decode cX12_enters 266 = .ok (.aload_n 0, 1) := by decide +kernel
theorem dX12_enters_267 : decode cX12_enters 267 = .ok (.iload_n 1, 1) := by decide +kernel
theorem dX12_enters_268 : decode cX12_enters 268 = .ok (.iconst 1, 1) := by decide +kernel
theorem dX12_enters_269 : decode cX12_enters 269 = .ok (.iadd, 1) := by decide +kernel
theorem dX12_enters_270 : decode cX12_enters 270 = .ok (.invokevirtual 200, 3) := by decide +kernel
theorem dX12_enters_273 : decode cX12_enters 273 = .ok (.pop, 1) := by decide +kernel
theorem dX12_enters_274 : decode cX12_enters 274 = .ok (.iconst 3, 1) := by decide +kernel
theorem dX12_enters_275 : decode cX12_enters 275 = .ok (.ireturn, 1) := by decide +kernel
theorem dX12_enters_276 : decode cX12_enters 276 = .ok (.aload_n 0, 1) := by decide +kernel
theorem dX12_enters_277 : decode cX12_enters 277 = .ok (.iload_n 1, 1) := by decide +kernel
theorem dX12_enters_278 : decode cX12_enters 278 = .ok (.iconst 1, 1) := by decide +kernel
theorem dX12_enters_279 : decode cX12_enters 279 = .ok (.invokevirtual 175, 3) := by decide +kernel
theorem dX12_enters_282 : decode cX12_enters 282 = .ok (.aload_n 0, 1) := by decide +kernel
theorem dX12_enters_283 : decode cX12_enters 283 = .ok (.iload_n 1, 1) := by decide +kernel
theorem dX12_enters_284 : decode cX12_enters 284 = .ok (.iconst 0, 1) := by decide +kernel
theorem dX12_enters_285 : decode cX12_enters 285 = .ok (.invokevirtual 194, 3) := by decide +kernel
theorem dX12_enters_288 : decode cX12_enters 288 = .ok (.ireturn, 1) := by decide +kernel
theorem dX12_enters_289 : decode cX12_enters 289 = .ok (.aload_n 0, 1) := by decide +kernel
theorem dX12_enters_290 : decode cX12_enters 290 = .ok (.iload_n 1, 1) := by decide +kernel
theorem dX12_enters_291 : decode cX12_enters 291 = .ok (.iconst 0, 1) := by decide +kernel
theorem dX12_enters_292 : decode cX12_enters 292 = .ok (.invokevirtual 194, 3) := by decide +kernel
theorem dX12_enters_295 : decode cX12_enters 295 = .ok (.ireturn, 1) := by decide +kernel
theorem pyX12_enters : PY yX12_enters 1 := ⟨by decide +kernel, by decide +kernel, by decide +kernel⟩
def fX12_enters_201 (Y : LY) (S : HS) (l0 : Option Nat) (l1 : Int32) : Option (HS × Int32) :=
  (rcv Y 12 l0).bind fun _ =>
  (fX12_of Y S l0 l1 1).bind fun v206 =>
  (rcv Y 12 l0).bind fun _ =>
  (fX12_asks Y S l0 l1 v206).bind fun q209 =>
  some (q209.1, q209.2)
set_option maxRecDepth 100000 in
set_option maxHeartbeats 4000000 in
theorem wX12_enters_201 {p : Program} {l : Launch} {e : Env} {R : Room} {s : State} {m : MethodId} {args : Array Value} {below : List Frame} {meth : Method} {c : Code} {G : GG} {Y : LY} {res : HS × Int32} (X : Cx p R s m args meth c RX12 cX12_enters 3 5 119 (fun q => q ∈ Y.1) G (some .int)) : ∀ (S : HS) (l0 : Option Nat) (l1 : Int32), fX12_enters_201 Y S l0 l1 = some res → ∀ (H : Heap) (locs : List Loc) (ls : Array Slot), HP (fun q => q ∈ Y.1) G Y s S H locs → LV ls 3 [(0, va_rf l0), (1, .int l1)] → W p l e R s m args below meth c H locs 0 0 (MQ below (QI G Y res.1 (some (.int res.2))) args s 0 0 (fun q => q ∈ Y.1)) (F0 m 201 ls []) := by
  have hx := X.1.1
  have hb := X.1.2.1
  intro S l0 l1 hf H locs ls hP hl
  unfold fX12_enters_201 at hf
  refine rw_aload_n X dX12_enters_201 rfl (hl.at 0 rfl) ?_
  refine lv_iload_n hx hb dX12_enters_202 rfl (hl.at 1 rfl) ?_
  refine rw_aload_n X dX12_enters_203 rfl (hl.at 0 rfl) ?_
  refine lv_iload_n hx hb dX12_enters_204 rfl (hl.at 1 rfl) ?_
  refine lv_iconst (v := 1) hx hb dX12_enters_205 (by decide) ?_
  obtain ⟨u206, r206, hf⟩ := ob hf
  obtain ⟨v206, e206, hf⟩ := ob hf
  refine rw_callVi (As := [.int l1, .int 1]) X dX12_enters_206 clX12_168 pyX12_of (mX12_of l e206) (by decide) r206 rfl hP rfl (catL (c1c (ci _) (c1c (cr _) c1n)) (Nat.le_of_ble_eq_true rfl)) hl.1.1 (fun H locs hP => ?_)
  obtain ⟨u209, r209, hf⟩ := ob hf
  obtain ⟨q209, e209, hf⟩ := ob hf
  refine rw_callVi (As := [.int l1, .int v206]) X dX12_enters_209 clX12_194 pyX12_asks (mX12_asks l e209) (by decide) r209 rfl hP rfl (catL c1n (Nat.le_of_ble_eq_true rfl)) hl.1.1 (fun H locs hP => ?_)
  cases hf
  exact rw_iret X dX12_enters_212 hP
def fX12_enters_70 (Y : LY) (S : HS) (l0 : Option Nat) (l1 : Int32) : Option (HS × Int32) :=
  (rcv Y 12 l0).bind fun _ =>
  (fX12_sets Y S l0 l1 5 0).bind fun S74 =>
  (gR Y 12 1209 l0 S74).bind fun v78 =>
  (gA Y 14 v78 l1 S74).bind fun v82 =>
  if v82 = 0 then
    (rcv Y 12 l0).bind fun _ =>
    (fX12_acts Y S74 l0 l1).bind fun q158 =>
    some (q158.1, q158.2)
  else
  if v82 = 1 then
    (rcv Y 12 l0).bind fun _ =>
    (fX12_acts Y S74 l0 l1).bind fun q158 =>
    some (q158.1, q158.2)
  else
  if v82 = 2 then
    (rcv Y 12 l0).bind fun _ =>
    (fX12_holds Y S74 l0 l1).bind fun v164 =>
    if v164 = 0 then
      some (S74, 3)
    else
      some (S74, 2)
  else
  if v82 = 3 then
    (gR Y 12 1214 l0 S74).bind fun v179 =>
    (gA Y 14 v179 l1 S74).bind fun v183 =>
    (gR Y 12 1215 l0 S74).bind fun v185 =>
    (gA Y 14 v185 l1 S74).bind fun v189 =>
    (gR Y 12 1216 l0 S74).bind fun v191 =>
    (gA Y 14 v191 l1 S74).bind fun v195 =>
    (rcv Y 12 l0).bind fun _ =>
    (fX12_does Y S74 l0 l1 v183 v189 v195).bind fun S196 =>
    some (S196, 2)
  else
  if v82 = 4 then
    fX12_enters_201 Y S74 l0 l1
  else
  if v82 = 5 then
    fX12_enters_201 Y S74 l0 l1
  else
  if v82 = 6 then
    (rcv Y 12 l0).bind fun _ =>
    (fX12_asks Y S74 l0 l1 0).bind fun q216 =>
    some (q216.1, q216.2)
  else
  if v82 = 7 then
    (rcv Y 12 l0).bind fun _ =>
    (fX12_asks Y S74 l0 l1 0).bind fun q216 =>
    some (q216.1, q216.2)
  else
  if v82 = 8 then
    (rcv Y 12 l0).bind fun _ =>
    (fX12_goesOn Y S74 l0 l1).bind fun q222 =>
    some (q222.1, q222.2)
  else
  if v82 = 9 then
    (rcv Y 12 l0).bind fun _ =>
    (fX12_asks Y S74 l0 l1 0).bind fun q292 =>
    some (q292.1, q292.2)
  else
  if v82 = 10 then
    (rcv Y 12 l0).bind fun _ =>
    (fX12_asks Y S74 l0 l1 0).bind fun q292 =>
    some (q292.1, q292.2)
  else
  if v82 = 11 then
    (rcv Y 12 l0).bind fun _ =>
    (fX12_asks Y S74 l0 l1 0).bind fun q292 =>
    some (q292.1, q292.2)
  else
  if v82 = 12 then
    (rcv Y 12 l0).bind fun _ =>
    (fX12_holds Y S74 l0 l1).bind fun v228 =>
    if v228 = 0 then
      (rcv Y 12 l0).bind fun _ =>
      (fX12_aborts Y S74 l0 (l1 + 1)).bind fun q245 =>
      some (q245.1, 3)
    else
      (rcv Y 12 l0).bind fun _ =>
      (fX12_asks Y S74 l0 l1 0).bind fun q237 =>
      some (q237.1, q237.2)
  else
  if v82 = 13 then
    (rcv Y 12 l0).bind fun _ =>
    (fX12_of Y S74 l0 l1 1).bind fun v254 =>
    (gR Y 12 1210 l0 S74).bind fun v258 =>
    (gA Y 14 v258 l1 S74).bind fun v262 =>
    if v254 = v262 then
      (rcv Y 12 l0).bind fun _ =>
      (fX12_aborts Y S74 l0 (l1 + 1)).bind fun q270 =>
      some (q270.1, 3)
    else
      (rcv Y 12 l0).bind fun _ =>
      (fX12_adds Y S74 l0 l1 1).bind fun S279 =>
      (rcv Y 12 l0).bind fun _ =>
      (fX12_asks Y S279 l0 l1 0).bind fun q285 =>
      some (q285.1, q285.2)
  else
  (rcv Y 12 l0).bind fun _ =>
  (fX12_asks Y S74 l0 l1 0).bind fun q292 =>
  some (q292.1, q292.2)
set_option maxRecDepth 100000 in
set_option maxHeartbeats 4000000 in
theorem wX12_enters_70 {p : Program} {l : Launch} {e : Env} {R : Room} {s : State} {m : MethodId} {args : Array Value} {below : List Frame} {meth : Method} {c : Code} {G : GG} {Y : LY} {res : HS × Int32} (X : Cx p R s m args meth c RX12 cX12_enters 3 5 119 (fun q => q ∈ Y.1) G (some .int)) : ∀ (S : HS) (l0 : Option Nat) (l1 : Int32), fX12_enters_70 Y S l0 l1 = some res → ∀ (H : Heap) (locs : List Loc) (ls : Array Slot), HP (fun q => q ∈ Y.1) G Y s S H locs → LV ls 3 [(0, va_rf l0), (1, .int l1)] → W p l e R s m args below meth c H locs 0 0 (MQ below (QI G Y res.1 (some (.int res.2))) args s 0 0 (fun q => q ∈ Y.1)) (F0 m 70 ls []) := by
  have hx := X.1.1
  have hb := X.1.2.1
  intro S l0 l1 hf H locs ls hP hl
  unfold fX12_enters_70 at hf
  refine rw_aload_n X dX12_enters_70 rfl (hl.at 0 rfl) ?_
  refine lv_iload_n hx hb dX12_enters_71 rfl (hl.at 1 rfl) ?_
  refine lv_iconst (v := 5) hx hb dX12_enters_72 (by decide) ?_
  refine lv_iconst (v := 0) hx hb dX12_enters_73 (by decide) ?_
  obtain ⟨u74, r74, hf⟩ := ob hf
  obtain ⟨S74, e74, hf⟩ := ob hf
  refine rw_callVv (As := [.int l1, .int 5, .int 0]) X dX12_enters_74 clX12_171 pyX12_sets (mX12_sets l e74) (by decide) r74 rfl hP rfl (catL c1n (Nat.le_of_ble_eq_true rfl)) hl.1.1 (fun H locs hP => ?_)
  refine rw_aload_n X dX12_enters_77 rfl (hl.at 0 rfl) ?_
  obtain ⟨v78, e78, hf⟩ := ob hf
  refine rw_getR X dX12_enters_78 fl12_25 e78 rfl hP ?_
  refine lv_iload_n hx hb dX12_enters_81 rfl (hl.at 1 rfl) ?_
  obtain ⟨v82, e82, hf⟩ := ob hf
  refine rw_iald X dX12_enters_82 e82 hP ?_
  refine rv_istore_n X dX12_enters_83 rfl hl (by decide) rfl (fun ls hl => ?_)
  have hl : LV ls 3 [(2, .int v82), (0, va_rf l0), (1, .int l1)] := hl
  refine lv_iload_n hx hb dX12_enters_84 rfl (hl.at 0 rfl) ?_
  by_cases c85_0 : v82 = 0
  · have hf := ifp hf c85_0
    refine lv_tableIn (tgt := 156) hx hb dX12_enters_85 (by rw [c85_0]; decide) (by rw [c85_0]; decide) (by rw [c85_0]; rfl) (by decide) ?_
    refine rw_aload_n X dX12_enters_156 rfl (hl.at 1 rfl) ?_
    refine lv_iload_n hx hb dX12_enters_157 rfl (hl.at 2 rfl) ?_
    obtain ⟨u158, r158, hf⟩ := ob hf
    obtain ⟨q158, e158, hf⟩ := ob hf
    refine rw_callVi (As := [.int l1]) X dX12_enters_158 clX12_188 pyX12_acts (mX12_acts l e158) (by decide) r158 rfl hP rfl (catL c1n (Nat.le_of_ble_eq_true rfl)) hl.1.1 (fun H locs hP => ?_)
    cases hf
    exact rw_iret X dX12_enters_161 hP
  have hf := ifn hf c85_0
  by_cases c85_1 : v82 = 1
  · have hf := ifp hf c85_1
    refine lv_tableIn (tgt := 156) hx hb dX12_enters_85 (by rw [c85_1]; decide) (by rw [c85_1]; decide) (by rw [c85_1]; rfl) (by decide) ?_
    refine rw_aload_n X dX12_enters_156 rfl (hl.at 1 rfl) ?_
    refine lv_iload_n hx hb dX12_enters_157 rfl (hl.at 2 rfl) ?_
    obtain ⟨u158, r158, hf⟩ := ob hf
    obtain ⟨q158, e158, hf⟩ := ob hf
    refine rw_callVi (As := [.int l1]) X dX12_enters_158 clX12_188 pyX12_acts (mX12_acts l e158) (by decide) r158 rfl hP rfl (catL c1n (Nat.le_of_ble_eq_true rfl)) hl.1.1 (fun H locs hP => ?_)
    cases hf
    exact rw_iret X dX12_enters_161 hP
  have hf := ifn hf c85_1
  by_cases c85_2 : v82 = 2
  · have hf := ifp hf c85_2
    refine lv_tableIn (tgt := 162) hx hb dX12_enters_85 (by rw [c85_2]; decide) (by rw [c85_2]; decide) (by rw [c85_2]; rfl) (by decide) ?_
    refine rw_aload_n X dX12_enters_162 rfl (hl.at 1 rfl) ?_
    refine lv_iload_n hx hb dX12_enters_163 rfl (hl.at 2 rfl) ?_
    obtain ⟨u164, r164, hf⟩ := ob hf
    obtain ⟨v164, e164, hf⟩ := ob hf
    refine rw_callVi (As := [.int l1]) X dX12_enters_164 clX12_191 pyX12_holds (mX12_holds l e164) (by decide) r164 rfl hP rfl (catL c1n (Nat.le_of_ble_eq_true rfl)) hl.1.1 (fun H locs hP => ?_)
    refine lv_if_eq hx hb (tgt := 174) dX12_enters_167 (by decide) (fun c167 => ?_) (fun c167 => ?_)
    · have hf := ifp hf c167
      refine lv_iconst (v := 3) hx hb dX12_enters_174 (by decide) ?_
      cases hf
      exact rw_iret X dX12_enters_175 hP
    · have hf := ifn hf c167
      refine lv_iconst (v := 2) hx hb dX12_enters_170 (by decide) ?_
      refine lv_goto (tgt := 175) hx hb dX12_enters_171 (by decide) ?_
      cases hf
      exact rw_iret X dX12_enters_175 hP
  have hf := ifn hf c85_2
  by_cases c85_3 : v82 = 3
  · have hf := ifp hf c85_3
    refine lv_tableIn (tgt := 176) hx hb dX12_enters_85 (by rw [c85_3]; decide) (by rw [c85_3]; decide) (by rw [c85_3]; rfl) (by decide) ?_
    refine rw_aload_n X dX12_enters_176 rfl (hl.at 1 rfl) ?_
    refine lv_iload_n hx hb dX12_enters_177 rfl (hl.at 2 rfl) ?_
    refine rw_aload_n X dX12_enters_178 rfl (hl.at 1 rfl) ?_
    obtain ⟨v179, e179, hf⟩ := ob hf
    refine rw_getR X dX12_enters_179 fl12_40 e179 rfl hP ?_
    refine lv_iload_n hx hb dX12_enters_182 rfl (hl.at 2 rfl) ?_
    obtain ⟨v183, e183, hf⟩ := ob hf
    refine rw_iald X dX12_enters_183 e183 hP ?_
    refine rw_aload_n X dX12_enters_184 rfl (hl.at 1 rfl) ?_
    obtain ⟨v185, e185, hf⟩ := ob hf
    refine rw_getR X dX12_enters_185 fl12_43 e185 rfl hP ?_
    refine lv_iload_n hx hb dX12_enters_188 rfl (hl.at 2 rfl) ?_
    obtain ⟨v189, e189, hf⟩ := ob hf
    refine rw_iald X dX12_enters_189 e189 hP ?_
    refine rw_aload_n X dX12_enters_190 rfl (hl.at 1 rfl) ?_
    obtain ⟨v191, e191, hf⟩ := ob hf
    refine rw_getR X dX12_enters_191 fl12_46 e191 rfl hP ?_
    refine lv_iload_n hx hb dX12_enters_194 rfl (hl.at 2 rfl) ?_
    obtain ⟨v195, e195, hf⟩ := ob hf
    refine rw_iald X dX12_enters_195 e195 hP ?_
    obtain ⟨u196, r196, hf⟩ := ob hf
    obtain ⟨S196, e196, hf⟩ := ob hf
    refine rw_callVv (As := [.int l1, .int v183, .int v189, .int v195]) X dX12_enters_196 clX12_164 pyX12_does (mX12_does l e196) (by decide) r196 rfl hP rfl (catL c1n (Nat.le_of_ble_eq_true rfl)) hl.1.1 (fun H locs hP => ?_)
    refine lv_iconst (v := 2) hx hb dX12_enters_199 (by decide) ?_
    cases hf
    exact rw_iret X dX12_enters_200 hP
  have hf := ifn hf c85_3
  by_cases c85_4 : v82 = 4
  · have hf := ifp hf c85_4
    refine lv_tableIn (tgt := 201) hx hb dX12_enters_85 (by rw [c85_4]; decide) (by rw [c85_4]; decide) (by rw [c85_4]; rfl) (by decide) ?_
    exact wX12_enters_201 X S74 l0 l1 hf _ _ _ hP (hl.sub [1, 2] rfl)
  have hf := ifn hf c85_4
  by_cases c85_5 : v82 = 5
  · have hf := ifp hf c85_5
    refine lv_tableIn (tgt := 201) hx hb dX12_enters_85 (by rw [c85_5]; decide) (by rw [c85_5]; decide) (by rw [c85_5]; rfl) (by decide) ?_
    exact wX12_enters_201 X S74 l0 l1 hf _ _ _ hP (hl.sub [1, 2] rfl)
  have hf := ifn hf c85_5
  by_cases c85_6 : v82 = 6
  · have hf := ifp hf c85_6
    refine lv_tableIn (tgt := 213) hx hb dX12_enters_85 (by rw [c85_6]; decide) (by rw [c85_6]; decide) (by rw [c85_6]; rfl) (by decide) ?_
    refine rw_aload_n X dX12_enters_213 rfl (hl.at 1 rfl) ?_
    refine lv_iload_n hx hb dX12_enters_214 rfl (hl.at 2 rfl) ?_
    refine lv_iconst (v := 0) hx hb dX12_enters_215 (by decide) ?_
    obtain ⟨u216, r216, hf⟩ := ob hf
    obtain ⟨q216, e216, hf⟩ := ob hf
    refine rw_callVi (As := [.int l1, .int 0]) X dX12_enters_216 clX12_194 pyX12_asks (mX12_asks l e216) (by decide) r216 rfl hP rfl (catL c1n (Nat.le_of_ble_eq_true rfl)) hl.1.1 (fun H locs hP => ?_)
    cases hf
    exact rw_iret X dX12_enters_219 hP
  have hf := ifn hf c85_6
  by_cases c85_7 : v82 = 7
  · have hf := ifp hf c85_7
    refine lv_tableIn (tgt := 213) hx hb dX12_enters_85 (by rw [c85_7]; decide) (by rw [c85_7]; decide) (by rw [c85_7]; rfl) (by decide) ?_
    refine rw_aload_n X dX12_enters_213 rfl (hl.at 1 rfl) ?_
    refine lv_iload_n hx hb dX12_enters_214 rfl (hl.at 2 rfl) ?_
    refine lv_iconst (v := 0) hx hb dX12_enters_215 (by decide) ?_
    obtain ⟨u216, r216, hf⟩ := ob hf
    obtain ⟨q216, e216, hf⟩ := ob hf
    refine rw_callVi (As := [.int l1, .int 0]) X dX12_enters_216 clX12_194 pyX12_asks (mX12_asks l e216) (by decide) r216 rfl hP rfl (catL c1n (Nat.le_of_ble_eq_true rfl)) hl.1.1 (fun H locs hP => ?_)
    cases hf
    exact rw_iret X dX12_enters_219 hP
  have hf := ifn hf c85_7
  by_cases c85_8 : v82 = 8
  · have hf := ifp hf c85_8
    refine lv_tableIn (tgt := 220) hx hb dX12_enters_85 (by rw [c85_8]; decide) (by rw [c85_8]; decide) (by rw [c85_8]; rfl) (by decide) ?_
    refine rw_aload_n X dX12_enters_220 rfl (hl.at 1 rfl) ?_
    refine lv_iload_n hx hb dX12_enters_221 rfl (hl.at 2 rfl) ?_
    obtain ⟨u222, r222, hf⟩ := ob hf
    obtain ⟨q222, e222, hf⟩ := ob hf
    refine rw_callVi (As := [.int l1]) X dX12_enters_222 clX12_197 pyX12_goesOn (mX12_goesOn l e222) (by decide) r222 rfl hP rfl (catL c1n (Nat.le_of_ble_eq_true rfl)) hl.1.1 (fun H locs hP => ?_)
    cases hf
    exact rw_iret X dX12_enters_225 hP
  have hf := ifn hf c85_8
  by_cases c85_9 : v82 = 9
  · have hf := ifp hf c85_9
    refine lv_tableIn (tgt := 289) hx hb dX12_enters_85 (by rw [c85_9]; decide) (by rw [c85_9]; decide) (by rw [c85_9]; rfl) (by decide) ?_
    refine rw_aload_n X dX12_enters_289 rfl (hl.at 1 rfl) ?_
    refine lv_iload_n hx hb dX12_enters_290 rfl (hl.at 2 rfl) ?_
    refine lv_iconst (v := 0) hx hb dX12_enters_291 (by decide) ?_
    obtain ⟨u292, r292, hf⟩ := ob hf
    obtain ⟨q292, e292, hf⟩ := ob hf
    refine rw_callVi (As := [.int l1, .int 0]) X dX12_enters_292 clX12_194 pyX12_asks (mX12_asks l e292) (by decide) r292 rfl hP rfl (catL c1n (Nat.le_of_ble_eq_true rfl)) hl.1.1 (fun H locs hP => ?_)
    cases hf
    exact rw_iret X dX12_enters_295 hP
  have hf := ifn hf c85_9
  by_cases c85_10 : v82 = 10
  · have hf := ifp hf c85_10
    refine lv_tableIn (tgt := 289) hx hb dX12_enters_85 (by rw [c85_10]; decide) (by rw [c85_10]; decide) (by rw [c85_10]; rfl) (by decide) ?_
    refine rw_aload_n X dX12_enters_289 rfl (hl.at 1 rfl) ?_
    refine lv_iload_n hx hb dX12_enters_290 rfl (hl.at 2 rfl) ?_
    refine lv_iconst (v := 0) hx hb dX12_enters_291 (by decide) ?_
    obtain ⟨u292, r292, hf⟩ := ob hf
    obtain ⟨q292, e292, hf⟩ := ob hf
    refine rw_callVi (As := [.int l1, .int 0]) X dX12_enters_292 clX12_194 pyX12_asks (mX12_asks l e292) (by decide) r292 rfl hP rfl (catL c1n (Nat.le_of_ble_eq_true rfl)) hl.1.1 (fun H locs hP => ?_)
    cases hf
    exact rw_iret X dX12_enters_295 hP
  have hf := ifn hf c85_10
  by_cases c85_11 : v82 = 11
  · have hf := ifp hf c85_11
    refine lv_tableIn (tgt := 289) hx hb dX12_enters_85 (by rw [c85_11]; decide) (by rw [c85_11]; decide) (by rw [c85_11]; rfl) (by decide) ?_
    refine rw_aload_n X dX12_enters_289 rfl (hl.at 1 rfl) ?_
    refine lv_iload_n hx hb dX12_enters_290 rfl (hl.at 2 rfl) ?_
    refine lv_iconst (v := 0) hx hb dX12_enters_291 (by decide) ?_
    obtain ⟨u292, r292, hf⟩ := ob hf
    obtain ⟨q292, e292, hf⟩ := ob hf
    refine rw_callVi (As := [.int l1, .int 0]) X dX12_enters_292 clX12_194 pyX12_asks (mX12_asks l e292) (by decide) r292 rfl hP rfl (catL c1n (Nat.le_of_ble_eq_true rfl)) hl.1.1 (fun H locs hP => ?_)
    cases hf
    exact rw_iret X dX12_enters_295 hP
  have hf := ifn hf c85_11
  by_cases c85_12 : v82 = 12
  · have hf := ifp hf c85_12
    refine lv_tableIn (tgt := 226) hx hb dX12_enters_85 (by rw [c85_12]; decide) (by rw [c85_12]; decide) (by rw [c85_12]; rfl) (by decide) ?_
    refine rw_aload_n X dX12_enters_226 rfl (hl.at 1 rfl) ?_
    refine lv_iload_n hx hb dX12_enters_227 rfl (hl.at 2 rfl) ?_
    obtain ⟨u228, r228, hf⟩ := ob hf
    obtain ⟨v228, e228, hf⟩ := ob hf
    refine rw_callVi (As := [.int l1]) X dX12_enters_228 clX12_191 pyX12_holds (mX12_holds l e228) (by decide) r228 rfl hP rfl (catL c1n (Nat.le_of_ble_eq_true rfl)) hl.1.1 (fun H locs hP => ?_)
    refine lv_if_eq hx hb (tgt := 241) dX12_enters_231 (by decide) (fun c231 => ?_) (fun c231 => ?_)
    · have hf := ifp hf c231
      refine rw_aload_n X dX12_enters_241 rfl (hl.at 1 rfl) ?_
      refine lv_iload_n hx hb dX12_enters_242 rfl (hl.at 2 rfl) ?_
      refine lv_iconst (v := 1) hx hb dX12_enters_243 (by decide) ?_
      refine lv_iadd hx hb dX12_enters_244 ?_
      obtain ⟨u245, r245, hf⟩ := ob hf
      obtain ⟨q245, e245, hf⟩ := ob hf
      refine rw_callVi (As := [.int (l1 + 1)]) X dX12_enters_245 clX12_200 pyX12_aborts (mX12_aborts l e245) (by decide) r245 rfl hP rfl (catL c1n (Nat.le_of_ble_eq_true rfl)) hl.1.1 (fun H locs hP => ?_)
      refine lv_pop hx hb dX12_enters_248 (ci _) ?_
      refine lv_iconst (v := 3) hx hb dX12_enters_249 (by decide) ?_
      cases hf
      exact rw_iret X dX12_enters_250 hP
    · have hf := ifn hf c231
      refine rw_aload_n X dX12_enters_234 rfl (hl.at 1 rfl) ?_
      refine lv_iload_n hx hb dX12_enters_235 rfl (hl.at 2 rfl) ?_
      refine lv_iconst (v := 0) hx hb dX12_enters_236 (by decide) ?_
      obtain ⟨u237, r237, hf⟩ := ob hf
      obtain ⟨q237, e237, hf⟩ := ob hf
      refine rw_callVi (As := [.int l1, .int 0]) X dX12_enters_237 clX12_194 pyX12_asks (mX12_asks l e237) (by decide) r237 rfl hP rfl (catL c1n (Nat.le_of_ble_eq_true rfl)) hl.1.1 (fun H locs hP => ?_)
      cases hf
      exact rw_iret X dX12_enters_240 hP
  have hf := ifn hf c85_12
  by_cases c85_13 : v82 = 13
  · have hf := ifp hf c85_13
    refine lv_tableIn (tgt := 251) hx hb dX12_enters_85 (by rw [c85_13]; decide) (by rw [c85_13]; decide) (by rw [c85_13]; rfl) (by decide) ?_
    refine rw_aload_n X dX12_enters_251 rfl (hl.at 1 rfl) ?_
    refine lv_iload_n hx hb dX12_enters_252 rfl (hl.at 2 rfl) ?_
    refine lv_iconst (v := 1) hx hb dX12_enters_253 (by decide) ?_
    obtain ⟨u254, r254, hf⟩ := ob hf
    obtain ⟨v254, e254, hf⟩ := ob hf
    refine rw_callVi (As := [.int l1, .int 1]) X dX12_enters_254 clX12_168 pyX12_of (mX12_of l e254) (by decide) r254 rfl hP rfl (catL c1n (Nat.le_of_ble_eq_true rfl)) hl.1.1 (fun H locs hP => ?_)
    refine rw_aload_n X dX12_enters_257 rfl (hl.at 1 rfl) ?_
    obtain ⟨v258, e258, hf⟩ := ob hf
    refine rw_getR X dX12_enters_258 fl12_28 e258 rfl hP ?_
    refine lv_iload_n hx hb dX12_enters_261 rfl (hl.at 2 rfl) ?_
    obtain ⟨v262, e262, hf⟩ := ob hf
    refine rw_iald X dX12_enters_262 e262 hP ?_
    refine lv_icmp_ne hx hb (tgt := 276) dX12_enters_263 (by decide) (fun c263 => ?_) (fun c263 => ?_)
    · have hf := ifn hf c263
      refine rw_aload_n X dX12_enters_276 rfl (hl.at 1 rfl) ?_
      refine lv_iload_n hx hb dX12_enters_277 rfl (hl.at 2 rfl) ?_
      refine lv_iconst (v := 1) hx hb dX12_enters_278 (by decide) ?_
      obtain ⟨u279, r279, hf⟩ := ob hf
      obtain ⟨S279, e279, hf⟩ := ob hf
      refine rw_callVv (As := [.int l1, .int 1]) X dX12_enters_279 clX12_175 pyX12_adds (mX12_adds l e279) (by decide) r279 rfl hP rfl (catL c1n (Nat.le_of_ble_eq_true rfl)) hl.1.1 (fun H locs hP => ?_)
      refine rw_aload_n X dX12_enters_282 rfl (hl.at 1 rfl) ?_
      refine lv_iload_n hx hb dX12_enters_283 rfl (hl.at 2 rfl) ?_
      refine lv_iconst (v := 0) hx hb dX12_enters_284 (by decide) ?_
      obtain ⟨u285, r285, hf⟩ := ob hf
      obtain ⟨q285, e285, hf⟩ := ob hf
      refine rw_callVi (As := [.int l1, .int 0]) X dX12_enters_285 clX12_194 pyX12_asks (mX12_asks l e285) (by decide) r285 rfl hP rfl (catL c1n (Nat.le_of_ble_eq_true rfl)) hl.1.1 (fun H locs hP => ?_)
      cases hf
      exact rw_iret X dX12_enters_288 hP
    · have hf := ifp hf c263
      refine rw_aload_n X dX12_enters_266 rfl (hl.at 1 rfl) ?_
      refine lv_iload_n hx hb dX12_enters_267 rfl (hl.at 2 rfl) ?_
      refine lv_iconst (v := 1) hx hb dX12_enters_268 (by decide) ?_
      refine lv_iadd hx hb dX12_enters_269 ?_
      obtain ⟨u270, r270, hf⟩ := ob hf
      obtain ⟨q270, e270, hf⟩ := ob hf
      refine rw_callVi (As := [.int (l1 + 1)]) X dX12_enters_270 clX12_200 pyX12_aborts (mX12_aborts l e270) (by decide) r270 rfl hP rfl (catL c1n (Nat.le_of_ble_eq_true rfl)) hl.1.1 (fun H locs hP => ?_)
      refine lv_pop hx hb dX12_enters_273 (ci _) ?_
      refine lv_iconst (v := 3) hx hb dX12_enters_274 (by decide) ?_
      cases hf
      exact rw_iret X dX12_enters_275 hP
  have hf := ifn hf c85_13
  have t85_0 := tsw (k := 0) (v := 0) (by decide) c85_0
  have t85_1 := tsw (k := 1) (v := 1) (by decide) c85_1
  have t85_2 := tsw (k := 2) (v := 2) (by decide) c85_2
  have t85_3 := tsw (k := 3) (v := 3) (by decide) c85_3
  have t85_4 := tsw (k := 4) (v := 4) (by decide) c85_4
  have t85_5 := tsw (k := 5) (v := 5) (by decide) c85_5
  have t85_6 := tsw (k := 6) (v := 6) (by decide) c85_6
  have t85_7 := tsw (k := 7) (v := 7) (by decide) c85_7
  have t85_8 := tsw (k := 8) (v := 8) (by decide) c85_8
  have t85_9 := tsw (k := 9) (v := 9) (by decide) c85_9
  have t85_10 := tsw (k := 10) (v := 10) (by decide) c85_10
  have t85_11 := tsw (k := 11) (v := 11) (by decide) c85_11
  have t85_12 := tsw (k := 12) (v := 12) (by decide) c85_12
  have t85_13 := tsw (k := 13) (v := 13) (by decide) c85_13
  refine lv_tableOut (tgt := 289) hx hb dX12_enters_85 (by omega) (by decide) ?_
  refine rw_aload_n X dX12_enters_289 rfl (hl.at 1 rfl) ?_
  refine lv_iload_n hx hb dX12_enters_290 rfl (hl.at 2 rfl) ?_
  refine lv_iconst (v := 0) hx hb dX12_enters_291 (by decide) ?_
  obtain ⟨u292, r292, hf⟩ := ob hf
  obtain ⟨q292, e292, hf⟩ := ob hf
  refine rw_callVi (As := [.int l1, .int 0]) X dX12_enters_292 clX12_194 pyX12_asks (mX12_asks l e292) (by decide) r292 rfl hP rfl (catL c1n (Nat.le_of_ble_eq_true rfl)) hl.1.1 (fun H locs hP => ?_)
  cases hf
  exact rw_iret X dX12_enters_295 hP
def fX12_enters (Y : LY) (S : HS) (l0 : Option Nat) (l1 : Int32) : Option (HS × Int32) :=
  (rcv Y 12 l0).bind fun _ =>
  (fX12_adds Y S l0 l1 10).bind fun S4 =>
  (gR Y 12 1200 l0 S4).bind fun v8 =>
  (gA Y 14 v8 289 S4).bind fun v15 =>
  (pA Y 14 v8 289 (v15 + 1) S4).bind fun S18 =>
  (rcv Y 12 l0).bind fun _ =>
  (fX12_of Y S18 l0 l1 0).bind fun v22 =>
  if v22 = 0 then
    (rcv Y 12 l0).bind fun _ =>
    (fX12_sets Y S18 l0 l1 0 1).bind fun S32 =>
    (rcv Y 12 l0).bind fun _ =>
    (fX12_sets Y S32 l0 l1 1 0).bind fun S39 =>
    (rcv Y 12 l0).bind fun _ =>
    (fX12_sets Y S39 l0 l1 2 0).bind fun S46 =>
    (rcv Y 12 l0).bind fun _ =>
    (fX12_sets Y S46 l0 l1 3 0).bind fun S53 =>
    (rcv Y 12 l0).bind fun _ =>
    (fX12_sets Y S53 l0 l1 4 0).bind fun S60 =>
    (rcv Y 12 l0).bind fun _ =>
    (fX12_adds Y S60 l0 l1 6).bind fun S67 =>
    fX12_enters_70 Y S67 l0 l1
  else
    fX12_enters_70 Y S18 l0 l1
set_option maxRecDepth 100000 in
set_option maxHeartbeats 4000000 in
theorem mX12_enters (l : Launch) {G : GG} {Y : LY} {S : HS} {l0 : Option Nat} {l1 : Int32} {res : HS × Int32} (hf : fX12_enters Y S l0 l1 = some res) : MM l yX12_enters cX12_enters 3 (some .int) 5 119 G Y S [va_rf l0, .int l1] res.1 (some (.int res.2)) := by
  refine mm_of2 (plainFor_of_name (by decide +kernel)) (Nat.le_of_ble_eq_true rfl) (c1c (cr _) (c1c (ci _) c1n)) ?_
  intro p e R s m args below meth c X H locs ls hP hl
  have X : Cx p R s m args meth c RX12 cX12_enters 3 5 119 (fun q => q ∈ Y.1) G (some .int) := X
  have hx := X.1.1
  have hb := X.1.2.1
  have hl : LV ls 3 [(0, va_rf l0), (1, .int l1)] := hl
  unfold fX12_enters at hf
  refine rw_aload_n X dX12_enters_0 rfl (hl.at 0 rfl) ?_
  refine lv_iload_n hx hb dX12_enters_1 rfl (hl.at 1 rfl) ?_
  refine lv_bipush (v := 10) hx hb dX12_enters_2 (by decide) ?_
  obtain ⟨u4, r4, hf⟩ := ob hf
  obtain ⟨S4, e4, hf⟩ := ob hf
  refine rw_callVv (As := [.int l1, .int 10]) X dX12_enters_4 clX12_175 pyX12_adds (mX12_adds l e4) (by decide) r4 rfl hP rfl (catL c1n (Nat.le_of_ble_eq_true rfl)) hl.1.1 (fun H locs hP => ?_)
  refine rw_aload_n X dX12_enters_7 rfl (hl.at 0 rfl) ?_
  obtain ⟨v8, e8, hf⟩ := ob hf
  refine rw_getR X dX12_enters_8 fl12_9 e8 rfl hP ?_
  refine lv_sipush (v := 289) hx hb dX12_enters_11 (by decide) ?_
  refine lv_dup2_11 hx hb dX12_enters_14 (ci _) (cr _) ?_
  obtain ⟨v15, e15, hf⟩ := ob hf
  refine rw_iald X dX12_enters_15 e15 hP ?_
  refine lv_iconst (v := 1) hx hb dX12_enters_16 (by decide) ?_
  refine lv_iadd hx hb dX12_enters_17 ?_
  obtain ⟨S18, e18, hf⟩ := ob hf
  refine rw_iast X dX12_enters_18 e18 hP (fun H locs hP => ?_)
  refine rw_aload_n X dX12_enters_19 rfl (hl.at 0 rfl) ?_
  refine lv_iload_n hx hb dX12_enters_20 rfl (hl.at 1 rfl) ?_
  refine lv_iconst (v := 0) hx hb dX12_enters_21 (by decide) ?_
  obtain ⟨u22, r22, hf⟩ := ob hf
  obtain ⟨v22, e22, hf⟩ := ob hf
  refine rw_callVi (As := [.int l1, .int 0]) X dX12_enters_22 clX12_168 pyX12_of (mX12_of l e22) (by decide) r22 rfl hP rfl (catL c1n (Nat.le_of_ble_eq_true rfl)) hl.1.1 (fun H locs hP => ?_)
  refine lv_if_ne hx hb (tgt := 70) dX12_enters_25 (by decide) (fun c25 => ?_) (fun c25 => ?_)
  · have hf := ifn hf c25
    exact wX12_enters_70 X S18 l0 l1 hf _ _ _ hP (hl.sub [0, 1] rfl)
  · have hf := ifp hf c25
    refine rw_aload_n X dX12_enters_28 rfl (hl.at 0 rfl) ?_
    refine lv_iload_n hx hb dX12_enters_29 rfl (hl.at 1 rfl) ?_
    refine lv_iconst (v := 0) hx hb dX12_enters_30 (by decide) ?_
    refine lv_iconst (v := 1) hx hb dX12_enters_31 (by decide) ?_
    obtain ⟨u32, r32, hf⟩ := ob hf
    obtain ⟨S32, e32, hf⟩ := ob hf
    refine rw_callVv (As := [.int l1, .int 0, .int 1]) X dX12_enters_32 clX12_171 pyX12_sets (mX12_sets l e32) (by decide) r32 rfl hP rfl (catL c1n (Nat.le_of_ble_eq_true rfl)) hl.1.1 (fun H locs hP => ?_)
    refine rw_aload_n X dX12_enters_35 rfl (hl.at 0 rfl) ?_
    refine lv_iload_n hx hb dX12_enters_36 rfl (hl.at 1 rfl) ?_
    refine lv_iconst (v := 1) hx hb dX12_enters_37 (by decide) ?_
    refine lv_iconst (v := 0) hx hb dX12_enters_38 (by decide) ?_
    obtain ⟨u39, r39, hf⟩ := ob hf
    obtain ⟨S39, e39, hf⟩ := ob hf
    refine rw_callVv (As := [.int l1, .int 1, .int 0]) X dX12_enters_39 clX12_171 pyX12_sets (mX12_sets l e39) (by decide) r39 rfl hP rfl (catL c1n (Nat.le_of_ble_eq_true rfl)) hl.1.1 (fun H locs hP => ?_)
    refine rw_aload_n X dX12_enters_42 rfl (hl.at 0 rfl) ?_
    refine lv_iload_n hx hb dX12_enters_43 rfl (hl.at 1 rfl) ?_
    refine lv_iconst (v := 2) hx hb dX12_enters_44 (by decide) ?_
    refine lv_iconst (v := 0) hx hb dX12_enters_45 (by decide) ?_
    obtain ⟨u46, r46, hf⟩ := ob hf
    obtain ⟨S46, e46, hf⟩ := ob hf
    refine rw_callVv (As := [.int l1, .int 2, .int 0]) X dX12_enters_46 clX12_171 pyX12_sets (mX12_sets l e46) (by decide) r46 rfl hP rfl (catL c1n (Nat.le_of_ble_eq_true rfl)) hl.1.1 (fun H locs hP => ?_)
    refine rw_aload_n X dX12_enters_49 rfl (hl.at 0 rfl) ?_
    refine lv_iload_n hx hb dX12_enters_50 rfl (hl.at 1 rfl) ?_
    refine lv_iconst (v := 3) hx hb dX12_enters_51 (by decide) ?_
    refine lv_iconst (v := 0) hx hb dX12_enters_52 (by decide) ?_
    obtain ⟨u53, r53, hf⟩ := ob hf
    obtain ⟨S53, e53, hf⟩ := ob hf
    refine rw_callVv (As := [.int l1, .int 3, .int 0]) X dX12_enters_53 clX12_171 pyX12_sets (mX12_sets l e53) (by decide) r53 rfl hP rfl (catL c1n (Nat.le_of_ble_eq_true rfl)) hl.1.1 (fun H locs hP => ?_)
    refine rw_aload_n X dX12_enters_56 rfl (hl.at 0 rfl) ?_
    refine lv_iload_n hx hb dX12_enters_57 rfl (hl.at 1 rfl) ?_
    refine lv_iconst (v := 4) hx hb dX12_enters_58 (by decide) ?_
    refine lv_iconst (v := 0) hx hb dX12_enters_59 (by decide) ?_
    obtain ⟨u60, r60, hf⟩ := ob hf
    obtain ⟨S60, e60, hf⟩ := ob hf
    refine rw_callVv (As := [.int l1, .int 4, .int 0]) X dX12_enters_60 clX12_171 pyX12_sets (mX12_sets l e60) (by decide) r60 rfl hP rfl (catL c1n (Nat.le_of_ble_eq_true rfl)) hl.1.1 (fun H locs hP => ?_)
    refine rw_aload_n X dX12_enters_63 rfl (hl.at 0 rfl) ?_
    refine lv_iload_n hx hb dX12_enters_64 rfl (hl.at 1 rfl) ?_
    refine lv_bipush (v := 6) hx hb dX12_enters_65 (by decide) ?_
    obtain ⟨u67, r67, hf⟩ := ob hf
    obtain ⟨S67, e67, hf⟩ := ob hf
    refine rw_callVv (As := [.int l1, .int 6]) X dX12_enters_67 clX12_175 pyX12_adds (mX12_adds l e67) (by decide) r67 rfl hP rfl (catL c1n (Nat.le_of_ble_eq_true rfl)) hl.1.1 (fun H locs hP => ?_)
    exact wX12_enters_70 X S67 l0 l1 hf _ _ _ hP (hl.sub [0, 1] rfl)
theorem dX12_counts_0 : decode cX12_counts 0 = .ok (.iload_n 2, 1) := by decide +kernel
theorem dX12_counts_1 : decode cX12_counts 1 = .ok (.iload_n 3, 1) := by decide +kernel
theorem dX12_counts_2 : decode cX12_counts 2 = .ok (.if_icmp .eq 5, 3) := by decide +kernel
theorem dX12_counts_5 : decode cX12_counts 5 = .ok (.iload_n 2, 1) := by decide +kernel
theorem dX12_counts_6 : decode cX12_counts 6 = .ok (.ireturn, 1) := by decide +kernel
theorem dX12_counts_7 : decode cX12_counts 7 = .ok (.aload_n 0, 1) := by decide +kernel
theorem dX12_counts_8 : decode cX12_counts 8 = .ok (.iload_n 1, 1) := by decide +kernel
theorem dX12_counts_9 : decode cX12_counts 9 = .ok (.iconst 1, 1) := by decide +kernel
theorem dX12_counts_10 : decode cX12_counts 10 = .ok (.invokevirtual 175, 3) := by decide +kernel
theorem dX12_counts_13 : decode cX12_counts 13 = .ok (.aload_n 0, 1) := by decide +kernel
theorem dX12_counts_14 : decode cX12_counts 14 = .ok (.iload_n 1, 1) := by decide +kernel
theorem dX12_counts_15 : decode cX12_counts 15 = .ok (.iconst 1, 1) := by decide +kernel
theorem dX12_counts_16 : decode cX12_counts 16 = .ok (.invokevirtual 168, 3) := by decide +kernel
theorem dX12_counts_19 : decode cX12_counts 19 = .ok (.aload_n 0, 1) := by decide +kernel
theorem dX12_counts_20 : decode cX12_counts 20 = .ok (.getfield 28, 3) := by decide +kernel
theorem dX12_counts_23 : decode cX12_counts 23 = .ok (.iload_n 1, 1) := by decide +kernel
theorem dX12_counts_24 : decode cX12_counts 24 = .ok (.iaload, 1) := by decide +kernel
theorem dX12_counts_25 : decode cX12_counts 25 = .ok (.if_icmp .ne 7, 3) := by decide +kernel
theorem dX12_counts_28 : decode cX12_counts 28 = .ok (.iload_n 2, 1) := by decide +kernel
theorem dX12_counts_29 : decode cX12_counts 29 = .ok (.goto 4, 3) := by decide +kernel
theorem dX12_counts_32 : decode cX12_counts 32 = .ok (.iconst 1, 1) := by decide +kernel
theorem dX12_counts_33 : decode cX12_counts 33 = .ok (.ireturn, 1) := by decide +kernel
theorem pyX12_counts : PY yX12_counts 3 := ⟨by decide +kernel, by decide +kernel, by decide +kernel⟩
def fX12_counts (Y : LY) (S : HS) (l0 : Option Nat) (l1 : Int32) (l2 : Int32) (l3 : Int32) : Option (HS × Int32) :=
  if l2 = l3 then
    (rcv Y 12 l0).bind fun _ =>
    (fX12_adds Y S l0 l1 1).bind fun S10 =>
    (rcv Y 12 l0).bind fun _ =>
    (fX12_of Y S10 l0 l1 1).bind fun v16 =>
    (gR Y 12 1210 l0 S10).bind fun v20 =>
    (gA Y 14 v20 l1 S10).bind fun v24 =>
    if v16 = v24 then
      some (S10, l2)
    else
      some (S10, 1)
  else
    some (S, l2)
set_option maxRecDepth 100000 in
set_option maxHeartbeats 4000000 in
theorem mX12_counts (l : Launch) {G : GG} {Y : LY} {S : HS} {l0 : Option Nat} {l1 : Int32} {l2 : Int32} {l3 : Int32} {res : HS × Int32} (hf : fX12_counts Y S l0 l1 l2 l3 = some res) : MM l yX12_counts cX12_counts 4 (some .int) 1 22 G Y S [va_rf l0, .int l1, .int l2, .int l3] res.1 (some (.int res.2)) := by
  refine mm_of2 (plainFor_of_name (by decide +kernel)) (Nat.le_of_ble_eq_true rfl) (c1c (cr _) (c1c (ci _) (c1c (ci _) (c1c (ci _) c1n)))) ?_
  intro p e R s m args below meth c X H locs ls hP hl
  have X : Cx p R s m args meth c RX12 cX12_counts 4 1 22 (fun q => q ∈ Y.1) G (some .int) := X
  have hx := X.1.1
  have hb := X.1.2.1
  have hl : LV ls 4 [(0, va_rf l0), (1, .int l1), (2, .int l2), (3, .int l3)] := hl
  unfold fX12_counts at hf
  refine lv_iload_n hx hb dX12_counts_0 rfl (hl.at 2 rfl) ?_
  refine lv_iload_n hx hb dX12_counts_1 rfl (hl.at 3 rfl) ?_
  refine lv_icmp_eq hx hb (tgt := 7) dX12_counts_2 (by decide) (fun c2 => ?_) (fun c2 => ?_)
  · have hf := ifp hf c2
    refine rw_aload_n X dX12_counts_7 rfl (hl.at 0 rfl) ?_
    refine lv_iload_n hx hb dX12_counts_8 rfl (hl.at 1 rfl) ?_
    refine lv_iconst (v := 1) hx hb dX12_counts_9 (by decide) ?_
    obtain ⟨u10, r10, hf⟩ := ob hf
    obtain ⟨S10, e10, hf⟩ := ob hf
    refine rw_callVv (As := [.int l1, .int 1]) X dX12_counts_10 clX12_175 pyX12_adds (mX12_adds l e10) (by decide) r10 rfl hP rfl (catL c1n (Nat.le_of_ble_eq_true rfl)) hl.1.1 (fun H locs hP => ?_)
    refine rw_aload_n X dX12_counts_13 rfl (hl.at 0 rfl) ?_
    refine lv_iload_n hx hb dX12_counts_14 rfl (hl.at 1 rfl) ?_
    refine lv_iconst (v := 1) hx hb dX12_counts_15 (by decide) ?_
    obtain ⟨u16, r16, hf⟩ := ob hf
    obtain ⟨v16, e16, hf⟩ := ob hf
    refine rw_callVi (As := [.int l1, .int 1]) X dX12_counts_16 clX12_168 pyX12_of (mX12_of l e16) (by decide) r16 rfl hP rfl (catL c1n (Nat.le_of_ble_eq_true rfl)) hl.1.1 (fun H locs hP => ?_)
    refine rw_aload_n X dX12_counts_19 rfl (hl.at 0 rfl) ?_
    obtain ⟨v20, e20, hf⟩ := ob hf
    refine rw_getR X dX12_counts_20 fl12_28 e20 rfl hP ?_
    refine lv_iload_n hx hb dX12_counts_23 rfl (hl.at 1 rfl) ?_
    obtain ⟨v24, e24, hf⟩ := ob hf
    refine rw_iald X dX12_counts_24 e24 hP ?_
    refine lv_icmp_ne hx hb (tgt := 32) dX12_counts_25 (by decide) (fun c25 => ?_) (fun c25 => ?_)
    · have hf := ifn hf c25
      refine lv_iconst (v := 1) hx hb dX12_counts_32 (by decide) ?_
      cases hf
      exact rw_iret X dX12_counts_33 hP
    · have hf := ifp hf c25
      refine lv_iload_n hx hb dX12_counts_28 rfl (hl.at 2 rfl) ?_
      refine lv_goto (tgt := 33) hx hb dX12_counts_29 (by decide) ?_
      cases hf
      exact rw_iret X dX12_counts_33 hP
  · have hf := ifn hf c2
    refine lv_iload_n hx hb dX12_counts_5 rfl (hl.at 2 rfl) ?_
    cases hf
    exact rw_iret X dX12_counts_6 hP
theorem dX12_hears_0 : decode cX12_hears 0 = .ok (.aload_n 0, 1) := by decide +kernel
theorem dX12_hears_1 : decode cX12_hears 1 = .ok (.iload_n 1, 1) := by decide +kernel
theorem dX12_hears_2 : decode cX12_hears 2 = .ok (.iconst 5, 1) := by decide +kernel
theorem dX12_hears_3 : decode cX12_hears 3 = .ok (.invokevirtual 168, 3) := by decide +kernel
theorem dX12_hears_6 : decode cX12_hears 6 = .ok (.istore_n 3, 1) := by decide +kernel
theorem dX12_hears_7 : decode cX12_hears 7 = .ok (.aload_n 0, 1) := by decide +kernel
theorem dX12_hears_8 : decode cX12_hears 8 = .ok (.getfield 25, 3) := by decide +kernel
theorem dX12_hears_11 : decode cX12_hears 11 = .ok (.iload_n 1, 1) := by decide +kernel
theorem dX12_hears_12 : decode cX12_hears 12 = .ok (.iaload, 1) := by decide +kernel
theorem dX12_hears_13 : decode cX12_hears 13 = .ok (.istore 4, 2) := by decide +kernel
theorem dX12_hears_15 : decode cX12_hears 15 = .ok (.iload 4, 2) := by decide +kernel
theorem dX12_hears_17 : decode cX12_hears 17 = .ok (.iconst 5, 1) := by decide +kernel
theorem dX12_hears_18 : decode cX12_hears 18 = .ok (.if_icmp .eq 10, 3) := by decide +kernel
theorem dX12_hears_21 : decode cX12_hears 21 = .ok (.iload 4, 2) := by decide +kernel
theorem dX12_hears_23 : decode cX12_hears 23 = .ok (.bipush 7, 2) := by decide +kernel
theorem dX12_hears_25 : decode cX12_hears 25 = .ok (.if_icmp .ne 7, 3) := by decide +kernel
theorem dX12_hears_28 : decode cX12_hears 28 = .ok (.iconst 3, 1) := by decide +kernel
theorem dX12_hears_29 : decode cX12_hears 29 = .ok (.goto 4, 3) := by decide +kernel
theorem dX12_hears_32 : decode cX12_hears 32 = .ok (.iconst 2, 1) := by decide +kernel
theorem dX12_hears_33 : decode cX12_hears 33 = .ok (.istore 5, 2) := by decide +kernel
theorem dX12_hears_35 : decode cX12_hears 35 = .ok (.iload 4, 2) := by decide +kernel
theorem dX12_hears_37 : decode cX12_hears 37 = .ok (.tableswitch 248 4 11 #[47, 47, 86, 86, 152, 209, 229, 229], 47) := by decide +kernel
theorem dX12_hears_84 : decode cX12_hears 84 = .ok (.iload_n 2, 1) := by decide +kernel
theorem dX12_hears_85 : decode cX12_hears 85 = .ok (.iload 5, 2) := by decide +kernel
theorem dX12_hears_87 : decode cX12_hears 87 = .ok (.if_icmp .eq 5, 3) := by decide +kernel
theorem dX12_hears_90 : decode cX12_hears 90 = .ok (.iload_n 2, 1) := by decide +kernel
theorem dX12_hears_91 : decode cX12_hears 91 = .ok (.ireturn, 1) := by decide +kernel
theorem dX12_hears_92 : decode cX12_hears 92 = .ok (.aload_n 0, 1) := by decide +kernel
theorem dX12_hears_93 : decode cX12_hears 93 = .ok (.iload_n 1, 1) := by decide +kernel
theorem dX12_hears_94 : decode cX12_hears 94 = .ok (.iconst 1, 1) := by decide +kernel
theorem dX12_hears_95 : decode cX12_hears 95 = .ok (.invokevirtual 175, 3) := by decide +kernel
theorem dX12_hears_98 : decode cX12_hears 98 = .ok (.iload_n 3, 1) := by decide +kernel
theorem dX12_hears_99 : decode cX12_hears 99 = .ok (.iconst 1, 1) := by decide +kernel
theorem dX12_hears_100 : decode cX12_hears 100 = .ok (.iadd, 1) := by decide +kernel
theorem dX12_hears_101 : decode cX12_hears 101 = .ok (.aload_n 0, 1) := by decide +kernel
theorem dX12_hears_102 : decode cX12_hears 102 = .ok (.iload_n 1, 1) := by decide +kernel
theorem dX12_hears_103 : decode cX12_hears 103 = .ok (.invokevirtual 203, 3) := by decide +kernel
theorem dX12_hears_106 : decode cX12_hears 106 = .ok (.if_icmp .ge 14, 3) := by decide +kernel
theorem dX12_hears_109 : decode cX12_hears 109 = .ok (.aload_n 0, 1) := by decide +kernel
theorem dX12_hears_110 : decode cX12_hears 110 = .ok (.iload_n 1, 1) := by decide +kernel
theorem dX12_hears_111 : decode cX12_hears 111 = .ok (.iload_n 3, 1) := by decide +kernel
theorem dX12_hears_112 : decode cX12_hears 112 = .ok (.iconst 1, 1) := by decide +kernel
theorem dX12_hears_113 : decode cX12_hears 113 = .ok (.iadd, 1) := by decide +kernel
theorem dX12_hears_114 : decode cX12_hears 114 = .ok (.invokevirtual 194, 3) := by decide +kernel
theorem dX12_hears_117 : decode cX12_hears 117 = .ok (.goto 5, 3) := by decide +kernel
theorem dX12_hears_120 : decode cX12_hears 120 = .ok (.iload 5, 2) := by decide +kernel
theorem dX12_hears_122 : decode cX12_hears 122 = .ok (.ireturn, 1) := by decide +kernel
theorem dX12_hears_123 : decode cX12_hears 123 = .ok (.iload_n 2, 1) := by decide +kernel
theorem dX12_hears_124 : decode cX12_hears 124 = .ok (.iload 5, 2) := by decide +kernel
theorem dX12_hears_126 : decode cX12_hears 126 = .ok (.if_icmp .ne 28, 3) := by decide +kernel
theorem dX12_hears_129 : decode cX12_hears 129 = .ok (.iload_n 3, 1) := by decide +kernel
theorem dX12_hears_130 : decode cX12_hears 130 = .ok (.iconst 1, 1) := by decide +kernel
theorem dX12_hears_131 : decode cX12_hears 131 = .ok (.iadd, 1) := by decide +kernel
theorem dX12_hears_132 : decode cX12_hears 132 = .ok (.aload_n 0, 1) := by decide +kernel
theorem dX12_hears_133 : decode cX12_hears 133 = .ok (.iload_n 1, 1) := by decide +kernel
theorem dX12_hears_134 : decode cX12_hears 134 = .ok (.invokevirtual 203, 3) := by decide +kernel
theorem dX12_hears_137 : decode cX12_hears 137 = .ok (.if_icmp .ge 14, 3) := by decide +kernel
theorem dX12_hears_140 : decode cX12_hears 140 = .ok (.aload_n 0, 1) := by decide +kernel
theorem dX12_hears_141 : decode cX12_hears 141 = .ok (.iload_n 1, 1) := by decide +kernel
theorem dX12_hears_142 : decode cX12_hears 142 = .ok (.iload_n 3, 1) := by decide +kernel
theorem dX12_hears_143 : decode cX12_hears 143 = .ok (.iconst 1, 1) := by decide +kernel
theorem dX12_hears_144 : decode cX12_hears 144 = .ok (.iadd, 1) := by decide +kernel
theorem dX12_hears_145 : decode cX12_hears 145 = .ok (.invokevirtual 194, 3) := by decide +kernel
theorem dX12_hears_148 : decode cX12_hears 148 = .ok (.goto 5, 3) := by decide +kernel
theorem dX12_hears_151 : decode cX12_hears 151 = .ok (.iload 5, 2) := by decide +kernel
theorem dX12_hears_153 : decode cX12_hears 153 = .ok (.ireturn, 1) := by decide +kernel
theorem dX12_hears_154 : decode cX12_hears 154 = .ok (.aload_n 0, 1) := by decide +kernel
theorem dX12_hears_155 : decode cX12_hears 155 = .ok (.iload_n 1, 1) := by decide +kernel
theorem dX12_hears_156 : decode cX12_hears 156 = .ok (.invokevirtual 203, 3) := by decide +kernel
theorem dX12_hears_159 : decode cX12_hears 159 = .ok (.iconst 1, 1) := by decide +kernel
theorem dX12_hears_160 : decode cX12_hears 160 = .ok (.isub, 1) := by decide +kernel
theorem dX12_hears_161 : decode cX12_hears 161 = .ok (.istore 6, 2) := by decide +kernel
theorem dX12_hears_163 : decode cX12_hears 163 = .ok (.iload 6, 2) := by decide +kernel
theorem dX12_hears_165 : decode cX12_hears 165 = .ok (.iload_n 3, 1) := by decide +kernel
theorem dX12_hears_166 : decode cX12_hears 166 = .ok (.if_icmp .le 21, 3) := by decide +kernel
theorem dX12_hears_169 : decode cX12_hears 169 = .ok (.aload_n 0, 1) := by decide +kernel
theorem dX12_hears_170 : decode cX12_hears 170 = .ok (.aload_n 0, 1) := by decide +kernel
theorem dX12_hears_171 : decode cX12_hears 171 = .ok (.iload_n 1, 1) := by decide +kernel
theorem dX12_hears_172 : decode cX12_hears 172 = .ok (.iload 6, 2) := by decide +kernel
theorem dX12_hears_174 : decode cX12_hears 174 = .ok (.invokevirtual 185, 3) := by decide +kernel
theorem dX12_hears_177 : decode cX12_hears 177 = .ok (.invokevirtual 200, 3) := by decide +kernel
theorem dX12_hears_180 : decode cX12_hears 180 = .ok (.pop, 1) := by decide +kernel
theorem dX12_hears_181 : decode cX12_hears 181 = .ok (.iinc 6 (-1), 3) := by decide +kernel
theorem dX12_hears_184 : decode cX12_hears 184 = .ok (.goto (-21), 3) := by decide +kernel
theorem dX12_hears_187 : decode cX12_hears 187 = .ok (.iload_n 2, 1) := by decide +kernel
theorem dX12_hears_188 : decode cX12_hears 188 = .ok (.ireturn, 1) := by decide +kernel
theorem dX12_hears_189 : decode cX12_hears 189 = .ok (.iload_n 2, 1) := by decide +kernel
theorem dX12_hears_190 : decode cX12_hears 190 = .ok (.iconst 2, 1) := by decide +kernel
theorem dX12_hears_191 : decode cX12_hears 191 = .ok (.if_icmp .ne 19, 3) := by decide +kernel
theorem dX12_hears_194 : decode cX12_hears 194 = .ok (.aload_n 0, 1) := by decide +kernel
theorem dX12_hears_195 : decode cX12_hears 195 = .ok (.iload_n 1, 1) := by decide +kernel
theorem dX12_hears_196 : decode cX12_hears 196 = .ok (.iconst 2, 1) := by decide +kernel
theorem dX12_hears_197 : decode cX12_hears 197 = .ok (.aload_n 0, 1) := by decide +kernel
theorem dX12_hears_198 : decode cX12_hears 198 = .ok (.iload_n 1, 1) := by decide +kernel
theorem dX12_hears_199 : decode cX12_hears 199 = .ok (.iconst 2, 1) := by decide +kernel
theorem dX12_hears_200 : decode cX12_hears 200 = .ok (.invokevirtual 168, 3) := by decide +kernel
theorem dX12_hears_203 : decode cX12_hears 203 = .ok (.iconst 1, 1) := by decide +kernel
theorem dX12_hears_204 : decode cX12_hears 204 = .ok (.iload_n 3, 1) := by decide +kernel
theorem dX12_hears_205 : decode cX12_hears 205 = .ok (.ishl, 1) := by decide +kernel
theorem dX12_hears_206 : decode cX12_hears 206 = .ok (.ior, 1) := by decide +kernel
theorem dX12_hears_207 : decode cX12_hears 207 = .ok (.invokevirtual 171, 3) := by decide +kernel
theorem dX12_hears_210 : decode cX12_hears 210 = .ok (.iload_n 2, 1) := by decide +kernel
theorem dX12_hears_211 : decode cX12_hears 211 = .ok (.iconst 3, 1) := by decide +kernel
theorem dX12_hears_212 : decode cX12_hears 212 = .ok (.if_icmp .ne 19, 3) := by decide +kernel
theorem dX12_hears_215 : decode cX12_hears 215 = .ok (.aload_n 0, 1) := by decide +kernel
theorem dX12_hears_216 : decode cX12_hears 216 = .ok (.iload_n 1, 1) := by decide +kernel
theorem dX12_hears_217 : decode cX12_hears 217 = .ok (.iconst 3, 1) := by decide +kernel
theorem dX12_hears_218 : decode cX12_hears 218 = .ok (.aload_n 0, 1) := by decide +kernel
theorem dX12_hears_219 : decode cX12_hears 219 = .ok (.iload_n 1, 1) := by decide +kernel
theorem dX12_hears_220 : decode cX12_hears 220 = .ok (.iconst 3, 1) := by decide +kernel
theorem dX12_hears_221 : decode cX12_hears 221 = .ok (.invokevirtual 168, 3) := by decide +kernel
theorem dX12_hears_224 : decode cX12_hears 224 = .ok (.iconst 1, 1) := by decide +kernel
theorem dX12_hears_225 : decode cX12_hears 225 = .ok (.iload_n 3, 1) := by decide +kernel
theorem dX12_hears_226 : decode cX12_hears 226 = .ok (.ishl, 1) := by decide +kernel
theorem dX12_hears_227 : decode cX12_hears 227 = .ok (.ior, 1) := by decide +kernel
theorem dX12_hears_228 : decode cX12_hears 228 = .ok (.invokevirtual 171, 3) := by decide +kernel
theorem dX12_hears_231 : decode cX12_hears 231 = .ok (.aload_n 0, 1) := by decide +kernel
theorem dX12_hears_232 : decode cX12_hears 232 = .ok (.iload_n 1, 1) := by decide +kernel
theorem dX12_hears_233 : decode cX12_hears 233 = .ok (.iconst 5, 1) := by decide +kernel
theorem dX12_hears_234 : decode cX12_hears 234 = .ok (.iload_n 3, 1) := by decide +kernel
theorem dX12_hears_235 : decode cX12_hears 235 = .ok (.iconst 1, 1) := by decide +kernel
theorem dX12_hears_236 : decode cX12_hears 236 = .ok (.iadd, 1) := by decide +kernel
theorem dX12_hears_237 : decode cX12_hears 237 = .ok (.invokevirtual 171, 3) := by decide +kernel
theorem dX12_hears_240 : decode cX12_hears 240 = .ok (.aload_n 0, 1) := by decide +kernel
theorem dX12_hears_241 : decode cX12_hears 241 = .ok (.iload_n 1, 1) := by decide +kernel
theorem dX12_hears_242 : decode cX12_hears 242 = .ok (.invokevirtual 197, 3) := by decide +kernel
theorem dX12_hears_245 : decode cX12_hears 245 = .ok (.ireturn, 1) := by decide +kernel
theorem dX12_hears_246 : decode cX12_hears 246 = .ok (.iload_n 2, 1) := by decide +kernel
theorem dX12_hears_247 : decode cX12_hears 247 = .ok (.iconst 2, 1) := by decide +kernel
theorem dX12_hears_248 : decode cX12_hears 248 = .ok (.if_icmp .ne 7, 3) := by decide +kernel
theorem dX12_hears_251 : decode cX12_hears 251 = .ok (.iconst 3, 1) := by decide +kernel
theorem dX12_hears_252 : decode cX12_hears 252 = .ok (.goto 13, 3) := by decide +kernel
theorem dX12_hears_255 : decode cX12_hears 255 = .ok (.iload_n 2, 1) := by decide +kernel
theorem dX12_hears_256 : decode cX12_hears 256 = .ok (.iconst 3, 1) := by decide +kernel
theorem dX12_hears_257 : decode cX12_hears 257 = .ok (.if_icmp .ne 7, 3) := by decide +kernel
theorem dX12_hears_260 : decode cX12_hears 260 = .ok (.iconst 2, 1) := by decide +kernel
theorem dX12_hears_261 : decode cX12_hears 261 = .ok (.goto 4, 3) := by decide +kernel
theorem dX12_hears_264 : decode cX12_hears 264 = .ok (.iload_n 2, 1) := by decide +kernel
theorem dX12_hears_265 : decode cX12_hears 265 = .ok (.ireturn, 1) := by decide +kernel
theorem dX12_hears_266 : decode cX12_hears 266 = .ok (.aload_n 0, 1) := by decide +kernel
theorem dX12_hears_267 : decode cX12_hears 267 = .ok (.iload_n 1, 1) := by decide +kernel
theorem dX12_hears_268 : decode cX12_hears 268 = .ok (.iload_n 2, 1) := by decide +kernel
theorem dX12_hears_269 : decode cX12_hears 269 = .ok (.iload 4, 2) := by decide +kernel
theorem dX12_hears_271 : decode cX12_hears 271 = .ok (.bipush 10, 2) := by decide +kernel
theorem dX12_hears_273 : decode cX12_hears 273 = .ok (.if_icmp .ne 7, 3) := by decide +kernel
theorem dX12_hears_276 : decode cX12_hears 276 = .ok (.iconst 2, 1) := by decide +kernel
theorem dX12_hears_277 : decode cX12_hears 277 = .ok (.goto 4, 3) := by decide +kernel
theorem dX12_hears_280 : decode cX12_hears 280 = .ok (.iconst 3, 1) := by decide +kernel
theorem dX12_hears_281 : decode cX12_hears 281 = .ok (.invokevirtual 209, 3) := by decide +kernel
theorem dX12_hears_284 : decode cX12_hears 284 = .ok (.ireturn, 1) := by decide +kernel
theorem dX12_hears_285 : decode cX12_hears 285 = .ok (.iload_n 2, 1) := by decide +kernel
theorem dX12_hears_286 : decode cX12_hears 286 = .ok (.ireturn, 1) := by decide +kernel
theorem pyX12_hears : PY yX12_hears 2 := ⟨by decide +kernel, by decide +kernel, by decide +kernel⟩
def fX12_hears_84 (Y : LY) (S : HS) (l0 : Option Nat) (l1 : Int32) (l2 : Int32) (l3 : Int32) (l5 : Int32) : Option (HS × Int32) :=
  if l2 = l5 then
    (rcv Y 12 l0).bind fun _ =>
    (fX12_adds Y S l0 l1 1).bind fun S95 =>
    (rcv Y 12 l0).bind fun _ =>
    (fX12_children Y S95 l0 l1).bind fun v103 =>
    if v103 ≤ (l3 + 1) then
      some (S95, l5)
    else
      (rcv Y 12 l0).bind fun _ =>
      (fX12_asks Y S95 l0 l1 (l3 + 1)).bind fun q114 =>
      some (q114.1, q114.2)
  else
    some (S, l2)
set_option maxRecDepth 100000 in
set_option maxHeartbeats 4000000 in
theorem wX12_hears_84 {p : Program} {l : Launch} {e : Env} {R : Room} {s : State} {m : MethodId} {args : Array Value} {below : List Frame} {meth : Method} {c : Code} {G : GG} {Y : LY} {res : HS × Int32} (X : Cx p R s m args meth c RX12 cX12_hears 7 5 119 (fun q => q ∈ Y.1) G (some .int)) : ∀ (S : HS) (l0 : Option Nat) (l1 : Int32) (l2 : Int32) (l3 : Int32) (l5 : Int32), fX12_hears_84 Y S l0 l1 l2 l3 l5 = some res → ∀ (H : Heap) (locs : List Loc) (ls : Array Slot), HP (fun q => q ∈ Y.1) G Y s S H locs → LV ls 7 [(0, va_rf l0), (1, .int l1), (2, .int l2), (3, .int l3), (5, .int l5)] → W p l e R s m args below meth c H locs 0 0 (MQ below (QI G Y res.1 (some (.int res.2))) args s 0 0 (fun q => q ∈ Y.1)) (F0 m 84 ls []) := by
  have hx := X.1.1
  have hb := X.1.2.1
  intro S l0 l1 l2 l3 l5 hf H locs ls hP hl
  unfold fX12_hears_84 at hf
  refine lv_iload_n hx hb dX12_hears_84 rfl (hl.at 2 rfl) ?_
  refine lv_iload hx hb dX12_hears_85 (hl.at 4 rfl) ?_
  refine lv_icmp_eq hx hb (tgt := 92) dX12_hears_87 (by decide) (fun c87 => ?_) (fun c87 => ?_)
  · have hf := ifp hf c87
    refine rw_aload_n X dX12_hears_92 rfl (hl.at 0 rfl) ?_
    refine lv_iload_n hx hb dX12_hears_93 rfl (hl.at 1 rfl) ?_
    refine lv_iconst (v := 1) hx hb dX12_hears_94 (by decide) ?_
    obtain ⟨u95, r95, hf⟩ := ob hf
    obtain ⟨S95, e95, hf⟩ := ob hf
    refine rw_callVv (As := [.int l1, .int 1]) X dX12_hears_95 clX12_175 pyX12_adds (mX12_adds l e95) (by decide) r95 rfl hP rfl (catL c1n (Nat.le_of_ble_eq_true rfl)) hl.1.1 (fun H locs hP => ?_)
    refine lv_iload_n hx hb dX12_hears_98 rfl (hl.at 3 rfl) ?_
    refine lv_iconst (v := 1) hx hb dX12_hears_99 (by decide) ?_
    refine lv_iadd hx hb dX12_hears_100 ?_
    refine rw_aload_n X dX12_hears_101 rfl (hl.at 0 rfl) ?_
    refine lv_iload_n hx hb dX12_hears_102 rfl (hl.at 1 rfl) ?_
    obtain ⟨u103, r103, hf⟩ := ob hf
    obtain ⟨v103, e103, hf⟩ := ob hf
    refine rw_callVi (As := [.int l1]) X dX12_hears_103 clX12_203 pyX12_children (mX12_children l e103) (by decide) r103 rfl hP rfl (catL (c1c (ci _) c1n) (Nat.le_of_ble_eq_true rfl)) hl.1.1 (fun H locs hP => ?_)
    refine lv_icmp_ge hx hb (tgt := 120) dX12_hears_106 (by decide) (fun c106 => ?_) (fun c106 => ?_)
    · have hf := ifp hf c106
      refine lv_iload hx hb dX12_hears_120 (hl.at 4 rfl) ?_
      cases hf
      exact rw_iret X dX12_hears_122 hP
    · have hf := ifn hf c106
      refine rw_aload_n X dX12_hears_109 rfl (hl.at 0 rfl) ?_
      refine lv_iload_n hx hb dX12_hears_110 rfl (hl.at 1 rfl) ?_
      refine lv_iload_n hx hb dX12_hears_111 rfl (hl.at 3 rfl) ?_
      refine lv_iconst (v := 1) hx hb dX12_hears_112 (by decide) ?_
      refine lv_iadd hx hb dX12_hears_113 ?_
      obtain ⟨u114, r114, hf⟩ := ob hf
      obtain ⟨q114, e114, hf⟩ := ob hf
      refine rw_callVi (As := [.int l1, .int (l3 + 1)]) X dX12_hears_114 clX12_194 pyX12_asks (mX12_asks l e114) (by decide) r114 rfl hP rfl (catL c1n (Nat.le_of_ble_eq_true rfl)) hl.1.1 (fun H locs hP => ?_)
      refine lv_goto (tgt := 122) hx hb dX12_hears_117 (by decide) ?_
      cases hf
      exact rw_iret X dX12_hears_122 hP
  · have hf := ifn hf c87
    refine lv_iload_n hx hb dX12_hears_90 rfl (hl.at 2 rfl) ?_
    cases hf
    exact rw_iret X dX12_hears_91 hP
def fX12_hears_163 (Y : LY) : Nat → HS → Option Nat → Int32 → Int32 → Int32 → Int32 → Option (HS × Int32)
  | 0, _, _, _, _, _, _ => none
  | n + 1, S, l0, l1, l2, l3, l6 =>
    if l6 ≤ l3 then
      some (S, l2)
    else
      (rcv Y 12 l0).bind fun _ =>
      (fX12_childOf Y S l0 l1 l6).bind fun v174 =>
      (rcv Y 12 l0).bind fun _ =>
      (fX12_aborts Y S l0 v174).bind fun q177 =>
      fX12_hears_163 Y n q177.1 l0 l1 l2 l3 (l6 + (-1))
set_option maxRecDepth 100000 in
set_option maxHeartbeats 4000000 in
theorem wX12_hears_163 {p : Program} {l : Launch} {e : Env} {R : Room} {s : State} {m : MethodId} {args : Array Value} {below : List Frame} {meth : Method} {c : Code} {G : GG} {Y : LY} {res : HS × Int32} (X : Cx p R s m args meth c RX12 cX12_hears 7 5 119 (fun q => q ∈ Y.1) G (some .int)) : ∀ (n : Nat) (S : HS) (l0 : Option Nat) (l1 : Int32) (l2 : Int32) (l3 : Int32) (l6 : Int32), fX12_hears_163 Y n S l0 l1 l2 l3 l6 = some res → ∀ (H : Heap) (locs : List Loc) (ls : Array Slot), HP (fun q => q ∈ Y.1) G Y s S H locs → LV ls 7 [(0, va_rf l0), (1, .int l1), (2, .int l2), (3, .int l3), (6, .int l6)] → W p l e R s m args below meth c H locs 0 0 (MQ below (QI G Y res.1 (some (.int res.2))) args s 0 0 (fun q => q ∈ Y.1)) (F0 m 163 ls []) := by
  have hx := X.1.1
  have hb := X.1.2.1
  intro n
  induction n with
  | zero =>
    intro S l0 l1 l2 l3 l6 hf
    cases hf
  | succ n ih =>
    intro S l0 l1 l2 l3 l6 hf H locs ls hP hl
    rw [fX12_hears_163] at hf
    refine lv_iload hx hb dX12_hears_163 (hl.at 4 rfl) ?_
    refine lv_iload_n hx hb dX12_hears_165 rfl (hl.at 3 rfl) ?_
    refine lv_icmp_le hx hb (tgt := 187) dX12_hears_166 (by decide) (fun c166 => ?_) (fun c166 => ?_)
    · have hf := ifp hf c166
      refine lv_iload_n hx hb dX12_hears_187 rfl (hl.at 2 rfl) ?_
      cases hf
      exact rw_iret X dX12_hears_188 hP
    · have hf := ifn hf c166
      refine rw_aload_n X dX12_hears_169 rfl (hl.at 0 rfl) ?_
      refine rw_aload_n X dX12_hears_170 rfl (hl.at 0 rfl) ?_
      refine lv_iload_n hx hb dX12_hears_171 rfl (hl.at 1 rfl) ?_
      refine lv_iload hx hb dX12_hears_172 (hl.at 4 rfl) ?_
      obtain ⟨u174, r174, hf⟩ := ob hf
      obtain ⟨v174, e174, hf⟩ := ob hf
      refine rw_callVi (As := [.int l1, .int l6]) X dX12_hears_174 clX12_185 pyX12_childOf (mX12_childOf l e174) (by decide) r174 rfl hP rfl (catL (c1c (cr _) c1n) (Nat.le_of_ble_eq_true rfl)) hl.1.1 (fun H locs hP => ?_)
      obtain ⟨u177, r177, hf⟩ := ob hf
      obtain ⟨q177, e177, hf⟩ := ob hf
      refine rw_callVi (As := [.int v174]) X dX12_hears_177 clX12_200 pyX12_aborts (mX12_aborts l e177) (by decide) r177 rfl hP rfl (catL c1n (Nat.le_of_ble_eq_true rfl)) hl.1.1 (fun H locs hP => ?_)
      refine lv_pop hx hb dX12_hears_180 (ci _) ?_
      refine rv_iinc (k := 4) (d := (-1)) X dX12_hears_181 hl rfl (by decide) (by decide) rfl (fun ls hl => ?_)
      have hl : LV ls 7 [(6, .int (l6 + (-1))), (0, va_rf l0), (1, .int l1), (2, .int l2), (3, .int l3)] := hl
      refine lv_goto (tgt := 163) hx hb dX12_hears_184 (by decide) ?_
      exact ih q177.1 l0 l1 l2 l3 (l6 + (-1)) hf _ _ _ hP (hl.sub [1, 2, 3, 4, 0] rfl)
def fX12_hears_123 (Y : LY) (S : HS) (l0 : Option Nat) (l1 : Int32) (l2 : Int32) (l3 : Int32) (l5 : Int32) : Option (HS × Int32) :=
  if l2 = l5 then
    (rcv Y 12 l0).bind fun _ =>
    (fX12_children Y S l0 l1).bind fun v134 =>
    if v134 ≤ (l3 + 1) then
      some (S, l5)
    else
      (rcv Y 12 l0).bind fun _ =>
      (fX12_asks Y S l0 l1 (l3 + 1)).bind fun q145 =>
      some (q145.1, q145.2)
  else
    (rcv Y 12 l0).bind fun _ =>
    (fX12_children Y S l0 l1).bind fun v156 =>
    fX12_hears_163 Y FU S l0 l1 l2 l3 (v156 - 1)
set_option maxRecDepth 100000 in
set_option maxHeartbeats 4000000 in
theorem wX12_hears_123 {p : Program} {l : Launch} {e : Env} {R : Room} {s : State} {m : MethodId} {args : Array Value} {below : List Frame} {meth : Method} {c : Code} {G : GG} {Y : LY} {res : HS × Int32} (X : Cx p R s m args meth c RX12 cX12_hears 7 5 119 (fun q => q ∈ Y.1) G (some .int)) : ∀ (S : HS) (l0 : Option Nat) (l1 : Int32) (l2 : Int32) (l3 : Int32) (l5 : Int32), fX12_hears_123 Y S l0 l1 l2 l3 l5 = some res → ∀ (H : Heap) (locs : List Loc) (ls : Array Slot), HP (fun q => q ∈ Y.1) G Y s S H locs → LV ls 7 [(0, va_rf l0), (1, .int l1), (2, .int l2), (3, .int l3), (5, .int l5)] → W p l e R s m args below meth c H locs 0 0 (MQ below (QI G Y res.1 (some (.int res.2))) args s 0 0 (fun q => q ∈ Y.1)) (F0 m 123 ls []) := by
  have hx := X.1.1
  have hb := X.1.2.1
  intro S l0 l1 l2 l3 l5 hf H locs ls hP hl
  unfold fX12_hears_123 at hf
  refine lv_iload_n hx hb dX12_hears_123 rfl (hl.at 2 rfl) ?_
  refine lv_iload hx hb dX12_hears_124 (hl.at 4 rfl) ?_
  refine lv_icmp_ne hx hb (tgt := 154) dX12_hears_126 (by decide) (fun c126 => ?_) (fun c126 => ?_)
  · have hf := ifn hf c126
    refine rw_aload_n X dX12_hears_154 rfl (hl.at 0 rfl) ?_
    refine lv_iload_n hx hb dX12_hears_155 rfl (hl.at 1 rfl) ?_
    obtain ⟨u156, r156, hf⟩ := ob hf
    obtain ⟨v156, e156, hf⟩ := ob hf
    refine rw_callVi (As := [.int l1]) X dX12_hears_156 clX12_203 pyX12_children (mX12_children l e156) (by decide) r156 rfl hP rfl (catL c1n (Nat.le_of_ble_eq_true rfl)) hl.1.1 (fun H locs hP => ?_)
    refine lv_iconst (v := 1) hx hb dX12_hears_159 (by decide) ?_
    refine lv_isub hx hb dX12_hears_160 ?_
    refine rv_istore X dX12_hears_161 hl (by decide) rfl (fun ls hl => ?_)
    have hl : LV ls 7 [(6, .int (v156 - 1)), (0, va_rf l0), (1, .int l1), (2, .int l2), (3, .int l3), (5, .int l5)] := hl
    exact wX12_hears_163 X FU S l0 l1 l2 l3 (v156 - 1) hf _ _ _ hP (hl.sub [1, 2, 3, 4, 0] rfl)
  · have hf := ifp hf c126
    refine lv_iload_n hx hb dX12_hears_129 rfl (hl.at 3 rfl) ?_
    refine lv_iconst (v := 1) hx hb dX12_hears_130 (by decide) ?_
    refine lv_iadd hx hb dX12_hears_131 ?_
    refine rw_aload_n X dX12_hears_132 rfl (hl.at 0 rfl) ?_
    refine lv_iload_n hx hb dX12_hears_133 rfl (hl.at 1 rfl) ?_
    obtain ⟨u134, r134, hf⟩ := ob hf
    obtain ⟨v134, e134, hf⟩ := ob hf
    refine rw_callVi (As := [.int l1]) X dX12_hears_134 clX12_203 pyX12_children (mX12_children l e134) (by decide) r134 rfl hP rfl (catL (c1c (ci _) c1n) (Nat.le_of_ble_eq_true rfl)) hl.1.1 (fun H locs hP => ?_)
    refine lv_icmp_ge hx hb (tgt := 151) dX12_hears_137 (by decide) (fun c137 => ?_) (fun c137 => ?_)
    · have hf := ifp hf c137
      refine lv_iload hx hb dX12_hears_151 (hl.at 4 rfl) ?_
      cases hf
      exact rw_iret X dX12_hears_153 hP
    · have hf := ifn hf c137
      refine rw_aload_n X dX12_hears_140 rfl (hl.at 0 rfl) ?_
      refine lv_iload_n hx hb dX12_hears_141 rfl (hl.at 1 rfl) ?_
      refine lv_iload_n hx hb dX12_hears_142 rfl (hl.at 3 rfl) ?_
      refine lv_iconst (v := 1) hx hb dX12_hears_143 (by decide) ?_
      refine lv_iadd hx hb dX12_hears_144 ?_
      obtain ⟨u145, r145, hf⟩ := ob hf
      obtain ⟨q145, e145, hf⟩ := ob hf
      refine rw_callVi (As := [.int l1, .int (l3 + 1)]) X dX12_hears_145 clX12_194 pyX12_asks (mX12_asks l e145) (by decide) r145 rfl hP rfl (catL c1n (Nat.le_of_ble_eq_true rfl)) hl.1.1 (fun H locs hP => ?_)
      refine lv_goto (tgt := 153) hx hb dX12_hears_148 (by decide) ?_
      cases hf
      exact rw_iret X dX12_hears_153 hP
def fX12_hears_231 (Y : LY) (S : HS) (l0 : Option Nat) (l1 : Int32) (l3 : Int32) : Option (HS × Int32) :=
  (rcv Y 12 l0).bind fun _ =>
  (fX12_sets Y S l0 l1 5 (l3 + 1)).bind fun S237 =>
  (rcv Y 12 l0).bind fun _ =>
  (fX12_goesOn Y S237 l0 l1).bind fun q242 =>
  some (q242.1, q242.2)
set_option maxRecDepth 100000 in
set_option maxHeartbeats 4000000 in
theorem wX12_hears_231 {p : Program} {l : Launch} {e : Env} {R : Room} {s : State} {m : MethodId} {args : Array Value} {below : List Frame} {meth : Method} {c : Code} {G : GG} {Y : LY} {res : HS × Int32} (X : Cx p R s m args meth c RX12 cX12_hears 7 5 119 (fun q => q ∈ Y.1) G (some .int)) : ∀ (S : HS) (l0 : Option Nat) (l1 : Int32) (l3 : Int32), fX12_hears_231 Y S l0 l1 l3 = some res → ∀ (H : Heap) (locs : List Loc) (ls : Array Slot), HP (fun q => q ∈ Y.1) G Y s S H locs → LV ls 7 [(0, va_rf l0), (1, .int l1), (3, .int l3)] → W p l e R s m args below meth c H locs 0 0 (MQ below (QI G Y res.1 (some (.int res.2))) args s 0 0 (fun q => q ∈ Y.1)) (F0 m 231 ls []) := by
  have hx := X.1.1
  have hb := X.1.2.1
  intro S l0 l1 l3 hf H locs ls hP hl
  unfold fX12_hears_231 at hf
  refine rw_aload_n X dX12_hears_231 rfl (hl.at 0 rfl) ?_
  refine lv_iload_n hx hb dX12_hears_232 rfl (hl.at 1 rfl) ?_
  refine lv_iconst (v := 5) hx hb dX12_hears_233 (by decide) ?_
  refine lv_iload_n hx hb dX12_hears_234 rfl (hl.at 2 rfl) ?_
  refine lv_iconst (v := 1) hx hb dX12_hears_235 (by decide) ?_
  refine lv_iadd hx hb dX12_hears_236 ?_
  obtain ⟨u237, r237, hf⟩ := ob hf
  obtain ⟨S237, e237, hf⟩ := ob hf
  refine rw_callVv (As := [.int l1, .int 5, .int (l3 + 1)]) X dX12_hears_237 clX12_171 pyX12_sets (mX12_sets l e237) (by decide) r237 rfl hP rfl (catL c1n (Nat.le_of_ble_eq_true rfl)) hl.1.1 (fun H locs hP => ?_)
  refine rw_aload_n X dX12_hears_240 rfl (hl.at 0 rfl) ?_
  refine lv_iload_n hx hb dX12_hears_241 rfl (hl.at 1 rfl) ?_
  obtain ⟨u242, r242, hf⟩ := ob hf
  obtain ⟨q242, e242, hf⟩ := ob hf
  refine rw_callVi (As := [.int l1]) X dX12_hears_242 clX12_197 pyX12_goesOn (mX12_goesOn l e242) (by decide) r242 rfl hP rfl (catL c1n (Nat.le_of_ble_eq_true rfl)) hl.1.1 (fun H locs hP => ?_)
  cases hf
  exact rw_iret X dX12_hears_245 hP
def fX12_hears_210 (Y : LY) (S : HS) (l0 : Option Nat) (l1 : Int32) (l2 : Int32) (l3 : Int32) : Option (HS × Int32) :=
  if l2 = 3 then
    (rcv Y 12 l0).bind fun _ =>
    (fX12_of Y S l0 l1 3).bind fun v221 =>
    (rcv Y 12 l0).bind fun _ =>
    (fX12_sets Y S l0 l1 3 (v221 ||| (1 <<< (l3 &&& 31)))).bind fun S228 =>
    fX12_hears_231 Y S228 l0 l1 l3
  else
    fX12_hears_231 Y S l0 l1 l3
set_option maxRecDepth 100000 in
set_option maxHeartbeats 4000000 in
theorem wX12_hears_210 {p : Program} {l : Launch} {e : Env} {R : Room} {s : State} {m : MethodId} {args : Array Value} {below : List Frame} {meth : Method} {c : Code} {G : GG} {Y : LY} {res : HS × Int32} (X : Cx p R s m args meth c RX12 cX12_hears 7 5 119 (fun q => q ∈ Y.1) G (some .int)) : ∀ (S : HS) (l0 : Option Nat) (l1 : Int32) (l2 : Int32) (l3 : Int32), fX12_hears_210 Y S l0 l1 l2 l3 = some res → ∀ (H : Heap) (locs : List Loc) (ls : Array Slot), HP (fun q => q ∈ Y.1) G Y s S H locs → LV ls 7 [(0, va_rf l0), (1, .int l1), (2, .int l2), (3, .int l3)] → W p l e R s m args below meth c H locs 0 0 (MQ below (QI G Y res.1 (some (.int res.2))) args s 0 0 (fun q => q ∈ Y.1)) (F0 m 210 ls []) := by
  have hx := X.1.1
  have hb := X.1.2.1
  intro S l0 l1 l2 l3 hf H locs ls hP hl
  unfold fX12_hears_210 at hf
  refine lv_iload_n hx hb dX12_hears_210 rfl (hl.at 2 rfl) ?_
  refine lv_iconst (v := 3) hx hb dX12_hears_211 (by decide) ?_
  refine lv_icmp_ne hx hb (tgt := 231) dX12_hears_212 (by decide) (fun c212 => ?_) (fun c212 => ?_)
  · have hf := ifn hf c212
    exact wX12_hears_231 X S l0 l1 l3 hf _ _ _ hP (hl.sub [0, 1, 3] rfl)
  · have hf := ifp hf c212
    refine rw_aload_n X dX12_hears_215 rfl (hl.at 0 rfl) ?_
    refine lv_iload_n hx hb dX12_hears_216 rfl (hl.at 1 rfl) ?_
    refine lv_iconst (v := 3) hx hb dX12_hears_217 (by decide) ?_
    refine rw_aload_n X dX12_hears_218 rfl (hl.at 0 rfl) ?_
    refine lv_iload_n hx hb dX12_hears_219 rfl (hl.at 1 rfl) ?_
    refine lv_iconst (v := 3) hx hb dX12_hears_220 (by decide) ?_
    obtain ⟨u221, r221, hf⟩ := ob hf
    obtain ⟨v221, e221, hf⟩ := ob hf
    refine rw_callVi (As := [.int l1, .int 3]) X dX12_hears_221 clX12_168 pyX12_of (mX12_of l e221) (by decide) r221 rfl hP rfl (catL (c1c (ci _) (c1c (ci _) (c1c (cr _) c1n))) (Nat.le_of_ble_eq_true rfl)) hl.1.1 (fun H locs hP => ?_)
    refine lv_iconst (v := 1) hx hb dX12_hears_224 (by decide) ?_
    refine lv_iload_n hx hb dX12_hears_225 rfl (hl.at 3 rfl) ?_
    refine lv_ishl hx hb dX12_hears_226 ?_
    refine lv_ior hx hb dX12_hears_227 ?_
    obtain ⟨u228, r228, hf⟩ := ob hf
    obtain ⟨S228, e228, hf⟩ := ob hf
    refine rw_callVv (As := [.int l1, .int 3, .int (v221 ||| (1 <<< (l3 &&& 31)))]) X dX12_hears_228 clX12_171 pyX12_sets (mX12_sets l e228) (by decide) r228 rfl hP rfl (catL c1n (Nat.le_of_ble_eq_true rfl)) hl.1.1 (fun H locs hP => ?_)
    exact wX12_hears_231 X S228 l0 l1 l3 hf _ _ _ hP (hl.sub [0, 1, 3] rfl)
def fX12_hears_266 (Y : LY) (S : HS) (l0 : Option Nat) (l1 : Int32) (l2 : Int32) (l4 : Int32) : Option (HS × Int32) :=
  if l4 = 10 then
    (rcv Y 12 l0).bind fun _ =>
    (fX12_counts Y S l0 l1 l2 2).bind fun q281 =>
    some (q281.1, q281.2)
  else
    (rcv Y 12 l0).bind fun _ =>
    (fX12_counts Y S l0 l1 l2 3).bind fun q281 =>
    some (q281.1, q281.2)
set_option maxRecDepth 100000 in
set_option maxHeartbeats 4000000 in
theorem wX12_hears_266 {p : Program} {l : Launch} {e : Env} {R : Room} {s : State} {m : MethodId} {args : Array Value} {below : List Frame} {meth : Method} {c : Code} {G : GG} {Y : LY} {res : HS × Int32} (X : Cx p R s m args meth c RX12 cX12_hears 7 5 119 (fun q => q ∈ Y.1) G (some .int)) : ∀ (S : HS) (l0 : Option Nat) (l1 : Int32) (l2 : Int32) (l4 : Int32), fX12_hears_266 Y S l0 l1 l2 l4 = some res → ∀ (H : Heap) (locs : List Loc) (ls : Array Slot), HP (fun q => q ∈ Y.1) G Y s S H locs → LV ls 7 [(0, va_rf l0), (1, .int l1), (2, .int l2), (4, .int l4)] → W p l e R s m args below meth c H locs 0 0 (MQ below (QI G Y res.1 (some (.int res.2))) args s 0 0 (fun q => q ∈ Y.1)) (F0 m 266 ls []) := by
  have hx := X.1.1
  have hb := X.1.2.1
  intro S l0 l1 l2 l4 hf H locs ls hP hl
  unfold fX12_hears_266 at hf
  refine rw_aload_n X dX12_hears_266 rfl (hl.at 0 rfl) ?_
  refine lv_iload_n hx hb dX12_hears_267 rfl (hl.at 1 rfl) ?_
  refine lv_iload_n hx hb dX12_hears_268 rfl (hl.at 2 rfl) ?_
  refine lv_iload hx hb dX12_hears_269 (hl.at 3 rfl) ?_
  refine lv_bipush (v := 10) hx hb dX12_hears_271 (by decide) ?_
  refine lv_icmp_ne hx hb (tgt := 280) dX12_hears_273 (by decide) (fun c273 => ?_) (fun c273 => ?_)
  · have hf := ifn hf c273
    refine lv_iconst (v := 3) hx hb dX12_hears_280 (by decide) ?_
    obtain ⟨u281, r281, hf⟩ := ob hf
    obtain ⟨q281, e281, hf⟩ := ob hf
    refine rw_callVi (As := [.int l1, .int l2, .int 3]) X dX12_hears_281 clX12_209 pyX12_counts (mX12_counts l e281) (by decide) r281 rfl hP rfl (catL c1n (Nat.le_of_ble_eq_true rfl)) hl.1.1 (fun H locs hP => ?_)
    cases hf
    exact rw_iret X dX12_hears_284 hP
  · have hf := ifp hf c273
    refine lv_iconst (v := 2) hx hb dX12_hears_276 (by decide) ?_
    refine lv_goto (tgt := 281) hx hb dX12_hears_277 (by decide) ?_
    obtain ⟨u281, r281, hf⟩ := ob hf
    obtain ⟨q281, e281, hf⟩ := ob hf
    refine rw_callVi (As := [.int l1, .int l2, .int 2]) X dX12_hears_281 clX12_209 pyX12_counts (mX12_counts l e281) (by decide) r281 rfl hP rfl (catL c1n (Nat.le_of_ble_eq_true rfl)) hl.1.1 (fun H locs hP => ?_)
    cases hf
    exact rw_iret X dX12_hears_284 hP
def fX12_hears_33 (Y : LY) (S : HS) (l0 : Option Nat) (l1 : Int32) (l2 : Int32) (l3 : Int32) (l4 : Int32) (s0 : Int32) : Option (HS × Int32) :=
  if l4 = 4 then
    fX12_hears_84 Y S l0 l1 l2 l3 s0
  else
  if l4 = 5 then
    fX12_hears_84 Y S l0 l1 l2 l3 s0
  else
  if l4 = 6 then
    fX12_hears_123 Y S l0 l1 l2 l3 s0
  else
  if l4 = 7 then
    fX12_hears_123 Y S l0 l1 l2 l3 s0
  else
  if l4 = 8 then
    if l2 = 2 then
      (rcv Y 12 l0).bind fun _ =>
      (fX12_of Y S l0 l1 2).bind fun v200 =>
      (rcv Y 12 l0).bind fun _ =>
      (fX12_sets Y S l0 l1 2 (v200 ||| (1 <<< (l3 &&& 31)))).bind fun S207 =>
      fX12_hears_210 Y S207 l0 l1 l2 l3
    else
      fX12_hears_210 Y S l0 l1 l2 l3
  else
  if l4 = 9 then
    if l2 = 2 then
      some (S, 3)
    else
      if l2 = 3 then
        some (S, 2)
      else
        some (S, l2)
  else
  if l4 = 10 then
    fX12_hears_266 Y S l0 l1 l2 l4
  else
  if l4 = 11 then
    fX12_hears_266 Y S l0 l1 l2 l4
  else
  some (S, l2)
set_option maxRecDepth 100000 in
set_option maxHeartbeats 4000000 in
theorem wX12_hears_33 {p : Program} {l : Launch} {e : Env} {R : Room} {s : State} {m : MethodId} {args : Array Value} {below : List Frame} {meth : Method} {c : Code} {G : GG} {Y : LY} {res : HS × Int32} (X : Cx p R s m args meth c RX12 cX12_hears 7 5 119 (fun q => q ∈ Y.1) G (some .int)) : ∀ (S : HS) (l0 : Option Nat) (l1 : Int32) (l2 : Int32) (l3 : Int32) (l4 : Int32) (s0 : Int32), fX12_hears_33 Y S l0 l1 l2 l3 l4 s0 = some res → ∀ (H : Heap) (locs : List Loc) (ls : Array Slot), HP (fun q => q ∈ Y.1) G Y s S H locs → LV ls 7 [(0, va_rf l0), (1, .int l1), (2, .int l2), (3, .int l3), (4, .int l4)] → W p l e R s m args below meth c H locs 0 0 (MQ below (QI G Y res.1 (some (.int res.2))) args s 0 0 (fun q => q ∈ Y.1)) (F0 m 33 ls (.int s0 :: [])) := by
  have hx := X.1.1
  have hb := X.1.2.1
  intro S l0 l1 l2 l3 l4 s0 hf H locs ls hP hl
  unfold fX12_hears_33 at hf
  refine rv_istore X dX12_hears_33 hl (by decide) rfl (fun ls hl => ?_)
  have hl : LV ls 7 [(5, .int s0), (0, va_rf l0), (1, .int l1), (2, .int l2), (3, .int l3), (4, .int l4)] := hl
  refine lv_iload hx hb dX12_hears_35 (hl.at 5 rfl) ?_
  by_cases c37_0 : l4 = 4
  · have hf := ifp hf c37_0
    refine lv_tableIn (tgt := 84) hx hb dX12_hears_37 (by rw [c37_0]; decide) (by rw [c37_0]; decide) (by rw [c37_0]; rfl) (by decide) ?_
    exact wX12_hears_84 X S l0 l1 l2 l3 s0 hf _ _ _ hP (hl.sub [1, 2, 3, 4, 0] rfl)
  have hf := ifn hf c37_0
  by_cases c37_1 : l4 = 5
  · have hf := ifp hf c37_1
    refine lv_tableIn (tgt := 84) hx hb dX12_hears_37 (by rw [c37_1]; decide) (by rw [c37_1]; decide) (by rw [c37_1]; rfl) (by decide) ?_
    exact wX12_hears_84 X S l0 l1 l2 l3 s0 hf _ _ _ hP (hl.sub [1, 2, 3, 4, 0] rfl)
  have hf := ifn hf c37_1
  by_cases c37_2 : l4 = 6
  · have hf := ifp hf c37_2
    refine lv_tableIn (tgt := 123) hx hb dX12_hears_37 (by rw [c37_2]; decide) (by rw [c37_2]; decide) (by rw [c37_2]; rfl) (by decide) ?_
    exact wX12_hears_123 X S l0 l1 l2 l3 s0 hf _ _ _ hP (hl.sub [1, 2, 3, 4, 0] rfl)
  have hf := ifn hf c37_2
  by_cases c37_3 : l4 = 7
  · have hf := ifp hf c37_3
    refine lv_tableIn (tgt := 123) hx hb dX12_hears_37 (by rw [c37_3]; decide) (by rw [c37_3]; decide) (by rw [c37_3]; rfl) (by decide) ?_
    exact wX12_hears_123 X S l0 l1 l2 l3 s0 hf _ _ _ hP (hl.sub [1, 2, 3, 4, 0] rfl)
  have hf := ifn hf c37_3
  by_cases c37_4 : l4 = 8
  · have hf := ifp hf c37_4
    refine lv_tableIn (tgt := 189) hx hb dX12_hears_37 (by rw [c37_4]; decide) (by rw [c37_4]; decide) (by rw [c37_4]; rfl) (by decide) ?_
    refine lv_iload_n hx hb dX12_hears_189 rfl (hl.at 3 rfl) ?_
    refine lv_iconst (v := 2) hx hb dX12_hears_190 (by decide) ?_
    refine lv_icmp_ne hx hb (tgt := 210) dX12_hears_191 (by decide) (fun c191 => ?_) (fun c191 => ?_)
    · have hf := ifn hf c191
      exact wX12_hears_210 X S l0 l1 l2 l3 hf _ _ _ hP (hl.sub [1, 2, 3, 4] rfl)
    · have hf := ifp hf c191
      refine rw_aload_n X dX12_hears_194 rfl (hl.at 1 rfl) ?_
      refine lv_iload_n hx hb dX12_hears_195 rfl (hl.at 2 rfl) ?_
      refine lv_iconst (v := 2) hx hb dX12_hears_196 (by decide) ?_
      refine rw_aload_n X dX12_hears_197 rfl (hl.at 1 rfl) ?_
      refine lv_iload_n hx hb dX12_hears_198 rfl (hl.at 2 rfl) ?_
      refine lv_iconst (v := 2) hx hb dX12_hears_199 (by decide) ?_
      obtain ⟨u200, r200, hf⟩ := ob hf
      obtain ⟨v200, e200, hf⟩ := ob hf
      refine rw_callVi (As := [.int l1, .int 2]) X dX12_hears_200 clX12_168 pyX12_of (mX12_of l e200) (by decide) r200 rfl hP rfl (catL (c1c (ci _) (c1c (ci _) (c1c (cr _) c1n))) (Nat.le_of_ble_eq_true rfl)) hl.1.1 (fun H locs hP => ?_)
      refine lv_iconst (v := 1) hx hb dX12_hears_203 (by decide) ?_
      refine lv_iload_n hx hb dX12_hears_204 rfl (hl.at 4 rfl) ?_
      refine lv_ishl hx hb dX12_hears_205 ?_
      refine lv_ior hx hb dX12_hears_206 ?_
      obtain ⟨u207, r207, hf⟩ := ob hf
      obtain ⟨S207, e207, hf⟩ := ob hf
      refine rw_callVv (As := [.int l1, .int 2, .int (v200 ||| (1 <<< (l3 &&& 31)))]) X dX12_hears_207 clX12_171 pyX12_sets (mX12_sets l e207) (by decide) r207 rfl hP rfl (catL c1n (Nat.le_of_ble_eq_true rfl)) hl.1.1 (fun H locs hP => ?_)
      exact wX12_hears_210 X S207 l0 l1 l2 l3 hf _ _ _ hP (hl.sub [1, 2, 3, 4] rfl)
  have hf := ifn hf c37_4
  by_cases c37_5 : l4 = 9
  · have hf := ifp hf c37_5
    refine lv_tableIn (tgt := 246) hx hb dX12_hears_37 (by rw [c37_5]; decide) (by rw [c37_5]; decide) (by rw [c37_5]; rfl) (by decide) ?_
    refine lv_iload_n hx hb dX12_hears_246 rfl (hl.at 3 rfl) ?_
    refine lv_iconst (v := 2) hx hb dX12_hears_247 (by decide) ?_
    refine lv_icmp_ne hx hb (tgt := 255) dX12_hears_248 (by decide) (fun c248 => ?_) (fun c248 => ?_)
    · have hf := ifn hf c248
      refine lv_iload_n hx hb dX12_hears_255 rfl (hl.at 3 rfl) ?_
      refine lv_iconst (v := 3) hx hb dX12_hears_256 (by decide) ?_
      refine lv_icmp_ne hx hb (tgt := 264) dX12_hears_257 (by decide) (fun c257 => ?_) (fun c257 => ?_)
      · have hf := ifn hf c257
        refine lv_iload_n hx hb dX12_hears_264 rfl (hl.at 3 rfl) ?_
        cases hf
        exact rw_iret X dX12_hears_265 hP
      · have hf := ifp hf c257
        refine lv_iconst (v := 2) hx hb dX12_hears_260 (by decide) ?_
        refine lv_goto (tgt := 265) hx hb dX12_hears_261 (by decide) ?_
        cases hf
        exact rw_iret X dX12_hears_265 hP
    · have hf := ifp hf c248
      refine lv_iconst (v := 3) hx hb dX12_hears_251 (by decide) ?_
      refine lv_goto (tgt := 265) hx hb dX12_hears_252 (by decide) ?_
      cases hf
      exact rw_iret X dX12_hears_265 hP
  have hf := ifn hf c37_5
  by_cases c37_6 : l4 = 10
  · have hf := ifp hf c37_6
    refine lv_tableIn (tgt := 266) hx hb dX12_hears_37 (by rw [c37_6]; decide) (by rw [c37_6]; decide) (by rw [c37_6]; rfl) (by decide) ?_
    exact wX12_hears_266 X S l0 l1 l2 l4 hf _ _ _ hP (hl.sub [1, 2, 3, 5] rfl)
  have hf := ifn hf c37_6
  by_cases c37_7 : l4 = 11
  · have hf := ifp hf c37_7
    refine lv_tableIn (tgt := 266) hx hb dX12_hears_37 (by rw [c37_7]; decide) (by rw [c37_7]; decide) (by rw [c37_7]; rfl) (by decide) ?_
    exact wX12_hears_266 X S l0 l1 l2 l4 hf _ _ _ hP (hl.sub [1, 2, 3, 5] rfl)
  have hf := ifn hf c37_7
  have t37_0 := tsw (k := 4) (v := 4) (by decide) c37_0
  have t37_1 := tsw (k := 5) (v := 5) (by decide) c37_1
  have t37_2 := tsw (k := 6) (v := 6) (by decide) c37_2
  have t37_3 := tsw (k := 7) (v := 7) (by decide) c37_3
  have t37_4 := tsw (k := 8) (v := 8) (by decide) c37_4
  have t37_5 := tsw (k := 9) (v := 9) (by decide) c37_5
  have t37_6 := tsw (k := 10) (v := 10) (by decide) c37_6
  have t37_7 := tsw (k := 11) (v := 11) (by decide) c37_7
  refine lv_tableOut (tgt := 285) hx hb dX12_hears_37 (by omega) (by decide) ?_
  refine lv_iload_n hx hb dX12_hears_285 rfl (hl.at 3 rfl) ?_
  cases hf
  exact rw_iret X dX12_hears_286 hP
def fX12_hears (Y : LY) (S : HS) (l0 : Option Nat) (l1 : Int32) (l2 : Int32) : Option (HS × Int32) :=
  (rcv Y 12 l0).bind fun _ =>
  (fX12_of Y S l0 l1 5).bind fun v3 =>
  (gR Y 12 1209 l0 S).bind fun v8 =>
  (gA Y 14 v8 l1 S).bind fun v12 =>
  if v12 = 5 then
    fX12_hears_33 Y S l0 l1 l2 v3 v12 3
  else
    if v12 = 7 then
      fX12_hears_33 Y S l0 l1 l2 v3 v12 3
    else
      fX12_hears_33 Y S l0 l1 l2 v3 v12 2
set_option maxRecDepth 100000 in
set_option maxHeartbeats 4000000 in
theorem mX12_hears (l : Launch) {G : GG} {Y : LY} {S : HS} {l0 : Option Nat} {l1 : Int32} {l2 : Int32} {res : HS × Int32} (hf : fX12_hears Y S l0 l1 l2 = some res) : MM l yX12_hears cX12_hears 7 (some .int) 5 119 G Y S [va_rf l0, .int l1, .int l2] res.1 (some (.int res.2)) := by
  refine mm_of2 (plainFor_of_name (by decide +kernel)) (Nat.le_of_ble_eq_true rfl) (c1c (cr _) (c1c (ci _) (c1c (ci _) c1n))) ?_
  intro p e R s m args below meth c X H locs ls hP hl
  have X : Cx p R s m args meth c RX12 cX12_hears 7 5 119 (fun q => q ∈ Y.1) G (some .int) := X
  have hx := X.1.1
  have hb := X.1.2.1
  have hl : LV ls 7 [(0, va_rf l0), (1, .int l1), (2, .int l2)] := hl
  unfold fX12_hears at hf
  refine rw_aload_n X dX12_hears_0 rfl (hl.at 0 rfl) ?_
  refine lv_iload_n hx hb dX12_hears_1 rfl (hl.at 1 rfl) ?_
  refine lv_iconst (v := 5) hx hb dX12_hears_2 (by decide) ?_
  obtain ⟨u3, r3, hf⟩ := ob hf
  obtain ⟨v3, e3, hf⟩ := ob hf
  refine rw_callVi (As := [.int l1, .int 5]) X dX12_hears_3 clX12_168 pyX12_of (mX12_of l e3) (by decide) r3 rfl hP rfl (catL c1n (Nat.le_of_ble_eq_true rfl)) hl.1.1 (fun H locs hP => ?_)
  refine rv_istore_n X dX12_hears_6 rfl hl (by decide) rfl (fun ls hl => ?_)
  have hl : LV ls 7 [(3, .int v3), (0, va_rf l0), (1, .int l1), (2, .int l2)] := hl
  refine rw_aload_n X dX12_hears_7 rfl (hl.at 1 rfl) ?_
  obtain ⟨v8, e8, hf⟩ := ob hf
  refine rw_getR X dX12_hears_8 fl12_25 e8 rfl hP ?_
  refine lv_iload_n hx hb dX12_hears_11 rfl (hl.at 2 rfl) ?_
  obtain ⟨v12, e12, hf⟩ := ob hf
  refine rw_iald X dX12_hears_12 e12 hP ?_
  refine rv_istore X dX12_hears_13 hl (by decide) rfl (fun ls hl => ?_)
  have hl : LV ls 7 [(4, .int v12), (3, .int v3), (0, va_rf l0), (1, .int l1), (2, .int l2)] := hl
  refine lv_iload hx hb dX12_hears_15 (hl.at 0 rfl) ?_
  refine lv_iconst (v := 5) hx hb dX12_hears_17 (by decide) ?_
  refine lv_icmp_eq hx hb (tgt := 28) dX12_hears_18 (by decide) (fun c18 => ?_) (fun c18 => ?_)
  · have hf := ifp hf c18
    refine lv_iconst (v := 3) hx hb dX12_hears_28 (by decide) ?_
    refine lv_goto (tgt := 33) hx hb dX12_hears_29 (by decide) ?_
    exact wX12_hears_33 X S l0 l1 l2 v3 v12 3 hf _ _ _ hP (hl.sub [2, 3, 4, 1, 0] rfl)
  · have hf := ifn hf c18
    refine lv_iload hx hb dX12_hears_21 (hl.at 0 rfl) ?_
    refine lv_bipush (v := 7) hx hb dX12_hears_23 (by decide) ?_
    refine lv_icmp_ne hx hb (tgt := 32) dX12_hears_25 (by decide) (fun c25 => ?_) (fun c25 => ?_)
    · have hf := ifn hf c25
      refine lv_iconst (v := 2) hx hb dX12_hears_32 (by decide) ?_
      exact wX12_hears_33 X S l0 l1 l2 v3 v12 2 hf _ _ _ hP (hl.sub [2, 3, 4, 1, 0] rfl)
    · have hf := ifp hf c25
      refine lv_iconst (v := 3) hx hb dX12_hears_28 (by decide) ?_
      refine lv_goto (tgt := 33) hx hb dX12_hears_29 (by decide) ?_
      exact wX12_hears_33 X S l0 l1 l2 v3 v12 3 hf _ _ _ hP (hl.sub [2, 3, 4, 1, 0] rfl)
theorem dX12_leaves_0 : decode cX12_leaves 0 = .ok (.aload_n 0, 1) := by decide +kernel
theorem dX12_leaves_1 : decode cX12_leaves 1 = .ok (.iload_n 1, 1) := by decide +kernel
theorem dX12_leaves_2 : decode cX12_leaves 2 = .ok (.iload_n 2, 1) := by decide +kernel
theorem dX12_leaves_3 : decode cX12_leaves 3 = .ok (.invokevirtual 179, 3) := by decide +kernel
theorem dX12_leaves_6 : decode cX12_leaves 6 = .ok (.iload_n 2, 1) := by decide +kernel
theorem dX12_leaves_7 : decode cX12_leaves 7 = .ok (.iconst 1, 1) := by decide +kernel
theorem dX12_leaves_8 : decode cX12_leaves 8 = .ok (.if_icmp .ne 4, 3) := by decide +kernel
theorem dX12_leaves_11 : decode cX12_leaves 11 = .ok (.return_, 1) := by decide +kernel
theorem dX12_leaves_12 : decode cX12_leaves 12 = .ok (.aload_n 0, 1) := by decide +kernel
theorem dX12_leaves_13 : decode cX12_leaves 13 = .ok (.iload_n 1, 1) := by decide +kernel
theorem dX12_leaves_14 : decode cX12_leaves 14 = .ok (.iconst 0, 1) := by decide +kernel
theorem dX12_leaves_15 : decode cX12_leaves 15 = .ok (.iconst 0, 1) := by decide +kernel
theorem dX12_leaves_16 : decode cX12_leaves 16 = .ok (.invokevirtual 171, 3) := by decide +kernel
theorem dX12_leaves_19 : decode cX12_leaves 19 = .ok (.aload_n 0, 1) := by decide +kernel
theorem dX12_leaves_20 : decode cX12_leaves 20 = .ok (.iload_n 1, 1) := by decide +kernel
theorem dX12_leaves_21 : decode cX12_leaves 21 = .ok (.iload_n 2, 1) := by decide +kernel
theorem dX12_leaves_22 : decode cX12_leaves 22 = .ok (.iconst 2, 1) := by decide +kernel
theorem dX12_leaves_23 : decode cX12_leaves 23 = .ok (.if_icmp .ne 8, 3) := by decide +kernel
theorem dX12_leaves_26 : decode cX12_leaves 26 = .ok (.bipush 7, 2) := by decide +kernel
theorem dX12_leaves_28 : decode cX12_leaves 28 = .ok (.goto 5, 3) := by decide +kernel
theorem dX12_leaves_31 : decode cX12_leaves 31 = .ok (.bipush 8, 2) := by decide +kernel
theorem dX12_leaves_33 : decode cX12_leaves 33 = .ok (.invokevirtual 175, 3) := by decide +kernel
theorem dX12_leaves_36 : decode cX12_leaves 36 = .ok (.aload_n 0, 1) := by decide +kernel
theorem dX12_leaves_37 : decode cX12_leaves 37 = .ok (.getfield 25, 3) := by decide +kernel
theorem dX12_leaves_40 : decode cX12_leaves 40 = .ok (.iload_n 1, 1) := by decide +kernel
theorem dX12_leaves_41 : decode cX12_leaves 41 = .ok (.iaload, 1) := by decide +kernel
theorem dX12_leaves_42 : decode cX12_leaves 42 = .ok (.iconst 2, 1) := by decide +kernel
theorem dX12_leaves_43 : decode cX12_leaves 43 = .ok (.if_icmp .ge 8, 3) := by decide +kernel
theorem dX12_leaves_46 : decode cX12_leaves 46 = .ok (.aload_n 0, 1) := by decide +kernel
theorem dX12_leaves_47 : decode cX12_leaves 47 = .ok (.iload_n 1, 1) := by decide +kernel
theorem dX12_leaves_48 : decode cX12_leaves 48 = .ok (.invokevirtual 182, 3) := by decide +kernel
theorem dX12_leaves_51 : decode cX12_leaves 51 = .ok (.return_, 1) := by decide +kernel
theorem pyX12_leaves : PY yX12_leaves 2 := ⟨by decide +kernel, by decide +kernel, by decide +kernel⟩
def fX12_leaves_33 (Y : LY) (S : HS) (l0 : Option Nat) (l1 : Int32) (s0 : Option Nat) (s1 : Int32) (s2 : Int32) : Option (HS) :=
  (rcv Y 12 s0).bind fun _ =>
  (fX12_adds Y S s0 s1 s2).bind fun S33 =>
  (gR Y 12 1209 l0 S33).bind fun v37 =>
  (gA Y 14 v37 l1 S33).bind fun v41 =>
  if 2 ≤ v41 then
    some S33
  else
    (rcv Y 12 l0).bind fun _ =>
    (fX12_ends Y S33 l0 l1).bind fun S48 =>
    some S48
set_option maxRecDepth 100000 in
set_option maxHeartbeats 4000000 in
theorem wX12_leaves_33 {p : Program} {l : Launch} {e : Env} {R : Room} {s : State} {m : MethodId} {args : Array Value} {below : List Frame} {meth : Method} {c : Code} {G : GG} {Y : LY} {res : HS} (X : Cx p R s m args meth c RX12 cX12_leaves 3 3 70 (fun q => q ∈ Y.1) G none) : ∀ (S : HS) (l0 : Option Nat) (l1 : Int32) (s0 : Option Nat) (s1 : Int32) (s2 : Int32), fX12_leaves_33 Y S l0 l1 s0 s1 s2 = some res → ∀ (H : Heap) (locs : List Loc) (ls : Array Slot), HP (fun q => q ∈ Y.1) G Y s S H locs → LV ls 3 [(0, va_rf l0), (1, .int l1)] → W p l e R s m args below meth c H locs 0 0 (MQ below (QI G Y res none) args s 0 0 (fun q => q ∈ Y.1)) (F0 m 33 ls (.int s2 :: (.int s1 :: (va_rf s0 :: [])))) := by
  have hx := X.1.1
  have hb := X.1.2.1
  intro S l0 l1 s0 s1 s2 hf H locs ls hP hl
  unfold fX12_leaves_33 at hf
  obtain ⟨u33, r33, hf⟩ := ob hf
  obtain ⟨S33, e33, hf⟩ := ob hf
  refine rw_callVv (As := [.int s1, .int s2]) X dX12_leaves_33 clX12_175 pyX12_adds (mX12_adds l e33) (by decide) r33 rfl hP rfl (catL c1n (Nat.le_of_ble_eq_true rfl)) hl.1.1 (fun H locs hP => ?_)
  refine rw_aload_n X dX12_leaves_36 rfl (hl.at 0 rfl) ?_
  obtain ⟨v37, e37, hf⟩ := ob hf
  refine rw_getR X dX12_leaves_37 fl12_25 e37 rfl hP ?_
  refine lv_iload_n hx hb dX12_leaves_40 rfl (hl.at 1 rfl) ?_
  obtain ⟨v41, e41, hf⟩ := ob hf
  refine rw_iald X dX12_leaves_41 e41 hP ?_
  refine lv_iconst (v := 2) hx hb dX12_leaves_42 (by decide) ?_
  refine lv_icmp_ge hx hb (tgt := 51) dX12_leaves_43 (by decide) (fun c43 => ?_) (fun c43 => ?_)
  · have hf := ifp hf c43
    cases hf
    exact rw_vret X dX12_leaves_51 hP
  · have hf := ifn hf c43
    refine rw_aload_n X dX12_leaves_46 rfl (hl.at 0 rfl) ?_
    refine lv_iload_n hx hb dX12_leaves_47 rfl (hl.at 1 rfl) ?_
    obtain ⟨u48, r48, hf⟩ := ob hf
    obtain ⟨S48, e48, hf⟩ := ob hf
    refine rw_callVv (As := [.int l1]) X dX12_leaves_48 clX12_182 pyX12_ends (mX12_ends l e48) (by decide) r48 rfl hP rfl (catL c1n (Nat.le_of_ble_eq_true rfl)) hl.1.1 (fun H locs hP => ?_)
    cases hf
    exact rw_vret X dX12_leaves_51 hP
def fX12_leaves (Y : LY) (S : HS) (l0 : Option Nat) (l1 : Int32) (l2 : Int32) : Option (HS) :=
  (rcv Y 12 l0).bind fun _ =>
  (fX12_tells Y S l0 l1 l2).bind fun S3 =>
  if l2 = 1 then
    some S3
  else
    (rcv Y 12 l0).bind fun _ =>
    (fX12_sets Y S3 l0 l1 0 0).bind fun S16 =>
    if l2 = 2 then
      fX12_leaves_33 Y S16 l0 l1 l0 l1 7
    else
      fX12_leaves_33 Y S16 l0 l1 l0 l1 8
set_option maxRecDepth 100000 in
set_option maxHeartbeats 4000000 in
theorem mX12_leaves (l : Launch) {G : GG} {Y : LY} {S : HS} {l0 : Option Nat} {l1 : Int32} {l2 : Int32} {res : HS} (hf : fX12_leaves Y S l0 l1 l2 = some res) : MM l yX12_leaves cX12_leaves 3 none 3 70 G Y S [va_rf l0, .int l1, .int l2] res none := by
  refine mm_of2 (plainFor_of_name (by decide +kernel)) (Nat.le_of_ble_eq_true rfl) (c1c (cr _) (c1c (ci _) (c1c (ci _) c1n))) ?_
  intro p e R s m args below meth c X H locs ls hP hl
  have X : Cx p R s m args meth c RX12 cX12_leaves 3 3 70 (fun q => q ∈ Y.1) G none := X
  have hx := X.1.1
  have hb := X.1.2.1
  have hl : LV ls 3 [(0, va_rf l0), (1, .int l1), (2, .int l2)] := hl
  unfold fX12_leaves at hf
  refine rw_aload_n X dX12_leaves_0 rfl (hl.at 0 rfl) ?_
  refine lv_iload_n hx hb dX12_leaves_1 rfl (hl.at 1 rfl) ?_
  refine lv_iload_n hx hb dX12_leaves_2 rfl (hl.at 2 rfl) ?_
  obtain ⟨u3, r3, hf⟩ := ob hf
  obtain ⟨S3, e3, hf⟩ := ob hf
  refine rw_callVv (As := [.int l1, .int l2]) X dX12_leaves_3 clX12_179 pyX12_tells (mX12_tells l e3) (by decide) r3 rfl hP rfl (catL c1n (Nat.le_of_ble_eq_true rfl)) hl.1.1 (fun H locs hP => ?_)
  refine lv_iload_n hx hb dX12_leaves_6 rfl (hl.at 2 rfl) ?_
  refine lv_iconst (v := 1) hx hb dX12_leaves_7 (by decide) ?_
  refine lv_icmp_ne hx hb (tgt := 12) dX12_leaves_8 (by decide) (fun c8 => ?_) (fun c8 => ?_)
  · have hf := ifn hf c8
    refine rw_aload_n X dX12_leaves_12 rfl (hl.at 0 rfl) ?_
    refine lv_iload_n hx hb dX12_leaves_13 rfl (hl.at 1 rfl) ?_
    refine lv_iconst (v := 0) hx hb dX12_leaves_14 (by decide) ?_
    refine lv_iconst (v := 0) hx hb dX12_leaves_15 (by decide) ?_
    obtain ⟨u16, r16, hf⟩ := ob hf
    obtain ⟨S16, e16, hf⟩ := ob hf
    refine rw_callVv (As := [.int l1, .int 0, .int 0]) X dX12_leaves_16 clX12_171 pyX12_sets (mX12_sets l e16) (by decide) r16 rfl hP rfl (catL c1n (Nat.le_of_ble_eq_true rfl)) hl.1.1 (fun H locs hP => ?_)
    refine rw_aload_n X dX12_leaves_19 rfl (hl.at 0 rfl) ?_
    refine lv_iload_n hx hb dX12_leaves_20 rfl (hl.at 1 rfl) ?_
    refine lv_iload_n hx hb dX12_leaves_21 rfl (hl.at 2 rfl) ?_
    refine lv_iconst (v := 2) hx hb dX12_leaves_22 (by decide) ?_
    refine lv_icmp_ne hx hb (tgt := 31) dX12_leaves_23 (by decide) (fun c23 => ?_) (fun c23 => ?_)
    · have hf := ifn hf c23
      refine lv_bipush (v := 8) hx hb dX12_leaves_31 (by decide) ?_
      exact wX12_leaves_33 X S16 l0 l1 l0 l1 8 hf _ _ _ hP (hl.sub [0, 1] rfl)
    · have hf := ifp hf c23
      refine lv_bipush (v := 7) hx hb dX12_leaves_26 (by decide) ?_
      refine lv_goto (tgt := 33) hx hb dX12_leaves_28 (by decide) ?_
      exact wX12_leaves_33 X S16 l0 l1 l0 l1 7 hf _ _ _ hP (hl.sub [0, 1] rfl)
  · have hf := ifp hf c8
    cases hf
    exact rw_vret X dX12_leaves_11 hP
theorem dX12_ticked_0 : decode cX12_ticked 0 = .ok (.aload_n 0, 1) := by decide +kernel
theorem dX12_ticked_1 : decode cX12_ticked 1 = .ok (.getfield 9, 3) := by decide +kernel
theorem dX12_ticked_4 : decode cX12_ticked 4 = .ok (.sipush 286, 3) := by decide +kernel
theorem dX12_ticked_7 : decode cX12_ticked 7 = .ok (.dup2, 1) := by decide +kernel
theorem dX12_ticked_8 : decode cX12_ticked 8 = .ok (.iaload, 1) := by decide +kernel
theorem dX12_ticked_9 : decode cX12_ticked 9 = .ok (.iconst 1, 1) := by decide +kernel
theorem dX12_ticked_10 : decode cX12_ticked 10 = .ok (.iadd, 1) := by decide +kernel
theorem dX12_ticked_11 : decode cX12_ticked 11 = .ok (.iastore, 1) := by decide +kernel
theorem dX12_ticked_12 : decode cX12_ticked 12 = .ok (.iload_n 1, 1) := by decide +kernel
theorem dX12_ticked_13 : decode cX12_ticked 13 = .ok (.iconst 2, 1) := by decide +kernel
theorem dX12_ticked_14 : decode cX12_ticked 14 = .ok (.if_icmp .ne 15, 3) := by decide +kernel
theorem dX12_ticked_17 : decode cX12_ticked 17 = .ok (.aload_n 0, 1) := by decide +kernel
theorem dX12_ticked_18 : decode cX12_ticked 18 = .ok (.getfield 9, 3) := by decide +kernel
theorem dX12_ticked_21 : decode cX12_ticked 21 = .ok (.sipush 287, 3) := by decide +kernel
theorem dX12_ticked_24 : decode cX12_ticked 24 = .ok (.dup2, 1) := by decide +kernel
theorem dX12_ticked_25 : decode cX12_ticked 25 = .ok (.iaload, 1) := by decide +kernel
theorem dX12_ticked_26 : decode cX12_ticked 26 = .ok (.iconst 1, 1) := by decide +kernel
theorem dX12_ticked_27 : decode cX12_ticked 27 = .ok (.iadd, 1) := by decide +kernel
theorem dX12_ticked_28 : decode cX12_ticked 28 = .ok (.iastore, 1) := by decide +kernel
theorem dX12_ticked_29 : decode cX12_ticked 29 = .ok (.iload_n 1, 1) := by decide +kernel
theorem dX12_ticked_30 : decode cX12_ticked 30 = .ok (.iconst 3, 1) := by decide +kernel
theorem dX12_ticked_31 : decode cX12_ticked 31 = .ok (.if_icmp .ne 15, 3) := by decide +kernel
theorem dX12_ticked_34 : decode cX12_ticked 34 = .ok (.aload_n 0, 1) := by decide +kernel
theorem dX12_ticked_35 : decode cX12_ticked 35 = .ok (.getfield 9, 3) := by decide +kernel
theorem dX12_ticked_38 : decode cX12_ticked 38 = .ok (.sipush 288, 3) := by decide +kernel
theorem dX12_ticked_41 : decode cX12_ticked 41 = .ok (.dup2, 1) := by decide +kernel
theorem dX12_ticked_42 : decode cX12_ticked 42 = .ok (.iaload, 1) := by decide +kernel
theorem dX12_ticked_43 : decode cX12_ticked 43 = .ok (.iconst 1, 1) := by decide +kernel
theorem dX12_ticked_44 : decode cX12_ticked 44 = .ok (.iadd, 1) := by decide +kernel
theorem dX12_ticked_45 : decode cX12_ticked 45 = .ok (.iastore, 1) := by decide +kernel
theorem dX12_ticked_46 : decode cX12_ticked 46 = .ok (.iload_n 1, 1) := by decide +kernel
theorem dX12_ticked_47 : decode cX12_ticked 47 = .ok (.ireturn, 1) := by decide +kernel
theorem pyX12_ticked : PY yX12_ticked 1 := ⟨by decide +kernel, by decide +kernel, by decide +kernel⟩
def fX12_ticked_29 (Y : LY) (S : HS) (l0 : Option Nat) (l1 : Int32) : Option (HS × Int32) :=
  if l1 = 3 then
    (gR Y 12 1200 l0 S).bind fun v35 =>
    (gA Y 14 v35 288 S).bind fun v42 =>
    (pA Y 14 v35 288 (v42 + 1) S).bind fun S45 =>
    some (S45, l1)
  else
    some (S, l1)
set_option maxRecDepth 100000 in
set_option maxHeartbeats 4000000 in
theorem wX12_ticked_29 {p : Program} {l : Launch} {e : Env} {R : Room} {s : State} {m : MethodId} {args : Array Value} {below : List Frame} {meth : Method} {c : Code} {G : GG} {Y : LY} {res : HS × Int32} (X : Cx p R s m args meth c RX12 cX12_ticked 2 0 0 (fun q => q ∈ Y.1) G (some .int)) : ∀ (S : HS) (l0 : Option Nat) (l1 : Int32), fX12_ticked_29 Y S l0 l1 = some res → ∀ (H : Heap) (locs : List Loc) (ls : Array Slot), HP (fun q => q ∈ Y.1) G Y s S H locs → LV ls 2 [(0, va_rf l0), (1, .int l1)] → W p l e R s m args below meth c H locs 0 0 (MQ below (QI G Y res.1 (some (.int res.2))) args s 0 0 (fun q => q ∈ Y.1)) (F0 m 29 ls []) := by
  have hx := X.1.1
  have hb := X.1.2.1
  intro S l0 l1 hf H locs ls hP hl
  unfold fX12_ticked_29 at hf
  refine lv_iload_n hx hb dX12_ticked_29 rfl (hl.at 1 rfl) ?_
  refine lv_iconst (v := 3) hx hb dX12_ticked_30 (by decide) ?_
  refine lv_icmp_ne hx hb (tgt := 46) dX12_ticked_31 (by decide) (fun c31 => ?_) (fun c31 => ?_)
  · have hf := ifn hf c31
    refine lv_iload_n hx hb dX12_ticked_46 rfl (hl.at 1 rfl) ?_
    cases hf
    exact rw_iret X dX12_ticked_47 hP
  · have hf := ifp hf c31
    refine rw_aload_n X dX12_ticked_34 rfl (hl.at 0 rfl) ?_
    obtain ⟨v35, e35, hf⟩ := ob hf
    refine rw_getR X dX12_ticked_35 fl12_9 e35 rfl hP ?_
    refine lv_sipush (v := 288) hx hb dX12_ticked_38 (by decide) ?_
    refine lv_dup2_11 hx hb dX12_ticked_41 (ci _) (cr _) ?_
    obtain ⟨v42, e42, hf⟩ := ob hf
    refine rw_iald X dX12_ticked_42 e42 hP ?_
    refine lv_iconst (v := 1) hx hb dX12_ticked_43 (by decide) ?_
    refine lv_iadd hx hb dX12_ticked_44 ?_
    obtain ⟨S45, e45, hf⟩ := ob hf
    refine rw_iast X dX12_ticked_45 e45 hP (fun H locs hP => ?_)
    refine lv_iload_n hx hb dX12_ticked_46 rfl (hl.at 1 rfl) ?_
    cases hf
    exact rw_iret X dX12_ticked_47 hP
def fX12_ticked (Y : LY) (S : HS) (l0 : Option Nat) (l1 : Int32) : Option (HS × Int32) :=
  (gR Y 12 1200 l0 S).bind fun v1 =>
  (gA Y 14 v1 286 S).bind fun v8 =>
  (pA Y 14 v1 286 (v8 + 1) S).bind fun S11 =>
  if l1 = 2 then
    (gR Y 12 1200 l0 S11).bind fun v18 =>
    (gA Y 14 v18 287 S11).bind fun v25 =>
    (pA Y 14 v18 287 (v25 + 1) S11).bind fun S28 =>
    fX12_ticked_29 Y S28 l0 l1
  else
    fX12_ticked_29 Y S11 l0 l1
set_option maxRecDepth 100000 in
set_option maxHeartbeats 4000000 in
theorem mX12_ticked (l : Launch) {G : GG} {Y : LY} {S : HS} {l0 : Option Nat} {l1 : Int32} {res : HS × Int32} (hf : fX12_ticked Y S l0 l1 = some res) : MM l yX12_ticked cX12_ticked 2 (some .int) 0 0 G Y S [va_rf l0, .int l1] res.1 (some (.int res.2)) := by
  refine mm_of2 (plainFor_of_name (by decide +kernel)) (Nat.le_of_ble_eq_true rfl) (c1c (cr _) (c1c (ci _) c1n)) ?_
  intro p e R s m args below meth c X H locs ls hP hl
  have X : Cx p R s m args meth c RX12 cX12_ticked 2 0 0 (fun q => q ∈ Y.1) G (some .int) := X
  have hx := X.1.1
  have hb := X.1.2.1
  have hl : LV ls 2 [(0, va_rf l0), (1, .int l1)] := hl
  unfold fX12_ticked at hf
  refine rw_aload_n X dX12_ticked_0 rfl (hl.at 0 rfl) ?_
  obtain ⟨v1, e1, hf⟩ := ob hf
  refine rw_getR X dX12_ticked_1 fl12_9 e1 rfl hP ?_
  refine lv_sipush (v := 286) hx hb dX12_ticked_4 (by decide) ?_
  refine lv_dup2_11 hx hb dX12_ticked_7 (ci _) (cr _) ?_
  obtain ⟨v8, e8, hf⟩ := ob hf
  refine rw_iald X dX12_ticked_8 e8 hP ?_
  refine lv_iconst (v := 1) hx hb dX12_ticked_9 (by decide) ?_
  refine lv_iadd hx hb dX12_ticked_10 ?_
  obtain ⟨S11, e11, hf⟩ := ob hf
  refine rw_iast X dX12_ticked_11 e11 hP (fun H locs hP => ?_)
  refine lv_iload_n hx hb dX12_ticked_12 rfl (hl.at 1 rfl) ?_
  refine lv_iconst (v := 2) hx hb dX12_ticked_13 (by decide) ?_
  refine lv_icmp_ne hx hb (tgt := 29) dX12_ticked_14 (by decide) (fun c14 => ?_) (fun c14 => ?_)
  · have hf := ifn hf c14
    exact wX12_ticked_29 X S11 l0 l1 hf _ _ _ hP (hl.sub [0, 1] rfl)
  · have hf := ifp hf c14
    refine rw_aload_n X dX12_ticked_17 rfl (hl.at 0 rfl) ?_
    obtain ⟨v18, e18, hf⟩ := ob hf
    refine rw_getR X dX12_ticked_18 fl12_9 e18 rfl hP ?_
    refine lv_sipush (v := 287) hx hb dX12_ticked_21 (by decide) ?_
    refine lv_dup2_11 hx hb dX12_ticked_24 (ci _) (cr _) ?_
    obtain ⟨v25, e25, hf⟩ := ob hf
    refine rw_iald X dX12_ticked_25 e25 hP ?_
    refine lv_iconst (v := 1) hx hb dX12_ticked_26 (by decide) ?_
    refine lv_iadd hx hb dX12_ticked_27 ?_
    obtain ⟨S28, e28, hf⟩ := ob hf
    refine rw_iast X dX12_ticked_28 e28 hP (fun H locs hP => ?_)
    exact wX12_ticked_29 X S28 l0 l1 hf _ _ _ hP (hl.sub [0, 1] rfl)
theorem dX12_goes_0 : decode cX12_goes 0 = .ok (.aload_n 0, 1) := by decide +kernel
theorem dX12_goes_1 : decode cX12_goes 1 = .ok (.getfield 9, 3) := by decide +kernel
theorem dX12_goes_4 : decode cX12_goes 4 = .ok (.sipush 284, 3) := by decide +kernel
theorem dX12_goes_7 : decode cX12_goes 7 = .ok (.iaload, 1) := by decide +kernel
theorem dX12_goes_8 : decode cX12_goes 8 = .ok (.ifCond .ge 21, 3) := by decide +kernel
theorem dX12_goes_11 : decode cX12_goes 11 = .ok (.aload_n 0, 1) := by decide +kernel
theorem dX12_goes_12 : decode cX12_goes 12 = .ok (.getfield 9, 3) := by decide +kernel
theorem dX12_goes_15 : decode cX12_goes 15 = .ok (.sipush 284, 3) := by decide +kernel
theorem dX12_goes_18 : decode cX12_goes 18 = .ok (.iconst 0, 1) := by decide +kernel
theorem dX12_goes_19 : decode cX12_goes 19 = .ok (.iastore, 1) := by decide +kernel
theorem dX12_goes_20 : decode cX12_goes 20 = .ok (.aload_n 0, 1) := by decide +kernel
theorem dX12_goes_21 : decode cX12_goes 21 = .ok (.getfield 9, 3) := by decide +kernel
theorem dX12_goes_24 : decode cX12_goes 24 = .ok (.sipush 272, 3) := by decide +kernel
theorem dX12_goes_27 : decode cX12_goes 27 = .ok (.iconst 0, 1) := by decide +kernel
theorem dX12_goes_28 : decode cX12_goes 28 = .ok (.iastore, 1) := by decide +kernel
theorem dX12_goes_29 : decode cX12_goes 29 = .ok (.iload_n 1, 1) := by decide +kernel
theorem dX12_goes_30 : decode cX12_goes 30 = .ok (.istore_n 2, 1) := by decide +kernel
theorem dX12_goes_31 : decode cX12_goes 31 = .ok (.iload_n 2, 1) := by decide +kernel
theorem dX12_goes_32 : decode cX12_goes 32 = .ok (.ifCond .ne 17, 3) := by decide +kernel
theorem dX12_goes_35 : decode cX12_goes 35 = .ok (.aload_n 0, 1) := by decide +kernel
theorem dX12_goes_36 : decode cX12_goes 36 = .ok (.getfield 9, 3) := by decide +kernel
theorem dX12_goes_39 : decode cX12_goes 39 = .ok (.sipush 293, 3) := by decide +kernel
theorem dX12_goes_42 : decode cX12_goes 42 = .ok (.dup2, 1) := by decide +kernel
theorem dX12_goes_43 : decode cX12_goes 43 = .ok (.iaload, 1) := by decide +kernel
theorem dX12_goes_44 : decode cX12_goes 44 = .ok (.iconst 1, 1) := by decide +kernel
theorem dX12_goes_45 : decode cX12_goes 45 = .ok (.iadd, 1) := by decide +kernel
theorem dX12_goes_46 : decode cX12_goes 46 = .ok (.iastore, 1) := by decide +kernel
theorem dX12_goes_47 : decode cX12_goes 47 = .ok (.iconst 5, 1) := by decide +kernel
theorem dX12_goes_48 : decode cX12_goes 48 = .ok (.ireturn, 1) := by decide +kernel
theorem dX12_goes_49 : decode cX12_goes 49 = .ok (.iinc 2 (-1), 3) := by decide +kernel
theorem dX12_goes_52 : decode cX12_goes 52 = .ok (.aload_n 0, 1) := by decide +kernel
theorem dX12_goes_53 : decode cX12_goes 53 = .ok (.getfield 9, 3) := by decide +kernel
theorem dX12_goes_56 : decode cX12_goes 56 = .ok (.sipush 284, 3) := by decide +kernel
theorem dX12_goes_59 : decode cX12_goes 59 = .ok (.iaload, 1) := by decide +kernel
theorem dX12_goes_60 : decode cX12_goes 60 = .ok (.istore_n 3, 1) := by decide +kernel
theorem dX12_goes_61 : decode cX12_goes 61 = .ok (.aload_n 0, 1) := by decide +kernel
theorem dX12_goes_62 : decode cX12_goes 62 = .ok (.getfield 9, 3) := by decide +kernel
theorem dX12_goes_65 : decode cX12_goes 65 = .ok (.sipush 284, 3) := by decide +kernel
theorem dX12_goes_68 : decode cX12_goes 68 = .ok (.iconst (-1), 1) := by decide +kernel
theorem dX12_goes_69 : decode cX12_goes 69 = .ok (.iastore, 1) := by decide +kernel
theorem dX12_goes_70 : decode cX12_goes 70 = .ok (.aload_n 0, 1) := by decide +kernel
theorem dX12_goes_71 : decode cX12_goes 71 = .ok (.getfield 9, 3) := by decide +kernel
theorem dX12_goes_74 : decode cX12_goes 74 = .ok (.sipush 273, 3) := by decide +kernel
theorem dX12_goes_77 : decode cX12_goes 77 = .ok (.aload_n 0, 1) := by decide +kernel
theorem dX12_goes_78 : decode cX12_goes 78 = .ok (.getfield 9, 3) := by decide +kernel
theorem dX12_goes_81 : decode cX12_goes 81 = .ok (.sipush 272, 3) := by decide +kernel
theorem dX12_goes_84 : decode cX12_goes 84 = .ok (.iaload, 1) := by decide +kernel
theorem dX12_goes_85 : decode cX12_goes 85 = .ok (.iadd, 1) := by decide +kernel
theorem dX12_goes_86 : decode cX12_goes 86 = .ok (.iload_n 3, 1) := by decide +kernel
theorem dX12_goes_87 : decode cX12_goes 87 = .ok (.iastore, 1) := by decide +kernel
theorem dX12_goes_88 : decode cX12_goes 88 = .ok (.aload_n 0, 1) := by decide +kernel
theorem dX12_goes_89 : decode cX12_goes 89 = .ok (.getfield 9, 3) := by decide +kernel
theorem dX12_goes_92 : decode cX12_goes 92 = .ok (.sipush 272, 3) := by decide +kernel
theorem dX12_goes_95 : decode cX12_goes 95 = .ok (.dup2, 1) := by decide +kernel
theorem dX12_goes_96 : decode cX12_goes 96 = .ok (.iaload, 1) := by decide +kernel
theorem dX12_goes_97 : decode cX12_goes 97 = .ok (.iconst 1, 1) := by decide +kernel
theorem dX12_goes_98 : decode cX12_goes 98 = .ok (.iadd, 1) := by decide +kernel
theorem dX12_goes_99 : decode cX12_goes 99 = .ok (.iastore, 1) := by decide +kernel
theorem dX12_goes_100 : decode cX12_goes 100 = .ok (.aload_n 0, 1) := by decide +kernel
theorem dX12_goes_101 : decode cX12_goes 101 = .ok (.iload_n 3, 1) := by decide +kernel
theorem dX12_goes_102 : decode cX12_goes 102 = .ok (.invokevirtual 213, 3) := by decide +kernel
theorem dX12_goes_105 : decode cX12_goes 105 = .ok (.istore 4, 2) := by decide +kernel
theorem dX12_goes_107 : decode cX12_goes 107 = .ok (.iload 4, 2) := by decide +kernel
theorem dX12_goes_109 : decode cX12_goes 109 = .ok (.ifCond .le 99, 3) := by decide +kernel
theorem dX12_goes_112 : decode cX12_goes 112 = .ok (.aload_n 0, 1) := by decide +kernel
theorem dX12_goes_113 : decode cX12_goes 113 = .ok (.getfield 9, 3) := by decide +kernel
theorem dX12_goes_116 : decode cX12_goes 116 = .ok (.sipush 272, 3) := by decide +kernel
theorem dX12_goes_119 : decode cX12_goes 119 = .ok (.iaload, 1) := by decide +kernel
theorem dX12_goes_120 : decode cX12_goes 120 = .ok (.ifCond .le 88, 3) := by decide +kernel
theorem dX12_goes_123 : decode cX12_goes 123 = .ok (.aload_n 0, 1) := by decide +kernel
theorem dX12_goes_124 : decode cX12_goes 124 = .ok (.getfield 9, 3) := by decide +kernel
theorem dX12_goes_127 : decode cX12_goes 127 = .ok (.sipush 272, 3) := by decide +kernel
theorem dX12_goes_130 : decode cX12_goes 130 = .ok (.dup2, 1) := by decide +kernel
theorem dX12_goes_131 : decode cX12_goes 131 = .ok (.iaload, 1) := by decide +kernel
theorem dX12_goes_132 : decode cX12_goes 132 = .ok (.iconst 1, 1) := by decide +kernel
theorem dX12_goes_133 : decode cX12_goes 133 = .ok (.isub, 1) := by decide +kernel
theorem dX12_goes_134 : decode cX12_goes 134 = .ok (.iastore, 1) := by decide +kernel
theorem dX12_goes_135 : decode cX12_goes 135 = .ok (.aload_n 0, 1) := by decide +kernel
theorem dX12_goes_136 : decode cX12_goes 136 = .ok (.getfield 9, 3) := by decide +kernel
theorem dX12_goes_139 : decode cX12_goes 139 = .ok (.sipush 273, 3) := by decide +kernel
theorem dX12_goes_142 : decode cX12_goes 142 = .ok (.aload_n 0, 1) := by decide +kernel
theorem dX12_goes_143 : decode cX12_goes 143 = .ok (.getfield 9, 3) := by decide +kernel
theorem dX12_goes_146 : decode cX12_goes 146 = .ok (.sipush 272, 3) := by decide +kernel
theorem dX12_goes_149 : decode cX12_goes 149 = .ok (.iaload, 1) := by decide +kernel
theorem dX12_goes_150 : decode cX12_goes 150 = .ok (.iadd, 1) := by decide +kernel
theorem dX12_goes_151 : decode cX12_goes 151 = .ok (.iaload, 1) := by decide +kernel
theorem dX12_goes_152 : decode cX12_goes 152 = .ok (.istore_n 3, 1) := by decide +kernel
theorem dX12_goes_153 : decode cX12_goes 153 = .ok (.aload_n 0, 1) := by decide +kernel
theorem dX12_goes_154 : decode cX12_goes 154 = .ok (.iload_n 3, 1) := by decide +kernel
theorem dX12_goes_155 : decode cX12_goes 155 = .ok (.iload 4, 2) := by decide +kernel
theorem dX12_goes_157 : decode cX12_goes 157 = .ok (.invokevirtual 216, 3) := by decide +kernel
theorem dX12_goes_160 : decode cX12_goes 160 = .ok (.aload_n 0, 1) := by decide +kernel
theorem dX12_goes_161 : decode cX12_goes 161 = .ok (.getfield 9, 3) := by decide +kernel
theorem dX12_goes_164 : decode cX12_goes 164 = .ok (.sipush 272, 3) := by decide +kernel
theorem dX12_goes_167 : decode cX12_goes 167 = .ok (.iaload, 1) := by decide +kernel
theorem dX12_goes_168 : decode cX12_goes 168 = .ok (.ifCond .ne 10, 3) := by decide +kernel
theorem dX12_goes_171 : decode cX12_goes 171 = .ok (.aload_n 0, 1) := by decide +kernel
theorem dX12_goes_172 : decode cX12_goes 172 = .ok (.iload 4, 2) := by decide +kernel
theorem dX12_goes_174 : decode cX12_goes 174 = .ok (.invokevirtual 219, 3) := by decide +kernel
theorem dX12_goes_177 : decode cX12_goes 177 = .ok (.ireturn, 1) := by decide +kernel
theorem dX12_goes_178 : decode cX12_goes 178 = .ok (.aload_n 0, 1) := by decide +kernel
theorem dX12_goes_179 : decode cX12_goes 179 = .ok (.aload_n 0, 1) := by decide +kernel
theorem dX12_goes_180 : decode cX12_goes 180 = .ok (.getfield 9, 3) := by decide +kernel
theorem dX12_goes_183 : decode cX12_goes 183 = .ok (.sipush 273, 3) := by decide +kernel
theorem dX12_goes_186 : decode cX12_goes 186 = .ok (.aload_n 0, 1) := by decide +kernel
theorem dX12_goes_187 : decode cX12_goes 187 = .ok (.getfield 9, 3) := by decide +kernel
theorem dX12_goes_190 : decode cX12_goes 190 = .ok (.sipush 272, 3) := by decide +kernel
theorem dX12_goes_193 : decode cX12_goes 193 = .ok (.iaload, 1) := by decide +kernel
theorem dX12_goes_194 : decode cX12_goes 194 = .ok (.iadd, 1) := by decide +kernel
theorem dX12_goes_195 : decode cX12_goes 195 = .ok (.iconst 1, 1) := by decide +kernel
theorem dX12_goes_196 : decode cX12_goes 196 = .ok (.isub, 1) := by decide +kernel
theorem dX12_goes_197 : decode cX12_goes 197 = .ok (.iaload, 1) := by decide +kernel
theorem dX12_goes_198 : decode cX12_goes 198 = .ok (.iload 4, 2) := by decide +kernel
theorem dX12_goes_200 : decode cX12_goes 200 = .ok (.invokevirtual 222, 3) := by decide +kernel
theorem dX12_goes_203 : decode cX12_goes 203 = .ok (.istore 4, 2) := by decide +kernel
theorem dX12_goes_205 : decode cX12_goes 205 = .ok (.goto (-98), 3) := by decide +kernel
theorem dX12_goes_208 : decode cX12_goes 208 = .ok (.goto (-177), 3) := by decide +kernel
theorem pyX12_goes : PY yX12_goes 1 := ⟨by decide +kernel, by decide +kernel, by decide +kernel⟩
def fX12_goes_107 (k31 : HS → Option Nat → Int32 → Option (HS × Int32)) (Y : LY) : Nat → HS → Option Nat → Int32 → Int32 → Option (HS × Int32)
  | 0, _, _, _, _ => none
  | n + 1, S, l0, l2, l4 =>
    if l4 ≤ 0 then
      k31 S l0 l2
    else
      (gR Y 12 1200 l0 S).bind fun v113 =>
      (gA Y 14 v113 272 S).bind fun v119 =>
      if v119 ≤ 0 then
        k31 S l0 l2
      else
        (gR Y 12 1200 l0 S).bind fun v124 =>
        (gA Y 14 v124 272 S).bind fun v131 =>
        (pA Y 14 v124 272 (v131 - 1) S).bind fun S134 =>
        (gR Y 12 1200 l0 S134).bind fun v136 =>
        (gR Y 12 1200 l0 S134).bind fun v143 =>
        (gA Y 14 v143 272 S134).bind fun v149 =>
        (gA Y 14 v136 (273 + v149) S134).bind fun v151 =>
        (rcv Y 12 l0).bind fun _ =>
        (fX12_leaves Y S134 l0 v151 l4).bind fun S157 =>
        (gR Y 12 1200 l0 S157).bind fun v161 =>
        (gA Y 14 v161 272 S157).bind fun v167 =>
        if v167 = 0 then
          (rcv Y 12 l0).bind fun _ =>
          (fX12_ticked Y S157 l0 l4).bind fun q174 =>
          some (q174.1, q174.2)
        else
          (gR Y 12 1200 l0 S157).bind fun v180 =>
          (gR Y 12 1200 l0 S157).bind fun v187 =>
          (gA Y 14 v187 272 S157).bind fun v193 =>
          (gA Y 14 v180 ((273 + v193) - 1) S157).bind fun v197 =>
          (rcv Y 12 l0).bind fun _ =>
          (fX12_hears Y S157 l0 v197 l4).bind fun q200 =>
          fX12_goes_107 k31 Y n q200.1 l0 l2 q200.2
set_option maxRecDepth 100000 in
set_option maxHeartbeats 4000000 in
theorem wX12_goes_107 {p : Program} {l : Launch} {e : Env} {R : Room} {s : State} {m : MethodId} {args : Array Value} {below : List Frame} {meth : Method} {c : Code} {G : GG} {Y : LY} {res : HS × Int32} (X : Cx p R s m args meth c RX12 cX12_goes 5 6 145 (fun q => q ∈ Y.1) G (some .int)) {k31 : HS → Option Nat → Int32 → Option (HS × Int32)} (hk31 : ∀ (S : HS) (l0 : Option Nat) (l2 : Int32), k31 S l0 l2 = some res → ∀ (H : Heap) (locs : List Loc) (ls : Array Slot), HP (fun q => q ∈ Y.1) G Y s S H locs → LV ls 5 [(0, va_rf l0), (2, .int l2)] → W p l e R s m args below meth c H locs 0 0 (MQ below (QI G Y res.1 (some (.int res.2))) args s 0 0 (fun q => q ∈ Y.1)) (F0 m 31 ls [])) : ∀ (n : Nat) (S : HS) (l0 : Option Nat) (l2 : Int32) (l4 : Int32), fX12_goes_107 k31 Y n S l0 l2 l4 = some res → ∀ (H : Heap) (locs : List Loc) (ls : Array Slot), HP (fun q => q ∈ Y.1) G Y s S H locs → LV ls 5 [(0, va_rf l0), (2, .int l2), (4, .int l4)] → W p l e R s m args below meth c H locs 0 0 (MQ below (QI G Y res.1 (some (.int res.2))) args s 0 0 (fun q => q ∈ Y.1)) (F0 m 107 ls []) := by
  have hx := X.1.1
  have hb := X.1.2.1
  intro n
  induction n with
  | zero =>
    intro S l0 l2 l4 hf
    cases hf
  | succ n ih =>
    intro S l0 l2 l4 hf H locs ls hP hl
    rw [fX12_goes_107] at hf
    refine lv_iload hx hb dX12_goes_107 (hl.at 2 rfl) ?_
    refine lv_if_le hx hb (tgt := 208) dX12_goes_109 (by decide) (fun c109 => ?_) (fun c109 => ?_)
    · have hf := ifp hf c109
      refine lv_goto (tgt := 31) hx hb dX12_goes_208 (by decide) ?_
      exact hk31 S l0 l2 hf _ _ _ hP (hl.sub [0, 1] rfl)
    · have hf := ifn hf c109
      refine rw_aload_n X dX12_goes_112 rfl (hl.at 0 rfl) ?_
      obtain ⟨v113, e113, hf⟩ := ob hf
      refine rw_getR X dX12_goes_113 fl12_9 e113 rfl hP ?_
      refine lv_sipush (v := 272) hx hb dX12_goes_116 (by decide) ?_
      obtain ⟨v119, e119, hf⟩ := ob hf
      refine rw_iald X dX12_goes_119 e119 hP ?_
      refine lv_if_le hx hb (tgt := 208) dX12_goes_120 (by decide) (fun c120 => ?_) (fun c120 => ?_)
      · have hf := ifp hf c120
        refine lv_goto (tgt := 31) hx hb dX12_goes_208 (by decide) ?_
        exact hk31 S l0 l2 hf _ _ _ hP (hl.sub [0, 1] rfl)
      · have hf := ifn hf c120
        refine rw_aload_n X dX12_goes_123 rfl (hl.at 0 rfl) ?_
        obtain ⟨v124, e124, hf⟩ := ob hf
        refine rw_getR X dX12_goes_124 fl12_9 e124 rfl hP ?_
        refine lv_sipush (v := 272) hx hb dX12_goes_127 (by decide) ?_
        refine lv_dup2_11 hx hb dX12_goes_130 (ci _) (cr _) ?_
        obtain ⟨v131, e131, hf⟩ := ob hf
        refine rw_iald X dX12_goes_131 e131 hP ?_
        refine lv_iconst (v := 1) hx hb dX12_goes_132 (by decide) ?_
        refine lv_isub hx hb dX12_goes_133 ?_
        obtain ⟨S134, e134, hf⟩ := ob hf
        refine rw_iast X dX12_goes_134 e134 hP (fun H locs hP => ?_)
        refine rw_aload_n X dX12_goes_135 rfl (hl.at 0 rfl) ?_
        obtain ⟨v136, e136, hf⟩ := ob hf
        refine rw_getR X dX12_goes_136 fl12_9 e136 rfl hP ?_
        refine lv_sipush (v := 273) hx hb dX12_goes_139 (by decide) ?_
        refine rw_aload_n X dX12_goes_142 rfl (hl.at 0 rfl) ?_
        obtain ⟨v143, e143, hf⟩ := ob hf
        refine rw_getR X dX12_goes_143 fl12_9 e143 rfl hP ?_
        refine lv_sipush (v := 272) hx hb dX12_goes_146 (by decide) ?_
        obtain ⟨v149, e149, hf⟩ := ob hf
        refine rw_iald X dX12_goes_149 e149 hP ?_
        refine lv_iadd hx hb dX12_goes_150 ?_
        obtain ⟨v151, e151, hf⟩ := ob hf
        refine rw_iald X dX12_goes_151 e151 hP ?_
        refine rv_istore_n X dX12_goes_152 rfl hl (by decide) rfl (fun ls hl => ?_)
        have hl : LV ls 5 [(3, .int v151), (0, va_rf l0), (2, .int l2), (4, .int l4)] := hl
        refine rw_aload_n X dX12_goes_153 rfl (hl.at 1 rfl) ?_
        refine lv_iload_n hx hb dX12_goes_154 rfl (hl.at 0 rfl) ?_
        refine lv_iload hx hb dX12_goes_155 (hl.at 3 rfl) ?_
        obtain ⟨u157, r157, hf⟩ := ob hf
        obtain ⟨S157, e157, hf⟩ := ob hf
        refine rw_callVv (As := [.int v151, .int l4]) X dX12_goes_157 clX12_216 pyX12_leaves (mX12_leaves l e157) (by decide) r157 rfl hP rfl (catL c1n (Nat.le_of_ble_eq_true rfl)) hl.1.1 (fun H locs hP => ?_)
        refine rw_aload_n X dX12_goes_160 rfl (hl.at 1 rfl) ?_
        obtain ⟨v161, e161, hf⟩ := ob hf
        refine rw_getR X dX12_goes_161 fl12_9 e161 rfl hP ?_
        refine lv_sipush (v := 272) hx hb dX12_goes_164 (by decide) ?_
        obtain ⟨v167, e167, hf⟩ := ob hf
        refine rw_iald X dX12_goes_167 e167 hP ?_
        refine lv_if_ne hx hb (tgt := 178) dX12_goes_168 (by decide) (fun c168 => ?_) (fun c168 => ?_)
        · have hf := ifn hf c168
          refine rw_aload_n X dX12_goes_178 rfl (hl.at 1 rfl) ?_
          refine rw_aload_n X dX12_goes_179 rfl (hl.at 1 rfl) ?_
          obtain ⟨v180, e180, hf⟩ := ob hf
          refine rw_getR X dX12_goes_180 fl12_9 e180 rfl hP ?_
          refine lv_sipush (v := 273) hx hb dX12_goes_183 (by decide) ?_
          refine rw_aload_n X dX12_goes_186 rfl (hl.at 1 rfl) ?_
          obtain ⟨v187, e187, hf⟩ := ob hf
          refine rw_getR X dX12_goes_187 fl12_9 e187 rfl hP ?_
          refine lv_sipush (v := 272) hx hb dX12_goes_190 (by decide) ?_
          obtain ⟨v193, e193, hf⟩ := ob hf
          refine rw_iald X dX12_goes_193 e193 hP ?_
          refine lv_iadd hx hb dX12_goes_194 ?_
          refine lv_iconst (v := 1) hx hb dX12_goes_195 (by decide) ?_
          refine lv_isub hx hb dX12_goes_196 ?_
          obtain ⟨v197, e197, hf⟩ := ob hf
          refine rw_iald X dX12_goes_197 e197 hP ?_
          refine lv_iload hx hb dX12_goes_198 (hl.at 3 rfl) ?_
          obtain ⟨u200, r200, hf⟩ := ob hf
          obtain ⟨q200, e200, hf⟩ := ob hf
          refine rw_callVi (As := [.int v197, .int l4]) X dX12_goes_200 clX12_222 pyX12_hears (mX12_hears l e200) (by decide) r200 rfl hP rfl (catL c1n (Nat.le_of_ble_eq_true rfl)) hl.1.1 (fun H locs hP => ?_)
          refine rv_istore X dX12_goes_203 hl (by decide) rfl (fun ls hl => ?_)
          have hl : LV ls 5 [(4, .int q200.2), (3, .int v151), (0, va_rf l0), (2, .int l2)] := hl
          refine lv_goto (tgt := 107) hx hb dX12_goes_205 (by decide) ?_
          exact ih q200.1 l0 l2 q200.2 hf _ _ _ hP (hl.sub [2, 3, 0] rfl)
        · have hf := ifp hf c168
          refine rw_aload_n X dX12_goes_171 rfl (hl.at 1 rfl) ?_
          refine lv_iload hx hb dX12_goes_172 (hl.at 3 rfl) ?_
          obtain ⟨u174, r174, hf⟩ := ob hf
          obtain ⟨q174, e174, hf⟩ := ob hf
          refine rw_callVi (As := [.int l4]) X dX12_goes_174 clX12_219 pyX12_ticked (mX12_ticked l e174) (by decide) r174 rfl hP rfl (catL c1n (Nat.le_of_ble_eq_true rfl)) hl.1.1 (fun H locs hP => ?_)
          cases hf
          exact rw_iret X dX12_goes_177 hP
def fX12_goes_31 (Y : LY) : Nat → HS → Option Nat → Int32 → Option (HS × Int32)
  | 0, _, _, _ => none
  | n + 1, S, l0, l2 =>
    if l2 = 0 then
      (gR Y 12 1200 l0 S).bind fun v36 =>
      (gA Y 14 v36 293 S).bind fun v43 =>
      (pA Y 14 v36 293 (v43 + 1) S).bind fun S46 =>
      some (S46, 5)
    else
      (gR Y 12 1200 l0 S).bind fun v53 =>
      (gA Y 14 v53 284 S).bind fun v59 =>
      (gR Y 12 1200 l0 S).bind fun v62 =>
      (pA Y 14 v62 284 (-1) S).bind fun S69 =>
      (gR Y 12 1200 l0 S69).bind fun v71 =>
      (gR Y 12 1200 l0 S69).bind fun v78 =>
      (gA Y 14 v78 272 S69).bind fun v84 =>
      (pA Y 14 v71 (273 + v84) v59 S69).bind fun S87 =>
      (gR Y 12 1200 l0 S87).bind fun v89 =>
      (gA Y 14 v89 272 S87).bind fun v96 =>
      (pA Y 14 v89 272 (v96 + 1) S87).bind fun S99 =>
      (rcv Y 12 l0).bind fun _ =>
      (fX12_enters Y S99 l0 v59).bind fun q102 =>
      fX12_goes_107 (fX12_goes_31 Y n) Y FU q102.1 l0 (l2 + (-1)) q102.2
set_option maxRecDepth 100000 in
set_option maxHeartbeats 4000000 in
theorem wX12_goes_31 {p : Program} {l : Launch} {e : Env} {R : Room} {s : State} {m : MethodId} {args : Array Value} {below : List Frame} {meth : Method} {c : Code} {G : GG} {Y : LY} {res : HS × Int32} (X : Cx p R s m args meth c RX12 cX12_goes 5 6 145 (fun q => q ∈ Y.1) G (some .int)) : ∀ (n : Nat) (S : HS) (l0 : Option Nat) (l2 : Int32), fX12_goes_31 Y n S l0 l2 = some res → ∀ (H : Heap) (locs : List Loc) (ls : Array Slot), HP (fun q => q ∈ Y.1) G Y s S H locs → LV ls 5 [(0, va_rf l0), (2, .int l2)] → W p l e R s m args below meth c H locs 0 0 (MQ below (QI G Y res.1 (some (.int res.2))) args s 0 0 (fun q => q ∈ Y.1)) (F0 m 31 ls []) := by
  have hx := X.1.1
  have hb := X.1.2.1
  intro n
  induction n with
  | zero =>
    intro S l0 l2 hf
    cases hf
  | succ n ih =>
    intro S l0 l2 hf H locs ls hP hl
    rw [fX12_goes_31] at hf
    refine lv_iload_n hx hb dX12_goes_31 rfl (hl.at 1 rfl) ?_
    refine lv_if_ne hx hb (tgt := 49) dX12_goes_32 (by decide) (fun c32 => ?_) (fun c32 => ?_)
    · have hf := ifn hf c32
      refine rv_iinc (k := 1) (d := (-1)) X dX12_goes_49 hl rfl (by decide) (by decide) rfl (fun ls hl => ?_)
      have hl : LV ls 5 [(2, .int (l2 + (-1))), (0, va_rf l0)] := hl
      refine rw_aload_n X dX12_goes_52 rfl (hl.at 1 rfl) ?_
      obtain ⟨v53, e53, hf⟩ := ob hf
      refine rw_getR X dX12_goes_53 fl12_9 e53 rfl hP ?_
      refine lv_sipush (v := 284) hx hb dX12_goes_56 (by decide) ?_
      obtain ⟨v59, e59, hf⟩ := ob hf
      refine rw_iald X dX12_goes_59 e59 hP ?_
      refine rv_istore_n X dX12_goes_60 rfl hl (by decide) rfl (fun ls hl => ?_)
      have hl : LV ls 5 [(3, .int v59), (2, .int (l2 + (-1))), (0, va_rf l0)] := hl
      refine rw_aload_n X dX12_goes_61 rfl (hl.at 2 rfl) ?_
      obtain ⟨v62, e62, hf⟩ := ob hf
      refine rw_getR X dX12_goes_62 fl12_9 e62 rfl hP ?_
      refine lv_sipush (v := 284) hx hb dX12_goes_65 (by decide) ?_
      refine lv_iconst (v := (-1)) hx hb dX12_goes_68 (by decide) ?_
      obtain ⟨S69, e69, hf⟩ := ob hf
      refine rw_iast X dX12_goes_69 e69 hP (fun H locs hP => ?_)
      refine rw_aload_n X dX12_goes_70 rfl (hl.at 2 rfl) ?_
      obtain ⟨v71, e71, hf⟩ := ob hf
      refine rw_getR X dX12_goes_71 fl12_9 e71 rfl hP ?_
      refine lv_sipush (v := 273) hx hb dX12_goes_74 (by decide) ?_
      refine rw_aload_n X dX12_goes_77 rfl (hl.at 2 rfl) ?_
      obtain ⟨v78, e78, hf⟩ := ob hf
      refine rw_getR X dX12_goes_78 fl12_9 e78 rfl hP ?_
      refine lv_sipush (v := 272) hx hb dX12_goes_81 (by decide) ?_
      obtain ⟨v84, e84, hf⟩ := ob hf
      refine rw_iald X dX12_goes_84 e84 hP ?_
      refine lv_iadd hx hb dX12_goes_85 ?_
      refine lv_iload_n hx hb dX12_goes_86 rfl (hl.at 0 rfl) ?_
      obtain ⟨S87, e87, hf⟩ := ob hf
      refine rw_iast X dX12_goes_87 e87 hP (fun H locs hP => ?_)
      refine rw_aload_n X dX12_goes_88 rfl (hl.at 2 rfl) ?_
      obtain ⟨v89, e89, hf⟩ := ob hf
      refine rw_getR X dX12_goes_89 fl12_9 e89 rfl hP ?_
      refine lv_sipush (v := 272) hx hb dX12_goes_92 (by decide) ?_
      refine lv_dup2_11 hx hb dX12_goes_95 (ci _) (cr _) ?_
      obtain ⟨v96, e96, hf⟩ := ob hf
      refine rw_iald X dX12_goes_96 e96 hP ?_
      refine lv_iconst (v := 1) hx hb dX12_goes_97 (by decide) ?_
      refine lv_iadd hx hb dX12_goes_98 ?_
      obtain ⟨S99, e99, hf⟩ := ob hf
      refine rw_iast X dX12_goes_99 e99 hP (fun H locs hP => ?_)
      refine rw_aload_n X dX12_goes_100 rfl (hl.at 2 rfl) ?_
      refine lv_iload_n hx hb dX12_goes_101 rfl (hl.at 0 rfl) ?_
      obtain ⟨u102, r102, hf⟩ := ob hf
      obtain ⟨q102, e102, hf⟩ := ob hf
      refine rw_callVi (As := [.int v59]) X dX12_goes_102 clX12_213 pyX12_enters (mX12_enters l e102) (by decide) r102 rfl hP rfl (catL c1n (Nat.le_of_ble_eq_true rfl)) hl.1.1 (fun H locs hP => ?_)
      refine rv_istore X dX12_goes_105 hl (by decide) rfl (fun ls hl => ?_)
      have hl : LV ls 5 [(4, .int q102.2), (3, .int v59), (2, .int (l2 + (-1))), (0, va_rf l0)] := hl
      exact wX12_goes_107 X ih FU q102.1 l0 (l2 + (-1)) q102.2 hf _ _ _ hP (hl.sub [3, 2, 0] rfl)
    · have hf := ifp hf c32
      refine rw_aload_n X dX12_goes_35 rfl (hl.at 0 rfl) ?_
      obtain ⟨v36, e36, hf⟩ := ob hf
      refine rw_getR X dX12_goes_36 fl12_9 e36 rfl hP ?_
      refine lv_sipush (v := 293) hx hb dX12_goes_39 (by decide) ?_
      refine lv_dup2_11 hx hb dX12_goes_42 (ci _) (cr _) ?_
      obtain ⟨v43, e43, hf⟩ := ob hf
      refine rw_iald X dX12_goes_43 e43 hP ?_
      refine lv_iconst (v := 1) hx hb dX12_goes_44 (by decide) ?_
      refine lv_iadd hx hb dX12_goes_45 ?_
      obtain ⟨S46, e46, hf⟩ := ob hf
      refine rw_iast X dX12_goes_46 e46 hP (fun H locs hP => ?_)
      refine lv_iconst (v := 5) hx hb dX12_goes_47 (by decide) ?_
      cases hf
      exact rw_iret X dX12_goes_48 hP
def fX12_goes (Y : LY) (S : HS) (l0 : Option Nat) (l1 : Int32) : Option (HS × Int32) :=
  (gR Y 12 1200 l0 S).bind fun v1 =>
  (gA Y 14 v1 284 S).bind fun v7 =>
  if 0 ≤ v7 then
    fX12_goes_31 Y FU S l0 l1
  else
    (gR Y 12 1200 l0 S).bind fun v12 =>
    (pA Y 14 v12 284 0 S).bind fun S19 =>
    (gR Y 12 1200 l0 S19).bind fun v21 =>
    (pA Y 14 v21 272 0 S19).bind fun S28 =>
    fX12_goes_31 Y FU S28 l0 l1
set_option maxRecDepth 100000 in
set_option maxHeartbeats 4000000 in
theorem mX12_goes (l : Launch) {G : GG} {Y : LY} {S : HS} {l0 : Option Nat} {l1 : Int32} {res : HS × Int32} (hf : fX12_goes Y S l0 l1 = some res) : MM l yX12_goes cX12_goes 5 (some .int) 6 145 G Y S [va_rf l0, .int l1] res.1 (some (.int res.2)) := by
  refine mm_of2 (plainFor_of_name (by decide +kernel)) (Nat.le_of_ble_eq_true rfl) (c1c (cr _) (c1c (ci _) c1n)) ?_
  intro p e R s m args below meth c X H locs ls hP hl
  have X : Cx p R s m args meth c RX12 cX12_goes 5 6 145 (fun q => q ∈ Y.1) G (some .int) := X
  have hx := X.1.1
  have hb := X.1.2.1
  have hl : LV ls 5 [(0, va_rf l0), (1, .int l1)] := hl
  unfold fX12_goes at hf
  refine rw_aload_n X dX12_goes_0 rfl (hl.at 0 rfl) ?_
  obtain ⟨v1, e1, hf⟩ := ob hf
  refine rw_getR X dX12_goes_1 fl12_9 e1 rfl hP ?_
  refine lv_sipush (v := 284) hx hb dX12_goes_4 (by decide) ?_
  obtain ⟨v7, e7, hf⟩ := ob hf
  refine rw_iald X dX12_goes_7 e7 hP ?_
  refine lv_if_ge hx hb (tgt := 29) dX12_goes_8 (by decide) (fun c8 => ?_) (fun c8 => ?_)
  · have hf := ifp hf c8
    refine lv_iload_n hx hb dX12_goes_29 rfl (hl.at 1 rfl) ?_
    refine rv_istore_n X dX12_goes_30 rfl hl (by decide) rfl (fun ls hl => ?_)
    have hl : LV ls 5 [(2, .int l1), (0, va_rf l0), (1, .int l1)] := hl
    exact wX12_goes_31 X FU S l0 l1 hf _ _ _ hP (hl.sub [1, 0] rfl)
  · have hf := ifn hf c8
    refine rw_aload_n X dX12_goes_11 rfl (hl.at 0 rfl) ?_
    obtain ⟨v12, e12, hf⟩ := ob hf
    refine rw_getR X dX12_goes_12 fl12_9 e12 rfl hP ?_
    refine lv_sipush (v := 284) hx hb dX12_goes_15 (by decide) ?_
    refine lv_iconst (v := 0) hx hb dX12_goes_18 (by decide) ?_
    obtain ⟨S19, e19, hf⟩ := ob hf
    refine rw_iast X dX12_goes_19 e19 hP (fun H locs hP => ?_)
    refine rw_aload_n X dX12_goes_20 rfl (hl.at 0 rfl) ?_
    obtain ⟨v21, e21, hf⟩ := ob hf
    refine rw_getR X dX12_goes_21 fl12_9 e21 rfl hP ?_
    refine lv_sipush (v := 272) hx hb dX12_goes_24 (by decide) ?_
    refine lv_iconst (v := 0) hx hb dX12_goes_27 (by decide) ?_
    obtain ⟨S28, e28, hf⟩ := ob hf
    refine rw_iast X dX12_goes_28 e28 hP (fun H locs hP => ?_)
    refine lv_iload_n hx hb dX12_goes_29 rfl (hl.at 1 rfl) ?_
    refine rv_istore_n X dX12_goes_30 rfl hl (by decide) rfl (fun ls hl => ?_)
    have hl : LV ls 5 [(2, .int l1), (0, va_rf l0), (1, .int l1)] := hl
    exact wX12_goes_31 X FU S28 l0 l1 hf _ _ _ hP (hl.sub [1, 0] rfl)
theorem dX12_tick_0 : decode cX12_tick 0 = .ok (.iload_n 1, 1) := by decide +kernel
theorem dX12_tick_1 : decode cX12_tick 1 = .ok (.iconst 1, 1) := by decide +kernel
theorem dX12_tick_2 : decode cX12_tick 2 = .ok (.sipush 999, 3) := by decide +kernel
theorem dX12_tick_5 : decode cX12_tick 5 = .ok (.invokestatic 94, 3) := by decide +kernel
theorem dX12_tick_8 : decode cX12_tick 8 = .ok (.ifCond .ne 7, 3) := by decide +kernel
theorem dX12_tick_11 : decode cX12_tick 11 = .ok (.sipush (-1002), 3) := by decide +kernel
theorem dX12_tick_14 : decode cX12_tick 14 = .ok (.ireturn, 1) := by decide +kernel
theorem dX12_tick_15 : decode cX12_tick 15 = .ok (.aload_n 0, 1) := by decide +kernel
theorem dX12_tick_16 : decode cX12_tick 16 = .ok (.getfield 155, 3) := by decide +kernel
theorem dX12_tick_19 : decode cX12_tick 19 = .ok (.ifCond .ne 9, 3) := by decide +kernel
theorem dX12_tick_22 : decode cX12_tick 22 = .ok (.sipush (-1004), 3) := by decide +kernel
theorem dX12_tick_25 : decode cX12_tick 25 = .ok (.goto 8, 3) := by decide +kernel
theorem dX12_tick_28 : decode cX12_tick 28 = .ok (.aload_n 0, 1) := by decide +kernel
theorem dX12_tick_29 : decode cX12_tick 29 = .ok (.iload_n 1, 1) := by decide +kernel
theorem dX12_tick_30 : decode cX12_tick 30 = .ok (.invokevirtual 225, 3) := by decide +kernel
theorem dX12_tick_33 : decode cX12_tick 33 = .ok (.ireturn, 1) := by decide +kernel
theorem pyX12_tick : PY yX12_tick 1 := ⟨by decide +kernel, by decide +kernel, by decide +kernel⟩
def fX12_tick (Y : LY) (S : HS) (l0 : Option Nat) (l1 : Int32) : Option (HS × Int32) :=
  (fX12_isIn Y S l1 1 999).bind fun v5 =>
  if v5 = 0 then
    some (S, (-1002))
  else
    (gI Y 12 1208 l0 S).bind fun v16 =>
    if v16 = 0 then
      some (S, (-1004))
    else
      (rcv Y 12 l0).bind fun _ =>
      (fX12_goes Y S l0 l1).bind fun q30 =>
      some (q30.1, q30.2)
set_option maxRecDepth 100000 in
set_option maxHeartbeats 4000000 in
theorem mX12_tick (l : Launch) {G : GG} {Y : LY} {S : HS} {l0 : Option Nat} {l1 : Int32} {res : HS × Int32} (hf : fX12_tick Y S l0 l1 = some res) : MM l yX12_tick cX12_tick 2 (some .int) 7 169 G Y S [va_rf l0, .int l1] res.1 (some (.int res.2)) := by
  refine mm_of2 (plainFor_of_name (by decide +kernel)) (Nat.le_of_ble_eq_true rfl) (c1c (cr _) (c1c (ci _) c1n)) ?_
  intro p e R s m args below meth c X H locs ls hP hl
  have X : Cx p R s m args meth c RX12 cX12_tick 2 7 169 (fun q => q ∈ Y.1) G (some .int) := X
  have hx := X.1.1
  have hb := X.1.2.1
  have hl : LV ls 2 [(0, va_rf l0), (1, .int l1)] := hl
  unfold fX12_tick at hf
  refine lv_iload_n hx hb dX12_tick_0 rfl (hl.at 1 rfl) ?_
  refine lv_iconst (v := 1) hx hb dX12_tick_1 (by decide) ?_
  refine lv_sipush (v := 999) hx hb dX12_tick_2 (by decide) ?_
  obtain ⟨v5, e5, hf⟩ := ob hf
  refine rw_callSi (As := [.int l1, .int 1, .int 999]) X dX12_tick_5 clX12_94 pyX12_isIn (mX12_isIn l e5) (by decide) hP rfl (catL c1n (Nat.le_of_ble_eq_true rfl)) hl.1.1 (fun H locs hP => ?_)
  refine lv_if_ne hx hb (tgt := 15) dX12_tick_8 (by decide) (fun c8 => ?_) (fun c8 => ?_)
  · have hf := ifn hf c8
    refine rw_aload_n X dX12_tick_15 rfl (hl.at 0 rfl) ?_
    obtain ⟨v16, e16, hf⟩ := ob hf
    refine rw_getI X dX12_tick_16 fl12_155 e16 rfl hP ?_
    refine lv_if_ne hx hb (tgt := 28) dX12_tick_19 (by decide) (fun c19 => ?_) (fun c19 => ?_)
    · have hf := ifn hf c19
      refine rw_aload_n X dX12_tick_28 rfl (hl.at 0 rfl) ?_
      refine lv_iload_n hx hb dX12_tick_29 rfl (hl.at 1 rfl) ?_
      obtain ⟨u30, r30, hf⟩ := ob hf
      obtain ⟨q30, e30, hf⟩ := ob hf
      refine rw_callVi (As := [.int l1]) X dX12_tick_30 clX12_225 pyX12_goes (mX12_goes l e30) (by decide) r30 rfl hP rfl (catL c1n (Nat.le_of_ble_eq_true rfl)) hl.1.1 (fun H locs hP => ?_)
      cases hf
      exact rw_iret X dX12_tick_33 hP
    · have hf := ifp hf c19
      refine lv_sipush (v := (-1004)) hx hb dX12_tick_22 (by decide) ?_
      refine lv_goto (tgt := 33) hx hb dX12_tick_25 (by decide) ?_
      cases hf
      exact rw_iret X dX12_tick_33 hP
  · have hf := ifp hf c8
    refine lv_sipush (v := (-1002)) hx hb dX12_tick_11 (by decide) ?_
    cases hf
    exact rw_iret X dX12_tick_14 hP
theorem dX12_runs_0 : decode cX12_runs 0 = .ok (.iconst 1, 1) := by decide +kernel
theorem dX12_runs_1 : decode cX12_runs 1 = .ok (.istore_n 2, 1) := by decide +kernel
theorem dX12_runs_2 : decode cX12_runs 2 = .ok (.aload_n 0, 1) := by decide +kernel
theorem dX12_runs_3 : decode cX12_runs 3 = .ok (.iconst 0, 1) := by decide +kernel
theorem dX12_runs_4 : decode cX12_runs 4 = .ok (.putfield 228, 3) := by decide +kernel
theorem dX12_runs_7 : decode cX12_runs 7 = .ok (.aload_n 0, 1) := by decide +kernel
theorem dX12_runs_8 : decode cX12_runs 8 = .ok (.getfield 228, 3) := by decide +kernel
theorem dX12_runs_11 : decode cX12_runs 11 = .ok (.iload_n 1, 1) := by decide +kernel
theorem dX12_runs_12 : decode cX12_runs 12 = .ok (.if_icmp .ge 27, 3) := by decide +kernel
theorem dX12_runs_15 : decode cX12_runs 15 = .ok (.iload_n 2, 1) := by decide +kernel
theorem dX12_runs_16 : decode cX12_runs 16 = .ok (.iconst 1, 1) := by decide +kernel
theorem dX12_runs_17 : decode cX12_runs 17 = .ok (.if_icmp .ne 22, 3) := by decide +kernel
theorem dX12_runs_20 : decode cX12_runs 20 = .ok (.aload_n 0, 1) := by decide +kernel
theorem dX12_runs_21 : decode cX12_runs 21 = .ok (.iconst (-1), 1) := by decide +kernel
theorem dX12_runs_22 : decode cX12_runs 22 = .ok (.invokevirtual 225, 3) := by decide +kernel
theorem dX12_runs_25 : decode cX12_runs 25 = .ok (.istore_n 2, 1) := by decide +kernel
theorem dX12_runs_26 : decode cX12_runs 26 = .ok (.aload_n 0, 1) := by decide +kernel
theorem dX12_runs_27 : decode cX12_runs 27 = .ok (.dup, 1) := by decide +kernel
theorem dX12_runs_28 : decode cX12_runs 28 = .ok (.getfield 228, 3) := by decide +kernel
theorem dX12_runs_31 : decode cX12_runs 31 = .ok (.iconst 1, 1) := by decide +kernel
theorem dX12_runs_32 : decode cX12_runs 32 = .ok (.iadd, 1) := by decide +kernel
theorem dX12_runs_33 : decode cX12_runs 33 = .ok (.putfield 228, 3) := by decide +kernel
theorem dX12_runs_36 : decode cX12_runs 36 = .ok (.goto (-29), 3) := by decide +kernel
theorem dX12_runs_39 : decode cX12_runs 39 = .ok (.iload_n 2, 1) := by decide +kernel
theorem dX12_runs_40 : decode cX12_runs 40 = .ok (.ireturn, 1) := by decide +kernel
theorem pyX12_runs : PY yX12_runs 1 := ⟨by decide +kernel, by decide +kernel, by decide +kernel⟩
def fX12_runs_7 (Y : LY) : Nat → HS → Option Nat → Int32 → Int32 → Option (HS × Int32)
  | 0, _, _, _, _ => none
  | n + 1, S, l0, l1, l2 =>
    (gI Y 12 1238 l0 S).bind fun v8 =>
    if l1 ≤ v8 then
      some (S, l2)
    else
      if l2 = 1 then
        (rcv Y 12 l0).bind fun _ =>
        (fX12_goes Y S l0 (-1)).bind fun q22 =>
        (gI Y 12 1238 l0 q22.1).bind fun v28 =>
        (pI Y 12 1238 l0 (v28 + 1) q22.1).bind fun S33 =>
        fX12_runs_7 Y n S33 l0 l1 q22.2
      else
        some (S, l2)
set_option maxRecDepth 100000 in
set_option maxHeartbeats 4000000 in
theorem wX12_runs_7 {p : Program} {l : Launch} {e : Env} {R : Room} {s : State} {m : MethodId} {args : Array Value} {below : List Frame} {meth : Method} {c : Code} {G : GG} {Y : LY} {res : HS × Int32} (X : Cx p R s m args meth c RX12 cX12_runs 3 7 169 (fun q => q ∈ Y.1) G (some .int)) : ∀ (n : Nat) (S : HS) (l0 : Option Nat) (l1 : Int32) (l2 : Int32), fX12_runs_7 Y n S l0 l1 l2 = some res → ∀ (H : Heap) (locs : List Loc) (ls : Array Slot), HP (fun q => q ∈ Y.1) G Y s S H locs → LV ls 3 [(0, va_rf l0), (1, .int l1), (2, .int l2)] → W p l e R s m args below meth c H locs 0 0 (MQ below (QI G Y res.1 (some (.int res.2))) args s 0 0 (fun q => q ∈ Y.1)) (F0 m 7 ls []) := by
  have hx := X.1.1
  have hb := X.1.2.1
  intro n
  induction n with
  | zero =>
    intro S l0 l1 l2 hf
    cases hf
  | succ n ih =>
    intro S l0 l1 l2 hf H locs ls hP hl
    rw [fX12_runs_7] at hf
    refine rw_aload_n X dX12_runs_7 rfl (hl.at 0 rfl) ?_
    obtain ⟨v8, e8, hf⟩ := ob hf
    refine rw_getI X dX12_runs_8 fl12_228 e8 rfl hP ?_
    refine lv_iload_n hx hb dX12_runs_11 rfl (hl.at 1 rfl) ?_
    refine lv_icmp_ge hx hb (tgt := 39) dX12_runs_12 (by decide) (fun c12 => ?_) (fun c12 => ?_)
    · have hf := ifp hf c12
      refine lv_iload_n hx hb dX12_runs_39 rfl (hl.at 2 rfl) ?_
      cases hf
      exact rw_iret X dX12_runs_40 hP
    · have hf := ifn hf c12
      refine lv_iload_n hx hb dX12_runs_15 rfl (hl.at 2 rfl) ?_
      refine lv_iconst (v := 1) hx hb dX12_runs_16 (by decide) ?_
      refine lv_icmp_ne hx hb (tgt := 39) dX12_runs_17 (by decide) (fun c17 => ?_) (fun c17 => ?_)
      · have hf := ifn hf c17
        refine lv_iload_n hx hb dX12_runs_39 rfl (hl.at 2 rfl) ?_
        cases hf
        exact rw_iret X dX12_runs_40 hP
      · have hf := ifp hf c17
        refine rw_aload_n X dX12_runs_20 rfl (hl.at 0 rfl) ?_
        refine lv_iconst (v := (-1)) hx hb dX12_runs_21 (by decide) ?_
        obtain ⟨u22, r22, hf⟩ := ob hf
        obtain ⟨q22, e22, hf⟩ := ob hf
        refine rw_callVi (As := [.int (-1)]) X dX12_runs_22 clX12_225 pyX12_goes (mX12_goes l e22) (by decide) r22 rfl hP rfl (catL c1n (Nat.le_of_ble_eq_true rfl)) hl.1.1 (fun H locs hP => ?_)
        refine rv_istore_n X dX12_runs_25 rfl hl (by decide) rfl (fun ls hl => ?_)
        have hl : LV ls 3 [(2, .int q22.2), (0, va_rf l0), (1, .int l1)] := hl
        refine rw_aload_n X dX12_runs_26 rfl (hl.at 1 rfl) ?_
        refine lv_dup hx hb dX12_runs_27 (cr _) ?_
        obtain ⟨v28, e28, hf⟩ := ob hf
        refine rw_getI X dX12_runs_28 fl12_228 e28 rfl hP ?_
        refine lv_iconst (v := 1) hx hb dX12_runs_31 (by decide) ?_
        refine lv_iadd hx hb dX12_runs_32 ?_
        obtain ⟨S33, e33, hf⟩ := ob hf
        refine rw_putI X dX12_runs_33 fl12_228 fw12_38 e33 rfl hP (fun H locs hP => ?_)
        refine lv_goto (tgt := 7) hx hb dX12_runs_36 (by decide) ?_
        exact ih S33 l0 l1 q22.2 hf _ _ _ hP (hl.sub [1, 2, 0] rfl)
def fX12_runs (Y : LY) (S : HS) (l0 : Option Nat) (l1 : Int32) : Option (HS × Int32) :=
  (pI Y 12 1238 l0 0 S).bind fun S4 =>
  fX12_runs_7 Y FU S4 l0 l1 1
set_option maxRecDepth 100000 in
set_option maxHeartbeats 4000000 in
theorem mX12_runs (l : Launch) {G : GG} {Y : LY} {S : HS} {l0 : Option Nat} {l1 : Int32} {res : HS × Int32} (hf : fX12_runs Y S l0 l1 = some res) : MM l yX12_runs cX12_runs 3 (some .int) 7 169 G Y S [va_rf l0, .int l1] res.1 (some (.int res.2)) := by
  refine mm_of2 (plainFor_of_name (by decide +kernel)) (Nat.le_of_ble_eq_true rfl) (c1c (cr _) (c1c (ci _) c1n)) ?_
  intro p e R s m args below meth c X H locs ls hP hl
  have X : Cx p R s m args meth c RX12 cX12_runs 3 7 169 (fun q => q ∈ Y.1) G (some .int) := X
  have hx := X.1.1
  have hb := X.1.2.1
  have hl : LV ls 3 [(0, va_rf l0), (1, .int l1)] := hl
  unfold fX12_runs at hf
  refine lv_iconst (v := 1) hx hb dX12_runs_0 (by decide) ?_
  refine rv_istore_n X dX12_runs_1 rfl hl (by decide) rfl (fun ls hl => ?_)
  have hl : LV ls 3 [(2, .int 1), (0, va_rf l0), (1, .int l1)] := hl
  refine rw_aload_n X dX12_runs_2 rfl (hl.at 1 rfl) ?_
  refine lv_iconst (v := 0) hx hb dX12_runs_3 (by decide) ?_
  obtain ⟨S4, e4, hf⟩ := ob hf
  refine rw_putI X dX12_runs_4 fl12_228 fw12_38 e4 rfl hP (fun H locs hP => ?_)
  exact wX12_runs_7 X FU S4 l0 l1 1 hf _ _ _ hP (hl.sub [1, 2, 0] rfl)
theorem dX12_run_0 : decode cX12_run 0 = .ok (.iload_n 1, 1) := by decide +kernel
theorem dX12_run_1 : decode cX12_run 1 = .ok (.iconst 1, 1) := by decide +kernel
theorem dX12_run_2 : decode cX12_run 2 = .ok (.bipush 50, 2) := by decide +kernel
theorem dX12_run_4 : decode cX12_run 4 = .ok (.invokestatic 94, 3) := by decide +kernel
theorem dX12_run_7 : decode cX12_run 7 = .ok (.ifCond .ne 7, 3) := by decide +kernel
theorem dX12_run_10 : decode cX12_run 10 = .ok (.sipush (-1002), 3) := by decide +kernel
theorem dX12_run_13 : decode cX12_run 13 = .ok (.ireturn, 1) := by decide +kernel
theorem dX12_run_14 : decode cX12_run 14 = .ok (.aload_n 0, 1) := by decide +kernel
theorem dX12_run_15 : decode cX12_run 15 = .ok (.getfield 155, 3) := by decide +kernel
theorem dX12_run_18 : decode cX12_run 18 = .ok (.ifCond .ne 9, 3) := by decide +kernel
theorem dX12_run_21 : decode cX12_run 21 = .ok (.sipush (-1004), 3) := by decide +kernel
theorem dX12_run_24 : decode cX12_run 24 = .ok (.goto 8, 3) := by decide +kernel
theorem dX12_run_27 : decode cX12_run 27 = .ok (.aload_n 0, 1) := by decide +kernel
theorem dX12_run_28 : decode cX12_run 28 = .ok (.iload_n 1, 1) := by decide +kernel
theorem dX12_run_29 : decode cX12_run 29 = .ok (.invokevirtual 231, 3) := by decide +kernel
theorem dX12_run_32 : decode cX12_run 32 = .ok (.ireturn, 1) := by decide +kernel
theorem pyX12_run : PY yX12_run 1 := ⟨by decide +kernel, by decide +kernel, by decide +kernel⟩
def fX12_run (Y : LY) (S : HS) (l0 : Option Nat) (l1 : Int32) : Option (HS × Int32) :=
  (fX12_isIn Y S l1 1 50).bind fun v4 =>
  if v4 = 0 then
    some (S, (-1002))
  else
    (gI Y 12 1208 l0 S).bind fun v15 =>
    if v15 = 0 then
      some (S, (-1004))
    else
      (rcv Y 12 l0).bind fun _ =>
      (fX12_runs Y S l0 l1).bind fun q29 =>
      some (q29.1, q29.2)
set_option maxRecDepth 100000 in
set_option maxHeartbeats 4000000 in
theorem mX12_run (l : Launch) {G : GG} {Y : LY} {S : HS} {l0 : Option Nat} {l1 : Int32} {res : HS × Int32} (hf : fX12_run Y S l0 l1 = some res) : MM l yX12_run cX12_run 2 (some .int) 8 191 G Y S [va_rf l0, .int l1] res.1 (some (.int res.2)) := by
  refine mm_of2 (plainFor_of_name (by decide +kernel)) (Nat.le_of_ble_eq_true rfl) (c1c (cr _) (c1c (ci _) c1n)) ?_
  intro p e R s m args below meth c X H locs ls hP hl
  have X : Cx p R s m args meth c RX12 cX12_run 2 8 191 (fun q => q ∈ Y.1) G (some .int) := X
  have hx := X.1.1
  have hb := X.1.2.1
  have hl : LV ls 2 [(0, va_rf l0), (1, .int l1)] := hl
  unfold fX12_run at hf
  refine lv_iload_n hx hb dX12_run_0 rfl (hl.at 1 rfl) ?_
  refine lv_iconst (v := 1) hx hb dX12_run_1 (by decide) ?_
  refine lv_bipush (v := 50) hx hb dX12_run_2 (by decide) ?_
  obtain ⟨v4, e4, hf⟩ := ob hf
  refine rw_callSi (As := [.int l1, .int 1, .int 50]) X dX12_run_4 clX12_94 pyX12_isIn (mX12_isIn l e4) (by decide) hP rfl (catL c1n (Nat.le_of_ble_eq_true rfl)) hl.1.1 (fun H locs hP => ?_)
  refine lv_if_ne hx hb (tgt := 14) dX12_run_7 (by decide) (fun c7 => ?_) (fun c7 => ?_)
  · have hf := ifn hf c7
    refine rw_aload_n X dX12_run_14 rfl (hl.at 0 rfl) ?_
    obtain ⟨v15, e15, hf⟩ := ob hf
    refine rw_getI X dX12_run_15 fl12_155 e15 rfl hP ?_
    refine lv_if_ne hx hb (tgt := 27) dX12_run_18 (by decide) (fun c18 => ?_) (fun c18 => ?_)
    · have hf := ifn hf c18
      refine rw_aload_n X dX12_run_27 rfl (hl.at 0 rfl) ?_
      refine lv_iload_n hx hb dX12_run_28 rfl (hl.at 1 rfl) ?_
      obtain ⟨u29, r29, hf⟩ := ob hf
      obtain ⟨q29, e29, hf⟩ := ob hf
      refine rw_callVi (As := [.int l1]) X dX12_run_29 clX12_231 pyX12_runs (mX12_runs l e29) (by decide) r29 rfl hP rfl (catL c1n (Nat.le_of_ble_eq_true rfl)) hl.1.1 (fun H locs hP => ?_)
      cases hf
      exact rw_iret X dX12_run_32 hP
    · have hf := ifp hf c18
      refine lv_sipush (v := (-1004)) hx hb dX12_run_21 (by decide) ?_
      refine lv_goto (tgt := 32) hx hb dX12_run_24 (by decide) ?_
      cases hf
      exact rw_iret X dX12_run_32 hP
  · have hf := ifp hf c7
    refine lv_sipush (v := (-1002)) hx hb dX12_run_10 (by decide) ?_
    cases hf
    exact rw_iret X dX12_run_13 hP
theorem dX12_foresee_0 : decode cX12_foresee 0 = .ok (.aload_n 0, 1) := by decide +kernel
theorem dX12_foresee_1 : decode cX12_foresee 1 = .ok (.getfield 155, 3) := by decide +kernel
theorem dX12_foresee_4 : decode cX12_foresee 4 = .ok (.ifCond .ne 7, 3) := by decide +kernel
theorem dX12_foresee_7 : decode cX12_foresee 7 = .ok (.sipush (-1004), 3) := by decide +kernel
theorem dX12_foresee_10 : decode cX12_foresee 10 = .ok (.ireturn, 1) := by decide +kernel
theorem dX12_foresee_11 : decode cX12_foresee 11 = .ok (.aload_n 0, 1) := by decide +kernel
theorem dX12_foresee_12 : decode cX12_foresee 12 = .ok (.getfield 9, 3) := by decide +kernel
theorem dX12_foresee_15 : decode cX12_foresee 15 = .ok (.aload_n 0, 1) := by decide +kernel
theorem dX12_foresee_16 : decode cX12_foresee 16 = .ok (.getfield 16, 3) := by decide +kernel
theorem dX12_foresee_19 : decode cX12_foresee 19 = .ok (.invokestatic 234, 3) := by decide +kernel
theorem dX12_foresee_22 : decode cX12_foresee 22 = .ok (.aload_n 0, 1) := by decide +kernel
theorem dX12_foresee_23 : decode cX12_foresee 23 = .ok (.iconst (-1), 1) := by decide +kernel
theorem dX12_foresee_24 : decode cX12_foresee 24 = .ok (.invokevirtual 225, 3) := by decide +kernel
theorem dX12_foresee_27 : decode cX12_foresee 27 = .ok (.istore_n 1, 1) := by decide +kernel
theorem dX12_foresee_28 : decode cX12_foresee 28 = .ok (.aload_n 0, 1) := by decide +kernel
theorem dX12_foresee_29 : decode cX12_foresee 29 = .ok (.getfield 16, 3) := by decide +kernel
theorem dX12_foresee_32 : decode cX12_foresee 32 = .ok (.aload_n 0, 1) := by decide +kernel
theorem dX12_foresee_33 : decode cX12_foresee 33 = .ok (.getfield 9, 3) := by decide +kernel
theorem dX12_foresee_36 : decode cX12_foresee 36 = .ok (.invokestatic 234, 3) := by decide +kernel
theorem dX12_foresee_39 : decode cX12_foresee 39 = .ok (.iload_n 1, 1) := by decide +kernel
theorem dX12_foresee_40 : decode cX12_foresee 40 = .ok (.ireturn, 1) := by decide +kernel
theorem pyX12_foresee : PY yX12_foresee 0 := ⟨by decide +kernel, by decide +kernel, by decide +kernel⟩
def fX12_foresee (Y : LY) (S : HS) (l0 : Option Nat) : Option (HS × Int32) :=
  (gI Y 12 1208 l0 S).bind fun v1 =>
  if v1 = 0 then
    some (S, (-1004))
  else
    (gR Y 12 1200 l0 S).bind fun v12 =>
    (gR Y 12 1202 l0 S).bind fun v16 =>
    (fX12_copies Y S v12 v16).bind fun S19 =>
    (rcv Y 12 l0).bind fun _ =>
    (fX12_goes Y S19 l0 (-1)).bind fun q24 =>
    (gR Y 12 1202 l0 q24.1).bind fun v29 =>
    (gR Y 12 1200 l0 q24.1).bind fun v33 =>
    (fX12_copies Y q24.1 v29 v33).bind fun S36 =>
    some (S36, q24.2)
set_option maxRecDepth 100000 in
set_option maxHeartbeats 4000000 in
theorem mX12_foresee (l : Launch) {G : GG} {Y : LY} {S : HS} {l0 : Option Nat} {res : HS × Int32} (hf : fX12_foresee Y S l0 = some res) : MM l yX12_foresee cX12_foresee 2 (some .int) 7 169 G Y S [va_rf l0] res.1 (some (.int res.2)) := by
  refine mm_of2 (plainFor_of_name (by decide +kernel)) (Nat.le_of_ble_eq_true rfl) (c1c (cr _) c1n) ?_
  intro p e R s m args below meth c X H locs ls hP hl
  have X : Cx p R s m args meth c RX12 cX12_foresee 2 7 169 (fun q => q ∈ Y.1) G (some .int) := X
  have hx := X.1.1
  have hb := X.1.2.1
  have hl : LV ls 2 [(0, va_rf l0)] := hl
  unfold fX12_foresee at hf
  refine rw_aload_n X dX12_foresee_0 rfl (hl.at 0 rfl) ?_
  obtain ⟨v1, e1, hf⟩ := ob hf
  refine rw_getI X dX12_foresee_1 fl12_155 e1 rfl hP ?_
  refine lv_if_ne hx hb (tgt := 11) dX12_foresee_4 (by decide) (fun c4 => ?_) (fun c4 => ?_)
  · have hf := ifn hf c4
    refine rw_aload_n X dX12_foresee_11 rfl (hl.at 0 rfl) ?_
    obtain ⟨v12, e12, hf⟩ := ob hf
    refine rw_getR X dX12_foresee_12 fl12_9 e12 rfl hP ?_
    refine rw_aload_n X dX12_foresee_15 rfl (hl.at 0 rfl) ?_
    obtain ⟨v16, e16, hf⟩ := ob hf
    refine rw_getR X dX12_foresee_16 fl12_16 e16 rfl hP ?_
    obtain ⟨S19, e19, hf⟩ := ob hf
    refine rw_callSv (As := [va_rf v12, va_rf v16]) X dX12_foresee_19 clX12_234 pyX12_copies (mX12_copies l e19) (by decide) hP rfl (catL c1n (Nat.le_of_ble_eq_true rfl)) hl.1.1 (fun H locs hP => ?_)
    refine rw_aload_n X dX12_foresee_22 rfl (hl.at 0 rfl) ?_
    refine lv_iconst (v := (-1)) hx hb dX12_foresee_23 (by decide) ?_
    obtain ⟨u24, r24, hf⟩ := ob hf
    obtain ⟨q24, e24, hf⟩ := ob hf
    refine rw_callVi (As := [.int (-1)]) X dX12_foresee_24 clX12_225 pyX12_goes (mX12_goes l e24) (by decide) r24 rfl hP rfl (catL c1n (Nat.le_of_ble_eq_true rfl)) hl.1.1 (fun H locs hP => ?_)
    refine rv_istore_n X dX12_foresee_27 rfl hl (by decide) rfl (fun ls hl => ?_)
    have hl : LV ls 2 [(1, .int q24.2), (0, va_rf l0)] := hl
    refine rw_aload_n X dX12_foresee_28 rfl (hl.at 1 rfl) ?_
    obtain ⟨v29, e29, hf⟩ := ob hf
    refine rw_getR X dX12_foresee_29 fl12_16 e29 rfl hP ?_
    refine rw_aload_n X dX12_foresee_32 rfl (hl.at 1 rfl) ?_
    obtain ⟨v33, e33, hf⟩ := ob hf
    refine rw_getR X dX12_foresee_33 fl12_9 e33 rfl hP ?_
    obtain ⟨S36, e36, hf⟩ := ob hf
    refine rw_callSv (As := [va_rf v29, va_rf v33]) X dX12_foresee_36 clX12_234 pyX12_copies (mX12_copies l e36) (by decide) hP rfl (catL c1n (Nat.le_of_ble_eq_true rfl)) hl.1.1 (fun H locs hP => ?_)
    refine lv_iload_n hx hb dX12_foresee_39 rfl (hl.at 0 rfl) ?_
    cases hf
    exact rw_iret X dX12_foresee_40 hP
  · have hf := ifp hf c4
    refine lv_sipush (v := (-1004)) hx hb dX12_foresee_7 (by decide) ?_
    cases hf
    exact rw_iret X dX12_foresee_10 hP
theorem dX12_ticksToGo_0 : decode cX12_ticksToGo 0 = .ok (.aload_n 0, 1) := by decide +kernel
theorem dX12_ticksToGo_1 : decode cX12_ticksToGo 1 = .ok (.getfield 155, 3) := by decide +kernel
theorem dX12_ticksToGo_4 : decode cX12_ticksToGo 4 = .ok (.ifCond .ne 7, 3) := by decide +kernel
theorem dX12_ticksToGo_7 : decode cX12_ticksToGo 7 = .ok (.sipush (-1004), 3) := by decide +kernel
theorem dX12_ticksToGo_10 : decode cX12_ticksToGo 10 = .ok (.ireturn, 1) := by decide +kernel
theorem dX12_ticksToGo_11 : decode cX12_ticksToGo 11 = .ok (.aload_n 0, 1) := by decide +kernel
theorem dX12_ticksToGo_12 : decode cX12_ticksToGo 12 = .ok (.getfield 9, 3) := by decide +kernel
theorem dX12_ticksToGo_15 : decode cX12_ticksToGo 15 = .ok (.aload_n 0, 1) := by decide +kernel
theorem dX12_ticksToGo_16 : decode cX12_ticksToGo 16 = .ok (.getfield 16, 3) := by decide +kernel
theorem dX12_ticksToGo_19 : decode cX12_ticksToGo 19 = .ok (.invokestatic 234, 3) := by decide +kernel
theorem dX12_ticksToGo_22 : decode cX12_ticksToGo 22 = .ok (.aload_n 0, 1) := by decide +kernel
theorem dX12_ticksToGo_23 : decode cX12_ticksToGo 23 = .ok (.bipush 50, 2) := by decide +kernel
theorem dX12_ticksToGo_25 : decode cX12_ticksToGo 25 = .ok (.invokevirtual 231, 3) := by decide +kernel
theorem dX12_ticksToGo_28 : decode cX12_ticksToGo 28 = .ok (.istore_n 1, 1) := by decide +kernel
theorem dX12_ticksToGo_29 : decode cX12_ticksToGo 29 = .ok (.aload_n 0, 1) := by decide +kernel
theorem dX12_ticksToGo_30 : decode cX12_ticksToGo 30 = .ok (.getfield 16, 3) := by decide +kernel
theorem dX12_ticksToGo_33 : decode cX12_ticksToGo 33 = .ok (.aload_n 0, 1) := by decide +kernel
theorem dX12_ticksToGo_34 : decode cX12_ticksToGo 34 = .ok (.getfield 9, 3) := by decide +kernel
theorem dX12_ticksToGo_37 : decode cX12_ticksToGo 37 = .ok (.invokestatic 234, 3) := by decide +kernel
theorem dX12_ticksToGo_40 : decode cX12_ticksToGo 40 = .ok (.iload_n 1, 1) := by decide +kernel
theorem dX12_ticksToGo_41 : decode cX12_ticksToGo 41 = .ok (.iconst 1, 1) := by decide +kernel
theorem dX12_ticksToGo_42 : decode cX12_ticksToGo 42 = .ok (.if_icmp .ne 7, 3) := by decide +kernel
theorem dX12_ticksToGo_45 : decode cX12_ticksToGo 45 = .ok (.iconst 0, 1) := by decide +kernel
theorem dX12_ticksToGo_46 : decode cX12_ticksToGo 46 = .ok (.goto 7, 3) := by decide +kernel
theorem dX12_ticksToGo_49 : decode cX12_ticksToGo 49 = .ok (.aload_n 0, 1) := by decide +kernel
theorem dX12_ticksToGo_50 : decode cX12_ticksToGo 50 = .ok (.getfield 228, 3) := by decide +kernel
theorem dX12_ticksToGo_53 : decode cX12_ticksToGo 53 = .ok (.ireturn, 1) := by decide +kernel
theorem pyX12_ticksToGo : PY yX12_ticksToGo 0 := ⟨by decide +kernel, by decide +kernel, by decide +kernel⟩
def fX12_ticksToGo (Y : LY) (S : HS) (l0 : Option Nat) : Option (HS × Int32) :=
  (gI Y 12 1208 l0 S).bind fun v1 =>
  if v1 = 0 then
    some (S, (-1004))
  else
    (gR Y 12 1200 l0 S).bind fun v12 =>
    (gR Y 12 1202 l0 S).bind fun v16 =>
    (fX12_copies Y S v12 v16).bind fun S19 =>
    (rcv Y 12 l0).bind fun _ =>
    (fX12_runs Y S19 l0 50).bind fun q25 =>
    (gR Y 12 1202 l0 q25.1).bind fun v30 =>
    (gR Y 12 1200 l0 q25.1).bind fun v34 =>
    (fX12_copies Y q25.1 v30 v34).bind fun S37 =>
    if q25.2 = 1 then
      some (S37, 0)
    else
      (gI Y 12 1238 l0 S37).bind fun v50 =>
      some (S37, v50)
set_option maxRecDepth 100000 in
set_option maxHeartbeats 4000000 in
theorem mX12_ticksToGo (l : Launch) {G : GG} {Y : LY} {S : HS} {l0 : Option Nat} {res : HS × Int32} (hf : fX12_ticksToGo Y S l0 = some res) : MM l yX12_ticksToGo cX12_ticksToGo 2 (some .int) 8 191 G Y S [va_rf l0] res.1 (some (.int res.2)) := by
  refine mm_of2 (plainFor_of_name (by decide +kernel)) (Nat.le_of_ble_eq_true rfl) (c1c (cr _) c1n) ?_
  intro p e R s m args below meth c X H locs ls hP hl
  have X : Cx p R s m args meth c RX12 cX12_ticksToGo 2 8 191 (fun q => q ∈ Y.1) G (some .int) := X
  have hx := X.1.1
  have hb := X.1.2.1
  have hl : LV ls 2 [(0, va_rf l0)] := hl
  unfold fX12_ticksToGo at hf
  refine rw_aload_n X dX12_ticksToGo_0 rfl (hl.at 0 rfl) ?_
  obtain ⟨v1, e1, hf⟩ := ob hf
  refine rw_getI X dX12_ticksToGo_1 fl12_155 e1 rfl hP ?_
  refine lv_if_ne hx hb (tgt := 11) dX12_ticksToGo_4 (by decide) (fun c4 => ?_) (fun c4 => ?_)
  · have hf := ifn hf c4
    refine rw_aload_n X dX12_ticksToGo_11 rfl (hl.at 0 rfl) ?_
    obtain ⟨v12, e12, hf⟩ := ob hf
    refine rw_getR X dX12_ticksToGo_12 fl12_9 e12 rfl hP ?_
    refine rw_aload_n X dX12_ticksToGo_15 rfl (hl.at 0 rfl) ?_
    obtain ⟨v16, e16, hf⟩ := ob hf
    refine rw_getR X dX12_ticksToGo_16 fl12_16 e16 rfl hP ?_
    obtain ⟨S19, e19, hf⟩ := ob hf
    refine rw_callSv (As := [va_rf v12, va_rf v16]) X dX12_ticksToGo_19 clX12_234 pyX12_copies (mX12_copies l e19) (by decide) hP rfl (catL c1n (Nat.le_of_ble_eq_true rfl)) hl.1.1 (fun H locs hP => ?_)
    refine rw_aload_n X dX12_ticksToGo_22 rfl (hl.at 0 rfl) ?_
    refine lv_bipush (v := 50) hx hb dX12_ticksToGo_23 (by decide) ?_
    obtain ⟨u25, r25, hf⟩ := ob hf
    obtain ⟨q25, e25, hf⟩ := ob hf
    refine rw_callVi (As := [.int 50]) X dX12_ticksToGo_25 clX12_231 pyX12_runs (mX12_runs l e25) (by decide) r25 rfl hP rfl (catL c1n (Nat.le_of_ble_eq_true rfl)) hl.1.1 (fun H locs hP => ?_)
    refine rv_istore_n X dX12_ticksToGo_28 rfl hl (by decide) rfl (fun ls hl => ?_)
    have hl : LV ls 2 [(1, .int q25.2), (0, va_rf l0)] := hl
    refine rw_aload_n X dX12_ticksToGo_29 rfl (hl.at 1 rfl) ?_
    obtain ⟨v30, e30, hf⟩ := ob hf
    refine rw_getR X dX12_ticksToGo_30 fl12_16 e30 rfl hP ?_
    refine rw_aload_n X dX12_ticksToGo_33 rfl (hl.at 1 rfl) ?_
    obtain ⟨v34, e34, hf⟩ := ob hf
    refine rw_getR X dX12_ticksToGo_34 fl12_9 e34 rfl hP ?_
    obtain ⟨S37, e37, hf⟩ := ob hf
    refine rw_callSv (As := [va_rf v30, va_rf v34]) X dX12_ticksToGo_37 clX12_234 pyX12_copies (mX12_copies l e37) (by decide) hP rfl (catL c1n (Nat.le_of_ble_eq_true rfl)) hl.1.1 (fun H locs hP => ?_)
    refine lv_iload_n hx hb dX12_ticksToGo_40 rfl (hl.at 0 rfl) ?_
    refine lv_iconst (v := 1) hx hb dX12_ticksToGo_41 (by decide) ?_
    refine lv_icmp_ne hx hb (tgt := 49) dX12_ticksToGo_42 (by decide) (fun c42 => ?_) (fun c42 => ?_)
    · have hf := ifn hf c42
      refine rw_aload_n X dX12_ticksToGo_49 rfl (hl.at 1 rfl) ?_
      obtain ⟨v50, e50, hf⟩ := ob hf
      refine rw_getI X dX12_ticksToGo_50 fl12_228 e50 rfl hP ?_
      cases hf
      exact rw_iret X dX12_ticksToGo_53 hP
    · have hf := ifp hf c42
      refine lv_iconst (v := 0) hx hb dX12_ticksToGo_45 (by decide) ?_
      refine lv_goto (tgt := 53) hx hb dX12_ticksToGo_46 (by decide) ?_
      cases hf
      exact rw_iret X dX12_ticksToGo_53 hP
  · have hf := ifp hf c4
    refine lv_sipush (v := (-1004)) hx hb dX12_ticksToGo_7 (by decide) ?_
    cases hf
    exact rw_iret X dX12_ticksToGo_10 hP
theorem dX12_abort_0 : decode cX12_abort 0 = .ok (.aload_n 0, 1) := by decide +kernel
theorem dX12_abort_1 : decode cX12_abort 1 = .ok (.getfield 155, 3) := by decide +kernel
theorem dX12_abort_4 : decode cX12_abort 4 = .ok (.ifCond .ne 7, 3) := by decide +kernel
theorem dX12_abort_7 : decode cX12_abort 7 = .ok (.sipush (-1004), 3) := by decide +kernel
theorem dX12_abort_10 : decode cX12_abort 10 = .ok (.ireturn, 1) := by decide +kernel
theorem dX12_abort_11 : decode cX12_abort 11 = .ok (.aload_n 0, 1) := by decide +kernel
theorem dX12_abort_12 : decode cX12_abort 12 = .ok (.getfield 9, 3) := by decide +kernel
theorem dX12_abort_15 : decode cX12_abort 15 = .ok (.sipush 284, 3) := by decide +kernel
theorem dX12_abort_18 : decode cX12_abort 18 = .ok (.iconst (-1), 1) := by decide +kernel
theorem dX12_abort_19 : decode cX12_abort 19 = .ok (.iastore, 1) := by decide +kernel
theorem dX12_abort_20 : decode cX12_abort 20 = .ok (.aload_n 0, 1) := by decide +kernel
theorem dX12_abort_21 : decode cX12_abort 21 = .ok (.getfield 9, 3) := by decide +kernel
theorem dX12_abort_24 : decode cX12_abort 24 = .ok (.sipush 272, 3) := by decide +kernel
theorem dX12_abort_27 : decode cX12_abort 27 = .ok (.iconst 0, 1) := by decide +kernel
theorem dX12_abort_28 : decode cX12_abort 28 = .ok (.iastore, 1) := by decide +kernel
theorem dX12_abort_29 : decode cX12_abort 29 = .ok (.aload_n 0, 1) := by decide +kernel
theorem dX12_abort_30 : decode cX12_abort 30 = .ok (.iconst 0, 1) := by decide +kernel
theorem dX12_abort_31 : decode cX12_abort 31 = .ok (.invokevirtual 200, 3) := by decide +kernel
theorem dX12_abort_34 : decode cX12_abort 34 = .ok (.ireturn, 1) := by decide +kernel
theorem pyX12_abort : PY yX12_abort 0 := ⟨by decide +kernel, by decide +kernel, by decide +kernel⟩
def fX12_abort (Y : LY) (S : HS) (l0 : Option Nat) : Option (HS × Int32) :=
  (gI Y 12 1208 l0 S).bind fun v1 =>
  if v1 = 0 then
    some (S, (-1004))
  else
    (gR Y 12 1200 l0 S).bind fun v12 =>
    (pA Y 14 v12 284 (-1) S).bind fun S19 =>
    (gR Y 12 1200 l0 S19).bind fun v21 =>
    (pA Y 14 v21 272 0 S19).bind fun S28 =>
    (rcv Y 12 l0).bind fun _ =>
    (fX12_aborts Y S28 l0 0).bind fun q31 =>
    some (q31.1, q31.2)
set_option maxRecDepth 100000 in
set_option maxHeartbeats 4000000 in
theorem mX12_abort (l : Launch) {G : GG} {Y : LY} {S : HS} {l0 : Option Nat} {res : HS × Int32} (hf : fX12_abort Y S l0 = some res) : MM l yX12_abort cX12_abort 1 (some .int) 4 93 G Y S [va_rf l0] res.1 (some (.int res.2)) := by
  refine mm_of2 (plainFor_of_name (by decide +kernel)) (Nat.le_of_ble_eq_true rfl) (c1c (cr _) c1n) ?_
  intro p e R s m args below meth c X H locs ls hP hl
  have X : Cx p R s m args meth c RX12 cX12_abort 1 4 93 (fun q => q ∈ Y.1) G (some .int) := X
  have hx := X.1.1
  have hb := X.1.2.1
  have hl : LV ls 1 [(0, va_rf l0)] := hl
  unfold fX12_abort at hf
  refine rw_aload_n X dX12_abort_0 rfl (hl.at 0 rfl) ?_
  obtain ⟨v1, e1, hf⟩ := ob hf
  refine rw_getI X dX12_abort_1 fl12_155 e1 rfl hP ?_
  refine lv_if_ne hx hb (tgt := 11) dX12_abort_4 (by decide) (fun c4 => ?_) (fun c4 => ?_)
  · have hf := ifn hf c4
    refine rw_aload_n X dX12_abort_11 rfl (hl.at 0 rfl) ?_
    obtain ⟨v12, e12, hf⟩ := ob hf
    refine rw_getR X dX12_abort_12 fl12_9 e12 rfl hP ?_
    refine lv_sipush (v := 284) hx hb dX12_abort_15 (by decide) ?_
    refine lv_iconst (v := (-1)) hx hb dX12_abort_18 (by decide) ?_
    obtain ⟨S19, e19, hf⟩ := ob hf
    refine rw_iast X dX12_abort_19 e19 hP (fun H locs hP => ?_)
    refine rw_aload_n X dX12_abort_20 rfl (hl.at 0 rfl) ?_
    obtain ⟨v21, e21, hf⟩ := ob hf
    refine rw_getR X dX12_abort_21 fl12_9 e21 rfl hP ?_
    refine lv_sipush (v := 272) hx hb dX12_abort_24 (by decide) ?_
    refine lv_iconst (v := 0) hx hb dX12_abort_27 (by decide) ?_
    obtain ⟨S28, e28, hf⟩ := ob hf
    refine rw_iast X dX12_abort_28 e28 hP (fun H locs hP => ?_)
    refine rw_aload_n X dX12_abort_29 rfl (hl.at 0 rfl) ?_
    refine lv_iconst (v := 0) hx hb dX12_abort_30 (by decide) ?_
    obtain ⟨u31, r31, hf⟩ := ob hf
    obtain ⟨q31, e31, hf⟩ := ob hf
    refine rw_callVi (As := [.int 0]) X dX12_abort_31 clX12_200 pyX12_aborts (mX12_aborts l e31) (by decide) r31 rfl hP rfl (catL c1n (Nat.le_of_ble_eq_true rfl)) hl.1.1 (fun H locs hP => ?_)
    cases hf
    exact rw_iret X dX12_abort_34 hP
  · have hf := ifp hf c4
    refine lv_sipush (v := (-1004)) hx hb dX12_abort_7 (by decide) ?_
    cases hf
    exact rw_iret X dX12_abort_10 hP
theorem dX12_node_0 : decode cX12_node 0 = .ok (.iload_n 1, 1) := by decide +kernel
theorem dX12_node_1 : decode cX12_node 1 = .ok (.iconst 0, 1) := by decide +kernel
theorem dX12_node_2 : decode cX12_node 2 = .ok (.aload_n 0, 1) := by decide +kernel
theorem dX12_node_3 : decode cX12_node 3 = .ok (.getfield 155, 3) := by decide +kernel
theorem dX12_node_6 : decode cX12_node 6 = .ok (.iconst 1, 1) := by decide +kernel
theorem dX12_node_7 : decode cX12_node 7 = .ok (.isub, 1) := by decide +kernel
theorem dX12_node_8 : decode cX12_node 8 = .ok (.invokestatic 94, 3) := by decide +kernel
theorem dX12_node_11 : decode cX12_node 11 = .ok (.ifCond .ne 7, 3) := by decide +kernel
theorem dX12_node_14 : decode cX12_node 14 = .ok (.sipush (-1001), 3) := by decide +kernel
theorem dX12_node_17 : decode cX12_node 17 = .ok (.ireturn, 1) := by decide +kernel
theorem dX12_node_18 : decode cX12_node 18 = .ok (.iload_n 2, 1) := by decide +kernel
theorem dX12_node_19 : decode cX12_node 19 = .ok (.iconst 0, 1) := by decide +kernel
theorem dX12_node_20 : decode cX12_node 20 = .ok (.bipush 11, 2) := by decide +kernel
theorem dX12_node_22 : decode cX12_node 22 = .ok (.invokestatic 94, 3) := by decide +kernel
theorem dX12_node_25 : decode cX12_node 25 = .ok (.ifCond .ne 7, 3) := by decide +kernel
theorem dX12_node_28 : decode cX12_node 28 = .ok (.sipush (-1002), 3) := by decide +kernel
theorem dX12_node_31 : decode cX12_node 31 = .ok (.ireturn, 1) := by decide +kernel
theorem dX12_node_32 : decode cX12_node 32 = .ok (.iload_n 2, 1) := by decide +kernel
theorem dX12_node_33 : decode cX12_node 33 = .ok (.tableswitch 126 0 11 #[63, 70, 77, 83, 90, 126, 126, 126, 126, 126, 97, 104], 63) := by decide +kernel
theorem dX12_node_96 : decode cX12_node 96 = .ok (.aload_n 0, 1) := by decide +kernel
theorem dX12_node_97 : decode cX12_node 97 = .ok (.getfield 25, 3) := by decide +kernel
theorem dX12_node_100 : decode cX12_node 100 = .ok (.iload_n 1, 1) := by decide +kernel
theorem dX12_node_101 : decode cX12_node 101 = .ok (.iaload, 1) := by decide +kernel
theorem dX12_node_102 : decode cX12_node 102 = .ok (.ireturn, 1) := by decide +kernel
theorem dX12_node_103 : decode cX12_node 103 = .ok (.aload_n 0, 1) := by decide +kernel
theorem dX12_node_104 : decode cX12_node 104 = .ok (.getfield 31, 3) := by decide +kernel
theorem dX12_node_107 : decode cX12_node 107 = .ok (.iload_n 1, 1) := by decide +kernel
theorem dX12_node_108 : decode cX12_node 108 = .ok (.iaload, 1) := by decide +kernel
theorem dX12_node_109 : decode cX12_node 109 = .ok (.ireturn, 1) := by decide +kernel
theorem dX12_node_110 : decode cX12_node 110 = .ok (.aload_n 0, 1) := by decide +kernel
theorem dX12_node_111 : decode cX12_node 111 = .ok (.iload_n 1, 1) := by decide +kernel
theorem dX12_node_112 : decode cX12_node 112 = .ok (.invokevirtual 203, 3) := by decide +kernel
theorem dX12_node_115 : decode cX12_node 115 = .ok (.ireturn, 1) := by decide +kernel
theorem dX12_node_116 : decode cX12_node 116 = .ok (.aload_n 0, 1) := by decide +kernel
theorem dX12_node_117 : decode cX12_node 117 = .ok (.iload_n 1, 1) := by decide +kernel
theorem dX12_node_118 : decode cX12_node 118 = .ok (.iconst 0, 1) := by decide +kernel
theorem dX12_node_119 : decode cX12_node 119 = .ok (.invokevirtual 168, 3) := by decide +kernel
theorem dX12_node_122 : decode cX12_node 122 = .ok (.ireturn, 1) := by decide +kernel
theorem dX12_node_123 : decode cX12_node 123 = .ok (.aload_n 0, 1) := by decide +kernel
theorem dX12_node_124 : decode cX12_node 124 = .ok (.getfield 28, 3) := by decide +kernel
theorem dX12_node_127 : decode cX12_node 127 = .ok (.iload_n 1, 1) := by decide +kernel
theorem dX12_node_128 : decode cX12_node 128 = .ok (.iaload, 1) := by decide +kernel
theorem dX12_node_129 : decode cX12_node 129 = .ok (.ireturn, 1) := by decide +kernel
theorem dX12_node_130 : decode cX12_node 130 = .ok (.aload_n 0, 1) := by decide +kernel
theorem dX12_node_131 : decode cX12_node 131 = .ok (.getfield 34, 3) := by decide +kernel
theorem dX12_node_134 : decode cX12_node 134 = .ok (.iload_n 1, 1) := by decide +kernel
theorem dX12_node_135 : decode cX12_node 135 = .ok (.iaload, 1) := by decide +kernel
theorem dX12_node_136 : decode cX12_node 136 = .ok (.ireturn, 1) := by decide +kernel
theorem dX12_node_137 : decode cX12_node 137 = .ok (.aload_n 0, 1) := by decide +kernel
theorem dX12_node_138 : decode cX12_node 138 = .ok (.getfield 25, 3) := by decide +kernel
theorem dX12_node_141 : decode cX12_node 141 = .ok (.iload_n 1, 1) := by decide +kernel
theorem dX12_node_142 : decode cX12_node 142 = .ok (.iaload, 1) := by decide +kernel
theorem dX12_node_143 : decode cX12_node 143 = .ok (.bipush 14, 2) := by decide +kernel
theorem dX12_node_145 : decode cX12_node 145 = .ok (.if_icmp .ne 12, 3) := by decide +kernel
theorem dX12_node_148 : decode cX12_node 148 = .ok (.aload_n 0, 1) := by decide +kernel
theorem dX12_node_149 : decode cX12_node 149 = .ok (.iload_n 1, 1) := by decide +kernel
theorem dX12_node_150 : decode cX12_node 150 = .ok (.iconst 4, 1) := by decide +kernel
theorem dX12_node_151 : decode cX12_node 151 = .ok (.invokevirtual 168, 3) := by decide +kernel
theorem dX12_node_154 : decode cX12_node 154 = .ok (.goto 4, 3) := by decide +kernel
theorem dX12_node_157 : decode cX12_node 157 = .ok (.iconst 0, 1) := by decide +kernel
theorem dX12_node_158 : decode cX12_node 158 = .ok (.ireturn, 1) := by decide +kernel
theorem dX12_node_159 : decode cX12_node 159 = .ok (.aload_n 0, 1) := by decide +kernel
theorem dX12_node_160 : decode cX12_node 160 = .ok (.iload_n 1, 1) := by decide +kernel
theorem dX12_node_161 : decode cX12_node 161 = .ok (.bipush 6, 2) := by decide +kernel
theorem dX12_node_163 : decode cX12_node 163 = .ok (.iload_n 2, 1) := by decide +kernel
theorem dX12_node_164 : decode cX12_node 164 = .ok (.iadd, 1) := by decide +kernel
theorem dX12_node_165 : decode cX12_node 165 = .ok (.iconst 5, 1) := by decide +kernel
theorem dX12_node_166 : decode cX12_node 166 = .ok (.isub, 1) := by decide +kernel
theorem dX12_node_167 : decode cX12_node 167 = .ok (.invokevirtual 168, 3) := by decide +kernel
theorem dX12_node_170 : decode cX12_node 170 = .ok (.ireturn, 1) := by decide +kernel
theorem pyX12_node : PY yX12_node 2 := ⟨by decide +kernel, by decide +kernel, by decide +kernel⟩
def fX12_node_159 (Y : LY) (S : HS) (l0 : Option Nat) (l1 : Int32) (l2 : Int32) : Option (Int32) :=
  (rcv Y 12 l0).bind fun _ =>
  (fX12_of Y S l0 l1 ((6 + l2) - 5)).bind fun v167 =>
  some v167
set_option maxRecDepth 100000 in
set_option maxHeartbeats 4000000 in
theorem wX12_node_159 {p : Program} {l : Launch} {e : Env} {R : Room} {s : State} {m : MethodId} {args : Array Value} {below : List Frame} {meth : Method} {c : Code} {G : GG} {Y : LY} {S : HS} {res : Int32} (X : Cx p R s m args meth c RX12 cX12_node 3 2 46 (fun q => q ∈ Y.1) G (some .int)) : ∀ (l0 : Option Nat) (l1 : Int32) (l2 : Int32), fX12_node_159 Y S l0 l1 l2 = some res → ∀ (H : Heap) (locs : List Loc) (ls : Array Slot), HP (fun q => q ∈ Y.1) G Y s S H locs → LV ls 3 [(0, va_rf l0), (1, .int l1), (2, .int l2)] → W p l e R s m args below meth c H locs 0 0 (MQ below (QI G Y S (some (.int res))) args s 0 0 (fun q => q ∈ Y.1)) (F0 m 159 ls []) := by
  have hx := X.1.1
  have hb := X.1.2.1
  intro l0 l1 l2 hf H locs ls hP hl
  unfold fX12_node_159 at hf
  refine rw_aload_n X dX12_node_159 rfl (hl.at 0 rfl) ?_
  refine lv_iload_n hx hb dX12_node_160 rfl (hl.at 1 rfl) ?_
  refine lv_bipush (v := 6) hx hb dX12_node_161 (by decide) ?_
  refine lv_iload_n hx hb dX12_node_163 rfl (hl.at 2 rfl) ?_
  refine lv_iadd hx hb dX12_node_164 ?_
  refine lv_iconst (v := 5) hx hb dX12_node_165 (by decide) ?_
  refine lv_isub hx hb dX12_node_166 ?_
  obtain ⟨u167, r167, hf⟩ := ob hf
  obtain ⟨v167, e167, hf⟩ := ob hf
  refine rw_callVi (As := [.int l1, .int ((6 + l2) - 5)]) X dX12_node_167 clX12_168 pyX12_of (mX12_of l e167) (by decide) r167 rfl hP rfl (catL c1n (Nat.le_of_ble_eq_true rfl)) hl.1.1 (fun H locs hP => ?_)
  cases hf
  exact rw_iret X dX12_node_170 hP
def fX12_node (Y : LY) (S : HS) (l0 : Option Nat) (l1 : Int32) (l2 : Int32) : Option (Int32) :=
  (gI Y 12 1208 l0 S).bind fun v3 =>
  (fX12_isIn Y S l1 0 (v3 - 1)).bind fun v8 =>
  if v8 = 0 then
    some (-1001)
  else
    (fX12_isIn Y S l2 0 11).bind fun v22 =>
    if v22 = 0 then
      some (-1002)
    else
      if l2 = 0 then
        (gR Y 12 1209 l0 S).bind fun v97 =>
        (gA Y 14 v97 l1 S).bind fun v101 =>
        some v101
      else
      if l2 = 1 then
        (gR Y 12 1211 l0 S).bind fun v104 =>
        (gA Y 14 v104 l1 S).bind fun v108 =>
        some v108
      else
      if l2 = 2 then
        (rcv Y 12 l0).bind fun _ =>
        (fX12_children Y S l0 l1).bind fun v112 =>
        some v112
      else
      if l2 = 3 then
        (rcv Y 12 l0).bind fun _ =>
        (fX12_of Y S l0 l1 0).bind fun v119 =>
        some v119
      else
      if l2 = 4 then
        (gR Y 12 1210 l0 S).bind fun v124 =>
        (gA Y 14 v124 l1 S).bind fun v128 =>
        some v128
      else
      if l2 = 5 then
        fX12_node_159 Y S l0 l1 l2
      else
      if l2 = 6 then
        fX12_node_159 Y S l0 l1 l2
      else
      if l2 = 7 then
        fX12_node_159 Y S l0 l1 l2
      else
      if l2 = 8 then
        fX12_node_159 Y S l0 l1 l2
      else
      if l2 = 9 then
        fX12_node_159 Y S l0 l1 l2
      else
      if l2 = 10 then
        (gR Y 12 1212 l0 S).bind fun v131 =>
        (gA Y 14 v131 l1 S).bind fun v135 =>
        some v135
      else
      if l2 = 11 then
        (gR Y 12 1209 l0 S).bind fun v138 =>
        (gA Y 14 v138 l1 S).bind fun v142 =>
        if v142 = 14 then
          (rcv Y 12 l0).bind fun _ =>
          (fX12_of Y S l0 l1 4).bind fun v151 =>
          some v151
        else
          some 0
      else
      fX12_node_159 Y S l0 l1 l2
set_option maxRecDepth 100000 in
set_option maxHeartbeats 4000000 in
theorem mX12_node (l : Launch) {G : GG} {Y : LY} {S : HS} {l0 : Option Nat} {l1 : Int32} {l2 : Int32} {res : Int32} (hf : fX12_node Y S l0 l1 l2 = some res) : MM l yX12_node cX12_node 3 (some .int) 2 46 G Y S [va_rf l0, .int l1, .int l2] S (some (.int res)) := by
  refine mm_of2 (plainFor_of_name (by decide +kernel)) (Nat.le_of_ble_eq_true rfl) (c1c (cr _) (c1c (ci _) (c1c (ci _) c1n))) ?_
  intro p e R s m args below meth c X H locs ls hP hl
  have X : Cx p R s m args meth c RX12 cX12_node 3 2 46 (fun q => q ∈ Y.1) G (some .int) := X
  have hx := X.1.1
  have hb := X.1.2.1
  have hl : LV ls 3 [(0, va_rf l0), (1, .int l1), (2, .int l2)] := hl
  unfold fX12_node at hf
  refine lv_iload_n hx hb dX12_node_0 rfl (hl.at 1 rfl) ?_
  refine lv_iconst (v := 0) hx hb dX12_node_1 (by decide) ?_
  refine rw_aload_n X dX12_node_2 rfl (hl.at 0 rfl) ?_
  obtain ⟨v3, e3, hf⟩ := ob hf
  refine rw_getI X dX12_node_3 fl12_155 e3 rfl hP ?_
  refine lv_iconst (v := 1) hx hb dX12_node_6 (by decide) ?_
  refine lv_isub hx hb dX12_node_7 ?_
  obtain ⟨v8, e8, hf⟩ := ob hf
  refine rw_callSi (As := [.int l1, .int 0, .int (v3 - 1)]) X dX12_node_8 clX12_94 pyX12_isIn (mX12_isIn l e8) (by decide) hP rfl (catL c1n (Nat.le_of_ble_eq_true rfl)) hl.1.1 (fun H locs hP => ?_)
  refine lv_if_ne hx hb (tgt := 18) dX12_node_11 (by decide) (fun c11 => ?_) (fun c11 => ?_)
  · have hf := ifn hf c11
    refine lv_iload_n hx hb dX12_node_18 rfl (hl.at 2 rfl) ?_
    refine lv_iconst (v := 0) hx hb dX12_node_19 (by decide) ?_
    refine lv_bipush (v := 11) hx hb dX12_node_20 (by decide) ?_
    obtain ⟨v22, e22, hf⟩ := ob hf
    refine rw_callSi (As := [.int l2, .int 0, .int 11]) X dX12_node_22 clX12_94 pyX12_isIn (mX12_isIn l e22) (by decide) hP rfl (catL c1n (Nat.le_of_ble_eq_true rfl)) hl.1.1 (fun H locs hP => ?_)
    refine lv_if_ne hx hb (tgt := 32) dX12_node_25 (by decide) (fun c25 => ?_) (fun c25 => ?_)
    · have hf := ifn hf c25
      refine lv_iload_n hx hb dX12_node_32 rfl (hl.at 2 rfl) ?_
      by_cases c33_0 : l2 = 0
      · have hf := ifp hf c33_0
        refine lv_tableIn (tgt := 96) hx hb dX12_node_33 (by rw [c33_0]; decide) (by rw [c33_0]; decide) (by rw [c33_0]; rfl) (by decide) ?_
        refine rw_aload_n X dX12_node_96 rfl (hl.at 0 rfl) ?_
        obtain ⟨v97, e97, hf⟩ := ob hf
        refine rw_getR X dX12_node_97 fl12_25 e97 rfl hP ?_
        refine lv_iload_n hx hb dX12_node_100 rfl (hl.at 1 rfl) ?_
        obtain ⟨v101, e101, hf⟩ := ob hf
        refine rw_iald X dX12_node_101 e101 hP ?_
        cases hf
        exact rw_iret X dX12_node_102 hP
      have hf := ifn hf c33_0
      by_cases c33_1 : l2 = 1
      · have hf := ifp hf c33_1
        refine lv_tableIn (tgt := 103) hx hb dX12_node_33 (by rw [c33_1]; decide) (by rw [c33_1]; decide) (by rw [c33_1]; rfl) (by decide) ?_
        refine rw_aload_n X dX12_node_103 rfl (hl.at 0 rfl) ?_
        obtain ⟨v104, e104, hf⟩ := ob hf
        refine rw_getR X dX12_node_104 fl12_31 e104 rfl hP ?_
        refine lv_iload_n hx hb dX12_node_107 rfl (hl.at 1 rfl) ?_
        obtain ⟨v108, e108, hf⟩ := ob hf
        refine rw_iald X dX12_node_108 e108 hP ?_
        cases hf
        exact rw_iret X dX12_node_109 hP
      have hf := ifn hf c33_1
      by_cases c33_2 : l2 = 2
      · have hf := ifp hf c33_2
        refine lv_tableIn (tgt := 110) hx hb dX12_node_33 (by rw [c33_2]; decide) (by rw [c33_2]; decide) (by rw [c33_2]; rfl) (by decide) ?_
        refine rw_aload_n X dX12_node_110 rfl (hl.at 0 rfl) ?_
        refine lv_iload_n hx hb dX12_node_111 rfl (hl.at 1 rfl) ?_
        obtain ⟨u112, r112, hf⟩ := ob hf
        obtain ⟨v112, e112, hf⟩ := ob hf
        refine rw_callVi (As := [.int l1]) X dX12_node_112 clX12_203 pyX12_children (mX12_children l e112) (by decide) r112 rfl hP rfl (catL c1n (Nat.le_of_ble_eq_true rfl)) hl.1.1 (fun H locs hP => ?_)
        cases hf
        exact rw_iret X dX12_node_115 hP
      have hf := ifn hf c33_2
      by_cases c33_3 : l2 = 3
      · have hf := ifp hf c33_3
        refine lv_tableIn (tgt := 116) hx hb dX12_node_33 (by rw [c33_3]; decide) (by rw [c33_3]; decide) (by rw [c33_3]; rfl) (by decide) ?_
        refine rw_aload_n X dX12_node_116 rfl (hl.at 0 rfl) ?_
        refine lv_iload_n hx hb dX12_node_117 rfl (hl.at 1 rfl) ?_
        refine lv_iconst (v := 0) hx hb dX12_node_118 (by decide) ?_
        obtain ⟨u119, r119, hf⟩ := ob hf
        obtain ⟨v119, e119, hf⟩ := ob hf
        refine rw_callVi (As := [.int l1, .int 0]) X dX12_node_119 clX12_168 pyX12_of (mX12_of l e119) (by decide) r119 rfl hP rfl (catL c1n (Nat.le_of_ble_eq_true rfl)) hl.1.1 (fun H locs hP => ?_)
        cases hf
        exact rw_iret X dX12_node_122 hP
      have hf := ifn hf c33_3
      by_cases c33_4 : l2 = 4
      · have hf := ifp hf c33_4
        refine lv_tableIn (tgt := 123) hx hb dX12_node_33 (by rw [c33_4]; decide) (by rw [c33_4]; decide) (by rw [c33_4]; rfl) (by decide) ?_
        refine rw_aload_n X dX12_node_123 rfl (hl.at 0 rfl) ?_
        obtain ⟨v124, e124, hf⟩ := ob hf
        refine rw_getR X dX12_node_124 fl12_28 e124 rfl hP ?_
        refine lv_iload_n hx hb dX12_node_127 rfl (hl.at 1 rfl) ?_
        obtain ⟨v128, e128, hf⟩ := ob hf
        refine rw_iald X dX12_node_128 e128 hP ?_
        cases hf
        exact rw_iret X dX12_node_129 hP
      have hf := ifn hf c33_4
      by_cases c33_5 : l2 = 5
      · have hf := ifp hf c33_5
        refine lv_tableIn (tgt := 159) hx hb dX12_node_33 (by rw [c33_5]; decide) (by rw [c33_5]; decide) (by rw [c33_5]; rfl) (by decide) ?_
        exact wX12_node_159 X l0 l1 l2 hf _ _ _ hP (hl.sub [0, 1, 2] rfl)
      have hf := ifn hf c33_5
      by_cases c33_6 : l2 = 6
      · have hf := ifp hf c33_6
        refine lv_tableIn (tgt := 159) hx hb dX12_node_33 (by rw [c33_6]; decide) (by rw [c33_6]; decide) (by rw [c33_6]; rfl) (by decide) ?_
        exact wX12_node_159 X l0 l1 l2 hf _ _ _ hP (hl.sub [0, 1, 2] rfl)
      have hf := ifn hf c33_6
      by_cases c33_7 : l2 = 7
      · have hf := ifp hf c33_7
        refine lv_tableIn (tgt := 159) hx hb dX12_node_33 (by rw [c33_7]; decide) (by rw [c33_7]; decide) (by rw [c33_7]; rfl) (by decide) ?_
        exact wX12_node_159 X l0 l1 l2 hf _ _ _ hP (hl.sub [0, 1, 2] rfl)
      have hf := ifn hf c33_7
      by_cases c33_8 : l2 = 8
      · have hf := ifp hf c33_8
        refine lv_tableIn (tgt := 159) hx hb dX12_node_33 (by rw [c33_8]; decide) (by rw [c33_8]; decide) (by rw [c33_8]; rfl) (by decide) ?_
        exact wX12_node_159 X l0 l1 l2 hf _ _ _ hP (hl.sub [0, 1, 2] rfl)
      have hf := ifn hf c33_8
      by_cases c33_9 : l2 = 9
      · have hf := ifp hf c33_9
        refine lv_tableIn (tgt := 159) hx hb dX12_node_33 (by rw [c33_9]; decide) (by rw [c33_9]; decide) (by rw [c33_9]; rfl) (by decide) ?_
        exact wX12_node_159 X l0 l1 l2 hf _ _ _ hP (hl.sub [0, 1, 2] rfl)
      have hf := ifn hf c33_9
      by_cases c33_10 : l2 = 10
      · have hf := ifp hf c33_10
        refine lv_tableIn (tgt := 130) hx hb dX12_node_33 (by rw [c33_10]; decide) (by rw [c33_10]; decide) (by rw [c33_10]; rfl) (by decide) ?_
        refine rw_aload_n X dX12_node_130 rfl (hl.at 0 rfl) ?_
        obtain ⟨v131, e131, hf⟩ := ob hf
        refine rw_getR X dX12_node_131 fl12_34 e131 rfl hP ?_
        refine lv_iload_n hx hb dX12_node_134 rfl (hl.at 1 rfl) ?_
        obtain ⟨v135, e135, hf⟩ := ob hf
        refine rw_iald X dX12_node_135 e135 hP ?_
        cases hf
        exact rw_iret X dX12_node_136 hP
      have hf := ifn hf c33_10
      by_cases c33_11 : l2 = 11
      · have hf := ifp hf c33_11
        refine lv_tableIn (tgt := 137) hx hb dX12_node_33 (by rw [c33_11]; decide) (by rw [c33_11]; decide) (by rw [c33_11]; rfl) (by decide) ?_
        refine rw_aload_n X dX12_node_137 rfl (hl.at 0 rfl) ?_
        obtain ⟨v138, e138, hf⟩ := ob hf
        refine rw_getR X dX12_node_138 fl12_25 e138 rfl hP ?_
        refine lv_iload_n hx hb dX12_node_141 rfl (hl.at 1 rfl) ?_
        obtain ⟨v142, e142, hf⟩ := ob hf
        refine rw_iald X dX12_node_142 e142 hP ?_
        refine lv_bipush (v := 14) hx hb dX12_node_143 (by decide) ?_
        refine lv_icmp_ne hx hb (tgt := 157) dX12_node_145 (by decide) (fun c145 => ?_) (fun c145 => ?_)
        · have hf := ifn hf c145
          refine lv_iconst (v := 0) hx hb dX12_node_157 (by decide) ?_
          cases hf
          exact rw_iret X dX12_node_158 hP
        · have hf := ifp hf c145
          refine rw_aload_n X dX12_node_148 rfl (hl.at 0 rfl) ?_
          refine lv_iload_n hx hb dX12_node_149 rfl (hl.at 1 rfl) ?_
          refine lv_iconst (v := 4) hx hb dX12_node_150 (by decide) ?_
          obtain ⟨u151, r151, hf⟩ := ob hf
          obtain ⟨v151, e151, hf⟩ := ob hf
          refine rw_callVi (As := [.int l1, .int 4]) X dX12_node_151 clX12_168 pyX12_of (mX12_of l e151) (by decide) r151 rfl hP rfl (catL c1n (Nat.le_of_ble_eq_true rfl)) hl.1.1 (fun H locs hP => ?_)
          refine lv_goto (tgt := 158) hx hb dX12_node_154 (by decide) ?_
          cases hf
          exact rw_iret X dX12_node_158 hP
      have hf := ifn hf c33_11
      have t33_0 := tsw (k := 0) (v := 0) (by decide) c33_0
      have t33_1 := tsw (k := 1) (v := 1) (by decide) c33_1
      have t33_2 := tsw (k := 2) (v := 2) (by decide) c33_2
      have t33_3 := tsw (k := 3) (v := 3) (by decide) c33_3
      have t33_4 := tsw (k := 4) (v := 4) (by decide) c33_4
      have t33_5 := tsw (k := 5) (v := 5) (by decide) c33_5
      have t33_6 := tsw (k := 6) (v := 6) (by decide) c33_6
      have t33_7 := tsw (k := 7) (v := 7) (by decide) c33_7
      have t33_8 := tsw (k := 8) (v := 8) (by decide) c33_8
      have t33_9 := tsw (k := 9) (v := 9) (by decide) c33_9
      have t33_10 := tsw (k := 10) (v := 10) (by decide) c33_10
      have t33_11 := tsw (k := 11) (v := 11) (by decide) c33_11
      refine lv_tableOut (tgt := 159) hx hb dX12_node_33 (by omega) (by decide) ?_
      exact wX12_node_159 X l0 l1 l2 hf _ _ _ hP (hl.sub [0, 1, 2] rfl)
    · have hf := ifp hf c25
      refine lv_sipush (v := (-1002)) hx hb dX12_node_28 (by decide) ?_
      cases hf
      exact rw_iret X dX12_node_31 hP
  · have hf := ifp hf c11
    refine lv_sipush (v := (-1001)) hx hb dX12_node_14 (by decide) ?_
    cases hf
    exact rw_iret X dX12_node_17 hP
theorem dX12_child_0 : decode cX12_child 0 = .ok (.iload_n 1, 1) := by decide +kernel
theorem dX12_child_1 : decode cX12_child 1 = .ok (.iconst 0, 1) := by decide +kernel
theorem dX12_child_2 : decode cX12_child 2 = .ok (.aload_n 0, 1) := by decide +kernel
theorem dX12_child_3 : decode cX12_child 3 = .ok (.getfield 155, 3) := by decide +kernel
theorem dX12_child_6 : decode cX12_child 6 = .ok (.iconst 1, 1) := by decide +kernel
theorem dX12_child_7 : decode cX12_child 7 = .ok (.isub, 1) := by decide +kernel
theorem dX12_child_8 : decode cX12_child 8 = .ok (.invokestatic 94, 3) := by decide +kernel
theorem dX12_child_11 : decode cX12_child 11 = .ok (.ifCond .eq 7, 3) := by decide +kernel
theorem dX12_child_14 : decode cX12_child 14 = .ok (.iload_n 2, 1) := by decide +kernel
theorem dX12_child_15 : decode cX12_child 15 = .ok (.ifCond .ge 7, 3) := by decide +kernel
theorem dX12_child_18 : decode cX12_child 18 = .ok (.sipush (-1001), 3) := by decide +kernel
theorem dX12_child_21 : decode cX12_child 21 = .ok (.ireturn, 1) := by decide +kernel
theorem dX12_child_22 : decode cX12_child 22 = .ok (.aload_n 0, 1) := by decide +kernel
theorem dX12_child_23 : decode cX12_child 23 = .ok (.iload_n 1, 1) := by decide +kernel
theorem dX12_child_24 : decode cX12_child 24 = .ok (.iload_n 2, 1) := by decide +kernel
theorem dX12_child_25 : decode cX12_child 25 = .ok (.invokevirtual 185, 3) := by decide +kernel
theorem dX12_child_28 : decode cX12_child 28 = .ok (.istore_n 3, 1) := by decide +kernel
theorem dX12_child_29 : decode cX12_child 29 = .ok (.iload_n 3, 1) := by decide +kernel
theorem dX12_child_30 : decode cX12_child 30 = .ok (.ifCond .ge 9, 3) := by decide +kernel
theorem dX12_child_33 : decode cX12_child 33 = .ok (.sipush (-1001), 3) := by decide +kernel
theorem dX12_child_36 : decode cX12_child 36 = .ok (.goto 4, 3) := by decide +kernel
theorem dX12_child_39 : decode cX12_child 39 = .ok (.iload_n 3, 1) := by decide +kernel
theorem dX12_child_40 : decode cX12_child 40 = .ok (.ireturn, 1) := by decide +kernel
theorem pyX12_child : PY yX12_child 2 := ⟨by decide +kernel, by decide +kernel, by decide +kernel⟩
def fX12_child (Y : LY) (S : HS) (l0 : Option Nat) (l1 : Int32) (l2 : Int32) : Option (Int32) :=
  (gI Y 12 1208 l0 S).bind fun v3 =>
  (fX12_isIn Y S l1 0 (v3 - 1)).bind fun v8 =>
  if v8 = 0 then
    some (-1001)
  else
    if 0 ≤ l2 then
      (rcv Y 12 l0).bind fun _ =>
      (fX12_childOf Y S l0 l1 l2).bind fun v25 =>
      if 0 ≤ v25 then
        some v25
      else
        some (-1001)
    else
      some (-1001)
set_option maxRecDepth 100000 in
set_option maxHeartbeats 4000000 in
theorem mX12_child (l : Launch) {G : GG} {Y : LY} {S : HS} {l0 : Option Nat} {l1 : Int32} {l2 : Int32} {res : Int32} (hf : fX12_child Y S l0 l1 l2 = some res) : MM l yX12_child cX12_child 4 (some .int) 1 24 G Y S [va_rf l0, .int l1, .int l2] S (some (.int res)) := by
  refine mm_of2 (plainFor_of_name (by decide +kernel)) (Nat.le_of_ble_eq_true rfl) (c1c (cr _) (c1c (ci _) (c1c (ci _) c1n))) ?_
  intro p e R s m args below meth c X H locs ls hP hl
  have X : Cx p R s m args meth c RX12 cX12_child 4 1 24 (fun q => q ∈ Y.1) G (some .int) := X
  have hx := X.1.1
  have hb := X.1.2.1
  have hl : LV ls 4 [(0, va_rf l0), (1, .int l1), (2, .int l2)] := hl
  unfold fX12_child at hf
  refine lv_iload_n hx hb dX12_child_0 rfl (hl.at 1 rfl) ?_
  refine lv_iconst (v := 0) hx hb dX12_child_1 (by decide) ?_
  refine rw_aload_n X dX12_child_2 rfl (hl.at 0 rfl) ?_
  obtain ⟨v3, e3, hf⟩ := ob hf
  refine rw_getI X dX12_child_3 fl12_155 e3 rfl hP ?_
  refine lv_iconst (v := 1) hx hb dX12_child_6 (by decide) ?_
  refine lv_isub hx hb dX12_child_7 ?_
  obtain ⟨v8, e8, hf⟩ := ob hf
  refine rw_callSi (As := [.int l1, .int 0, .int (v3 - 1)]) X dX12_child_8 clX12_94 pyX12_isIn (mX12_isIn l e8) (by decide) hP rfl (catL c1n (Nat.le_of_ble_eq_true rfl)) hl.1.1 (fun H locs hP => ?_)
  refine lv_if_eq hx hb (tgt := 18) dX12_child_11 (by decide) (fun c11 => ?_) (fun c11 => ?_)
  · have hf := ifp hf c11
    refine lv_sipush (v := (-1001)) hx hb dX12_child_18 (by decide) ?_
    cases hf
    exact rw_iret X dX12_child_21 hP
  · have hf := ifn hf c11
    refine lv_iload_n hx hb dX12_child_14 rfl (hl.at 2 rfl) ?_
    refine lv_if_ge hx hb (tgt := 22) dX12_child_15 (by decide) (fun c15 => ?_) (fun c15 => ?_)
    · have hf := ifp hf c15
      refine rw_aload_n X dX12_child_22 rfl (hl.at 0 rfl) ?_
      refine lv_iload_n hx hb dX12_child_23 rfl (hl.at 1 rfl) ?_
      refine lv_iload_n hx hb dX12_child_24 rfl (hl.at 2 rfl) ?_
      obtain ⟨u25, r25, hf⟩ := ob hf
      obtain ⟨v25, e25, hf⟩ := ob hf
      refine rw_callVi (As := [.int l1, .int l2]) X dX12_child_25 clX12_185 pyX12_childOf (mX12_childOf l e25) (by decide) r25 rfl hP rfl (catL c1n (Nat.le_of_ble_eq_true rfl)) hl.1.1 (fun H locs hP => ?_)
      refine rv_istore_n X dX12_child_28 rfl hl (by decide) rfl (fun ls hl => ?_)
      have hl : LV ls 4 [(3, .int v25), (0, va_rf l0), (1, .int l1), (2, .int l2)] := hl
      refine lv_iload_n hx hb dX12_child_29 rfl (hl.at 0 rfl) ?_
      refine lv_if_ge hx hb (tgt := 39) dX12_child_30 (by decide) (fun c30 => ?_) (fun c30 => ?_)
      · have hf := ifp hf c30
        refine lv_iload_n hx hb dX12_child_39 rfl (hl.at 0 rfl) ?_
        cases hf
        exact rw_iret X dX12_child_40 hP
      · have hf := ifn hf c30
        refine lv_sipush (v := (-1001)) hx hb dX12_child_33 (by decide) ?_
        refine lv_goto (tgt := 40) hx hb dX12_child_36 (by decide) ?_
        cases hf
        exact rw_iret X dX12_child_40 hP
    · have hf := ifn hf c15
      refine lv_sipush (v := (-1001)) hx hb dX12_child_18 (by decide) ?_
      cases hf
      exact rw_iret X dX12_child_21 hP
theorem dX12_underWay_0 : decode cX12_underWay 0 = .ok (.aload_n 0, 1) := by decide +kernel
theorem dX12_underWay_1 : decode cX12_underWay 1 = .ok (.getfield 9, 3) := by decide +kernel
theorem dX12_underWay_4 : decode cX12_underWay 4 = .ok (.sipush 284, 3) := by decide +kernel
theorem dX12_underWay_7 : decode cX12_underWay 7 = .ok (.iaload, 1) := by decide +kernel
theorem dX12_underWay_8 : decode cX12_underWay 8 = .ok (.ifCond .lt 34, 3) := by decide +kernel
theorem dX12_underWay_11 : decode cX12_underWay 11 = .ok (.iload_n 1, 1) := by decide +kernel
theorem dX12_underWay_12 : decode cX12_underWay 12 = .ok (.iconst 0, 1) := by decide +kernel
theorem dX12_underWay_13 : decode cX12_underWay 13 = .ok (.aload_n 0, 1) := by decide +kernel
theorem dX12_underWay_14 : decode cX12_underWay 14 = .ok (.getfield 9, 3) := by decide +kernel
theorem dX12_underWay_17 : decode cX12_underWay 17 = .ok (.sipush 272, 3) := by decide +kernel
theorem dX12_underWay_20 : decode cX12_underWay 20 = .ok (.iaload, 1) := by decide +kernel
theorem dX12_underWay_21 : decode cX12_underWay 21 = .ok (.iconst 1, 1) := by decide +kernel
theorem dX12_underWay_22 : decode cX12_underWay 22 = .ok (.isub, 1) := by decide +kernel
theorem dX12_underWay_23 : decode cX12_underWay 23 = .ok (.invokestatic 94, 3) := by decide +kernel
theorem dX12_underWay_26 : decode cX12_underWay 26 = .ok (.ifCond .eq 16, 3) := by decide +kernel
theorem dX12_underWay_29 : decode cX12_underWay 29 = .ok (.aload_n 0, 1) := by decide +kernel
theorem dX12_underWay_30 : decode cX12_underWay 30 = .ok (.getfield 9, 3) := by decide +kernel
theorem dX12_underWay_33 : decode cX12_underWay 33 = .ok (.sipush 273, 3) := by decide +kernel
theorem dX12_underWay_36 : decode cX12_underWay 36 = .ok (.iload_n 1, 1) := by decide +kernel
theorem dX12_underWay_37 : decode cX12_underWay 37 = .ok (.iadd, 1) := by decide +kernel
theorem dX12_underWay_38 : decode cX12_underWay 38 = .ok (.iaload, 1) := by decide +kernel
theorem dX12_underWay_39 : decode cX12_underWay 39 = .ok (.goto 6, 3) := by decide +kernel
theorem dX12_underWay_42 : decode cX12_underWay 42 = .ok (.sipush (-1001), 3) := by decide +kernel
theorem dX12_underWay_45 : decode cX12_underWay 45 = .ok (.ireturn, 1) := by decide +kernel
theorem pyX12_underWay : PY yX12_underWay 1 := ⟨by decide +kernel, by decide +kernel, by decide +kernel⟩
def fX12_underWay (Y : LY) (S : HS) (l0 : Option Nat) (l1 : Int32) : Option (Int32) :=
  (gR Y 12 1200 l0 S).bind fun v1 =>
  (gA Y 14 v1 284 S).bind fun v7 =>
  if v7 < 0 then
    some (-1001)
  else
    (gR Y 12 1200 l0 S).bind fun v14 =>
    (gA Y 14 v14 272 S).bind fun v20 =>
    (fX12_isIn Y S l1 0 (v20 - 1)).bind fun v23 =>
    if v23 = 0 then
      some (-1001)
    else
      (gR Y 12 1200 l0 S).bind fun v30 =>
      (gA Y 14 v30 (273 + l1) S).bind fun v38 =>
      some v38
set_option maxRecDepth 100000 in
set_option maxHeartbeats 4000000 in
theorem mX12_underWay (l : Launch) {G : GG} {Y : LY} {S : HS} {l0 : Option Nat} {l1 : Int32} {res : Int32} (hf : fX12_underWay Y S l0 l1 = some res) : MM l yX12_underWay cX12_underWay 2 (some .int) 1 22 G Y S [va_rf l0, .int l1] S (some (.int res)) := by
  refine mm_of2 (plainFor_of_name (by decide +kernel)) (Nat.le_of_ble_eq_true rfl) (c1c (cr _) (c1c (ci _) c1n)) ?_
  intro p e R s m args below meth c X H locs ls hP hl
  have X : Cx p R s m args meth c RX12 cX12_underWay 2 1 22 (fun q => q ∈ Y.1) G (some .int) := X
  have hx := X.1.1
  have hb := X.1.2.1
  have hl : LV ls 2 [(0, va_rf l0), (1, .int l1)] := hl
  unfold fX12_underWay at hf
  refine rw_aload_n X dX12_underWay_0 rfl (hl.at 0 rfl) ?_
  obtain ⟨v1, e1, hf⟩ := ob hf
  refine rw_getR X dX12_underWay_1 fl12_9 e1 rfl hP ?_
  refine lv_sipush (v := 284) hx hb dX12_underWay_4 (by decide) ?_
  obtain ⟨v7, e7, hf⟩ := ob hf
  refine rw_iald X dX12_underWay_7 e7 hP ?_
  refine lv_if_lt hx hb (tgt := 42) dX12_underWay_8 (by decide) (fun c8 => ?_) (fun c8 => ?_)
  · have hf := ifp hf c8
    refine lv_sipush (v := (-1001)) hx hb dX12_underWay_42 (by decide) ?_
    cases hf
    exact rw_iret X dX12_underWay_45 hP
  · have hf := ifn hf c8
    refine lv_iload_n hx hb dX12_underWay_11 rfl (hl.at 1 rfl) ?_
    refine lv_iconst (v := 0) hx hb dX12_underWay_12 (by decide) ?_
    refine rw_aload_n X dX12_underWay_13 rfl (hl.at 0 rfl) ?_
    obtain ⟨v14, e14, hf⟩ := ob hf
    refine rw_getR X dX12_underWay_14 fl12_9 e14 rfl hP ?_
    refine lv_sipush (v := 272) hx hb dX12_underWay_17 (by decide) ?_
    obtain ⟨v20, e20, hf⟩ := ob hf
    refine rw_iald X dX12_underWay_20 e20 hP ?_
    refine lv_iconst (v := 1) hx hb dX12_underWay_21 (by decide) ?_
    refine lv_isub hx hb dX12_underWay_22 ?_
    obtain ⟨v23, e23, hf⟩ := ob hf
    refine rw_callSi (As := [.int l1, .int 0, .int (v20 - 1)]) X dX12_underWay_23 clX12_94 pyX12_isIn (mX12_isIn l e23) (by decide) hP rfl (catL c1n (Nat.le_of_ble_eq_true rfl)) hl.1.1 (fun H locs hP => ?_)
    refine lv_if_eq hx hb (tgt := 42) dX12_underWay_26 (by decide) (fun c26 => ?_) (fun c26 => ?_)
    · have hf := ifp hf c26
      refine lv_sipush (v := (-1001)) hx hb dX12_underWay_42 (by decide) ?_
      cases hf
      exact rw_iret X dX12_underWay_45 hP
    · have hf := ifn hf c26
      refine rw_aload_n X dX12_underWay_29 rfl (hl.at 0 rfl) ?_
      obtain ⟨v30, e30, hf⟩ := ob hf
      refine rw_getR X dX12_underWay_30 fl12_9 e30 rfl hP ?_
      refine lv_sipush (v := 273) hx hb dX12_underWay_33 (by decide) ?_
      refine lv_iload_n hx hb dX12_underWay_36 rfl (hl.at 1 rfl) ?_
      refine lv_iadd hx hb dX12_underWay_37 ?_
      obtain ⟨v38, e38, hf⟩ := ob hf
      refine rw_iald X dX12_underWay_38 e38 hP ?_
      refine lv_goto (tgt := 45) hx hb dX12_underWay_39 (by decide) ?_
      cases hf
      exact rw_iret X dX12_underWay_45 hP
theorem dX12_pending_0 : decode cX12_pending 0 = .ok (.aload_n 0, 1) := by decide +kernel
theorem dX12_pending_1 : decode cX12_pending 1 = .ok (.getfield 9, 3) := by decide +kernel
theorem dX12_pending_4 : decode cX12_pending 4 = .ok (.sipush 284, 3) := by decide +kernel
theorem dX12_pending_7 : decode cX12_pending 7 = .ok (.iaload, 1) := by decide +kernel
theorem dX12_pending_8 : decode cX12_pending 8 = .ok (.ifCond .lt 14, 3) := by decide +kernel
theorem dX12_pending_11 : decode cX12_pending 11 = .ok (.aload_n 0, 1) := by decide +kernel
theorem dX12_pending_12 : decode cX12_pending 12 = .ok (.getfield 9, 3) := by decide +kernel
theorem dX12_pending_15 : decode cX12_pending 15 = .ok (.sipush 284, 3) := by decide +kernel
theorem dX12_pending_18 : decode cX12_pending 18 = .ok (.iaload, 1) := by decide +kernel
theorem dX12_pending_19 : decode cX12_pending 19 = .ok (.goto 6, 3) := by decide +kernel
theorem dX12_pending_22 : decode cX12_pending 22 = .ok (.sipush (-1001), 3) := by decide +kernel
theorem dX12_pending_25 : decode cX12_pending 25 = .ok (.ireturn, 1) := by decide +kernel
theorem pyX12_pending : PY yX12_pending 0 := ⟨by decide +kernel, by decide +kernel, by decide +kernel⟩
def fX12_pending (Y : LY) (S : HS) (l0 : Option Nat) : Option (Int32) :=
  (gR Y 12 1200 l0 S).bind fun v1 =>
  (gA Y 14 v1 284 S).bind fun v7 =>
  if v7 < 0 then
    some (-1001)
  else
    (gR Y 12 1200 l0 S).bind fun v12 =>
    (gA Y 14 v12 284 S).bind fun v18 =>
    some v18
set_option maxRecDepth 100000 in
set_option maxHeartbeats 4000000 in
theorem mX12_pending (l : Launch) {G : GG} {Y : LY} {S : HS} {l0 : Option Nat} {res : Int32} (hf : fX12_pending Y S l0 = some res) : MM l yX12_pending cX12_pending 1 (some .int) 0 0 G Y S [va_rf l0] S (some (.int res)) := by
  refine mm_of2 (plainFor_of_name (by decide +kernel)) (Nat.le_of_ble_eq_true rfl) (c1c (cr _) c1n) ?_
  intro p e R s m args below meth c X H locs ls hP hl
  have X : Cx p R s m args meth c RX12 cX12_pending 1 0 0 (fun q => q ∈ Y.1) G (some .int) := X
  have hx := X.1.1
  have hb := X.1.2.1
  have hl : LV ls 1 [(0, va_rf l0)] := hl
  unfold fX12_pending at hf
  refine rw_aload_n X dX12_pending_0 rfl (hl.at 0 rfl) ?_
  obtain ⟨v1, e1, hf⟩ := ob hf
  refine rw_getR X dX12_pending_1 fl12_9 e1 rfl hP ?_
  refine lv_sipush (v := 284) hx hb dX12_pending_4 (by decide) ?_
  obtain ⟨v7, e7, hf⟩ := ob hf
  refine rw_iald X dX12_pending_7 e7 hP ?_
  refine lv_if_lt hx hb (tgt := 22) dX12_pending_8 (by decide) (fun c8 => ?_) (fun c8 => ?_)
  · have hf := ifp hf c8
    refine lv_sipush (v := (-1001)) hx hb dX12_pending_22 (by decide) ?_
    cases hf
    exact rw_iret X dX12_pending_25 hP
  · have hf := ifn hf c8
    refine rw_aload_n X dX12_pending_11 rfl (hl.at 0 rfl) ?_
    obtain ⟨v12, e12, hf⟩ := ob hf
    refine rw_getR X dX12_pending_12 fl12_9 e12 rfl hP ?_
    refine lv_sipush (v := 284) hx hb dX12_pending_15 (by decide) ?_
    obtain ⟨v18, e18, hf⟩ := ob hf
    refine rw_iald X dX12_pending_18 e18 hP ?_
    refine lv_goto (tgt := 25) hx hb dX12_pending_19 (by decide) ?_
    cases hf
    exact rw_iret X dX12_pending_25 hP
theorem dX12_trace_0 : decode cX12_trace 0 = .ok (.iload_n 1, 1) := by decide +kernel
theorem dX12_trace_1 : decode cX12_trace 1 = .ok (.iconst 0, 1) := by decide +kernel
theorem dX12_trace_2 : decode cX12_trace 2 = .ok (.aload_n 0, 1) := by decide +kernel
theorem dX12_trace_3 : decode cX12_trace 3 = .ok (.getfield 9, 3) := by decide +kernel
theorem dX12_trace_6 : decode cX12_trace 6 = .ok (.sipush 294, 3) := by decide +kernel
theorem dX12_trace_9 : decode cX12_trace 9 = .ok (.iaload, 1) := by decide +kernel
theorem dX12_trace_10 : decode cX12_trace 10 = .ok (.iconst 1, 1) := by decide +kernel
theorem dX12_trace_11 : decode cX12_trace 11 = .ok (.isub, 1) := by decide +kernel
theorem dX12_trace_12 : decode cX12_trace 12 = .ok (.invokestatic 94, 3) := by decide +kernel
theorem dX12_trace_15 : decode cX12_trace 15 = .ok (.ifCond .ne 9, 3) := by decide +kernel
theorem dX12_trace_18 : decode cX12_trace 18 = .ok (.sipush (-1001), 3) := by decide +kernel
theorem dX12_trace_21 : decode cX12_trace 21 = .ok (.goto 32, 3) := by decide +kernel
theorem dX12_trace_24 : decode cX12_trace 24 = .ok (.iload_n 2, 1) := by decide +kernel
theorem dX12_trace_25 : decode cX12_trace 25 = .ok (.iconst 0, 1) := by decide +kernel
theorem dX12_trace_26 : decode cX12_trace 26 = .ok (.iconst 1, 1) := by decide +kernel
theorem dX12_trace_27 : decode cX12_trace 27 = .ok (.invokestatic 94, 3) := by decide +kernel
theorem dX12_trace_30 : decode cX12_trace 30 = .ok (.ifCond .eq 20, 3) := by decide +kernel
theorem dX12_trace_33 : decode cX12_trace 33 = .ok (.aload_n 0, 1) := by decide +kernel
theorem dX12_trace_34 : decode cX12_trace 34 = .ok (.getfield 9, 3) := by decide +kernel
theorem dX12_trace_37 : decode cX12_trace 37 = .ok (.sipush 295, 3) := by decide +kernel
theorem dX12_trace_40 : decode cX12_trace 40 = .ok (.iconst 2, 1) := by decide +kernel
theorem dX12_trace_41 : decode cX12_trace 41 = .ok (.iload_n 1, 1) := by decide +kernel
theorem dX12_trace_42 : decode cX12_trace 42 = .ok (.imul, 1) := by decide +kernel
theorem dX12_trace_43 : decode cX12_trace 43 = .ok (.iadd, 1) := by decide +kernel
theorem dX12_trace_44 : decode cX12_trace 44 = .ok (.iload_n 2, 1) := by decide +kernel
theorem dX12_trace_45 : decode cX12_trace 45 = .ok (.iadd, 1) := by decide +kernel
theorem dX12_trace_46 : decode cX12_trace 46 = .ok (.iaload, 1) := by decide +kernel
theorem dX12_trace_47 : decode cX12_trace 47 = .ok (.goto 6, 3) := by decide +kernel
theorem dX12_trace_50 : decode cX12_trace 50 = .ok (.sipush (-1002), 3) := by decide +kernel
theorem dX12_trace_53 : decode cX12_trace 53 = .ok (.ireturn, 1) := by decide +kernel
theorem pyX12_trace : PY yX12_trace 2 := ⟨by decide +kernel, by decide +kernel, by decide +kernel⟩
def fX12_trace (Y : LY) (S : HS) (l0 : Option Nat) (l1 : Int32) (l2 : Int32) : Option (Int32) :=
  (gR Y 12 1200 l0 S).bind fun v3 =>
  (gA Y 14 v3 294 S).bind fun v9 =>
  (fX12_isIn Y S l1 0 (v9 - 1)).bind fun v12 =>
  if v12 = 0 then
    some (-1001)
  else
    (fX12_isIn Y S l2 0 1).bind fun v27 =>
    if v27 = 0 then
      some (-1002)
    else
      (gR Y 12 1200 l0 S).bind fun v34 =>
      (gA Y 14 v34 ((295 + (2 * l1)) + l2) S).bind fun v46 =>
      some v46
set_option maxRecDepth 100000 in
set_option maxHeartbeats 4000000 in
theorem mX12_trace (l : Launch) {G : GG} {Y : LY} {S : HS} {l0 : Option Nat} {l1 : Int32} {l2 : Int32} {res : Int32} (hf : fX12_trace Y S l0 l1 l2 = some res) : MM l yX12_trace cX12_trace 3 (some .int) 1 22 G Y S [va_rf l0, .int l1, .int l2] S (some (.int res)) := by
  refine mm_of2 (plainFor_of_name (by decide +kernel)) (Nat.le_of_ble_eq_true rfl) (c1c (cr _) (c1c (ci _) (c1c (ci _) c1n))) ?_
  intro p e R s m args below meth c X H locs ls hP hl
  have X : Cx p R s m args meth c RX12 cX12_trace 3 1 22 (fun q => q ∈ Y.1) G (some .int) := X
  have hx := X.1.1
  have hb := X.1.2.1
  have hl : LV ls 3 [(0, va_rf l0), (1, .int l1), (2, .int l2)] := hl
  unfold fX12_trace at hf
  refine lv_iload_n hx hb dX12_trace_0 rfl (hl.at 1 rfl) ?_
  refine lv_iconst (v := 0) hx hb dX12_trace_1 (by decide) ?_
  refine rw_aload_n X dX12_trace_2 rfl (hl.at 0 rfl) ?_
  obtain ⟨v3, e3, hf⟩ := ob hf
  refine rw_getR X dX12_trace_3 fl12_9 e3 rfl hP ?_
  refine lv_sipush (v := 294) hx hb dX12_trace_6 (by decide) ?_
  obtain ⟨v9, e9, hf⟩ := ob hf
  refine rw_iald X dX12_trace_9 e9 hP ?_
  refine lv_iconst (v := 1) hx hb dX12_trace_10 (by decide) ?_
  refine lv_isub hx hb dX12_trace_11 ?_
  obtain ⟨v12, e12, hf⟩ := ob hf
  refine rw_callSi (As := [.int l1, .int 0, .int (v9 - 1)]) X dX12_trace_12 clX12_94 pyX12_isIn (mX12_isIn l e12) (by decide) hP rfl (catL c1n (Nat.le_of_ble_eq_true rfl)) hl.1.1 (fun H locs hP => ?_)
  refine lv_if_ne hx hb (tgt := 24) dX12_trace_15 (by decide) (fun c15 => ?_) (fun c15 => ?_)
  · have hf := ifn hf c15
    refine lv_iload_n hx hb dX12_trace_24 rfl (hl.at 2 rfl) ?_
    refine lv_iconst (v := 0) hx hb dX12_trace_25 (by decide) ?_
    refine lv_iconst (v := 1) hx hb dX12_trace_26 (by decide) ?_
    obtain ⟨v27, e27, hf⟩ := ob hf
    refine rw_callSi (As := [.int l2, .int 0, .int 1]) X dX12_trace_27 clX12_94 pyX12_isIn (mX12_isIn l e27) (by decide) hP rfl (catL c1n (Nat.le_of_ble_eq_true rfl)) hl.1.1 (fun H locs hP => ?_)
    refine lv_if_eq hx hb (tgt := 50) dX12_trace_30 (by decide) (fun c30 => ?_) (fun c30 => ?_)
    · have hf := ifp hf c30
      refine lv_sipush (v := (-1002)) hx hb dX12_trace_50 (by decide) ?_
      cases hf
      exact rw_iret X dX12_trace_53 hP
    · have hf := ifn hf c30
      refine rw_aload_n X dX12_trace_33 rfl (hl.at 0 rfl) ?_
      obtain ⟨v34, e34, hf⟩ := ob hf
      refine rw_getR X dX12_trace_34 fl12_9 e34 rfl hP ?_
      refine lv_sipush (v := 295) hx hb dX12_trace_37 (by decide) ?_
      refine lv_iconst (v := 2) hx hb dX12_trace_40 (by decide) ?_
      refine lv_iload_n hx hb dX12_trace_41 rfl (hl.at 1 rfl) ?_
      refine lv_imul hx hb dX12_trace_42 ?_
      refine lv_iadd hx hb dX12_trace_43 ?_
      refine lv_iload_n hx hb dX12_trace_44 rfl (hl.at 2 rfl) ?_
      refine lv_iadd hx hb dX12_trace_45 ?_
      obtain ⟨v46, e46, hf⟩ := ob hf
      refine rw_iald X dX12_trace_46 e46 hP ?_
      refine lv_goto (tgt := 53) hx hb dX12_trace_47 (by decide) ?_
      cases hf
      exact rw_iret X dX12_trace_53 hP
  · have hf := ifp hf c15
    refine lv_sipush (v := (-1001)) hx hb dX12_trace_18 (by decide) ?_
    refine lv_goto (tgt := 53) hx hb dX12_trace_21 (by decide) ?_
    cases hf
    exact rw_iret X dX12_trace_53 hP
theorem dX12_count_0 : decode cX12_count 0 = .ok (.iload_n 1, 1) := by decide +kernel
theorem dX12_count_1 : decode cX12_count 1 = .ok (.iconst 0, 1) := by decide +kernel
theorem dX12_count_2 : decode cX12_count 2 = .ok (.bipush 10, 2) := by decide +kernel
theorem dX12_count_4 : decode cX12_count 4 = .ok (.invokestatic 94, 3) := by decide +kernel
theorem dX12_count_7 : decode cX12_count 7 = .ok (.ifCond .ne 7, 3) := by decide +kernel
theorem dX12_count_10 : decode cX12_count 10 = .ok (.sipush (-1002), 3) := by decide +kernel
theorem dX12_count_13 : decode cX12_count 13 = .ok (.ireturn, 1) := by decide +kernel
theorem dX12_count_14 : decode cX12_count 14 = .ok (.iconst 0, 1) := by decide +kernel
theorem dX12_count_15 : decode cX12_count 15 = .ok (.istore_n 2, 1) := by decide +kernel
theorem dX12_count_16 : decode cX12_count 16 = .ok (.iconst 0, 1) := by decide +kernel
theorem dX12_count_17 : decode cX12_count 17 = .ok (.istore_n 3, 1) := by decide +kernel
theorem dX12_count_18 : decode cX12_count 18 = .ok (.iload_n 3, 1) := by decide +kernel
theorem dX12_count_19 : decode cX12_count 19 = .ok (.aload_n 0, 1) := by decide +kernel
theorem dX12_count_20 : decode cX12_count 20 = .ok (.getfield 155, 3) := by decide +kernel
theorem dX12_count_23 : decode cX12_count 23 = .ok (.if_icmp .ge 18, 3) := by decide +kernel
theorem dX12_count_26 : decode cX12_count 26 = .ok (.iload_n 2, 1) := by decide +kernel
theorem dX12_count_27 : decode cX12_count 27 = .ok (.aload_n 0, 1) := by decide +kernel
theorem dX12_count_28 : decode cX12_count 28 = .ok (.iload_n 3, 1) := by decide +kernel
theorem dX12_count_29 : decode cX12_count 29 = .ok (.iconst 0, 1) := by decide +kernel
theorem dX12_count_30 : decode cX12_count 30 = .ok (.invokevirtual 168, 3) := by decide +kernel
theorem dX12_count_33 : decode cX12_count 33 = .ok (.iadd, 1) := by decide +kernel
theorem dX12_count_34 : decode cX12_count 34 = .ok (.istore_n 2, 1) := by decide +kernel
theorem dX12_count_35 : decode cX12_count 35 = .ok (.iinc 3 1, 3) := by decide +kernel
theorem dX12_count_38 : decode cX12_count 38 = .ok (.goto (-20), 3) := by decide +kernel
theorem dX12_count_41 : decode cX12_count 41 = .ok (.iload_n 1, 1) := by decide +kernel
theorem dX12_count_42 : decode cX12_count 42 = .ok (.ifCond .ne 10, 3) := by decide +kernel
theorem dX12_count_45 : decode cX12_count 45 = .ok (.aload_n 0, 1) := by decide +kernel
theorem dX12_count_46 : decode cX12_count 46 = .ok (.getfield 155, 3) := by decide +kernel
theorem dX12_count_49 : decode cX12_count 49 = .ok (.goto 53, 3) := by decide +kernel
theorem dX12_count_52 : decode cX12_count 52 = .ok (.iload_n 1, 1) := by decide +kernel
theorem dX12_count_53 : decode cX12_count 53 = .ok (.bipush 7, 2) := by decide +kernel
theorem dX12_count_55 : decode cX12_count 55 = .ok (.if_icmp .ne 7, 3) := by decide +kernel
theorem dX12_count_58 : decode cX12_count 58 = .ok (.iload_n 2, 1) := by decide +kernel
theorem dX12_count_59 : decode cX12_count 59 = .ok (.goto 43, 3) := by decide +kernel
theorem dX12_count_62 : decode cX12_count 62 = .ok (.iload_n 1, 1) := by decide +kernel
theorem dX12_count_63 : decode cX12_count 63 = .ok (.bipush 9, 2) := by decide +kernel
theorem dX12_count_65 : decode cX12_count 65 = .ok (.if_icmp .ne 14, 3) := by decide +kernel
theorem dX12_count_68 : decode cX12_count 68 = .ok (.aload_n 0, 1) := by decide +kernel
theorem dX12_count_69 : decode cX12_count 69 = .ok (.getfield 9, 3) := by decide +kernel
theorem dX12_count_72 : decode cX12_count 72 = .ok (.sipush 294, 3) := by decide +kernel
theorem dX12_count_75 : decode cX12_count 75 = .ok (.iaload, 1) := by decide +kernel
theorem dX12_count_76 : decode cX12_count 76 = .ok (.goto 26, 3) := by decide +kernel
theorem dX12_count_79 : decode cX12_count 79 = .ok (.iload_n 1, 1) := by decide +kernel
theorem dX12_count_80 : decode cX12_count 80 = .ok (.bipush 10, 2) := by decide +kernel
theorem dX12_count_82 : decode cX12_count 82 = .ok (.if_icmp .ne 10, 3) := by decide +kernel
theorem dX12_count_85 : decode cX12_count 85 = .ok (.aload_n 0, 1) := by decide +kernel
theorem dX12_count_86 : decode cX12_count 86 = .ok (.getfield 98, 3) := by decide +kernel
theorem dX12_count_89 : decode cX12_count 89 = .ok (.goto 13, 3) := by decide +kernel
theorem dX12_count_92 : decode cX12_count 92 = .ok (.aload_n 0, 1) := by decide +kernel
theorem dX12_count_93 : decode cX12_count 93 = .ok (.getfield 9, 3) := by decide +kernel
theorem dX12_count_96 : decode cX12_count 96 = .ok (.sipush 285, 3) := by decide +kernel
theorem dX12_count_99 : decode cX12_count 99 = .ok (.iload_n 1, 1) := by decide +kernel
theorem dX12_count_100 : decode cX12_count 100 = .ok (.iadd, 1) := by decide +kernel
theorem dX12_count_101 : decode cX12_count 101 = .ok (.iaload, 1) := by decide +kernel
theorem dX12_count_102 : decode cX12_count 102 = .ok (.ireturn, 1) := by decide +kernel
theorem pyX12_count : PY yX12_count 1 := ⟨by decide +kernel, by decide +kernel, by decide +kernel⟩
def fX12_count_18 (Y : LY) (S : HS) : Nat → Option Nat → Int32 → Int32 → Int32 → Option (Int32)
  | 0, _, _, _, _ => none
  | n + 1, l0, l1, l2, l3 =>
    (gI Y 12 1208 l0 S).bind fun v20 =>
    if v20 ≤ l3 then
      if l1 = 0 then
        (gI Y 12 1208 l0 S).bind fun v46 =>
        some v46
      else
        if l1 = 7 then
          some l2
        else
          if l1 = 9 then
            (gR Y 12 1200 l0 S).bind fun v69 =>
            (gA Y 14 v69 294 S).bind fun v75 =>
            some v75
          else
            if l1 = 10 then
              (gI Y 12 1206 l0 S).bind fun v86 =>
              some v86
            else
              (gR Y 12 1200 l0 S).bind fun v93 =>
              (gA Y 14 v93 (285 + l1) S).bind fun v101 =>
              some v101
    else
      (rcv Y 12 l0).bind fun _ =>
      (fX12_of Y S l0 l3 0).bind fun v30 =>
      fX12_count_18 Y S n l0 l1 (l2 + v30) (l3 + 1)
set_option maxRecDepth 100000 in
set_option maxHeartbeats 4000000 in
theorem wX12_count_18 {p : Program} {l : Launch} {e : Env} {R : Room} {s : State} {m : MethodId} {args : Array Value} {below : List Frame} {meth : Method} {c : Code} {G : GG} {Y : LY} {S : HS} {res : Int32} (X : Cx p R s m args meth c RX12 cX12_count 4 1 22 (fun q => q ∈ Y.1) G (some .int)) : ∀ (n : Nat) (l0 : Option Nat) (l1 : Int32) (l2 : Int32) (l3 : Int32), fX12_count_18 Y S n l0 l1 l2 l3 = some res → ∀ (H : Heap) (locs : List Loc) (ls : Array Slot), HP (fun q => q ∈ Y.1) G Y s S H locs → LV ls 4 [(0, va_rf l0), (1, .int l1), (2, .int l2), (3, .int l3)] → W p l e R s m args below meth c H locs 0 0 (MQ below (QI G Y S (some (.int res))) args s 0 0 (fun q => q ∈ Y.1)) (F0 m 18 ls []) := by
  have hx := X.1.1
  have hb := X.1.2.1
  intro n
  induction n with
  | zero =>
    intro l0 l1 l2 l3 hf
    cases hf
  | succ n ih =>
    intro l0 l1 l2 l3 hf H locs ls hP hl
    rw [fX12_count_18] at hf
    refine lv_iload_n hx hb dX12_count_18 rfl (hl.at 3 rfl) ?_
    refine rw_aload_n X dX12_count_19 rfl (hl.at 0 rfl) ?_
    obtain ⟨v20, e20, hf⟩ := ob hf
    refine rw_getI X dX12_count_20 fl12_155 e20 rfl hP ?_
    refine lv_icmp_ge hx hb (tgt := 41) dX12_count_23 (by decide) (fun c23 => ?_) (fun c23 => ?_)
    · have hf := ifp hf c23
      refine lv_iload_n hx hb dX12_count_41 rfl (hl.at 1 rfl) ?_
      refine lv_if_ne hx hb (tgt := 52) dX12_count_42 (by decide) (fun c42 => ?_) (fun c42 => ?_)
      · have hf := ifn hf c42
        refine lv_iload_n hx hb dX12_count_52 rfl (hl.at 1 rfl) ?_
        refine lv_bipush (v := 7) hx hb dX12_count_53 (by decide) ?_
        refine lv_icmp_ne hx hb (tgt := 62) dX12_count_55 (by decide) (fun c55 => ?_) (fun c55 => ?_)
        · have hf := ifn hf c55
          refine lv_iload_n hx hb dX12_count_62 rfl (hl.at 1 rfl) ?_
          refine lv_bipush (v := 9) hx hb dX12_count_63 (by decide) ?_
          refine lv_icmp_ne hx hb (tgt := 79) dX12_count_65 (by decide) (fun c65 => ?_) (fun c65 => ?_)
          · have hf := ifn hf c65
            refine lv_iload_n hx hb dX12_count_79 rfl (hl.at 1 rfl) ?_
            refine lv_bipush (v := 10) hx hb dX12_count_80 (by decide) ?_
            refine lv_icmp_ne hx hb (tgt := 92) dX12_count_82 (by decide) (fun c82 => ?_) (fun c82 => ?_)
            · have hf := ifn hf c82
              refine rw_aload_n X dX12_count_92 rfl (hl.at 0 rfl) ?_
              obtain ⟨v93, e93, hf⟩ := ob hf
              refine rw_getR X dX12_count_93 fl12_9 e93 rfl hP ?_
              refine lv_sipush (v := 285) hx hb dX12_count_96 (by decide) ?_
              refine lv_iload_n hx hb dX12_count_99 rfl (hl.at 1 rfl) ?_
              refine lv_iadd hx hb dX12_count_100 ?_
              obtain ⟨v101, e101, hf⟩ := ob hf
              refine rw_iald X dX12_count_101 e101 hP ?_
              cases hf
              exact rw_iret X dX12_count_102 hP
            · have hf := ifp hf c82
              refine rw_aload_n X dX12_count_85 rfl (hl.at 0 rfl) ?_
              obtain ⟨v86, e86, hf⟩ := ob hf
              refine rw_getI X dX12_count_86 fl12_98 e86 rfl hP ?_
              refine lv_goto (tgt := 102) hx hb dX12_count_89 (by decide) ?_
              cases hf
              exact rw_iret X dX12_count_102 hP
          · have hf := ifp hf c65
            refine rw_aload_n X dX12_count_68 rfl (hl.at 0 rfl) ?_
            obtain ⟨v69, e69, hf⟩ := ob hf
            refine rw_getR X dX12_count_69 fl12_9 e69 rfl hP ?_
            refine lv_sipush (v := 294) hx hb dX12_count_72 (by decide) ?_
            obtain ⟨v75, e75, hf⟩ := ob hf
            refine rw_iald X dX12_count_75 e75 hP ?_
            refine lv_goto (tgt := 102) hx hb dX12_count_76 (by decide) ?_
            cases hf
            exact rw_iret X dX12_count_102 hP
        · have hf := ifp hf c55
          refine lv_iload_n hx hb dX12_count_58 rfl (hl.at 2 rfl) ?_
          refine lv_goto (tgt := 102) hx hb dX12_count_59 (by decide) ?_
          cases hf
          exact rw_iret X dX12_count_102 hP
      · have hf := ifp hf c42
        refine rw_aload_n X dX12_count_45 rfl (hl.at 0 rfl) ?_
        obtain ⟨v46, e46, hf⟩ := ob hf
        refine rw_getI X dX12_count_46 fl12_155 e46 rfl hP ?_
        refine lv_goto (tgt := 102) hx hb dX12_count_49 (by decide) ?_
        cases hf
        exact rw_iret X dX12_count_102 hP
    · have hf := ifn hf c23
      refine lv_iload_n hx hb dX12_count_26 rfl (hl.at 2 rfl) ?_
      refine rw_aload_n X dX12_count_27 rfl (hl.at 0 rfl) ?_
      refine lv_iload_n hx hb dX12_count_28 rfl (hl.at 3 rfl) ?_
      refine lv_iconst (v := 0) hx hb dX12_count_29 (by decide) ?_
      obtain ⟨u30, r30, hf⟩ := ob hf
      obtain ⟨v30, e30, hf⟩ := ob hf
      refine rw_callVi (As := [.int l3, .int 0]) X dX12_count_30 clX12_168 pyX12_of (mX12_of l e30) (by decide) r30 rfl hP rfl (catL (c1c (ci _) c1n) (Nat.le_of_ble_eq_true rfl)) hl.1.1 (fun H locs hP => ?_)
      refine lv_iadd hx hb dX12_count_33 ?_
      refine rv_istore_n X dX12_count_34 rfl hl (by decide) rfl (fun ls hl => ?_)
      have hl : LV ls 4 [(2, .int (l2 + v30)), (0, va_rf l0), (1, .int l1), (3, .int l3)] := hl
      refine rv_iinc (k := 3) (d := 1) X dX12_count_35 hl rfl (by decide) (by decide) rfl (fun ls hl => ?_)
      have hl : LV ls 4 [(3, .int (l3 + 1)), (2, .int (l2 + v30)), (0, va_rf l0), (1, .int l1)] := hl
      refine lv_goto (tgt := 18) hx hb dX12_count_38 (by decide) ?_
      exact ih l0 l1 (l2 + v30) (l3 + 1) hf _ _ _ hP (hl.sub [2, 3, 1, 0] rfl)
def fX12_count (Y : LY) (S : HS) (l0 : Option Nat) (l1 : Int32) : Option (Int32) :=
  (fX12_isIn Y S l1 0 10).bind fun v4 =>
  if v4 = 0 then
    some (-1002)
  else
    fX12_count_18 Y S FU l0 l1 0 0
set_option maxRecDepth 100000 in
set_option maxHeartbeats 4000000 in
theorem mX12_count (l : Launch) {G : GG} {Y : LY} {S : HS} {l0 : Option Nat} {l1 : Int32} {res : Int32} (hf : fX12_count Y S l0 l1 = some res) : MM l yX12_count cX12_count 4 (some .int) 1 22 G Y S [va_rf l0, .int l1] S (some (.int res)) := by
  refine mm_of2 (plainFor_of_name (by decide +kernel)) (Nat.le_of_ble_eq_true rfl) (c1c (cr _) (c1c (ci _) c1n)) ?_
  intro p e R s m args below meth c X H locs ls hP hl
  have X : Cx p R s m args meth c RX12 cX12_count 4 1 22 (fun q => q ∈ Y.1) G (some .int) := X
  have hx := X.1.1
  have hb := X.1.2.1
  have hl : LV ls 4 [(0, va_rf l0), (1, .int l1)] := hl
  unfold fX12_count at hf
  refine lv_iload_n hx hb dX12_count_0 rfl (hl.at 1 rfl) ?_
  refine lv_iconst (v := 0) hx hb dX12_count_1 (by decide) ?_
  refine lv_bipush (v := 10) hx hb dX12_count_2 (by decide) ?_
  obtain ⟨v4, e4, hf⟩ := ob hf
  refine rw_callSi (As := [.int l1, .int 0, .int 10]) X dX12_count_4 clX12_94 pyX12_isIn (mX12_isIn l e4) (by decide) hP rfl (catL c1n (Nat.le_of_ble_eq_true rfl)) hl.1.1 (fun H locs hP => ?_)
  refine lv_if_ne hx hb (tgt := 14) dX12_count_7 (by decide) (fun c7 => ?_) (fun c7 => ?_)
  · have hf := ifn hf c7
    refine lv_iconst (v := 0) hx hb dX12_count_14 (by decide) ?_
    refine rv_istore_n X dX12_count_15 rfl hl (by decide) rfl (fun ls hl => ?_)
    have hl : LV ls 4 [(2, .int 0), (0, va_rf l0), (1, .int l1)] := hl
    refine lv_iconst (v := 0) hx hb dX12_count_16 (by decide) ?_
    refine rv_istore_n X dX12_count_17 rfl hl (by decide) rfl (fun ls hl => ?_)
    have hl : LV ls 4 [(3, .int 0), (2, .int 0), (0, va_rf l0), (1, .int l1)] := hl
    exact wX12_count_18 X FU l0 l1 0 0 hf _ _ _ hP (hl.sub [2, 3, 1, 0] rfl)
  · have hf := ifp hf c7
    refine lv_sipush (v := (-1002)) hx hb dX12_count_10 (by decide) ?_
    cases hf
    exact rw_iret X dX12_count_13 hP
theorem dX12_writes_0 : decode cX12_writes 0 = .ok (.aload_n 0, 1) := by decide +kernel
theorem dX12_writes_1 : decode cX12_writes 1 = .ok (.getfield 22, 3) := by decide +kernel
theorem dX12_writes_4 : decode cX12_writes 4 = .ok (.aload_n 0, 1) := by decide +kernel
theorem dX12_writes_5 : decode cX12_writes 5 = .ok (.getfield 238, 3) := by decide +kernel
theorem dX12_writes_8 : decode cX12_writes 8 = .ok (.iload_n 1, 1) := by decide +kernel
theorem dX12_writes_9 : decode cX12_writes 9 = .ok (.iastore, 1) := by decide +kernel
theorem dX12_writes_10 : decode cX12_writes 10 = .ok (.aload_n 0, 1) := by decide +kernel
theorem dX12_writes_11 : decode cX12_writes 11 = .ok (.dup, 1) := by decide +kernel
theorem dX12_writes_12 : decode cX12_writes 12 = .ok (.getfield 238, 3) := by decide +kernel
theorem dX12_writes_15 : decode cX12_writes 15 = .ok (.iconst 1, 1) := by decide +kernel
theorem dX12_writes_16 : decode cX12_writes 16 = .ok (.iadd, 1) := by decide +kernel
theorem dX12_writes_17 : decode cX12_writes 17 = .ok (.putfield 238, 3) := by decide +kernel
theorem dX12_writes_20 : decode cX12_writes 20 = .ok (.return_, 1) := by decide +kernel
theorem pyX12_writes : PY yX12_writes 1 := ⟨by decide +kernel, by decide +kernel, by decide +kernel⟩
def fX12_writes (Y : LY) (S : HS) (l0 : Option Nat) (l1 : Int32) : Option (HS) :=
  (gR Y 12 1205 l0 S).bind fun v1 =>
  (gI Y 12 1207 l0 S).bind fun v5 =>
  (pA Y 14 v1 v5 l1 S).bind fun S9 =>
  (gI Y 12 1207 l0 S9).bind fun v12 =>
  (pI Y 12 1207 l0 (v12 + 1) S9).bind fun S17 =>
  some S17
set_option maxRecDepth 100000 in
set_option maxHeartbeats 4000000 in
theorem mX12_writes (l : Launch) {G : GG} {Y : LY} {S : HS} {l0 : Option Nat} {l1 : Int32} {res : HS} (hf : fX12_writes Y S l0 l1 = some res) : MM l yX12_writes cX12_writes 2 none 0 0 G Y S [va_rf l0, .int l1] res none := by
  refine mm_of2 (plainFor_of_name (by decide +kernel)) (Nat.le_of_ble_eq_true rfl) (c1c (cr _) (c1c (ci _) c1n)) ?_
  intro p e R s m args below meth c X H locs ls hP hl
  have X : Cx p R s m args meth c RX12 cX12_writes 2 0 0 (fun q => q ∈ Y.1) G none := X
  have hx := X.1.1
  have hb := X.1.2.1
  have hl : LV ls 2 [(0, va_rf l0), (1, .int l1)] := hl
  unfold fX12_writes at hf
  refine rw_aload_n X dX12_writes_0 rfl (hl.at 0 rfl) ?_
  obtain ⟨v1, e1, hf⟩ := ob hf
  refine rw_getR X dX12_writes_1 fl12_22 e1 rfl hP ?_
  refine rw_aload_n X dX12_writes_4 rfl (hl.at 0 rfl) ?_
  obtain ⟨v5, e5, hf⟩ := ob hf
  refine rw_getI X dX12_writes_5 fl12_238 e5 rfl hP ?_
  refine lv_iload_n hx hb dX12_writes_8 rfl (hl.at 1 rfl) ?_
  obtain ⟨S9, e9, hf⟩ := ob hf
  refine rw_iast X dX12_writes_9 e9 hP (fun H locs hP => ?_)
  refine rw_aload_n X dX12_writes_10 rfl (hl.at 0 rfl) ?_
  refine lv_dup hx hb dX12_writes_11 (cr _) ?_
  obtain ⟨v12, e12, hf⟩ := ob hf
  refine rw_getI X dX12_writes_12 fl12_238 e12 rfl hP ?_
  refine lv_iconst (v := 1) hx hb dX12_writes_15 (by decide) ?_
  refine lv_iadd hx hb dX12_writes_16 ?_
  obtain ⟨S17, e17, hf⟩ := ob hf
  refine rw_putI X dX12_writes_17 fl12_238 fw12_7 e17 rfl hP (fun H locs hP => ?_)
  cases hf
  exact rw_vret X dX12_writes_20 hP
theorem dX12_letter_0 : decode cX12_letter 0 = .ok (.iload_n 0, 1) := by decide +kernel
theorem dX12_letter_1 : decode cX12_letter 1 = .ok (.tableswitch 113 0 13 #[71, 74, 77, 80, 83, 86, 89, 92, 95, 98, 101, 104, 107, 110], 71) := by decide +kernel
theorem dX12_letter_72 : decode cX12_letter 72 = .ok (.bipush 97, 2) := by decide +kernel
theorem dX12_letter_74 : decode cX12_letter 74 = .ok (.ireturn, 1) := by decide +kernel
theorem dX12_letter_75 : decode cX12_letter 75 = .ok (.bipush 120, 2) := by decide +kernel
theorem dX12_letter_77 : decode cX12_letter 77 = .ok (.ireturn, 1) := by decide +kernel
theorem dX12_letter_78 : decode cX12_letter 78 = .ok (.bipush 63, 2) := by decide +kernel
theorem dX12_letter_80 : decode cX12_letter 80 = .ok (.ireturn, 1) := by decide +kernel
theorem dX12_letter_81 : decode cX12_letter 81 = .ok (.bipush 61, 2) := by decide +kernel
theorem dX12_letter_83 : decode cX12_letter 83 = .ok (.ireturn, 1) := by decide +kernel
theorem dX12_letter_84 : decode cX12_letter 84 = .ok (.bipush 115, 2) := by decide +kernel
theorem dX12_letter_86 : decode cX12_letter 86 = .ok (.ireturn, 1) := by decide +kernel
theorem dX12_letter_87 : decode cX12_letter 87 = .ok (.bipush 102, 2) := by decide +kernel
theorem dX12_letter_89 : decode cX12_letter 89 = .ok (.ireturn, 1) := by decide +kernel
theorem dX12_letter_90 : decode cX12_letter 90 = .ok (.bipush 83, 2) := by decide +kernel
theorem dX12_letter_92 : decode cX12_letter 92 = .ok (.ireturn, 1) := by decide +kernel
theorem dX12_letter_93 : decode cX12_letter 93 = .ok (.bipush 70, 2) := by decide +kernel
theorem dX12_letter_95 : decode cX12_letter 95 = .ok (.ireturn, 1) := by decide +kernel
theorem dX12_letter_96 : decode cX12_letter 96 = .ok (.bipush 112, 2) := by decide +kernel
theorem dX12_letter_98 : decode cX12_letter 98 = .ok (.ireturn, 1) := by decide +kernel
theorem dX12_letter_99 : decode cX12_letter 99 = .ok (.bipush 33, 2) := by decide +kernel
theorem dX12_letter_101 : decode cX12_letter 101 = .ok (.ireturn, 1) := by decide +kernel
theorem dX12_letter_102 : decode cX12_letter 102 = .ok (.bipush 114, 2) := by decide +kernel
theorem dX12_letter_104 : decode cX12_letter 104 = .ok (.ireturn, 1) := by decide +kernel
theorem dX12_letter_105 : decode cX12_letter 105 = .ok (.bipush 116, 2) := by decide +kernel
theorem dX12_letter_107 : decode cX12_letter 107 = .ok (.ireturn, 1) := by decide +kernel
theorem dX12_letter_108 : decode cX12_letter 108 = .ok (.bipush 103, 2) := by decide +kernel
theorem dX12_letter_110 : decode cX12_letter 110 = .ok (.ireturn, 1) := by decide +kernel
theorem dX12_letter_111 : decode cX12_letter 111 = .ok (.bipush 119, 2) := by decide +kernel
theorem dX12_letter_113 : decode cX12_letter 113 = .ok (.ireturn, 1) := by decide +kernel
theorem dX12_letter_114 : decode cX12_letter 114 = .ok (.bipush 108, 2) := by decide +kernel
theorem dX12_letter_116 : decode cX12_letter 116 = .ok (.ireturn, 1) := by decide +kernel
theorem pyX12_letter : PY yX12_letter 1 := ⟨by decide +kernel, by decide +kernel, by decide +kernel⟩
def fX12_letter (Y : LY) (S : HS) (l0 : Int32) : Option (Int32) :=
  if l0 = 0 then
    some 97
  else
  if l0 = 1 then
    some 120
  else
  if l0 = 2 then
    some 63
  else
  if l0 = 3 then
    some 61
  else
  if l0 = 4 then
    some 115
  else
  if l0 = 5 then
    some 102
  else
  if l0 = 6 then
    some 83
  else
  if l0 = 7 then
    some 70
  else
  if l0 = 8 then
    some 112
  else
  if l0 = 9 then
    some 33
  else
  if l0 = 10 then
    some 114
  else
  if l0 = 11 then
    some 116
  else
  if l0 = 12 then
    some 103
  else
  if l0 = 13 then
    some 119
  else
  some 108
set_option maxRecDepth 100000 in
set_option maxHeartbeats 4000000 in
theorem mX12_letter (l : Launch) {G : GG} {Y : LY} {S : HS} {l0 : Int32} {res : Int32} (hf : fX12_letter Y S l0 = some res) : MM l yX12_letter cX12_letter 1 (some .int) 0 0 G Y S [.int l0] S (some (.int res)) := by
  refine mm_of2 (plainFor_of_name (by decide +kernel)) (Nat.le_of_ble_eq_true rfl) (c1c (ci _) c1n) ?_
  intro p e R s m args below meth c X H locs ls hP hl
  have X : Cx p R s m args meth c RX12 cX12_letter 1 0 0 (fun q => q ∈ Y.1) G (some .int) := X
  have hx := X.1.1
  have hb := X.1.2.1
  have hl : LV ls 1 [(0, .int l0)] := hl
  unfold fX12_letter at hf
  refine lv_iload_n hx hb dX12_letter_0 rfl (hl.at 0 rfl) ?_
  by_cases c1_0 : l0 = 0
  · have hf := ifp hf c1_0
    refine lv_tableIn (tgt := 72) hx hb dX12_letter_1 (by rw [c1_0]; decide) (by rw [c1_0]; decide) (by rw [c1_0]; rfl) (by decide) ?_
    refine lv_bipush (v := 97) hx hb dX12_letter_72 (by decide) ?_
    cases hf
    exact rw_iret X dX12_letter_74 hP
  have hf := ifn hf c1_0
  by_cases c1_1 : l0 = 1
  · have hf := ifp hf c1_1
    refine lv_tableIn (tgt := 75) hx hb dX12_letter_1 (by rw [c1_1]; decide) (by rw [c1_1]; decide) (by rw [c1_1]; rfl) (by decide) ?_
    refine lv_bipush (v := 120) hx hb dX12_letter_75 (by decide) ?_
    cases hf
    exact rw_iret X dX12_letter_77 hP
  have hf := ifn hf c1_1
  by_cases c1_2 : l0 = 2
  · have hf := ifp hf c1_2
    refine lv_tableIn (tgt := 78) hx hb dX12_letter_1 (by rw [c1_2]; decide) (by rw [c1_2]; decide) (by rw [c1_2]; rfl) (by decide) ?_
    refine lv_bipush (v := 63) hx hb dX12_letter_78 (by decide) ?_
    cases hf
    exact rw_iret X dX12_letter_80 hP
  have hf := ifn hf c1_2
  by_cases c1_3 : l0 = 3
  · have hf := ifp hf c1_3
    refine lv_tableIn (tgt := 81) hx hb dX12_letter_1 (by rw [c1_3]; decide) (by rw [c1_3]; decide) (by rw [c1_3]; rfl) (by decide) ?_
    refine lv_bipush (v := 61) hx hb dX12_letter_81 (by decide) ?_
    cases hf
    exact rw_iret X dX12_letter_83 hP
  have hf := ifn hf c1_3
  by_cases c1_4 : l0 = 4
  · have hf := ifp hf c1_4
    refine lv_tableIn (tgt := 84) hx hb dX12_letter_1 (by rw [c1_4]; decide) (by rw [c1_4]; decide) (by rw [c1_4]; rfl) (by decide) ?_
    refine lv_bipush (v := 115) hx hb dX12_letter_84 (by decide) ?_
    cases hf
    exact rw_iret X dX12_letter_86 hP
  have hf := ifn hf c1_4
  by_cases c1_5 : l0 = 5
  · have hf := ifp hf c1_5
    refine lv_tableIn (tgt := 87) hx hb dX12_letter_1 (by rw [c1_5]; decide) (by rw [c1_5]; decide) (by rw [c1_5]; rfl) (by decide) ?_
    refine lv_bipush (v := 102) hx hb dX12_letter_87 (by decide) ?_
    cases hf
    exact rw_iret X dX12_letter_89 hP
  have hf := ifn hf c1_5
  by_cases c1_6 : l0 = 6
  · have hf := ifp hf c1_6
    refine lv_tableIn (tgt := 90) hx hb dX12_letter_1 (by rw [c1_6]; decide) (by rw [c1_6]; decide) (by rw [c1_6]; rfl) (by decide) ?_
    refine lv_bipush (v := 83) hx hb dX12_letter_90 (by decide) ?_
    cases hf
    exact rw_iret X dX12_letter_92 hP
  have hf := ifn hf c1_6
  by_cases c1_7 : l0 = 7
  · have hf := ifp hf c1_7
    refine lv_tableIn (tgt := 93) hx hb dX12_letter_1 (by rw [c1_7]; decide) (by rw [c1_7]; decide) (by rw [c1_7]; rfl) (by decide) ?_
    refine lv_bipush (v := 70) hx hb dX12_letter_93 (by decide) ?_
    cases hf
    exact rw_iret X dX12_letter_95 hP
  have hf := ifn hf c1_7
  by_cases c1_8 : l0 = 8
  · have hf := ifp hf c1_8
    refine lv_tableIn (tgt := 96) hx hb dX12_letter_1 (by rw [c1_8]; decide) (by rw [c1_8]; decide) (by rw [c1_8]; rfl) (by decide) ?_
    refine lv_bipush (v := 112) hx hb dX12_letter_96 (by decide) ?_
    cases hf
    exact rw_iret X dX12_letter_98 hP
  have hf := ifn hf c1_8
  by_cases c1_9 : l0 = 9
  · have hf := ifp hf c1_9
    refine lv_tableIn (tgt := 99) hx hb dX12_letter_1 (by rw [c1_9]; decide) (by rw [c1_9]; decide) (by rw [c1_9]; rfl) (by decide) ?_
    refine lv_bipush (v := 33) hx hb dX12_letter_99 (by decide) ?_
    cases hf
    exact rw_iret X dX12_letter_101 hP
  have hf := ifn hf c1_9
  by_cases c1_10 : l0 = 10
  · have hf := ifp hf c1_10
    refine lv_tableIn (tgt := 102) hx hb dX12_letter_1 (by rw [c1_10]; decide) (by rw [c1_10]; decide) (by rw [c1_10]; rfl) (by decide) ?_
    refine lv_bipush (v := 114) hx hb dX12_letter_102 (by decide) ?_
    cases hf
    exact rw_iret X dX12_letter_104 hP
  have hf := ifn hf c1_10
  by_cases c1_11 : l0 = 11
  · have hf := ifp hf c1_11
    refine lv_tableIn (tgt := 105) hx hb dX12_letter_1 (by rw [c1_11]; decide) (by rw [c1_11]; decide) (by rw [c1_11]; rfl) (by decide) ?_
    refine lv_bipush (v := 116) hx hb dX12_letter_105 (by decide) ?_
    cases hf
    exact rw_iret X dX12_letter_107 hP
  have hf := ifn hf c1_11
  by_cases c1_12 : l0 = 12
  · have hf := ifp hf c1_12
    refine lv_tableIn (tgt := 108) hx hb dX12_letter_1 (by rw [c1_12]; decide) (by rw [c1_12]; decide) (by rw [c1_12]; rfl) (by decide) ?_
    refine lv_bipush (v := 103) hx hb dX12_letter_108 (by decide) ?_
    cases hf
    exact rw_iret X dX12_letter_110 hP
  have hf := ifn hf c1_12
  by_cases c1_13 : l0 = 13
  · have hf := ifp hf c1_13
    refine lv_tableIn (tgt := 111) hx hb dX12_letter_1 (by rw [c1_13]; decide) (by rw [c1_13]; decide) (by rw [c1_13]; rfl) (by decide) ?_
    refine lv_bipush (v := 119) hx hb dX12_letter_111 (by decide) ?_
    cases hf
    exact rw_iret X dX12_letter_113 hP
  have hf := ifn hf c1_13
  have t1_0 := tsw (k := 0) (v := 0) (by decide) c1_0
  have t1_1 := tsw (k := 1) (v := 1) (by decide) c1_1
  have t1_2 := tsw (k := 2) (v := 2) (by decide) c1_2
  have t1_3 := tsw (k := 3) (v := 3) (by decide) c1_3
  have t1_4 := tsw (k := 4) (v := 4) (by decide) c1_4
  have t1_5 := tsw (k := 5) (v := 5) (by decide) c1_5
  have t1_6 := tsw (k := 6) (v := 6) (by decide) c1_6
  have t1_7 := tsw (k := 7) (v := 7) (by decide) c1_7
  have t1_8 := tsw (k := 8) (v := 8) (by decide) c1_8
  have t1_9 := tsw (k := 9) (v := 9) (by decide) c1_9
  have t1_10 := tsw (k := 10) (v := 10) (by decide) c1_10
  have t1_11 := tsw (k := 11) (v := 11) (by decide) c1_11
  have t1_12 := tsw (k := 12) (v := 12) (by decide) c1_12
  have t1_13 := tsw (k := 13) (v := 13) (by decide) c1_13
  refine lv_tableOut (tgt := 114) hx hb dX12_letter_1 (by omega) (by decide) ?_
  refine lv_bipush (v := 108) hx hb dX12_letter_114 (by decide) ?_
  cases hf
  exact rw_iret X dX12_letter_116 hP
theorem dX12_writesDeed_0 : decode cX12_writesDeed 0 = .ok (.iload_n 2, 1) := by decide +kernel
theorem dX12_writesDeed_1 : decode cX12_writesDeed 1 = .ok (.ifCond .ne 4, 3) := by decide +kernel
theorem dX12_writesDeed_4 : decode cX12_writesDeed 4 = .ok (.return_, 1) := by decide +kernel
theorem dX12_writesDeed_5 : decode cX12_writesDeed 5 = .ok (.aload_n 0, 1) := by decide +kernel
theorem dX12_writesDeed_6 : decode cX12_writesDeed 6 = .ok (.bipush 48, 2) := by decide +kernel
theorem dX12_writesDeed_8 : decode cX12_writesDeed 8 = .ok (.iload_n 1, 1) := by decide +kernel
theorem dX12_writesDeed_9 : decode cX12_writesDeed 9 = .ok (.iadd, 1) := by decide +kernel
theorem dX12_writesDeed_10 : decode cX12_writesDeed 10 = .ok (.invokevirtual 241, 3) := by decide +kernel
theorem dX12_writesDeed_13 : decode cX12_writesDeed 13 = .ok (.aload_n 0, 1) := by decide +kernel
theorem dX12_writesDeed_14 : decode cX12_writesDeed 14 = .ok (.iload_n 2, 1) := by decide +kernel
theorem dX12_writesDeed_15 : decode cX12_writesDeed 15 = .ok (.iconst 1, 1) := by decide +kernel
theorem dX12_writesDeed_16 : decode cX12_writesDeed 16 = .ok (.if_icmp .ne 8, 3) := by decide +kernel
theorem dX12_writesDeed_19 : decode cX12_writesDeed 19 = .ok (.bipush 60, 2) := by decide +kernel
theorem dX12_writesDeed_21 : decode cX12_writesDeed 21 = .ok (.goto 45, 3) := by decide +kernel
theorem dX12_writesDeed_24 : decode cX12_writesDeed 24 = .ok (.iload_n 2, 1) := by decide +kernel
theorem dX12_writesDeed_25 : decode cX12_writesDeed 25 = .ok (.iconst 2, 1) := by decide +kernel
theorem dX12_writesDeed_26 : decode cX12_writesDeed 26 = .ok (.if_icmp .ne 8, 3) := by decide +kernel
theorem dX12_writesDeed_29 : decode cX12_writesDeed 29 = .ok (.bipush 61, 2) := by decide +kernel
theorem dX12_writesDeed_31 : decode cX12_writesDeed 31 = .ok (.goto 35, 3) := by decide +kernel
theorem dX12_writesDeed_34 : decode cX12_writesDeed 34 = .ok (.iload_n 2, 1) := by decide +kernel
theorem dX12_writesDeed_35 : decode cX12_writesDeed 35 = .ok (.iconst 3, 1) := by decide +kernel
theorem dX12_writesDeed_36 : decode cX12_writesDeed 36 = .ok (.if_icmp .ne 8, 3) := by decide +kernel
theorem dX12_writesDeed_39 : decode cX12_writesDeed 39 = .ok (.bipush 62, 2) := by decide +kernel
theorem dX12_writesDeed_41 : decode cX12_writesDeed 41 = .ok (.goto 25, 3) := by decide +kernel
theorem dX12_writesDeed_44 : decode cX12_writesDeed 44 = .ok (.iload_n 2, 1) := by decide +kernel
theorem dX12_writesDeed_45 : decode cX12_writesDeed 45 = .ok (.iconst 4, 1) := by decide +kernel
theorem dX12_writesDeed_46 : decode cX12_writesDeed 46 = .ok (.if_icmp .ne 8, 3) := by decide +kernel
theorem dX12_writesDeed_49 : decode cX12_writesDeed 49 = .ok (.bipush 58, 2) := by decide +kernel
theorem dX12_writesDeed_51 : decode cX12_writesDeed 51 = .ok (.goto 15, 3) := by decide +kernel
theorem dX12_writesDeed_54 : decode cX12_writesDeed 54 = .ok (.iload_n 2, 1) := by decide +kernel
theorem dX12_writesDeed_55 : decode cX12_writesDeed 55 = .ok (.iconst 5, 1) := by decide +kernel
theorem dX12_writesDeed_56 : decode cX12_writesDeed 56 = .ok (.if_icmp .ne 8, 3) := by decide +kernel
theorem dX12_writesDeed_59 : decode cX12_writesDeed 59 = .ok (.bipush 43, 2) := by decide +kernel
theorem dX12_writesDeed_61 : decode cX12_writesDeed 61 = .ok (.goto 5, 3) := by decide +kernel
theorem dX12_writesDeed_64 : decode cX12_writesDeed 64 = .ok (.bipush 45, 2) := by decide +kernel
theorem dX12_writesDeed_66 : decode cX12_writesDeed 66 = .ok (.invokevirtual 241, 3) := by decide +kernel
theorem dX12_writesDeed_69 : decode cX12_writesDeed 69 = .ok (.iload_n 3, 1) := by decide +kernel
theorem dX12_writesDeed_70 : decode cX12_writesDeed 70 = .ok (.bipush 9, 2) := by decide +kernel
theorem dX12_writesDeed_72 : decode cX12_writesDeed 72 = .ok (.if_icmp .le 14, 3) := by decide +kernel
theorem dX12_writesDeed_75 : decode cX12_writesDeed 75 = .ok (.aload_n 0, 1) := by decide +kernel
theorem dX12_writesDeed_76 : decode cX12_writesDeed 76 = .ok (.bipush 48, 2) := by decide +kernel
theorem dX12_writesDeed_78 : decode cX12_writesDeed 78 = .ok (.iload_n 3, 1) := by decide +kernel
theorem dX12_writesDeed_79 : decode cX12_writesDeed 79 = .ok (.bipush 10, 2) := by decide +kernel
theorem dX12_writesDeed_81 : decode cX12_writesDeed 81 = .ok (.idiv, 1) := by decide +kernel
theorem dX12_writesDeed_82 : decode cX12_writesDeed 82 = .ok (.iadd, 1) := by decide +kernel
theorem dX12_writesDeed_83 : decode cX12_writesDeed 83 = .ok (.invokevirtual 241, 3) := by decide +kernel
theorem dX12_writesDeed_86 : decode cX12_writesDeed 86 = .ok (.aload_n 0, 1) := by decide +kernel
theorem dX12_writesDeed_87 : decode cX12_writesDeed 87 = .ok (.bipush 48, 2) := by decide +kernel
theorem dX12_writesDeed_89 : decode cX12_writesDeed 89 = .ok (.iload_n 3, 1) := by decide +kernel
theorem dX12_writesDeed_90 : decode cX12_writesDeed 90 = .ok (.bipush 10, 2) := by decide +kernel
theorem dX12_writesDeed_92 : decode cX12_writesDeed 92 = .ok (.irem, 1) := by decide +kernel
theorem dX12_writesDeed_93 : decode cX12_writesDeed 93 = .ok (.iadd, 1) := by decide +kernel
theorem dX12_writesDeed_94 : decode cX12_writesDeed 94 = .ok (.invokevirtual 241, 3) := by decide +kernel
theorem dX12_writesDeed_97 : decode cX12_writesDeed 97 = .ok (.return_, 1) := by decide +kernel
theorem pyX12_writesDeed : PY yX12_writesDeed 3 := ⟨by decide +kernel, by decide +kernel, by decide +kernel⟩
def fX12_writesDeed_86 (Y : LY) (S : HS) (l0 : Option Nat) (l3 : Int32) : Option (HS) :=
  (rcv Y 12 l0).bind fun _ =>
  (fX12_writes Y S l0 (48 + (l3 - l3 / 10 * 10))).bind fun S94 =>
  some S94
set_option maxRecDepth 100000 in
set_option maxHeartbeats 4000000 in
theorem wX12_writesDeed_86 {p : Program} {l : Launch} {e : Env} {R : Room} {s : State} {m : MethodId} {args : Array Value} {below : List Frame} {meth : Method} {c : Code} {G : GG} {Y : LY} {res : HS} (X : Cx p R s m args meth c RX12 cX12_writesDeed 4 1 21 (fun q => q ∈ Y.1) G none) : ∀ (S : HS) (l0 : Option Nat) (l3 : Int32), fX12_writesDeed_86 Y S l0 l3 = some res → ∀ (H : Heap) (locs : List Loc) (ls : Array Slot), HP (fun q => q ∈ Y.1) G Y s S H locs → LV ls 4 [(0, va_rf l0), (3, .int l3)] → W p l e R s m args below meth c H locs 0 0 (MQ below (QI G Y res none) args s 0 0 (fun q => q ∈ Y.1)) (F0 m 86 ls []) := by
  have hx := X.1.1
  have hb := X.1.2.1
  intro S l0 l3 hf H locs ls hP hl
  unfold fX12_writesDeed_86 at hf
  refine rw_aload_n X dX12_writesDeed_86 rfl (hl.at 0 rfl) ?_
  refine lv_bipush (v := 48) hx hb dX12_writesDeed_87 (by decide) ?_
  refine lv_iload_n hx hb dX12_writesDeed_89 rfl (hl.at 1 rfl) ?_
  refine lv_bipush (v := 10) hx hb dX12_writesDeed_90 (by decide) ?_
  refine lv_irem hx hb dX12_writesDeed_92 (by decide) ?_
  refine lv_iadd hx hb dX12_writesDeed_93 ?_
  obtain ⟨u94, r94, hf⟩ := ob hf
  obtain ⟨S94, e94, hf⟩ := ob hf
  refine rw_callVv (As := [.int (48 + (l3 - l3 / 10 * 10))]) X dX12_writesDeed_94 clX12_241 pyX12_writes (mX12_writes l e94) (by decide) r94 rfl hP rfl (catL c1n (Nat.le_of_ble_eq_true rfl)) hl.1.1 (fun H locs hP => ?_)
  cases hf
  exact rw_vret X dX12_writesDeed_97 hP
def fX12_writesDeed_66 (Y : LY) (S : HS) (l0 : Option Nat) (l3 : Int32) (s0 : Option Nat) (s1 : Int32) : Option (HS) :=
  (rcv Y 12 s0).bind fun _ =>
  (fX12_writes Y S s0 s1).bind fun S66 =>
  if l3 ≤ 9 then
    fX12_writesDeed_86 Y S66 l0 l3
  else
    (rcv Y 12 l0).bind fun _ =>
    (fX12_writes Y S66 l0 (48 + (l3 / 10))).bind fun S83 =>
    fX12_writesDeed_86 Y S83 l0 l3
set_option maxRecDepth 100000 in
set_option maxHeartbeats 4000000 in
theorem wX12_writesDeed_66 {p : Program} {l : Launch} {e : Env} {R : Room} {s : State} {m : MethodId} {args : Array Value} {below : List Frame} {meth : Method} {c : Code} {G : GG} {Y : LY} {res : HS} (X : Cx p R s m args meth c RX12 cX12_writesDeed 4 1 21 (fun q => q ∈ Y.1) G none) : ∀ (S : HS) (l0 : Option Nat) (l3 : Int32) (s0 : Option Nat) (s1 : Int32), fX12_writesDeed_66 Y S l0 l3 s0 s1 = some res → ∀ (H : Heap) (locs : List Loc) (ls : Array Slot), HP (fun q => q ∈ Y.1) G Y s S H locs → LV ls 4 [(0, va_rf l0), (3, .int l3)] → W p l e R s m args below meth c H locs 0 0 (MQ below (QI G Y res none) args s 0 0 (fun q => q ∈ Y.1)) (F0 m 66 ls (.int s1 :: (va_rf s0 :: []))) := by
  have hx := X.1.1
  have hb := X.1.2.1
  intro S l0 l3 s0 s1 hf H locs ls hP hl
  unfold fX12_writesDeed_66 at hf
  obtain ⟨u66, r66, hf⟩ := ob hf
  obtain ⟨S66, e66, hf⟩ := ob hf
  refine rw_callVv (As := [.int s1]) X dX12_writesDeed_66 clX12_241 pyX12_writes (mX12_writes l e66) (by decide) r66 rfl hP rfl (catL c1n (Nat.le_of_ble_eq_true rfl)) hl.1.1 (fun H locs hP => ?_)
  refine lv_iload_n hx hb dX12_writesDeed_69 rfl (hl.at 1 rfl) ?_
  refine lv_bipush (v := 9) hx hb dX12_writesDeed_70 (by decide) ?_
  refine lv_icmp_le hx hb (tgt := 86) dX12_writesDeed_72 (by decide) (fun c72 => ?_) (fun c72 => ?_)
  · have hf := ifp hf c72
    exact wX12_writesDeed_86 X S66 l0 l3 hf _ _ _ hP (hl.sub [0, 1] rfl)
  · have hf := ifn hf c72
    refine rw_aload_n X dX12_writesDeed_75 rfl (hl.at 0 rfl) ?_
    refine lv_bipush (v := 48) hx hb dX12_writesDeed_76 (by decide) ?_
    refine lv_iload_n hx hb dX12_writesDeed_78 rfl (hl.at 1 rfl) ?_
    refine lv_bipush (v := 10) hx hb dX12_writesDeed_79 (by decide) ?_
    refine lv_idiv hx hb dX12_writesDeed_81 (by decide) ?_
    refine lv_iadd hx hb dX12_writesDeed_82 ?_
    obtain ⟨u83, r83, hf⟩ := ob hf
    obtain ⟨S83, e83, hf⟩ := ob hf
    refine rw_callVv (As := [.int (48 + (l3 / 10))]) X dX12_writesDeed_83 clX12_241 pyX12_writes (mX12_writes l e83) (by decide) r83 rfl hP rfl (catL c1n (Nat.le_of_ble_eq_true rfl)) hl.1.1 (fun H locs hP => ?_)
    exact wX12_writesDeed_86 X S83 l0 l3 hf _ _ _ hP (hl.sub [0, 1] rfl)
def fX12_writesDeed (Y : LY) (S : HS) (l0 : Option Nat) (l1 : Int32) (l2 : Int32) (l3 : Int32) : Option (HS) :=
  if l2 = 0 then
    some S
  else
    (rcv Y 12 l0).bind fun _ =>
    (fX12_writes Y S l0 (48 + l1)).bind fun S10 =>
    if l2 = 1 then
      fX12_writesDeed_66 Y S10 l0 l3 l0 60
    else
      if l2 = 2 then
        fX12_writesDeed_66 Y S10 l0 l3 l0 61
      else
        if l2 = 3 then
          fX12_writesDeed_66 Y S10 l0 l3 l0 62
        else
          if l2 = 4 then
            fX12_writesDeed_66 Y S10 l0 l3 l0 58
          else
            if l2 = 5 then
              fX12_writesDeed_66 Y S10 l0 l3 l0 43
            else
              fX12_writesDeed_66 Y S10 l0 l3 l0 45
set_option maxRecDepth 100000 in
set_option maxHeartbeats 4000000 in
theorem mX12_writesDeed (l : Launch) {G : GG} {Y : LY} {S : HS} {l0 : Option Nat} {l1 : Int32} {l2 : Int32} {l3 : Int32} {res : HS} (hf : fX12_writesDeed Y S l0 l1 l2 l3 = some res) : MM l yX12_writesDeed cX12_writesDeed 4 none 1 21 G Y S [va_rf l0, .int l1, .int l2, .int l3] res none := by
  refine mm_of2 (plainFor_of_name (by decide +kernel)) (Nat.le_of_ble_eq_true rfl) (c1c (cr _) (c1c (ci _) (c1c (ci _) (c1c (ci _) c1n)))) ?_
  intro p e R s m args below meth c X H locs ls hP hl
  have X : Cx p R s m args meth c RX12 cX12_writesDeed 4 1 21 (fun q => q ∈ Y.1) G none := X
  have hx := X.1.1
  have hb := X.1.2.1
  have hl : LV ls 4 [(0, va_rf l0), (1, .int l1), (2, .int l2), (3, .int l3)] := hl
  unfold fX12_writesDeed at hf
  refine lv_iload_n hx hb dX12_writesDeed_0 rfl (hl.at 2 rfl) ?_
  refine lv_if_ne hx hb (tgt := 5) dX12_writesDeed_1 (by decide) (fun c1 => ?_) (fun c1 => ?_)
  · have hf := ifn hf c1
    refine rw_aload_n X dX12_writesDeed_5 rfl (hl.at 0 rfl) ?_
    refine lv_bipush (v := 48) hx hb dX12_writesDeed_6 (by decide) ?_
    refine lv_iload_n hx hb dX12_writesDeed_8 rfl (hl.at 1 rfl) ?_
    refine lv_iadd hx hb dX12_writesDeed_9 ?_
    obtain ⟨u10, r10, hf⟩ := ob hf
    obtain ⟨S10, e10, hf⟩ := ob hf
    refine rw_callVv (As := [.int (48 + l1)]) X dX12_writesDeed_10 clX12_241 pyX12_writes (mX12_writes l e10) (by decide) r10 rfl hP rfl (catL c1n (Nat.le_of_ble_eq_true rfl)) hl.1.1 (fun H locs hP => ?_)
    refine rw_aload_n X dX12_writesDeed_13 rfl (hl.at 0 rfl) ?_
    refine lv_iload_n hx hb dX12_writesDeed_14 rfl (hl.at 2 rfl) ?_
    refine lv_iconst (v := 1) hx hb dX12_writesDeed_15 (by decide) ?_
    refine lv_icmp_ne hx hb (tgt := 24) dX12_writesDeed_16 (by decide) (fun c16 => ?_) (fun c16 => ?_)
    · have hf := ifn hf c16
      refine lv_iload_n hx hb dX12_writesDeed_24 rfl (hl.at 2 rfl) ?_
      refine lv_iconst (v := 2) hx hb dX12_writesDeed_25 (by decide) ?_
      refine lv_icmp_ne hx hb (tgt := 34) dX12_writesDeed_26 (by decide) (fun c26 => ?_) (fun c26 => ?_)
      · have hf := ifn hf c26
        refine lv_iload_n hx hb dX12_writesDeed_34 rfl (hl.at 2 rfl) ?_
        refine lv_iconst (v := 3) hx hb dX12_writesDeed_35 (by decide) ?_
        refine lv_icmp_ne hx hb (tgt := 44) dX12_writesDeed_36 (by decide) (fun c36 => ?_) (fun c36 => ?_)
        · have hf := ifn hf c36
          refine lv_iload_n hx hb dX12_writesDeed_44 rfl (hl.at 2 rfl) ?_
          refine lv_iconst (v := 4) hx hb dX12_writesDeed_45 (by decide) ?_
          refine lv_icmp_ne hx hb (tgt := 54) dX12_writesDeed_46 (by decide) (fun c46 => ?_) (fun c46 => ?_)
          · have hf := ifn hf c46
            refine lv_iload_n hx hb dX12_writesDeed_54 rfl (hl.at 2 rfl) ?_
            refine lv_iconst (v := 5) hx hb dX12_writesDeed_55 (by decide) ?_
            refine lv_icmp_ne hx hb (tgt := 64) dX12_writesDeed_56 (by decide) (fun c56 => ?_) (fun c56 => ?_)
            · have hf := ifn hf c56
              refine lv_bipush (v := 45) hx hb dX12_writesDeed_64 (by decide) ?_
              exact wX12_writesDeed_66 X S10 l0 l3 l0 45 hf _ _ _ hP (hl.sub [0, 3] rfl)
            · have hf := ifp hf c56
              refine lv_bipush (v := 43) hx hb dX12_writesDeed_59 (by decide) ?_
              refine lv_goto (tgt := 66) hx hb dX12_writesDeed_61 (by decide) ?_
              exact wX12_writesDeed_66 X S10 l0 l3 l0 43 hf _ _ _ hP (hl.sub [0, 3] rfl)
          · have hf := ifp hf c46
            refine lv_bipush (v := 58) hx hb dX12_writesDeed_49 (by decide) ?_
            refine lv_goto (tgt := 66) hx hb dX12_writesDeed_51 (by decide) ?_
            exact wX12_writesDeed_66 X S10 l0 l3 l0 58 hf _ _ _ hP (hl.sub [0, 3] rfl)
        · have hf := ifp hf c36
          refine lv_bipush (v := 62) hx hb dX12_writesDeed_39 (by decide) ?_
          refine lv_goto (tgt := 66) hx hb dX12_writesDeed_41 (by decide) ?_
          exact wX12_writesDeed_66 X S10 l0 l3 l0 62 hf _ _ _ hP (hl.sub [0, 3] rfl)
      · have hf := ifp hf c26
        refine lv_bipush (v := 61) hx hb dX12_writesDeed_29 (by decide) ?_
        refine lv_goto (tgt := 66) hx hb dX12_writesDeed_31 (by decide) ?_
        exact wX12_writesDeed_66 X S10 l0 l3 l0 61 hf _ _ _ hP (hl.sub [0, 3] rfl)
    · have hf := ifp hf c16
      refine lv_bipush (v := 60) hx hb dX12_writesDeed_19 (by decide) ?_
      refine lv_goto (tgt := 66) hx hb dX12_writesDeed_21 (by decide) ?_
      exact wX12_writesDeed_66 X S10 l0 l3 l0 60 hf _ _ _ hP (hl.sub [0, 3] rfl)
  · have hf := ifp hf c1
    cases hf
    exact rw_vret X dX12_writesDeed_4 hP
theorem dX12_writesNode_0 : decode cX12_writesNode 0 = .ok (.aload_n 0, 1) := by decide +kernel
theorem dX12_writesNode_1 : decode cX12_writesNode 1 = .ok (.getfield 25, 3) := by decide +kernel
theorem dX12_writesNode_4 : decode cX12_writesNode 4 = .ok (.iload_n 1, 1) := by decide +kernel
theorem dX12_writesNode_5 : decode cX12_writesNode 5 = .ok (.iaload, 1) := by decide +kernel
theorem dX12_writesNode_6 : decode cX12_writesNode 6 = .ok (.istore_n 2, 1) := by decide +kernel
theorem dX12_writesNode_7 : decode cX12_writesNode 7 = .ok (.aload_n 0, 1) := by decide +kernel
theorem dX12_writesNode_8 : decode cX12_writesNode 8 = .ok (.iload_n 2, 1) := by decide +kernel
theorem dX12_writesNode_9 : decode cX12_writesNode 9 = .ok (.invokestatic 244, 3) := by decide +kernel
theorem dX12_writesNode_12 : decode cX12_writesNode 12 = .ok (.invokevirtual 241, 3) := by decide +kernel
theorem dX12_writesNode_15 : decode cX12_writesNode 15 = .ok (.iload_n 2, 1) := by decide +kernel
theorem dX12_writesNode_16 : decode cX12_writesNode 16 = .ok (.iconst 2, 1) := by decide +kernel
theorem dX12_writesNode_17 : decode cX12_writesNode 17 = .ok (.if_icmp .lt 27, 3) := by decide +kernel
theorem dX12_writesNode_20 : decode cX12_writesNode 20 = .ok (.iload_n 2, 1) := by decide +kernel
theorem dX12_writesNode_21 : decode cX12_writesNode 21 = .ok (.bipush 8, 2) := by decide +kernel
theorem dX12_writesNode_23 : decode cX12_writesNode 23 = .ok (.if_icmp .eq 21, 3) := by decide +kernel
theorem dX12_writesNode_26 : decode cX12_writesNode 26 = .ok (.iload_n 2, 1) := by decide +kernel
theorem dX12_writesNode_27 : decode cX12_writesNode 27 = .ok (.bipush 10, 2) := by decide +kernel
theorem dX12_writesNode_29 : decode cX12_writesNode 29 = .ok (.if_icmp .eq 15, 3) := by decide +kernel
theorem dX12_writesNode_32 : decode cX12_writesNode 32 = .ok (.iload_n 2, 1) := by decide +kernel
theorem dX12_writesNode_33 : decode cX12_writesNode 33 = .ok (.bipush 11, 2) := by decide +kernel
theorem dX12_writesNode_35 : decode cX12_writesNode 35 = .ok (.if_icmp .eq 9, 3) := by decide +kernel
theorem dX12_writesNode_38 : decode cX12_writesNode 38 = .ok (.iload_n 2, 1) := by decide +kernel
theorem dX12_writesNode_39 : decode cX12_writesNode 39 = .ok (.bipush 13, 2) := by decide +kernel
theorem dX12_writesNode_41 : decode cX12_writesNode 41 = .ok (.if_icmp .lt 16, 3) := by decide +kernel
theorem dX12_writesNode_44 : decode cX12_writesNode 44 = .ok (.aload_n 0, 1) := by decide +kernel
theorem dX12_writesNode_45 : decode cX12_writesNode 45 = .ok (.bipush 48, 2) := by decide +kernel
theorem dX12_writesNode_47 : decode cX12_writesNode 47 = .ok (.aload_n 0, 1) := by decide +kernel
theorem dX12_writesNode_48 : decode cX12_writesNode 48 = .ok (.getfield 28, 3) := by decide +kernel
theorem dX12_writesNode_51 : decode cX12_writesNode 51 = .ok (.iload_n 1, 1) := by decide +kernel
theorem dX12_writesNode_52 : decode cX12_writesNode 52 = .ok (.iaload, 1) := by decide +kernel
theorem dX12_writesNode_53 : decode cX12_writesNode 53 = .ok (.iadd, 1) := by decide +kernel
theorem dX12_writesNode_54 : decode cX12_writesNode 54 = .ok (.invokevirtual 241, 3) := by decide +kernel
theorem dX12_writesNode_57 : decode cX12_writesNode 57 = .ok (.aload_n 0, 1) := by decide +kernel
theorem dX12_writesNode_58 : decode cX12_writesNode 58 = .ok (.aload_n 0, 1) := by decide +kernel
theorem dX12_writesNode_59 : decode cX12_writesNode 59 = .ok (.getfield 40, 3) := by decide +kernel
theorem dX12_writesNode_62 : decode cX12_writesNode 62 = .ok (.iload_n 1, 1) := by decide +kernel
theorem dX12_writesNode_63 : decode cX12_writesNode 63 = .ok (.iaload, 1) := by decide +kernel
theorem dX12_writesNode_64 : decode cX12_writesNode 64 = .ok (.aload_n 0, 1) := by decide +kernel
theorem dX12_writesNode_65 : decode cX12_writesNode 65 = .ok (.getfield 43, 3) := by decide +kernel
theorem dX12_writesNode_68 : decode cX12_writesNode 68 = .ok (.iload_n 1, 1) := by decide +kernel
theorem dX12_writesNode_69 : decode cX12_writesNode 69 = .ok (.iaload, 1) := by decide +kernel
theorem dX12_writesNode_70 : decode cX12_writesNode 70 = .ok (.aload_n 0, 1) := by decide +kernel
theorem dX12_writesNode_71 : decode cX12_writesNode 71 = .ok (.getfield 46, 3) := by decide +kernel
theorem dX12_writesNode_74 : decode cX12_writesNode 74 = .ok (.iload_n 1, 1) := by decide +kernel
theorem dX12_writesNode_75 : decode cX12_writesNode 75 = .ok (.iaload, 1) := by decide +kernel
theorem dX12_writesNode_76 : decode cX12_writesNode 76 = .ok (.invokevirtual 247, 3) := by decide +kernel
theorem dX12_writesNode_79 : decode cX12_writesNode 79 = .ok (.aload_n 0, 1) := by decide +kernel
theorem dX12_writesNode_80 : decode cX12_writesNode 80 = .ok (.getfield 52, 3) := by decide +kernel
theorem dX12_writesNode_83 : decode cX12_writesNode 83 = .ok (.iload_n 1, 1) := by decide +kernel
theorem dX12_writesNode_84 : decode cX12_writesNode 84 = .ok (.iaload, 1) := by decide +kernel
theorem dX12_writesNode_85 : decode cX12_writesNode 85 = .ok (.ifCond .le 9, 3) := by decide +kernel
theorem dX12_writesNode_88 : decode cX12_writesNode 88 = .ok (.aload_n 0, 1) := by decide +kernel
theorem dX12_writesNode_89 : decode cX12_writesNode 89 = .ok (.bipush 126, 2) := by decide +kernel
theorem dX12_writesNode_91 : decode cX12_writesNode 91 = .ok (.invokevirtual 241, 3) := by decide +kernel
theorem dX12_writesNode_94 : decode cX12_writesNode 94 = .ok (.aload_n 0, 1) := by decide +kernel
theorem dX12_writesNode_95 : decode cX12_writesNode 95 = .ok (.aload_n 0, 1) := by decide +kernel
theorem dX12_writesNode_96 : decode cX12_writesNode 96 = .ok (.getfield 49, 3) := by decide +kernel
theorem dX12_writesNode_99 : decode cX12_writesNode 99 = .ok (.iload_n 1, 1) := by decide +kernel
theorem dX12_writesNode_100 : decode cX12_writesNode 100 = .ok (.iaload, 1) := by decide +kernel
theorem dX12_writesNode_101 : decode cX12_writesNode 101 = .ok (.aload_n 0, 1) := by decide +kernel
theorem dX12_writesNode_102 : decode cX12_writesNode 102 = .ok (.getfield 52, 3) := by decide +kernel
theorem dX12_writesNode_105 : decode cX12_writesNode 105 = .ok (.iload_n 1, 1) := by decide +kernel
theorem dX12_writesNode_106 : decode cX12_writesNode 106 = .ok (.iaload, 1) := by decide +kernel
theorem dX12_writesNode_107 : decode cX12_writesNode 107 = .ok (.aload_n 0, 1) := by decide +kernel
theorem dX12_writesNode_108 : decode cX12_writesNode 108 = .ok (.getfield 55, 3) := by decide +kernel
theorem dX12_writesNode_111 : decode cX12_writesNode 111 = .ok (.iload_n 1, 1) := by decide +kernel
theorem dX12_writesNode_112 : decode cX12_writesNode 112 = .ok (.iaload, 1) := by decide +kernel
theorem dX12_writesNode_113 : decode cX12_writesNode 113 = .ok (.invokevirtual 247, 3) := by decide +kernel
theorem dX12_writesNode_116 : decode cX12_writesNode 116 = .ok (.iload_n 2, 1) := by decide +kernel
theorem dX12_writesNode_117 : decode cX12_writesNode 117 = .ok (.invokestatic 142, 3) := by decide +kernel
theorem dX12_writesNode_120 : decode cX12_writesNode 120 = .ok (.ifCond .eq 9, 3) := by decide +kernel
theorem dX12_writesNode_123 : decode cX12_writesNode 123 = .ok (.aload_n 0, 1) := by decide +kernel
theorem dX12_writesNode_124 : decode cX12_writesNode 124 = .ok (.bipush 40, 2) := by decide +kernel
theorem dX12_writesNode_126 : decode cX12_writesNode 126 = .ok (.invokevirtual 241, 3) := by decide +kernel
theorem dX12_writesNode_129 : decode cX12_writesNode 129 = .ok (.return_, 1) := by decide +kernel
theorem pyX12_writesNode : PY yX12_writesNode 1 := ⟨by decide +kernel, by decide +kernel, by decide +kernel⟩
def fX12_writesNode_94 (Y : LY) (S : HS) (l0 : Option Nat) (l1 : Int32) (l2 : Int32) : Option (HS) :=
  (gR Y 12 1217 l0 S).bind fun v96 =>
  (gA Y 14 v96 l1 S).bind fun v100 =>
  (gR Y 12 1218 l0 S).bind fun v102 =>
  (gA Y 14 v102 l1 S).bind fun v106 =>
  (gR Y 12 1219 l0 S).bind fun v108 =>
  (gA Y 14 v108 l1 S).bind fun v112 =>
  (rcv Y 12 l0).bind fun _ =>
  (fX12_writesDeed Y S l0 v100 v106 v112).bind fun S113 =>
  (fX12_isList Y S113 l2).bind fun v117 =>
  if v117 = 0 then
    some S113
  else
    (rcv Y 12 l0).bind fun _ =>
    (fX12_writes Y S113 l0 40).bind fun S126 =>
    some S126
set_option maxRecDepth 100000 in
set_option maxHeartbeats 4000000 in
theorem wX12_writesNode_94 {p : Program} {l : Launch} {e : Env} {R : Room} {s : State} {m : MethodId} {args : Array Value} {below : List Frame} {meth : Method} {c : Code} {G : GG} {Y : LY} {res : HS} (X : Cx p R s m args meth c RX12 cX12_writesNode 3 2 44 (fun q => q ∈ Y.1) G none) : ∀ (S : HS) (l0 : Option Nat) (l1 : Int32) (l2 : Int32), fX12_writesNode_94 Y S l0 l1 l2 = some res → ∀ (H : Heap) (locs : List Loc) (ls : Array Slot), HP (fun q => q ∈ Y.1) G Y s S H locs → LV ls 3 [(0, va_rf l0), (1, .int l1), (2, .int l2)] → W p l e R s m args below meth c H locs 0 0 (MQ below (QI G Y res none) args s 0 0 (fun q => q ∈ Y.1)) (F0 m 94 ls []) := by
  have hx := X.1.1
  have hb := X.1.2.1
  intro S l0 l1 l2 hf H locs ls hP hl
  unfold fX12_writesNode_94 at hf
  refine rw_aload_n X dX12_writesNode_94 rfl (hl.at 0 rfl) ?_
  refine rw_aload_n X dX12_writesNode_95 rfl (hl.at 0 rfl) ?_
  obtain ⟨v96, e96, hf⟩ := ob hf
  refine rw_getR X dX12_writesNode_96 fl12_49 e96 rfl hP ?_
  refine lv_iload_n hx hb dX12_writesNode_99 rfl (hl.at 1 rfl) ?_
  obtain ⟨v100, e100, hf⟩ := ob hf
  refine rw_iald X dX12_writesNode_100 e100 hP ?_
  refine rw_aload_n X dX12_writesNode_101 rfl (hl.at 0 rfl) ?_
  obtain ⟨v102, e102, hf⟩ := ob hf
  refine rw_getR X dX12_writesNode_102 fl12_52 e102 rfl hP ?_
  refine lv_iload_n hx hb dX12_writesNode_105 rfl (hl.at 1 rfl) ?_
  obtain ⟨v106, e106, hf⟩ := ob hf
  refine rw_iald X dX12_writesNode_106 e106 hP ?_
  refine rw_aload_n X dX12_writesNode_107 rfl (hl.at 0 rfl) ?_
  obtain ⟨v108, e108, hf⟩ := ob hf
  refine rw_getR X dX12_writesNode_108 fl12_55 e108 rfl hP ?_
  refine lv_iload_n hx hb dX12_writesNode_111 rfl (hl.at 1 rfl) ?_
  obtain ⟨v112, e112, hf⟩ := ob hf
  refine rw_iald X dX12_writesNode_112 e112 hP ?_
  obtain ⟨u113, r113, hf⟩ := ob hf
  obtain ⟨S113, e113, hf⟩ := ob hf
  refine rw_callVv (As := [.int v100, .int v106, .int v112]) X dX12_writesNode_113 clX12_247 pyX12_writesDeed (mX12_writesDeed l e113) (by decide) r113 rfl hP rfl (catL c1n (Nat.le_of_ble_eq_true rfl)) hl.1.1 (fun H locs hP => ?_)
  refine lv_iload_n hx hb dX12_writesNode_116 rfl (hl.at 2 rfl) ?_
  obtain ⟨v117, e117, hf⟩ := ob hf
  refine rw_callSi (As := [.int l2]) X dX12_writesNode_117 clX12_142 pyX12_isList (mX12_isList l e117) (by decide) hP rfl (catL c1n (Nat.le_of_ble_eq_true rfl)) hl.1.1 (fun H locs hP => ?_)
  refine lv_if_eq hx hb (tgt := 129) dX12_writesNode_120 (by decide) (fun c120 => ?_) (fun c120 => ?_)
  · have hf := ifp hf c120
    cases hf
    exact rw_vret X dX12_writesNode_129 hP
  · have hf := ifn hf c120
    refine rw_aload_n X dX12_writesNode_123 rfl (hl.at 0 rfl) ?_
    refine lv_bipush (v := 40) hx hb dX12_writesNode_124 (by decide) ?_
    obtain ⟨u126, r126, hf⟩ := ob hf
    obtain ⟨S126, e126, hf⟩ := ob hf
    refine rw_callVv (As := [.int 40]) X dX12_writesNode_126 clX12_241 pyX12_writes (mX12_writes l e126) (by decide) r126 rfl hP rfl (catL c1n (Nat.le_of_ble_eq_true rfl)) hl.1.1 (fun H locs hP => ?_)
    cases hf
    exact rw_vret X dX12_writesNode_129 hP
def fX12_writesNode_57 (Y : LY) (S : HS) (l0 : Option Nat) (l1 : Int32) (l2 : Int32) : Option (HS) :=
  (gR Y 12 1214 l0 S).bind fun v59 =>
  (gA Y 14 v59 l1 S).bind fun v63 =>
  (gR Y 12 1215 l0 S).bind fun v65 =>
  (gA Y 14 v65 l1 S).bind fun v69 =>
  (gR Y 12 1216 l0 S).bind fun v71 =>
  (gA Y 14 v71 l1 S).bind fun v75 =>
  (rcv Y 12 l0).bind fun _ =>
  (fX12_writesDeed Y S l0 v63 v69 v75).bind fun S76 =>
  (gR Y 12 1218 l0 S76).bind fun v80 =>
  (gA Y 14 v80 l1 S76).bind fun v84 =>
  if v84 ≤ 0 then
    fX12_writesNode_94 Y S76 l0 l1 l2
  else
    (rcv Y 12 l0).bind fun _ =>
    (fX12_writes Y S76 l0 126).bind fun S91 =>
    fX12_writesNode_94 Y S91 l0 l1 l2
set_option maxRecDepth 100000 in
set_option maxHeartbeats 4000000 in
theorem wX12_writesNode_57 {p : Program} {l : Launch} {e : Env} {R : Room} {s : State} {m : MethodId} {args : Array Value} {below : List Frame} {meth : Method} {c : Code} {G : GG} {Y : LY} {res : HS} (X : Cx p R s m args meth c RX12 cX12_writesNode 3 2 44 (fun q => q ∈ Y.1) G none) : ∀ (S : HS) (l0 : Option Nat) (l1 : Int32) (l2 : Int32), fX12_writesNode_57 Y S l0 l1 l2 = some res → ∀ (H : Heap) (locs : List Loc) (ls : Array Slot), HP (fun q => q ∈ Y.1) G Y s S H locs → LV ls 3 [(0, va_rf l0), (1, .int l1), (2, .int l2)] → W p l e R s m args below meth c H locs 0 0 (MQ below (QI G Y res none) args s 0 0 (fun q => q ∈ Y.1)) (F0 m 57 ls []) := by
  have hx := X.1.1
  have hb := X.1.2.1
  intro S l0 l1 l2 hf H locs ls hP hl
  unfold fX12_writesNode_57 at hf
  refine rw_aload_n X dX12_writesNode_57 rfl (hl.at 0 rfl) ?_
  refine rw_aload_n X dX12_writesNode_58 rfl (hl.at 0 rfl) ?_
  obtain ⟨v59, e59, hf⟩ := ob hf
  refine rw_getR X dX12_writesNode_59 fl12_40 e59 rfl hP ?_
  refine lv_iload_n hx hb dX12_writesNode_62 rfl (hl.at 1 rfl) ?_
  obtain ⟨v63, e63, hf⟩ := ob hf
  refine rw_iald X dX12_writesNode_63 e63 hP ?_
  refine rw_aload_n X dX12_writesNode_64 rfl (hl.at 0 rfl) ?_
  obtain ⟨v65, e65, hf⟩ := ob hf
  refine rw_getR X dX12_writesNode_65 fl12_43 e65 rfl hP ?_
  refine lv_iload_n hx hb dX12_writesNode_68 rfl (hl.at 1 rfl) ?_
  obtain ⟨v69, e69, hf⟩ := ob hf
  refine rw_iald X dX12_writesNode_69 e69 hP ?_
  refine rw_aload_n X dX12_writesNode_70 rfl (hl.at 0 rfl) ?_
  obtain ⟨v71, e71, hf⟩ := ob hf
  refine rw_getR X dX12_writesNode_71 fl12_46 e71 rfl hP ?_
  refine lv_iload_n hx hb dX12_writesNode_74 rfl (hl.at 1 rfl) ?_
  obtain ⟨v75, e75, hf⟩ := ob hf
  refine rw_iald X dX12_writesNode_75 e75 hP ?_
  obtain ⟨u76, r76, hf⟩ := ob hf
  obtain ⟨S76, e76, hf⟩ := ob hf
  refine rw_callVv (As := [.int v63, .int v69, .int v75]) X dX12_writesNode_76 clX12_247 pyX12_writesDeed (mX12_writesDeed l e76) (by decide) r76 rfl hP rfl (catL c1n (Nat.le_of_ble_eq_true rfl)) hl.1.1 (fun H locs hP => ?_)
  refine rw_aload_n X dX12_writesNode_79 rfl (hl.at 0 rfl) ?_
  obtain ⟨v80, e80, hf⟩ := ob hf
  refine rw_getR X dX12_writesNode_80 fl12_52 e80 rfl hP ?_
  refine lv_iload_n hx hb dX12_writesNode_83 rfl (hl.at 1 rfl) ?_
  obtain ⟨v84, e84, hf⟩ := ob hf
  refine rw_iald X dX12_writesNode_84 e84 hP ?_
  refine lv_if_le hx hb (tgt := 94) dX12_writesNode_85 (by decide) (fun c85 => ?_) (fun c85 => ?_)
  · have hf := ifp hf c85
    exact wX12_writesNode_94 X S76 l0 l1 l2 hf _ _ _ hP (hl.sub [0, 1, 2] rfl)
  · have hf := ifn hf c85
    refine rw_aload_n X dX12_writesNode_88 rfl (hl.at 0 rfl) ?_
    refine lv_bipush (v := 126) hx hb dX12_writesNode_89 (by decide) ?_
    obtain ⟨u91, r91, hf⟩ := ob hf
    obtain ⟨S91, e91, hf⟩ := ob hf
    refine rw_callVv (As := [.int 126]) X dX12_writesNode_91 clX12_241 pyX12_writes (mX12_writes l e91) (by decide) r91 rfl hP rfl (catL c1n (Nat.le_of_ble_eq_true rfl)) hl.1.1 (fun H locs hP => ?_)
    exact wX12_writesNode_94 X S91 l0 l1 l2 hf _ _ _ hP (hl.sub [0, 1, 2] rfl)
def fX12_writesNode_44 (Y : LY) (S : HS) (l0 : Option Nat) (l1 : Int32) (l2 : Int32) : Option (HS) :=
  (gR Y 12 1210 l0 S).bind fun v48 =>
  (gA Y 14 v48 l1 S).bind fun v52 =>
  (rcv Y 12 l0).bind fun _ =>
  (fX12_writes Y S l0 (48 + v52)).bind fun S54 =>
  fX12_writesNode_57 Y S54 l0 l1 l2
set_option maxRecDepth 100000 in
set_option maxHeartbeats 4000000 in
theorem wX12_writesNode_44 {p : Program} {l : Launch} {e : Env} {R : Room} {s : State} {m : MethodId} {args : Array Value} {below : List Frame} {meth : Method} {c : Code} {G : GG} {Y : LY} {res : HS} (X : Cx p R s m args meth c RX12 cX12_writesNode 3 2 44 (fun q => q ∈ Y.1) G none) : ∀ (S : HS) (l0 : Option Nat) (l1 : Int32) (l2 : Int32), fX12_writesNode_44 Y S l0 l1 l2 = some res → ∀ (H : Heap) (locs : List Loc) (ls : Array Slot), HP (fun q => q ∈ Y.1) G Y s S H locs → LV ls 3 [(0, va_rf l0), (1, .int l1), (2, .int l2)] → W p l e R s m args below meth c H locs 0 0 (MQ below (QI G Y res none) args s 0 0 (fun q => q ∈ Y.1)) (F0 m 44 ls []) := by
  have hx := X.1.1
  have hb := X.1.2.1
  intro S l0 l1 l2 hf H locs ls hP hl
  unfold fX12_writesNode_44 at hf
  refine rw_aload_n X dX12_writesNode_44 rfl (hl.at 0 rfl) ?_
  refine lv_bipush (v := 48) hx hb dX12_writesNode_45 (by decide) ?_
  refine rw_aload_n X dX12_writesNode_47 rfl (hl.at 0 rfl) ?_
  obtain ⟨v48, e48, hf⟩ := ob hf
  refine rw_getR X dX12_writesNode_48 fl12_28 e48 rfl hP ?_
  refine lv_iload_n hx hb dX12_writesNode_51 rfl (hl.at 1 rfl) ?_
  obtain ⟨v52, e52, hf⟩ := ob hf
  refine rw_iald X dX12_writesNode_52 e52 hP ?_
  refine lv_iadd hx hb dX12_writesNode_53 ?_
  obtain ⟨u54, r54, hf⟩ := ob hf
  obtain ⟨S54, e54, hf⟩ := ob hf
  refine rw_callVv (As := [.int (48 + v52)]) X dX12_writesNode_54 clX12_241 pyX12_writes (mX12_writes l e54) (by decide) r54 rfl hP rfl (catL c1n (Nat.le_of_ble_eq_true rfl)) hl.1.1 (fun H locs hP => ?_)
  exact wX12_writesNode_57 X S54 l0 l1 l2 hf _ _ _ hP (hl.sub [0, 1, 2] rfl)
def fX12_writesNode (Y : LY) (S : HS) (l0 : Option Nat) (l1 : Int32) : Option (HS) :=
  (gR Y 12 1209 l0 S).bind fun v1 =>
  (gA Y 14 v1 l1 S).bind fun v5 =>
  (fX12_letter Y S v5).bind fun v9 =>
  (rcv Y 12 l0).bind fun _ =>
  (fX12_writes Y S l0 v9).bind fun S12 =>
  if v5 < 2 then
    fX12_writesNode_44 Y S12 l0 l1 v5
  else
    if v5 = 8 then
      fX12_writesNode_44 Y S12 l0 l1 v5
    else
      if v5 = 10 then
        fX12_writesNode_44 Y S12 l0 l1 v5
      else
        if v5 = 11 then
          fX12_writesNode_44 Y S12 l0 l1 v5
        else
          if v5 < 13 then
            fX12_writesNode_57 Y S12 l0 l1 v5
          else
            fX12_writesNode_44 Y S12 l0 l1 v5
set_option maxRecDepth 100000 in
set_option maxHeartbeats 4000000 in
theorem mX12_writesNode (l : Launch) {G : GG} {Y : LY} {S : HS} {l0 : Option Nat} {l1 : Int32} {res : HS} (hf : fX12_writesNode Y S l0 l1 = some res) : MM l yX12_writesNode cX12_writesNode 3 none 2 44 G Y S [va_rf l0, .int l1] res none := by
  refine mm_of2 (plainFor_of_name (by decide +kernel)) (Nat.le_of_ble_eq_true rfl) (c1c (cr _) (c1c (ci _) c1n)) ?_
  intro p e R s m args below meth c X H locs ls hP hl
  have X : Cx p R s m args meth c RX12 cX12_writesNode 3 2 44 (fun q => q ∈ Y.1) G none := X
  have hx := X.1.1
  have hb := X.1.2.1
  have hl : LV ls 3 [(0, va_rf l0), (1, .int l1)] := hl
  unfold fX12_writesNode at hf
  refine rw_aload_n X dX12_writesNode_0 rfl (hl.at 0 rfl) ?_
  obtain ⟨v1, e1, hf⟩ := ob hf
  refine rw_getR X dX12_writesNode_1 fl12_25 e1 rfl hP ?_
  refine lv_iload_n hx hb dX12_writesNode_4 rfl (hl.at 1 rfl) ?_
  obtain ⟨v5, e5, hf⟩ := ob hf
  refine rw_iald X dX12_writesNode_5 e5 hP ?_
  refine rv_istore_n X dX12_writesNode_6 rfl hl (by decide) rfl (fun ls hl => ?_)
  have hl : LV ls 3 [(2, .int v5), (0, va_rf l0), (1, .int l1)] := hl
  refine rw_aload_n X dX12_writesNode_7 rfl (hl.at 1 rfl) ?_
  refine lv_iload_n hx hb dX12_writesNode_8 rfl (hl.at 0 rfl) ?_
  obtain ⟨v9, e9, hf⟩ := ob hf
  refine rw_callSi (As := [.int v5]) X dX12_writesNode_9 clX12_244 pyX12_letter (mX12_letter l e9) (by decide) hP rfl (catL (c1c (cr _) c1n) (Nat.le_of_ble_eq_true rfl)) hl.1.1 (fun H locs hP => ?_)
  obtain ⟨u12, r12, hf⟩ := ob hf
  obtain ⟨S12, e12, hf⟩ := ob hf
  refine rw_callVv (As := [.int v9]) X dX12_writesNode_12 clX12_241 pyX12_writes (mX12_writes l e12) (by decide) r12 rfl hP rfl (catL c1n (Nat.le_of_ble_eq_true rfl)) hl.1.1 (fun H locs hP => ?_)
  refine lv_iload_n hx hb dX12_writesNode_15 rfl (hl.at 0 rfl) ?_
  refine lv_iconst (v := 2) hx hb dX12_writesNode_16 (by decide) ?_
  refine lv_icmp_lt hx hb (tgt := 44) dX12_writesNode_17 (by decide) (fun c17 => ?_) (fun c17 => ?_)
  · have hf := ifp hf c17
    exact wX12_writesNode_44 X S12 l0 l1 v5 hf _ _ _ hP (hl.sub [1, 2, 0] rfl)
  · have hf := ifn hf c17
    refine lv_iload_n hx hb dX12_writesNode_20 rfl (hl.at 0 rfl) ?_
    refine lv_bipush (v := 8) hx hb dX12_writesNode_21 (by decide) ?_
    refine lv_icmp_eq hx hb (tgt := 44) dX12_writesNode_23 (by decide) (fun c23 => ?_) (fun c23 => ?_)
    · have hf := ifp hf c23
      exact wX12_writesNode_44 X S12 l0 l1 v5 hf _ _ _ hP (hl.sub [1, 2, 0] rfl)
    · have hf := ifn hf c23
      refine lv_iload_n hx hb dX12_writesNode_26 rfl (hl.at 0 rfl) ?_
      refine lv_bipush (v := 10) hx hb dX12_writesNode_27 (by decide) ?_
      refine lv_icmp_eq hx hb (tgt := 44) dX12_writesNode_29 (by decide) (fun c29 => ?_) (fun c29 => ?_)
      · have hf := ifp hf c29
        exact wX12_writesNode_44 X S12 l0 l1 v5 hf _ _ _ hP (hl.sub [1, 2, 0] rfl)
      · have hf := ifn hf c29
        refine lv_iload_n hx hb dX12_writesNode_32 rfl (hl.at 0 rfl) ?_
        refine lv_bipush (v := 11) hx hb dX12_writesNode_33 (by decide) ?_
        refine lv_icmp_eq hx hb (tgt := 44) dX12_writesNode_35 (by decide) (fun c35 => ?_) (fun c35 => ?_)
        · have hf := ifp hf c35
          exact wX12_writesNode_44 X S12 l0 l1 v5 hf _ _ _ hP (hl.sub [1, 2, 0] rfl)
        · have hf := ifn hf c35
          refine lv_iload_n hx hb dX12_writesNode_38 rfl (hl.at 0 rfl) ?_
          refine lv_bipush (v := 13) hx hb dX12_writesNode_39 (by decide) ?_
          refine lv_icmp_lt hx hb (tgt := 57) dX12_writesNode_41 (by decide) (fun c41 => ?_) (fun c41 => ?_)
          · have hf := ifp hf c41
            exact wX12_writesNode_57 X S12 l0 l1 v5 hf _ _ _ hP (hl.sub [1, 2, 0] rfl)
          · have hf := ifn hf c41
            exact wX12_writesNode_44 X S12 l0 l1 v5 hf _ _ _ hP (hl.sub [1, 2, 0] rfl)
theorem dX12_write_0 : decode cX12_write 0 = .ok (.aload_n 0, 1) := by decide +kernel
theorem dX12_write_1 : decode cX12_write 1 = .ok (.getfield 155, 3) := by decide +kernel
theorem dX12_write_4 : decode cX12_write 4 = .ok (.ifCond .ne 7, 3) := by decide +kernel
theorem dX12_write_7 : decode cX12_write 7 = .ok (.sipush (-1004), 3) := by decide +kernel
theorem dX12_write_10 : decode cX12_write 10 = .ok (.ireturn, 1) := by decide +kernel
theorem dX12_write_11 : decode cX12_write 11 = .ok (.aload_n 0, 1) := by decide +kernel
theorem dX12_write_12 : decode cX12_write 12 = .ok (.iconst 0, 1) := by decide +kernel
theorem dX12_write_13 : decode cX12_write 13 = .ok (.putfield 238, 3) := by decide +kernel
theorem dX12_write_16 : decode cX12_write 16 = .ok (.iconst 0, 1) := by decide +kernel
theorem dX12_write_17 : decode cX12_write 17 = .ok (.istore_n 1, 1) := by decide +kernel
theorem dX12_write_18 : decode cX12_write 18 = .ok (.iload_n 1, 1) := by decide +kernel
theorem dX12_write_19 : decode cX12_write 19 = .ok (.aload_n 0, 1) := by decide +kernel
theorem dX12_write_20 : decode cX12_write 20 = .ok (.getfield 155, 3) := by decide +kernel
theorem dX12_write_23 : decode cX12_write 23 = .ok (.if_icmp .ge 111, 3) := by decide +kernel
theorem dX12_write_26 : decode cX12_write 26 = .ok (.aload_n 0, 1) := by decide +kernel
theorem dX12_write_27 : decode cX12_write 27 = .ok (.iload_n 1, 1) := by decide +kernel
theorem dX12_write_28 : decode cX12_write 28 = .ok (.invokevirtual 250, 3) := by decide +kernel
theorem dX12_write_31 : decode cX12_write 31 = .ok (.aload_n 0, 1) := by decide +kernel
theorem dX12_write_32 : decode cX12_write 32 = .ok (.getfield 25, 3) := by decide +kernel
theorem dX12_write_35 : decode cX12_write 35 = .ok (.iload_n 1, 1) := by decide +kernel
theorem dX12_write_36 : decode cX12_write 36 = .ok (.iaload, 1) := by decide +kernel
theorem dX12_write_37 : decode cX12_write 37 = .ok (.iconst 3, 1) := by decide +kernel
theorem dX12_write_38 : decode cX12_write 38 = .ok (.if_icmp .le 6, 3) := by decide +kernel
theorem dX12_write_41 : decode cX12_write 41 = .ok (.goto 87, 3) := by decide +kernel
theorem dX12_write_44 : decode cX12_write 44 = .ok (.aload_n 0, 1) := by decide +kernel
theorem dX12_write_45 : decode cX12_write 45 = .ok (.getfield 31, 3) := by decide +kernel
theorem dX12_write_48 : decode cX12_write 48 = .ok (.iload_n 1, 1) := by decide +kernel
theorem dX12_write_49 : decode cX12_write 49 = .ok (.iaload, 1) := by decide +kernel
theorem dX12_write_50 : decode cX12_write 50 = .ok (.istore_n 2, 1) := by decide +kernel
theorem dX12_write_51 : decode cX12_write 51 = .ok (.iload_n 2, 1) := by decide +kernel
theorem dX12_write_52 : decode cX12_write 52 = .ok (.ifCond .lt 41, 3) := by decide +kernel
theorem dX12_write_55 : decode cX12_write 55 = .ok (.aload_n 0, 1) := by decide +kernel
theorem dX12_write_56 : decode cX12_write 56 = .ok (.getfield 37, 3) := by decide +kernel
theorem dX12_write_59 : decode cX12_write 59 = .ok (.iload_n 2, 1) := by decide +kernel
theorem dX12_write_60 : decode cX12_write 60 = .ok (.iaload, 1) := by decide +kernel
theorem dX12_write_61 : decode cX12_write 61 = .ok (.iload_n 1, 1) := by decide +kernel
theorem dX12_write_62 : decode cX12_write 62 = .ok (.if_icmp .ne 31, 3) := by decide +kernel
theorem dX12_write_65 : decode cX12_write 65 = .ok (.aload_n 0, 1) := by decide +kernel
theorem dX12_write_66 : decode cX12_write 66 = .ok (.getfield 25, 3) := by decide +kernel
theorem dX12_write_69 : decode cX12_write 69 = .ok (.iload_n 2, 1) := by decide +kernel
theorem dX12_write_70 : decode cX12_write 70 = .ok (.iaload, 1) := by decide +kernel
theorem dX12_write_71 : decode cX12_write 71 = .ok (.invokestatic 142, 3) := by decide +kernel
theorem dX12_write_74 : decode cX12_write 74 = .ok (.ifCond .eq 9, 3) := by decide +kernel
theorem dX12_write_77 : decode cX12_write 77 = .ok (.aload_n 0, 1) := by decide +kernel
theorem dX12_write_78 : decode cX12_write 78 = .ok (.bipush 41, 2) := by decide +kernel
theorem dX12_write_80 : decode cX12_write 80 = .ok (.invokevirtual 241, 3) := by decide +kernel
theorem dX12_write_83 : decode cX12_write 83 = .ok (.aload_n 0, 1) := by decide +kernel
theorem dX12_write_84 : decode cX12_write 84 = .ok (.getfield 31, 3) := by decide +kernel
theorem dX12_write_87 : decode cX12_write 87 = .ok (.iload_n 2, 1) := by decide +kernel
theorem dX12_write_88 : decode cX12_write 88 = .ok (.iaload, 1) := by decide +kernel
theorem dX12_write_89 : decode cX12_write 89 = .ok (.istore_n 2, 1) := by decide +kernel
theorem dX12_write_90 : decode cX12_write 90 = .ok (.goto (-39), 3) := by decide +kernel
theorem dX12_write_93 : decode cX12_write 93 = .ok (.iload_n 1, 1) := by decide +kernel
theorem dX12_write_94 : decode cX12_write 94 = .ok (.iconst 1, 1) := by decide +kernel
theorem dX12_write_95 : decode cX12_write 95 = .ok (.iadd, 1) := by decide +kernel
theorem dX12_write_96 : decode cX12_write 96 = .ok (.istore_n 2, 1) := by decide +kernel
theorem dX12_write_97 : decode cX12_write 97 = .ok (.iload_n 2, 1) := by decide +kernel
theorem dX12_write_98 : decode cX12_write 98 = .ok (.aload_n 0, 1) := by decide +kernel
theorem dX12_write_99 : decode cX12_write 99 = .ok (.getfield 155, 3) := by decide +kernel
theorem dX12_write_102 : decode cX12_write 102 = .ok (.if_icmp .ge 26, 3) := by decide +kernel
theorem dX12_write_105 : decode cX12_write 105 = .ok (.aload_n 0, 1) := by decide +kernel
theorem dX12_write_106 : decode cX12_write 106 = .ok (.getfield 25, 3) := by decide +kernel
theorem dX12_write_109 : decode cX12_write 109 = .ok (.aload_n 0, 1) := by decide +kernel
theorem dX12_write_110 : decode cX12_write 110 = .ok (.getfield 31, 3) := by decide +kernel
theorem dX12_write_113 : decode cX12_write 113 = .ok (.iload_n 2, 1) := by decide +kernel
theorem dX12_write_114 : decode cX12_write 114 = .ok (.iaload, 1) := by decide +kernel
theorem dX12_write_115 : decode cX12_write 115 = .ok (.iaload, 1) := by decide +kernel
theorem dX12_write_116 : decode cX12_write 116 = .ok (.invokestatic 142, 3) := by decide +kernel
theorem dX12_write_119 : decode cX12_write 119 = .ok (.ifCond .eq 9, 3) := by decide +kernel
theorem dX12_write_122 : decode cX12_write 122 = .ok (.aload_n 0, 1) := by decide +kernel
theorem dX12_write_123 : decode cX12_write 123 = .ok (.bipush 44, 2) := by decide +kernel
theorem dX12_write_125 : decode cX12_write 125 = .ok (.invokevirtual 241, 3) := by decide +kernel
theorem dX12_write_128 : decode cX12_write 128 = .ok (.iinc 1 1, 3) := by decide +kernel
theorem dX12_write_131 : decode cX12_write 131 = .ok (.goto (-113), 3) := by decide +kernel
theorem dX12_write_134 : decode cX12_write 134 = .ok (.aload_n 0, 1) := by decide +kernel
theorem dX12_write_135 : decode cX12_write 135 = .ok (.getfield 238, 3) := by decide +kernel
theorem dX12_write_138 : decode cX12_write 138 = .ok (.ireturn, 1) := by decide +kernel
theorem pyX12_write : PY yX12_write 0 := ⟨by decide +kernel, by decide +kernel, by decide +kernel⟩
def fX12_write_93 (k18 : HS → Option Nat → Int32 → Option (HS × Int32)) (Y : LY) (S : HS) (l0 : Option Nat) (l1 : Int32) : Option (HS × Int32) :=
  (gI Y 12 1208 l0 S).bind fun v99 =>
  if v99 ≤ (l1 + 1) then
    k18 S l0 (l1 + 1)
  else
    (gR Y 12 1209 l0 S).bind fun v106 =>
    (gR Y 12 1211 l0 S).bind fun v110 =>
    (gA Y 14 v110 (l1 + 1) S).bind fun v114 =>
    (gA Y 14 v106 v114 S).bind fun v115 =>
    (fX12_isList Y S v115).bind fun v116 =>
    if v116 = 0 then
      k18 S l0 (l1 + 1)
    else
      (rcv Y 12 l0).bind fun _ =>
      (fX12_writes Y S l0 44).bind fun S125 =>
      k18 S125 l0 (l1 + 1)
set_option maxRecDepth 100000 in
set_option maxHeartbeats 4000000 in
theorem wX12_write_93 {p : Program} {l : Launch} {e : Env} {R : Room} {s : State} {m : MethodId} {args : Array Value} {below : List Frame} {meth : Method} {c : Code} {G : GG} {Y : LY} {res : HS × Int32} (X : Cx p R s m args meth c RX12 cX12_write 3 3 66 (fun q => q ∈ Y.1) G (some .int)) {k18 : HS → Option Nat → Int32 → Option (HS × Int32)} (hk18 : ∀ (S : HS) (l0 : Option Nat) (l1 : Int32), k18 S l0 l1 = some res → ∀ (H : Heap) (locs : List Loc) (ls : Array Slot), HP (fun q => q ∈ Y.1) G Y s S H locs → LV ls 3 [(0, va_rf l0), (1, .int l1)] → W p l e R s m args below meth c H locs 0 0 (MQ below (QI G Y res.1 (some (.int res.2))) args s 0 0 (fun q => q ∈ Y.1)) (F0 m 18 ls [])) : ∀ (S : HS) (l0 : Option Nat) (l1 : Int32), fX12_write_93 k18 Y S l0 l1 = some res → ∀ (H : Heap) (locs : List Loc) (ls : Array Slot), HP (fun q => q ∈ Y.1) G Y s S H locs → LV ls 3 [(0, va_rf l0), (1, .int l1)] → W p l e R s m args below meth c H locs 0 0 (MQ below (QI G Y res.1 (some (.int res.2))) args s 0 0 (fun q => q ∈ Y.1)) (F0 m 93 ls []) := by
  have hx := X.1.1
  have hb := X.1.2.1
  intro S l0 l1 hf H locs ls hP hl
  unfold fX12_write_93 at hf
  refine lv_iload_n hx hb dX12_write_93 rfl (hl.at 1 rfl) ?_
  refine lv_iconst (v := 1) hx hb dX12_write_94 (by decide) ?_
  refine lv_iadd hx hb dX12_write_95 ?_
  refine rv_istore_n X dX12_write_96 rfl hl (by decide) rfl (fun ls hl => ?_)
  have hl : LV ls 3 [(2, .int (l1 + 1)), (0, va_rf l0), (1, .int l1)] := hl
  refine lv_iload_n hx hb dX12_write_97 rfl (hl.at 0 rfl) ?_
  refine rw_aload_n X dX12_write_98 rfl (hl.at 1 rfl) ?_
  obtain ⟨v99, e99, hf⟩ := ob hf
  refine rw_getI X dX12_write_99 fl12_155 e99 rfl hP ?_
  refine lv_icmp_ge hx hb (tgt := 128) dX12_write_102 (by decide) (fun c102 => ?_) (fun c102 => ?_)
  · have hf := ifp hf c102
    refine rv_iinc (k := 2) (d := 1) X dX12_write_128 hl rfl (by decide) (by decide) rfl (fun ls hl => ?_)
    have hl : LV ls 3 [(1, .int (l1 + 1)), (2, .int (l1 + 1)), (0, va_rf l0)] := hl
    refine lv_goto (tgt := 18) hx hb dX12_write_131 (by decide) ?_
    exact hk18 S l0 (l1 + 1) hf _ _ _ hP (hl.sub [2, 0] rfl)
  · have hf := ifn hf c102
    refine rw_aload_n X dX12_write_105 rfl (hl.at 1 rfl) ?_
    obtain ⟨v106, e106, hf⟩ := ob hf
    refine rw_getR X dX12_write_106 fl12_25 e106 rfl hP ?_
    refine rw_aload_n X dX12_write_109 rfl (hl.at 1 rfl) ?_
    obtain ⟨v110, e110, hf⟩ := ob hf
    refine rw_getR X dX12_write_110 fl12_31 e110 rfl hP ?_
    refine lv_iload_n hx hb dX12_write_113 rfl (hl.at 0 rfl) ?_
    obtain ⟨v114, e114, hf⟩ := ob hf
    refine rw_iald X dX12_write_114 e114 hP ?_
    obtain ⟨v115, e115, hf⟩ := ob hf
    refine rw_iald X dX12_write_115 e115 hP ?_
    obtain ⟨v116, e116, hf⟩ := ob hf
    refine rw_callSi (As := [.int v115]) X dX12_write_116 clX12_142 pyX12_isList (mX12_isList l e116) (by decide) hP rfl (catL c1n (Nat.le_of_ble_eq_true rfl)) hl.1.1 (fun H locs hP => ?_)
    refine lv_if_eq hx hb (tgt := 128) dX12_write_119 (by decide) (fun c119 => ?_) (fun c119 => ?_)
    · have hf := ifp hf c119
      refine rv_iinc (k := 2) (d := 1) X dX12_write_128 hl rfl (by decide) (by decide) rfl (fun ls hl => ?_)
      have hl : LV ls 3 [(1, .int (l1 + 1)), (2, .int (l1 + 1)), (0, va_rf l0)] := hl
      refine lv_goto (tgt := 18) hx hb dX12_write_131 (by decide) ?_
      exact hk18 S l0 (l1 + 1) hf _ _ _ hP (hl.sub [2, 0] rfl)
    · have hf := ifn hf c119
      refine rw_aload_n X dX12_write_122 rfl (hl.at 1 rfl) ?_
      refine lv_bipush (v := 44) hx hb dX12_write_123 (by decide) ?_
      obtain ⟨u125, r125, hf⟩ := ob hf
      obtain ⟨S125, e125, hf⟩ := ob hf
      refine rw_callVv (As := [.int 44]) X dX12_write_125 clX12_241 pyX12_writes (mX12_writes l e125) (by decide) r125 rfl hP rfl (catL c1n (Nat.le_of_ble_eq_true rfl)) hl.1.1 (fun H locs hP => ?_)
      refine rv_iinc (k := 2) (d := 1) X dX12_write_128 hl rfl (by decide) (by decide) rfl (fun ls hl => ?_)
      have hl : LV ls 3 [(1, .int (l1 + 1)), (2, .int (l1 + 1)), (0, va_rf l0)] := hl
      refine lv_goto (tgt := 18) hx hb dX12_write_131 (by decide) ?_
      exact hk18 S125 l0 (l1 + 1) hf _ _ _ hP (hl.sub [2, 0] rfl)
def fX12_write_51 (k18 : HS → Option Nat → Int32 → Option (HS × Int32)) (Y : LY) : Nat → HS → Option Nat → Int32 → Int32 → Option (HS × Int32)
  | 0, _, _, _, _ => none
  | n + 1, S, l0, l1, l2 =>
    if l2 < 0 then
      fX12_write_93 k18 Y S l0 l1
    else
      (gR Y 12 1213 l0 S).bind fun v56 =>
      (gA Y 14 v56 l2 S).bind fun v60 =>
      if v60 = l1 then
        (gR Y 12 1209 l0 S).bind fun v66 =>
        (gA Y 14 v66 l2 S).bind fun v70 =>
        (fX12_isList Y S v70).bind fun v71 =>
        if v71 = 0 then
          (gR Y 12 1211 l0 S).bind fun v84 =>
          (gA Y 14 v84 l2 S).bind fun v88 =>
          fX12_write_51 k18 Y n S l0 l1 v88
        else
          (rcv Y 12 l0).bind fun _ =>
          (fX12_writes Y S l0 41).bind fun S80 =>
          (gR Y 12 1211 l0 S80).bind fun v84 =>
          (gA Y 14 v84 l2 S80).bind fun v88 =>
          fX12_write_51 k18 Y n S80 l0 l1 v88
      else
        fX12_write_93 k18 Y S l0 l1
set_option maxRecDepth 100000 in
set_option maxHeartbeats 4000000 in
theorem wX12_write_51 {p : Program} {l : Launch} {e : Env} {R : Room} {s : State} {m : MethodId} {args : Array Value} {below : List Frame} {meth : Method} {c : Code} {G : GG} {Y : LY} {res : HS × Int32} (X : Cx p R s m args meth c RX12 cX12_write 3 3 66 (fun q => q ∈ Y.1) G (some .int)) {k18 : HS → Option Nat → Int32 → Option (HS × Int32)} (hk18 : ∀ (S : HS) (l0 : Option Nat) (l1 : Int32), k18 S l0 l1 = some res → ∀ (H : Heap) (locs : List Loc) (ls : Array Slot), HP (fun q => q ∈ Y.1) G Y s S H locs → LV ls 3 [(0, va_rf l0), (1, .int l1)] → W p l e R s m args below meth c H locs 0 0 (MQ below (QI G Y res.1 (some (.int res.2))) args s 0 0 (fun q => q ∈ Y.1)) (F0 m 18 ls [])) : ∀ (n : Nat) (S : HS) (l0 : Option Nat) (l1 : Int32) (l2 : Int32), fX12_write_51 k18 Y n S l0 l1 l2 = some res → ∀ (H : Heap) (locs : List Loc) (ls : Array Slot), HP (fun q => q ∈ Y.1) G Y s S H locs → LV ls 3 [(0, va_rf l0), (1, .int l1), (2, .int l2)] → W p l e R s m args below meth c H locs 0 0 (MQ below (QI G Y res.1 (some (.int res.2))) args s 0 0 (fun q => q ∈ Y.1)) (F0 m 51 ls []) := by
  have hx := X.1.1
  have hb := X.1.2.1
  intro n
  induction n with
  | zero =>
    intro S l0 l1 l2 hf
    cases hf
  | succ n ih =>
    intro S l0 l1 l2 hf H locs ls hP hl
    rw [fX12_write_51] at hf
    refine lv_iload_n hx hb dX12_write_51 rfl (hl.at 2 rfl) ?_
    refine lv_if_lt hx hb (tgt := 93) dX12_write_52 (by decide) (fun c52 => ?_) (fun c52 => ?_)
    · have hf := ifp hf c52
      exact wX12_write_93 X hk18 S l0 l1 hf _ _ _ hP (hl.sub [0, 1] rfl)
    · have hf := ifn hf c52
      refine rw_aload_n X dX12_write_55 rfl (hl.at 0 rfl) ?_
      obtain ⟨v56, e56, hf⟩ := ob hf
      refine rw_getR X dX12_write_56 fl12_37 e56 rfl hP ?_
      refine lv_iload_n hx hb dX12_write_59 rfl (hl.at 2 rfl) ?_
      obtain ⟨v60, e60, hf⟩ := ob hf
      refine rw_iald X dX12_write_60 e60 hP ?_
      refine lv_iload_n hx hb dX12_write_61 rfl (hl.at 1 rfl) ?_
      refine lv_icmp_ne hx hb (tgt := 93) dX12_write_62 (by decide) (fun c62 => ?_) (fun c62 => ?_)
      · have hf := ifn hf c62
        exact wX12_write_93 X hk18 S l0 l1 hf _ _ _ hP (hl.sub [0, 1] rfl)
      · have hf := ifp hf c62
        refine rw_aload_n X dX12_write_65 rfl (hl.at 0 rfl) ?_
        obtain ⟨v66, e66, hf⟩ := ob hf
        refine rw_getR X dX12_write_66 fl12_25 e66 rfl hP ?_
        refine lv_iload_n hx hb dX12_write_69 rfl (hl.at 2 rfl) ?_
        obtain ⟨v70, e70, hf⟩ := ob hf
        refine rw_iald X dX12_write_70 e70 hP ?_
        obtain ⟨v71, e71, hf⟩ := ob hf
        refine rw_callSi (As := [.int v70]) X dX12_write_71 clX12_142 pyX12_isList (mX12_isList l e71) (by decide) hP rfl (catL c1n (Nat.le_of_ble_eq_true rfl)) hl.1.1 (fun H locs hP => ?_)
        refine lv_if_eq hx hb (tgt := 83) dX12_write_74 (by decide) (fun c74 => ?_) (fun c74 => ?_)
        · have hf := ifp hf c74
          refine rw_aload_n X dX12_write_83 rfl (hl.at 0 rfl) ?_
          obtain ⟨v84, e84, hf⟩ := ob hf
          refine rw_getR X dX12_write_84 fl12_31 e84 rfl hP ?_
          refine lv_iload_n hx hb dX12_write_87 rfl (hl.at 2 rfl) ?_
          obtain ⟨v88, e88, hf⟩ := ob hf
          refine rw_iald X dX12_write_88 e88 hP ?_
          refine rv_istore_n X dX12_write_89 rfl hl (by decide) rfl (fun ls hl => ?_)
          have hl : LV ls 3 [(2, .int v88), (0, va_rf l0), (1, .int l1)] := hl
          refine lv_goto (tgt := 51) hx hb dX12_write_90 (by decide) ?_
          exact ih S l0 l1 v88 hf _ _ _ hP (hl.sub [1, 2, 0] rfl)
        · have hf := ifn hf c74
          refine rw_aload_n X dX12_write_77 rfl (hl.at 0 rfl) ?_
          refine lv_bipush (v := 41) hx hb dX12_write_78 (by decide) ?_
          obtain ⟨u80, r80, hf⟩ := ob hf
          obtain ⟨S80, e80, hf⟩ := ob hf
          refine rw_callVv (As := [.int 41]) X dX12_write_80 clX12_241 pyX12_writes (mX12_writes l e80) (by decide) r80 rfl hP rfl (catL c1n (Nat.le_of_ble_eq_true rfl)) hl.1.1 (fun H locs hP => ?_)
          refine rw_aload_n X dX12_write_83 rfl (hl.at 0 rfl) ?_
          obtain ⟨v84, e84, hf⟩ := ob hf
          refine rw_getR X dX12_write_84 fl12_31 e84 rfl hP ?_
          refine lv_iload_n hx hb dX12_write_87 rfl (hl.at 2 rfl) ?_
          obtain ⟨v88, e88, hf⟩ := ob hf
          refine rw_iald X dX12_write_88 e88 hP ?_
          refine rv_istore_n X dX12_write_89 rfl hl (by decide) rfl (fun ls hl => ?_)
          have hl : LV ls 3 [(2, .int v88), (0, va_rf l0), (1, .int l1)] := hl
          refine lv_goto (tgt := 51) hx hb dX12_write_90 (by decide) ?_
          exact ih S80 l0 l1 v88 hf _ _ _ hP (hl.sub [1, 2, 0] rfl)
def fX12_write_18 (Y : LY) : Nat → HS → Option Nat → Int32 → Option (HS × Int32)
  | 0, _, _, _ => none
  | n + 1, S, l0, l1 =>
    (gI Y 12 1208 l0 S).bind fun v20 =>
    if v20 ≤ l1 then
      (gI Y 12 1207 l0 S).bind fun v135 =>
      some (S, v135)
    else
      (rcv Y 12 l0).bind fun _ =>
      (fX12_writesNode Y S l0 l1).bind fun S28 =>
      (gR Y 12 1209 l0 S28).bind fun v32 =>
      (gA Y 14 v32 l1 S28).bind fun v36 =>
      if v36 ≤ 3 then
        (gR Y 12 1211 l0 S28).bind fun v45 =>
        (gA Y 14 v45 l1 S28).bind fun v49 =>
        fX12_write_51 (fX12_write_18 Y n) Y FU S28 l0 l1 v49
      else
        fX12_write_18 Y n S28 l0 (l1 + 1)
set_option maxRecDepth 100000 in
set_option maxHeartbeats 4000000 in
theorem wX12_write_18 {p : Program} {l : Launch} {e : Env} {R : Room} {s : State} {m : MethodId} {args : Array Value} {below : List Frame} {meth : Method} {c : Code} {G : GG} {Y : LY} {res : HS × Int32} (X : Cx p R s m args meth c RX12 cX12_write 3 3 66 (fun q => q ∈ Y.1) G (some .int)) : ∀ (n : Nat) (S : HS) (l0 : Option Nat) (l1 : Int32), fX12_write_18 Y n S l0 l1 = some res → ∀ (H : Heap) (locs : List Loc) (ls : Array Slot), HP (fun q => q ∈ Y.1) G Y s S H locs → LV ls 3 [(0, va_rf l0), (1, .int l1)] → W p l e R s m args below meth c H locs 0 0 (MQ below (QI G Y res.1 (some (.int res.2))) args s 0 0 (fun q => q ∈ Y.1)) (F0 m 18 ls []) := by
  have hx := X.1.1
  have hb := X.1.2.1
  intro n
  induction n with
  | zero =>
    intro S l0 l1 hf
    cases hf
  | succ n ih =>
    intro S l0 l1 hf H locs ls hP hl
    rw [fX12_write_18] at hf
    refine lv_iload_n hx hb dX12_write_18 rfl (hl.at 1 rfl) ?_
    refine rw_aload_n X dX12_write_19 rfl (hl.at 0 rfl) ?_
    obtain ⟨v20, e20, hf⟩ := ob hf
    refine rw_getI X dX12_write_20 fl12_155 e20 rfl hP ?_
    refine lv_icmp_ge hx hb (tgt := 134) dX12_write_23 (by decide) (fun c23 => ?_) (fun c23 => ?_)
    · have hf := ifp hf c23
      refine rw_aload_n X dX12_write_134 rfl (hl.at 0 rfl) ?_
      obtain ⟨v135, e135, hf⟩ := ob hf
      refine rw_getI X dX12_write_135 fl12_238 e135 rfl hP ?_
      cases hf
      exact rw_iret X dX12_write_138 hP
    · have hf := ifn hf c23
      refine rw_aload_n X dX12_write_26 rfl (hl.at 0 rfl) ?_
      refine lv_iload_n hx hb dX12_write_27 rfl (hl.at 1 rfl) ?_
      obtain ⟨u28, r28, hf⟩ := ob hf
      obtain ⟨S28, e28, hf⟩ := ob hf
      refine rw_callVv (As := [.int l1]) X dX12_write_28 clX12_250 pyX12_writesNode (mX12_writesNode l e28) (by decide) r28 rfl hP rfl (catL c1n (Nat.le_of_ble_eq_true rfl)) hl.1.1 (fun H locs hP => ?_)
      refine rw_aload_n X dX12_write_31 rfl (hl.at 0 rfl) ?_
      obtain ⟨v32, e32, hf⟩ := ob hf
      refine rw_getR X dX12_write_32 fl12_25 e32 rfl hP ?_
      refine lv_iload_n hx hb dX12_write_35 rfl (hl.at 1 rfl) ?_
      obtain ⟨v36, e36, hf⟩ := ob hf
      refine rw_iald X dX12_write_36 e36 hP ?_
      refine lv_iconst (v := 3) hx hb dX12_write_37 (by decide) ?_
      refine lv_icmp_le hx hb (tgt := 44) dX12_write_38 (by decide) (fun c38 => ?_) (fun c38 => ?_)
      · have hf := ifp hf c38
        refine rw_aload_n X dX12_write_44 rfl (hl.at 0 rfl) ?_
        obtain ⟨v45, e45, hf⟩ := ob hf
        refine rw_getR X dX12_write_45 fl12_31 e45 rfl hP ?_
        refine lv_iload_n hx hb dX12_write_48 rfl (hl.at 1 rfl) ?_
        obtain ⟨v49, e49, hf⟩ := ob hf
        refine rw_iald X dX12_write_49 e49 hP ?_
        refine rv_istore_n X dX12_write_50 rfl hl (by decide) rfl (fun ls hl => ?_)
        have hl : LV ls 3 [(2, .int v49), (0, va_rf l0), (1, .int l1)] := hl
        exact wX12_write_51 X ih FU S28 l0 l1 v49 hf _ _ _ hP (hl.sub [1, 2, 0] rfl)
      · have hf := ifn hf c38
        refine lv_goto (tgt := 128) hx hb dX12_write_41 (by decide) ?_
        refine rv_iinc (k := 1) (d := 1) X dX12_write_128 hl rfl (by decide) (by decide) rfl (fun ls hl => ?_)
        have hl : LV ls 3 [(1, .int (l1 + 1)), (0, va_rf l0)] := hl
        refine lv_goto (tgt := 18) hx hb dX12_write_131 (by decide) ?_
        exact ih S28 l0 (l1 + 1) hf _ _ _ hP (hl.sub [1, 0] rfl)
def fX12_write (Y : LY) (S : HS) (l0 : Option Nat) : Option (HS × Int32) :=
  (gI Y 12 1208 l0 S).bind fun v1 =>
  if v1 = 0 then
    some (S, (-1004))
  else
    (pI Y 12 1207 l0 0 S).bind fun S13 =>
    fX12_write_18 Y FU S13 l0 0
set_option maxRecDepth 100000 in
set_option maxHeartbeats 4000000 in
theorem mX12_write (l : Launch) {G : GG} {Y : LY} {S : HS} {l0 : Option Nat} {res : HS × Int32} (hf : fX12_write Y S l0 = some res) : MM l yX12_write cX12_write 3 (some .int) 3 66 G Y S [va_rf l0] res.1 (some (.int res.2)) := by
  refine mm_of2 (plainFor_of_name (by decide +kernel)) (Nat.le_of_ble_eq_true rfl) (c1c (cr _) c1n) ?_
  intro p e R s m args below meth c X H locs ls hP hl
  have X : Cx p R s m args meth c RX12 cX12_write 3 3 66 (fun q => q ∈ Y.1) G (some .int) := X
  have hx := X.1.1
  have hb := X.1.2.1
  have hl : LV ls 3 [(0, va_rf l0)] := hl
  unfold fX12_write at hf
  refine rw_aload_n X dX12_write_0 rfl (hl.at 0 rfl) ?_
  obtain ⟨v1, e1, hf⟩ := ob hf
  refine rw_getI X dX12_write_1 fl12_155 e1 rfl hP ?_
  refine lv_if_ne hx hb (tgt := 11) dX12_write_4 (by decide) (fun c4 => ?_) (fun c4 => ?_)
  · have hf := ifn hf c4
    refine rw_aload_n X dX12_write_11 rfl (hl.at 0 rfl) ?_
    refine lv_iconst (v := 0) hx hb dX12_write_12 (by decide) ?_
    obtain ⟨S13, e13, hf⟩ := ob hf
    refine rw_putI X dX12_write_13 fl12_238 fw12_7 e13 rfl hP (fun H locs hP => ?_)
    refine lv_iconst (v := 0) hx hb dX12_write_16 (by decide) ?_
    refine rv_istore_n X dX12_write_17 rfl hl (by decide) rfl (fun ls hl => ?_)
    have hl : LV ls 3 [(1, .int 0), (0, va_rf l0)] := hl
    exact wX12_write_18 X FU S13 l0 0 hf _ _ _ hP (hl.sub [1, 0] rfl)
  · have hf := ifp hf c4
    refine lv_sipush (v := (-1004)) hx hb dX12_write_7 (by decide) ?_
    cases hf
    exact rw_iret X dX12_write_10 hP
theorem dX12_written_0 : decode cX12_written 0 = .ok (.iload_n 1, 1) := by decide +kernel
theorem dX12_written_1 : decode cX12_written 1 = .ok (.iconst 0, 1) := by decide +kernel
theorem dX12_written_2 : decode cX12_written 2 = .ok (.aload_n 0, 1) := by decide +kernel
theorem dX12_written_3 : decode cX12_written 3 = .ok (.getfield 238, 3) := by decide +kernel
theorem dX12_written_6 : decode cX12_written 6 = .ok (.iconst 1, 1) := by decide +kernel
theorem dX12_written_7 : decode cX12_written 7 = .ok (.isub, 1) := by decide +kernel
theorem dX12_written_8 : decode cX12_written 8 = .ok (.invokestatic 94, 3) := by decide +kernel
theorem dX12_written_11 : decode cX12_written 11 = .ok (.ifCond .eq 12, 3) := by decide +kernel
theorem dX12_written_14 : decode cX12_written 14 = .ok (.aload_n 0, 1) := by decide +kernel
theorem dX12_written_15 : decode cX12_written 15 = .ok (.getfield 22, 3) := by decide +kernel
theorem dX12_written_18 : decode cX12_written 18 = .ok (.iload_n 1, 1) := by decide +kernel
theorem dX12_written_19 : decode cX12_written 19 = .ok (.iaload, 1) := by decide +kernel
theorem dX12_written_20 : decode cX12_written 20 = .ok (.goto 6, 3) := by decide +kernel
theorem dX12_written_23 : decode cX12_written 23 = .ok (.sipush (-1001), 3) := by decide +kernel
theorem dX12_written_26 : decode cX12_written 26 = .ok (.ireturn, 1) := by decide +kernel
theorem pyX12_written : PY yX12_written 1 := ⟨by decide +kernel, by decide +kernel, by decide +kernel⟩
def fX12_written (Y : LY) (S : HS) (l0 : Option Nat) (l1 : Int32) : Option (Int32) :=
  (gI Y 12 1207 l0 S).bind fun v3 =>
  (fX12_isIn Y S l1 0 (v3 - 1)).bind fun v8 =>
  if v8 = 0 then
    some (-1001)
  else
    (gR Y 12 1205 l0 S).bind fun v15 =>
    (gA Y 14 v15 l1 S).bind fun v19 =>
    some v19
set_option maxRecDepth 100000 in
set_option maxHeartbeats 4000000 in
theorem mX12_written (l : Launch) {G : GG} {Y : LY} {S : HS} {l0 : Option Nat} {l1 : Int32} {res : Int32} (hf : fX12_written Y S l0 l1 = some res) : MM l yX12_written cX12_written 2 (some .int) 1 22 G Y S [va_rf l0, .int l1] S (some (.int res)) := by
  refine mm_of2 (plainFor_of_name (by decide +kernel)) (Nat.le_of_ble_eq_true rfl) (c1c (cr _) (c1c (ci _) c1n)) ?_
  intro p e R s m args below meth c X H locs ls hP hl
  have X : Cx p R s m args meth c RX12 cX12_written 2 1 22 (fun q => q ∈ Y.1) G (some .int) := X
  have hx := X.1.1
  have hb := X.1.2.1
  have hl : LV ls 2 [(0, va_rf l0), (1, .int l1)] := hl
  unfold fX12_written at hf
  refine lv_iload_n hx hb dX12_written_0 rfl (hl.at 1 rfl) ?_
  refine lv_iconst (v := 0) hx hb dX12_written_1 (by decide) ?_
  refine rw_aload_n X dX12_written_2 rfl (hl.at 0 rfl) ?_
  obtain ⟨v3, e3, hf⟩ := ob hf
  refine rw_getI X dX12_written_3 fl12_238 e3 rfl hP ?_
  refine lv_iconst (v := 1) hx hb dX12_written_6 (by decide) ?_
  refine lv_isub hx hb dX12_written_7 ?_
  obtain ⟨v8, e8, hf⟩ := ob hf
  refine rw_callSi (As := [.int l1, .int 0, .int (v3 - 1)]) X dX12_written_8 clX12_94 pyX12_isIn (mX12_isIn l e8) (by decide) hP rfl (catL c1n (Nat.le_of_ble_eq_true rfl)) hl.1.1 (fun H locs hP => ?_)
  refine lv_if_eq hx hb (tgt := 23) dX12_written_11 (by decide) (fun c11 => ?_) (fun c11 => ?_)
  · have hf := ifp hf c11
    refine lv_sipush (v := (-1001)) hx hb dX12_written_23 (by decide) ?_
    cases hf
    exact rw_iret X dX12_written_26 hP
  · have hf := ifn hf c11
    refine rw_aload_n X dX12_written_14 rfl (hl.at 0 rfl) ?_
    obtain ⟨v15, e15, hf⟩ := ob hf
    refine rw_getR X dX12_written_15 fl12_22 e15 rfl hP ?_
    refine lv_iload_n hx hb dX12_written_18 rfl (hl.at 1 rfl) ?_
    obtain ⟨v19, e19, hf⟩ := ob hf
    refine rw_iald X dX12_written_19 e19 hP ?_
    refine lv_goto (tgt := 26) hx hb dX12_written_20 (by decide) ?_
    cases hf
    exact rw_iret X dX12_written_26 hP
theorem dX12_save_0 : decode cX12_save 0 = .ok (.aload_n 0, 1) := by decide +kernel
theorem dX12_save_1 : decode cX12_save 1 = .ok (.getfield 155, 3) := by decide +kernel
theorem dX12_save_4 : decode cX12_save 4 = .ok (.ifCond .ne 7, 3) := by decide +kernel
theorem dX12_save_7 : decode cX12_save 7 = .ok (.sipush (-1004), 3) := by decide +kernel
theorem dX12_save_10 : decode cX12_save 10 = .ok (.ireturn, 1) := by decide +kernel
theorem dX12_save_11 : decode cX12_save 11 = .ok (.aload_n 0, 1) := by decide +kernel
theorem dX12_save_12 : decode cX12_save 12 = .ok (.getfield 9, 3) := by decide +kernel
theorem dX12_save_15 : decode cX12_save 15 = .ok (.aload_n 0, 1) := by decide +kernel
theorem dX12_save_16 : decode cX12_save 16 = .ok (.getfield 13, 3) := by decide +kernel
theorem dX12_save_19 : decode cX12_save 19 = .ok (.invokestatic 234, 3) := by decide +kernel
theorem dX12_save_22 : decode cX12_save 22 = .ok (.aload_n 0, 1) := by decide +kernel
theorem dX12_save_23 : decode cX12_save 23 = .ok (.iconst 1, 1) := by decide +kernel
theorem dX12_save_24 : decode cX12_save 24 = .ok (.putfield 158, 3) := by decide +kernel
theorem dX12_save_27 : decode cX12_save 27 = .ok (.aload_n 0, 1) := by decide +kernel
theorem dX12_save_28 : decode cX12_save 28 = .ok (.getfield 155, 3) := by decide +kernel
theorem dX12_save_31 : decode cX12_save 31 = .ok (.ireturn, 1) := by decide +kernel
theorem pyX12_save : PY yX12_save 0 := ⟨by decide +kernel, by decide +kernel, by decide +kernel⟩
def fX12_save (Y : LY) (S : HS) (l0 : Option Nat) : Option (HS × Int32) :=
  (gI Y 12 1208 l0 S).bind fun v1 =>
  if v1 = 0 then
    some (S, (-1004))
  else
    (gR Y 12 1200 l0 S).bind fun v12 =>
    (gR Y 12 1201 l0 S).bind fun v16 =>
    (fX12_copies Y S v12 v16).bind fun S19 =>
    (pZ Y 12 1203 l0 1 S19).bind fun S24 =>
    (gI Y 12 1208 l0 S24).bind fun v28 =>
    some (S24, v28)
set_option maxRecDepth 100000 in
set_option maxHeartbeats 4000000 in
theorem mX12_save (l : Launch) {G : GG} {Y : LY} {S : HS} {l0 : Option Nat} {res : HS × Int32} (hf : fX12_save Y S l0 = some res) : MM l yX12_save cX12_save 1 (some .int) 1 22 G Y S [va_rf l0] res.1 (some (.int res.2)) := by
  refine mm_of2 (plainFor_of_name (by decide +kernel)) (Nat.le_of_ble_eq_true rfl) (c1c (cr _) c1n) ?_
  intro p e R s m args below meth c X H locs ls hP hl
  have X : Cx p R s m args meth c RX12 cX12_save 1 1 22 (fun q => q ∈ Y.1) G (some .int) := X
  have hx := X.1.1
  have hb := X.1.2.1
  have hl : LV ls 1 [(0, va_rf l0)] := hl
  unfold fX12_save at hf
  refine rw_aload_n X dX12_save_0 rfl (hl.at 0 rfl) ?_
  obtain ⟨v1, e1, hf⟩ := ob hf
  refine rw_getI X dX12_save_1 fl12_155 e1 rfl hP ?_
  refine lv_if_ne hx hb (tgt := 11) dX12_save_4 (by decide) (fun c4 => ?_) (fun c4 => ?_)
  · have hf := ifn hf c4
    refine rw_aload_n X dX12_save_11 rfl (hl.at 0 rfl) ?_
    obtain ⟨v12, e12, hf⟩ := ob hf
    refine rw_getR X dX12_save_12 fl12_9 e12 rfl hP ?_
    refine rw_aload_n X dX12_save_15 rfl (hl.at 0 rfl) ?_
    obtain ⟨v16, e16, hf⟩ := ob hf
    refine rw_getR X dX12_save_16 fl12_13 e16 rfl hP ?_
    obtain ⟨S19, e19, hf⟩ := ob hf
    refine rw_callSv (As := [va_rf v12, va_rf v16]) X dX12_save_19 clX12_234 pyX12_copies (mX12_copies l e19) (by decide) hP rfl (catL c1n (Nat.le_of_ble_eq_true rfl)) hl.1.1 (fun H locs hP => ?_)
    refine rw_aload_n X dX12_save_22 rfl (hl.at 0 rfl) ?_
    refine lv_iconst (v := 1) hx hb dX12_save_23 (by decide) ?_
    obtain ⟨S24, e24, hf⟩ := ob hf
    refine rw_putZ X dX12_save_24 fl12_158 fw12_3 e24 rfl hP (fun H locs hP => ?_)
    refine rw_aload_n X dX12_save_27 rfl (hl.at 0 rfl) ?_
    obtain ⟨v28, e28, hf⟩ := ob hf
    refine rw_getI X dX12_save_28 fl12_155 e28 rfl hP ?_
    cases hf
    exact rw_iret X dX12_save_31 hP
  · have hf := ifp hf c4
    refine lv_sipush (v := (-1004)) hx hb dX12_save_7 (by decide) ?_
    cases hf
    exact rw_iret X dX12_save_10 hP
theorem dX12_restore_0 : decode cX12_restore 0 = .ok (.aload_n 0, 1) := by decide +kernel
theorem dX12_restore_1 : decode cX12_restore 1 = .ok (.getfield 158, 3) := by decide +kernel
theorem dX12_restore_4 : decode cX12_restore 4 = .ok (.ifCond .ne 7, 3) := by decide +kernel
theorem dX12_restore_7 : decode cX12_restore 7 = .ok (.sipush (-1001), 3) := by decide +kernel
theorem dX12_restore_10 : decode cX12_restore 10 = .ok (.ireturn, 1) := by decide +kernel
theorem dX12_restore_11 : decode cX12_restore 11 = .ok (.aload_n 0, 1) := by decide +kernel
theorem dX12_restore_12 : decode cX12_restore 12 = .ok (.getfield 13, 3) := by decide +kernel
theorem dX12_restore_15 : decode cX12_restore 15 = .ok (.aload_n 0, 1) := by decide +kernel
theorem dX12_restore_16 : decode cX12_restore 16 = .ok (.getfield 9, 3) := by decide +kernel
theorem dX12_restore_19 : decode cX12_restore 19 = .ok (.invokestatic 234, 3) := by decide +kernel
theorem dX12_restore_22 : decode cX12_restore 22 = .ok (.aload_n 0, 1) := by decide +kernel
theorem dX12_restore_23 : decode cX12_restore 23 = .ok (.getfield 155, 3) := by decide +kernel
theorem dX12_restore_26 : decode cX12_restore 26 = .ok (.ireturn, 1) := by decide +kernel
theorem pyX12_restore : PY yX12_restore 0 := ⟨by decide +kernel, by decide +kernel, by decide +kernel⟩
def fX12_restore (Y : LY) (S : HS) (l0 : Option Nat) : Option (HS × Int32) :=
  (gI Y 12 1203 l0 S).bind fun v1 =>
  if v1 = 0 then
    some (S, (-1001))
  else
    (gR Y 12 1201 l0 S).bind fun v12 =>
    (gR Y 12 1200 l0 S).bind fun v16 =>
    (fX12_copies Y S v12 v16).bind fun S19 =>
    (gI Y 12 1208 l0 S19).bind fun v23 =>
    some (S19, v23)
set_option maxRecDepth 100000 in
set_option maxHeartbeats 4000000 in
theorem mX12_restore (l : Launch) {G : GG} {Y : LY} {S : HS} {l0 : Option Nat} {res : HS × Int32} (hf : fX12_restore Y S l0 = some res) : MM l yX12_restore cX12_restore 1 (some .int) 1 22 G Y S [va_rf l0] res.1 (some (.int res.2)) := by
  refine mm_of2 (plainFor_of_name (by decide +kernel)) (Nat.le_of_ble_eq_true rfl) (c1c (cr _) c1n) ?_
  intro p e R s m args below meth c X H locs ls hP hl
  have X : Cx p R s m args meth c RX12 cX12_restore 1 1 22 (fun q => q ∈ Y.1) G (some .int) := X
  have hx := X.1.1
  have hb := X.1.2.1
  have hl : LV ls 1 [(0, va_rf l0)] := hl
  unfold fX12_restore at hf
  refine rw_aload_n X dX12_restore_0 rfl (hl.at 0 rfl) ?_
  obtain ⟨v1, e1, hf⟩ := ob hf
  refine rw_getI X dX12_restore_1 fl12_158 e1 rfl hP ?_
  refine lv_if_ne hx hb (tgt := 11) dX12_restore_4 (by decide) (fun c4 => ?_) (fun c4 => ?_)
  · have hf := ifn hf c4
    refine rw_aload_n X dX12_restore_11 rfl (hl.at 0 rfl) ?_
    obtain ⟨v12, e12, hf⟩ := ob hf
    refine rw_getR X dX12_restore_12 fl12_13 e12 rfl hP ?_
    refine rw_aload_n X dX12_restore_15 rfl (hl.at 0 rfl) ?_
    obtain ⟨v16, e16, hf⟩ := ob hf
    refine rw_getR X dX12_restore_16 fl12_9 e16 rfl hP ?_
    obtain ⟨S19, e19, hf⟩ := ob hf
    refine rw_callSv (As := [va_rf v12, va_rf v16]) X dX12_restore_19 clX12_234 pyX12_copies (mX12_copies l e19) (by decide) hP rfl (catL c1n (Nat.le_of_ble_eq_true rfl)) hl.1.1 (fun H locs hP => ?_)
    refine rw_aload_n X dX12_restore_22 rfl (hl.at 0 rfl) ?_
    obtain ⟨v23, e23, hf⟩ := ob hf
    refine rw_getI X dX12_restore_23 fl12_155 e23 rfl hP ?_
    cases hf
    exact rw_iret X dX12_restore_26 hP
  · have hf := ifp hf c4
    refine lv_sipush (v := (-1001)) hx hb dX12_restore_7 (by decide) ?_
    cases hf
    exact rw_iret X dX12_restore_10 hP
