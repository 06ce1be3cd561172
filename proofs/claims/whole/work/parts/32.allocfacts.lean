/-! printed by gen_alloc.py: links of what makes objects -/
theorem mm_of3 {G : GG} {Y : LY} {S S1 : HS} {l : Launch} {y : MethodName} {b : ByteArray} {n f lo : Nat} {ret : Option FieldType} {av : List Value} {rv : Option Value} (hy : plainFor y = true) (hlen : av.length ≤ n) (hc : ∀ v ∈ av, v.category = 1)
    (body : ∀ p e R s m args below meth c, Cx p R s m args meth c y.cls b n f lo (fun q => q ∈ Y.1) G ret → meth.name = y.name → ∀ H locs ls, HP (fun q => q ∈ Y.1) G Y s S H locs → LV ls n (lvx 0 av) → W p l e R s m args below meth c H locs 0 0 (MQ below (QI G Y S1 rv) args s 0 0 (fun q => q ∈ Y.1)) (F0 m 0 ls [])) : MM l y b n ret f lo G Y S av S1 rv := by
  refine va_MetF (cc := b) (maxL := n) (ret := ret) hy rfl ?_
  intro p e s m args below meth c s₁ B hml hv
  obtain ⟨rfl, hP, hD, hKK, hST⟩ := hv
  have hts := atoms_spec (ws := (.code y b n ret :: TBL)) B.pre
  have hown : s.vm.findClass y.cls = some m.cls := findClass_of_methodNamed B.named
  have hl := lv_entry av (n := n) (by rw [lg_len av hc]; exact hlen)
  rw [lg_entry_eq]
  rw [lvx_eq av 0 hc] at hl
  exact body p e _ s m _ below meth c ⟨⟨B.exec, B.bytes, hml, hown, fun w hw => hts w (List.mem_cons_of_mem _ hw)⟩, hKK, hST, B.notSynchronized, B.returns, Nat.le_refl _, Nat.le_refl _, Nat.le_refl _, Nat.le_refl _⟩ ((name_of_methodNamed B.named B.method).1) s.heap [] _ ⟨hP, hD, va_S.rf⟩ ⟨hl, lvx_cat av 0 hc⟩
theorem oiX1 : Cond.methodLink RX1 1 Lib.objectInit ∈ TBL := (tb_of (tb1 219 rfl) rfl)
theorem oiX3 : Cond.methodLink RX3 3 Lib.objectInit ∈ TBL := (tb_of (tb1 140 rfl) rfl)
theorem oiX5 : Cond.methodLink RX5 3 Lib.objectInit ∈ TBL := (tb_of (tb2 148 rfl) rfl)
theorem fz5_15 : FLz RX5 15 5 0 (.object "BehaviorRunner$Text") := ⟨_, _, _, _, rfl, by decide, inT5, tyX5_ok, nmX5, rfl, rfl, rfl, by decide +kernel, (tb_of (tb2 149 rfl) rfl)⟩
theorem fz5_19 : FLz RX5 19 5 1 (.object "BehaviorRunner$Tree") := ⟨_, _, _, _, rfl, by decide, inT5, tyX5_ok, nmX5, rfl, rfl, rfl, by decide +kernel, (tb_of (tb2 150 rfl) rfl)⟩
theorem oiX10 : Cond.methodLink RX10 3 Lib.objectInit ∈ TBL := (tb_of (tb4 68 rfl) rfl)
theorem fz10_9 : FLz RX10 9 10 0 (.object "BehaviorRunner$Tree") := ⟨_, _, _, _, rfl, by decide, inT10, tyX10_ok, nmX10, rfl, rfl, rfl, by decide +kernel, (tb_of (tb4 69 rfl) rfl)⟩
theorem fz10_15 : FLz RX10 15 10 1 (.object "BehaviorRunner$Text") := ⟨_, _, _, _, rfl, by decide, inT10, tyX10_ok, nmX10, rfl, rfl, rfl, by decide +kernel, (tb_of (tb4 70 rfl) rfl)⟩
theorem oiX0 : Cond.methodLink RX0 3 Lib.objectInit ∈ TBL := (tb_of (tb1 56 rfl) rfl)
theorem fz0_9 : FLz RX0 9 0 0 (.array .int) := ⟨_, _, _, _, rfl, by decide, inT0, tyX0_ok, nmX0, rfl, rfl, rfl, by decide +kernel, (tb_of (tb1 57 rfl) rfl)⟩
theorem oiX2 : Cond.methodLink RX2 3 Lib.objectInit ∈ TBL := (tb_of (tb1 67 rfl) rfl)
theorem fz2_40 : FLz RX2 40 2 9 (.array .int) := ⟨_, _, _, _, rfl, by decide, inT2, tyX2_ok, nmX2, rfl, rfl, rfl, by decide +kernel, (tb_of (tb1 90 rfl) rfl)⟩
theorem fz2_44 : FLz RX2 44 2 10 (.array .int) := ⟨_, _, _, _, rfl, by decide, inT2, tyX2_ok, nmX2, rfl, rfl, rfl, by decide +kernel, (tb_of (tb1 91 rfl) rfl)⟩
theorem oiX7 : Cond.methodLink RX7 3 Lib.objectInit ∈ TBL := (tb_of (tb1 34 rfl) rfl)
theorem fz7_9 : FLz RX7 9 7 0 (.array .char) := ⟨_, _, _, _, rfl, by decide, inT7, tyX7_ok, nmX7, rfl, rfl, rfl, by decide +kernel, (tb_of (tb1 35 rfl) rfl)⟩
theorem oiX4 : Cond.methodLink RX4 3 Lib.objectInit ∈ TBL := (tb_of (tb1 213 rfl) rfl)
theorem nkX4_9 : NLk RX4 9 1 := ⟨_, _, _, _, rfl, tyX1_ok, by decide +kernel, inT1, (tb_of (tb1 214 rfl) rfl), (tb_of (tb1 215 rfl) rfl), (tb_of (tb1 10 rfl) rfl)⟩
theorem ciX4_11 : CLi RX4 11 yX1_init cX1_init 1 := ⟨Or.inr ⟨_, (tb1 216 rfl)⟩, (tb_of (tb1 218 rfl) rfl), (tb_of (tb1 10 rfl) rfl), (tb_of (tb1 217 rfl) rfl), rfl⟩
theorem fz4_12 : FLz RX4 12 4 1 (.object "BehaviorRunner$Clause") := ⟨_, _, _, _, rfl, by decide, inT4, tyX4_ok, nmX4, rfl, rfl, rfl, by decide +kernel, (tb_of (tb2 16 rfl) rfl)⟩
theorem fz4_18 : FLz RX4 18 4 2 (.object "BehaviorRunner$Clause") := ⟨_, _, _, _, rfl, by decide, inT4, tyX4_ok, nmX4, rfl, rfl, rfl, by decide +kernel, (tb_of (tb2 20 rfl) rfl)⟩
theorem nkX4_21 : NLk RX4 21 3 := ⟨_, _, _, _, rfl, tyX3_ok, by decide +kernel, inT3, (tb_of (tb2 10 rfl) rfl), (tb_of (tb1 136 rfl) rfl), (tb_of (tb1 7 rfl) rfl)⟩
theorem ciX4_23 : CLi RX4 23 yX3_init cX3_init 1 := ⟨Or.inr ⟨_, (tb2 11 rfl)⟩, (tb_of (tb1 139 rfl) rfl), (tb_of (tb1 7 rfl) rfl), (tb_of (tb1 138 rfl) rfl), rfl⟩
theorem fz4_24 : FLz RX4 24 4 3 (.object "BehaviorRunner$Life") := ⟨_, _, _, _, rfl, by decide, inT4, tyX4_ok, nmX4, rfl, rfl, rfl, by decide +kernel, (tb_of (tb2 24 rfl) rfl)⟩
theorem fz4_60 : FLz RX4 60 4 0 .int := ⟨_, _, _, _, rfl, by decide, inT4, tyX4_ok, nmX4, rfl, rfl, rfl, by decide +kernel, (tb_of (tb2 12 rfl) rfl)⟩
theorem oiX6 : Cond.methodLink RX6 3 Lib.objectInit ∈ TBL := (tb_of (tb1 129 rfl) rfl)
theorem akX6_9 : ALk RX6 9 15 := ⟨"BehaviorRunner$Life", Or.inl ⟨rfl, rfl⟩, (tb_of (tb1 130 rfl) rfl)⟩
theorem fz6_11 : FLz RX6 11 6 0 (.array (.object "BehaviorRunner$Life")) := ⟨_, _, _, _, rfl, by decide, inT6, tyX6_ok, nmX6, rfl, rfl, rfl, by decide +kernel, (tb_of (tb1 191 rfl) rfl)⟩
theorem nkX6_17 : NLk RX6 17 0 := ⟨_, _, _, _, rfl, tyX0_ok, by decide +kernel, inT0, (tb_of (tb1 132 rfl) rfl), (tb_of (tb1 52 rfl) rfl), (tb_of (tb1 4 rfl) rfl)⟩
theorem ciX6_19 : CLi RX6 19 yX0_init cX0_init 1 := ⟨Or.inr ⟨_, (tb1 133 rfl)⟩, (tb_of (tb1 55 rfl) rfl), (tb_of (tb1 4 rfl) rfl), (tb_of (tb1 54 rfl) rfl), rfl⟩
theorem fz6_20 : FLz RX6 20 6 1 (.object "BehaviorRunner$Board") := ⟨_, _, _, _, rfl, by decide, inT6, tyX6_ok, nmX6, rfl, rfl, rfl, by decide +kernel, (tb_of (tb1 192 rfl) rfl)⟩
theorem nkX6_24 : NLk RX6 24 2 := ⟨_, _, _, _, rfl, tyX2_ok, by decide +kernel, inT2, (tb_of (tb1 134 rfl) rfl), (tb_of (tb1 63 rfl) rfl), (tb_of (tb1 5 rfl) rfl)⟩
theorem ciX6_26 : CLi RX6 26 yX2_init cX2_init 1 := ⟨Or.inr ⟨_, (tb1 135 rfl)⟩, (tb_of (tb1 66 rfl) rfl), (tb_of (tb1 5 rfl) rfl), (tb_of (tb1 65 rfl) rfl), rfl⟩
theorem fz6_27 : FLz RX6 27 6 2 (.object "BehaviorRunner$Ledger") := ⟨_, _, _, _, rfl, by decide, inT6, tyX6_ok, nmX6, rfl, rfl, rfl, by decide +kernel, (tb_of (tb1 193 rfl) rfl)⟩
theorem nkX6_9 : NLk RX6 9 3 := ⟨_, _, _, _, rfl, tyX3_ok, by decide +kernel, inT3, (tb_of (tb1 130 rfl) rfl), (tb_of (tb1 136 rfl) rfl), (tb_of (tb1 7 rfl) rfl)⟩
theorem ciX6_31 : CLi RX6 31 yX3_init cX3_init 1 := ⟨Or.inr ⟨_, (tb1 137 rfl)⟩, (tb_of (tb1 139 rfl) rfl), (tb_of (tb1 7 rfl) rfl), (tb_of (tb1 138 rfl) rfl), rfl⟩
theorem oiX8 : Cond.methodLink RX8 3 Lib.objectInit ∈ TBL := (tb_of (tb1 206 rfl) rfl)
theorem akX8_9 : ALk RX8 9 16 := ⟨"BehaviorRunner$Node", Or.inr ⟨rfl, rfl⟩, (tb_of (tb1 207 rfl) rfl)⟩
theorem fz8_11 : FLz RX8 11 8 0 (.array (.object "BehaviorRunner$Node")) := ⟨_, _, _, _, rfl, by decide, inT8, tyX8_ok, nmX8, rfl, rfl, rfl, by decide +kernel, (tb_of (tb2 91 rfl) rfl)⟩
theorem nkX8_9 : NLk RX8 9 4 := ⟨_, _, _, _, rfl, tyX4_ok, by decide +kernel, inT4, (tb_of (tb1 207 rfl) rfl), (tb_of (tb1 209 rfl) rfl), (tb_of (tb1 9 rfl) rfl)⟩
theorem ciX8_21 : CLi RX8 21 yX4_init cX4_init 2 := ⟨Or.inl (tb_of (tb1 210 rfl) rfl), (tb_of (tb1 212 rfl) rfl), (tb_of (tb1 9 rfl) rfl), (tb_of (tb1 211 rfl) rfl), rfl⟩
theorem oiX9 : Cond.methodLink RX9 3 Lib.objectInit ∈ TBL := (tb_of (tb1 50 rfl) rfl)
theorem nkX9_9 : NLk RX9 9 0 := ⟨_, _, _, _, rfl, tyX0_ok, by decide +kernel, inT0, (tb_of (tb1 51 rfl) rfl), (tb_of (tb1 52 rfl) rfl), (tb_of (tb1 4 rfl) rfl)⟩
theorem ciX9_11 : CLi RX9 11 yX0_init cX0_init 1 := ⟨Or.inr ⟨_, (tb1 53 rfl)⟩, (tb_of (tb1 55 rfl) rfl), (tb_of (tb1 4 rfl) rfl), (tb_of (tb1 54 rfl) rfl), rfl⟩
theorem fz9_12 : FLz RX9 12 9 0 (.object "BehaviorRunner$Board") := ⟨_, _, _, _, rfl, by decide, inT9, tyX9_ok, nmX9, rfl, rfl, rfl, by decide +kernel, (tb_of (tb1 115 rfl) rfl)⟩
theorem nkX9_18 : NLk RX9 18 2 := ⟨_, _, _, _, rfl, tyX2_ok, by decide +kernel, inT2, (tb_of (tb1 62 rfl) rfl), (tb_of (tb1 63 rfl) rfl), (tb_of (tb1 5 rfl) rfl)⟩
theorem ciX9_20 : CLi RX9 20 yX2_init cX2_init 1 := ⟨Or.inr ⟨_, (tb1 64 rfl)⟩, (tb_of (tb1 66 rfl) rfl), (tb_of (tb1 5 rfl) rfl), (tb_of (tb1 65 rfl) rfl), rfl⟩
theorem fz9_21 : FLz RX9 21 9 1 (.object "BehaviorRunner$Ledger") := ⟨_, _, _, _, rfl, by decide, inT9, tyX9_ok, nmX9, rfl, rfl, rfl, by decide +kernel, (tb_of (tb1 117 rfl) rfl)⟩
theorem oiX11 : Cond.methodLink RX11 1 Lib.objectInit ∈ TBL := (tb_of (tb1 26 rfl) rfl)
theorem nkX11_7 : NLk RX11 7 7 := ⟨_, _, _, _, rfl, tyX7_ok, by decide +kernel, inT7, (tb_of (tb1 29 rfl) rfl), (tb_of (tb1 30 rfl) rfl), (tb_of (tb1 2 rfl) rfl)⟩
theorem ciX11_9 : CLi RX11 9 yX7_init cX7_init 1 := ⟨Or.inr ⟨_, (tb1 31 rfl)⟩, (tb_of (tb1 33 rfl) rfl), (tb_of (tb1 2 rfl) rfl), (tb_of (tb1 32 rfl) rfl), rfl⟩
theorem fz11_10 : FLz RX11 10 11 0 (.object "BehaviorRunner$Text") := ⟨_, _, _, _, rfl, by decide, inT11, tyX11_ok, nmX11, rfl, rfl, rfl, by decide +kernel, (tb_of (tb2 100 rfl) rfl)⟩
theorem fz11_16 : FLz RX11 16 11 1 (.object "BehaviorRunner$Text") := ⟨_, _, _, _, rfl, by decide, inT11, tyX11_ok, nmX11, rfl, rfl, rfl, by decide +kernel, (tb_of (tb2 101 rfl) rfl)⟩
theorem nkX11_19 : NLk RX11 19 9 := ⟨_, _, _, _, rfl, tyX9_ok, by decide +kernel, inT9, (tb_of (tb1 45 rfl) rfl), (tb_of (tb1 46 rfl) rfl), (tb_of (tb1 3 rfl) rfl)⟩
theorem ciX11_21 : CLi RX11 21 yX9_init cX9_init 1 := ⟨Or.inr ⟨_, (tb1 47 rfl)⟩, (tb_of (tb1 49 rfl) rfl), (tb_of (tb1 3 rfl) rfl), (tb_of (tb1 48 rfl) rfl), rfl⟩
theorem fz11_22 : FLz RX11 22 11 2 (.object "BehaviorRunner$Walker") := ⟨_, _, _, _, rfl, by decide, inT11, tyX11_ok, nmX11, rfl, rfl, rfl, by decide +kernel, (tb_of (tb2 102 rfl) rfl)⟩
theorem fz11_30 : FLz RX11 30 11 3 (.object "BehaviorRunner$Board") := ⟨_, _, _, _, rfl, by decide, inT11, tyX11_ok, nmX11, rfl, rfl, rfl, by decide +kernel, (tb_of (tb2 103 rfl) rfl)⟩
theorem fz11_35 : FLz RX11 35 11 4 (.object "BehaviorRunner$Ledger") := ⟨_, _, _, _, rfl, by decide, inT11, tyX11_ok, nmX11, rfl, rfl, rfl, by decide +kernel, (tb_of (tb2 104 rfl) rfl)⟩
theorem nkX11_36 : NLk RX11 36 6 := ⟨_, _, _, _, rfl, tyX6_ok, by decide +kernel, inT6, (tb_of (tb1 124 rfl) rfl), (tb_of (tb1 125 rfl) rfl), (tb_of (tb1 6 rfl) rfl)⟩
theorem ciX11_38 : CLi RX11 38 yX6_init cX6_init 2 := ⟨Or.inl (tb_of (tb1 126 rfl) rfl), (tb_of (tb1 128 rfl) rfl), (tb_of (tb1 6 rfl) rfl), (tb_of (tb1 127 rfl) rfl), rfl⟩
theorem fz11_39 : FLz RX11 39 11 5 (.object "BehaviorRunner$Snapshot") := ⟨_, _, _, _, rfl, by decide, inT11, tyX11_ok, nmX11, rfl, rfl, rfl, by decide +kernel, (tb_of (tb2 105 rfl) rfl)⟩
theorem fz11_43 : FLz RX11 43 11 6 (.object "BehaviorRunner$Snapshot") := ⟨_, _, _, _, rfl, by decide, inT11, tyX11_ok, nmX11, rfl, rfl, rfl, by decide +kernel, (tb_of (tb2 106 rfl) rfl)⟩
theorem nkX11_46 : NLk RX11 46 8 := ⟨_, _, _, _, rfl, tyX8_ok, by decide +kernel, inT8, (tb_of (tb1 201 rfl) rfl), (tb_of (tb1 202 rfl) rfl), (tb_of (tb1 8 rfl) rfl)⟩
theorem ciX11_48 : CLi RX11 48 yX8_init cX8_init 2 := ⟨Or.inl (tb_of (tb1 203 rfl) rfl), (tb_of (tb1 205 rfl) rfl), (tb_of (tb1 8 rfl) rfl), (tb_of (tb1 204 rfl) rfl), rfl⟩
theorem oiX12 : Cond.methodLink RX12 3 Lib.objectInit ∈ TBL := (tb_of (tb4 128 rfl) rfl)
theorem fz12_9 : FLz RX12 9 12 0 (.array .int) := ⟨_, _, _, _, rfl, by decide, inT12, tyX12_ok, nmX12, rfl, rfl, rfl, by decide +kernel, (tb_of (tb4 129 rfl) rfl)⟩
theorem fz12_13 : FLz RX12 13 12 1 (.array .int) := ⟨_, _, _, _, rfl, by decide, inT12, tyX12_ok, nmX12, rfl, rfl, rfl, by decide +kernel, (tb_of (tb4 130 rfl) rfl)⟩
theorem fz12_16 : FLz RX12 16 12 2 (.array .int) := ⟨_, _, _, _, rfl, by decide, inT12, tyX12_ok, nmX12, rfl, rfl, rfl, by decide +kernel, (tb_of (tb4 131 rfl) rfl)⟩
theorem fz12_19 : FLz RX12 19 12 4 (.array .int) := ⟨_, _, _, _, rfl, by decide, inT12, tyX12_ok, nmX12, rfl, rfl, rfl, by decide +kernel, (tb_of (tb4 133 rfl) rfl)⟩
theorem fz12_22 : FLz RX12 22 12 5 (.array .int) := ⟨_, _, _, _, rfl, by decide, inT12, tyX12_ok, nmX12, rfl, rfl, rfl, by decide +kernel, (tb_of (tb4 134 rfl) rfl)⟩
theorem fz12_25 : FLz RX12 25 12 9 (.array .int) := ⟨_, _, _, _, rfl, by decide, inT12, tyX12_ok, nmX12, rfl, rfl, rfl, by decide +kernel, (tb_of (tb4 138 rfl) rfl)⟩
theorem fz12_28 : FLz RX12 28 12 10 (.array .int) := ⟨_, _, _, _, rfl, by decide, inT12, tyX12_ok, nmX12, rfl, rfl, rfl, by decide +kernel, (tb_of (tb4 139 rfl) rfl)⟩
theorem fz12_31 : FLz RX12 31 12 11 (.array .int) := ⟨_, _, _, _, rfl, by decide, inT12, tyX12_ok, nmX12, rfl, rfl, rfl, by decide +kernel, (tb_of (tb4 140 rfl) rfl)⟩
theorem fz12_34 : FLz RX12 34 12 12 (.array .int) := ⟨_, _, _, _, rfl, by decide, inT12, tyX12_ok, nmX12, rfl, rfl, rfl, by decide +kernel, (tb_of (tb4 141 rfl) rfl)⟩
theorem fz12_37 : FLz RX12 37 12 13 (.array .int) := ⟨_, _, _, _, rfl, by decide, inT12, tyX12_ok, nmX12, rfl, rfl, rfl, by decide +kernel, (tb_of (tb4 142 rfl) rfl)⟩
theorem fz12_40 : FLz RX12 40 12 14 (.array .int) := ⟨_, _, _, _, rfl, by decide, inT12, tyX12_ok, nmX12, rfl, rfl, rfl, by decide +kernel, (tb_of (tb4 143 rfl) rfl)⟩
theorem fz12_43 : FLz RX12 43 12 15 (.array .int) := ⟨_, _, _, _, rfl, by decide, inT12, tyX12_ok, nmX12, rfl, rfl, rfl, by decide +kernel, (tb_of (tb4 144 rfl) rfl)⟩
theorem fz12_46 : FLz RX12 46 12 16 (.array .int) := ⟨_, _, _, _, rfl, by decide, inT12, tyX12_ok, nmX12, rfl, rfl, rfl, by decide +kernel, (tb_of (tb4 145 rfl) rfl)⟩
theorem fz12_49 : FLz RX12 49 12 17 (.array .int) := ⟨_, _, _, _, rfl, by decide, inT12, tyX12_ok, nmX12, rfl, rfl, rfl, by decide +kernel, (tb_of (tb4 146 rfl) rfl)⟩
theorem fz12_52 : FLz RX12 52 12 18 (.array .int) := ⟨_, _, _, _, rfl, by decide, inT12, tyX12_ok, nmX12, rfl, rfl, rfl, by decide +kernel, (tb_of (tb4 147 rfl) rfl)⟩
theorem fz12_55 : FLz RX12 55 12 19 (.array .int) := ⟨_, _, _, _, rfl, by decide, inT12, tyX12_ok, nmX12, rfl, rfl, rfl, by decide +kernel, (tb_of (tb4 148 rfl) rfl)⟩
theorem fz12_58 : FLz RX12 58 12 23 (.array .int) := ⟨_, _, _, _, rfl, by decide, inT12, tyX12_ok, nmX12, rfl, rfl, rfl, by decide +kernel, (tb_of (tb4 152 rfl) rfl)⟩
theorem fz12_61 : FLz RX12 61 12 24 (.array .int) := ⟨_, _, _, _, rfl, by decide, inT12, tyX12_ok, nmX12, rfl, rfl, rfl, by decide +kernel, (tb_of (tb4 153 rfl) rfl)⟩
theorem fz12_64 : FLz RX12 64 12 25 (.array .int) := ⟨_, _, _, _, rfl, by decide, inT12, tyX12_ok, nmX12, rfl, rfl, rfl, by decide +kernel, (tb_of (tb4 154 rfl) rfl)⟩
theorem fz12_67 : FLz RX12 67 12 26 (.array .int) := ⟨_, _, _, _, rfl, by decide, inT12, tyX12_ok, nmX12, rfl, rfl, rfl, by decide +kernel, (tb_of (tb4 155 rfl) rfl)⟩
theorem fz12_70 : FLz RX12 70 12 27 (.array .int) := ⟨_, _, _, _, rfl, by decide, inT12, tyX12_ok, nmX12, rfl, rfl, rfl, by decide +kernel, (tb_of (tb4 156 rfl) rfl)⟩
theorem fz12_73 : FLz RX12 73 12 28 (.array .int) := ⟨_, _, _, _, rfl, by decide, inT12, tyX12_ok, nmX12, rfl, rfl, rfl, by decide +kernel, (tb_of (tb4 157 rfl) rfl)⟩
theorem fz12_76 : FLz RX12 76 12 29 (.array .int) := ⟨_, _, _, _, rfl, by decide, inT12, tyX12_ok, nmX12, rfl, rfl, rfl, by decide +kernel, (tb_of (tb4 158 rfl) rfl)⟩
theorem fz12_79 : FLz RX12 79 12 30 (.array .int) := ⟨_, _, _, _, rfl, by decide, inT12, tyX12_ok, nmX12, rfl, rfl, rfl, by decide +kernel, (tb_of (tb4 159 rfl) rfl)⟩
theorem fz12_82 : FLz RX12 82 12 31 (.array .int) := ⟨_, _, _, _, rfl, by decide, inT12, tyX12_ok, nmX12, rfl, rfl, rfl, by decide +kernel, (tb_of (tb4 160 rfl) rfl)⟩
theorem fz12_85 : FLz RX12 85 12 32 (.array .int) := ⟨_, _, _, _, rfl, by decide, inT12, tyX12_ok, nmX12, rfl, rfl, rfl, by decide +kernel, (tb_of (tb4 161 rfl) rfl)⟩
theorem fz12_88 : FLz RX12 88 12 33 (.array .int) := ⟨_, _, _, _, rfl, by decide, inT12, tyX12_ok, nmX12, rfl, rfl, rfl, by decide +kernel, (tb_of (tb4 162 rfl) rfl)⟩
theorem fz12_91 : FLz RX12 91 12 34 (.array .int) := ⟨_, _, _, _, rfl, by decide, inT12, tyX12_ok, nmX12, rfl, rfl, rfl, by decide +kernel, (tb_of (tb4 163 rfl) rfl)⟩
theorem nkX11_68 : NLk RX11 68 5 := ⟨_, _, _, _, rfl, tyX5_ok, by decide +kernel, inT5, (tb_of (tb2 143 rfl) rfl), (tb_of (tb2 144 rfl) rfl), (tb_of (tb1 12 rfl) rfl)⟩
theorem ciX11_70 : CLi RX11 70 yX5_init cX5_init 3 := ⟨Or.inl (tb_of (tb2 145 rfl) rfl), (tb_of (tb2 147 rfl) rfl), (tb_of (tb1 12 rfl) rfl), (tb_of (tb2 146 rfl) rfl), rfl⟩
theorem nkX11_201 : NLk RX11 201 10 := ⟨_, _, _, _, rfl, tyX10_ok, by decide +kernel, inT10, (tb_of (tb4 63 rfl) rfl), (tb_of (tb4 64 rfl) rfl), (tb_of (tb1 20 rfl) rfl)⟩
theorem ciX11_203 : CLi RX11 203 yX10_init cX10_init 3 := ⟨Or.inl (tb_of (tb4 65 rfl) rfl), (tb_of (tb4 67 rfl) rfl), (tb_of (tb1 20 rfl) rfl), (tb_of (tb4 66 rfl) rfl), rfl⟩
