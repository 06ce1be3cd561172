/-! the reference's object at its beginning (printed by gen_im.py) -/
def LM28 : List (Nat × Nat) := [(14, 355)] ++ ([(14, 355)] ++ ([(14, 355)] ++ ([(14, 70)] ++ ([(14, 200)] ++ ([(14, 24)] ++ ([(14, 24)] ++ ([(14, 24)] ++ ([(14, 24)] ++ ([(14, 24)] ++ ([(14, 24)] ++ ([(14, 24)] ++ ([(14, 24)] ++ ([(14, 24)] ++ ([(14, 24)] ++ ([(14, 24)] ++ ([(14, 24)] ++ ([(14, 24)] ++ ([(14, 24)] ++ ([(14, 24)] ++ ([(14, 24)] ++ ([(14, 24)] ++ ([(14, 24)] ++ ([(14, 24)] ++ ([(14, 24)] ++ ([(14, 24)] ++ ([(14, 24)] ++ ([(14, 11)])))))))))))))))))))))))))))
section INIM
variable {β n m f b q : Nat} {S S1 S2 : HS} {Y Y1 Y2 : LY} {cp : Nat × Nat}
/-- a row more -/
theorem i_row {L : Int32} (hL : ¬ L < 0) (hL2 : L.toNatClampNeg ≤ 10000) (h1 : β + 1 ≤ cp.1) (h2 : m + L.toNatClampNeg ≤ cp.2) (hc : chk Y 12 b = true) (hb : b < β) (hz : ∀ q, b < q → q < β → S.2.2.1 q = fun _ => 0) : ∃ Y1 S1 S2, newA cp 14 L Y S (β, m) = some (β, Y1, S1, (β + 1, m + L.toNatClampNeg)) ∧ pR Y1 12 f (some b) (some β) S1 = some S2 ∧ GRO β [(14, L.toNatClampNeg)] Y Y1 ∧ chk Y1 12 b = true ∧ (∀ g, S2.1 g b = S.1 g b) ∧ (∀ g, S2.2.1 g b = if g = f then some β else S.2.1 g b) ∧ ∀ q, b < q → q < β + 1 → S2.2.2.1 q = fun _ => 0 := by
  obtain ⟨Y1, S1, e1, g1, c1, f1, a1, -⟩ := newA_ok (S := S) (Y := Y) (c := 14) hL hL2 h1 h2
  have hc1 : chk Y1 12 b = true := (gro_chk g1 hb).trans hc
  have fb := f1 b (by omega)
  refine ⟨Y1, S1, _, e1, pR_ok hc1, g1, hc1, fun g => cel_I fb g, fun g => ?_, fun q h1 h2 => ?_⟩
  · show upN S1.2.1 f b (some β) g b = _
    by_cases h : g = f
    · rw [if_pos h, h]
      exact upN_self
    · rw [if_neg h, upN_ne (Or.inl h)]
      exact cel_R fb g
  · show S1.2.2.1 q = _
    by_cases h : q = β
    · rw [h]; exact a1
    · rw [cel_A (f1 q h)]
      exact hz q h1 (by omega)
set_option maxRecDepth 100000 in
set_option maxHeartbeats 4000000 in
theorem i_model (h : chk Y 12 b = true) : ∃ Y1 S1, fX12_init Y S (b + 1, m) (some b) = some (Y1, S1, (b + 29, m + 1874)) ∧ GRO (b + 1) LM28 Y Y1 ∧ FixM b S1 ∧ (∀ g, S1.1 g b = S.1 g b) ∧ S1.2.2.1 (b + 1) = upd (fun _ => 0) 284 (-1) ∧ ∀ k, 2 ≤ k → k < 29 → S1.2.2.1 (b + k) = fun _ => 0 := by
  have z0 : ∀ q, b < q → q < b + 1 → S.2.2.1 q = fun _ => 0 := fun q h1 h2 => by omega
  obtain ⟨Y1, T1, S1, e1, p1, g1, c1, i1, r1, z1⟩ := i_row (f := 1200) (S := S) (Y := Y) (β := b + 1) (m := m) (b := b) (cp := (b + 1 + 28, m + 1874)) (L := 355) (by decide) (by decide) (by show b + 1 + 1 ≤ b + 1 + 28; omega) (by show m + 355 ≤ m + 1874; omega) h (by omega) z0
  obtain ⟨Y2, T2, S2, e2, p2, g2, c2, i2, r2, z2⟩ := i_row (f := 1201) (S := S1) (Y := Y1) (β := b + 2) (m := m + 355) (b := b) (cp := (b + 1 + 28, m + 1874)) (L := 355) (by decide) (by decide) (by show b + 2 + 1 ≤ b + 1 + 28; omega) (by show m + 355 + 355 ≤ m + 1874; omega) c1 (by omega) z1
  obtain ⟨Y3, T3, S3, e3, p3, g3, c3, i3, r3, z3⟩ := i_row (f := 1202) (S := S2) (Y := Y2) (β := b + 3) (m := m + 710) (b := b) (cp := (b + 1 + 28, m + 1874)) (L := 355) (by decide) (by decide) (by show b + 3 + 1 ≤ b + 1 + 28; omega) (by show m + 710 + 355 ≤ m + 1874; omega) c2 (by omega) z2
  obtain ⟨Y4, T4, S4, e4, p4, g4, c4, i4, r4, z4⟩ := i_row (f := 1204) (S := S3) (Y := Y3) (β := b + 4) (m := m + 1065) (b := b) (cp := (b + 1 + 28, m + 1874)) (L := 70) (by decide) (by decide) (by show b + 4 + 1 ≤ b + 1 + 28; omega) (by show m + 1065 + 70 ≤ m + 1874; omega) c3 (by omega) z3
  obtain ⟨Y5, T5, S5, e5, p5, g5, c5, i5, r5, z5⟩ := i_row (f := 1205) (S := S4) (Y := Y4) (β := b + 5) (m := m + 1135) (b := b) (cp := (b + 1 + 28, m + 1874)) (L := 200) (by decide) (by decide) (by show b + 5 + 1 ≤ b + 1 + 28; omega) (by show m + 1135 + 200 ≤ m + 1874; omega) c4 (by omega) z4
  obtain ⟨Y6, T6, S6, e6, p6, g6, c6, i6, r6, z6⟩ := i_row (f := 1209) (S := S5) (Y := Y5) (β := b + 6) (m := m + 1335) (b := b) (cp := (b + 1 + 28, m + 1874)) (L := 24) (by decide) (by decide) (by show b + 6 + 1 ≤ b + 1 + 28; omega) (by show m + 1335 + 24 ≤ m + 1874; omega) c5 (by omega) z5
  obtain ⟨Y7, T7, S7, e7, p7, g7, c7, i7, r7, z7⟩ := i_row (f := 1210) (S := S6) (Y := Y6) (β := b + 7) (m := m + 1359) (b := b) (cp := (b + 1 + 28, m + 1874)) (L := 24) (by decide) (by decide) (by show b + 7 + 1 ≤ b + 1 + 28; omega) (by show m + 1359 + 24 ≤ m + 1874; omega) c6 (by omega) z6
  obtain ⟨Y8, T8, S8, e8, p8, g8, c8, i8, r8, z8⟩ := i_row (f := 1211) (S := S7) (Y := Y7) (β := b + 8) (m := m + 1383) (b := b) (cp := (b + 1 + 28, m + 1874)) (L := 24) (by decide) (by decide) (by show b + 8 + 1 ≤ b + 1 + 28; omega) (by show m + 1383 + 24 ≤ m + 1874; omega) c7 (by omega) z7
  obtain ⟨Y9, T9, S9, e9, p9, g9, c9, i9, r9, z9⟩ := i_row (f := 1212) (S := S8) (Y := Y8) (β := b + 9) (m := m + 1407) (b := b) (cp := (b + 1 + 28, m + 1874)) (L := 24) (by decide) (by decide) (by show b + 9 + 1 ≤ b + 1 + 28; omega) (by show m + 1407 + 24 ≤ m + 1874; omega) c8 (by omega) z8
  obtain ⟨Y10, T10, S10, e10, p10, g10, c10, i10, r10, z10⟩ := i_row (f := 1213) (S := S9) (Y := Y9) (β := b + 10) (m := m + 1431) (b := b) (cp := (b + 1 + 28, m + 1874)) (L := 24) (by decide) (by decide) (by show b + 10 + 1 ≤ b + 1 + 28; omega) (by show m + 1431 + 24 ≤ m + 1874; omega) c9 (by omega) z9
  obtain ⟨Y11, T11, S11, e11, p11, g11, c11, i11, r11, z11⟩ := i_row (f := 1214) (S := S10) (Y := Y10) (β := b + 11) (m := m + 1455) (b := b) (cp := (b + 1 + 28, m + 1874)) (L := 24) (by decide) (by decide) (by show b + 11 + 1 ≤ b + 1 + 28; omega) (by show m + 1455 + 24 ≤ m + 1874; omega) c10 (by omega) z10
  obtain ⟨Y12, T12, S12, e12, p12, g12, c12, i12, r12, z12⟩ := i_row (f := 1215) (S := S11) (Y := Y11) (β := b + 12) (m := m + 1479) (b := b) (cp := (b + 1 + 28, m + 1874)) (L := 24) (by decide) (by decide) (by show b + 12 + 1 ≤ b + 1 + 28; omega) (by show m + 1479 + 24 ≤ m + 1874; omega) c11 (by omega) z11
  obtain ⟨Y13, T13, S13, e13, p13, g13, c13, i13, r13, z13⟩ := i_row (f := 1216) (S := S12) (Y := Y12) (β := b + 13) (m := m + 1503) (b := b) (cp := (b + 1 + 28, m + 1874)) (L := 24) (by decide) (by decide) (by show b + 13 + 1 ≤ b + 1 + 28; omega) (by show m + 1503 + 24 ≤ m + 1874; omega) c12 (by omega) z12
  obtain ⟨Y14, T14, S14, e14, p14, g14, c14, i14, r14, z14⟩ := i_row (f := 1217) (S := S13) (Y := Y13) (β := b + 14) (m := m + 1527) (b := b) (cp := (b + 1 + 28, m + 1874)) (L := 24) (by decide) (by decide) (by show b + 14 + 1 ≤ b + 1 + 28; omega) (by show m + 1527 + 24 ≤ m + 1874; omega) c13 (by omega) z13
  obtain ⟨Y15, T15, S15, e15, p15, g15, c15, i15, r15, z15⟩ := i_row (f := 1218) (S := S14) (Y := Y14) (β := b + 15) (m := m + 1551) (b := b) (cp := (b + 1 + 28, m + 1874)) (L := 24) (by decide) (by decide) (by show b + 15 + 1 ≤ b + 1 + 28; omega) (by show m + 1551 + 24 ≤ m + 1874; omega) c14 (by omega) z14
  obtain ⟨Y16, T16, S16, e16, p16, g16, c16, i16, r16, z16⟩ := i_row (f := 1219) (S := S15) (Y := Y15) (β := b + 16) (m := m + 1575) (b := b) (cp := (b + 1 + 28, m + 1874)) (L := 24) (by decide) (by decide) (by show b + 16 + 1 ≤ b + 1 + 28; omega) (by show m + 1575 + 24 ≤ m + 1874; omega) c15 (by omega) z15
  obtain ⟨Y17, T17, S17, e17, p17, g17, c17, i17, r17, z17⟩ := i_row (f := 1223) (S := S16) (Y := Y16) (β := b + 17) (m := m + 1599) (b := b) (cp := (b + 1 + 28, m + 1874)) (L := 24) (by decide) (by decide) (by show b + 17 + 1 ≤ b + 1 + 28; omega) (by show m + 1599 + 24 ≤ m + 1874; omega) c16 (by omega) z16
  obtain ⟨Y18, T18, S18, e18, p18, g18, c18, i18, r18, z18⟩ := i_row (f := 1224) (S := S17) (Y := Y17) (β := b + 18) (m := m + 1623) (b := b) (cp := (b + 1 + 28, m + 1874)) (L := 24) (by decide) (by decide) (by show b + 18 + 1 ≤ b + 1 + 28; omega) (by show m + 1623 + 24 ≤ m + 1874; omega) c17 (by omega) z17
  obtain ⟨Y19, T19, S19, e19, p19, g19, c19, i19, r19, z19⟩ := i_row (f := 1225) (S := S18) (Y := Y18) (β := b + 19) (m := m + 1647) (b := b) (cp := (b + 1 + 28, m + 1874)) (L := 24) (by decide) (by decide) (by show b + 19 + 1 ≤ b + 1 + 28; omega) (by show m + 1647 + 24 ≤ m + 1874; omega) c18 (by omega) z18
  obtain ⟨Y20, T20, S20, e20, p20, g20, c20, i20, r20, z20⟩ := i_row (f := 1226) (S := S19) (Y := Y19) (β := b + 20) (m := m + 1671) (b := b) (cp := (b + 1 + 28, m + 1874)) (L := 24) (by decide) (by decide) (by show b + 20 + 1 ≤ b + 1 + 28; omega) (by show m + 1671 + 24 ≤ m + 1874; omega) c19 (by omega) z19
  obtain ⟨Y21, T21, S21, e21, p21, g21, c21, i21, r21, z21⟩ := i_row (f := 1227) (S := S20) (Y := Y20) (β := b + 21) (m := m + 1695) (b := b) (cp := (b + 1 + 28, m + 1874)) (L := 24) (by decide) (by decide) (by show b + 21 + 1 ≤ b + 1 + 28; omega) (by show m + 1695 + 24 ≤ m + 1874; omega) c20 (by omega) z20
  obtain ⟨Y22, T22, S22, e22, p22, g22, c22, i22, r22, z22⟩ := i_row (f := 1228) (S := S21) (Y := Y21) (β := b + 22) (m := m + 1719) (b := b) (cp := (b + 1 + 28, m + 1874)) (L := 24) (by decide) (by decide) (by show b + 22 + 1 ≤ b + 1 + 28; omega) (by show m + 1719 + 24 ≤ m + 1874; omega) c21 (by omega) z21
  obtain ⟨Y23, T23, S23, e23, p23, g23, c23, i23, r23, z23⟩ := i_row (f := 1229) (S := S22) (Y := Y22) (β := b + 23) (m := m + 1743) (b := b) (cp := (b + 1 + 28, m + 1874)) (L := 24) (by decide) (by decide) (by show b + 23 + 1 ≤ b + 1 + 28; omega) (by show m + 1743 + 24 ≤ m + 1874; omega) c22 (by omega) z22
  obtain ⟨Y24, T24, S24, e24, p24, g24, c24, i24, r24, z24⟩ := i_row (f := 1230) (S := S23) (Y := Y23) (β := b + 24) (m := m + 1767) (b := b) (cp := (b + 1 + 28, m + 1874)) (L := 24) (by decide) (by decide) (by show b + 24 + 1 ≤ b + 1 + 28; omega) (by show m + 1767 + 24 ≤ m + 1874; omega) c23 (by omega) z23
  obtain ⟨Y25, T25, S25, e25, p25, g25, c25, i25, r25, z25⟩ := i_row (f := 1231) (S := S24) (Y := Y24) (β := b + 25) (m := m + 1791) (b := b) (cp := (b + 1 + 28, m + 1874)) (L := 24) (by decide) (by decide) (by show b + 25 + 1 ≤ b + 1 + 28; omega) (by show m + 1791 + 24 ≤ m + 1874; omega) c24 (by omega) z24
  obtain ⟨Y26, T26, S26, e26, p26, g26, c26, i26, r26, z26⟩ := i_row (f := 1232) (S := S25) (Y := Y25) (β := b + 26) (m := m + 1815) (b := b) (cp := (b + 1 + 28, m + 1874)) (L := 24) (by decide) (by decide) (by show b + 26 + 1 ≤ b + 1 + 28; omega) (by show m + 1815 + 24 ≤ m + 1874; omega) c25 (by omega) z25
  obtain ⟨Y27, T27, S27, e27, p27, g27, c27, i27, r27, z27⟩ := i_row (f := 1233) (S := S26) (Y := Y26) (β := b + 27) (m := m + 1839) (b := b) (cp := (b + 1 + 28, m + 1874)) (L := 24) (by decide) (by decide) (by show b + 27 + 1 ≤ b + 1 + 28; omega) (by show m + 1839 + 24 ≤ m + 1874; omega) c26 (by omega) z26
  obtain ⟨Y28, T28, S28, e28, p28, g28, c28, i28, r28, z28⟩ := i_row (f := 1234) (S := S27) (Y := Y27) (β := b + 28) (m := m + 1863) (b := b) (cp := (b + 1 + 28, m + 1874)) (L := 11) (by decide) (by decide) (by show b + 28 + 1 ≤ b + 1 + 28; omega) (by show m + 1863 + 11 ≤ m + 1874; omega) c27 (by omega) z27
  have x1 : S28.2.1 1200 b = some (b + 1) := by rw [r28, r27, r26, r25, r24, r23, r22, r21, r20, r19, r18, r17, r16, r15, r14, r13, r12, r11, r10, r9, r8, r7, r6, r5, r4, r3, r2, r1]; rfl
  have x2 : S28.2.1 1201 b = some (b + 2) := by rw [r28, r27, r26, r25, r24, r23, r22, r21, r20, r19, r18, r17, r16, r15, r14, r13, r12, r11, r10, r9, r8, r7, r6, r5, r4, r3, r2]; rfl
  have x3 : S28.2.1 1202 b = some (b + 3) := by rw [r28, r27, r26, r25, r24, r23, r22, r21, r20, r19, r18, r17, r16, r15, r14, r13, r12, r11, r10, r9, r8, r7, r6, r5, r4, r3]; rfl
  have x4 : S28.2.1 1204 b = some (b + 4) := by rw [r28, r27, r26, r25, r24, r23, r22, r21, r20, r19, r18, r17, r16, r15, r14, r13, r12, r11, r10, r9, r8, r7, r6, r5, r4]; rfl
  have x5 : S28.2.1 1205 b = some (b + 5) := by rw [r28, r27, r26, r25, r24, r23, r22, r21, r20, r19, r18, r17, r16, r15, r14, r13, r12, r11, r10, r9, r8, r7, r6, r5]; rfl
  have x6 : S28.2.1 1209 b = some (b + 6) := by rw [r28, r27, r26, r25, r24, r23, r22, r21, r20, r19, r18, r17, r16, r15, r14, r13, r12, r11, r10, r9, r8, r7, r6]; rfl
  have x7 : S28.2.1 1210 b = some (b + 7) := by rw [r28, r27, r26, r25, r24, r23, r22, r21, r20, r19, r18, r17, r16, r15, r14, r13, r12, r11, r10, r9, r8, r7]; rfl
  have x8 : S28.2.1 1211 b = some (b + 8) := by rw [r28, r27, r26, r25, r24, r23, r22, r21, r20, r19, r18, r17, r16, r15, r14, r13, r12, r11, r10, r9, r8]; rfl
  have x9 : S28.2.1 1212 b = some (b + 9) := by rw [r28, r27, r26, r25, r24, r23, r22, r21, r20, r19, r18, r17, r16, r15, r14, r13, r12, r11, r10, r9]; rfl
  have x10 : S28.2.1 1213 b = some (b + 10) := by rw [r28, r27, r26, r25, r24, r23, r22, r21, r20, r19, r18, r17, r16, r15, r14, r13, r12, r11, r10]; rfl
  have x11 : S28.2.1 1214 b = some (b + 11) := by rw [r28, r27, r26, r25, r24, r23, r22, r21, r20, r19, r18, r17, r16, r15, r14, r13, r12, r11]; rfl
  have x12 : S28.2.1 1215 b = some (b + 12) := by rw [r28, r27, r26, r25, r24, r23, r22, r21, r20, r19, r18, r17, r16, r15, r14, r13, r12]; rfl
  have x13 : S28.2.1 1216 b = some (b + 13) := by rw [r28, r27, r26, r25, r24, r23, r22, r21, r20, r19, r18, r17, r16, r15, r14, r13]; rfl
  have x14 : S28.2.1 1217 b = some (b + 14) := by rw [r28, r27, r26, r25, r24, r23, r22, r21, r20, r19, r18, r17, r16, r15, r14]; rfl
  have x15 : S28.2.1 1218 b = some (b + 15) := by rw [r28, r27, r26, r25, r24, r23, r22, r21, r20, r19, r18, r17, r16, r15]; rfl
  have x16 : S28.2.1 1219 b = some (b + 16) := by rw [r28, r27, r26, r25, r24, r23, r22, r21, r20, r19, r18, r17, r16]; rfl
  have x17 : S28.2.1 1223 b = some (b + 17) := by rw [r28, r27, r26, r25, r24, r23, r22, r21, r20, r19, r18, r17]; rfl
  have x18 : S28.2.1 1224 b = some (b + 18) := by rw [r28, r27, r26, r25, r24, r23, r22, r21, r20, r19, r18]; rfl
  have x19 : S28.2.1 1225 b = some (b + 19) := by rw [r28, r27, r26, r25, r24, r23, r22, r21, r20, r19]; rfl
  have x20 : S28.2.1 1226 b = some (b + 20) := by rw [r28, r27, r26, r25, r24, r23, r22, r21, r20]; rfl
  have x21 : S28.2.1 1227 b = some (b + 21) := by rw [r28, r27, r26, r25, r24, r23, r22, r21]; rfl
  have x22 : S28.2.1 1228 b = some (b + 22) := by rw [r28, r27, r26, r25, r24, r23, r22]; rfl
  have x23 : S28.2.1 1229 b = some (b + 23) := by rw [r28, r27, r26, r25, r24, r23]; rfl
  have x24 : S28.2.1 1230 b = some (b + 24) := by rw [r28, r27, r26, r25, r24]; rfl
  have x25 : S28.2.1 1231 b = some (b + 25) := by rw [r28, r27, r26, r25]; rfl
  have x26 : S28.2.1 1232 b = some (b + 26) := by rw [r28, r27, r26]; rfl
  have x27 : S28.2.1 1233 b = some (b + 27) := by rw [r28, r27]; rfl
  have x28 : S28.2.1 1234 b = some (b + 28) := by rw [r28]; rfl
  have hF : FixM b S28 := ⟨x1, x2, x3, x4, x5, x6, x7, x8, x9, x10, x11, x12, x13, x14, x15, x16, x17, x18, x19, x20, x21, x22, x23, x24, x25, x26, x27, x28⟩
  have hrow : chk Y28 14 (b + 1) = true ∧ Y28.2.2 (b + 1) = 355 := by
    have k1 : chk Y1 14 (b + 1) = true := gro_new (k := 0) g1 rfl
    have l1 : Y1.2.2 (b + 1) = 355 := (g1.2.1 0 14 355 rfl).2 (by omega)
    exact ⟨(gro_chk g28 (by omega)).trans ((gro_chk g27 (by omega)).trans ((gro_chk g26 (by omega)).trans ((gro_chk g25 (by omega)).trans ((gro_chk g24 (by omega)).trans ((gro_chk g23 (by omega)).trans ((gro_chk g22 (by omega)).trans ((gro_chk g21 (by omega)).trans ((gro_chk g20 (by omega)).trans ((gro_chk g19 (by omega)).trans ((gro_chk g18 (by omega)).trans ((gro_chk g17 (by omega)).trans ((gro_chk g16 (by omega)).trans ((gro_chk g15 (by omega)).trans ((gro_chk g14 (by omega)).trans ((gro_chk g13 (by omega)).trans ((gro_chk g12 (by omega)).trans ((gro_chk g11 (by omega)).trans ((gro_chk g10 (by omega)).trans ((gro_chk g9 (by omega)).trans ((gro_chk g8 (by omega)).trans ((gro_chk g7 (by omega)).trans ((gro_chk g6 (by omega)).trans ((gro_chk g5 (by omega)).trans ((gro_chk g4 (by omega)).trans ((gro_chk g3 (by omega)).trans ((gro_chk g2 (by omega)).trans (k1))))))))))))))))))))))))))), ((g28.2.2 _ (by omega)).2).trans (((g27.2.2 _ (by omega)).2).trans (((g26.2.2 _ (by omega)).2).trans (((g25.2.2 _ (by omega)).2).trans (((g24.2.2 _ (by omega)).2).trans (((g23.2.2 _ (by omega)).2).trans (((g22.2.2 _ (by omega)).2).trans (((g21.2.2 _ (by omega)).2).trans (((g20.2.2 _ (by omega)).2).trans (((g19.2.2 _ (by omega)).2).trans (((g18.2.2 _ (by omega)).2).trans (((g17.2.2 _ (by omega)).2).trans (((g16.2.2 _ (by omega)).2).trans (((g15.2.2 _ (by omega)).2).trans (((g14.2.2 _ (by omega)).2).trans (((g13.2.2 _ (by omega)).2).trans (((g12.2.2 _ (by omega)).2).trans (((g11.2.2 _ (by omega)).2).trans (((g10.2.2 _ (by omega)).2).trans (((g9.2.2 _ (by omega)).2).trans (((g8.2.2 _ (by omega)).2).trans (((g7.2.2 _ (by omega)).2).trans (((g6.2.2 _ (by omega)).2).trans (((g5.2.2 _ (by omega)).2).trans (((g4.2.2 _ (by omega)).2).trans (((g3.2.2 _ (by omega)).2).trans (((g2.2.2 _ (by omega)).2).trans (l1)))))))))))))))))))))))))))⟩
  have ew : pA Y28 14 (some (b + 1)) 284 (-1) S28 = some (S28.1, S28.2.1, upN S28.2.2.1 (b + 1) 284 (-1), S28.2.2.2) := by
    show (if (chk Y28 14 (b + 1) && inr (nI 284) (Y28.2.2 (b + 1))) = true then some (S28.1, S28.2.1, upN S28.2.2.1 (b + 1) (nI 284).toNatClampNeg (-1), S28.2.2.2) else none) = _
    rw [hrow.1, hrow.2, inr_nI (by omega) (by decide), nI_clamp (by omega)]
    rfl
  refine ⟨Y28, (S28.1, S28.2.1, upN S28.2.2.1 (b + 1) 284 (-1), S28.2.2.2), ?_, ?_, hF, fun g => ?_, ?_, fun k h1 h2 => ?_⟩
  · unfold fX12_init
    refine ifN (by intro e; cases e) ?_
    refine bnd e1 (bnd p1 ?_)
    refine bnd e2 (bnd p2 ?_)
    refine bnd e3 (bnd p3 ?_)
    refine bnd e4 (bnd p4 ?_)
    refine bnd e5 (bnd p5 ?_)
    refine bnd e6 (bnd p6 ?_)
    refine bnd e7 (bnd p7 ?_)
    refine bnd e8 (bnd p8 ?_)
    refine bnd e9 (bnd p9 ?_)
    refine bnd e10 (bnd p10 ?_)
    refine bnd e11 (bnd p11 ?_)
    refine bnd e12 (bnd p12 ?_)
    refine bnd e13 (bnd p13 ?_)
    refine bnd e14 (bnd p14 ?_)
    refine bnd e15 (bnd p15 ?_)
    refine bnd e16 (bnd p16 ?_)
    refine bnd e17 (bnd p17 ?_)
    refine bnd e18 (bnd p18 ?_)
    refine bnd e19 (bnd p19 ?_)
    refine bnd e20 (bnd p20 ?_)
    refine bnd e21 (bnd p21 ?_)
    refine bnd e22 (bnd p22 ?_)
    refine bnd e23 (bnd p23 ?_)
    refine bnd e24 (bnd p24 ?_)
    refine bnd e25 (bnd p25 ?_)
    refine bnd e26 (bnd p26 ?_)
    refine bnd e27 (bnd p27 ?_)
    refine bnd e28 (bnd p28 ?_)
    refine bnd (gR_ok c28 x1) ?_
    refine bnd ew ?_
    rfl
  · exact gro_app g1 (gro_app g2 (gro_app g3 (gro_app g4 (gro_app g5 (gro_app g6 (gro_app g7 (gro_app g8 (gro_app g9 (gro_app g10 (gro_app g11 (gro_app g12 (gro_app g13 (gro_app g14 (gro_app g15 (gro_app g16 (gro_app g17 (gro_app g18 (gro_app g19 (gro_app g20 (gro_app g21 (gro_app g22 (gro_app g23 (gro_app g24 (gro_app g25 (gro_app g26 (gro_app g27 (g28)))))))))))))))))))))))))))
  · show S28.1 g b = S.1 g b
    rw [i28, i27, i26, i25, i24, i23, i22, i21, i20, i19, i18, i17, i16, i15, i14, i13, i12, i11, i10, i9, i8, i7, i6, i5, i4, i3, i2, i1]
  · funext j
    show upN S28.2.2.1 (b + 1) 284 (-1) (b + 1) j = upd (fun _ => 0) 284 (-1) j
    unfold upN upd
    by_cases hj : j = 284
    · rw [if_pos ⟨rfl, hj⟩, if_pos hj]
    · rw [if_neg (fun y => hj y.2), if_neg hj, z28 (b + 1) (by omega) (by omega)]
  · funext j
    show upN S28.2.2.1 (b + 1) 284 (-1) (b + k) j = 0
    rw [upN_ne (Or.inl (show b + k ≠ b + 1 by omega)), z28 (b + k) (by omega) (by omega)]
end INIM
