/-! the class' object at its beginning -/
def INI (z : Nat) (S : HS) : Prop := S.2.1 1100 z = some (z + 1) ∧ S.2.1 1101 z = some (z + 3) ∧ S.2.1 1102 z = some (z + 5) ∧ S.2.1 1103 z = some (z + 6) ∧ S.2.1 1104 z = some (z + 8) ∧ S.2.1 1105 z = some (z + 11) ∧ S.2.1 1106 z = some (z + 42) ∧ S.2.1 1107 z = some (z + 73) ∧ S.2.1 1108 z = some (z + 171) ∧ S.1 1109 z = 0 ∧
  (S.2.1 700 (z + 1) = some (z + 2) ∧ S.1 701 (z + 1) = 0) ∧ (S.2.1 700 (z + 3) = some (z + 4) ∧ S.1 701 (z + 3) = 0) ∧
  (S.2.1 900 (z + 5) = some (z + 6) ∧ S.2.1 901 (z + 5) = some (z + 8) ∧ S.2.1 0 (z + 6) = some (z + 7) ∧ S.2.2.1 (z + 7) = (fun _ => 0) ∧ S.2.1 209 (z + 8) = some (z + 9) ∧ S.2.1 210 (z + 8) = some (z + 10) ∧ (∀ f, 201 ≤ f → f ≤ 208 → S.1 f (z + 8) = 0) ∧ S.2.1 200 (z + 8) = none) ∧
  ISN (z + 11) S ∧ ISN (z + 42) S ∧ ITR (z + 73) S ∧ ITR (z + 171) S
def LR : List (Nat × Nat) := [(7, 0)] ++ ([(13, 70)] ++ ([(7, 0)] ++ ([(13, 70)] ++ ([(9, 0)] ++ ([(0, 0), (14, 8), (2, 0), (14, 30), (14, 30)] ++ ([(6, 0)] ++ (([(15, 24)] ++ ([(0, 0)] ++ ([(14, 8)] ++ ([(2, 0)] ++ ([(14, 30), (14, 30)] ++ LL 24))))) ++ ([(6, 0)] ++ (([(15, 24)] ++ ([(0, 0)] ++ ([(14, 8)] ++ ([(2, 0)] ++ ([(14, 30), (14, 30)] ++ LL 24))))) ++ ([(8, 0)] ++ (([(16, 24)] ++ NL 24) ++ ([(8, 0)] ++ ([(16, 24)] ++ NL 24)))))))))))))
section INIC
variable {β x n c d j k m f a q z b : Nat} {S S1 S2 : HS} {Y Y1 Y2 : LY} {v : Int32} {w : Option Nat}
theorem ISN_cel (h : ∀ q, x ≤ q → q < x + 31 → cel S1 q = cel S q) (hI : ISN x S) : ISN x S1 := by
  obtain ⟨h1, h2, h3, h4, h5, h6, h7⟩ := hI
  exact ⟨(cel_R (h x (by omega) (by omega)) 600).trans h1, (cel_R (h x (by omega) (by omega)) 601).trans h2, (cel_R (h x (by omega) (by omega)) 602).trans h3, (cel_R (h _ (by omega) (by omega)) 0).trans h4, (cel_R (h _ (by omega) (by omega)) 209).trans h5, (cel_R (h _ (by omega) (by omega)) 210).trans h6, fun i hi => (congrFun (cel_Q (h _ (by omega) (by omega))) i).trans (h7 i hi)⟩
theorem ITR_cel (h : ∀ q, x ≤ q → q < x + 98 → cel S1 q = cel S q) (hI : ITR x S) : ITR x S1 := by
  obtain ⟨h1, h2, h3⟩ := hI
  refine ⟨(cel_R (h x (by omega) (by omega)) 800).trans h1, (cel_I (h x (by omega) (by omega)) 801).trans h2, fun i hi => ?_⟩
  obtain ⟨b1, b2, b3, b4, b5⟩ := h3 i hi
  have e := h (x + 2 + 4 * i) (by omega) (by omega)
  exact ⟨(congrFun (cel_Q (h (x + 1) (by omega) (by omega))) i).trans b1, (cel_R e 401).trans b2, (cel_R e 402).trans b3, (cel_R e 403).trans b4, (cel_I e 400).trans b5⟩
theorem i_runner (h : chk Y 11 z = true) : ∃ Y1 S1, fX11_init Y S (z + 1, m) (some z) = some (Y1, S1, (z + 269, m + 2604)) ∧ GRO (z + 1) LR Y Y1 ∧ INI z S1 := by
  obtain ⟨Y1, S1, e1, g1, c1, f1, -⟩ := newO_ok (S := S) (Y := Y) (β := z + 1) (m := m) (c := 7) (cp := (z + 1 + 268, m + 2604)) (by omega) (by show z + 1 + 1 ≤ z + 1 + 268; omega) (by show m + 2 ≤ m + 2604; omega)
  obtain ⟨Y2, S2, e2, g2, f2, t700, t701⟩ := i_text (S := S1) (Y := Y1) (x := z + 1) (β := z + 2) (m := m + 2) c1 (by omega)
  have hc2 : chk Y2 11 z = true := (gro_chk g2 (by omega)).trans ((gro_chk g1 (by omega)).trans h)
  obtain ⟨Y3, S3, e3, g3, c3, f3, -⟩ := newO_ok (S := (S2.1, upN S2.2.1 1100 z (some (z + 1)), S2.2.2)) (Y := Y2) (β := z + 3) (m := m + 72) (c := 7) (cp := (z + 1 + 268, m + 2604)) (by omega) (by show z + 3 + 1 ≤ z + 1 + 268; omega) (by show m + 72 + 2 ≤ m + 2604; omega)
  obtain ⟨Y4, S4, e4, g4, f4, u700, u701⟩ := i_text (S := S3) (Y := Y3) (x := z + 3) (β := z + 4) (m := m + 74) c3 (by omega)
  have hc4 : chk Y4 11 z = true := (gro_chk g4 (by omega)).trans ((gro_chk g3 (by omega)).trans hc2)
  obtain ⟨Y5, S5, e5, g5, c5, f5, -⟩ := newO_ok (S := (S4.1, upN S4.2.1 1101 z (some (z + 3)), S4.2.2)) (Y := Y4) (β := z + 5) (m := m + 144) (c := 9) (cp := (z + 1 + 268, m + 2604)) (by omega) (by show z + 5 + 1 ≤ z + 1 + 268; omega) (by show m + 144 + 2 ≤ m + 2604; omega)
  obtain ⟨Y6, S6, e6, g6, f6, w900, w901, w0, wz, w209, w210, wI, w200⟩ := i_walker (S := S5) (Y := Y5) (x := z + 5) (β := z + 6) (m := m + 146) c5 (by omega)
  have hc6 : chk Y6 11 z = true := (gro_chk g6 (by omega)).trans ((gro_chk g5 (by omega)).trans hc4)
  have hw6 : chk Y6 9 (z + 5) = true := (gro_chk g6 (by omega)).trans c5
  -- the walker's parts, kept beside
  obtain ⟨S7, hS7⟩ : ∃ S7 : HS, S7 = (S6.1, upN (upN (upN S6.2.1 1102 z (some (z + 5))) 1103 z (some (z + 6))) 1104 z (some (z + 8)), S6.2.2) := ⟨_, rfl⟩
  have f7 : ∀ q, q ≠ z → cel S7 q = cel S6 q := fun q hq => by
    rw [hS7]
    exact (cel_upR (S := (S6.1, upN (upN S6.2.1 1102 z (some (z + 5))) 1103 z (some (z + 6)), S6.2.2)) hq).trans ((cel_upR (S := (S6.1, upN S6.2.1 1102 z (some (z + 5)), S6.2.2)) hq).trans (cel_upR hq))
  obtain ⟨Y8, S8, e8, g8, c8, f8, -⟩ := newO_ok (S := S7) (Y := Y6) (β := z + 11) (m := m + 226) (c := 6) (cp := (z + 1 + 268, m + 2604)) (by omega) (by show z + 11 + 1 ≤ z + 1 + 268; omega) (by show m + 226 + 3 ≤ m + 2604; omega)
  obtain ⟨Y9, S9, e9, g9, f9, sn1⟩ := i_snap (S := S8) (Y := Y8) (x := z + 11) (m := m + 229) c8
  have hc9 : chk Y9 11 z = true := (gro_chk g9 (by omega)).trans ((gro_chk g8 (by omega)).trans hc6)
  obtain ⟨Y10, S10, e10, g10, c10, f10, -⟩ := newO_ok (S := (S9.1, upN S9.2.1 1105 z (some (z + 11)), S9.2.2)) (Y := Y9) (β := z + 42) (m := m + 573) (c := 6) (cp := (z + 1 + 268, m + 2604)) (by omega) (by show z + 42 + 1 ≤ z + 1 + 268; omega) (by show m + 573 + 3 ≤ m + 2604; omega)
  obtain ⟨Y11, S11, e11, g11, f11, sn2⟩ := i_snap (S := S10) (Y := Y10) (x := z + 42) (m := m + 576) c10
  have hc11 : chk Y11 11 z = true := (gro_chk g11 (by omega)).trans ((gro_chk g10 (by omega)).trans hc9)
  obtain ⟨Y12, S12, e12, g12, c12, f12, -⟩ := newO_ok (S := (S11.1, upN S11.2.1 1106 z (some (z + 42)), S11.2.2)) (Y := Y11) (β := z + 73) (m := m + 920) (c := 8) (cp := (z + 1 + 268, m + 2604)) (by omega) (by show z + 73 + 1 ≤ z + 1 + 268; omega) (by show m + 920 + 2 ≤ m + 2604; omega)
  obtain ⟨Y13, S13, e13, g13, f13, tr1⟩ := i_tree (S := S12) (Y := Y12) (x := z + 73) (m := m + 922) c12
  have hc13 : chk Y13 11 z = true := (gro_chk g13 (by omega)).trans ((gro_chk g12 (by omega)).trans hc11)
  obtain ⟨Y14, S14, e14, g14, c14, f14, -⟩ := newO_ok (S := (S13.1, upN S13.2.1 1107 z (some (z + 73)), S13.2.2)) (Y := Y13) (β := z + 171) (m := m + 1762) (c := 8) (cp := (z + 1 + 268, m + 2604)) (by omega) (by show z + 171 + 1 ≤ z + 1 + 268; omega) (by show m + 1762 + 2 ≤ m + 2604; omega)
  obtain ⟨Y15, S15, e15, g15, f15, tr2⟩ := i_tree (S := S14) (Y := Y14) (x := z + 171) (m := m + 1764) c14
  have hc15 : chk Y15 11 z = true := (gro_chk g15 (by omega)).trans ((gro_chk g14 (by omega)).trans hc13)
  -- frames, from behind
  have F15 : ∀ q, q ≠ z → cel (upN S15.1 1109 z 0, upN S15.2.1 1108 z (some (z + 171)), S15.2.2) q = cel S15 q := fun q h1 => (cel_upI (S := (S15.1, upN S15.2.1 1108 z (some (z + 171)), S15.2.2)) h1).trans (cel_upR h1)
  have F13 : ∀ q, q < z + 171 → q ≠ z → cel (upN S15.1 1109 z 0, upN S15.2.1 1108 z (some (z + 171)), S15.2.2) q = cel S13 q := fun q h1 h2 => (F15 q h2).trans ((f15 q (by omega) (by omega)).trans ((f14 q (by omega)).trans (cel_upR h2)))
  have F11 : ∀ q, q < z + 73 → q ≠ z → cel (upN S15.1 1109 z 0, upN S15.2.1 1108 z (some (z + 171)), S15.2.2) q = cel S11 q := fun q h1 h2 => (F13 q (by omega) h2).trans ((f13 q (by omega) (by omega)).trans ((f12 q (by omega)).trans (cel_upR h2)))
  have F9 : ∀ q, q < z + 42 → q ≠ z → cel (upN S15.1 1109 z 0, upN S15.2.1 1108 z (some (z + 171)), S15.2.2) q = cel S9 q := fun q h1 h2 => (F11 q (by omega) h2).trans ((f11 q (by omega) (by omega)).trans ((f10 q (by omega)).trans (cel_upR h2)))
  have F6 : ∀ q, q < z + 11 → q ≠ z → cel (upN S15.1 1109 z 0, upN S15.2.1 1108 z (some (z + 171)), S15.2.2) q = cel S6 q := fun q h1 h2 => (F9 q (by omega) h2).trans ((f9 q (by omega) (by omega)).trans ((f8 q (by omega)).trans (f7 q h2)))
  have F4 : ∀ q, q < z + 5 → q ≠ z → cel (upN S15.1 1109 z 0, upN S15.2.1 1108 z (some (z + 171)), S15.2.2) q = cel S4 q := fun q h1 h2 => (F6 q (by omega) h2).trans ((f6 q (by omega) (by omega)).trans ((f5 q (by omega)).trans (cel_upR h2)))
  have F2 : ∀ q, q < z + 3 → q ≠ z → cel (upN S15.1 1109 z 0, upN S15.2.1 1108 z (some (z + 171)), S15.2.2) q = cel S2 q := fun q h1 h2 => (F4 q (by omega) h2).trans ((f4 q (by omega) (by omega)).trans ((f3 q (by omega)).trans (cel_upR h2)))
  -- the runner's own references
  have o2 : ∀ f, S4.2.1 f z = upN S2.2.1 1100 z (some (z + 1)) f z := fun f => (cel_R (f4 z (by omega) (by omega)) f).trans (cel_R (f3 z (by omega)) f)
  have o4 : ∀ f, S6.2.1 f z = upN S4.2.1 1101 z (some (z + 3)) f z := fun f => (cel_R (f6 z (by omega) (by omega)) f).trans (cel_R (f5 z (by omega)) f)
  have o7 : ∀ f, S9.2.1 f z = upN (upN (upN S6.2.1 1102 z (some (z + 5))) 1103 z (some (z + 6))) 1104 z (some (z + 8)) f z := fun f => (cel_R (f9 z (by omega) (by omega)) f).trans ((cel_R (f8 z (by omega)) f).trans (by rw [hS7]))
  have o9 : ∀ f, S11.2.1 f z = upN S9.2.1 1105 z (some (z + 11)) f z := fun f => (cel_R (f11 z (by omega) (by omega)) f).trans (cel_R (f10 z (by omega)) f)
  have o11 : ∀ f, S13.2.1 f z = upN S11.2.1 1106 z (some (z + 42)) f z := fun f => (cel_R (f13 z (by omega) (by omega)) f).trans (cel_R (f12 z (by omega)) f)
  have o13 : ∀ f, S15.2.1 f z = upN S13.2.1 1107 z (some (z + 73)) f z := fun f => (cel_R (f15 z (by omega) (by omega)) f).trans (cel_R (f14 z (by omega)) f)
  have p1107 : S15.2.1 1107 z = some (z + 73) := (o13 1107).trans upN_self
  have q13 : ∀ f, f ≠ 1107 → S15.2.1 f z = S13.2.1 f z := fun f hf => (o13 f).trans (upN_ne (Or.inl hf))
  have p1106 : S13.2.1 1106 z = some (z + 42) := (o11 1106).trans upN_self
  have q11 : ∀ f, f ≠ 1106 → S13.2.1 f z = S11.2.1 f z := fun f hf => (o11 f).trans (upN_ne (Or.inl hf))
  have p1105 : S11.2.1 1105 z = some (z + 11) := (o9 1105).trans upN_self
  have q9 : ∀ f, f ≠ 1105 → S11.2.1 f z = S9.2.1 f z := fun f hf => (o9 f).trans (upN_ne (Or.inl hf))
  have p1104 : S9.2.1 1104 z = some (z + 8) := (o7 1104).trans upN_self
  have p1103 : S9.2.1 1103 z = some (z + 6) := (o7 1103).trans ((upN_ne (Or.inl (by decide))).trans upN_self)
  have p1102 : S9.2.1 1102 z = some (z + 5) := (o7 1102).trans ((upN_ne (Or.inl (by decide))).trans ((upN_ne (Or.inl (by decide))).trans upN_self))
  have q7 : ∀ f, f ≠ 1102 → f ≠ 1103 → f ≠ 1104 → S9.2.1 f z = S6.2.1 f z := fun f h1 h2 h3 => (o7 f).trans ((upN_ne (Or.inl h3)).trans ((upN_ne (Or.inl h2)).trans (upN_ne (Or.inl h1))))
  have p1101 : S6.2.1 1101 z = some (z + 3) := (o4 1101).trans upN_self
  have q4 : ∀ f, f ≠ 1101 → S6.2.1 f z = S4.2.1 f z := fun f hf => (o4 f).trans (upN_ne (Or.inl hf))
  have p1100 : S4.2.1 1100 z = some (z + 1) := (o2 1100).trans upN_self
  have qf : ∀ f, f ≠ 1108 → upN S15.2.1 1108 z (some (z + 171)) f z = S15.2.1 f z := fun f hf => upN_ne (Or.inl hf)
  refine ⟨Y15, (upN S15.1 1109 z 0, upN S15.2.1 1108 z (some (z + 171)), S15.2.2), ?_, ?_, ?_⟩
  · unfold fX11_init
    refine ifN (by intro e; cases e) ?_
    refine bnd e1 ?_
    refine bnd e2 ?_
    refine ifN (fun y => y ⟨rfl, by show z + 2 + 1 ≤ z + 1 + 268; omega, by show m + 2 + 70 ≤ m + 2604; omega⟩) ?_
    refine bnd (pR_ok hc2) ?_
    refine bnd e3 ?_
    refine bnd e4 ?_
    refine ifN (fun y => y ⟨rfl, by show z + 4 + 1 ≤ z + 1 + 268; omega, by show m + 74 + 70 ≤ m + 2604; omega⟩) ?_
    refine bnd (pR_ok hc4) ?_
    refine bnd e5 ?_
    refine bnd e6 ?_
    refine ifN (fun y => y ⟨rfl, by show z + 6 + 5 ≤ z + 1 + 268; omega, by show m + 146 + 80 ≤ m + 2604; omega⟩) ?_
    refine bnd (pR_ok hc6) ?_
    refine bnd (gR_ok hc6 upN_self) ?_
    refine bnd (gR_ok hw6 (w := some (z + 6)) ((show _ = S6.2.1 900 (z + 5) from rfl).trans w900)) ?_
    refine bnd (pR_ok hc6) ?_
    refine bnd (gR_ok hc6 (w := some (z + 5)) ((show _ = upN S6.2.1 1102 z (some (z + 5)) 1102 z from rfl).trans upN_self)) ?_
    refine bnd (gR_ok hw6 (w := some (z + 8)) ((show _ = S6.2.1 901 (z + 5) from rfl).trans w901)) ?_
    refine bnd (pR_ok hc6) ?_
    rw [hS7] at e8
    refine bnd e8 ?_
    refine bnd e9 ?_
    refine ifN (fun y => y ⟨rfl, by show z + 11 + 31 ≤ z + 1 + 268; omega, by show m + 229 + 344 ≤ m + 2604; omega⟩) ?_
    refine bnd (pR_ok hc9) ?_
    refine bnd e10 ?_
    refine bnd e11 ?_
    refine ifN (fun y => y ⟨rfl, by show z + 42 + 31 ≤ z + 1 + 268; omega, by show m + 576 + 344 ≤ m + 2604; omega⟩) ?_
    refine bnd (pR_ok hc11) ?_
    refine bnd e12 ?_
    refine bnd e13 ?_
    refine ifN (fun y => y ⟨rfl, by show z + 73 + 98 ≤ z + 1 + 268; omega, by show m + 922 + 840 ≤ m + 2604; omega⟩) ?_
    refine bnd (pR_ok hc13) ?_
    refine bnd e14 ?_
    refine bnd e15 ?_
    refine ifN (fun y => y ⟨rfl, by show z + 171 + 98 ≤ z + 1 + 268; omega, by show m + 1764 + 840 ≤ m + 2604; omega⟩) ?_
    refine bnd (pR_ok hc15) ?_
    refine bnd (pZ_ok hc15 (Or.inl rfl)) ?_
    rfl
  · exact gro_app g1 (gro_app g2 (gro_app g3 (gro_app g4 (gro_app g5 (gro_app g6 (gro_app g8 (gro_app g9 (gro_app g10 (gro_app g11 (gro_app g12 (gro_app g13 (gro_app g14 g15))))))))))))
  · refine ⟨?_, ?_, ?_, ?_, ?_, ?_, ?_, ?_, upN_self, upN_self, ⟨?_, ?_⟩, ⟨?_, ?_⟩, ⟨?_, ?_, ?_, ?_, ?_, ?_, fun f h1 h2 => ?_, ?_⟩, ?_, ?_, ?_, ?_⟩
    · exact (qf 1100 (by decide)).trans ((q13 1100 (by decide)).trans ((q11 1100 (by decide)).trans ((q9 1100 (by decide)).trans ((q7 1100 (by decide) (by decide) (by decide)).trans ((q4 1100 (by decide)).trans p1100)))))
    · exact (qf 1101 (by decide)).trans ((q13 1101 (by decide)).trans ((q11 1101 (by decide)).trans ((q9 1101 (by decide)).trans ((q7 1101 (by decide) (by decide) (by decide)).trans p1101))))
    · exact (qf 1102 (by decide)).trans ((q13 1102 (by decide)).trans ((q11 1102 (by decide)).trans ((q9 1102 (by decide)).trans p1102)))
    · exact (qf 1103 (by decide)).trans ((q13 1103 (by decide)).trans ((q11 1103 (by decide)).trans ((q9 1103 (by decide)).trans p1103)))
    · exact (qf 1104 (by decide)).trans ((q13 1104 (by decide)).trans ((q11 1104 (by decide)).trans ((q9 1104 (by decide)).trans p1104)))
    · exact (qf 1105 (by decide)).trans ((q13 1105 (by decide)).trans ((q11 1105 (by decide)).trans p1105))
    · exact (qf 1106 (by decide)).trans ((q13 1106 (by decide)).trans p1106)
    · exact (qf 1107 (by decide)).trans p1107
    · exact (cel_R (F2 (z + 1) (by omega) (by omega)) 700).trans t700
    · exact (cel_I (F2 (z + 1) (by omega) (by omega)) 701).trans t701
    · exact (cel_R (F4 (z + 3) (by omega) (by omega)) 700).trans u700
    · exact (cel_I (F4 (z + 3) (by omega) (by omega)) 701).trans u701
    · exact (cel_R (F6 (z + 5) (by omega) (by omega)) 900).trans w900
    · exact (cel_R (F6 (z + 5) (by omega) (by omega)) 901).trans w901
    · exact (cel_R (F6 (z + 6) (by omega) (by omega)) 0).trans w0
    · exact (cel_A (F6 (z + 7) (by omega) (by omega))).trans wz
    · exact (cel_R (F6 (z + 8) (by omega) (by omega)) 209).trans w209
    · exact (cel_R (F6 (z + 8) (by omega) (by omega)) 210).trans w210
    · exact (cel_I (F6 (z + 8) (by omega) (by omega)) f).trans (wI f h1 h2)
    · exact (cel_R (F6 (z + 8) (by omega) (by omega)) 200).trans w200
    · exact ISN_cel (fun q h1 h2 => F9 q (by omega) (by omega)) sn1
    · exact ISN_cel (fun q h1 h2 => F11 q (by omega) (by omega)) sn2
    · exact ITR_cel (fun q h1 h2 => F13 q (by omega) (by omega)) tr1
    · exact ITR_cel (fun q h1 h2 => F15 q (by omega)) tr2
theorem INI_fix (h : INI z S) : FixC z S := by
  obtain ⟨a1, a2, a3, a4, a5, a6, a7, a8, a9, a10, ⟨b1, b2⟩, ⟨c1, c2⟩, ⟨d1, d2, d3, d4, d5, d6, d7, d8⟩, ⟨s1, s2, s3, s4, s5, s6, s7⟩, ⟨u1, u2, u3, u4, u5, u6, u7⟩, ⟨t1, t2, t3⟩, ⟨v1, v2, v3⟩⟩ := h
  refine ⟨a1, a2, a3, a4, a5, a6, a7, b1, c1, d1, d2, d3, s4, u4, d5, d6, s5, s6, u5, u6, s1, s2, s3, u1, u2, u3, fun i hi => ⟨?_, ?_⟩, fun T hT => ?_⟩
  · refine (s7 i hi).trans ?_
    congr 1
    omega
  · refine (u7 i hi).trans ?_
    congr 1
    omega
  · rcases hT with rfl | rfl
    · refine ⟨t1, fun i hi => ?_⟩
      obtain ⟨e1, e2, e3, e4, e5⟩ := t3 i hi
      rw [show z + 73 + 2 + 4 * i = nda z 73 i by unfold nda; omega] at e1 e2 e3 e4 e5
      rw [show z + 73 + 3 + 4 * i = cla z 73 i by unfold cla; omega] at e2
      rw [show z + 73 + 4 + 4 * i = ena z 73 i by unfold ena; omega] at e3
      rw [show z + 73 + 5 + 4 * i = lfa z 73 i by unfold lfa; omega] at e4
      exact ⟨e1, e2, e3, e4, e5⟩
    · refine ⟨v1, fun i hi => ?_⟩
      obtain ⟨e1, e2, e3, e4, e5⟩ := v3 i hi
      rw [show z + 171 + 2 + 4 * i = nda z 171 i by unfold nda; omega] at e1 e2 e3 e4 e5
      rw [show z + 171 + 3 + 4 * i = cla z 171 i by unfold cla; omega] at e2
      rw [show z + 171 + 4 + 4 * i = ena z 171 i by unfold ena; omega] at e3
      rw [show z + 171 + 5 + 4 * i = lfa z 171 i by unfold lfa; omega] at e4
      exact ⟨e1, e2, e3, e4, e5⟩
end INIC
