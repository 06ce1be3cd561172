/-! the constructors of the trees and of the snapshots -/
def NL : Nat → List (Nat × Nat)
  | 0 => []
  | d + 1 => [(4, 0), (1, 0), (1, 0), (3, 0)] ++ NL d
def LL : Nat → List (Nat × Nat)
  | 0 => []
  | d + 1 => [(3, 0)] ++ LL d
section GRO2
variable {β x n c d j k m f a q : Nat} {S S1 S2 : HS} {Y Y1 Y2 : LY} {L L1 L2 : List (Nat × Nat)} {cp N : Nat × Nat} {v : Int32} {w : Option Nat}
theorem NL_len : ∀ d, (NL d).length = 4 * d
  | 0 => rfl
  | d + 1 => by
    rw [NL, List.length_append, NL_len d]
    show 4 + 4 * d = _
    omega
theorem LL_len : ∀ d, (LL d).length = d
  | 0 => rfl
  | d + 1 => by
    rw [LL, List.length_append, LL_len d]
    show 1 + d = _
    omega
theorem pQ_ok {y cN b : Nat} (h1 : chk Y k a = true) (h2 : Y.2.2 a = 24) (hj : j < 24) (h3 : chk Y cN b = true) : pQ Y k cN (some a) (nI j) (some b) S = some (S.1, S.2.1, S.2.2.1, upN S.2.2.2 a j (some b)) := by
  show (if (chk Y k a && inr (nI j) (Y.2.2 a) && chk Y cN b) = true then some (S.1, S.2.1, S.2.2.1, upN S.2.2.2 a (nI j).toNatClampNeg (some b)) else none) = _
  rw [h1, h2, h3, inr_nI hj (by decide), nI_clamp (by omega)]
  rfl
theorem cel_upQ (h : q ≠ a) : cel (S.1, S.2.1, S.2.2.1, upN S.2.2.2 a j w) q = cel S q := by
  unfold cel upN
  simp [h]
theorem i_nodes {x β : Nat} (hx : x < β) : ∀ (d j fuel m : Nat) (Y : LY) (S : HS), j + d = 24 → d < fuel → β + 97 ≤ cp.1 → m + 34 * d ≤ cp.2 → chk Y 8 x = true → S.2.1 800 x = some β → chk Y 16 β = true → Y.2.2 β = 24 → ∃ Y1 S1, fX8_init_20 cp fuel Y S (β + 1 + 4 * j, m) (some x) (nI j) = some (Y1, S1, (β + 97, m + 34 * d)) ∧ GRO (β + 1 + 4 * j) (NL d) Y Y1 ∧ (∀ q, q < β + 1 + 4 * j → q ≠ β → cel S1 q = cel S q) ∧ (∀ i, i < j → S1.2.2.2 β i = S.2.2.2 β i) ∧ (∀ i, j ≤ i → i < 24 → S1.2.2.2 β i = some (β + 1 + 4 * i) ∧ S1.2.1 401 (β + 1 + 4 * i) = some (β + 2 + 4 * i) ∧ S1.2.1 402 (β + 1 + 4 * i) = some (β + 3 + 4 * i) ∧ S1.2.1 403 (β + 1 + 4 * i) = some (β + 4 + 4 * i) ∧ S1.1 400 (β + 1 + 4 * i) = nI i)
  | _, _, 0, _, _, _, _, h, _, _, _, _, _, _ => absurd h (Nat.not_lt_zero _)
  | 0, j, fuel + 1, m, Y, S, hj, _, _, _, h8, h800, h16, hl => by
    have : j = 24 := by omega
    subst this
    refine ⟨Y, S, ?_, gro_nil, fun _ _ _ => rfl, fun _ _ => rfl, fun i h1 h2 => by omega⟩
    rw [fX8_init_20]
    refine bnd (gR_ok h8 h800) ?_
    refine bnd (a := nI 24) ?_ (if_pos (by decide))
    show (if chk Y 16 β = true then some (Int32.ofNat (Y.2.2 β)) else none) = _
    rw [if_pos h16, hl]
    rfl
  | d + 1, j, fuel + 1, m, Y, S, hj, hf, hc1, hc2, h8, h800, h16, hl => by
    obtain ⟨Y1, S1, e1, g1, c1, f1, -⟩ := newO_ok (S := S) (Y := Y) (β := β + 1 + 4 * j) (m := m) (c := 4) (cp := cp) (by omega) (by omega) (by show m + 14 ≤ cp.2; omega)
    obtain ⟨Y2, S2, e2, g2, f2, p401, p402, p403, p400⟩ := i_node (S := S1) (Y := Y1) (x := β + 1 + 4 * j) (β := β + 1 + 4 * j + 1) (m := m + 14) (v := nI j) c1 (by omega)
    have h8' : chk Y2 8 x = true := (gro_chk g2 (by omega)).trans ((gro_chk g1 (by omega)).trans h8)
    have h16' : chk Y2 16 β = true := (gro_chk g2 (by omega)).trans ((gro_chk g1 (by omega)).trans h16)
    have h4' : chk Y2 4 (β + 1 + 4 * j) = true := (gro_chk g2 (by omega)).trans c1
    have hl' : Y2.2.2 β = 24 := ((g2.2.2 β (by omega)).2).trans (((g1.2.2 β (by omega)).2).trans hl)
    have fx : ∀ q, q < β + 1 + 4 * j → cel S2 q = cel S q := fun q hq => (f2 q (by omega) (by omega)).trans (f1 q (by omega))
    have h800' : S2.2.1 800 x = some β := (cel_R (fx x (by omega)) 800).trans h800
    have e3 := pQ_ok (y := 0) (Y := Y2) (S := S2) h16' hl' (show j < 24 by omega) h4'
    obtain ⟨Y4, S4, e4, g4, f4, r4, n4⟩ := i_nodes hx d (j + 1) fuel (m + 34) Y2 (S2.1, S2.2.1, S2.2.2.1, upN S2.2.2.2 β j (some (β + 1 + 4 * j))) (by omega) (by omega) hc1 (by omega) h8' h800' h16' hl'
    rw [show β + 1 + 4 * (j + 1) = β + 1 + 4 * j + 4 by omega] at e4 g4 f4
    refine ⟨Y4, S4, ?_, ?_, fun q hq hqb => ?_, fun i hi => ?_, fun i h1 h2 => ?_⟩
    · rw [fX8_init_20]
      refine bnd (gR_ok h8 h800) ?_
      refine bnd (a := nI 24) ?_ ?_
      · show (if chk Y 16 β = true then some (Int32.ofNat (Y.2.2 β)) else none) = _
        rw [if_pos h16, hl]
        rfl
      refine ifN (nI_ge (by omega) (by decide)) ?_
      refine bnd (gR_ok h8 h800) ?_
      refine bnd e1 ?_
      refine bnd e2 ?_
      refine ifN (fun y => y ⟨rfl, ?_, ?_⟩) ?_
      · show β + 1 + 4 * j + 1 + 3 ≤ cp.1
        omega
      · show m + 14 + 20 ≤ cp.2
        omega
      refine bnd e3 ?_
      rw [nI_1]
      refine Eq.trans ?_ (e4.trans ?_)
      · rfl
      · rw [show m + 34 + 34 * d = m + 34 * (d + 1) by omega]
    · have g3 := gro_app g1 g2
      exact gro_app g3 g4
    · exact (f4 q (by omega) hqb).trans ((cel_upQ hqb).trans (fx q hq))
    · rw [r4 i (by omega)]
      show upN S2.2.2.2 β j _ β i = _
      rw [upN_ne (Or.inr (by omega))]
      exact congrFun (cel_Q (fx β (by omega))) i
    · by_cases hij : i = j
      · subst hij
        have k4 := f4 (β + 1 + 4 * i) (by omega) (by omega)
        have kq : cel (S2.1, S2.2.1, S2.2.2.1, upN S2.2.2.2 β i (some (β + 1 + 4 * i))) (β + 1 + 4 * i) = cel S2 (β + 1 + 4 * i) := cel_upQ (by omega)
        refine ⟨?_, ?_, ?_, ?_, ?_⟩
        · rw [r4 i (by omega)]
          exact upN_self
        · exact (cel_R (k4.trans kq) 401).trans (p401.trans (by congr 1; omega))
        · exact (cel_R (k4.trans kq) 402).trans (p402.trans (by congr 1; omega))
        · exact (cel_R (k4.trans kq) 403).trans (p403.trans (by congr 1; omega))
        · exact (cel_I (k4.trans kq) 400).trans p400
      · exact n4 i (by omega) h2
/-- a tree's facts: its object at x, its row at x + 1 -/
def ITR (x : Nat) (S : HS) : Prop := S.2.1 800 x = some (x + 1) ∧ S.1 801 x = 0 ∧ ∀ i, i < 24 → S.2.2.2 (x + 1) i = some (x + 2 + 4 * i) ∧ S.2.1 401 (x + 2 + 4 * i) = some (x + 3 + 4 * i) ∧ S.2.1 402 (x + 2 + 4 * i) = some (x + 4 + 4 * i) ∧ S.2.1 403 (x + 2 + 4 * i) = some (x + 5 + 4 * i) ∧ S.1 400 (x + 2 + 4 * i) = nI i
theorem i_tree (h : chk Y 8 x = true) : ∃ Y1 S1, fX8_init Y S (x + 1, m) (some x) = some (Y1, S1, (x + 98, m + 840)) ∧ GRO (x + 1) ([(16, 24)] ++ NL 24) Y Y1 ∧ (∀ q, q < x + 1 → q ≠ x → cel S1 q = cel S q) ∧ ITR x S1 := by
  obtain ⟨Y1, S1, e1, g1, c1, f1, a1, q1, l1⟩ := newA_ok (S := S) (Y := Y) (β := x + 1) (m := m) (c := 16) (cp := (x + 1 + 97, m + 840)) (L := 24) (by decide) (by decide) (by show x + 1 + 1 ≤ x + 1 + 97; omega) (by show m + 24 ≤ m + 840; omega)
  have hc1 : chk Y1 8 x = true := (gro_chk g1 (by omega)).trans h
  obtain ⟨Y2, S2, e2, g2, f2, r2, n2⟩ := i_nodes (cp := (x + 1 + 97, m + 840)) (x := x) (β := x + 1) (by omega) 24 0 FU (m + 24) Y1 (upN S1.1 801 x 0, upN S1.2.1 800 x (some (x + 1)), S1.2.2) (by omega) (by unfold FU; omega) (Nat.le_refl _) (by show m + 24 + 34 * 24 ≤ m + 840; omega) hc1 upN_self c1 l1
  refine ⟨Y2, S2, ifN (by intro e; cases e) (bnd e1 (bnd (pR_ok hc1) (bnd (pI_ok hc1) ?_))), gro_app g1 g2, fun q hq hqx => ?_, ?_, ?_, fun i hi => ?_⟩
  · exact e2.trans (by rw [show m + 24 + 34 * 24 = m + 840 by omega])
  · exact (f2 q (by omega) (by omega)).trans ((cel_upI (S := (S1.1, upN S1.2.1 800 x (some (x + 1)), S1.2.2)) hqx).trans ((cel_upR hqx).trans (f1 q (by omega))))
  · exact (cel_R (f2 x (by omega) (by omega)) 800).trans upN_self
  · exact (cel_I (f2 x (by omega) (by omega)) 801).trans upN_self
  · obtain ⟨b1, b2, b3, b4, b5⟩ := n2 i (by omega) hi
    rw [show x + 1 + 1 + 4 * i = x + 2 + 4 * i by omega, show x + 1 + 2 + 4 * i = x + 3 + 4 * i by omega] at b2
    rw [show x + 1 + 1 + 4 * i = x + 2 + 4 * i by omega, show x + 1 + 3 + 4 * i = x + 4 + 4 * i by omega] at b3
    rw [show x + 1 + 1 + 4 * i = x + 2 + 4 * i by omega, show x + 1 + 4 + 4 * i = x + 5 + 4 * i by omega] at b4
    rw [show x + 1 + 1 + 4 * i = x + 2 + 4 * i by omega] at b1 b5
    exact ⟨b1, b2, b3, b4, b5⟩
theorem i_lives {x β : Nat} (hx : x < β) : ∀ (d j fuel m : Nat) (Y : LY) (S : HS), j + d = 24 → d < fuel → β + 30 ≤ cp.1 → m + 10 * d ≤ cp.2 → chk Y 6 x = true → S.2.1 600 x = some β → chk Y 15 β = true → Y.2.2 β = 24 → ∃ Y1 S1, fX6_init_37 cp fuel Y S (β + 6 + j, m) (some x) (nI j) = some (Y1, S1, (β + 30, m + 10 * d)) ∧ GRO (β + 6 + j) (LL d) Y Y1 ∧ (∀ q, q < β + 6 + j → q ≠ β → cel S1 q = cel S q) ∧ (∀ i, i < j → S1.2.2.2 β i = S.2.2.2 β i) ∧ (∀ i, j ≤ i → i < 24 → S1.2.2.2 β i = some (β + 6 + i))
  | _, _, 0, _, _, _, _, h, _, _, _, _, _, _ => absurd h (Nat.not_lt_zero _)
  | 0, j, fuel + 1, m, Y, S, hj, _, _, _, h8, h800, h16, hl => by
    have : j = 24 := by omega
    subst this
    refine ⟨Y, S, ?_, gro_nil, fun _ _ _ => rfl, fun _ _ => rfl, fun i h1 h2 => by omega⟩
    rw [fX6_init_37]
    refine bnd (gR_ok h8 h800) ?_
    refine bnd (a := nI 24) ?_ (if_pos (by decide))
    show (if chk Y 15 β = true then some (Int32.ofNat (Y.2.2 β)) else none) = _
    rw [if_pos h16, hl]
    rfl
  | d + 1, j, fuel + 1, m, Y, S, hj, hf, hc1, hc2, h8, h800, h16, hl => by
    obtain ⟨Y1, S1, e1, g1, c1, f1, -⟩ := newO_ok (S := S) (Y := Y) (β := β + 6 + j) (m := m) (c := 3) (cp := cp) (by omega) (by omega) (by show m + 10 ≤ cp.2; omega)
    obtain ⟨S2, e2, f2⟩ := i_life (S := S1) c1
    have h8' : chk Y1 6 x = true := (gro_chk g1 (by omega)).trans h8
    have h16' : chk Y1 15 β = true := (gro_chk g1 (by omega)).trans h16
    have hl' : Y1.2.2 β = 24 := ((g1.2.2 β (by omega)).2).trans hl
    have fx : ∀ q, q < β + 6 + j → cel S2 q = cel S q := fun q hq => (f2 q (by omega)).trans (f1 q (by omega))
    have h800' : S2.2.1 600 x = some β := (cel_R (fx x (by omega)) 600).trans h800
    have e3 := pQ_ok (y := 0) (Y := Y1) (S := S2) h16' hl' (show j < 24 by omega) c1
    obtain ⟨Y4, S4, e4, g4, f4, r4, n4⟩ := i_lives hx d (j + 1) fuel (m + 10) Y1 (S2.1, S2.2.1, S2.2.2.1, upN S2.2.2.2 β j (some (β + 6 + j))) (by omega) (by omega) hc1 (by omega) h8' h800' h16' hl'
    rw [show β + 6 + (j + 1) = β + 6 + j + 1 by omega] at e4 g4 f4
    refine ⟨Y4, S4, ?_, gro_app g1 g4, fun q hq hqb => ?_, fun i hi => ?_, fun i h1 h2 => ?_⟩
    · rw [fX6_init_37]
      refine bnd (gR_ok h8 h800) ?_
      refine bnd (a := nI 24) ?_ ?_
      · show (if chk Y 15 β = true then some (Int32.ofNat (Y.2.2 β)) else none) = _
        rw [if_pos h16, hl]
        rfl
      refine ifN (nI_ge (by omega) (by decide)) ?_
      refine bnd (gR_ok h8 h800) ?_
      refine bnd e1 ?_
      refine bnd e2 ?_
      refine bnd e3 ?_
      rw [nI_1]
      refine Eq.trans ?_ (e4.trans ?_)
      · rfl
      · rw [show m + 10 + 10 * d = m + 10 * (d + 1) by omega]
    · exact (f4 q (by omega) hqb).trans ((cel_upQ hqb).trans (fx q hq))
    · rw [r4 i (by omega)]
      show upN S2.2.2.2 β j _ β i = _
      rw [upN_ne (Or.inr (by omega))]
      exact congrFun (cel_Q (fx β (by omega))) i
    · by_cases hij : i = j
      · subst hij
        rw [r4 i (by omega)]
        exact upN_self
      · exact n4 i (by omega) h2
/-- a snapshot's facts: its object at x -/
def ISN (x : Nat) (S : HS) : Prop := S.2.1 600 x = some (x + 1) ∧ S.2.1 601 x = some (x + 2) ∧ S.2.1 602 x = some (x + 4) ∧ S.2.1 0 (x + 2) = some (x + 3) ∧ S.2.1 209 (x + 4) = some (x + 5) ∧ S.2.1 210 (x + 4) = some (x + 6) ∧ ∀ i, i < 24 → S.2.2.2 (x + 1) i = some (x + 7 + i)
theorem i_snap (h : chk Y 6 x = true) : ∃ Y1 S1, fX6_init Y S (x + 1, m) (some x) = some (Y1, S1, (x + 31, m + 344)) ∧ GRO (x + 1) ([(15, 24)] ++ ([(0, 0)] ++ ([(14, 8)] ++ ([(2, 0)] ++ ([(14, 30), (14, 30)] ++ LL 24))))) Y Y1 ∧ (∀ q, q < x + 1 → q ≠ x → cel S1 q = cel S q) ∧ ISN x S1 := by
  obtain ⟨Y1, S1, e1, g1, c1, f1, -, -, l1⟩ := newA_ok (S := S) (Y := Y) (β := x + 1) (m := m) (c := 15) (cp := (x + 1 + 30, m + 344)) (L := 24) (by decide) (by decide) (by show x + 1 + 1 ≤ x + 1 + 30; omega) (by show m + 24 ≤ m + 344; omega)
  have hc1 : chk Y1 6 x = true := (gro_chk g1 (by omega)).trans h
  obtain ⟨Y2, S2, e2, g2, c2, f2, -⟩ := newO_ok (S := (S1.1, upN S1.2.1 600 x (some (x + 1)), S1.2.2)) (Y := Y1) (β := x + 2) (m := m + 24) (c := 0) (cp := (x + 1 + 30, m + 344)) (by omega) (by show x + 2 + 1 ≤ x + 1 + 30; omega) (by show m + 24 + 1 ≤ m + 344; omega)
  obtain ⟨Y3, S3, e3, g3, f3, r3, -⟩ := i_board (S := S2) (Y := Y2) (x := x + 2) (β := x + 3) (m := m + 25) c2 (by omega)
  have hc3 : chk Y3 6 x = true := (gro_chk g3 (by omega)).trans ((gro_chk g2 (by omega)).trans hc1)
  obtain ⟨Y4, S4, e4, g4, c4, f4, -⟩ := newO_ok (S := (S3.1, upN S3.2.1 601 x (some (x + 2)), S3.2.2)) (Y := Y3) (β := x + 4) (m := m + 33) (c := 2) (cp := (x + 1 + 30, m + 344)) (by omega) (by show x + 4 + 1 ≤ x + 1 + 30; omega) (by show m + 33 + 11 ≤ m + 344; omega)
  obtain ⟨Y5, S5, e5, g5, f5, r5, r6, -, -⟩ := i_ledger (S := S4) (Y := Y4) (x := x + 4) (β := x + 5) (m := m + 44) c4 (by omega)
  have hc5 : chk Y5 6 x = true := (gro_chk g5 (by omega)).trans ((gro_chk g4 (by omega)).trans hc3)
  have hr5 : chk Y5 15 (x + 1) = true := (gro_chk g5 (by omega)).trans ((gro_chk g4 (by omega)).trans ((gro_chk g3 (by omega)).trans ((gro_chk g2 (by omega)).trans c1)))
  have hl5 : Y5.2.2 (x + 1) = 24 := ((g5.2.2 _ (by omega)).2).trans (((g4.2.2 _ (by omega)).2).trans (((g3.2.2 _ (by omega)).2).trans (((g2.2.2 _ (by omega)).2).trans l1)))
  have p600 : S5.2.1 600 x = some (x + 1) := (cel_R (f5 x (by omega) (by omega)) 600).trans ((cel_R (f4 x (by omega)) 600).trans ((show _ = S3.2.1 600 x from rfl).trans ((cel_R (f3 x (by omega) (by omega)) 600).trans ((cel_R (f2 x (by omega)) 600).trans upN_self))))
  have p601 : S5.2.1 601 x = some (x + 2) := (cel_R (f5 x (by omega) (by omega)) 601).trans ((cel_R (f4 x (by omega)) 601).trans upN_self)
  obtain ⟨Y6, S6, e6, g6, f6, -, n6⟩ := i_lives (cp := (x + 1 + 30, m + 344)) (x := x) (β := x + 1) (by omega) 24 0 FU (m + 104) Y5 (S5.1, upN S5.2.1 602 x (some (x + 4)), S5.2.2) (by omega) (by unfold FU; omega) (Nat.le_refl _) (by show m + 104 + 10 * 24 ≤ m + 344; omega) hc5 ((show _ = S5.2.1 600 x from rfl).trans p600) hr5 hl5
  have fx : ∀ q, q < x + 7 → q ≠ x → q ≠ x + 1 → cel S6 q = cel S5 q := fun q h1 h2 h3 => (f6 q (by omega) h3).trans (cel_upR h2)
  refine ⟨Y6, S6, ifN (by intro e; cases e) (bnd e1 (bnd (pR_ok hc1) (bnd e2 (bnd e3 (ifN (fun y => y ⟨rfl, by show x + 3 + 1 ≤ x + 1 + 30; omega, by show m + 25 + 8 ≤ m + 344; omega⟩) (bnd (pR_ok hc3) (bnd e4 (bnd e5 (ifN (fun y => y ⟨rfl, by show x + 5 + 2 ≤ x + 1 + 30; omega, by show m + 44 + 60 ≤ m + 344; omega⟩) (bnd (pR_ok hc5) ?_)))))))))), gro_app g1 (gro_app g2 (gro_app g3 (gro_app g4 (gro_app g5 g6)))), fun q hq hqx => ?_, ?_, ?_, ?_, ?_, ?_, ?_, fun i hi => ?_⟩
  · exact e6.trans (by rw [show m + 104 + 10 * 24 = m + 344 by omega])
  · exact (fx q (by omega) hqx (by omega)).trans ((f5 q (by omega) (by omega)).trans ((f4 q (by omega)).trans ((cel_upR hqx).trans ((f3 q (by omega) (by omega)).trans ((f2 q (by omega)).trans ((cel_upR hqx).trans (f1 q (by omega))))))))
  · exact (cel_R (f6 x (by omega) (by omega)) 600).trans ((show _ = S5.2.1 600 x from rfl).trans p600)
  · exact (cel_R (f6 x (by omega) (by omega)) 601).trans ((show _ = S5.2.1 601 x from rfl).trans p601)
  · exact (cel_R (f6 x (by omega) (by omega)) 602).trans upN_self
  · exact (cel_R (fx (x + 2) (by omega) (by omega) (by omega)) 0).trans ((cel_R (f5 _ (by omega) (by omega)) 0).trans ((cel_R (f4 _ (by omega)) 0).trans ((cel_R (cel_upR (show x + 2 ≠ x by omega)) 0).trans r3)))
  · exact (cel_R (fx (x + 4) (by omega) (by omega) (by omega)) 209).trans r5
  · exact (cel_R (fx (x + 4) (by omega) (by omega) (by omega)) 210).trans r6
  · have := n6 i (by omega) hi
    rw [show x + 1 + 6 + i = x + 7 + i by omega] at this
    exact this
end GRO2
