/-! the calls that need no copy and no text -/
section CALLS
variable {z b q T n i j k w f a d : Nat} {S0 M0 S M : HS} {v v1 c l : Nat → Int32} {u : Nat → Option Nat} {p : Option Nat} {tr tr1 : TR} {t : TT} {x y r : Int32}
theorem SI_ext (hW : WF n t) (h : ∀ k, k < 355 → (k < 264 ∨ 272 ≤ k) → v1 k = v k) (hS : SI z T n t v c u l p tr) : SI z T n t v1 c u l p tr := by
  have hn := hW.1
  obtain ⟨hB, hI, hR, hP⟩ := hS
  refine ⟨fun m hm => ⟨by rw [h _ (by omega) (by omega)]; exact (hB m hm).1, fun h4 => by rw [h _ (by omega) (by omega)]; exact (hB m hm).2 h4⟩, ⟨by rw [h _ (by omega) (by omega)]; exact hI.1, fun j hj => by rw [h _ (by omega) (by omega), h _ (by omega) (by omega)]; exact hI.2 j hj⟩, fun m hm h1 => ?_, ?_⟩
  · rw [h _ (by omega) (by omega)] at h1
    exact rs_congr (h _ (by omega) (by omega)) (h _ (by omega) (by omega)) (h _ (by omega) (by omega)) rfl rfl (fun _ _ => rfl) (hR m hm h1)
  · rcases hP with ⟨h1, h2⟩ | ⟨i, hi, h1, h2, h3, h4⟩
    · exact Or.inl ⟨h1, by rw [h _ (by omega) (by omega)]; exact h2⟩
    · have hd := wf_dep1 hW hi
      exact Or.inr ⟨i, hi, h1, by rw [h _ (by omega) (by omega)]; exact h2, by rw [h _ (by omega) (by omega)]; exact h3, PTH_congr hW _ i hi (by omega) (fun k hk => h k (by omega) (by omega)) h4⟩
theorem SAV_mono {q1 : Nat} (hq : q ≤ q1) (h : SAV z b T n t q S M) : SAV z b T n t q1 S M := by
  rcases h with h | ⟨h1, h2, c, u, l, p, tr, h3, h4, h5⟩
  · exact Or.inl h
  · exact Or.inr ⟨h1, h2, c, u, l, p, tr, h3, h4, by omega⟩
theorem REL_mono {q1 : Nat} (hq : q ≤ q1) (h : REL z b q S M) : REL z b q1 S M := by
  obtain ⟨T, n, t, S0, M0, v, c, u, l, p, tr, h1, h2, h3, h4, h5, h6, h7, h8, h9, h10, h11⟩ := h
  exact ⟨T, n, t, S0, M0, v, c, u, l, p, tr, h1, h2, h3, h4, h5, by omega, h7, h8, h9, h10, SAV_mono hq h11.1, h11.2⟩
theorem x_set (h : REL z b q S M) : ∃ S1 M1 r, fX11_set (Yc z) S (some z) x y = some (S1, r) ∧ fX12_set (Ym b) M (some b) x y = some (M1, r) ∧ REL z b q S1 M1 := by
  obtain ⟨T, n, t, S0, M0, v, c, u, l, p, tr, rfl, rfl, hC, hX, hS, hq, hU, hM, hTX, hO, hV⟩ := id h
  have hn := CX_n hC
  unfold fX11_set fX12_set
  rcases key_cases x with hx | ⟨hx, hx2⟩ | ⟨k, hk, rfl⟩
  · refine ⟨_, _, -1002, if_pos hx, ?_, h⟩
    refine bnd (isIn_0 (Or.inl hx)) ?_
    exact if_pos rfl
  · refine ⟨_, _, -1002, ?_, ?_, h⟩
    · rw [if_neg hx]
      exact if_pos hx2
    · refine bnd (isIn_0 (Or.inr (i32_8 hx2))) ?_
      exact if_pos rfl
  · rw [if_neg (nI_pos (by omega)), if_neg (show ¬ 8 ≤ nI k from nI_ge (b := 8) (by omega) (by decide))]
    have e7 : fX12_isIn (Ym b) (SV b M0 v) (nI k) 0 7 = some 1 := isIn_1 (nI_pos (by omega)) (nI_nlt (b := k) (a := 7) (by omega) (by decide))
    by_cases h1 : y < -999
    · refine ⟨_, _, -1002, if_pos h1, ?_, h⟩
      refine bnd e7 ?_
      refine ifN (by decide) ?_
      refine bnd (isIn_0 (Or.inl h1)) ?_
      exact if_pos rfl
    · rw [if_neg h1]
      by_cases h2 : y ≤ 999
      · refine ⟨_, _, v (264 + k), ?_, ?_, T, n, t, S0, M0, upd v (264 + k) y, c, u, l, p, tr, rfl, rfl, hC, hX, SI_ext hC.2.1 (fun j _ hj => pk_un (by omega)) hS, hq, hU, hM, hTX, hO, hV⟩
        · refine ifP h2 ?_
          refine bnd (w1103 hC) ?_
          refine bnd (crcv (o := 6) (by decide) rfl) ?_
          refine bnd (k_valG hC hk) ?_
          refine bnd (w1103 hC) ?_
          refine bnd (crcv (o := 6) (by decide) rfl) ?_
          refine bnd (k_putG hC hk) ?_
          rfl
        · refine bnd e7 ?_
          refine ifN (by decide) ?_
          refine bnd (isIn_1 h1 (fun h => i32_le h2 h)) ?_
          refine ifN (by decide) ?_
          refine bnd (mR1200 (SV_fix hX.1)) ?_
          rw [show (264 : Int32) = nI 264 from rfl, nI_add]
          refine bnd (SV_gA (j := 264 + k) (by omega)) ?_
          refine bnd (mR1200 (SV_fix hX.1)) ?_
          refine bnd (SV_pA (j := 264 + k) (by omega)) ?_
          rfl
      · refine ⟨_, _, -1002, if_neg h2, ?_, h⟩
        refine bnd e7 ?_
        refine ifN (by decide) ?_
        refine bnd (isIn_0 (Or.inr (i32_lt h2))) ?_
        exact if_pos rfl
theorem n_cases (hC : CX z T n t S0) (hU : RUNF z T n S0) (hM : M0.1 1208 b = nI n) (x : Int32) : (fX8_nodeAt (Yc z) (SC z T n S0 v c u l p tr) (some (z + T)) x = some none ∧ fX12_isIn (Ym b) (SV b M0 v) x 0 (nI n - 1) = some 0) ∨ ∃ i, i < n ∧ x = nI i ∧ fX8_nodeAt (Yc z) (SC z T n S0 v c u l p tr) (some (z + T)) x = some (some (nda z T i)) ∧ fX12_isIn (Ym b) (SV b M0 v) x 0 (nI n - 1) = some 1 := by
  have hn := CX_n hC
  rcases ix_cases x hn with hx | ⟨hx, hx2⟩ | ⟨i, hi, rfl⟩
  · exact Or.inl ⟨at_neg hx, isIn_0 (Or.inl hx)⟩
  · exact Or.inl ⟨at_big hC hU hx hx2, isIn_0 (Or.inr (nI_m1lt (by omega) hx2))⟩
  · exact Or.inr ⟨i, hi, rfl, at_in hC hU hi, isIn_1 (nI_pos (by omega)) (nI_m1nlt (by omega) hi)⟩
theorem x_node (h : REL z b q S M) : ∃ r, fX11_node (Yc z) S (some z) x y = some r ∧ fX12_node (Ym b) M (some b) x y = some r := by
  obtain ⟨T, n, t, S0, M0, v, c, u, l, p, tr, rfl, rfl, hC, hX, hS, hq, hU, hM, hTX, hO, hV⟩ := h
  have hn := CX_n hC
  rcases n_cases (v := v) (c := c) (u := u) (l := l) (p := p) (tr := tr) hC hU hM x with ⟨h1, h2⟩ | ⟨i, hi, rfl, h1, h2⟩
  · refine ⟨-1001, ?_, ?_⟩
    · unfold fX11_node
      refine bnd (w1107 hC hU) ?_
      refine bnd (w8rcv hC) ?_
      refine bnd h1 ?_
      exact if_pos rfl
    · unfold fX12_node
      refine bnd (m1208 hM) ?_
      refine bnd h2 ?_
      exact if_pos rfl
  · have hkd := wf_kind hC.2.1 hi
    have hrb := hS.1 i hi
    have eA : ∀ r, (if y = 0 then some (nI (t 0 i)) else if y = 1 then some (if i = 0 then -1 else nI (t 2 i)) else if y = 2 then some (nI (t 11 i)) else if y = 3 then some (v (11 * i + 0)) else if y = 4 then some (nI (t 1 i)) else if y = 5 then some (v (11 * i + 6)) else if y = 6 then some (v (11 * i + 7)) else if y = 7 then some (v (11 * i + 8)) else if y = 8 then some (v (11 * i + 9)) else if y = 9 then some (v (11 * i + 10)) else if y = 10 then some (nI (t 3 i)) else if y = 11 then some (v (11 * i + 4)) else some (-1002)) = r → fX11_node (Yc z) (SC z T n S0 v c u l p tr) (some z) (nI i) y = r := by
      intro r h
      unfold fX11_node
      refine bnd (w1107 hC hU) ?_
      refine bnd (w8rcv hC) ?_
      refine bnd h1 ?_
      refine ifN (by intro e; cases e) ?_
      refine bnd (k403 hC hi) ?_
      rw [← h]
      clear h
      by_cases y0 : y = 0
      · rw [if_pos y0, if_pos y0]
        refine bnd (k404 hC hi) ?_
        rfl
      rw [if_neg y0, if_neg y0]
      by_cases y0 : y = 1
      · rw [if_pos y0, if_pos y0]
        refine bnd (k409 hC hi) ?_
        by_cases i0 : i = 0
        · rw [if_pos i0, if_pos i0]
          exact if_pos rfl
        · have hu := wf_up hC.2.1 hi (by omega)
          rw [if_neg i0, if_neg i0]
          refine ifN (by intro e; cases e) ?_
          refine bnd (k409 hC hi) ?_
          rw [if_neg i0]
          refine bnd (k400 hC (by omega)) ?_
          rfl
      rw [if_neg y0, if_neg y0]
      by_cases y0 : y = 2
      · rw [if_pos y0, if_pos y0]
        refine bnd (k407 hC hi) ?_
        rfl
      rw [if_neg y0, if_neg y0]
      by_cases y0 : y = 3
      · rw [if_pos y0, if_pos y0]
        refine bnd (kL (w := 0) hC hi rfl) ?_
        rcases hrb.1 with h0 | h0
        · rw [h0]; rfl
        · rw [h0]; rfl
      rw [if_neg y0, if_neg y0]
      by_cases y0 : y = 4
      · rw [if_pos y0, if_pos y0]
        refine bnd (k405 hC hi) ?_
        rfl
      rw [if_neg y0, if_neg y0]
      by_cases y0 : y = 5
      · rw [if_pos y0, if_pos y0]
        refine bnd (kL (w := 6) hC hi rfl) ?_
        rfl
      rw [if_neg y0, if_neg y0]
      by_cases y0 : y = 6
      · rw [if_pos y0, if_pos y0]
        refine bnd (kL (w := 7) hC hi rfl) ?_
        rfl
      rw [if_neg y0, if_neg y0]
      by_cases y0 : y = 7
      · rw [if_pos y0, if_pos y0]
        refine bnd (kL (w := 8) hC hi rfl) ?_
        rfl
      rw [if_neg y0, if_neg y0]
      by_cases y0 : y = 8
      · rw [if_pos y0, if_pos y0]
        refine bnd (kL (w := 9) hC hi rfl) ?_
        rfl
      rw [if_neg y0, if_neg y0]
      by_cases y0 : y = 9
      · rw [if_pos y0, if_pos y0]
        refine bnd (kL (w := 10) hC hi rfl) ?_
        rfl
      rw [if_neg y0, if_neg y0]
      by_cases y0 : y = 10
      · rw [if_pos y0, if_pos y0]
        refine bnd (k406 hC hi) ?_
        rfl
      rw [if_neg y0, if_neg y0]
      by_cases y0 : y = 11
      · rw [if_pos y0, if_pos y0]
        refine bnd (kL (w := 4) hC hi rfl) ?_
        rfl
      rw [if_neg y0, if_neg y0]
    rcases ix_cases (n := 12) y (by omega) with hy | ⟨hy, hy2⟩ | ⟨k, hk, rfl⟩
    · refine ⟨-1002, eA _ ?_, ?_⟩
      · have hne : ∀ m : Nat, m < 12 → ¬ y = nI m := fun m hm e => by rw [e] at hy; exact nI_pos (by omega) hy
        refine ifN (hne 0 (by omega)) ?_
        refine ifN (hne 1 (by omega)) ?_
        refine ifN (hne 2 (by omega)) ?_
        refine ifN (hne 3 (by omega)) ?_
        refine ifN (hne 4 (by omega)) ?_
        refine ifN (hne 5 (by omega)) ?_
        refine ifN (hne 6 (by omega)) ?_
        refine ifN (hne 7 (by omega)) ?_
        refine ifN (hne 8 (by omega)) ?_
        refine ifN (hne 9 (by omega)) ?_
        refine ifN (hne 10 (by omega)) ?_
        refine ifN (hne 11 (by omega)) ?_
        rfl
      · unfold fX12_node
        refine bnd (m1208 hM) ?_
        refine bnd h2 ?_
        refine ifN (by decide) ?_
        refine bnd (isIn_0 (Or.inl hy)) ?_
        exact if_pos rfl
    · refine ⟨-1002, eA _ ?_, ?_⟩
      · have hne : ∀ m : Nat, m < 12 → ¬ y = nI m := fun m hm e => by rw [e] at hy2; exact nI_ge (by omega) (by omega) hy2
        refine ifN (hne 0 (by omega)) ?_
        refine ifN (hne 1 (by omega)) ?_
        refine ifN (hne 2 (by omega)) ?_
        refine ifN (hne 3 (by omega)) ?_
        refine ifN (hne 4 (by omega)) ?_
        refine ifN (hne 5 (by omega)) ?_
        refine ifN (hne 6 (by omega)) ?_
        refine ifN (hne 7 (by omega)) ?_
        refine ifN (hne 8 (by omega)) ?_
        refine ifN (hne 9 (by omega)) ?_
        refine ifN (hne 10 (by omega)) ?_
        refine ifN (hne 11 (by omega)) ?_
        rfl
      · unfold fX12_node
        refine bnd (m1208 hM) ?_
        refine bnd h2 ?_
        refine ifN (by decide) ?_
        refine bnd (isIn_0 (Or.inr (show 11 < y from nI_m1lt (n := 12) (by omega) hy2))) ?_
        exact if_pos rfl
    · have eB : ∀ r, (if nI k = 0 then some (nI (t 0 i)) else if nI k = 1 then some (if i = 0 then -1 else nI (t 2 i)) else if nI k = 2 then some (nI (t 11 i)) else if nI k = 3 then some (v (11 * i + 0)) else if nI k = 4 then some (nI (t 1 i)) else if nI k = 10 then some (nI (t 3 i)) else if nI k = 11 then some (if nI (t 0 i) = 14 then v (11 * i + 4) else 0) else some (v (11 * i + (k + 1)))) = r → fX12_node (Ym b) (SV b M0 v) (some b) (nI i) (nI k) = r := by
        intro r h
        have e159 : 5 ≤ k → fX12_node_159 (Ym b) (SV b M0 v) (some b) (nI i) (nI k) = some (v (11 * i + (k + 1))) := by
          intro h5
          unfold fX12_node_159
          refine bnd mrcv ?_
          refine bnd (m_of (w := k + 1) hX.1 ?_ (by omega)) rfl
          rw [show (6 : Int32) = nI 6 from rfl, nI_add, show (5 : Int32) = nI 5 from rfl, pk_sub (by omega), show 6 + k - 5 = k + 1 by omega]
        unfold fX12_node
        refine bnd (m1208 hM) ?_
        refine bnd h2 ?_
        refine ifN (by decide) ?_
        refine bnd (isIn_1 (nI_pos (by omega)) (nI_nlt (a := 11) (by omega) (by decide))) ?_
        refine ifN (by decide) ?_
        rw [← h]
        clear h
        have hk' : k = 0 ∨ k = 1 ∨ k = 2 ∨ k = 3 ∨ k = 4 ∨ k = 5 ∨ k = 6 ∨ k = 7 ∨ k = 8 ∨ k = 9 ∨ k = 10 ∨ k = 11 := by omega
        rcases hk' with rfl | rfl | rfl | rfl | rfl | rfl | rfl | rfl | rfl | rfl | rfl | rfl
        · refine ifP rfl ?_
          refine bnd (mR1209 (SV_fix hX.1)) (bnd (xT (c := 0) hX (by omega) (by omega) hi) ?_)
          rfl
        · refine ifN (by decide) ?_
          refine ifP rfl ?_
          refine bnd (mR1211 (SV_fix hX.1)) (bnd (mT2 hX.2.1 hX.2.2.1 hi) ?_)
          rfl
        · refine ifN (by decide) ?_
          refine ifN (by decide) ?_
          refine ifP rfl ?_
          refine bnd mrcv ?_
          refine bnd (m_children hX hi) ?_
          rfl
        · refine ifN (by decide) ?_
          refine ifN (by decide) ?_
          refine ifN (by decide) ?_
          refine ifP (by decide) ?_
          refine bnd mrcv ?_
          refine bnd (m_of (w := 0) hX.1 rfl (by omega)) ?_
          rfl
        · refine ifN (by decide) ?_
          refine ifN (by decide) ?_
          refine ifN (by decide) ?_
          refine ifN (by decide) ?_
          refine ifP (by decide) ?_
          refine bnd (mR1210 (SV_fix hX.1)) (bnd (xT (c := 1) hX (by omega) (by omega) hi) ?_)
          rfl
        · refine ifN (by decide) ?_
          refine ifN (by decide) ?_
          refine ifN (by decide) ?_
          refine ifN (by decide) ?_
          refine ifN (by decide) ?_
          refine ifP (by decide) ?_
          exact e159 (by omega)
        · refine ifN (by decide) ?_
          refine ifN (by decide) ?_
          refine ifN (by decide) ?_
          refine ifN (by decide) ?_
          refine ifN (by decide) ?_
          refine ifN (by decide) ?_
          refine ifP (by decide) ?_
          exact e159 (by omega)
        · refine ifN (by decide) ?_
          refine ifN (by decide) ?_
          refine ifN (by decide) ?_
          refine ifN (by decide) ?_
          refine ifN (by decide) ?_
          refine ifN (by decide) ?_
          refine ifN (by decide) ?_
          refine ifP (by decide) ?_
          exact e159 (by omega)
        · refine ifN (by decide) ?_
          refine ifN (by decide) ?_
          refine ifN (by decide) ?_
          refine ifN (by decide) ?_
          refine ifN (by decide) ?_
          refine ifN (by decide) ?_
          refine ifN (by decide) ?_
          refine ifN (by decide) ?_
          refine ifP (by decide) ?_
          exact e159 (by omega)
        · refine ifN (by decide) ?_
          refine ifN (by decide) ?_
          refine ifN (by decide) ?_
          refine ifN (by decide) ?_
          refine ifN (by decide) ?_
          refine ifN (by decide) ?_
          refine ifN (by decide) ?_
          refine ifN (by decide) ?_
          refine ifN (by decide) ?_
          refine ifP (by decide) ?_
          exact e159 (by omega)
        · refine ifN (by decide) ?_
          refine ifN (by decide) ?_
          refine ifN (by decide) ?_
          refine ifN (by decide) ?_
          refine ifN (by decide) ?_
          refine ifN (by decide) ?_
          refine ifN (by decide) ?_
          refine ifN (by decide) ?_
          refine ifN (by decide) ?_
          refine ifN (by decide) ?_
          refine ifP (by decide) ?_
          refine bnd (mR1212 (SV_fix hX.1)) (bnd (xT (c := 3) hX (by omega) (by omega) hi) ?_)
          rfl
        · refine ifN (by decide) ?_
          refine ifN (by decide) ?_
          refine ifN (by decide) ?_
          refine ifN (by decide) ?_
          refine ifN (by decide) ?_
          refine ifN (by decide) ?_
          refine ifN (by decide) ?_
          refine ifN (by decide) ?_
          refine ifN (by decide) ?_
          refine ifN (by decide) ?_
          refine ifN (by decide) ?_
          refine ifP (by decide) ?_
          refine bnd (mR1209 (SV_fix hX.1)) (bnd (xT (c := 0) hX (by omega) (by omega) hi) ?_)
          show (if nI (t 0 i) = 14 then _ else _) = some (if nI (t 0 i) = 14 then _ else _)
          split
          · refine bnd mrcv ?_
            refine bnd (m_of (w := 4) hX.1 rfl (by omega)) ?_
            rfl
          · rfl
      have hk' : k = 0 ∨ k = 1 ∨ k = 2 ∨ k = 3 ∨ k = 4 ∨ k = 5 ∨ k = 6 ∨ k = 7 ∨ k = 8 ∨ k = 9 ∨ k = 10 ∨ k = 11 := by omega
      rcases hk' with rfl | rfl | rfl | rfl | rfl | rfl | rfl | rfl | rfl | rfl | rfl | rfl
      · exact ⟨nI (t 0 i), eA _ rfl, eB _ rfl⟩
      · exact ⟨if i = 0 then -1 else nI (t 2 i), eA _ rfl, eB _ rfl⟩
      · exact ⟨nI (t 11 i), eA _ rfl, eB _ rfl⟩
      · exact ⟨v (11 * i + 0), eA _ rfl, eB _ rfl⟩
      · exact ⟨nI (t 1 i), eA _ rfl, eB _ rfl⟩
      · exact ⟨v (11 * i + 6), eA _ rfl, eB _ rfl⟩
      · exact ⟨v (11 * i + 7), eA _ rfl, eB _ rfl⟩
      · exact ⟨v (11 * i + 8), eA _ rfl, eB _ rfl⟩
      · exact ⟨v (11 * i + 9), eA _ rfl, eB _ rfl⟩
      · exact ⟨v (11 * i + 10), eA _ rfl, eB _ rfl⟩
      · exact ⟨nI (t 3 i), eA _ rfl, eB _ rfl⟩
      · refine ⟨v (11 * i + 4), eA _ rfl, eB _ ?_⟩
        show some (if nI (t 0 i) = 14 then v (11 * i + 4) else 0) = some (v (11 * i + 4))
        by_cases h14 : t 0 i = 14
        · rw [if_pos (by rw [h14]; rfl)]
        · rw [hrb.2 h14]
          split <;> rfl
end CALLS
