/-! both objects at their beginnings are related -/
section INIT
variable {z b m : Nat} {S M : HS}
theorem rel_init (hI : INI z S) (hF : FixM b M) (hz : ∀ g, M.1 g b = 0) (h1 : M.2.2.1 (b + 1) = upd (fun _ => 0) 284 (-1)) (h2 : ∀ k, 2 ≤ k → k < 29 → M.2.2.1 (b + k) = fun _ => 0) : REL z b 0 S M := by
  have hFC := INI_fix hI
  obtain ⟨a1, a2, a3, a4, a5, a6, a7, a8, a9, a10, ⟨b1, b2⟩, ⟨c1, c2⟩, ⟨d1, d2, d3, d4, d5, d6, d7, d8⟩, -, -, ⟨t1, t2, -⟩, -⟩ := hI
  have hT : isT 73 := Or.inl rfl
  have hv : ∀ k, k ≠ 284 → upd (fun _ => (0 : Int32)) 284 (-1) k = 0 := fun k hk => pk_un hk
  have hLX : LIVF z 73 0 S (upd (fun _ => 0) 284 (-1)) (fun _ => 0) (fun _ => none) (fun _ => 0) none (0, S.2.2.1 (z + 9), S.2.2.1 (z + 10)) := by
    refine ⟨fun i hi => absurd hi (Nat.not_lt_zero _), fun f w hf => ?_, d7 208 (by omega) (by omega), d8, fun k hk => ?_, rfl, rfl⟩
    · have hlg := plG_lg hf
      have hw := plG_lt hf
      unfold lgF at hlg
      rw [d7 f (by omega) (by omega), hv w (by omega)]
    · rw [d4, hv _ (by omega)]
  have hX2 := SC_self hT hLX
  have hM2 := SV_self h1
  have hW : WF 0 (fun _ _ => 0) := ⟨by omega, fun h => absurd h (Nat.lt_irrefl _), fun i hi => absurd hi (Nat.not_lt_zero _)⟩
  rw [hX2, ← hM2]
  refine REL_of (b := b) (q := 0) (n := 0) (t := fun _ _ => 0) (S0 := S) (M0 := M) ⟨⟨hT, hW, hFC, fun i hi => absurd hi (Nat.not_lt_zero _)⟩, ⟨hF, fun c hc i hi => absurd hi (Nat.not_lt_zero _), hW⟩, ⟨a8, a9, t2⟩, hz 1208, ⟨0, by omega, b2, hz 1206, fun j hj => absurd hj (Nat.not_lt_zero _)⟩, ⟨0, by omega, c2, hz 1207, fun j hj => absurd hj (Nat.not_lt_zero _)⟩, Or.inl ⟨a10, hz 1203⟩, Nat.zero_le _, fun i hi => ?_⟩ ⟨fun i hi => absurd hi (Nat.not_lt_zero _), ⟨hv 294 (by decide), fun j hj => absurd hj (by show ¬ j < min 0 30; omega)⟩, fun i hi => absurd hi (Nat.not_lt_zero _), Or.inl ⟨rfl, pk_us⟩⟩ (Nat.le_refl _)
  rw [h2 22 (by omega) (by omega), h2 24 (by omega) (by omega), h2 25 (by omega) (by omega), h2 27 (by omega) (by omega)]
  exact ⟨⟨0, by omega, rfl⟩, ⟨0, by omega, rfl⟩, ⟨0, by omega, rfl⟩, 0, by omega, rfl⟩
end INIT
