/-! copies of all that changes -/
def lfF (f : Nat) : Prop := f = 300 ∨ f = 301 ∨ (303 ≤ f ∧ f ≤ 309)
def lgF (f : Nat) : Prop := 201 ≤ f ∧ f ≤ 208
section COPY
variable {z b q T n i j k w f a d o o1 o2 : Nat} {S0 S1 M0 M1 S M : HS} {v v1 c l : Nat → Int32} {u : Nat → Option Nat} {p : Option Nat} {tr tr1 : TR} {t : TT} {x y r : Int32}
theorem k_cp3 (h1 : o1 < 269) (k1 : kdC o1 = 3) (h2 : o2 < 269) (k2 : kdC o2 = 3) (hne : o1 ≠ o2) (h01 : S.1 300 (z + o2) = 0 ∨ S.1 300 (z + o2) = 1) : ∃ S1, fX3_copyFrom (Yc z) S (some (z + o1)) (some (z + o2)) = some S1 ∧ (∀ f, lfF f → S1.1 f (z + o1) = S.1 f (z + o2)) ∧ S1.2.1 302 (z + o1) = S.2.1 302 (z + o2) ∧ (∀ f a, ¬ (lfF f ∧ a = z + o1) → S1.1 f a = S.1 f a) ∧ (∀ f a, ¬ (f = 302 ∧ a = z + o1) → S1.2.1 f a = S.2.1 f a) ∧ S1.2.2 = S.2.2 := by
  have hr : ∀ (F : Nat → Nat → Int32) (f g : Nat) (x : Int32), upN F f (z + o1) x g (z + o2) = F g (z + o2) := fun F f g x => upN_ne (Or.inr (by omega))
  have hr2 : ∀ (F : Nat → Nat → Option Nat) (f g : Nat) (x : Option Nat), upN F f (z + o1) x g (z + o2) = F g (z + o2) := fun F f g x => upN_ne (Or.inr (by omega))
  refine ⟨(upN (upN (upN (upN (upN (upN (upN (upN (upN (S.1) 300 (z + o1) (S.1 300 (z + o2))) 301 (z + o1) (S.1 301 (z + o2))) 303 (z + o1) (S.1 303 (z + o2))) 304 (z + o1) (S.1 304 (z + o2))) 305 (z + o1) (S.1 305 (z + o2))) 306 (z + o1) (S.1 306 (z + o2))) 307 (z + o1) (S.1 307 (z + o2))) 308 (z + o1) (S.1 308 (z + o2))) 309 (z + o1) (S.1 309 (z + o2)), upN S.2.1 302 (z + o1) (S.2.1 302 (z + o2)), S.2.2), ?_, ?_, upN_self, ?_, fun f a h => ?_, rfl⟩
  · unfold fX3_copyFrom
    refine bnd (gI_of h2 k2 (x := S.1 300 (z + o2)) (by simp only [hr])) ?_
    refine bnd (cpZ h1 k1 h01) ?_
    refine bnd (gI_of h2 k2 (x := S.1 301 (z + o2)) (by simp only [hr])) ?_
    refine bnd (cpI h1 k1) ?_
    refine bnd (gR_of h2 k2 (x := S.2.1 302 (z + o2)) (by simp only [hr2])) ?_
    refine bnd (cpR h1 k1) ?_
    refine bnd (gI_of h2 k2 (x := S.1 303 (z + o2)) (by simp only [hr])) ?_
    refine bnd (cpI h1 k1) ?_
    refine bnd (gI_of h2 k2 (x := S.1 304 (z + o2)) (by simp only [hr])) ?_
    refine bnd (cpI h1 k1) ?_
    refine bnd (gI_of h2 k2 (x := S.1 305 (z + o2)) (by simp only [hr])) ?_
    refine bnd (cpI h1 k1) ?_
    refine bnd (gI_of h2 k2 (x := S.1 306 (z + o2)) (by simp only [hr])) ?_
    refine bnd (cpI h1 k1) ?_
    refine bnd (gI_of h2 k2 (x := S.1 307 (z + o2)) (by simp only [hr])) ?_
    refine bnd (cpI h1 k1) ?_
    refine bnd (gI_of h2 k2 (x := S.1 308 (z + o2)) (by simp only [hr])) ?_
    refine bnd (cpI h1 k1) ?_
    refine bnd (gI_of h2 k2 (x := S.1 309 (z + o2)) (by simp only [hr])) ?_
    refine bnd (cpI h1 k1) ?_
    rfl
  · intro f hf
    show (upN (upN (upN (upN (upN (upN (upN (upN (upN (S.1) 300 (z + o1) (S.1 300 (z + o2))) 301 (z + o1) (S.1 301 (z + o2))) 303 (z + o1) (S.1 303 (z + o2))) 304 (z + o1) (S.1 304 (z + o2))) 305 (z + o1) (S.1 305 (z + o2))) 306 (z + o1) (S.1 306 (z + o2))) 307 (z + o1) (S.1 307 (z + o2))) 308 (z + o1) (S.1 308 (z + o2))) 309 (z + o1) (S.1 309 (z + o2))) f (z + o1) = _
    unfold lfF at hf
    by_cases e309 : f = 309
    · subst e309; exact upN_self
    rw [upN_ne (Or.inl e309)]
    by_cases e308 : f = 308
    · subst e308; exact upN_self
    rw [upN_ne (Or.inl e308)]
    by_cases e307 : f = 307
    · subst e307; exact upN_self
    rw [upN_ne (Or.inl e307)]
    by_cases e306 : f = 306
    · subst e306; exact upN_self
    rw [upN_ne (Or.inl e306)]
    by_cases e305 : f = 305
    · subst e305; exact upN_self
    rw [upN_ne (Or.inl e305)]
    by_cases e304 : f = 304
    · subst e304; exact upN_self
    rw [upN_ne (Or.inl e304)]
    by_cases e303 : f = 303
    · subst e303; exact upN_self
    rw [upN_ne (Or.inl e303)]
    by_cases e301 : f = 301
    · subst e301; exact upN_self
    rw [upN_ne (Or.inl e301)]
    by_cases e300 : f = 300
    · subst e300; exact upN_self
    rw [upN_ne (Or.inl e300)]
    omega
  · intro f a hf
    show (upN (upN (upN (upN (upN (upN (upN (upN (upN (S.1) 300 (z + o1) (S.1 300 (z + o2))) 301 (z + o1) (S.1 301 (z + o2))) 303 (z + o1) (S.1 303 (z + o2))) 304 (z + o1) (S.1 304 (z + o2))) 305 (z + o1) (S.1 305 (z + o2))) 306 (z + o1) (S.1 306 (z + o2))) 307 (z + o1) (S.1 307 (z + o2))) 308 (z + o1) (S.1 308 (z + o2))) 309 (z + o1) (S.1 309 (z + o2))) f a = _
    unfold lfF at hf
    rw [upN_ne (by omega), upN_ne (by omega), upN_ne (by omega), upN_ne (by omega), upN_ne (by omega), upN_ne (by omega), upN_ne (by omega), upN_ne (by omega), upN_ne (by omega)]
  · show upN S.2.1 302 (z + o1) (S.2.1 302 (z + o2)) f a = _
    rw [upN_ne (by omega)]
theorem k_cpA (h1 : o1 < 269) (k1 : kdC o1 = 14) (h2 : o2 < 269) (k2 : kdC o2 = 14) {m : Nat} (l1 : lnC o1 = m) (l2 : lnC o2 = m) (hm : m < 2 ^ 31) : cpA (Yc z) (some (z + o2)) 0 (some (z + o1)) 0 (nI m) S = some (S.1, S.2.1, va_up S.2.2.1 (z + o1) (fun k => if k < m then S.2.2.1 (z + o2) k else S.2.2.1 (z + o1) k), S.2.2.2) := by
  show (if (chk (Yc z) 14 (z + o2) && chk (Yc z) 14 (z + o1)) = true ∧ ¬ (0 : Int32) < 0 ∧ ¬ (0 : Int32) < 0 ∧ ¬ nI m < 0 ∧ (0 : Int32).toNatClampNeg + (nI m).toNatClampNeg ≤ (Yc z).2.2 (z + o2) ∧ (0 : Int32).toNatClampNeg + (nI m).toNatClampNeg ≤ (Yc z).2.2 (z + o1) then _ else none) = _
  rw [Yc_len, Yc_len, l1, l2, Yc_chk h1 k1, Yc_chk h2 k2, nI_clamp hm, show (0 : Int32).toNatClampNeg = 0 from rfl]
  rw [if_pos ⟨rfl, by decide, by decide, nI_pos hm, by omega, by omega⟩]
  congr 4
  have e : va_cpy (S.2.2.1 (z + o2)) (S.2.2.1 (z + o1)) 0 0 m = (fun k => if k < m then S.2.2.1 (z + o2) k else S.2.2.1 (z + o1) k) := by
    funext k
    unfold va_cpy
    by_cases h : k < m
    · rw [if_pos ⟨Nat.zero_le _, by omega⟩, if_pos h]
      rw [Nat.zero_add, Nat.sub_zero]
    · rw [if_neg (by omega), if_neg h]
  rw [e]
/-- a board's values -/
theorem k_cp0 (h1 : o1 + 1 < 269) (k1 : kdC o1 = 0) (k1' : kdC (o1 + 1) = 14) (l1 : lnC (o1 + 1) = 8) (h2 : o2 + 1 < 269) (k2 : kdC o2 = 0) (k2' : kdC (o2 + 1) = 14) (l2 : lnC (o2 + 1) = 8) (g1 : S.2.1 0 (z + o1) = some (z + (o1 + 1))) (g2 : S.2.1 0 (z + o2) = some (z + (o2 + 1))) : fX0_copyFrom (Yc z) S (some (z + o1)) (some (z + o2)) = some (S.1, S.2.1, va_up S.2.2.1 (z + (o1 + 1)) (fun k => if k < 8 then S.2.2.1 (z + (o2 + 1)) k else S.2.2.1 (z + (o1 + 1)) k), S.2.2.2) := by
  unfold fX0_copyFrom
  refine bnd (gR_of (by omega) k2 g2) ?_
  refine bnd (gR_of (by omega) k1 g1) ?_
  refine bnd (k_cpA h1 k1' h2 k2' l1 l2 (by decide)) ?_
  rfl
/-- a ledger -/
theorem k_cp2 (h1 : o1 + 2 < 269) (k1 : kdC o1 = 2) (k1' : kdC (o1 + 1) = 14) (k1'' : kdC (o1 + 2) = 14) (l1 : lnC (o1 + 1) = 30) (l1' : lnC (o1 + 2) = 30) (h2 : o2 + 2 < 269) (k2 : kdC o2 = 2) (k2' : kdC (o2 + 1) = 14) (k2'' : kdC (o2 + 2) = 14) (l2 : lnC (o2 + 1) = 30) (l2' : lnC (o2 + 2) = 30) (hne : o1 + 2 < o2 ∨ o2 + 2 < o1) (g1 : S.2.1 209 (z + o1) = some (z + (o1 + 1))) (g1' : S.2.1 210 (z + o1) = some (z + (o1 + 2))) (g2 : S.2.1 209 (z + o2) = some (z + (o2 + 1))) (g2' : S.2.1 210 (z + o2) = some (z + (o2 + 2))) : ∃ S1, fX2_copyFrom (Yc z) S (some (z + o1)) (some (z + o2)) = some S1 ∧ (∀ f, lgF f → S1.1 f (z + o1) = S.1 f (z + o2)) ∧ S1.2.1 200 (z + o1) = S.2.1 200 (z + o2) ∧ (∀ k, k < 30 → S1.2.2.1 (z + (o1 + 1)) k = S.2.2.1 (z + (o2 + 1)) k ∧ S1.2.2.1 (z + (o1 + 2)) k = S.2.2.1 (z + (o2 + 2)) k) ∧ (∀ f a, ¬ (lgF f ∧ a = z + o1) → S1.1 f a = S.1 f a) ∧ (∀ f a, ¬ (f = 200 ∧ a = z + o1) → S1.2.1 f a = S.2.1 f a) ∧ (∀ a k, ¬ ((a = z + (o1 + 1) ∨ a = z + (o1 + 2)) ∧ k < 30) → S1.2.2.1 a k = S.2.2.1 a k) ∧ S1.2.2.2 = S.2.2.2 := by
  have hr : ∀ (F : Nat → Nat → Int32) (f g : Nat) (x : Int32), upN F f (z + o1) x g (z + o2) = F g (z + o2) := fun F f g x => upN_ne (Or.inr (by omega))
  have hR : ∀ (g a : Nat), g ≠ 200 → upN S.2.1 200 (z + o1) (S.2.1 200 (z + o2)) g a = S.2.1 g a := fun g a h => upN_ne (Or.inl h)
  refine ⟨(upN (upN (upN (upN (upN (upN (upN (upN (S.1) 201 (z + o1) (S.1 201 (z + o2))) 202 (z + o1) (S.1 202 (z + o2))) 203 (z + o1) (S.1 203 (z + o2))) 204 (z + o1) (S.1 204 (z + o2))) 205 (z + o1) (S.1 205 (z + o2))) 206 (z + o1) (S.1 206 (z + o2))) 207 (z + o1) (S.1 207 (z + o2))) 208 (z + o1) (S.1 208 (z + o2)), upN S.2.1 200 (z + o1) (S.2.1 200 (z + o2)), va_up (va_up S.2.2.1 (z + (o1 + 1)) (fun k => if k < 30 then S.2.2.1 (z + (o2 + 1)) k else S.2.2.1 (z + (o1 + 1)) k)) (z + (o1 + 2)) (fun k => if k < 30 then S.2.2.1 (z + (o2 + 2)) k else S.2.2.1 (z + (o1 + 2)) k), S.2.2.2), ?_, ?_, upN_self, fun k hk => ⟨?_, ?_⟩, ?_, fun f a h => ?_, fun a k h => ?_, rfl⟩
  · unfold fX2_copyFrom
    refine bnd (gR_of (by omega) k2 rfl) ?_
    refine bnd (cpR (by omega) k1) ?_
    refine bnd (gI_of (by omega) k2 (x := S.1 201 (z + o2)) (by simp only [hr])) ?_
    refine bnd (cpI (by omega) k1) ?_
    refine bnd (gI_of (by omega) k2 (x := S.1 202 (z + o2)) (by simp only [hr])) ?_
    refine bnd (cpI (by omega) k1) ?_
    refine bnd (gI_of (by omega) k2 (x := S.1 203 (z + o2)) (by simp only [hr])) ?_
    refine bnd (cpI (by omega) k1) ?_
    refine bnd (gI_of (by omega) k2 (x := S.1 204 (z + o2)) (by simp only [hr])) ?_
    refine bnd (cpI (by omega) k1) ?_
    refine bnd (gI_of (by omega) k2 (x := S.1 205 (z + o2)) (by simp only [hr])) ?_
    refine bnd (cpI (by omega) k1) ?_
    refine bnd (gI_of (by omega) k2 (x := S.1 206 (z + o2)) (by simp only [hr])) ?_
    refine bnd (cpI (by omega) k1) ?_
    refine bnd (gI_of (by omega) k2 (x := S.1 207 (z + o2)) (by simp only [hr])) ?_
    refine bnd (cpI (by omega) k1) ?_
    refine bnd (gI_of (by omega) k2 (x := S.1 208 (z + o2)) (by simp only [hr])) ?_
    refine bnd (cpI (by omega) k1) ?_
    refine bnd (gR_of (by omega) k2 (x := some (z + (o2 + 1))) ((hR 209 _ (by decide)).trans g2)) ?_
    refine bnd (gR_of (by omega) k1 (x := some (z + (o1 + 1))) ((hR 209 _ (by decide)).trans g1)) ?_
    refine bnd (k_cpA (by omega) k1' (by omega) k2' l1 l2 (by decide)) ?_
    refine bnd (gR_of (by omega) k2 (x := some (z + (o2 + 2))) ((hR 210 _ (by decide)).trans g2')) ?_
    refine bnd (gR_of (by omega) k1 (x := some (z + (o1 + 2))) ((hR 210 _ (by decide)).trans g1')) ?_
    refine bnd (k_cpA (by omega) k1'' (by omega) k2'' l1' l2' (by decide)) ?_
    show some (_, _, va_up _ (z + (o1 + 2)) (fun k => if k < 30 then (va_up S.2.2.1 (z + (o1 + 1)) (fun k => if k < 30 then S.2.2.1 (z + (o2 + 1)) k else S.2.2.1 (z + (o1 + 1)) k)) (z + (o2 + 2)) k else (va_up S.2.2.1 (z + (o1 + 1)) (fun k => if k < 30 then S.2.2.1 (z + (o2 + 1)) k else S.2.2.1 (z + (o1 + 1)) k)) (z + (o1 + 2)) k), _) = _
    rw [va_up_ne _ _ (show z + (o2 + 2) ≠ z + (o1 + 1) by omega), va_up_ne _ _ (show z + (o1 + 2) ≠ z + (o1 + 1) by omega)]
  · intro f hf
    show (upN (upN (upN (upN (upN (upN (upN (upN (S.1) 201 (z + o1) (S.1 201 (z + o2))) 202 (z + o1) (S.1 202 (z + o2))) 203 (z + o1) (S.1 203 (z + o2))) 204 (z + o1) (S.1 204 (z + o2))) 205 (z + o1) (S.1 205 (z + o2))) 206 (z + o1) (S.1 206 (z + o2))) 207 (z + o1) (S.1 207 (z + o2))) 208 (z + o1) (S.1 208 (z + o2))) f (z + o1) = _
    unfold lgF at hf
    by_cases e208 : f = 208
    · subst e208; exact upN_self
    rw [upN_ne (Or.inl e208)]
    by_cases e207 : f = 207
    · subst e207; exact upN_self
    rw [upN_ne (Or.inl e207)]
    by_cases e206 : f = 206
    · subst e206; exact upN_self
    rw [upN_ne (Or.inl e206)]
    by_cases e205 : f = 205
    · subst e205; exact upN_self
    rw [upN_ne (Or.inl e205)]
    by_cases e204 : f = 204
    · subst e204; exact upN_self
    rw [upN_ne (Or.inl e204)]
    by_cases e203 : f = 203
    · subst e203; exact upN_self
    rw [upN_ne (Or.inl e203)]
    by_cases e202 : f = 202
    · subst e202; exact upN_self
    rw [upN_ne (Or.inl e202)]
    by_cases e201 : f = 201
    · subst e201; exact upN_self
    rw [upN_ne (Or.inl e201)]
    omega
  · show (va_up (va_up S.2.2.1 (z + (o1 + 1)) (fun k => if k < 30 then S.2.2.1 (z + (o2 + 1)) k else S.2.2.1 (z + (o1 + 1)) k)) (z + (o1 + 2)) (fun k => if k < 30 then S.2.2.1 (z + (o2 + 2)) k else S.2.2.1 (z + (o1 + 2)) k)) (z + (o1 + 1)) k = _
    rw [va_up_ne _ _ (by omega), va_up_self]
    exact if_pos hk
  · show (va_up (va_up S.2.2.1 (z + (o1 + 1)) (fun k => if k < 30 then S.2.2.1 (z + (o2 + 1)) k else S.2.2.1 (z + (o1 + 1)) k)) (z + (o1 + 2)) (fun k => if k < 30 then S.2.2.1 (z + (o2 + 2)) k else S.2.2.1 (z + (o1 + 2)) k)) (z + (o1 + 2)) k = _
    rw [va_up_self]
    exact if_pos hk
  · intro f a hf
    show (upN (upN (upN (upN (upN (upN (upN (upN (S.1) 201 (z + o1) (S.1 201 (z + o2))) 202 (z + o1) (S.1 202 (z + o2))) 203 (z + o1) (S.1 203 (z + o2))) 204 (z + o1) (S.1 204 (z + o2))) 205 (z + o1) (S.1 205 (z + o2))) 206 (z + o1) (S.1 206 (z + o2))) 207 (z + o1) (S.1 207 (z + o2))) 208 (z + o1) (S.1 208 (z + o2))) f a = _
    unfold lgF at hf
    rw [upN_ne (by omega), upN_ne (by omega), upN_ne (by omega), upN_ne (by omega), upN_ne (by omega), upN_ne (by omega), upN_ne (by omega), upN_ne (by omega)]
  · show upN S.2.1 200 (z + o1) (S.2.1 200 (z + o2)) f a = _
    rw [upN_ne (by omega)]
  · show (va_up (va_up S.2.2.1 (z + (o1 + 1)) (fun k => if k < 30 then S.2.2.1 (z + (o2 + 1)) k else S.2.2.1 (z + (o1 + 1)) k)) (z + (o1 + 2)) (fun k => if k < 30 then S.2.2.1 (z + (o2 + 2)) k else S.2.2.1 (z + (o1 + 2)) k)) a k = _
    by_cases e2 : a = z + (o1 + 2)
    · subst e2
      rw [va_up_self]
      exact if_neg (by omega)
    · rw [va_up_ne _ _ e2]
      by_cases e1 : a = z + (o1 + 1)
      · subst e1
        rw [va_up_self]
        exact if_neg (by omega)
      · rw [va_up_ne _ _ e1]
end COPY
