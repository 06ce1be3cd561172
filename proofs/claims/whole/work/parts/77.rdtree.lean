/-! readTree: the call -/
/-- the place of an object that is left behind is as it was -/
def ERA (a : Nat) (S S1 : HS) : HS := ((fun f x => if x = a then S.1 f x else S1.1 f x), (fun f x => if x = a then S.2.1 f x else S1.2.1 f x), S1.2.2)
/-- what reading a text leaves as it is -/
def FRD (z T a : Nat) (S S1 : HS) : Prop := S1.2.2 = S.2.2 ∧ (∀ f x, ¬ reg z T x → x ≠ a → ¬ (f = 801 ∧ x = z + T) → S1.1 f x = S.1 f x ∧ S1.2.1 f x = S.2.1 f x) ∧ (∀ x, x ≠ a → S1.1 400 x = S.1 400 x) ∧ ∀ f x, x ≠ a → ¬ (f = 104 ∨ f = 302 ∨ (408 ≤ f ∧ f ≤ 413)) → S1.2.1 f x = S.2.1 f x
section RDTR
variable {z b q T T1 n n1 i j k f a d o o1 x K : Nat} {L : Nat → Nat} {S S0 S1 X M M0 M1 : HS} {v c l : Nat → Int32} {u : Nat → Option Nat} {p : Option Nat} {tr : TR} {t t1 : TT} {A : Nat → Nat → Int32} {op : Nat → Int32} {Y : LY}
theorem FRD_of (h : FRD z T1 a S S0) (h1 : FRG z T1 a S0 S1) : FRD z T1 a S S1 := ⟨h1.1.trans h.1, fun f x a1 a2 a3 => by
    have g := h1.2.1 f x a1 a3 (fun q => a2 q.2)
    have g2 := h.2.1 f x a1 a2 a3
    exact ⟨g.1.trans g2.1, g.2.trans g2.2⟩, fun x hx => (h1.2.2.1 x).trans (h.2.2.1 x hx), fun f x hx hf => (h1.2.2.2 f x hf).trans (h.2.2.2 f x hx hf)⟩
theorem reg_far (hT : isT T) (hx : x < z + 75) : ¬ reg z T x := by
  unfold reg
  rcases hT with rfl | rfl <;> omega
theorem reg_other (hT : isT T) (hT1 : T1 = 244 - T) (hi : i < 24) : ¬ reg z T1 (nda z T i) ∧ ¬ reg z T1 (cla z T i) ∧ ¬ reg z T1 (ena z T i) ∧ ¬ reg z T1 (lfa z T i) ∧ ¬ reg z T1 (z + T) := by
  unfold reg nda cla ena lfa
  rcases hT with rfl | rfl <;> omega
theorem fixR_no : ∀ f ∈ fixR, ¬ (f = 104 ∨ f = 302 ∨ (408 ≤ f ∧ f ≤ 413)) ∧ f ≠ 200 ∧ f ≠ 1107 ∧ f ≠ 1108 := by decide
theorem neg_tab : ∀ o, o < 71 → ¬ (0 : Int32) ≤ -2000 - nI o := by decide +kernel
/-- a text that is no tree: all but the text stays -/
theorem rel_fail (hT1 : T1 = 244 - T) (hSt : STAT z b T n t q S M0) (hL : LIVF z T n S v c u l p tr) (hSI : SI z T n t v c u l p tr) (hq : tr.1 ≤ q) (hF : FRD z T1 a S S1) (ha : z + 269 ≤ a) (hA : STAA A) : REL z b q (ERA a S (upN S1.1 701 (z + 1) 0, S1.2)) (RdE b (SV b M0 v) A op o n1 d 1) := by
  obtain ⟨hC, hMX, hU, h1208, hTX, hO, hV, hlen, hSta⟩ := hSt
  have hT := hC.1
  have hn := CX_n hC
  have hT269 := (kd_T hT).1
  -- the class' side
  generalize hX : ERA a S (upN S1.1 701 (z + 1) 0, S1.2) = X
  have hag : ∀ f x, ¬ reg z T1 x → ¬ (f = 801 ∧ x = z + T1) → ¬ (f = 701 ∧ x = z + 1) → X.1 f x = S.1 f x ∧ X.2.1 f x = S.2.1 f x := by
    intro f x h1 h2 h3
    rw [← hX]
    by_cases hx : x = a
    · exact ⟨if_pos hx, if_pos hx⟩
    · have g := hF.2.1 f x h1 hx h2
      exact ⟨(if_neg hx).trans ((upN_ne (by by_cases y : f = 701; exact Or.inr (fun y1 => h3 ⟨y, y1⟩); exact Or.inl y)).trans g.1), (if_neg hx).trans g.2⟩
  have hArr : X.2.2 = S.2.2 := by rw [← hX]; exact hF.1
  have h400 : ∀ x, X.1 400 x = S.1 400 x := by
    intro x
    rw [← hX]
    by_cases hx : x = a
    · exact if_pos hx
    · exact (if_neg hx).trans (hF.2.2.1 x hx)
  have hRef : ∀ f x, fixR.contains f = true → X.2.1 f x = S.2.1 f x := by
    intro f x hf
    have hf := fixR_no f (by simpa using hf)
    rw [← hX]
    by_cases hx : x = a
    · exact if_pos hx
    · exact (if_neg hx).trans (hF.2.2.2 f x hx hf.1)
  have hlo : ∀ f o, o < 75 → ¬ (f = 701 ∧ o = 1) → f ≠ 801 → X.1 f (z + o) = S.1 f (z + o) ∧ X.2.1 f (z + o) = S.2.1 f (z + o) := fun f o h1 h2 h3 => hag f (z + o) (reg_far (by rw [hT1]; rcases hT with rfl | rfl; exact Or.inr rfl; exact Or.inl rfl) (by omega)) (fun y => h3 y.1) (fun y => h2 ⟨y.1, by omega⟩)
  have hnd : ∀ i, i < n → ∀ f, f ≠ 801 → f ≠ 701 → (X.1 f (nda z T i) = S.1 f (nda z T i) ∧ X.2.1 f (nda z T i) = S.2.1 f (nda z T i)) ∧ (X.1 f (cla z T i) = S.1 f (cla z T i) ∧ X.2.1 f (cla z T i) = S.2.1 f (cla z T i)) ∧ (X.1 f (ena z T i) = S.1 f (ena z T i) ∧ X.2.1 f (ena z T i) = S.2.1 f (ena z T i)) ∧ (X.1 f (lfa z T i) = S.1 f (lfa z T i) ∧ X.2.1 f (lfa z T i) = S.2.1 f (lfa z T i)) := fun i hi f h1 h2 => by
    have hr := reg_other (z := z) hT hT1 (show i < 24 by omega)
    exact ⟨hag f _ hr.1 (fun y => h1 y.1) (fun y => h2 y.1), hag f _ hr.2.1 (fun y => h1 y.1) (fun y => h2 y.1), hag f _ hr.2.2.1 (fun y => h1 y.1) (fun y => h2 y.1), hag f _ hr.2.2.2.1 (fun y => h1 y.1) (fun y => h2 y.1)⟩
  have hFX : FixC z X := FixC_congr (fun f x hf => hRef f x hf) h400 (by rw [hArr]) hC.2.2.1
  have hTr : TreeC z T n t X := by
    intro i hi
    have g := hC.2.2.2 i hi
    have e := hnd i hi
    rw [(e 404 (by decide) (by decide)).1.1, (e 405 (by decide) (by decide)).1.1, (e 406 (by decide) (by decide)).1.1, (e 407 (by decide) (by decide)).1.1, (e 408 (by decide) (by decide)).1.2, (e 409 (by decide) (by decide)).1.2, (e 410 (by decide) (by decide)).1.2, (e 412 (by decide) (by decide)).1.2, (e 413 (by decide) (by decide)).1.2, (e 100 (by decide) (by decide)).2.1.1, (e 101 (by decide) (by decide)).2.1.1, (e 102 (by decide) (by decide)).2.1.1, (e 103 (by decide) (by decide)).2.1.1, (e 104 (by decide) (by decide)).2.1.2, (e 100 (by decide) (by decide)).2.2.1.1, (e 101 (by decide) (by decide)).2.2.1.1, (e 102 (by decide) (by decide)).2.2.1.1, (e 103 (by decide) (by decide)).2.2.1.1, (e 104 (by decide) (by decide)).2.2.1.2]
    exact g
  have hLX : LIVF z T n X v c u l p tr := by
    obtain ⟨l1, l2, l3, l4, l5, l6, l7⟩ := hL
    refine ⟨fun i hi => ⟨fun f w hf => ?_, ?_, ?_, ?_⟩, fun f w hf => ?_, ?_, ?_, fun k hk => ?_, ?_, ?_⟩
    · rw [(hnd i hi f (by rintro rfl; cases hf) (by rintro rfl; cases hf)).2.2.2.1]; exact (l1 i hi).1 f w hf
    · rw [(hnd i hi 301 (by decide) (by decide)).2.2.2.1]; exact (l1 i hi).2.1
    · rw [(hnd i hi 303 (by decide) (by decide)).2.2.2.1]; exact (l1 i hi).2.2.1
    · rw [(hnd i hi 302 (by decide) (by decide)).2.2.2.2]; exact (l1 i hi).2.2.2
    · rw [(hlo f 8 (by decide) (by omega) (by rintro rfl; cases hf)).1]; exact l2 f w hf
    · rw [(hlo 208 8 (by decide) (by omega) (by decide)).1]; exact l3
    · rw [(hlo 200 8 (by decide) (by omega) (by decide)).2]; exact l4
    · rw [hArr]; exact l5 k hk
    · rw [hArr]; exact l6
    · rw [hArr]; exact l7
  have hUX : RUNF z T n X := by
    have e0 : z = z + 0 := rfl
    have hr := reg_other (z := z) (i := 0) hT hT1 (by omega)
    refine ⟨?_, ?_, ?_⟩
    · exact ((hlo 1107 0 (by decide) (by omega) (by decide)).2).trans hU.1
    · exact ((hlo 1108 0 (by decide) (by omega) (by decide)).2).trans hU.2.1
    · rw [(hag 801 (z + T) hr.2.2.2.2 (by rcases hT with rfl | rfl <;> omega) (by omega)).1]
      exact hU.2.2
  -- the reference's side
  have hMr : ∀ k, k < 17 → (RdE b (SV b M0 v) A op o n1 d 1).2.2.1 (b + k) = (SV b M0 v).2.2.1 (b + k) := fun k hk => RdE_lo hk
  have hMI : ∀ f, f ≠ 1206 ∧ f ≠ 1220 ∧ f ≠ 1221 ∧ f ≠ 1222 ∧ f ≠ 1235 ∧ f ≠ 1236 → (RdE b (SV b M0 v) A op o n1 d 1).1 f b = M0.1 f b := fun f hf => RdE_I hf
  have h1206 : (RdE b (SV b M0 v) A op o n1 d 1).1 1206 b = 0 := RdE_1206
  have hMA : ∀ c, c < 11 → (RdE b (SV b M0 v) A op o n1 d 1).2.2.1 (b + (17 + c)) = A c := fun c hc => RdE_A hc
  have hMf : FixM b (RdE b (SV b M0 v) A op o n1 d 1) := hMX.1
  generalize RdE b (SV b M0 v) A op o n1 d 1 = M9 at hMr hMI h1206 hMA hMf ⊢
  have hrow : M9.2.2.1 (b + 1) = v := (hMr 1 (by omega)).trans SV_v
  have hSk : ∀ k, k ≠ 1 → k < 17 → M9.2.2.1 (b + k) = M0.2.2.1 (b + k) := fun k h1 h2 => (hMr k h2).trans (SV_k h1)
  have hMX9 : MX b n t M9 := by
    refine ⟨hMf, fun c hc i hi => ?_, hMX.2.2⟩
    rw [hSk (6 + c) (by omega) (by omega)]
    exact hMX.2.1 c hc i hi
  have hX2 := SC_self hT hLX
  have hM2 := SV_self hrow
  rw [hX2, ← hM2]
  refine REL_of (b := b) (q := q) (S0 := X) (M0 := M9) ⟨⟨hT, hC.2.1, hFX, hTr⟩, hMX9, hUX, (hMI 1208 (by decide)).trans h1208, ⟨0, by omega, ?_, h1206, fun j hj => absurd hj (Nat.not_lt_zero _)⟩, ?_, ?_, hlen, fun i hi => ?_⟩ hSI hq
  · rw [← hX]
    exact (if_neg (by omega)).trans upN_self
  · obtain ⟨k, g1, g2, g3, g4⟩ := hO
    refine ⟨k, g1, ((hlo 701 3 (by decide) (by omega) (by decide)).1).trans g2, (hMI 1207 (by decide)).trans g3, fun j hj => ?_⟩
    rw [hArr, hSk 5 (by omega) (by omega)]
    exact g4 j hj
  · rcases hV with ⟨g1, g2⟩ | ⟨g1, g2, c1, u1, l1, p1, tr1, g3, g4, g5⟩
    · exact Or.inl ⟨((hlo 1109 0 (by decide) (by omega) (by decide)).1).trans g1, (hMI 1203 (by decide)).trans g2⟩
    · refine Or.inr ⟨((hlo 1109 0 (by decide) (by omega) (by decide)).1).trans g1, (hMI 1203 (by decide)).trans g2, c1, u1, l1, p1, tr1, ?_, ?_, g5⟩
      · rw [hSk 2 (by omega) (by omega)]
        obtain ⟨a1, a2, a3, a4, a5, a6⟩ := g3
        refine ⟨fun i hi => ⟨fun f w hf => ?_, ?_, ?_, ?_⟩, fun f w hf => ?_, ?_, ?_, fun k hk => ?_, fun k hk => ?_⟩
        · rw [(hlo f (18 + i) (by omega) (by omega) (by rintro rfl; cases hf)).1]; exact (a1 i hi).1 f w hf
        · rw [(hlo 301 (18 + i) (by omega) (by omega) (by decide)).1]; exact (a1 i hi).2.1
        · rw [(hlo 303 (18 + i) (by omega) (by omega) (by decide)).1]; exact (a1 i hi).2.2.1
        · rw [(hlo 302 (18 + i) (by omega) (by omega) (by decide)).2]; exact (a1 i hi).2.2.2
        · rw [(hlo f 15 (by omega) (by omega) (by rintro rfl; cases hf)).1]; exact a2 f w hf
        · rw [(hlo 208 15 (by omega) (by omega) (by decide)).1]; exact a3
        · rw [(hlo 200 15 (by omega) (by omega) (by decide)).2]; exact a4
        · rw [hArr]; exact a5 k hk
        · rw [hArr]; exact a6 k hk
      · rw [hSk 2 (by omega) (by omega)]
        exact g4
  · have := hA i hi
    rw [show b + 22 = b + (17 + 5) from rfl, show b + 24 = b + (17 + 7) from rfl, show b + 25 = b + (17 + 8) from rfl, show b + 27 = b + (17 + 10) from rfl, hMA 5 (by omega), hMA 7 (by omega), hMA 8 (by omega), hMA 10 (by omega)]
    exact this
end RDTR
