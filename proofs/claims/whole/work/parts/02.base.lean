/-! the abstract heap: fields by number (100 * class + place) and address, int rows and reference rows by address and place -/
abbrev HS : Type := (Nat → Nat → Int32) × (Nat → Nat → Option Nat) × (Nat → Nat → Int32) × (Nat → Nat → Option Nat)
/-- what does not change: the addresses, the kind of each (a class of vwCl, or 13 char, 14 int, 15 Life, 16 Node rows), a row's length -/
abbrev LY : Type := List Nat × (Nat → Nat) × (Nat → Nat)
/-- classes, their slots, the array classes, addresses of the String constants and of their bytes -/
abbrev GG : Type := va_G × (Nat → ClassId) × (Nat → Nat) × (Nat → Nat)
def isR : Nat → Bool := fun f => [0, 104, 200, 209, 210, 302, 401, 402, 403, 408, 409, 410, 411, 412, 413, 500, 501, 600, 601, 602, 700, 800, 900, 901, 1000, 1001, 1100, 1101, 1102, 1103, 1104, 1105, 1106, 1107, 1108, 1200, 1201, 1202, 1204, 1205, 1209, 1210, 1211, 1212, 1213, 1214, 1215, 1216, 1217, 1218, 1219, 1223, 1224, 1225, 1226, 1227, 1228, 1229, 1230, 1231, 1232, 1233, 1234].contains f
def nfl : Nat → Nat := fun c => [1, 5, 11, 10, 14, 3, 3, 2, 2, 2, 2, 10, 39].getD c 0
def vl (S : HS) (f a : Nat) : Value := if isR f = true then va_rf (S.2.1 f a) else .int (S.1 f a)
def fv (S : HS) (c a : Nat) : List Value := (List.range (nfl c)).map fun k => vl S (100 * c + k) a
def ce (G : GG) (Y : LY) (S : HS) : Nat → va_E := fun a =>
  if Y.2.1 a = 13 then .inl (G.2.1 13, Y.2.2 a, .inl (S.2.2.1 a))
  else if Y.2.1 a = 14 then .inl (G.2.1 14, Y.2.2 a, .inl (S.2.2.1 a))
  else if Y.2.1 a = 15 then .inl (G.2.1 15, Y.2.2 a, .inr (.inr (.inr (.inr (S.2.2.2 a)))))
  else if Y.2.1 a = 16 then .inl (G.2.1 16, Y.2.2 a, .inr (.inr (.inr (.inr (S.2.2.2 a)))))
  else .inr (Y.2.1 a, fv S (Y.2.1 a) a)
abbrev tysG (G : GG) : List (ClassId × FieldType) := [(G.2.1 13, .char), (G.2.1 14, .int), (G.2.1 15, .object "BehaviorRunner$Life"), (G.2.1 16, .object "BehaviorRunner$Node")]
abbrev WP (G : GG) (Y : LY) (S : HS) (H : Heap) : Prop := va_P G.1 vwCl (va_pl Y.1 (ce G Y S)) H
abbrev WD (G : GG) (Y : LY) (S : HS) (A : Nat → Prop) : Prop := va_D A (va_pl Y.1 (ce G Y S))
/-- the String constants: their lengths, their bytes -/
def lenJS : List Nat := [15, 3, 3]
def bytJS : List (List Int32) := [[97, 120, 63, 61, 115, 102, 83, 70, 112, 33, 114, 116, 103, 119, 108], [60, 61, 62], [58, 43, 45]]
/-- what stays: the classes, the nest links, the String constants -/
def KK (G : GG) (U : State) : Prop := va_K G.1 vwCl (tysG G) U ∧ ∀ w ∈ tables_1, isNest w = true → va_Nw w U
def STR (G : GG) (A : Nat → Prop) (U : State) (H : Heap) : Prop :=
  vk_S 3 lenJS bytJS G.2.2.1 G.2.2.2 A U H ∧ va_Z "java/lang/String" "COMPACT_STRINGS" "Z" (.int 1) A U H ∧
  vk_R "BehaviorRunner$Parser" 37 "ax?=sfSFp!rtgwl" (G.2.2.1 0) U ∧ vk_R "BehaviorRunner$Parser" 67 "<=>" (G.2.2.1 1) U ∧ vk_R "BehaviorRunner$Parser" 73 ":+-" (G.2.2.1 2) U ∧ vk_R "BehaviorRunner$Writer" 43 "ax?=sfSFp!rtgwl" (G.2.2.1 0) U ∧ va_Zq "jdk/internal/util/Preconditions" "SIOOBE_FORMATTER" "Ljava/util/function/BiFunction;" A U H ∧ va_AO "BehaviorRunner$Life" U ∧ va_AO "BehaviorRunner$Node" U
theorem nest_warm {w : Cond} {s U : State} (hn : isNest w = true) (hW : s.WarmedH U.vm) (h : va_Nw w s) : va_Nw w U := by
  cases w <;> first | exact va_Nw.warmF hW h | exact va_Nw.warmM hW h | cases hn
theorem nest_same {w : Cond} {s U : State} (hn : isNest w = true) (hW : s.vm = U.vm) (h : va_Nw w s) : va_Nw w U := by
  cases w <;> first | exact va_Nw.same rfl hW h | cases hn
theorem KK.warm {G : GG} {s U : State} (hW : s.WarmedH U.vm) (h : KK G s) : KK G U := ⟨va_K.moved hW.alike h.1, fun w hw hn => nest_warm hn hW (h.2 w hw hn)⟩
theorem KK.same {G : GG} {s U : State} (hW : s.vm = U.vm) (h : KK G s) : KK G U := ⟨va_K.moved (by rw [hW]; exact Vm.Alike.refl _) h.1, fun w hw hn => nest_same hn hW (h.2 w hw hn)⟩
theorem STR.same {G : GG} {A : Nat → Prop} {s U : State} {H : Heap} (hW : U.vm = s.vm) (h : STR G A s H) : STR G A U H :=
  ⟨h.1.moved (by rw [hW]; exact Vm.Alike.refl _), h.2.1.moved (by rw [hW]; exact Vm.Alike.refl _), h.2.2.1.same hW, h.2.2.2.1.same hW, h.2.2.2.2.1.same hW, h.2.2.2.2.2.1.same hW, h.2.2.2.2.2.2.1.moved (by rw [hW]; exact Vm.Alike.refl _), h.2.2.2.2.2.2.2.1.moved (by rw [hW]; exact Vm.Alike.refl _), h.2.2.2.2.2.2.2.2.moved (by rw [hW]; exact Vm.Alike.refl _)⟩
theorem STR.warm {G : GG} {A : Nat → Prop} {s U : State} {H : Heap} (hW : s.WarmedH U.vm) (h : STR G A s H) : STR G A U H :=
  ⟨h.1.moved hW.alike, h.2.1.moved hW.alike, h.2.2.1.warm hW, h.2.2.2.1.warm hW, h.2.2.2.2.1.warm hW, h.2.2.2.2.2.1.warm hW, h.2.2.2.2.2.2.1.moved hW.alike, h.2.2.2.2.2.2.2.1.moved hW.alike, h.2.2.2.2.2.2.2.2.moved hW.alike⟩
theorem STR.kept {G : GG} {A : Nat → Prop} {U : State} {H H1 : Heap} (h : STR G A U H) (hq : ∀ a : Nat, a < H.size → ¬ A a → H1[a]? = H[a]?) : STR G A U H1 :=
  ⟨h.1.kept hq, h.2.1.kept hq, h.2.2.1, h.2.2.2.1, h.2.2.2.2.1, h.2.2.2.2.2.1, h.2.2.2.2.2.2.1.kept hq, h.2.2.2.2.2.2.2⟩
theorem STR.narrow {G : GG} {A B : Nat → Prop} {U : State} {H : Heap} (h : STR G A U H) (hAB : ∀ q, B q → A q) : STR G B U H :=
  ⟨h.1.narrow hAB, h.2.1.narrow hAB, h.2.2.1, h.2.2.2.1, h.2.2.2.2.1, h.2.2.2.2.2.1, h.2.2.2.2.2.2.1.narrow hAB, h.2.2.2.2.2.2.2⟩
def chk (Y : LY) (c a : Nat) : Bool := decide (a ∈ Y.1) && (Y.2.1 a == c)
theorem chk_in {Y : LY} {c a : Nat} (h : chk Y c a = true) : a ∈ Y.1 ∧ Y.2.1 a = c := by
  unfold chk at h
  simp only [Bool.and_eq_true, decide_eq_true_eq, beq_iff_eq] at h
  exact h
theorem ce_obj {G : GG} {Y : LY} {S : HS} {c a : Nat} (hc : c < 13) (h : Y.2.1 a = c) : ce G Y S a = .inr (c, fv S c a) := by
  subst h
  unfold ce
  rw [if_neg (by omega), if_neg (by omega), if_neg (by omega), if_neg (by omega)]
theorem ce_13 {G : GG} {Y : LY} {S : HS} {a : Nat} (h : Y.2.1 a = 13) : ce G Y S a = .inl (G.2.1 13, Y.2.2 a, .inl (S.2.2.1 a)) := by
  unfold ce; rw [if_pos h]
theorem ce_14 {G : GG} {Y : LY} {S : HS} {a : Nat} (h : Y.2.1 a = 14) : ce G Y S a = .inl (G.2.1 14, Y.2.2 a, .inl (S.2.2.1 a)) := by
  unfold ce; rw [if_neg (by omega), if_pos h]
theorem ce_15 {G : GG} {Y : LY} {S : HS} {a : Nat} (h : Y.2.1 a = 15) : ce G Y S a = .inl (G.2.1 15, Y.2.2 a, .inr (.inr (.inr (.inr (S.2.2.2 a))))) := by
  unfold ce; rw [if_neg (by omega), if_neg (by omega), if_pos h]
theorem ce_16 {G : GG} {Y : LY} {S : HS} {a : Nat} (h : Y.2.1 a = 16) : ce G Y S a = .inl (G.2.1 16, Y.2.2 a, .inr (.inr (.inr (.inr (S.2.2.2 a))))) := by
  unfold ce; rw [if_neg (by omega), if_neg (by omega), if_neg (by omega), if_pos h]
theorem fv_get {S : HS} {c k a : Nat} (hk : k < nfl c) : (fv S c a)[k]? = some (vl S (100 * c + k) a) := by
  unfold fv
  rw [List.getElem?_map, List.getElem?_range hk]
  rfl
theorem fv_len {S : HS} {c a : Nat} : (fv S c a).length = nfl c := by simp [fv]
/-- two heaps that differ in one field of one object -/
def Diff1 (S S1 : HS) (f a : Nat) : Prop := (∀ g b, (g ≠ f ∨ b ≠ a) → vl S1 g b = vl S g b) ∧ S1.2.2 = S.2.2
theorem fv_set {S S1 : HS} {c k a : Nat} (hk : k < nfl c) (h : Diff1 S S1 (100 * c + k) a) : (fv S c a).set k (vl S1 (100 * c + k) a) = fv S1 c a := by
  apply List.ext_getElem?
  intro j
  by_cases hj : j = k
  · subst hj
    rw [List.getElem?_set_self (by rw [fv_len]; exact hk), fv_get hk]
  · rw [List.getElem?_set_ne (Ne.symm hj)]
    by_cases hl : j < nfl c
    · rw [fv_get hl, fv_get hl, h.1 _ _ (Or.inl (by omega))]
    · rw [List.getElem?_eq_none (by rw [fv_len]; omega), List.getElem?_eq_none (by rw [fv_len]; omega)]
theorem ce_set {G : GG} {Y : LY} {S S1 : HS} {c k a : Nat} (hc : c < 13) (hK : Y.2.1 a = c) (hk : k < nfl c) (h : Diff1 S S1 (100 * c + k) a) (b : Nat) : va_up (ce G Y S) a (.inr (c, (fv S c a).set k (vl S1 (100 * c + k) a))) b = ce G Y S1 b := by
  by_cases hb : b = a
  · subst hb
    rw [va_up_self, fv_set hk h, ce_obj hc hK]
  · rw [va_up_ne _ _ hb]
    unfold ce
    rw [h.2]
    have e : fv S (Y.2.1 b) b = fv S1 (Y.2.1 b) b := by
      unfold fv
      apply List.map_congr_left
      intro j _
      rw [h.1 _ _ (Or.inr hb)]
    rw [e]
theorem WD_eq {G : GG} {Y : LY} {S S1 : HS} {A : Nat → Prop} (h : WD G Y S A) : WD G Y S1 A := by
  have key : ∀ (k : Nat) (q : Nat × va_E), (va_pl Y.1 (ce G Y S1))[k]? = some q → (va_pl Y.1 (ce G Y S))[k]? = some (q.1, ce G Y S q.1) := by
    intro k q hk
    simp only [va_pl, List.getElem?_map] at hk ⊢
    cases hb : Y.1[k]? with
    | none => rw [hb] at hk; cases hk
    | some b => rw [hb] at hk; cases hk; rfl
  exact ⟨fun i j p q hi hj e => h.1 i j _ _ (key i p hi) (key j q hj) e, fun k q hk => h.2 k (q.1, ce G Y S q.1) (key k q hk)⟩
theorem WD_in {G : GG} {Y : LY} {S : HS} {A : Nat → Prop} (h : WD G Y S A) {a : Nat} (ha : a ∈ Y.1) : A a := by
  obtain ⟨k, hk⟩ := va_pl_get (X := []) (f := ce G Y S) ha
  exact h.2 k _ hk
/-- what a walk holds at each step -/
def HP (A : Nat → Prop) (G : GG) (Y : LY) (s : State) (S : HS) (H : Heap) (locs : List Loc) : Prop := WP G Y S H ∧ WD G Y S A ∧ va_S A s.heap H locs
/-- what a method's frame knows for good -/
def Cx (p : Program) (R : Room) (s : State) (m : MethodId) (args : Array Value) (meth : Method) (c : Code) (own : String) (cc : ByteArray) (nL : Nat) (nf nl : Nat) (A : Nat → Prop) (G : GG) (rt : Option FieldType) : Prop :=
  (p.tables.exec = Jvm.exec ∧ c.code = cc ∧ c.maxLocals = nL ∧ s.vm.findClass own = some m.cls ∧ ∀ w ∈ TBL, w.before args s = true) ∧ KK G s ∧ STR G A s s.heap ∧ meth.locks = false ∧ meth.sig.returnType = rt ∧ nf ≤ R.frames ∧ nl ≤ R.locals ∧ (0 ≤ R.cells ∧ 0 ≤ R.slots)
theorem ob {α β : Type} {x : Option α} {f : α → Option β} {r : β} (h : x.bind f = some r) : ∃ v, x = some v ∧ f v = some r := by
  cases x with
  | none => cases h
  | some v => exact ⟨v, rfl, h⟩
theorem ifp {α : Type} {c : Prop} [Decidable c] {a b r : α} (h : (if c then a else b) = r) (hc : c) : a = r := by rw [if_pos hc] at h; exact h
theorem ifn {α : Type} {c : Prop} [Decidable c] {a b r : α} (h : (if c then a else b) = r) (hc : ¬ c) : b = r := by rw [if_neg hc] at h; exact h
/-! reads and writes -/
def upN {α : Type} (F : Nat → Nat → α) (f a : Nat) (v : α) : Nat → Nat → α := fun g b => if g = f ∧ b = a then v else F g b
def gI (Y : LY) (c f : Nat) (r : Option Nat) (S : HS) : Option Int32 := r.bind fun a => if chk Y c a = true then some (S.1 f a) else none
def gR (Y : LY) (c f : Nat) (r : Option Nat) (S : HS) : Option (Option Nat) := r.bind fun a => if chk Y c a = true then some (S.2.1 f a) else none
def pI (Y : LY) (c f : Nat) (r : Option Nat) (v : Int32) (S : HS) : Option HS := r.bind fun a => if chk Y c a = true then some (upN S.1 f a v, S.2) else none
def pZ (Y : LY) (c f : Nat) (r : Option Nat) (v : Int32) (S : HS) : Option HS := if v = 0 ∨ v = 1 then pI Y c f r v S else none
def pC (Y : LY) (c f : Nat) (r : Option Nat) (v : Int32) (S : HS) : Option HS := if vp_nar .char v = v then pI Y c f r v S else none
def pR (Y : LY) (c f : Nat) (r : Option Nat) (v : Option Nat) (S : HS) : Option HS := r.bind fun a => if chk Y c a = true then some (S.1, upN S.2.1 f a v, S.2.2) else none
def inr (i : Int32) (n : Nat) : Bool := !(decide (i < 0)) && decide (i.toNatClampNeg < n)
theorem inr_in {i : Int32} {n : Nat} (h : inr i n = true) : vp_in i n := by
  unfold inr at h
  simp only [Bool.and_eq_true, Bool.not_eq_true', decide_eq_false_iff_not, decide_eq_true_eq] at h
  intro q
  rcases q with q | q
  · exact h.1 q
  · omega
def gA (Y : LY) (k : Nat) (r : Option Nat) (i : Int32) (S : HS) : Option Int32 := r.bind fun a => if (chk Y k a && inr i (Y.2.2 a)) = true then some (S.2.2.1 a i.toNatClampNeg) else none
def gQ (Y : LY) (k : Nat) (r : Option Nat) (i : Int32) (S : HS) : Option (Option Nat) := r.bind fun a => if (chk Y k a && inr i (Y.2.2 a)) = true then some (S.2.2.2 a i.toNatClampNeg) else none
def pA (Y : LY) (k : Nat) (r : Option Nat) (i v : Int32) (S : HS) : Option HS := r.bind fun a => if (chk Y k a && inr i (Y.2.2 a)) = true then some (S.1, S.2.1, upN S.2.2.1 a i.toNatClampNeg v, S.2.2.2) else none
def aL (Y : LY) (k : Nat) (r : Option Nat) : Option Int32 := r.bind fun a => if chk Y k a = true then some (Int32.ofNat (Y.2.2 a)) else none
def cpA (Y : LY) (r : Option Nat) (sp : Int32) (r2 : Option Nat) (dp n : Int32) (S : HS) : Option HS := r.bind fun a => r2.bind fun b => if (chk Y 14 a && chk Y 14 b) = true ∧ ¬ sp < 0 ∧ ¬ dp < 0 ∧ ¬ n < 0 ∧ sp.toNatClampNeg + n.toNatClampNeg ≤ Y.2.2 a ∧ dp.toNatClampNeg + n.toNatClampNeg ≤ Y.2.2 b then some (S.1, S.2.1, va_up S.2.2.1 b (va_cpy (S.2.2.1 a) (S.2.2.1 b) sp.toNatClampNeg dp.toNatClampNeg n.toNatClampNeg), S.2.2.2) else none
def rcv (Y : LY) (c : Nat) (r : Option Nat) : Option Unit := r.bind fun a => if chk Y c a = true then some () else none
def zr (v : Int32) : Option Int32 := if v = 0 ∨ v = 1 then some v else none
theorem rc_some {Y : LY} {c : Nat} {r : Option Nat} {α : Type} {g : Nat → α} {x : α} (h : (r.bind fun a => if chk Y c a = true then some (g a) else none) = some x) : ∃ a, r = some a ∧ chk Y c a = true ∧ g a = x := by
  cases r with
  | none => cases h
  | some a =>
    by_cases hc : chk Y c a = true
    · have h' : (if chk Y c a = true then some (g a) else none) = some x := h
      rw [if_pos hc] at h'
      exact ⟨a, rfl, hc, Option.some.inj h'⟩
    · have h' : (if chk Y c a = true then some (g a) else none) = some x := h
      rw [if_neg hc] at h'
      cases h'
theorem rc_some2 {Y : LY} {c : Nat} {i : Int32} {r : Option Nat} {α : Type} {g : Nat → α} {x : α} (h : (r.bind fun a => if (chk Y c a && inr i (Y.2.2 a)) = true then some (g a) else none) = some x) : ∃ a, r = some a ∧ chk Y c a = true ∧ vp_in i (Y.2.2 a) ∧ g a = x := by
  cases r with
  | none => cases h
  | some a =>
    by_cases hc : (chk Y c a && inr i (Y.2.2 a)) = true
    · have h' : (if (chk Y c a && inr i (Y.2.2 a)) = true then some (g a) else none) = some x := h
      rw [if_pos hc] at h'
      rw [Bool.and_eq_true] at hc
      exact ⟨a, rfl, hc.1, inr_in hc.2, Option.some.inj h'⟩
    · have h' : (if (chk Y c a && inr i (Y.2.2 a)) = true then some (g a) else none) = some x := h
      rw [if_neg hc] at h'
      cases h'
