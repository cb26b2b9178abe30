/-! a world of numbered cells (S, at the addresses ad) and of further cells by address (Y); its judgement z_V -/
abbrev z_i (z : Int) : Int32 := Int32.ofInt z
abbrev z_v (z : Int) : Value := Value.int (z_i z)
abbrev z_ar (cA : ClassId) (n : Nat) (f : Nat → Int) : va_E := .inl (cA, n, .inl (fun j => z_i (f j)))
abbrev z_rr (cA : ClassId) (n : Nat) (g : Nat → Option Nat) : va_E := .inl (cA, n, .inr (.inr (.inr (.inr g))))
abbrev z_ob (ci : Nat) (fs : List Value) : va_E := .inr (ci, fs)
/-- the array classes: of int, Edge, Move, TestList, Test -/
abbrev z_Ks : Type := ClassId × ClassId × ClassId × ClassId × ClassId
abbrev z_tys (k : z_Ks) : List (ClassId × FieldType) := [(k.1, .int), (k.2.1, .object RX0), (k.2.2.1, .object RX1), (k.2.2.2.1, .object RX6), (k.2.2.2.2, .object RX5)]
def z_R (D : va_G) (A : Nat → Prop) (N : Nat) (ad : Nat → Nat) (S : Nat → va_E) (Y : Nat → Option va_E) (H : Heap) : Prop :=
  (∀ k, k < N → A (ad k) ∧ va_at D z_cl (ad k, S k) H) ∧ (∀ i j, i < N → j < N → ad i = ad j → i = j) ∧ ∀ q e, Y q = some e → A q ∧ (∀ k, k < N → ad k ≠ q) ∧ va_at D z_cl (q, e) H
/-- words that a state keeps beside the tables -/
def z_X (U : State) : Prop := (va_AO RX0 U ∧ va_AO RX1 U ∧ va_AO RX6 U ∧ va_AO RX5 U) ∧ va_Nw (.methodLinkNest RX2 29 yX6_init "ClockZones") U ∧ va_Nw (.methodLinkNest RX10 18 yX3_init "ClockZones") U ∧ va_Nw (.methodLinkNest RX3 11 yX4_init "ClockZones") U ∧ va_Nw (.methodLinkNest RX3 28 yX9_init "ClockZones") U ∧ va_Nw (.methodLinkNest RX10 25 yX8_init "ClockZones") U ∧ va_Nw (.methodLinkNest RX10 32 yX7_init "ClockZones") U ∧ va_Nw (.methodLinkNest RX0 9 yX6_init "ClockZones") U
theorem z_X.warm {s U : State} (hW : s.WarmedH U.vm) (h : z_X s) : z_X U := by
  obtain ⟨⟨a1, a2, a3, a4⟩, b1, b2, b3, b4, b5, b6, b7⟩ := h
  exact ⟨⟨a1.moved hW.alike, a2.moved hW.alike, a3.moved hW.alike, a4.moved hW.alike⟩, b1.warmM hW, b2.warmM hW, b3.warmM hW, b4.warmM hW, b5.warmM hW, b6.warmM hW, b7.warmM hW⟩
theorem z_X.same {s U : State} (hW : s.vm = U.vm) (h : z_X s) : z_X U := by
  obtain ⟨⟨a1, a2, a3, a4⟩, b1, b2, b3, b4, b5, b6, b7⟩ := h
  have hA : s.vm.Alike U.vm := hW ▸ Vm.Alike.refl s.vm
  exact ⟨⟨a1.moved hA, a2.moved hA, a3.moved hA, a4.moved hA⟩, b1.same rfl hW, b2.same rfl hW, b3.same rfl hW, b4.same rfl hW, b5.same rfl hW, b6.same rfl hW, b7.same rfl hW⟩
/-- a contract's start: the world, the tables, the words; every new cell may be written -/
def z_P (D : va_G) (A : Nat → Prop) (N : Nat) (ad : Nat → Nat) (ks : z_Ks) (S : Nat → va_E) (Y : Nat → Option va_E) (U : State) : Prop :=
  z_R D A N ad S Y U.heap ∧ va_K D z_cl (z_tys ks) U ∧ z_X U ∧ ∀ q, U.heap.size ≤ q → A q
/-- a contract's end -/
def z_Q (D : va_G) (A : Nat → Prop) (N : Nat) (ad : Nat → Nat) (post : Option Value → (Nat → va_E) → (Nat → Option va_E) → Prop) : Array Value → State → Outcome → State → Prop := fun _ st oc t =>
  (∃ (r : Option Value) (S' : Nat → va_E) (Y' : Nat → Option va_E), oc = .returned r ∧ post r S' Y' ∧ z_R D A N ad S' Y' t.heap) ∧ va_F A st t
abbrev z_w (y : MethodName) (cc : ByteArray) (mL : Nat) (ret : Option FieldType) : List Cond := Cond.code y cc mL ret :: z_tbl
def z_Met (l : Launch) (y : MethodName) (cc : ByteArray) (mL : Nat) (ret : Option FieldType) (fr lo mc ms : Nat) (D : va_G) (A : Nat → Prop) (N : Nat) (ad : Nat → Nat) (ks : z_Ks) (av : List Value) (S : Nat → va_E) (Y : Nat → Option va_E) (post : Option Value → (Nat → va_E) → (Nat → Option va_E) → Prop) : Prop :=
  Met l y (z_w y cc mL ret) { frames := fr, cells := mc, slots := ms, locals := lo } (va_Pc av (z_P D A N ad ks S Y)) (z_Q D A N ad post) mc ms A
/-- the fixed facts of a method's body -/
def z_C (p : Program) (s : State) (m : MethodId) (args : Array Value) (meth : Method) (c : Code) (cc : ByteArray) (nL : Nat) (own : String) (D : va_G) (A : Nat → Prop) (ks : z_Ks) : Prop :=
  p.tables.exec = Jvm.exec ∧ c.code = cc ∧ c.maxLocals = nL ∧ s.vm.findClass own = some m.cls ∧ (∀ w ∈ z_tbl, w.before args s = true) ∧ va_K D z_cl (z_tys ks) s ∧ z_X s ∧ meth.locks = false ∧ ∀ q, s.heap.size ≤ q → A q
def z_V (p : Program) (l : Launch) (e : Env) (R : Room) (s : State) (m : MethodId) (args : Array Value) (below : List Frame) (meth : Method) (c : Code) (Q : State → Prop) (D : va_G) (A : Nat → Prop) (N : Nat) (ad : Nat → Nat) (nL : Nat) (S : Nat → va_E) (Y : Nat → Option va_E) (cells slots pc : Nat) (L : List (Nat × Value)) (st : List Value) : Prop :=
  ∀ (H : Heap) (locs : List Loc) (ls : Array Slot), z_R D A N ad S Y H → va_S A s.heap H locs → lv_has ls nL L → W p l e R s m args below meth c H locs cells slots Q (F0 m pc ls st)
section ZR
variable {D : va_G} {A : Nat → Prop} {N : Nat} {ad : Nat → Nat} {S S' : Nat → va_E} {Y : Nat → Option va_E} {H H1 : Heap}
theorem z_R.ext (h : z_R D A N ad S Y H) (e : ∀ k, k < N → S k = S' k) : z_R D A N ad S' Y H := ⟨fun k hk => ⟨(h.1 k hk).1, by rw [← e k hk]; exact (h.1 k hk).2⟩, h.2⟩
theorem z_R.one (h : z_R D A N ad S Y H) {k : Nat} (hk : k < N) : va_P D z_cl [(ad k, S k)] H ∧ va_D A [(ad k, S k)] := by
  refine ⟨fun i q hq => ?_, fun i j x y hi hj _ => ?_, fun i q hq => ?_⟩
  · match i, hq with
    | 0, hq => cases hq; exact (h.1 k hk).2
    | i + 1, hq => simp at hq
  · have h1 := (List.getElem?_eq_some_iff.mp hi).1
    have h2 := (List.getElem?_eq_some_iff.mp hj).1
    simp at h1 h2
    omega
  · match i, hq with
    | 0, hq => cases hq; exact (h.1 k hk).1
    | i + 1, hq => simp at hq
theorem z_R.dyn (h : z_R D A N ad S Y H) {q : Nat} {e : va_E} (hq : Y q = some e) : va_P D z_cl [(q, e)] H ∧ va_D A [(q, e)] := by
  refine ⟨fun i x hx => ?_, fun i j x y hi hj _ => ?_, fun i x hx => ?_⟩
  · match i, hx with
    | 0, hx => cases hx; exact (h.2.2 q e hq).2.2
    | i + 1, hx => simp at hx
  · have h1 := (List.getElem?_eq_some_iff.mp hi).1
    have h2 := (List.getElem?_eq_some_iff.mp hj).1
    simp at h1 h2
    omega
  · match i, hx with
    | 0, hx => cases hx; exact (h.2.2 q e hq).1
    | i + 1, hx => simp at hx
/-- one numbered cell written -/
theorem z_R.put (h : z_R D A N ad S Y H) {k : Nat} (hk : k < N) {e : va_E} (he : va_at D z_cl (ad k, e) H1) (oq : ∀ q : Nat, q ≠ ad k → H1[q]? = H[q]?) : z_R D A N ad (va_up S k e) Y H1 := by
  refine ⟨fun i hi => ⟨(h.1 i hi).1, ?_⟩, h.2.1, fun q x hq => ⟨(h.2.2 q x hq).1, (h.2.2 q x hq).2.1, (h.2.2 q x hq).2.2.kept (oq q (fun z => (h.2.2 q x hq).2.1 k hk z.symm))⟩⟩
  by_cases hik : i = k
  · subst hik
    simp only [va_up, if_true]
    exact he
  · simp only [va_up, hik, if_false]
    exact (h.1 i hi).2.kept (oq (ad i) (fun z => hik (h.2.1 i k hi hk z)))
/-- one further cell written -/
theorem z_R.putY (h : z_R D A N ad S Y H) {a : Nat} {e0 e : va_E} (ha : Y a = some e0) (he : va_at D z_cl (a, e) H1) (oq : ∀ q : Nat, q ≠ a → H1[q]? = H[q]?) : z_R D A N ad S (va_up Y a (some e)) H1 := by
  have h0 := h.2.2 a e0 ha
  refine ⟨fun i hi => ⟨(h.1 i hi).1, (h.1 i hi).2.kept (oq (ad i) (h0.2.1 i hi))⟩, h.2.1, fun q x hq => ?_⟩
  by_cases hqa : q = a
  · subst hqa
    simp only [va_up, if_true, Option.some.injEq] at hq
    subst hq
    exact ⟨h0.1, h0.2.1, he⟩
  · simp only [va_up, hqa, if_false] at hq
    exact ⟨(h.2.2 q x hq).1, (h.2.2 q x hq).2.1, (h.2.2 q x hq).2.2.kept (oq q hqa)⟩
/-- one further cell made -/
theorem z_R.new (h : z_R D A N ad S Y H) {e : va_E} (hA : A H.size) (he : va_at D z_cl (H.size, e) H1) (oq : ∀ q : Nat, q < H.size → H1[q]? = H[q]?) : z_R D A N ad S (va_up Y H.size (some e)) H1 ∧ Y H.size = none ∧ ∀ q x, Y q = some x → q ≠ H.size := by
  have hlt : ∀ q x, Y q = some x → q < H.size := fun q x hq => (h.2.2 q x hq).2.2.lt
  refine ⟨⟨fun i hi => ⟨(h.1 i hi).1, (h.1 i hi).2.kept (oq (ad i) (h.1 i hi).2.lt)⟩, h.2.1, fun q x hq => ?_⟩, ?_, fun q x hq => Nat.ne_of_lt (hlt q x hq)⟩
  · by_cases hqa : q = H.size
    · subst hqa
      simp only [va_up, if_true, Option.some.injEq] at hq
      subst hq
      exact ⟨hA, fun k hk => Nat.ne_of_lt (h.1 k hk).2.lt, he⟩
    · simp only [va_up, hqa, if_false] at hq
      exact ⟨(h.2.2 q x hq).1, (h.2.2 q x hq).2.1, (h.2.2 q x hq).2.2.kept (oq q (hlt q x hq))⟩
  · cases hz : Y H.size with
    | none => rfl
    | some x => exact absurd (hlt _ _ hz) (Nat.lt_irrefl _)
end ZR
/-! numbers -/
theorem z_add (a b : Int) : z_i a + z_i b = z_i (a + b) := (Int32.ofInt_add a b).symm
theorem z_sub (a b : Int) : z_i a - z_i b = z_i (a - b) := (Int32.ofInt_sub a b).symm
theorem z_mul (a b : Int) : z_i a * z_i b = z_i (a * b) := (Int32.ofInt_mul a b).symm
theorem z_neg (a : Int) : -z_i a = z_i (-a) := (Int32.ofInt_neg a).symm
abbrev z_rg (z : Int) : Prop := -2147483648 ≤ z ∧ z < 2147483648
theorem z_to {z : Int} (h : z_rg z) : (z_i z).toInt = z := by
  rw [Int32.toInt_ofInt]
  show Int.bmod z 4294967296 = z
  exact Int.bmod_eq_of_le (by omega) (by omega)
theorem z_of (x : Int32) : z_i x.toInt = x := Int32.ofInt_toInt x
theorem z_rgI (x : Int32) : z_rg x.toInt := by
  have h1 := Int32.le_toInt x
  have h2 := Int32.toInt_lt x
  constructor <;> omega
theorem z_eq {a b : Int} (ha : z_rg a) (hb : z_rg b) : z_i a = z_i b ↔ a = b := ⟨fun h => by rw [← z_to ha, ← z_to hb, h], fun h => by rw [h]⟩
theorem z_le {a b : Int} (ha : z_rg a) (hb : z_rg b) : z_i a ≤ z_i b ↔ a ≤ b := by rw [Int32.le_iff_toInt_le, z_to ha, z_to hb]
theorem z_lt {a b : Int} (ha : z_rg a) (hb : z_rg b) : z_i a < z_i b ↔ a < b := by rw [Int32.lt_iff_toInt_lt, z_to ha, z_to hb]
/-- an int whatever it is, by a number in range -/
theorem z_any (x : Int32) : ∃ z, z_rg z ∧ x = z_i z := ⟨x.toInt, z_rgI x, (z_of x).symm⟩
theorem z_norm (a : Int) : ∃ z, z_rg z ∧ z_i a = z_i z := z_any _
theorem z_cl0 {a : Int} (h0 : 0 ≤ a) (h : a < 2147483648) : (z_i a).toNatClampNeg = a.toNat := by
  rw [← Int32.toNat_toInt, z_to ⟨by omega, h⟩]
theorem z_ix {a : Int} {n : Nat} (h0 : 0 ≤ a) (h : a < n) (hn : n < 2147483648) : vp_in (z_i a) n := by
  have h1 : z_rg a := ⟨by omega, by omega⟩
  rw [vp_in_iff, z_to h1]
  exact ⟨h0, h⟩
