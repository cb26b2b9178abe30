/-- a test, a list of tests, an edge, a move, in the cells Y -/
def z_T (Y : Nat → Option va_E) (q : Nat) : Prop := ∃ c s n : Int, Y q = some (z_ob 5 [z_v c, z_v s, z_v n]) ∧ 1 ≤ c ∧ c ≤ 3 ∧ 0 ≤ s ∧ s ≤ 4 ∧ 0 ≤ n ∧ n ≤ 1000
def z_TL (ks : z_Ks) (Y : Nat → Option va_E) (q : Nat) : Prop := ∃ (t : Nat) (n : Int) (g : Nat → Option Nat), Y q = some (z_ob 6 [.ref t, z_v n]) ∧ Y t = some (z_rr ks.2.2.2.2 2 g) ∧ (0 ≤ n ∧ n ≤ 2) ∧ ∀ j : Nat, (j : Int) < n → ∃ b, g j = some b ∧ z_T Y b
def z_E (ks : z_Ks) (Y : Nat → Option va_E) (q : Nat) : Prop := ∃ (m f t k r : Int) (g : Nat), Y q = some (z_ob 0 [z_v m, z_v f, z_v t, z_v k, z_v r, .ref g]) ∧ (0 ≤ m ∧ m ≤ 2 ∧ 0 ≤ f ∧ f ≤ 5 ∧ 0 ≤ t ∧ t ≤ 5 ∧ -4 ≤ k ∧ k ≤ 4 ∧ z_rg r) ∧ z_TL ks Y g
def z_Mv (ks : z_Ks) (Y : Nat → Option va_E) (q : Nat) : Prop := ∃ (f s : Int) (a : Nat) (b : Option Nat) (r : Int), Y q = some (z_ob 1 [z_v f, z_v s, .ref a, va_rf b, z_v r]) ∧ (z_rg f ∧ z_rg s ∧ z_rg r) ∧ z_E ks Y a ∧ ∀ x, b = some x → z_E ks Y x
section ZAA
variable {p : Program} {l : Launch} {e : Env} {R : Room} {s : State} {m : MethodId} {args : Array Value} {below : List Frame} {meth : Method} {c : Code} {Q : State → Prop} {D : va_G} {A : Nat → Prop} {N : Nat} {ad : Nat → Nat} {nL : Nat} {S : Nat → va_E} {Y : Nat → Option va_E} {cells slots pc : Nat} {L : List (Nat × Value)} {st : List Value} {cc : ByteArray} {own : String} {ks : z_Ks}
theorem z_aaldS (C : z_C p s m args meth c cc nL own D A ks) {cA : ClassId} {n q : Nat} {g : Nat → Option Nat} {i : Int} {E : String} (k t0 : Nat) (hk : k < N) (he : S k = z_rr cA n g) (ht : (z_tys ks)[t0]? = some (cA, .object E)) (hn : n < 2147483648) (h0 : 0 ≤ i) (h1 : i < n) (hq : g i.toNat = some q) (hd : decode cc pc = .ok (.aaload, 1))
    (kk : z_V p l e R s m args below meth c Q D A N ad nL S Y cells slots (pc + 1) L (.ref q :: st)) : z_V p l e R s m args below meth c Q D A N ad nL S Y cells slots pc L (z_v i :: .ref (ad k) :: st) :=
  z_aald C k t0 hk he ht hn h0 h1 hd (by rw [hq]; exact kk)
theorem z_aaldT (C : z_C p s m args meth c cc nL own D A ks) {cA : ClassId} {n q b : Nat} {g : Nat → Option Nat} {i : Int} {E : String} (t0 : Nat) (he : Y q = some (z_rr cA n g)) (ht : (z_tys ks)[t0]? = some (cA, .object E)) (hn : n < 2147483648) (h0 : 0 ≤ i) (h1 : i < n) (hq : g i.toNat = some b) (hd : decode cc pc = .ok (.aaload, 1))
    (kk : z_V p l e R s m args below meth c Q D A N ad nL S Y cells slots (pc + 1) L (.ref b :: st)) : z_V p l e R s m args below meth c Q D A N ad nL S Y cells slots pc L (z_v i :: .ref q :: st) :=
  z_aaldY C t0 he ht hn h0 h1 hd (by rw [hq]; exact kk)
end ZAA