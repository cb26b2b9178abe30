theorem z_nrm {p : Program} {l : Launch} {e : Env} {R : Room} {s : State} {m : MethodId} {args : Array Value} {below : List Frame} {meth : Method} {c : Code} {Q : State → Prop} {D : va_G} {A : Nat → Prop} {N : Nat} {ad : Nat → Nat} {nL : Nat} {S : Nat → va_E} {Y : Nat → Option va_E} {cells slots pc : Nat} {L : List (Nat × Value)} {st : List Value} {x : Int} (k : ∀ z, z_rg z → z_i x = z_i z → z_V p l e R s m args below meth c Q D A N ad nL S Y cells slots pc L (z_v z :: st)) : z_V p l e R s m args below meth c Q D A N ad nL S Y cells slots pc L (z_v x :: st) := by
  obtain ⟨z, h1, h2⟩ := z_norm x
  rw [show z_v x = z_v z from congrArg Value.int h2]
  exact k z h1 h2
theorem z_bitsE {x : Int32} {z : Int} (h : x = z_i z) (r : z_rg z) : x.toInt = z := by rw [h, z_to r]