section ZCMP
variable {p : Program} {l : Launch} {e : Env} {R : Room} {s : State} {m : MethodId} {args : Array Value} {below : List Frame} {meth : Method} {c : Code} {Q : State → Prop} {D : va_G} {A : Nat → Prop} {N : Nat} {ad : Nat → Nat} {nL : Nat} {S : Nat → va_E} {Y : Nat → Option va_E} {cells slots pc : Nat} {L : List (Nat × Value)} {st : List Value} {cc : ByteArray} {own : String} {ks : z_Ks}
/-- two answers that are alike -/
theorem z_icmp_eqS (C : z_C p s m args meth c cc nL own D A ks) {x y o : Int} {t : Nat} (hd : decode cc pc = .ok (.if_icmp .eq o, 3)) (ht : (pc : Int) + o = (t : Int)) (h : x = y) (kt : z_V p l e R s m args below meth c Q D A N ad nL S Y cells slots (t) L (st)) : z_V p l e R s m args below meth c Q D A N ad nL S Y cells slots (pc) L (z_v y :: z_v x :: st) := by
  intro H locs ls hR hS hl
  exact lv_icmp_eq C.1 C.2.1 hd ht (fun _ => kt H locs ls hR hS hl) (fun g => absurd (congrArg z_i h) g)
theorem z_edgeN_rg {m p q b s n : Int} (h : 0 ≤ n ∧ n ≤ 20) : 0 ≤ z_edgeN m p q b s n ∧ z_edgeN m p q b s n ≤ 20 := by unfold z_edgeN; split <;> omega
end ZCMP
