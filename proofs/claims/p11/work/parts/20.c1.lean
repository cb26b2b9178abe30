/-- a test, a list of tests, an edge, a move, in the cells Y -/
def z_T (Y : Nat → Option va_E) (q : Nat) : Prop := ∃ c s n : Int, Y q = some (z_ob 5 [z_v c, z_v s, z_v n]) ∧ 1 ≤ c ∧ c ≤ 3 ∧ 0 ≤ s ∧ s ≤ 4 ∧ 0 ≤ n ∧ n ≤ 1000
def z_TL (ks : z_Ks) (Y : Nat → Option va_E) (q : Nat) : Prop := ∃ (t : Nat) (n : Int) (g : Nat → Option Nat), Y q = some (z_ob 6 [.ref t, z_v n]) ∧ Y t = some (z_rr ks.2.2.2.2 2 g) ∧ (0 ≤ n ∧ n ≤ 2) ∧ ∀ j : Nat, (j : Int) < n → ∃ b, g j = some b ∧ z_T Y b
def z_E (ks : z_Ks) (Y : Nat → Option va_E) (q : Nat) : Prop := ∃ (m f t k r : Int) (g : Nat), Y q = some (z_ob 0 [z_v m, z_v f, z_v t, z_v k, z_v r, .ref g]) ∧ (0 ≤ m ∧ m ≤ 2 ∧ 0 ≤ f ∧ f ≤ 5 ∧ 0 ≤ t ∧ t ≤ 5 ∧ -4 ≤ k ∧ k ≤ 4 ∧ z_rg r) ∧ z_TL ks Y g
def z_Mv (ks : z_Ks) (Y : Nat → Option va_E) (q : Nat) : Prop := ∃ (f s : Int) (a : Nat) (b : Option Nat) (r : Int), Y q = some (z_ob 1 [z_v f, z_v s, .ref a, va_rf b, z_v r]) ∧ (z_rg f ∧ z_rg s ∧ z_rg r) ∧ z_E ks Y a ∧ ∀ x, b = some x → z_E ks Y x
section ZAA
variable {p : Program} {l : Launch} {e : Env} {R : Room} {s : State} {m : MethodId} {args : Array Value} {below : List Frame} {meth : Method} {c : Code} {Q : State → Prop} {D : va_G} {A : Nat → Prop} {N : Nat} {ad : Nat → Nat} {nL : Nat} {S : Nat → va_E} {Y : Nat → Option va_E} {cells slots pc : Nat} {L : List (Nat × Value)} {st : List Value} {cc : ByteArray} {own : String} {ks : z_Ks}
theorem z_aaldS (C : z_C p s m args meth c cc nL own D A ks) {cA : ClassId} {n q : Nat} {g : Nat → Option Nat} {i : Int} {E : String} (k t0 : Nat) (hk : k < N) (he : S k = z_rr cA n g) (ht : (z_tys ks)[t0]? = some (cA, .object E)) (hn : n < 2147483648) (h0 : 0 ≤ i) (h1 : i < n) (hq : g i.toNat = some q) (hd : decode cc pc = .ok (.aaload, 1))
    (kk : z_V p l e R s m args below meth c Q D A N ad nL S Y cells slots (pc + 1) L (.ref q :: st)) : z_V p l e R s m args below meth c Q D A N ad nL S Y cells slots pc L (z_v i :: .ref (ad k) :: st) :=
  z_aald C k t0 hk he ht hn h0 h1 hd (by rw [hq]; exact kk)
theorem z_aaldT (C : z_C p s m args meth c cc nL own D A ks) {cA : ClassId} {n q b : Nat} {g : Nat → Option Nat} {i : Int} {E : String} (t0 : Nat) (he : Y q = some (z_rr cA n g)) (ht : (z_tys ks)[t0]? = some (cA, .object E)) (hn : n < 2147483648) (h0 : 0 ≤ i) (h1 : i < n) (hq : g i.toNat = some b) (hd : decode cc pc = .ok (.aaload, 1))
    (kk : z_V p l e R s m args below meth c Q D A N ad nL S Y cells slots (pc + 1) L (.ref b :: st)) : z_V p l e R s m args below meth c Q D A N ad nL S Y cells slots pc L (z_v i :: .ref q :: st) :=
  z_aaldY C t0 he ht hn h0 h1 hd (by rw [hq]; exact kk)
end ZAA
set_option maxRecDepth 20000 in
theorem cm_X5_isCeiling (l : Launch) {D : va_G} {A : Nat → Prop} {ad : Nat → Nat} {ks : z_Ks} {N : Nat} {S : Nat → va_E} {Y : Nat → Option va_E} (q : Nat) (hT : z_T Y q) : z_Met l yX5_isCeiling cX5_isCeiling 1 (some .boolean) 0 0 0 0 D A N ad ks [.ref q] S Y (fun r S' Y' => S' = S ∧ Y = Y' ∧ ∃ z : Int, r = some (z_v z) ∧ (z = 0 ∨ z = 1)) := by
  refine z_start2 (by decide) (Nat.le_of_ble_eq_true rfl) ?_
  intro p e R s m args below meth c Q C hRf hRc hRs hRl hQ hrt hnm
  refine z_loc (L' := [(0, .ref q)]) [0] rfl ?_
  refine z_aloadn C 0 dX5_isCeiling_0 rfl rfl ?_
  obtain ⟨cd1, sd1, nd1, yd1, ad1⟩ := id hT
  refine z_getY C yd1 rfl z_it5 1 (by decide) rfl fl_5_15 rfl dX5_isCeiling_1 ?_
  refine z_iconst C dX5_isCeiling_4 ?_
  refine z_icmp_gt (t := 12) C dX5_isCeiling_5 (by decide) (by omega) (by omega) (fun c2 => ?_) (fun c2 => ?_)
  · skip
    refine z_iconst C dX5_isCeiling_12 ?_
    rw [hQ]
    exact z_zret C hrt (by omega) dX5_isCeiling_13 (⟨rfl, rfl, _, rfl, by omega⟩) (by omega) (by omega)
  · skip
    refine z_iconst C dX5_isCeiling_8 ?_
    refine z_goto (t := 13) C dX5_isCeiling_9 (by decide) ?_
    rw [hQ]
    exact z_zret C hrt (by omega) dX5_isCeiling_13 (⟨rfl, rfl, _, rfl, by omega⟩) (by omega) (by omega)
set_option maxRecDepth 20000 in
theorem cm_X5_isFloor (l : Launch) {D : va_G} {A : Nat → Prop} {ad : Nat → Nat} {ks : z_Ks} {N : Nat} {S : Nat → va_E} {Y : Nat → Option va_E} (q : Nat) (hT : z_T Y q) : z_Met l yX5_isFloor cX5_isFloor 1 (some .boolean) 0 0 0 0 D A N ad ks [.ref q] S Y (fun r S' Y' => S' = S ∧ Y = Y' ∧ ∃ z : Int, r = some (z_v z) ∧ (z = 0 ∨ z = 1)) := by
  refine z_start2 (by decide) (Nat.le_of_ble_eq_true rfl) ?_
  intro p e R s m args below meth c Q C hRf hRc hRs hRl hQ hrt hnm
  refine z_loc (L' := [(0, .ref q)]) [0] rfl ?_
  refine z_aloadn C 0 dX5_isFloor_0 rfl rfl ?_
  obtain ⟨cd1, sd1, nd1, yd1, ad1⟩ := id hT
  refine z_getY C yd1 rfl z_it5 1 (by decide) rfl fl_5_15 rfl dX5_isFloor_1 ?_
  refine z_iconst C dX5_isFloor_4 ?_
  refine z_icmp_lt (t := 12) C dX5_isFloor_5 (by decide) (by omega) (by omega) (fun c2 => ?_) (fun c2 => ?_)
  · skip
    refine z_iconst C dX5_isFloor_12 ?_
    rw [hQ]
    exact z_zret C hrt (by omega) dX5_isFloor_13 (⟨rfl, rfl, _, rfl, by omega⟩) (by omega) (by omega)
  · skip
    refine z_iconst C dX5_isFloor_8 ?_
    refine z_goto (t := 13) C dX5_isFloor_9 (by decide) ?_
    rw [hQ]
    exact z_zret C hrt (by omega) dX5_isFloor_13 (⟨rfl, rfl, _, rfl, by omega⟩) (by omega) (by omega)
set_option maxRecDepth 20000 in
theorem cm_X5_mostParts (l : Launch) {D : va_G} {A : Nat → Prop} {ad : Nat → Nat} {ks : z_Ks} {N : Nat} {S : Nat → va_E} {Y : Nat → Option va_E} (q : Nat) (hT : z_T Y q) : z_Met l yX5_mostParts cX5_mostParts 1 (some .int) 0 0 0 0 D A N ad ks [.ref q] S Y (fun r S' Y' => S' = S ∧ Y = Y' ∧ ∃ z : Int, r = some (z_v z) ∧ (-1 ≤ z ∧ z ≤ 64000)) := by
  refine z_start2 (by decide) (Nat.le_of_ble_eq_true rfl) ?_
  intro p e R s m args below meth c Q C hRf hRc hRs hRl hQ hrt hnm
  refine z_loc (L' := [(0, .ref q)]) [0] rfl ?_
  refine z_bipush C dX5_mostParts_0 (by decide) ?_
  refine z_aloadn C 0 dX5_mostParts_2 rfl rfl ?_
  obtain ⟨cd1, sd1, nd1, yd1, ad1⟩ := id hT
  refine z_getY C yd1 rfl z_it5 2 (by decide) rfl fl_5_18 rfl dX5_mostParts_3 ?_
  refine z_imul C dX5_mostParts_6 ?_
  refine z_aloadn C 0 dX5_mostParts_7 rfl rfl ?_
  refine z_getY C yd1 rfl z_it5 1 (by decide) rfl fl_5_15 rfl dX5_mostParts_8 ?_
  refine z_if_ne (t := 18) C dX5_mostParts_11 (by decide) (by omega) (fun c2 => ?_) (fun c2 => ?_)
  · skip
    refine z_iconst C dX5_mostParts_18 ?_
    refine z_isub C dX5_mostParts_19 ?_
    rw [hQ]
    exact z_iret C hrt dX5_mostParts_20 (⟨rfl, rfl, _, rfl, by omega⟩) (by omega) (by omega)
  · skip
    refine z_iconst C dX5_mostParts_14 ?_
    refine z_goto (t := 19) C dX5_mostParts_15 (by decide) ?_
    refine z_isub C dX5_mostParts_19 ?_
    rw [hQ]
    exact z_iret C hrt dX5_mostParts_20 (⟨rfl, rfl, _, rfl, by omega⟩) (by omega) (by omega)
set_option maxRecDepth 20000 in
theorem cm_X5_leastParts (l : Launch) {D : va_G} {A : Nat → Prop} {ad : Nat → Nat} {ks : z_Ks} {N : Nat} {S : Nat → va_E} {Y : Nat → Option va_E} (q : Nat) (hT : z_T Y q) : z_Met l yX5_leastParts cX5_leastParts 1 (some .int) 0 0 0 0 D A N ad ks [.ref q] S Y (fun r S' Y' => S' = S ∧ Y = Y' ∧ ∃ z : Int, r = some (z_v z) ∧ (0 ≤ z ∧ z ≤ 64001)) := by
  refine z_start2 (by decide) (Nat.le_of_ble_eq_true rfl) ?_
  intro p e R s m args below meth c Q C hRf hRc hRs hRl hQ hrt hnm
  refine z_loc (L' := [(0, .ref q)]) [0] rfl ?_
  refine z_bipush C dX5_leastParts_0 (by decide) ?_
  refine z_aloadn C 0 dX5_leastParts_2 rfl rfl ?_
  obtain ⟨cd1, sd1, nd1, yd1, ad1⟩ := id hT
  refine z_getY C yd1 rfl z_it5 2 (by decide) rfl fl_5_18 rfl dX5_leastParts_3 ?_
  refine z_imul C dX5_leastParts_6 ?_
  refine z_aloadn C 0 dX5_leastParts_7 rfl rfl ?_
  refine z_getY C yd1 rfl z_it5 1 (by decide) rfl fl_5_15 rfl dX5_leastParts_8 ?_
  refine z_iconst C dX5_leastParts_11 ?_
  refine z_icmp_ne (t := 19) C dX5_leastParts_12 (by decide) (by omega) (by omega) (fun c2 => ?_) (fun c2 => ?_)
  · skip
    refine z_iconst C dX5_leastParts_19 ?_
    refine z_iadd C dX5_leastParts_20 ?_
    rw [hQ]
    exact z_iret C hrt dX5_leastParts_21 (⟨rfl, rfl, _, rfl, by omega⟩) (by omega) (by omega)
  · skip
    refine z_iconst C dX5_leastParts_15 ?_
    refine z_goto (t := 20) C dX5_leastParts_16 (by decide) ?_
    refine z_iadd C dX5_leastParts_20 ?_
    rw [hQ]
    exact z_iret C hrt dX5_leastParts_21 (⟨rfl, rfl, _, rfl, by omega⟩) (by omega) (by omega)