/-- a test, a list of tests, an edge, a move, in the cells Y -/
def z_T (Y : Nat → Option va_E) (q : Nat) : Prop := ∃ c s n : Int, Y q = some (z_ob 5 [z_v c, z_v s, z_v n]) ∧ 1 ≤ c ∧ c ≤ 3 ∧ 0 ≤ s ∧ s ≤ 4 ∧ 0 ≤ n ∧ n ≤ 1000
def z_TL (ks : z_Ks) (Y : Nat → Option va_E) (q : Nat) : Prop := ∃ (t : Nat) (n : Int) (g : Nat → Option Nat), Y q = some (z_ob 6 [.ref t, z_v n]) ∧ Y t = some (z_rr ks.2.2.2.2 2 g) ∧ (0 ≤ n ∧ n ≤ 2) ∧ ∀ j : Nat, (j : Int) < n → ∃ b, g j = some b ∧ z_T Y b
def z_E (ks : z_Ks) (Y : Nat → Option va_E) (q : Nat) : Prop := ∃ (m f t k r : Int) (g : Nat), Y q = some (z_ob 0 [z_v m, z_v f, z_v t, z_v k, z_v r, .ref g]) ∧ (0 ≤ m ∧ m ≤ 2 ∧ 0 ≤ f ∧ f ≤ 5 ∧ 0 ≤ t ∧ t ≤ 5 ∧ -4 ≤ k ∧ k ≤ 4 ∧ z_rg r) ∧ z_TL ks Y g
def z_Mv (ks : z_Ks) (Y : Nat → Option va_E) (q : Nat) : Prop := ∃ (f s : Int) (a : Nat) (b : Option Nat) (r : Int), Y q = some (z_ob 1 [z_v f, z_v s, .ref a, va_rf b, z_v r]) ∧ (z_rg f ∧ z_rg s ∧ z_rg r) ∧ z_E ks Y a ∧ ∀ x, b = some x → z_E ks Y x
section ZAA
variable {p : Program} {l : Launch} {e : Env} {R : Room} {s : State} {m : MethodId} {args : Array Value} {below : List Frame} {meth : Method} {c : Code} {Q : State → Prop} {D : va_G} {A : Nat → Prop} {N : Nat} {ad : Nat → Nat} {nL : Nat} {S : Nat → va_E} {Y : Nat → Option va_E} {cells slots pc : Nat} {L : List (Nat × Value)} {st : List Value} {cc : ByteArray} {own : String} {ks : z_Ks}
theorem z_aaldS (C : z_C p s m args meth c cc nL own D A ks) {cA : ClassId} {n q : Nat} {g : Nat → Option Nat} {i : Int} {E : String} (k t0 : Nat) (hk : k < N) (he : S k = z_rr cA n g) (ht : (z_tys ks)[t0]? = some (cA, .object E)) (hn : n < 2147483648) (h0 : 0 ≤ i) (h1 : i < n) (hq : g i.toNat = some q) (hd : decode cc pc = .ok (.aaload, 1))
    (kk : z_V p l e R s m args below meth c Q D A N ad nL S Y cells slots (pc + 1) L (.ref q :: st)) : z_V p l e R s m args below meth c Q D A N ad nL S Y cells slots pc L (z_v i :: .ref (ad k) :: st) :=
  z_aald C k t0 hk he ht hn h0 h1 hd (by rw [hq]; exact kk)
theorem z_aaldT (C : z_C p s m args meth c cc nL own D A ks) {cA : ClassId} {n q b : Nat} {g : Nat → Option Nat} {i : Int} {E : String} (t0 : Nat) (he : Y q = some (z_rr cA n g)) (ht : (z_tys ks)[t0]? = some (cA, .object E)) (hn : n < 2147483648) (h0 : 0 ≤ i) (h1 : i < n) (hq : g i.toNat = some b) (hd : decode cc pc = .ok (.aaload, 1))
    (kk : z_V p l e R s m args below meth c Q D A N ad nL S Y cells slots (pc + 1) L (.ref b :: st)) : z_V p l e R s m args below meth c Q D A N ad nL S Y cells slots pc L (z_v i :: .ref q :: st) :=
  z_aaldY C t0 he ht hn h0 h1 hd (by rw [hq]; exact kk)
end ZAA
set_option maxRecDepth 20000 in
theorem cm_X5_isCeiling (l : Launch) {D : va_G} {A : Nat → Prop} {ad : Nat → Nat} {ks : z_Ks} {N : Nat} {S : Nat → va_E} {Y : Nat → Option va_E} (q : Nat) (hT : z_T Y q) : z_Met l yX5_isCeiling cX5_isCeiling 1 (some .boolean) 0 0 0 0 D A N ad ks [.ref q] S Y (fun r S' Y' => S' = S ∧ Y = Y' ∧ ∃ z : Int, r = some (z_v z) ∧ (z = 0 ∨ z = 1)) := by
  refine z_start2 (by decide) (Nat.le_of_ble_eq_true rfl) ?_
  intro p e R s m args below meth c Q C hRf hRc hRs hRl hQ hrt hnm
  refine z_loc (L' := [(0, .ref q)]) [0] rfl ?_
  refine z_aloadn C 0 dX5_isCeiling_0 rfl rfl ?_
  obtain ⟨cd1, sd1, nd1, yd1, ad1⟩ := id hT
  refine z_getY C yd1 rfl z_it5 1 (by decide) rfl fl_5_15 rfl dX5_isCeiling_1 ?_
  refine z_iconst C dX5_isCeiling_4 ?_
  refine z_icmp_gt (t := 12) C dX5_isCeiling_5 (by decide) (by omega) (by omega) (fun c2 => ?_) (fun c2 => ?_)
  · skip
    refine z_iconst C dX5_isCeiling_12 ?_
    rw [hQ]
    exact z_zret C hrt (by omega) dX5_isCeiling_13 (⟨rfl, rfl, _, rfl, by omega⟩) (by omega) (by omega)
  · skip
    refine z_iconst C dX5_isCeiling_8 ?_
    refine z_goto (t := 13) C dX5_isCeiling_9 (by decide) ?_
    rw [hQ]
    exact z_zret C hrt (by omega) dX5_isCeiling_13 (⟨rfl, rfl, _, rfl, by omega⟩) (by omega) (by omega)
set_option maxRecDepth 20000 in
theorem cm_X5_isFloor (l : Launch) {D : va_G} {A : Nat → Prop} {ad : Nat → Nat} {ks : z_Ks} {N : Nat} {S : Nat → va_E} {Y : Nat → Option va_E} (q : Nat) (hT : z_T Y q) : z_Met l yX5_isFloor cX5_isFloor 1 (some .boolean) 0 0 0 0 D A N ad ks [.ref q] S Y (fun r S' Y' => S' = S ∧ Y = Y' ∧ ∃ z : Int, r = some (z_v z) ∧ (z = 0 ∨ z = 1)) := by
  refine z_start2 (by decide) (Nat.le_of_ble_eq_true rfl) ?_
  intro p e R s m args below meth c Q C hRf hRc hRs hRl hQ hrt hnm
  refine z_loc (L' := [(0, .ref q)]) [0] rfl ?_
  refine z_aloadn C 0 dX5_isFloor_0 rfl rfl ?_
  obtain ⟨cd1, sd1, nd1, yd1, ad1⟩ := id hT
  refine z_getY C yd1 rfl z_it5 1 (by decide) rfl fl_5_15 rfl dX5_isFloor_1 ?_
  refine z_iconst C dX5_isFloor_4 ?_
  refine z_icmp_lt (t := 12) C dX5_isFloor_5 (by decide) (by omega) (by omega) (fun c2 => ?_) (fun c2 => ?_)
  · skip
    refine z_iconst C dX5_isFloor_12 ?_
    rw [hQ]
    exact z_zret C hrt (by omega) dX5_isFloor_13 (⟨rfl, rfl, _, rfl, by omega⟩) (by omega) (by omega)
  · skip
    refine z_iconst C dX5_isFloor_8 ?_
    refine z_goto (t := 13) C dX5_isFloor_9 (by decide) ?_
    rw [hQ]
    exact z_zret C hrt (by omega) dX5_isFloor_13 (⟨rfl, rfl, _, rfl, by omega⟩) (by omega) (by omega)
set_option maxRecDepth 20000 in
theorem cm_X5_ceiling (l : Launch) {D : va_G} {A : Nat → Prop} {ad : Nat → Nat} {ks : z_Ks} {N : Nat} {S : Nat → va_E} {Y : Nat → Option va_E} (q : Nat) (hT : z_T Y q) : z_Met l yX5_ceiling cX5_ceiling 1 (some .int) 0 0 0 0 D A N ad ks [.ref q] S Y (fun r S' Y' => S' = S ∧ Y = Y' ∧ ∃ z : Int, r = some (z_v z) ∧ (0 ≤ z ∧ z ≤ 2001)) := by
  refine z_start2 (by decide) (Nat.le_of_ble_eq_true rfl) ?_
  intro p e R s m args below meth c Q C hRf hRc hRs hRl hQ hrt hnm
  refine z_loc (L' := [(0, .ref q)]) [0] rfl ?_
  refine z_iconst C dX5_ceiling_0 ?_
  refine z_aloadn C 0 dX5_ceiling_1 rfl rfl ?_
  obtain ⟨cd1, sd1, nd1, yd1, ad1⟩ := id hT
  refine z_getY C yd1 rfl z_it5 2 (by decide) rfl fl_5_18 rfl dX5_ceiling_2 ?_
  refine z_imul C dX5_ceiling_5 ?_
  refine z_aloadn C 0 dX5_ceiling_6 rfl rfl ?_
  refine z_getY C yd1 rfl z_it5 1 (by decide) rfl fl_5_15 rfl dX5_ceiling_7 ?_
  refine z_if_ne (t := 17) C dX5_ceiling_10 (by decide) (by omega) (fun c2 => ?_) (fun c2 => ?_)
  · skip
    refine z_iconst C dX5_ceiling_17 ?_
    refine z_iadd C dX5_ceiling_18 ?_
    rw [hQ]
    exact z_iret C hrt dX5_ceiling_19 (⟨rfl, rfl, _, rfl, by omega⟩) (by omega) (by omega)
  · skip
    refine z_iconst C dX5_ceiling_13 ?_
    refine z_goto (t := 18) C dX5_ceiling_14 (by decide) ?_
    refine z_iadd C dX5_ceiling_18 ?_
    rw [hQ]
    exact z_iret C hrt dX5_ceiling_19 (⟨rfl, rfl, _, rfl, by omega⟩) (by omega) (by omega)
set_option maxRecDepth 20000 in
theorem cm_X5_floor (l : Launch) {D : va_G} {A : Nat → Prop} {ad : Nat → Nat} {ks : z_Ks} {N : Nat} {S : Nat → va_E} {Y : Nat → Option va_E} (q : Nat) (hT : z_T Y q) : z_Met l yX5_floor cX5_floor 1 (some .int) 0 0 0 0 D A N ad ks [.ref q] S Y (fun r S' Y' => S' = S ∧ Y = Y' ∧ ∃ z : Int, r = some (z_v z) ∧ (-2000 ≤ z ∧ z ≤ 1)) := by
  refine z_start2 (by decide) (Nat.le_of_ble_eq_true rfl) ?_
  intro p e R s m args below meth c Q C hRf hRc hRs hRl hQ hrt hnm
  refine z_loc (L' := [(0, .ref q)]) [0] rfl ?_
  refine z_bipush C dX5_floor_0 (by decide) ?_
  refine z_aloadn C 0 dX5_floor_2 rfl rfl ?_
  obtain ⟨cd1, sd1, nd1, yd1, ad1⟩ := id hT
  refine z_getY C yd1 rfl z_it5 2 (by decide) rfl fl_5_18 rfl dX5_floor_3 ?_
  refine z_imul C dX5_floor_6 ?_
  refine z_aloadn C 0 dX5_floor_7 rfl rfl ?_
  refine z_getY C yd1 rfl z_it5 1 (by decide) rfl fl_5_15 rfl dX5_floor_8 ?_
  refine z_iconst C dX5_floor_11 ?_
  refine z_icmp_ne (t := 19) C dX5_floor_12 (by decide) (by omega) (by omega) (fun c2 => ?_) (fun c2 => ?_)
  · skip
    refine z_iconst C dX5_floor_19 ?_
    refine z_iadd C dX5_floor_20 ?_
    rw [hQ]
    exact z_iret C hrt dX5_floor_21 (⟨rfl, rfl, _, rfl, by omega⟩) (by omega) (by omega)
  · skip
    refine z_iconst C dX5_floor_15 ?_
    refine z_goto (t := 20) C dX5_floor_16 (by decide) ?_
    refine z_iadd C dX5_floor_20 ?_
    rw [hQ]
    exact z_iret C hrt dX5_floor_21 (⟨rfl, rfl, _, rfl, by omega⟩) (by omega) (by omega)
set_option maxRecDepth 20000 in
theorem cm_X5_mostParts (l : Launch) {D : va_G} {A : Nat → Prop} {ad : Nat → Nat} {ks : z_Ks} {N : Nat} {S : Nat → va_E} {Y : Nat → Option va_E} (q : Nat) (hT : z_T Y q) : z_Met l yX5_mostParts cX5_mostParts 1 (some .int) 0 0 0 0 D A N ad ks [.ref q] S Y (fun r S' Y' => S' = S ∧ Y = Y' ∧ ∃ z : Int, r = some (z_v z) ∧ (-1 ≤ z ∧ z ≤ 64000)) := by
  refine z_start2 (by decide) (Nat.le_of_ble_eq_true rfl) ?_
  intro p e R s m args below meth c Q C hRf hRc hRs hRl hQ hrt hnm
  refine z_loc (L' := [(0, .ref q)]) [0] rfl ?_
  refine z_bipush C dX5_mostParts_0 (by decide) ?_
  refine z_aloadn C 0 dX5_mostParts_2 rfl rfl ?_
  obtain ⟨cd1, sd1, nd1, yd1, ad1⟩ := id hT
  refine z_getY C yd1 rfl z_it5 2 (by decide) rfl fl_5_18 rfl dX5_mostParts_3 ?_
  refine z_imul C dX5_mostParts_6 ?_
  refine z_aloadn C 0 dX5_mostParts_7 rfl rfl ?_
  refine z_getY C yd1 rfl z_it5 1 (by decide) rfl fl_5_15 rfl dX5_mostParts_8 ?_
  refine z_if_ne (t := 18) C dX5_mostParts_11 (by decide) (by omega) (fun c2 => ?_) (fun c2 => ?_)
  · skip
    refine z_iconst C dX5_mostParts_18 ?_
    refine z_isub C dX5_mostParts_19 ?_
    rw [hQ]
    exact z_iret C hrt dX5_mostParts_20 (⟨rfl, rfl, _, rfl, by omega⟩) (by omega) (by omega)
  · skip
    refine z_iconst C dX5_mostParts_14 ?_
    refine z_goto (t := 19) C dX5_mostParts_15 (by decide) ?_
    refine z_isub C dX5_mostParts_19 ?_
    rw [hQ]
    exact z_iret C hrt dX5_mostParts_20 (⟨rfl, rfl, _, rfl, by omega⟩) (by omega) (by omega)
set_option maxRecDepth 20000 in
theorem cm_X5_leastParts (l : Launch) {D : va_G} {A : Nat → Prop} {ad : Nat → Nat} {ks : z_Ks} {N : Nat} {S : Nat → va_E} {Y : Nat → Option va_E} (q : Nat) (hT : z_T Y q) : z_Met l yX5_leastParts cX5_leastParts 1 (some .int) 0 0 0 0 D A N ad ks [.ref q] S Y (fun r S' Y' => S' = S ∧ Y = Y' ∧ ∃ z : Int, r = some (z_v z) ∧ (0 ≤ z ∧ z ≤ 64001)) := by
  refine z_start2 (by decide) (Nat.le_of_ble_eq_true rfl) ?_
  intro p e R s m args below meth c Q C hRf hRc hRs hRl hQ hrt hnm
  refine z_loc (L' := [(0, .ref q)]) [0] rfl ?_
  refine z_bipush C dX5_leastParts_0 (by decide) ?_
  refine z_aloadn C 0 dX5_leastParts_2 rfl rfl ?_
  obtain ⟨cd1, sd1, nd1, yd1, ad1⟩ := id hT
  refine z_getY C yd1 rfl z_it5 2 (by decide) rfl fl_5_18 rfl dX5_leastParts_3 ?_
  refine z_imul C dX5_leastParts_6 ?_
  refine z_aloadn C 0 dX5_leastParts_7 rfl rfl ?_
  refine z_getY C yd1 rfl z_it5 1 (by decide) rfl fl_5_15 rfl dX5_leastParts_8 ?_
  refine z_iconst C dX5_leastParts_11 ?_
  refine z_icmp_ne (t := 19) C dX5_leastParts_12 (by decide) (by omega) (by omega) (fun c2 => ?_) (fun c2 => ?_)
  · skip
    refine z_iconst C dX5_leastParts_19 ?_
    refine z_iadd C dX5_leastParts_20 ?_
    rw [hQ]
    exact z_iret C hrt dX5_leastParts_21 (⟨rfl, rfl, _, rfl, by omega⟩) (by omega) (by omega)
  · skip
    refine z_iconst C dX5_leastParts_15 ?_
    refine z_goto (t := 20) C dX5_leastParts_16 (by decide) ?_
    refine z_iadd C dX5_leastParts_20 ?_
    rw [hQ]
    exact z_iret C hrt dX5_leastParts_21 (⟨rfl, rfl, _, rfl, by omega⟩) (by omega) (by omega)
set_option maxRecDepth 20000 in
theorem cm_X5_allows (l : Launch) {D : va_G} {A : Nat → Prop} {ad : Nat → Nat} {ks : z_Ks} {N : Nat} {S : Nat → va_E} {Y : Nat → Option va_E} (a : Int) (q : Nat) (hT : z_T Y q) (ha : z_rg a) : z_Met l yX5_allows cX5_allows 2 (some .boolean) 1 20 0 0 D A N ad ks [.ref q, z_v a] S Y (fun r S' Y' => S' = S ∧ Y = Y' ∧ ∃ z : Int, r = some (z_v z) ∧ (z = 0 ∨ z = 1)) := by
  refine z_start2 (by decide) (Nat.le_of_ble_eq_true rfl) ?_
  intro p e R s m args below meth c Q C hRf hRc hRs hRl hQ hrt hnm
  refine z_loc (L' := [(0, .ref q), (1, z_v a)]) [0, 1] rfl ?_
  refine z_aloadn C 0 dX5_allows_0 rfl rfl ?_
  obtain ⟨cd1, sd1, nd1, yd1, ad1⟩ := id hT
  refine z_callV C (cm_X5_isCeiling l q hT) mv_5_21 (z_atY 5 yd1 rfl rfl) pd_X5_isCeiling ⟨by omega, by omega⟩ ⟨by omega, by omega⟩ rfl (Nat.le_of_ble_eq_true rfl) dX5_allows_1 ?_
  rintro _ _ _ ⟨rfl, rfl, z4, rfl, hz4⟩
  refine z_if_eq (t := 15) C dX5_allows_4 (by decide) (by omega) (fun c5 => ?_) (fun c5 => ?_)
  · skip
    refine z_aloadn C 0 dX5_allows_15 rfl rfl ?_
    refine z_callV C (cm_X5_isFloor l q hT) mv_5_29 (z_atY 5 yd1 rfl rfl) pd_X5_isFloor ⟨by omega, by omega⟩ ⟨by omega, by omega⟩ rfl (Nat.le_of_ble_eq_true rfl) dX5_allows_16 ?_
    rintro _ _ _ ⟨rfl, rfl, z8, rfl, hz8⟩
    refine z_if_eq (t := 30) C dX5_allows_19 (by decide) (by omega) (fun c9 => ?_) (fun c9 => ?_)
    · skip
      refine z_iconst C dX5_allows_30 ?_
      refine z_goto (t := 35) C dX5_allows_31 (by decide) ?_
      rw [hQ]
      exact z_zret C hrt (by omega) dX5_allows_35 (⟨rfl, rfl, _, rfl, by omega⟩) (by omega) (by omega)
    · skip
      refine z_iloadn C 1 dX5_allows_22 rfl rfl ?_
      refine z_aloadn C 0 dX5_allows_23 rfl rfl ?_
      refine z_callV C (cm_X5_leastParts l q hT) mv_5_32 (z_atY 5 yd1 rfl rfl) pd_X5_leastParts ⟨by omega, by omega⟩ ⟨by omega, by omega⟩ rfl (Nat.le_of_ble_eq_true rfl) dX5_allows_24 ?_
      rintro _ _ _ ⟨rfl, rfl, z12, rfl, hz12⟩
      refine z_icmp_lt (t := 34) C dX5_allows_27 (by decide) (by omega) (by omega) (fun c13 => ?_) (fun c13 => ?_)
      · skip
        refine z_iconst C dX5_allows_34 ?_
        rw [hQ]
        exact z_zret C hrt (by omega) dX5_allows_35 (⟨rfl, rfl, _, rfl, by omega⟩) (by omega) (by omega)
      · skip
        refine z_iconst C dX5_allows_30 ?_
        refine z_goto (t := 35) C dX5_allows_31 (by decide) ?_
        rw [hQ]
        exact z_zret C hrt (by omega) dX5_allows_35 (⟨rfl, rfl, _, rfl, by omega⟩) (by omega) (by omega)
  · skip
    refine z_iloadn C 1 dX5_allows_7 rfl rfl ?_
    refine z_aloadn C 0 dX5_allows_8 rfl rfl ?_
    refine z_callV C (cm_X5_mostParts l q hT) mv_5_25 (z_atY 5 yd1 rfl rfl) pd_X5_mostParts ⟨by omega, by omega⟩ ⟨by omega, by omega⟩ rfl (Nat.le_of_ble_eq_true rfl) dX5_allows_9 ?_
    rintro _ _ _ ⟨rfl, rfl, z16, rfl, hz16⟩
    refine z_icmp_gt (t := 34) C dX5_allows_12 (by decide) (by omega) (by omega) (fun c17 => ?_) (fun c17 => ?_)
    · skip
      refine z_iconst C dX5_allows_34 ?_
      rw [hQ]
      exact z_zret C hrt (by omega) dX5_allows_35 (⟨rfl, rfl, _, rfl, by omega⟩) (by omega) (by omega)
    · skip
      refine z_aloadn C 0 dX5_allows_15 rfl rfl ?_
      refine z_callV C (cm_X5_isFloor l q hT) mv_5_29 (z_atY 5 yd1 rfl rfl) pd_X5_isFloor ⟨by omega, by omega⟩ ⟨by omega, by omega⟩ rfl (Nat.le_of_ble_eq_true rfl) dX5_allows_16 ?_
      rintro _ _ _ ⟨rfl, rfl, z20, rfl, hz20⟩
      refine z_if_eq (t := 30) C dX5_allows_19 (by decide) (by omega) (fun c21 => ?_) (fun c21 => ?_)
      · skip
        refine z_iconst C dX5_allows_30 ?_
        refine z_goto (t := 35) C dX5_allows_31 (by decide) ?_
        rw [hQ]
        exact z_zret C hrt (by omega) dX5_allows_35 (⟨rfl, rfl, _, rfl, by omega⟩) (by omega) (by omega)
      · skip
        refine z_iloadn C 1 dX5_allows_22 rfl rfl ?_
        refine z_aloadn C 0 dX5_allows_23 rfl rfl ?_
        refine z_callV C (cm_X5_leastParts l q hT) mv_5_32 (z_atY 5 yd1 rfl rfl) pd_X5_leastParts ⟨by omega, by omega⟩ ⟨by omega, by omega⟩ rfl (Nat.le_of_ble_eq_true rfl) dX5_allows_24 ?_
        rintro _ _ _ ⟨rfl, rfl, z24, rfl, hz24⟩
        refine z_icmp_lt (t := 34) C dX5_allows_27 (by decide) (by omega) (by omega) (fun c25 => ?_) (fun c25 => ?_)
        · skip
          refine z_iconst C dX5_allows_34 ?_
          rw [hQ]
          exact z_zret C hrt (by omega) dX5_allows_35 (⟨rfl, rfl, _, rfl, by omega⟩) (by omega) (by omega)
        · skip
          refine z_iconst C dX5_allows_30 ?_
          refine z_goto (t := 35) C dX5_allows_31 (by decide) ?_
          rw [hQ]
          exact z_zret C hrt (by omega) dX5_allows_35 (⟨rfl, rfl, _, rfl, by omega⟩) (by omega) (by omega)
set_option maxRecDepth 20000 in
theorem cm_X9_sum (l : Launch) {D : va_G} {A : Nat → Prop} {ad : Nat → Nat} {ks : z_Ks} {N : Nat} {S : Nat → va_E} {Y : Nat → Option va_E} (a b : Int) (ha : z_rg a) (hb : z_rg b) : z_Met l yX9_sum cX9_sum 2 (some .int) 0 0 0 0 D A N ad ks [z_v a, z_v b] S Y (fun r S' Y' => S' = S ∧ Y = Y' ∧ ∃ z : Int, r = some (z_v z) ∧ (z_rg z)) := by
  refine z_start2 (by decide) (Nat.le_of_ble_eq_true rfl) ?_
  intro p e R s m args below meth c Q C hRf hRc hRs hRl hQ hrt hnm
  refine z_loc (L' := [(0, z_v a), (1, z_v b)]) [0, 1] rfl ?_
  refine z_iloadn C 0 dX9_sum_0 rfl rfl ?_
  refine z_ldc (n := 100000) C kc_9_15 (by decide) dX9_sum_1 ?_
  refine z_icmp_eq (t := 12) C dX9_sum_3 (by decide) (by omega) (by omega) (fun c1 => ?_) (fun c1 => ?_)
  · skip
    refine z_ldc (n := 100000) C kc_9_15 (by decide) dX9_sum_12 ?_
    rw [hQ]
    exact z_iret C hrt dX9_sum_14 (⟨rfl, rfl, _, rfl, by omega⟩) (by omega) (by omega)
  · skip
    refine z_iloadn C 1 dX9_sum_6 rfl rfl ?_
    refine z_ldc (n := 100000) C kc_9_15 (by decide) dX9_sum_7 ?_
    refine z_icmp_ne (t := 15) C dX9_sum_9 (by decide) (by omega) (by omega) (fun c2 => ?_) (fun c2 => ?_)
    · skip
      refine z_iloadn C 0 dX9_sum_15 rfl rfl ?_
      refine z_iloadn C 1 dX9_sum_16 rfl rfl ?_
      refine z_iadd C dX9_sum_17 ?_
      refine z_iloadn C 0 dX9_sum_18 rfl rfl ?_
      refine z_iloadn C 1 dX9_sum_19 rfl rfl ?_
      obtain ⟨b3, hb3, rb3⟩ := z_bits (z_i a ||| z_i b)
      refine z_ior C hb3 dX9_sum_20 ?_
      have qb3 := z_bitsE hb3 rb3
      refine z_iconst C dX9_sum_21 ?_
      obtain ⟨b4, hb4, rb4⟩ := z_bits (z_i b3 &&& z_i 1)
      refine z_iand C hb4 dX9_sum_22 ?_
      have qb4 := z_bitsE hb4 rb4
      refine z_isub C dX9_sum_23 ?_
      refine z_nrm (fun n5 rn5 en5 => ?_)
      rw [hQ]
      exact z_iret C hrt dX9_sum_24 (⟨rfl, rfl, _, rfl, by omega⟩) (by omega) (by omega)
    · skip
      refine z_ldc (n := 100000) C kc_9_15 (by decide) dX9_sum_12 ?_
      rw [hQ]
      exact z_iret C hrt dX9_sum_14 (⟨rfl, rfl, _, rfl, by omega⟩) (by omega) (by omega)
set_option maxRecDepth 20000 in
theorem cm_X9_narrow (l : Launch) {D : va_G} {A : Nat → Prop} {ad : Nat → Nat} {ks : z_Ks} {s_edgeCount s_moveCount s_isNeeded s_timesDone s_size s_isGoing s_allTime s_stepCount s_gapCount : Int} {g_edges g_moves g_limits : Nat → Option Nat} {a_sfacts a_sbounds a_facts a_zone a_most a_places a_amounts a_nextPlaces a_nextAmounts a_earliest a_visited a_lastSet a_gapFrom a_gapTo a_gapLeast a_askedPlaces a_askedAmounts : Nat → Int} {Y : Nat → Option va_E} (x y b : Int) (Ha_zone : (∀ j, z_rg (a_zone j))) (hx : 0 ≤ x ∧ x ≤ 3) (hy : 0 ≤ y ∧ y ≤ 3) (hb : z_rg b) : z_Met l yX9_narrow cX9_narrow 8 (some .boolean) 1 21 0 0 D A 27 ad ks [.ref (ad 10), z_v x, z_v y, z_v b] (z_zc ad ks s_edgeCount s_moveCount s_isNeeded s_timesDone s_size s_isGoing s_allTime s_stepCount s_gapCount g_edges g_moves g_limits a_sfacts a_sbounds a_facts a_zone a_most a_places a_amounts a_nextPlaces a_nextAmounts a_earliest a_visited a_lastSet a_gapFrom a_gapTo a_gapLeast a_askedPlaces a_askedAmounts) Y (fun r S' Y' => ∃ na_zone : Nat → Int, S' = (z_zc ad ks s_edgeCount s_moveCount s_isNeeded s_timesDone s_size s_isGoing s_allTime s_stepCount s_gapCount g_edges g_moves g_limits a_sfacts a_sbounds a_facts na_zone a_most a_places a_amounts a_nextPlaces a_nextAmounts a_earliest a_visited a_lastSet a_gapFrom a_gapTo a_gapLeast a_askedPlaces a_askedAmounts) ∧ Y = Y' ∧ (∀ j, z_rg (na_zone j)) ∧ ∃ z : Int, r = some (z_v z) ∧ (z = 0 ∨ z = 1)) := by
  refine z_start2 (by decide) (Nat.le_of_ble_eq_true rfl) ?_
  intro p e R s m args below meth c Q C hRf hRc hRs hRl hQ hrt hnm
  refine z_loc (L' := [(0, .ref (ad 10)), (1, z_v x), (2, z_v y), (3, z_v b)]) [0, 1, 2, 3] rfl ?_
  refine z_iloadn C 3 dX9_narrow_0 rfl rfl ?_
  refine z_aloadn C 0 dX9_narrow_1 rfl rfl ?_
  refine z_get C 10 (by decide) rfl rfl z_it9 0 (by decide) rfl fl_9_9 rfl dX9_narrow_2 ?_
  refine z_iconst C dX9_narrow_5 ?_
  refine z_iloadn C 1 dX9_narrow_6 rfl rfl ?_
  refine z_imul C dX9_narrow_7 ?_
  refine z_iloadn C 2 dX9_narrow_8 rfl rfl ?_
  refine z_iadd C dX9_narrow_9 ?_
  refine z_iald C 11 (by decide) rfl (by decide) (by omega) (by omega) dX9_narrow_10 ?_
  have rx1 := Ha_zone (((4 * x) + y) : Int).toNat
  generalize ex1 : a_zone (((4 * x) + y) : Int).toNat = x1 at rx1 ⊢
  refine z_icmp_lt (t := 16) C dX9_narrow_11 (by decide) (by omega) (by omega) (fun c2 => ?_) (fun c2 => ?_)
  · skip
    refine z_iloadn C 3 dX9_narrow_16 rfl rfl ?_
    refine z_aloadn C 0 dX9_narrow_17 rfl rfl ?_
    refine z_get C 10 (by decide) rfl rfl z_it9 0 (by decide) rfl fl_9_9 rfl dX9_narrow_18 ?_
    refine z_iconst C dX9_narrow_21 ?_
    refine z_iloadn C 2 dX9_narrow_22 rfl rfl ?_
    refine z_imul C dX9_narrow_23 ?_
    refine z_iloadn C 1 dX9_narrow_24 rfl rfl ?_
    refine z_iadd C dX9_narrow_25 ?_
    refine z_iald C 11 (by decide) rfl (by decide) (by omega) (by omega) dX9_narrow_26 ?_
    have rx3 := Ha_zone (((4 * y) + x) : Int).toNat
    generalize ex3 : a_zone (((4 * y) + x) : Int).toNat = x3 at rx3 ⊢
    refine z_callS C (cm_X9_sum l b x3 (by omega) (by omega)) mv_9_22 pd_X9_sum ⟨by omega, by omega⟩ ⟨by omega, by omega⟩ rfl (Nat.le_of_ble_eq_true rfl) dX9_narrow_27 ?_
    rintro _ _ _ ⟨rfl, rfl, z6, rfl, hz6⟩
    refine z_iconst C dX9_narrow_30 ?_
    refine z_icmp_ge (t := 36) C dX9_narrow_31 (by decide) (by omega) (by omega) (fun c7 => ?_) (fun c7 => ?_)
    · skip
      refine z_iconst C dX9_narrow_36 ?_
      refine z_istore (L' := [(4, z_v 0), (0, .ref (ad 10)), (1, z_v x), (2, z_v y), (3, z_v b)]) C dX9_narrow_37 (by decide) rfl ?_
      have L39 : ∀ (n : Nat), ∀ (i4 : Int) (fa_zone : Nat → Int), ((∀ j, z_rg (fa_zone j))) → (0 ≤ i4 ∧ i4 ≤ 4) → ((4 : Int) - i4).toNat < n → z_V p l e R s m args below meth c Q D A 27 ad 8 (z_zc ad ks s_edgeCount s_moveCount s_isNeeded s_timesDone s_size s_isGoing s_allTime s_stepCount s_gapCount g_edges g_moves g_limits a_sfacts a_sbounds a_facts fa_zone a_most a_places a_amounts a_nextPlaces a_nextAmounts a_earliest a_visited a_lastSet a_gapFrom a_gapTo a_gapLeast a_askedPlaces a_askedAmounts) Y 0 0 39 [(0, .ref (ad 10)), (1, z_v x), (2, z_v y), (3, z_v b), (4, z_v i4)] [] := by
        intro n
        induction n with
        | zero => intro i4 fa_zone Hfa_zone I4 hm; exact absurd hm (Nat.not_lt_zero _)
        | succ n ih39 =>
          intro i4 fa_zone Hfa_zone I4 hm
          refine z_iload C 4 dX9_narrow_39 rfl ?_
          refine z_iconst C dX9_narrow_41 ?_
          refine z_icmp_ge (t := 142) C dX9_narrow_42 (by decide) (by omega) (by omega) (fun c8 => ?_) (fun c8 => ?_)
          · skip
            refine z_iconst C dX9_narrow_142 ?_
            rw [hQ]
            exact z_zret C hrt (by omega) dX9_narrow_143 (⟨fa_zone, rfl, rfl, Hfa_zone, _, rfl, by omega⟩) (by omega) (by omega)
          · skip
            refine z_aloadn C 0 dX9_narrow_45 rfl rfl ?_
            refine z_get C 10 (by decide) rfl rfl z_it9 0 (by decide) rfl fl_9_9 rfl dX9_narrow_46 ?_
            refine z_iconst C dX9_narrow_49 ?_
            refine z_iload C 4 dX9_narrow_50 rfl ?_
            refine z_imul C dX9_narrow_52 ?_
            refine z_iloadn C 1 dX9_narrow_53 rfl rfl ?_
            refine z_iadd C dX9_narrow_54 ?_
            refine z_iald C 11 (by decide) rfl (by decide) (by omega) (by omega) dX9_narrow_55 ?_
            have rx9 := Hfa_zone (((4 * i4) + x) : Int).toNat
            generalize ex9 : fa_zone (((4 * i4) + x) : Int).toNat = x9 at rx9 ⊢
            refine z_iloadn C 3 dX9_narrow_56 rfl rfl ?_
            refine z_callS C (cm_X9_sum l x9 b (by omega) (by omega)) mv_9_22 pd_X9_sum ⟨by omega, by omega⟩ ⟨by omega, by omega⟩ rfl (Nat.le_of_ble_eq_true rfl) dX9_narrow_57 ?_
            rintro _ _ _ ⟨rfl, rfl, z12, rfl, hz12⟩
            refine z_istore (L' := [(5, z_v z12), (0, .ref (ad 10)), (1, z_v x), (2, z_v y), (3, z_v b), (4, z_v i4)]) C dX9_narrow_60 (by decide) rfl ?_
            refine z_iload C 0 dX9_narrow_62 rfl ?_
            refine z_ldc (n := 100000) C kc_9_15 (by decide) dX9_narrow_64 ?_
            refine z_icmp_ne (t := 72) C dX9_narrow_66 (by decide) (by omega) (by omega) (fun c13 => ?_) (fun c13 => ?_)
            · skip
              refine z_iconst C dX9_narrow_72 ?_
              refine z_istore (L' := [(6, z_v 0), (5, z_v z12), (0, .ref (ad 10)), (1, z_v x), (2, z_v y), (3, z_v b), (4, z_v i4)]) C dX9_narrow_73 (by decide) rfl ?_
              have L75 : ∀ (n : Nat), ∀ (i6 : Int) (fa_zone : Nat → Int), ((∀ j, z_rg (fa_zone j))) → (0 ≤ i6 ∧ i6 ≤ 4) → ((4 : Int) - i6).toNat < n → z_V p l e R s m args below meth c Q D A 27 ad 8 (z_zc ad ks s_edgeCount s_moveCount s_isNeeded s_timesDone s_size s_isGoing s_allTime s_stepCount s_gapCount g_edges g_moves g_limits a_sfacts a_sbounds a_facts fa_zone a_most a_places a_amounts a_nextPlaces a_nextAmounts a_earliest a_visited a_lastSet a_gapFrom a_gapTo a_gapLeast a_askedPlaces a_askedAmounts) Y 0 0 75 [(0, .ref (ad 10)), (1, z_v x), (2, z_v y), (3, z_v b), (4, z_v i4), (5, z_v z12), (6, z_v i6)] [] := by
                intro n
                induction n with
                | zero => intro i6 fa_zone Hfa_zone I6 hm; exact absurd hm (Nat.not_lt_zero _)
                | succ n ih75 =>
                  intro i6 fa_zone Hfa_zone I6 hm
                  refine z_iload C 6 dX9_narrow_75 rfl ?_
                  refine z_iconst C dX9_narrow_77 ?_
                  refine z_icmp_ge (t := 136) C dX9_narrow_78 (by decide) (by omega) (by omega) (fun c14 => ?_) (fun c14 => ?_)
                  · skip
                    refine z_iinc (L' := [(4, z_v (i4 + 1)), (0, .ref (ad 10)), (1, z_v x), (2, z_v y), (3, z_v b), (5, z_v z12), (6, z_v i6)]) C 4 dX9_narrow_136 rfl (by decide) rfl ?_
                    refine z_goto (t := 39) C dX9_narrow_139 (by decide) ?_
                    refine z_loc (L' := [(0, .ref (ad 10)), (1, z_v x), (2, z_v y), (3, z_v b), (4, z_v (i4 + 1))]) [1, 2, 3, 4, 0] rfl ?_
                    exact ih39 (i4 + 1) fa_zone Hfa_zone (by omega) (by omega)
                  · skip
                    refine z_iload C 5 dX9_narrow_81 rfl ?_
                    refine z_aloadn C 0 dX9_narrow_83 rfl rfl ?_
                    refine z_get C 10 (by decide) rfl rfl z_it9 0 (by decide) rfl fl_9_9 rfl dX9_narrow_84 ?_
                    refine z_iconst C dX9_narrow_87 ?_
                    refine z_iloadn C 2 dX9_narrow_88 rfl rfl ?_
                    refine z_imul C dX9_narrow_89 ?_
                    refine z_iload C 6 dX9_narrow_90 rfl ?_
                    refine z_iadd C dX9_narrow_92 ?_
                    refine z_iald C 11 (by decide) rfl (by decide) (by omega) (by omega) dX9_narrow_93 ?_
                    have rx15 := Hfa_zone (((4 * y) + i6) : Int).toNat
                    generalize ex15 : fa_zone (((4 * y) + i6) : Int).toNat = x15 at rx15 ⊢
                    refine z_callS C (cm_X9_sum l z12 x15 (by omega) (by omega)) mv_9_22 pd_X9_sum ⟨by omega, by omega⟩ ⟨by omega, by omega⟩ rfl (Nat.le_of_ble_eq_true rfl) dX9_narrow_94 ?_
                    rintro _ _ _ ⟨rfl, rfl, z18, rfl, hz18⟩
                    refine z_istore (L' := [(7, z_v z18), (0, .ref (ad 10)), (1, z_v x), (2, z_v y), (3, z_v b), (4, z_v i4), (5, z_v z12), (6, z_v i6)]) C dX9_narrow_97 (by decide) rfl ?_
                    refine z_iload C 0 dX9_narrow_99 rfl ?_
                    refine z_aloadn C 1 dX9_narrow_101 rfl rfl ?_
                    refine z_get C 10 (by decide) rfl rfl z_it9 0 (by decide) rfl fl_9_9 rfl dX9_narrow_102 ?_
                    refine z_iconst C dX9_narrow_105 ?_
                    refine z_iload C 5 dX9_narrow_106 rfl ?_
                    refine z_imul C dX9_narrow_108 ?_
                    refine z_iload C 7 dX9_narrow_109 rfl ?_
                    refine z_iadd C dX9_narrow_111 ?_
                    refine z_iald C 11 (by decide) rfl (by decide) (by omega) (by omega) dX9_narrow_112 ?_
                    have rx19 := Hfa_zone (((4 * i4) + i6) : Int).toNat
                    generalize ex19 : fa_zone (((4 * i4) + i6) : Int).toNat = x19 at rx19 ⊢
                    refine z_icmp_ge (t := 130) C dX9_narrow_113 (by decide) (by omega) (by omega) (fun c20 => ?_) (fun c20 => ?_)
                    · skip
                      refine z_iinc (L' := [(6, z_v (i6 + 1)), (7, z_v z18), (0, .ref (ad 10)), (1, z_v x), (2, z_v y), (3, z_v b), (4, z_v i4), (5, z_v z12)]) C 7 dX9_narrow_130 rfl (by decide) rfl ?_
                      refine z_goto (t := 75) C dX9_narrow_133 (by decide) ?_
                      refine z_loc (L' := [(0, .ref (ad 10)), (1, z_v x), (2, z_v y), (3, z_v b), (4, z_v i4), (5, z_v z12), (6, z_v (i6 + 1))]) [2, 3, 4, 5, 6, 7, 0] rfl ?_
                      exact ih75 (i6 + 1) fa_zone Hfa_zone (by omega) (by omega)
                    · skip
                      refine z_aloadn C 1 dX9_narrow_116 rfl rfl ?_
                      refine z_get C 10 (by decide) rfl rfl z_it9 0 (by decide) rfl fl_9_9 rfl dX9_narrow_117 ?_
                      refine z_iconst C dX9_narrow_120 ?_
                      refine z_iload C 5 dX9_narrow_121 rfl ?_
                      refine z_imul C dX9_narrow_123 ?_
                      refine z_iload C 7 dX9_narrow_124 rfl ?_
                      refine z_iadd C dX9_narrow_126 ?_
                      refine z_iload C 0 dX9_narrow_127 rfl ?_
                      refine z_iast C 11 (by decide) rfl (by decide) (by omega) (by omega) dX9_narrow_129 ?_
                      refine z_ext (S' := (z_zc ad ks s_edgeCount s_moveCount s_isNeeded s_timesDone s_size s_isGoing s_allTime s_stepCount s_gapCount g_edges g_moves g_limits a_sfacts a_sbounds a_facts (va_up fa_zone (((4 * i4) + i6) : Int).toNat z18) a_most a_places a_amounts a_nextPlaces a_nextAmounts a_earliest a_visited a_lastSet a_gapFrom a_gapTo a_gapLeast a_askedPlaces a_askedAmounts)) upC_a_zone ?_
                      have h21 : ∀ j, z_rg ((va_up fa_zone (((4 * i4) + i6) : Int).toNat z18) j) := z_upP (P := fun j v => z_rg (v)) Hfa_zone (by omega)
                      generalize (va_up fa_zone (((4 * i4) + i6) : Int).toNat z18) = f22 at h21 ⊢
                      refine z_iinc (L' := [(6, z_v (i6 + 1)), (7, z_v z18), (0, .ref (ad 10)), (1, z_v x), (2, z_v y), (3, z_v b), (4, z_v i4), (5, z_v z12)]) C 7 dX9_narrow_130 rfl (by decide) rfl ?_
                      refine z_goto (t := 75) C dX9_narrow_133 (by decide) ?_
                      refine z_loc (L' := [(0, .ref (ad 10)), (1, z_v x), (2, z_v y), (3, z_v b), (4, z_v i4), (5, z_v z12), (6, z_v (i6 + 1))]) [2, 3, 4, 5, 6, 7, 0] rfl ?_
                      exact ih75 (i6 + 1) f22 h21 (by omega) (by omega)
              refine z_loc (L' := [(0, .ref (ad 10)), (1, z_v x), (2, z_v y), (3, z_v b), (4, z_v i4), (5, z_v z12), (6, z_v 0)]) [2, 3, 4, 5, 6, 1, 0] rfl ?_
              exact (L75 (((4 : Int) - 0).toNat + 1)) 0 fa_zone Hfa_zone (by omega) (Nat.lt_succ_self _)
            · skip
              refine z_goto (t := 136) C dX9_narrow_69 (by decide) ?_
              refine z_iinc (L' := [(4, z_v (i4 + 1)), (5, z_v z12), (0, .ref (ad 10)), (1, z_v x), (2, z_v y), (3, z_v b)]) C 5 dX9_narrow_136 rfl (by decide) rfl ?_
              refine z_goto (t := 39) C dX9_narrow_139 (by decide) ?_
              refine z_loc (L' := [(0, .ref (ad 10)), (1, z_v x), (2, z_v y), (3, z_v b), (4, z_v (i4 + 1))]) [2, 3, 4, 5, 0] rfl ?_
              exact ih39 (i4 + 1) fa_zone Hfa_zone (by omega) (by omega)
      refine z_loc (L' := [(0, .ref (ad 10)), (1, z_v x), (2, z_v y), (3, z_v b), (4, z_v 0)]) [1, 2, 3, 4, 0] rfl ?_
      exact (L39 (((4 : Int) - 0).toNat + 1)) 0 a_zone Ha_zone (by omega) (Nat.lt_succ_self _)
    · skip
      refine z_iconst C dX9_narrow_34 ?_
      rw [hQ]
      exact z_zret C hrt (by omega) dX9_narrow_35 (⟨a_zone, rfl, rfl, Ha_zone, _, rfl, by omega⟩) (by omega) (by omega)
  · skip
    refine z_iconst C dX9_narrow_14 ?_
    rw [hQ]
    exact z_zret C hrt (by omega) dX9_narrow_15 (⟨a_zone, rfl, rfl, Ha_zone, _, rfl, by omega⟩) (by omega) (by omega)
set_option maxRecDepth 20000 in
theorem cm_X9_setToZero (l : Launch) {D : va_G} {A : Nat → Prop} {ad : Nat → Nat} {ks : z_Ks} {s_edgeCount s_moveCount s_isNeeded s_timesDone s_size s_isGoing s_allTime s_stepCount s_gapCount : Int} {g_edges g_moves g_limits : Nat → Option Nat} {a_sfacts a_sbounds a_facts a_zone a_most a_places a_amounts a_nextPlaces a_nextAmounts a_earliest a_visited a_lastSet a_gapFrom a_gapTo a_gapLeast a_askedPlaces a_askedAmounts : Nat → Int} {Y : Nat → Option va_E} (x : Int) (Ha_zone : (∀ j, z_rg (a_zone j))) (hx : 0 ≤ x ∧ x ≤ 3) : z_Met l yX9_setToZero cX9_setToZero 3 none 0 0 0 0 D A 27 ad ks [.ref (ad 10), z_v x] (z_zc ad ks s_edgeCount s_moveCount s_isNeeded s_timesDone s_size s_isGoing s_allTime s_stepCount s_gapCount g_edges g_moves g_limits a_sfacts a_sbounds a_facts a_zone a_most a_places a_amounts a_nextPlaces a_nextAmounts a_earliest a_visited a_lastSet a_gapFrom a_gapTo a_gapLeast a_askedPlaces a_askedAmounts) Y (fun r S' Y' => ∃ na_zone : Nat → Int, S' = (z_zc ad ks s_edgeCount s_moveCount s_isNeeded s_timesDone s_size s_isGoing s_allTime s_stepCount s_gapCount g_edges g_moves g_limits a_sfacts a_sbounds a_facts na_zone a_most a_places a_amounts a_nextPlaces a_nextAmounts a_earliest a_visited a_lastSet a_gapFrom a_gapTo a_gapLeast a_askedPlaces a_askedAmounts) ∧ Y = Y' ∧ (∀ j, z_rg (na_zone j)) ∧ r = none) := by
  refine z_start2 (by decide) (Nat.le_of_ble_eq_true rfl) ?_
  intro p e R s m args below meth c Q C hRf hRc hRs hRl hQ hrt hnm
  refine z_loc (L' := [(0, .ref (ad 10)), (1, z_v x)]) [0, 1] rfl ?_
  refine z_iconst C dX9_setToZero_0 ?_
  refine z_istoren (L' := [(2, z_v 0), (0, .ref (ad 10)), (1, z_v x)]) C dX9_setToZero_1 rfl (by decide) rfl ?_
  have L2 : ∀ (n : Nat), ∀ (i2 : Int) (fa_zone : Nat → Int), ((∀ j, z_rg (fa_zone j))) → (0 ≤ i2 ∧ i2 ≤ 4) → ((4 : Int) - i2).toNat < n → z_V p l e R s m args below meth c Q D A 27 ad 3 (z_zc ad ks s_edgeCount s_moveCount s_isNeeded s_timesDone s_size s_isGoing s_allTime s_stepCount s_gapCount g_edges g_moves g_limits a_sfacts a_sbounds a_facts fa_zone a_most a_places a_amounts a_nextPlaces a_nextAmounts a_earliest a_visited a_lastSet a_gapFrom a_gapTo a_gapLeast a_askedPlaces a_askedAmounts) Y 0 0 2 [(0, .ref (ad 10)), (1, z_v x), (2, z_v i2)] [] := by
    intro n
    induction n with
    | zero => intro i2 fa_zone Hfa_zone I2 hm; exact absurd hm (Nat.not_lt_zero _)
    | succ n ih2 =>
      intro i2 fa_zone Hfa_zone I2 hm
      refine z_iloadn C 2 dX9_setToZero_2 rfl rfl ?_
      refine z_iconst C dX9_setToZero_3 ?_
      refine z_icmp_ge (t := 47) C dX9_setToZero_4 (by decide) (by omega) (by omega) (fun c1 => ?_) (fun c1 => ?_)
      · skip
        refine z_aloadn C 0 dX9_setToZero_47 rfl rfl ?_
        refine z_get C 10 (by decide) rfl rfl z_it9 0 (by decide) rfl fl_9_9 rfl dX9_setToZero_48 ?_
        refine z_iconst C dX9_setToZero_51 ?_
        refine z_iloadn C 1 dX9_setToZero_52 rfl rfl ?_
        refine z_imul C dX9_setToZero_53 ?_
        refine z_iloadn C 1 dX9_setToZero_54 rfl rfl ?_
        refine z_iadd C dX9_setToZero_55 ?_
        refine z_iconst C dX9_setToZero_56 ?_
        refine z_iast C 11 (by decide) rfl (by decide) (by omega) (by omega) dX9_setToZero_57 ?_
        refine z_ext (S' := (z_zc ad ks s_edgeCount s_moveCount s_isNeeded s_timesDone s_size s_isGoing s_allTime s_stepCount s_gapCount g_edges g_moves g_limits a_sfacts a_sbounds a_facts (va_up fa_zone (((4 * x) + x) : Int).toNat 1) a_most a_places a_amounts a_nextPlaces a_nextAmounts a_earliest a_visited a_lastSet a_gapFrom a_gapTo a_gapLeast a_askedPlaces a_askedAmounts)) upC_a_zone ?_
        have h2 : ∀ j, z_rg ((va_up fa_zone (((4 * x) + x) : Int).toNat 1) j) := z_upP (P := fun j v => z_rg (v)) Hfa_zone (by omega)
        generalize (va_up fa_zone (((4 * x) + x) : Int).toNat 1) = f3 at h2 ⊢
        rw [hQ]
        exact z_vret C hrt dX9_setToZero_58 (⟨f3, rfl, rfl, h2, rfl⟩) (by omega) (by omega)
      · skip
        refine z_aloadn C 0 dX9_setToZero_7 rfl rfl ?_
        refine z_get C 10 (by decide) rfl rfl z_it9 0 (by decide) rfl fl_9_9 rfl dX9_setToZero_8 ?_
        refine z_iconst C dX9_setToZero_11 ?_
        refine z_iloadn C 1 dX9_setToZero_12 rfl rfl ?_
        refine z_imul C dX9_setToZero_13 ?_
        refine z_iloadn C 2 dX9_setToZero_14 rfl rfl ?_
        refine z_iadd C dX9_setToZero_15 ?_
        refine z_aloadn C 0 dX9_setToZero_16 rfl rfl ?_
        refine z_get C 10 (by decide) rfl rfl z_it9 0 (by decide) rfl fl_9_9 rfl dX9_setToZero_17 ?_
        refine z_iloadn C 2 dX9_setToZero_20 rfl rfl ?_
        refine z_iald C 11 (by decide) rfl (by decide) (by omega) (by omega) dX9_setToZero_21 ?_
        have rx4 := Hfa_zone (i2 : Int).toNat
        generalize ex4 : fa_zone (i2 : Int).toNat = x4 at rx4 ⊢
        refine z_iast C 11 (by decide) rfl (by decide) (by omega) (by omega) dX9_setToZero_22 ?_
        refine z_ext (S' := (z_zc ad ks s_edgeCount s_moveCount s_isNeeded s_timesDone s_size s_isGoing s_allTime s_stepCount s_gapCount g_edges g_moves g_limits a_sfacts a_sbounds a_facts (va_up fa_zone (((4 * x) + i2) : Int).toNat x4) a_most a_places a_amounts a_nextPlaces a_nextAmounts a_earliest a_visited a_lastSet a_gapFrom a_gapTo a_gapLeast a_askedPlaces a_askedAmounts)) upC_a_zone ?_
        have h5 : ∀ j, z_rg ((va_up fa_zone (((4 * x) + i2) : Int).toNat x4) j) := z_upP (P := fun j v => z_rg (v)) Hfa_zone (by omega)
        generalize (va_up fa_zone (((4 * x) + i2) : Int).toNat x4) = f6 at h5 ⊢
        refine z_aloadn C 0 dX9_setToZero_23 rfl rfl ?_
        refine z_get C 10 (by decide) rfl rfl z_it9 0 (by decide) rfl fl_9_9 rfl dX9_setToZero_24 ?_
        refine z_iconst C dX9_setToZero_27 ?_
        refine z_iloadn C 2 dX9_setToZero_28 rfl rfl ?_
        refine z_imul C dX9_setToZero_29 ?_
        refine z_iloadn C 1 dX9_setToZero_30 rfl rfl ?_
        refine z_iadd C dX9_setToZero_31 ?_
        refine z_aloadn C 0 dX9_setToZero_32 rfl rfl ?_
        refine z_get C 10 (by decide) rfl rfl z_it9 0 (by decide) rfl fl_9_9 rfl dX9_setToZero_33 ?_
        refine z_iconst C dX9_setToZero_36 ?_
        refine z_iloadn C 2 dX9_setToZero_37 rfl rfl ?_
        refine z_imul C dX9_setToZero_38 ?_
        refine z_iald C 11 (by decide) rfl (by decide) (by omega) (by omega) dX9_setToZero_39 ?_
        have rx7 := h5 ((4 * i2) : Int).toNat
        generalize ex7 : f6 ((4 * i2) : Int).toNat = x7 at rx7 ⊢
        refine z_iast C 11 (by decide) rfl (by decide) (by omega) (by omega) dX9_setToZero_40 ?_
        refine z_ext (S' := (z_zc ad ks s_edgeCount s_moveCount s_isNeeded s_timesDone s_size s_isGoing s_allTime s_stepCount s_gapCount g_edges g_moves g_limits a_sfacts a_sbounds a_facts (va_up f6 (((4 * i2) + x) : Int).toNat x7) a_most a_places a_amounts a_nextPlaces a_nextAmounts a_earliest a_visited a_lastSet a_gapFrom a_gapTo a_gapLeast a_askedPlaces a_askedAmounts)) upC_a_zone ?_
        have h8 : ∀ j, z_rg ((va_up f6 (((4 * i2) + x) : Int).toNat x7) j) := z_upP (P := fun j v => z_rg (v)) h5 (by omega)
        generalize (va_up f6 (((4 * i2) + x) : Int).toNat x7) = f9 at h8 ⊢
        refine z_iinc (L' := [(2, z_v (i2 + 1)), (0, .ref (ad 10)), (1, z_v x)]) C 2 dX9_setToZero_41 rfl (by decide) rfl ?_
        refine z_goto (t := 2) C dX9_setToZero_44 (by decide) ?_
        refine z_loc (L' := [(0, .ref (ad 10)), (1, z_v x), (2, z_v (i2 + 1))]) [1, 2, 0] rfl ?_
        exact ih2 (i2 + 1) f9 h8 (by omega) (by omega)
  refine z_loc (L' := [(0, .ref (ad 10)), (1, z_v x), (2, z_v 0)]) [1, 2, 0] rfl ?_
  exact (L2 (((4 : Int) - 0).toNat + 1)) 0 a_zone Ha_zone (by omega) (Nat.lt_succ_self _)
set_option maxRecDepth 20000 in
theorem cm_X9_letTimeGoBy (l : Launch) {D : va_G} {A : Nat → Prop} {ad : Nat → Nat} {ks : z_Ks} {s_edgeCount s_moveCount s_isNeeded s_timesDone s_size s_isGoing s_allTime s_stepCount s_gapCount : Int} {g_edges g_moves g_limits : Nat → Option Nat} {a_sfacts a_sbounds a_facts a_zone a_most a_places a_amounts a_nextPlaces a_nextAmounts a_earliest a_visited a_lastSet a_gapFrom a_gapTo a_gapLeast a_askedPlaces a_askedAmounts : Nat → Int} {Y : Nat → Option va_E} (Ha_zone : (∀ j, z_rg (a_zone j))) : z_Met l yX9_letTimeGoBy cX9_letTimeGoBy 2 none 0 0 0 0 D A 27 ad ks [.ref (ad 10)] (z_zc ad ks s_edgeCount s_moveCount s_isNeeded s_timesDone s_size s_isGoing s_allTime s_stepCount s_gapCount g_edges g_moves g_limits a_sfacts a_sbounds a_facts a_zone a_most a_places a_amounts a_nextPlaces a_nextAmounts a_earliest a_visited a_lastSet a_gapFrom a_gapTo a_gapLeast a_askedPlaces a_askedAmounts) Y (fun r S' Y' => ∃ na_zone : Nat → Int, S' = (z_zc ad ks s_edgeCount s_moveCount s_isNeeded s_timesDone s_size s_isGoing s_allTime s_stepCount s_gapCount g_edges g_moves g_limits a_sfacts a_sbounds a_facts na_zone a_most a_places a_amounts a_nextPlaces a_nextAmounts a_earliest a_visited a_lastSet a_gapFrom a_gapTo a_gapLeast a_askedPlaces a_askedAmounts) ∧ Y = Y' ∧ (∀ j, z_rg (na_zone j)) ∧ r = none) := by
  refine z_start2 (by decide) (Nat.le_of_ble_eq_true rfl) ?_
  intro p e R s m args below meth c Q C hRf hRc hRs hRl hQ hrt hnm
  refine z_loc (L' := [(0, .ref (ad 10))]) [0] rfl ?_
  refine z_iconst C dX9_letTimeGoBy_0 ?_
  refine z_istoren (L' := [(1, z_v 1), (0, .ref (ad 10))]) C dX9_letTimeGoBy_1 rfl (by decide) rfl ?_
  have L2 : ∀ (n : Nat), ∀ (i1 : Int) (fa_zone : Nat → Int), ((∀ j, z_rg (fa_zone j))) → (1 ≤ i1 ∧ i1 ≤ 4) → ((4 : Int) - i1).toNat < n → z_V p l e R s m args below meth c Q D A 27 ad 2 (z_zc ad ks s_edgeCount s_moveCount s_isNeeded s_timesDone s_size s_isGoing s_allTime s_stepCount s_gapCount g_edges g_moves g_limits a_sfacts a_sbounds a_facts fa_zone a_most a_places a_amounts a_nextPlaces a_nextAmounts a_earliest a_visited a_lastSet a_gapFrom a_gapTo a_gapLeast a_askedPlaces a_askedAmounts) Y 0 0 2 [(0, .ref (ad 10)), (1, z_v i1)] [] := by
    intro n
    induction n with
    | zero => intro i1 fa_zone Hfa_zone I1 hm; exact absurd hm (Nat.not_lt_zero _)
    | succ n ih2 =>
      intro i1 fa_zone Hfa_zone I1 hm
      refine z_iloadn C 1 dX9_letTimeGoBy_2 rfl rfl ?_
      refine z_iconst C dX9_letTimeGoBy_3 ?_
      refine z_icmp_ge (t := 23) C dX9_letTimeGoBy_4 (by decide) (by omega) (by omega) (fun c1 => ?_) (fun c1 => ?_)
      · skip
        rw [hQ]
        exact z_vret C hrt dX9_letTimeGoBy_23 (⟨fa_zone, rfl, rfl, Hfa_zone, rfl⟩) (by omega) (by omega)
      · skip
        refine z_aloadn C 0 dX9_letTimeGoBy_7 rfl rfl ?_
        refine z_get C 10 (by decide) rfl rfl z_it9 0 (by decide) rfl fl_9_9 rfl dX9_letTimeGoBy_8 ?_
        refine z_iconst C dX9_letTimeGoBy_11 ?_
        refine z_iloadn C 1 dX9_letTimeGoBy_12 rfl rfl ?_
        refine z_imul C dX9_letTimeGoBy_13 ?_
        refine z_ldc (n := 100000) C kc_9_15 (by decide) dX9_letTimeGoBy_14 ?_
        refine z_iast C 11 (by decide) rfl (by decide) (by omega) (by omega) dX9_letTimeGoBy_16 ?_
        refine z_ext (S' := (z_zc ad ks s_edgeCount s_moveCount s_isNeeded s_timesDone s_size s_isGoing s_allTime s_stepCount s_gapCount g_edges g_moves g_limits a_sfacts a_sbounds a_facts (va_up fa_zone ((4 * i1) : Int).toNat 100000) a_most a_places a_amounts a_nextPlaces a_nextAmounts a_earliest a_visited a_lastSet a_gapFrom a_gapTo a_gapLeast a_askedPlaces a_askedAmounts)) upC_a_zone ?_
        have h2 : ∀ j, z_rg ((va_up fa_zone ((4 * i1) : Int).toNat 100000) j) := z_upP (P := fun j v => z_rg (v)) Hfa_zone (by omega)
        generalize (va_up fa_zone ((4 * i1) : Int).toNat 100000) = f3 at h2 ⊢
        refine z_iinc (L' := [(1, z_v (i1 + 1)), (0, .ref (ad 10))]) C 1 dX9_letTimeGoBy_17 rfl (by decide) rfl ?_
        refine z_goto (t := 2) C dX9_letTimeGoBy_20 (by decide) ?_
        refine z_loc (L' := [(0, .ref (ad 10)), (1, z_v (i1 + 1))]) [1, 0] rfl ?_
        exact ih2 (i1 + 1) f3 h2 (by omega) (by omega)
  refine z_loc (L' := [(0, .ref (ad 10)), (1, z_v 1)]) [1, 0] rfl ?_
  exact (L2 (((4 : Int) - 1).toNat + 1)) 1 a_zone Ha_zone (by omega) (Nat.lt_succ_self _)
set_option maxRecDepth 20000 in
theorem cm_X9_close (l : Launch) {D : va_G} {A : Nat → Prop} {ad : Nat → Nat} {ks : z_Ks} {s_edgeCount s_moveCount s_isNeeded s_timesDone s_size s_isGoing s_allTime s_stepCount s_gapCount : Int} {g_edges g_moves g_limits : Nat → Option Nat} {a_sfacts a_sbounds a_facts a_zone a_most a_places a_amounts a_nextPlaces a_nextAmounts a_earliest a_visited a_lastSet a_gapFrom a_gapTo a_gapLeast a_askedPlaces a_askedAmounts : Nat → Int} {Y : Nat → Option va_E} (Ha_zone : (∀ j, z_rg (a_zone j))) : z_Met l yX9_close cX9_close 6 none 1 21 0 0 D A 27 ad ks [.ref (ad 10)] (z_zc ad ks s_edgeCount s_moveCount s_isNeeded s_timesDone s_size s_isGoing s_allTime s_stepCount s_gapCount g_edges g_moves g_limits a_sfacts a_sbounds a_facts a_zone a_most a_places a_amounts a_nextPlaces a_nextAmounts a_earliest a_visited a_lastSet a_gapFrom a_gapTo a_gapLeast a_askedPlaces a_askedAmounts) Y (fun r S' Y' => ∃ na_zone : Nat → Int, S' = (z_zc ad ks s_edgeCount s_moveCount s_isNeeded s_timesDone s_size s_isGoing s_allTime s_stepCount s_gapCount g_edges g_moves g_limits a_sfacts a_sbounds a_facts na_zone a_most a_places a_amounts a_nextPlaces a_nextAmounts a_earliest a_visited a_lastSet a_gapFrom a_gapTo a_gapLeast a_askedPlaces a_askedAmounts) ∧ Y = Y' ∧ (∀ j, z_rg (na_zone j)) ∧ r = none) := by
  refine z_start2 (by decide) (Nat.le_of_ble_eq_true rfl) ?_
  intro p e R s m args below meth c Q C hRf hRc hRs hRl hQ hrt hnm
  refine z_loc (L' := [(0, .ref (ad 10))]) [0] rfl ?_
  refine z_iconst C dX9_close_0 ?_
  refine z_istoren (L' := [(1, z_v 0), (0, .ref (ad 10))]) C dX9_close_1 rfl (by decide) rfl ?_
  have L2 : ∀ (n : Nat), ∀ (i1 : Int) (fa_zone : Nat → Int), ((∀ j, z_rg (fa_zone j))) → (0 ≤ i1 ∧ i1 ≤ 4) → ((4 : Int) - i1).toNat < n → z_V p l e R s m args below meth c Q D A 27 ad 6 (z_zc ad ks s_edgeCount s_moveCount s_isNeeded s_timesDone s_size s_isGoing s_allTime s_stepCount s_gapCount g_edges g_moves g_limits a_sfacts a_sbounds a_facts fa_zone a_most a_places a_amounts a_nextPlaces a_nextAmounts a_earliest a_visited a_lastSet a_gapFrom a_gapTo a_gapLeast a_askedPlaces a_askedAmounts) Y 0 0 2 [(0, .ref (ad 10)), (1, z_v i1)] [] := by
    intro n
    induction n with
    | zero => intro i1 fa_zone Hfa_zone I1 hm; exact absurd hm (Nat.not_lt_zero _)
    | succ n ih2 =>
      intro i1 fa_zone Hfa_zone I1 hm
      refine z_iloadn C 1 dX9_close_2 rfl rfl ?_
      refine z_iconst C dX9_close_3 ?_
      refine z_icmp_ge (t := 107) C dX9_close_4 (by decide) (by omega) (by omega) (fun c1 => ?_) (fun c1 => ?_)
      · skip
        rw [hQ]
        exact z_vret C hrt dX9_close_107 (⟨fa_zone, rfl, rfl, Hfa_zone, rfl⟩) (by omega) (by omega)
      · skip
        refine z_iconst C dX9_close_7 ?_
        refine z_istoren (L' := [(2, z_v 0), (0, .ref (ad 10)), (1, z_v i1)]) C dX9_close_8 rfl (by decide) rfl ?_
        have L9 : ∀ (n : Nat), ∀ (i2 : Int) (fa_zone : Nat → Int), ((∀ j, z_rg (fa_zone j))) → (0 ≤ i2 ∧ i2 ≤ 4) → ((4 : Int) - i2).toNat < n → z_V p l e R s m args below meth c Q D A 27 ad 6 (z_zc ad ks s_edgeCount s_moveCount s_isNeeded s_timesDone s_size s_isGoing s_allTime s_stepCount s_gapCount g_edges g_moves g_limits a_sfacts a_sbounds a_facts fa_zone a_most a_places a_amounts a_nextPlaces a_nextAmounts a_earliest a_visited a_lastSet a_gapFrom a_gapTo a_gapLeast a_askedPlaces a_askedAmounts) Y 0 0 9 [(0, .ref (ad 10)), (1, z_v i1), (2, z_v i2)] [] := by
          intro n
          induction n with
          | zero => intro i2 fa_zone Hfa_zone I2 hm; exact absurd hm (Nat.not_lt_zero _)
          | succ n ih9 =>
            intro i2 fa_zone Hfa_zone I2 hm
            refine z_iloadn C 2 dX9_close_9 rfl rfl ?_
            refine z_iconst C dX9_close_10 ?_
            refine z_icmp_ge (t := 101) C dX9_close_11 (by decide) (by omega) (by omega) (fun c2 => ?_) (fun c2 => ?_)
            · skip
              refine z_iinc (L' := [(1, z_v (i1 + 1)), (0, .ref (ad 10)), (2, z_v i2)]) C 1 dX9_close_101 rfl (by decide) rfl ?_
              refine z_goto (t := 2) C dX9_close_104 (by decide) ?_
              refine z_loc (L' := [(0, .ref (ad 10)), (1, z_v (i1 + 1))]) [1, 0] rfl ?_
              exact ih2 (i1 + 1) fa_zone Hfa_zone (by omega) (by omega)
            · skip
              refine z_aloadn C 0 dX9_close_14 rfl rfl ?_
              refine z_get C 10 (by decide) rfl rfl z_it9 0 (by decide) rfl fl_9_9 rfl dX9_close_15 ?_
              refine z_iconst C dX9_close_18 ?_
              refine z_iloadn C 2 dX9_close_19 rfl rfl ?_
              refine z_imul C dX9_close_20 ?_
              refine z_iloadn C 1 dX9_close_21 rfl rfl ?_
              refine z_iadd C dX9_close_22 ?_
              refine z_iald C 11 (by decide) rfl (by decide) (by omega) (by omega) dX9_close_23 ?_
              have rx3 := Hfa_zone (((4 * i2) + i1) : Int).toNat
              generalize ex3 : fa_zone (((4 * i2) + i1) : Int).toNat = x3 at rx3 ⊢
              refine z_istoren (L' := [(3, z_v x3), (0, .ref (ad 10)), (1, z_v i1), (2, z_v i2)]) C dX9_close_24 rfl (by decide) rfl ?_
              refine z_iloadn C 0 dX9_close_25 rfl rfl ?_
              refine z_ldc (n := 100000) C kc_9_15 (by decide) dX9_close_26 ?_
              refine z_icmp_ne (t := 34) C dX9_close_28 (by decide) (by omega) (by omega) (fun c4 => ?_) (fun c4 => ?_)
              · skip
                refine z_iconst C dX9_close_34 ?_
                refine z_istore (L' := [(4, z_v 0), (3, z_v x3), (0, .ref (ad 10)), (1, z_v i1), (2, z_v i2)]) C dX9_close_35 (by decide) rfl ?_
                have L37 : ∀ (n : Nat), ∀ (i4 : Int) (fa_zone : Nat → Int), ((∀ j, z_rg (fa_zone j))) → (0 ≤ i4 ∧ i4 ≤ 4) → ((4 : Int) - i4).toNat < n → z_V p l e R s m args below meth c Q D A 27 ad 6 (z_zc ad ks s_edgeCount s_moveCount s_isNeeded s_timesDone s_size s_isGoing s_allTime s_stepCount s_gapCount g_edges g_moves g_limits a_sfacts a_sbounds a_facts fa_zone a_most a_places a_amounts a_nextPlaces a_nextAmounts a_earliest a_visited a_lastSet a_gapFrom a_gapTo a_gapLeast a_askedPlaces a_askedAmounts) Y 0 0 37 [(0, .ref (ad 10)), (1, z_v i1), (2, z_v i2), (3, z_v x3), (4, z_v i4)] [] := by
                  intro n
                  induction n with
                  | zero => intro i4 fa_zone Hfa_zone I4 hm; exact absurd hm (Nat.not_lt_zero _)
                  | succ n ih37 =>
                    intro i4 fa_zone Hfa_zone I4 hm
                    refine z_iload C 4 dX9_close_37 rfl ?_
                    refine z_iconst C dX9_close_39 ?_
                    refine z_icmp_ge (t := 95) C dX9_close_40 (by decide) (by omega) (by omega) (fun c5 => ?_) (fun c5 => ?_)
                    · skip
                      refine z_iinc (L' := [(2, z_v (i2 + 1)), (0, .ref (ad 10)), (1, z_v i1), (3, z_v x3), (4, z_v i4)]) C 2 dX9_close_95 rfl (by decide) rfl ?_
                      refine z_goto (t := 9) C dX9_close_98 (by decide) ?_
                      refine z_loc (L' := [(0, .ref (ad 10)), (1, z_v i1), (2, z_v (i2 + 1))]) [1, 2, 0] rfl ?_
                      exact ih9 (i2 + 1) fa_zone Hfa_zone (by omega) (by omega)
                    · skip
                      refine z_iloadn C 3 dX9_close_43 rfl rfl ?_
                      refine z_aloadn C 0 dX9_close_44 rfl rfl ?_
                      refine z_get C 10 (by decide) rfl rfl z_it9 0 (by decide) rfl fl_9_9 rfl dX9_close_45 ?_
                      refine z_iconst C dX9_close_48 ?_
                      refine z_iloadn C 1 dX9_close_49 rfl rfl ?_
                      refine z_imul C dX9_close_50 ?_
                      refine z_iload C 4 dX9_close_51 rfl ?_
                      refine z_iadd C dX9_close_53 ?_
                      refine z_iald C 11 (by decide) rfl (by decide) (by omega) (by omega) dX9_close_54 ?_
                      have rx6 := Hfa_zone (((4 * i1) + i4) : Int).toNat
                      generalize ex6 : fa_zone (((4 * i1) + i4) : Int).toNat = x6 at rx6 ⊢
                      refine z_callS C (cm_X9_sum l x3 x6 (by omega) (by omega)) mv_9_22 pd_X9_sum ⟨by omega, by omega⟩ ⟨by omega, by omega⟩ rfl (Nat.le_of_ble_eq_true rfl) dX9_close_55 ?_
                      rintro _ _ _ ⟨rfl, rfl, z9, rfl, hz9⟩
                      refine z_istore (L' := [(5, z_v z9), (0, .ref (ad 10)), (1, z_v i1), (2, z_v i2), (3, z_v x3), (4, z_v i4)]) C dX9_close_58 (by decide) rfl ?_
                      refine z_iload C 0 dX9_close_60 rfl ?_
                      refine z_aloadn C 1 dX9_close_62 rfl rfl ?_
                      refine z_get C 10 (by decide) rfl rfl z_it9 0 (by decide) rfl fl_9_9 rfl dX9_close_63 ?_
                      refine z_iconst C dX9_close_66 ?_
                      refine z_iloadn C 3 dX9_close_67 rfl rfl ?_
                      refine z_imul C dX9_close_68 ?_
                      refine z_iload C 5 dX9_close_69 rfl ?_
                      refine z_iadd C dX9_close_71 ?_
                      refine z_iald C 11 (by decide) rfl (by decide) (by omega) (by omega) dX9_close_72 ?_
                      have rx10 := Hfa_zone (((4 * i2) + i4) : Int).toNat
                      generalize ex10 : fa_zone (((4 * i2) + i4) : Int).toNat = x10 at rx10 ⊢
                      refine z_icmp_ge (t := 89) C dX9_close_73 (by decide) (by omega) (by omega) (fun c11 => ?_) (fun c11 => ?_)
                      · skip
                        refine z_iinc (L' := [(4, z_v (i4 + 1)), (5, z_v z9), (0, .ref (ad 10)), (1, z_v i1), (2, z_v i2), (3, z_v x3)]) C 5 dX9_close_89 rfl (by decide) rfl ?_
                        refine z_goto (t := 37) C dX9_close_92 (by decide) ?_
                        refine z_loc (L' := [(0, .ref (ad 10)), (1, z_v i1), (2, z_v i2), (3, z_v x3), (4, z_v (i4 + 1))]) [2, 3, 4, 5, 0] rfl ?_
                        exact ih37 (i4 + 1) fa_zone Hfa_zone (by omega) (by omega)
                      · skip
                        refine z_aloadn C 1 dX9_close_76 rfl rfl ?_
                        refine z_get C 10 (by decide) rfl rfl z_it9 0 (by decide) rfl fl_9_9 rfl dX9_close_77 ?_
                        refine z_iconst C dX9_close_80 ?_
                        refine z_iloadn C 3 dX9_close_81 rfl rfl ?_
                        refine z_imul C dX9_close_82 ?_
                        refine z_iload C 5 dX9_close_83 rfl ?_
                        refine z_iadd C dX9_close_85 ?_
                        refine z_iload C 0 dX9_close_86 rfl ?_
                        refine z_iast C 11 (by decide) rfl (by decide) (by omega) (by omega) dX9_close_88 ?_
                        refine z_ext (S' := (z_zc ad ks s_edgeCount s_moveCount s_isNeeded s_timesDone s_size s_isGoing s_allTime s_stepCount s_gapCount g_edges g_moves g_limits a_sfacts a_sbounds a_facts (va_up fa_zone (((4 * i2) + i4) : Int).toNat z9) a_most a_places a_amounts a_nextPlaces a_nextAmounts a_earliest a_visited a_lastSet a_gapFrom a_gapTo a_gapLeast a_askedPlaces a_askedAmounts)) upC_a_zone ?_
                        have h12 : ∀ j, z_rg ((va_up fa_zone (((4 * i2) + i4) : Int).toNat z9) j) := z_upP (P := fun j v => z_rg (v)) Hfa_zone (by omega)
                        generalize (va_up fa_zone (((4 * i2) + i4) : Int).toNat z9) = f13 at h12 ⊢
                        refine z_iinc (L' := [(4, z_v (i4 + 1)), (5, z_v z9), (0, .ref (ad 10)), (1, z_v i1), (2, z_v i2), (3, z_v x3)]) C 5 dX9_close_89 rfl (by decide) rfl ?_
                        refine z_goto (t := 37) C dX9_close_92 (by decide) ?_
                        refine z_loc (L' := [(0, .ref (ad 10)), (1, z_v i1), (2, z_v i2), (3, z_v x3), (4, z_v (i4 + 1))]) [2, 3, 4, 5, 0] rfl ?_
                        exact ih37 (i4 + 1) f13 h12 (by omega) (by omega)
                refine z_loc (L' := [(0, .ref (ad 10)), (1, z_v i1), (2, z_v i2), (3, z_v x3), (4, z_v 0)]) [2, 3, 4, 1, 0] rfl ?_
                exact (L37 (((4 : Int) - 0).toNat + 1)) 0 fa_zone Hfa_zone (by omega) (Nat.lt_succ_self _)
              · skip
                refine z_goto (t := 95) C dX9_close_31 (by decide) ?_
                refine z_iinc (L' := [(2, z_v (i2 + 1)), (3, z_v x3), (0, .ref (ad 10)), (1, z_v i1)]) C 3 dX9_close_95 rfl (by decide) rfl ?_
                refine z_goto (t := 9) C dX9_close_98 (by decide) ?_
                refine z_loc (L' := [(0, .ref (ad 10)), (1, z_v i1), (2, z_v (i2 + 1))]) [2, 3, 0] rfl ?_
                exact ih9 (i2 + 1) fa_zone Hfa_zone (by omega) (by omega)
        refine z_loc (L' := [(0, .ref (ad 10)), (1, z_v i1), (2, z_v 0)]) [1, 2, 0] rfl ?_
        exact (L9 (((4 : Int) - 0).toNat + 1)) 0 fa_zone Hfa_zone (by omega) (Nat.lt_succ_self _)
  refine z_loc (L' := [(0, .ref (ad 10)), (1, z_v 0)]) [1, 0] rfl ?_
  exact (L2 (((4 : Int) - 0).toNat + 1)) 0 a_zone Ha_zone (by omega) (Nat.lt_succ_self _)
set_option maxRecDepth 20000 in
theorem cm_X9_widen (l : Launch) {D : va_G} {A : Nat → Prop} {ad : Nat → Nat} {ks : z_Ks} {s_edgeCount s_moveCount s_isNeeded s_timesDone s_size s_isGoing s_allTime s_stepCount s_gapCount : Int} {g_edges g_moves g_limits : Nat → Option Nat} {a_sfacts a_sbounds a_facts a_zone a_most a_places a_amounts a_nextPlaces a_nextAmounts a_earliest a_visited a_lastSet a_gapFrom a_gapTo a_gapLeast a_askedPlaces a_askedAmounts : Nat → Int} {Y : Nat → Option va_E} (Ha_zone : (∀ j, z_rg (a_zone j))) (Ha_most : (∀ j, 0 ≤ a_most j ∧ a_most j ≤ 1000)) : z_Met l yX9_widen cX9_widen 4 none 2 46 0 0 D A 27 ad ks [.ref (ad 10), .ref (ad 12)] (z_zc ad ks s_edgeCount s_moveCount s_isNeeded s_timesDone s_size s_isGoing s_allTime s_stepCount s_gapCount g_edges g_moves g_limits a_sfacts a_sbounds a_facts a_zone a_most a_places a_amounts a_nextPlaces a_nextAmounts a_earliest a_visited a_lastSet a_gapFrom a_gapTo a_gapLeast a_askedPlaces a_askedAmounts) Y (fun r S' Y' => ∃ na_zone : Nat → Int, S' = (z_zc ad ks s_edgeCount s_moveCount s_isNeeded s_timesDone s_size s_isGoing s_allTime s_stepCount s_gapCount g_edges g_moves g_limits a_sfacts a_sbounds a_facts na_zone a_most a_places a_amounts a_nextPlaces a_nextAmounts a_earliest a_visited a_lastSet a_gapFrom a_gapTo a_gapLeast a_askedPlaces a_askedAmounts) ∧ Y = Y' ∧ (∀ j, z_rg (na_zone j)) ∧ r = none) := by
  refine z_start2 (by decide) (Nat.le_of_ble_eq_true rfl) ?_
  intro p e R s m args below meth c Q C hRf hRc hRs hRl hQ hrt hnm
  refine z_loc (L' := [(0, .ref (ad 10)), (1, .ref (ad 12))]) [0, 1] rfl ?_
  refine z_iconst C dX9_widen_0 ?_
  refine z_istoren (L' := [(2, z_v 1), (0, .ref (ad 10)), (1, .ref (ad 12))]) C dX9_widen_1 rfl (by decide) rfl ?_
  have L2 : ∀ (n : Nat), ∀ (i2 : Int) (fa_zone : Nat → Int), ((∀ j, z_rg (fa_zone j))) → (1 ≤ i2 ∧ i2 ≤ 4) → ((4 : Int) - i2).toNat < n → z_V p l e R s m args below meth c Q D A 27 ad 4 (z_zc ad ks s_edgeCount s_moveCount s_isNeeded s_timesDone s_size s_isGoing s_allTime s_stepCount s_gapCount g_edges g_moves g_limits a_sfacts a_sbounds a_facts fa_zone a_most a_places a_amounts a_nextPlaces a_nextAmounts a_earliest a_visited a_lastSet a_gapFrom a_gapTo a_gapLeast a_askedPlaces a_askedAmounts) Y 0 0 2 [(0, .ref (ad 10)), (1, .ref (ad 12)), (2, z_v i2)] [] := by
    intro n
    induction n with
    | zero => intro i2 fa_zone Hfa_zone I2 hm; exact absurd hm (Nat.not_lt_zero _)
    | succ n ih2 =>
      intro i2 fa_zone Hfa_zone I2 hm
      refine z_iloadn C 2 dX9_widen_2 rfl rfl ?_
      refine z_iconst C dX9_widen_3 ?_
      refine z_icmp_ge (t := 99) C dX9_widen_4 (by decide) (by omega) (by omega) (fun c1 => ?_) (fun c1 => ?_)
      · skip
        refine z_aloadn C 0 dX9_widen_99 rfl rfl ?_
        refine z_callV C (cm_X9_close l Hfa_zone) mv_9_26 (z_atS 10 9 (by decide) rfl rfl rfl) pd_X9_close ⟨by omega, by omega⟩ ⟨by omega, by omega⟩ rfl (Nat.le_of_ble_eq_true rfl) dX9_widen_100 ?_
        rintro _ _ _ ⟨n2, rfl, rfl, h5, rfl⟩
        rw [hQ]
        exact z_vret C hrt dX9_widen_103 (⟨n2, rfl, rfl, h5, rfl⟩) (by omega) (by omega)
      · skip
        refine z_iconst C dX9_widen_7 ?_
        refine z_istoren (L' := [(3, z_v 0), (0, .ref (ad 10)), (1, .ref (ad 12)), (2, z_v i2)]) C dX9_widen_8 rfl (by decide) rfl ?_
        have L9 : ∀ (n : Nat), ∀ (i3 : Int) (fa_zone : Nat → Int), ((∀ j, z_rg (fa_zone j))) → (0 ≤ i3 ∧ i3 ≤ 4) → ((4 : Int) - i3).toNat < n → z_V p l e R s m args below meth c Q D A 27 ad 4 (z_zc ad ks s_edgeCount s_moveCount s_isNeeded s_timesDone s_size s_isGoing s_allTime s_stepCount s_gapCount g_edges g_moves g_limits a_sfacts a_sbounds a_facts fa_zone a_most a_places a_amounts a_nextPlaces a_nextAmounts a_earliest a_visited a_lastSet a_gapFrom a_gapTo a_gapLeast a_askedPlaces a_askedAmounts) Y 0 0 9 [(0, .ref (ad 10)), (1, .ref (ad 12)), (2, z_v i2), (3, z_v i3)] [] := by
          intro n
          induction n with
          | zero => intro i3 fa_zone Hfa_zone I3 hm; exact absurd hm (Nat.not_lt_zero _)
          | succ n ih9 =>
            intro i3 fa_zone Hfa_zone I3 hm
            refine z_iloadn C 3 dX9_widen_9 rfl rfl ?_
            refine z_iconst C dX9_widen_10 ?_
            refine z_icmp_ge (t := 93) C dX9_widen_11 (by decide) (by omega) (by omega) (fun c6 => ?_) (fun c6 => ?_)
            · skip
              refine z_iinc (L' := [(2, z_v (i2 + 1)), (0, .ref (ad 10)), (1, .ref (ad 12)), (3, z_v i3)]) C 2 dX9_widen_93 rfl (by decide) rfl ?_
              refine z_goto (t := 2) C dX9_widen_96 (by decide) ?_
              refine z_loc (L' := [(0, .ref (ad 10)), (1, .ref (ad 12)), (2, z_v (i2 + 1))]) [1, 2, 0] rfl ?_
              exact ih2 (i2 + 1) fa_zone Hfa_zone (by omega) (by omega)
            · skip
              refine z_iloadn C 2 dX9_widen_14 rfl rfl ?_
              refine z_iloadn C 3 dX9_widen_15 rfl rfl ?_
              refine z_icmp_ne (t := 22) C dX9_widen_16 (by decide) (by omega) (by omega) (fun c7 => ?_) (fun c7 => ?_)
              · skip
                refine z_aloadn C 0 dX9_widen_22 rfl rfl ?_
                refine z_get C 10 (by decide) rfl rfl z_it9 0 (by decide) rfl fl_9_9 rfl dX9_widen_23 ?_
                refine z_iconst C dX9_widen_26 ?_
                refine z_iloadn C 2 dX9_widen_27 rfl rfl ?_
                refine z_imul C dX9_widen_28 ?_
                refine z_iloadn C 3 dX9_widen_29 rfl rfl ?_
                refine z_iadd C dX9_widen_30 ?_
                refine z_iald C 11 (by decide) rfl (by decide) (by omega) (by omega) dX9_widen_31 ?_
                have rx8 := Hfa_zone (((4 * i2) + i3) : Int).toNat
                generalize ex8 : fa_zone (((4 * i2) + i3) : Int).toNat = x8 at rx8 ⊢
                refine z_iconst C dX9_widen_32 ?_
                obtain ⟨b9, hb9, rb9⟩ := z_bits (z_i x8 >>> (z_i 1 &&& 31))
                refine z_ishr C hb9 dX9_widen_33 ?_
                have qb9 := z_bitsE hb9 rb9
                refine z_aloadn C 1 dX9_widen_34 rfl rfl ?_
                refine z_iloadn C 2 dX9_widen_35 rfl rfl ?_
                refine z_iald C 12 (by decide) rfl (by decide) (by omega) (by omega) dX9_widen_36 ?_
                have rx10 := Ha_most (i2 : Int).toNat
                generalize ex10 : a_most (i2 : Int).toNat = x10 at rx10 ⊢
                refine z_icmp_le (t := 52) C dX9_widen_37 (by decide) (by omega) (by omega) (fun c11 => ?_) (fun c11 => ?_)
                · skip
                  refine z_aloadn C 0 dX9_widen_52 rfl rfl ?_
                  refine z_get C 10 (by decide) rfl rfl z_it9 0 (by decide) rfl fl_9_9 rfl dX9_widen_53 ?_
                  refine z_iconst C dX9_widen_56 ?_
                  refine z_iloadn C 3 dX9_widen_57 rfl rfl ?_
                  refine z_imul C dX9_widen_58 ?_
                  refine z_iloadn C 2 dX9_widen_59 rfl rfl ?_
                  refine z_iadd C dX9_widen_60 ?_
                  refine z_iald C 11 (by decide) rfl (by decide) (by omega) (by omega) dX9_widen_61 ?_
                  have rx12 := Hfa_zone (((4 * i3) + i2) : Int).toNat
                  generalize ex12 : fa_zone (((4 * i3) + i2) : Int).toNat = x12 at rx12 ⊢
                  refine z_iconst C dX9_widen_62 ?_
                  obtain ⟨b13, hb13, rb13⟩ := z_bits (z_i x12 >>> (z_i 1 &&& 31))
                  refine z_ishr C hb13 dX9_widen_63 ?_
                  have qb13 := z_bitsE hb13 rb13
                  refine z_aloadn C 1 dX9_widen_64 rfl rfl ?_
                  refine z_iloadn C 2 dX9_widen_65 rfl rfl ?_
                  refine z_iald C 12 (by decide) rfl (by decide) (by omega) (by omega) dX9_widen_66 ?_
                  rw [ex10]
                  refine z_ineg C dX9_widen_67 ?_
                  refine z_icmp_ge (t := 87) C dX9_widen_68 (by decide) (by omega) (by omega) (fun c14 => ?_) (fun c14 => ?_)
                  · skip
                    refine z_iinc (L' := [(3, z_v (i3 + 1)), (0, .ref (ad 10)), (1, .ref (ad 12)), (2, z_v i2)]) C 3 dX9_widen_87 rfl (by decide) rfl ?_
                    refine z_goto (t := 9) C dX9_widen_90 (by decide) ?_
                    refine z_loc (L' := [(0, .ref (ad 10)), (1, .ref (ad 12)), (2, z_v i2), (3, z_v (i3 + 1))]) [1, 2, 3, 0] rfl ?_
                    exact ih9 (i3 + 1) fa_zone Hfa_zone (by omega) (by omega)
                  · skip
                    refine z_aloadn C 0 dX9_widen_71 rfl rfl ?_
                    refine z_get C 10 (by decide) rfl rfl z_it9 0 (by decide) rfl fl_9_9 rfl dX9_widen_72 ?_
                    refine z_iconst C dX9_widen_75 ?_
                    refine z_iloadn C 3 dX9_widen_76 rfl rfl ?_
                    refine z_imul C dX9_widen_77 ?_
                    refine z_iloadn C 2 dX9_widen_78 rfl rfl ?_
                    refine z_iadd C dX9_widen_79 ?_
                    refine z_bipush C dX9_widen_80 (by decide) ?_
                    refine z_aloadn C 1 dX9_widen_82 rfl rfl ?_
                    refine z_iloadn C 2 dX9_widen_83 rfl rfl ?_
                    refine z_iald C 12 (by decide) rfl (by decide) (by omega) (by omega) dX9_widen_84 ?_
                    rw [ex10]
                    refine z_imul C dX9_widen_85 ?_
                    refine z_iast C 11 (by decide) rfl (by decide) (by omega) (by omega) dX9_widen_86 ?_
                    refine z_ext (S' := (z_zc ad ks s_edgeCount s_moveCount s_isNeeded s_timesDone s_size s_isGoing s_allTime s_stepCount s_gapCount g_edges g_moves g_limits a_sfacts a_sbounds a_facts (va_up fa_zone (((4 * i3) + i2) : Int).toNat ((-2) * x10)) a_most a_places a_amounts a_nextPlaces a_nextAmounts a_earliest a_visited a_lastSet a_gapFrom a_gapTo a_gapLeast a_askedPlaces a_askedAmounts)) upC_a_zone ?_
                    have h15 : ∀ j, z_rg ((va_up fa_zone (((4 * i3) + i2) : Int).toNat ((-2) * x10)) j) := z_upP (P := fun j v => z_rg (v)) Hfa_zone (by omega)
                    generalize (va_up fa_zone (((4 * i3) + i2) : Int).toNat ((-2) * x10)) = f16 at h15 ⊢
                    refine z_iinc (L' := [(3, z_v (i3 + 1)), (0, .ref (ad 10)), (1, .ref (ad 12)), (2, z_v i2)]) C 3 dX9_widen_87 rfl (by decide) rfl ?_
                    refine z_goto (t := 9) C dX9_widen_90 (by decide) ?_
                    refine z_loc (L' := [(0, .ref (ad 10)), (1, .ref (ad 12)), (2, z_v i2), (3, z_v (i3 + 1))]) [1, 2, 3, 0] rfl ?_
                    exact ih9 (i3 + 1) f16 h15 (by omega) (by omega)
                · skip
                  refine z_aloadn C 0 dX9_widen_40 rfl rfl ?_
                  refine z_get C 10 (by decide) rfl rfl z_it9 0 (by decide) rfl fl_9_9 rfl dX9_widen_41 ?_
                  refine z_iconst C dX9_widen_44 ?_
                  refine z_iloadn C 2 dX9_widen_45 rfl rfl ?_
                  refine z_imul C dX9_widen_46 ?_
                  refine z_iloadn C 3 dX9_widen_47 rfl rfl ?_
                  refine z_iadd C dX9_widen_48 ?_
                  refine z_ldc (n := 100000) C kc_9_15 (by decide) dX9_widen_49 ?_
                  refine z_iast C 11 (by decide) rfl (by decide) (by omega) (by omega) dX9_widen_51 ?_
                  refine z_ext (S' := (z_zc ad ks s_edgeCount s_moveCount s_isNeeded s_timesDone s_size s_isGoing s_allTime s_stepCount s_gapCount g_edges g_moves g_limits a_sfacts a_sbounds a_facts (va_up fa_zone (((4 * i2) + i3) : Int).toNat 100000) a_most a_places a_amounts a_nextPlaces a_nextAmounts a_earliest a_visited a_lastSet a_gapFrom a_gapTo a_gapLeast a_askedPlaces a_askedAmounts)) upC_a_zone ?_
                  have h17 : ∀ j, z_rg ((va_up fa_zone (((4 * i2) + i3) : Int).toNat 100000) j) := z_upP (P := fun j v => z_rg (v)) Hfa_zone (by omega)
                  generalize (va_up fa_zone (((4 * i2) + i3) : Int).toNat 100000) = f18 at h17 ⊢
                  refine z_aloadn C 0 dX9_widen_52 rfl rfl ?_
                  refine z_get C 10 (by decide) rfl rfl z_it9 0 (by decide) rfl fl_9_9 rfl dX9_widen_53 ?_
                  refine z_iconst C dX9_widen_56 ?_
                  refine z_iloadn C 3 dX9_widen_57 rfl rfl ?_
                  refine z_imul C dX9_widen_58 ?_
                  refine z_iloadn C 2 dX9_widen_59 rfl rfl ?_
                  refine z_iadd C dX9_widen_60 ?_
                  refine z_iald C 11 (by decide) rfl (by decide) (by omega) (by omega) dX9_widen_61 ?_
                  have rx19 := h17 (((4 * i3) + i2) : Int).toNat
                  generalize ex19 : f18 (((4 * i3) + i2) : Int).toNat = x19 at rx19 ⊢
                  refine z_iconst C dX9_widen_62 ?_
                  obtain ⟨b20, hb20, rb20⟩ := z_bits (z_i x19 >>> (z_i 1 &&& 31))
                  refine z_ishr C hb20 dX9_widen_63 ?_
                  have qb20 := z_bitsE hb20 rb20
                  refine z_aloadn C 1 dX9_widen_64 rfl rfl ?_
                  refine z_iloadn C 2 dX9_widen_65 rfl rfl ?_
                  refine z_iald C 12 (by decide) rfl (by decide) (by omega) (by omega) dX9_widen_66 ?_
                  rw [ex10]
                  refine z_ineg C dX9_widen_67 ?_
                  refine z_icmp_ge (t := 87) C dX9_widen_68 (by decide) (by omega) (by omega) (fun c21 => ?_) (fun c21 => ?_)
                  · skip
                    refine z_iinc (L' := [(3, z_v (i3 + 1)), (0, .ref (ad 10)), (1, .ref (ad 12)), (2, z_v i2)]) C 3 dX9_widen_87 rfl (by decide) rfl ?_
                    refine z_goto (t := 9) C dX9_widen_90 (by decide) ?_
                    refine z_loc (L' := [(0, .ref (ad 10)), (1, .ref (ad 12)), (2, z_v i2), (3, z_v (i3 + 1))]) [1, 2, 3, 0] rfl ?_
                    exact ih9 (i3 + 1) f18 h17 (by omega) (by omega)
                  · skip
                    refine z_aloadn C 0 dX9_widen_71 rfl rfl ?_
                    refine z_get C 10 (by decide) rfl rfl z_it9 0 (by decide) rfl fl_9_9 rfl dX9_widen_72 ?_
                    refine z_iconst C dX9_widen_75 ?_
                    refine z_iloadn C 3 dX9_widen_76 rfl rfl ?_
                    refine z_imul C dX9_widen_77 ?_
                    refine z_iloadn C 2 dX9_widen_78 rfl rfl ?_
                    refine z_iadd C dX9_widen_79 ?_
                    refine z_bipush C dX9_widen_80 (by decide) ?_
                    refine z_aloadn C 1 dX9_widen_82 rfl rfl ?_
                    refine z_iloadn C 2 dX9_widen_83 rfl rfl ?_
                    refine z_iald C 12 (by decide) rfl (by decide) (by omega) (by omega) dX9_widen_84 ?_
                    rw [ex10]
                    refine z_imul C dX9_widen_85 ?_
                    refine z_iast C 11 (by decide) rfl (by decide) (by omega) (by omega) dX9_widen_86 ?_
                    refine z_ext (S' := (z_zc ad ks s_edgeCount s_moveCount s_isNeeded s_timesDone s_size s_isGoing s_allTime s_stepCount s_gapCount g_edges g_moves g_limits a_sfacts a_sbounds a_facts (va_up f18 (((4 * i3) + i2) : Int).toNat ((-2) * x10)) a_most a_places a_amounts a_nextPlaces a_nextAmounts a_earliest a_visited a_lastSet a_gapFrom a_gapTo a_gapLeast a_askedPlaces a_askedAmounts)) upC_a_zone ?_
                    have h22 : ∀ j, z_rg ((va_up f18 (((4 * i3) + i2) : Int).toNat ((-2) * x10)) j) := z_upP (P := fun j v => z_rg (v)) h17 (by omega)
                    generalize (va_up f18 (((4 * i3) + i2) : Int).toNat ((-2) * x10)) = f23 at h22 ⊢
                    refine z_iinc (L' := [(3, z_v (i3 + 1)), (0, .ref (ad 10)), (1, .ref (ad 12)), (2, z_v i2)]) C 3 dX9_widen_87 rfl (by decide) rfl ?_
                    refine z_goto (t := 9) C dX9_widen_90 (by decide) ?_
                    refine z_loc (L' := [(0, .ref (ad 10)), (1, .ref (ad 12)), (2, z_v i2), (3, z_v (i3 + 1))]) [1, 2, 3, 0] rfl ?_
                    exact ih9 (i3 + 1) f23 h22 (by omega) (by omega)
              · skip
                refine z_goto (t := 87) C dX9_widen_19 (by decide) ?_
                refine z_iinc (L' := [(3, z_v (i3 + 1)), (0, .ref (ad 10)), (1, .ref (ad 12)), (2, z_v i2)]) C 3 dX9_widen_87 rfl (by decide) rfl ?_
                refine z_goto (t := 9) C dX9_widen_90 (by decide) ?_
                refine z_loc (L' := [(0, .ref (ad 10)), (1, .ref (ad 12)), (2, z_v i2), (3, z_v (i3 + 1))]) [1, 2, 3, 0] rfl ?_
                exact ih9 (i3 + 1) fa_zone Hfa_zone (by omega) (by omega)
        refine z_loc (L' := [(0, .ref (ad 10)), (1, .ref (ad 12)), (2, z_v i2), (3, z_v 0)]) [1, 2, 3, 0] rfl ?_
        exact (L9 (((4 : Int) - 0).toNat + 1)) 0 fa_zone Hfa_zone (by omega) (Nat.lt_succ_self _)
  refine z_loc (L' := [(0, .ref (ad 10)), (1, .ref (ad 12)), (2, z_v 1)]) [1, 2, 0] rfl ?_
  exact (L2 (((4 : Int) - 1).toNat + 1)) 1 a_zone Ha_zone (by omega) (Nat.lt_succ_self _)
