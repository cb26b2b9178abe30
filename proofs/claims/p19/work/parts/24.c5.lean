theorem z_astorenN {p : Program} {l : Launch} {e : Env} {R : Room} {s : State} {m : MethodId} {args : Array Value} {below : List Frame} {meth : Method} {c : Code} {Q : State → Prop} {D : va_G} {A : Nat → Prop} {N : Nat} {ad : Nat → Nat} {nL : Nat} {S : Nat → va_E} {Y : Nat → Option va_E} {cells slots pc : Nat} {L : List (Nat × Value)} {st : List Value} {cc : ByteArray} {own : String} {ks : z_Ks} (C : z_C p s m args meth c cc nL own D A ks) {n : Fin 4} {i : Nat} {L' : List (Nat × Value)} (hd : decode cc pc = .ok (.astore_n n, 1)) (hi : (n : Nat) = i) (hn : i < nL) (he : (i, Value.null) :: L.filter (fun q => !(q.1 == i) && !(q.1 + 1 == i && q.2.category == 2)) = L') (k : z_V p l e R s m args below meth c Q D A N ad nL S Y cells slots (pc + 1) L' st) : z_V p l e R s m args below meth c Q D A N ad nL S Y cells slots pc L (.null :: st) := by
  intro H locs ls hR hS hl
  exact lv_astore_nN C.1 C.2.1 hd hi hl hn he (fun ls' hl' => k H locs ls' hR hS hl')
set_option maxRecDepth 20000 in
theorem cm_X10_isMachine (l : Launch) {D : va_G} {A : Nat → Prop} {ad : Nat → Nat} {ks : z_Ks} {N : Nat} {S : Nat → va_E} {Y : Nat → Option va_E} (v : Int) (hv : z_rg v) : z_Met l yX10_isMachine cX10_isMachine 1 (some .boolean) 0 0 0 0 D A N ad ks [z_v v] S Y (fun r S' Y' => S' = S ∧ Y = Y' ∧ ∃ z : Int, r = some (z_v z) ∧ (z = 1 ∧ (0 ≤ v ∧ v ≤ 2) ∨ z = 0 ∧ ¬ (0 ≤ v ∧ v ≤ 2))) := by
  refine z_start2 (by decide) (Nat.le_of_ble_eq_true rfl) ?_
  intro p e R s m args below meth c Q C hRf hRc hRs hRl hQ hrt hnm
  refine z_loc (L' := [(0, z_v v)]) [0] rfl ?_
  refine z_iloadn C 0 dX10_isMachine_0 rfl rfl ?_
  refine z_if_lt (t := 13) C dX10_isMachine_1 (by decide) (by omega) (fun c1 => ?_) (fun c1 => ?_)
  · skip
    refine z_iconst C dX10_isMachine_13 ?_
    rw [hQ]
    exact z_zret C hrt (by omega) dX10_isMachine_14 (⟨rfl, rfl, _, rfl, by omega⟩) (by omega) (by omega)
  · skip
    refine z_iloadn C 0 dX10_isMachine_4 rfl rfl ?_
    refine z_iconst C dX10_isMachine_5 ?_
    refine z_icmp_ge (t := 13) C dX10_isMachine_6 (by decide) (by omega) (by omega) (fun c2 => ?_) (fun c2 => ?_)
    · skip
      refine z_iconst C dX10_isMachine_13 ?_
      rw [hQ]
      exact z_zret C hrt (by omega) dX10_isMachine_14 (⟨rfl, rfl, _, rfl, by omega⟩) (by omega) (by omega)
    · skip
      refine z_iconst C dX10_isMachine_9 ?_
      refine z_goto (t := 14) C dX10_isMachine_10 (by decide) ?_
      rw [hQ]
      exact z_zret C hrt (by omega) dX10_isMachine_14 (⟨rfl, rfl, _, rfl, by omega⟩) (by omega) (by omega)
set_option maxRecDepth 20000 in
theorem cm_X10_isPlace (l : Launch) {D : va_G} {A : Nat → Prop} {ad : Nat → Nat} {ks : z_Ks} {N : Nat} {S : Nat → va_E} {Y : Nat → Option va_E} (v : Int) (hv : z_rg v) : z_Met l yX10_isPlace cX10_isPlace 1 (some .boolean) 0 0 0 0 D A N ad ks [z_v v] S Y (fun r S' Y' => S' = S ∧ Y = Y' ∧ ∃ z : Int, r = some (z_v z) ∧ (z = 1 ∧ (0 ≤ v ∧ v ≤ 5) ∨ z = 0 ∧ ¬ (0 ≤ v ∧ v ≤ 5))) := by
  refine z_start2 (by decide) (Nat.le_of_ble_eq_true rfl) ?_
  intro p e R s m args below meth c Q C hRf hRc hRs hRl hQ hrt hnm
  refine z_loc (L' := [(0, z_v v)]) [0] rfl ?_
  refine z_iloadn C 0 dX10_isPlace_0 rfl rfl ?_
  refine z_if_lt (t := 14) C dX10_isPlace_1 (by decide) (by omega) (fun c1 => ?_) (fun c1 => ?_)
  · skip
    refine z_iconst C dX10_isPlace_14 ?_
    rw [hQ]
    exact z_zret C hrt (by omega) dX10_isPlace_15 (⟨rfl, rfl, _, rfl, by omega⟩) (by omega) (by omega)
  · skip
    refine z_iloadn C 0 dX10_isPlace_4 rfl rfl ?_
    refine z_bipush C dX10_isPlace_5 (by decide) ?_
    refine z_icmp_ge (t := 14) C dX10_isPlace_7 (by decide) (by omega) (by omega) (fun c2 => ?_) (fun c2 => ?_)
    · skip
      refine z_iconst C dX10_isPlace_14 ?_
      rw [hQ]
      exact z_zret C hrt (by omega) dX10_isPlace_15 (⟨rfl, rfl, _, rfl, by omega⟩) (by omega) (by omega)
    · skip
      refine z_iconst C dX10_isPlace_10 ?_
      refine z_goto (t := 15) C dX10_isPlace_11 (by decide) ?_
      rw [hQ]
      exact z_zret C hrt (by omega) dX10_isPlace_15 (⟨rfl, rfl, _, rfl, by omega⟩) (by omega) (by omega)
set_option maxRecDepth 20000 in
theorem cm_X10_isPlaceOrAny (l : Launch) {D : va_G} {A : Nat → Prop} {ad : Nat → Nat} {ks : z_Ks} {N : Nat} {S : Nat → va_E} {Y : Nat → Option va_E} (v : Int) (hv : z_rg v) : z_Met l yX10_isPlaceOrAny cX10_isPlaceOrAny 1 (some .boolean) 1 20 0 0 D A N ad ks [z_v v] S Y (fun r S' Y' => S' = S ∧ Y = Y' ∧ ∃ z : Int, r = some (z_v z) ∧ (z = 1 ∧ (-1 ≤ v ∧ v ≤ 5) ∨ z = 0 ∧ ¬ (-1 ≤ v ∧ v ≤ 5))) := by
  refine z_start2 (by decide) (Nat.le_of_ble_eq_true rfl) ?_
  intro p e R s m args below meth c Q C hRf hRc hRs hRl hQ hrt hnm
  refine z_loc (L' := [(0, z_v v)]) [0] rfl ?_
  refine z_iloadn C 0 dX10_isPlaceOrAny_0 rfl rfl ?_
  refine z_iconst C dX10_isPlaceOrAny_1 ?_
  refine z_icmp_eq (t := 12) C dX10_isPlaceOrAny_2 (by decide) (by omega) (by omega) (fun c1 => ?_) (fun c1 => ?_)
  · skip
    refine z_iconst C dX10_isPlaceOrAny_12 ?_
    refine z_goto (t := 17) C dX10_isPlaceOrAny_13 (by decide) ?_
    rw [hQ]
    exact z_zret C hrt (by omega) dX10_isPlaceOrAny_17 (⟨rfl, rfl, _, rfl, by omega⟩) (by omega) (by omega)
  · skip
    refine z_iloadn C 0 dX10_isPlaceOrAny_5 rfl rfl ?_
    refine z_callS C (cm_X10_isPlace l v (by omega)) mv_10_48 pd_X10_isPlace ⟨by omega, by omega⟩ ⟨by omega, by omega⟩ rfl (Nat.le_of_ble_eq_true rfl) dX10_isPlaceOrAny_6 ?_
    rintro _ _ _ ⟨rfl, rfl, z4, rfl, hz4⟩
    refine z_if_eq (t := 16) C dX10_isPlaceOrAny_9 (by decide) (by omega) (fun c5 => ?_) (fun c5 => ?_)
    · skip
      refine z_iconst C dX10_isPlaceOrAny_16 ?_
      rw [hQ]
      exact z_zret C hrt (by omega) dX10_isPlaceOrAny_17 (⟨rfl, rfl, _, rfl, by omega⟩) (by omega) (by omega)
    · skip
      refine z_iconst C dX10_isPlaceOrAny_12 ?_
      refine z_goto (t := 17) C dX10_isPlaceOrAny_13 (by decide) ?_
      rw [hQ]
      exact z_zret C hrt (by omega) dX10_isPlaceOrAny_17 (⟨rfl, rfl, _, rfl, by omega⟩) (by omega) (by omega)
set_option maxRecDepth 20000 in
theorem cm_X10_isClockOrZero (l : Launch) {D : va_G} {A : Nat → Prop} {ad : Nat → Nat} {ks : z_Ks} {N : Nat} {S : Nat → va_E} {Y : Nat → Option va_E} (v : Int) (hv : z_rg v) : z_Met l yX10_isClockOrZero cX10_isClockOrZero 1 (some .boolean) 0 0 0 0 D A N ad ks [z_v v] S Y (fun r S' Y' => S' = S ∧ Y = Y' ∧ ∃ z : Int, r = some (z_v z) ∧ (z = 1 ∧ (0 ≤ v ∧ v ≤ 3) ∨ z = 0 ∧ ¬ (0 ≤ v ∧ v ≤ 3))) := by
  refine z_start2 (by decide) (Nat.le_of_ble_eq_true rfl) ?_
  intro p e R s m args below meth c Q C hRf hRc hRs hRl hQ hrt hnm
  refine z_loc (L' := [(0, z_v v)]) [0] rfl ?_
  refine z_iloadn C 0 dX10_isClockOrZero_0 rfl rfl ?_
  refine z_if_lt (t := 13) C dX10_isClockOrZero_1 (by decide) (by omega) (fun c1 => ?_) (fun c1 => ?_)
  · skip
    refine z_iconst C dX10_isClockOrZero_13 ?_
    rw [hQ]
    exact z_zret C hrt (by omega) dX10_isClockOrZero_14 (⟨rfl, rfl, _, rfl, by omega⟩) (by omega) (by omega)
  · skip
    refine z_iloadn C 0 dX10_isClockOrZero_4 rfl rfl ?_
    refine z_iconst C dX10_isClockOrZero_5 ?_
    refine z_icmp_ge (t := 13) C dX10_isClockOrZero_6 (by decide) (by omega) (by omega) (fun c2 => ?_) (fun c2 => ?_)
    · skip
      refine z_iconst C dX10_isClockOrZero_13 ?_
      rw [hQ]
      exact z_zret C hrt (by omega) dX10_isClockOrZero_14 (⟨rfl, rfl, _, rfl, by omega⟩) (by omega) (by omega)
    · skip
      refine z_iconst C dX10_isClockOrZero_9 ?_
      refine z_goto (t := 14) C dX10_isClockOrZero_10 (by decide) ?_
      rw [hQ]
      exact z_zret C hrt (by omega) dX10_isClockOrZero_14 (⟨rfl, rfl, _, rfl, by omega⟩) (by omega) (by omega)
set_option maxRecDepth 20000 in
theorem cm_X10_isClock (l : Launch) {D : va_G} {A : Nat → Prop} {ad : Nat → Nat} {ks : z_Ks} {N : Nat} {S : Nat → va_E} {Y : Nat → Option va_E} (v : Int) (hv : z_rg v) : z_Met l yX10_isClock cX10_isClock 1 (some .boolean) 1 20 0 0 D A N ad ks [z_v v] S Y (fun r S' Y' => S' = S ∧ Y = Y' ∧ ∃ z : Int, r = some (z_v z) ∧ (z = 1 ∧ (1 ≤ v ∧ v ≤ 3) ∨ z = 0 ∧ ¬ (1 ≤ v ∧ v ≤ 3))) := by
  refine z_start2 (by decide) (Nat.le_of_ble_eq_true rfl) ?_
  intro p e R s m args below meth c Q C hRf hRc hRs hRl hQ hrt hnm
  refine z_loc (L' := [(0, z_v v)]) [0] rfl ?_
  refine z_iloadn C 0 dX10_isClock_0 rfl rfl ?_
  refine z_if_eq (t := 15) C dX10_isClock_1 (by decide) (by omega) (fun c1 => ?_) (fun c1 => ?_)
  · skip
    refine z_iconst C dX10_isClock_15 ?_
    rw [hQ]
    exact z_zret C hrt (by omega) dX10_isClock_16 (⟨rfl, rfl, _, rfl, by omega⟩) (by omega) (by omega)
  · skip
    refine z_iloadn C 0 dX10_isClock_4 rfl rfl ?_
    refine z_callS C (cm_X10_isClockOrZero l v (by omega)) mv_10_120 pd_X10_isClockOrZero ⟨by omega, by omega⟩ ⟨by omega, by omega⟩ rfl (Nat.le_of_ble_eq_true rfl) dX10_isClock_5 ?_
    rintro _ _ _ ⟨rfl, rfl, z4, rfl, hz4⟩
    refine z_if_eq (t := 15) C dX10_isClock_8 (by decide) (by omega) (fun c5 => ?_) (fun c5 => ?_)
    · skip
      refine z_iconst C dX10_isClock_15 ?_
      rw [hQ]
      exact z_zret C hrt (by omega) dX10_isClock_16 (⟨rfl, rfl, _, rfl, by omega⟩) (by omega) (by omega)
    · skip
      refine z_iconst C dX10_isClock_11 ?_
      refine z_goto (t := 16) C dX10_isClock_12 (by decide) ?_
      rw [hQ]
      exact z_zret C hrt (by omega) dX10_isClock_16 (⟨rfl, rfl, _, rfl, by omega⟩) (by omega) (by omega)
set_option maxRecDepth 20000 in
theorem cm_X10_isNumber (l : Launch) {D : va_G} {A : Nat → Prop} {ad : Nat → Nat} {ks : z_Ks} {N : Nat} {S : Nat → va_E} {Y : Nat → Option va_E} (v : Int) (hv : z_rg v) : z_Met l yX10_isNumber cX10_isNumber 1 (some .boolean) 0 0 0 0 D A N ad ks [z_v v] S Y (fun r S' Y' => S' = S ∧ Y = Y' ∧ ∃ z : Int, r = some (z_v z) ∧ (z = 1 ∧ (0 ≤ v ∧ v ≤ 1000) ∨ z = 0 ∧ ¬ (0 ≤ v ∧ v ≤ 1000))) := by
  refine z_start2 (by decide) (Nat.le_of_ble_eq_true rfl) ?_
  intro p e R s m args below meth c Q C hRf hRc hRs hRl hQ hrt hnm
  refine z_loc (L' := [(0, z_v v)]) [0] rfl ?_
  refine z_iloadn C 0 dX10_isNumber_0 rfl rfl ?_
  refine z_if_lt (t := 15) C dX10_isNumber_1 (by decide) (by omega) (fun c1 => ?_) (fun c1 => ?_)
  · skip
    refine z_iconst C dX10_isNumber_15 ?_
    rw [hQ]
    exact z_zret C hrt (by omega) dX10_isNumber_16 (⟨rfl, rfl, _, rfl, by omega⟩) (by omega) (by omega)
  · skip
    refine z_iloadn C 0 dX10_isNumber_4 rfl rfl ?_
    refine z_sipush C dX10_isNumber_5 (by decide) ?_
    refine z_icmp_gt (t := 15) C dX10_isNumber_8 (by decide) (by omega) (by omega) (fun c2 => ?_) (fun c2 => ?_)
    · skip
      refine z_iconst C dX10_isNumber_15 ?_
      rw [hQ]
      exact z_zret C hrt (by omega) dX10_isNumber_16 (⟨rfl, rfl, _, rfl, by omega⟩) (by omega) (by omega)
    · skip
      refine z_iconst C dX10_isNumber_11 ?_
      refine z_goto (t := 16) C dX10_isNumber_12 (by decide) ?_
      rw [hQ]
      exact z_zret C hrt (by omega) dX10_isNumber_16 (⟨rfl, rfl, _, rfl, by omega⟩) (by omega) (by omega)
set_option maxRecDepth 20000 in
theorem cm_X10_isAmount (l : Launch) {D : va_G} {A : Nat → Prop} {ad : Nat → Nat} {ks : z_Ks} {N : Nat} {S : Nat → va_E} {Y : Nat → Option va_E} (v : Int) (hv : z_rg v) : z_Met l yX10_isAmount cX10_isAmount 1 (some .boolean) 0 0 0 0 D A N ad ks [z_v v] S Y (fun r S' Y' => S' = S ∧ Y = Y' ∧ ∃ z : Int, r = some (z_v z) ∧ (z = 1 ∧ (0 ≤ v ∧ v ≤ 1000000) ∨ z = 0 ∧ ¬ (0 ≤ v ∧ v ≤ 1000000))) := by
  refine z_start2 (by decide) (Nat.le_of_ble_eq_true rfl) ?_
  intro p e R s m args below meth c Q C hRf hRc hRs hRl hQ hrt hnm
  refine z_loc (L' := [(0, z_v v)]) [0] rfl ?_
  refine z_iloadn C 0 dX10_isAmount_0 rfl rfl ?_
  refine z_if_lt (t := 14) C dX10_isAmount_1 (by decide) (by omega) (fun c1 => ?_) (fun c1 => ?_)
  · skip
    refine z_iconst C dX10_isAmount_14 ?_
    rw [hQ]
    exact z_zret C hrt (by omega) dX10_isAmount_15 (⟨rfl, rfl, _, rfl, by omega⟩) (by omega) (by omega)
  · skip
    refine z_iloadn C 0 dX10_isAmount_4 rfl rfl ?_
    refine z_ldc (n := 1000000) C kc_10_172 (by decide) dX10_isAmount_5 ?_
    refine z_icmp_gt (t := 14) C dX10_isAmount_7 (by decide) (by omega) (by omega) (fun c2 => ?_) (fun c2 => ?_)
    · skip
      refine z_iconst C dX10_isAmount_14 ?_
      rw [hQ]
      exact z_zret C hrt (by omega) dX10_isAmount_15 (⟨rfl, rfl, _, rfl, by omega⟩) (by omega) (by omega)
    · skip
      refine z_iconst C dX10_isAmount_10 ?_
      refine z_goto (t := 15) C dX10_isAmount_11 (by decide) ?_
      rw [hQ]
      exact z_zret C hrt (by omega) dX10_isAmount_15 (⟨rfl, rfl, _, rfl, by omega⟩) (by omega) (by omega)
set_option maxRecDepth 20000 in
theorem cm_X10_state (l : Launch) {D : va_G} {A : Nat → Prop} {ad : Nat → Nat} {ks : z_Ks} {s_edgeCount s_moveCount s_isNeeded s_timesDone s_size s_isGoing s_allTime s_stepCount s_gapCount : Int} {g_edges g_moves g_limits : Nat → Option Nat} {a_sfacts a_sbounds a_facts a_zone a_most a_places a_amounts a_nextPlaces a_nextAmounts a_earliest a_visited a_lastSet a_gapFrom a_gapTo a_gapLeast a_askedPlaces a_askedAmounts : Nat → Int} {Y : Nat → Option va_E} (i0 wh : Int) (Hs_isNeeded : (s_isNeeded = 0 ∨ s_isNeeded = 1)) (Hs_size : (0 ≤ s_size ∧ s_size ≤ 120)) (Ha_sfacts : (∀ j, (j % 7 < 3 → 0 ≤ a_sfacts j ∧ a_sfacts j ≤ 5) ∧ (j % 7 = 3 → -1 ≤ a_sfacts j ∧ a_sfacts j ≤ 119) ∧ (j % 7 = 6 → 0 ≤ a_sfacts j ∧ a_sfacts j ≤ 40) ∧ z_rg (a_sfacts j))) (hi0 : z_rg i0) (hwh : z_rg wh) : z_Met l yX10_state cX10_state 3 (some .int) 1 22 0 0 D A 27 ad ks [.ref (ad 0), z_v i0, z_v wh] (z_zc ad ks s_edgeCount s_moveCount s_isNeeded s_timesDone s_size s_isGoing s_allTime s_stepCount s_gapCount g_edges g_moves g_limits a_sfacts a_sbounds a_facts a_zone a_most a_places a_amounts a_nextPlaces a_nextAmounts a_earliest a_visited a_lastSet a_gapFrom a_gapTo a_gapLeast a_askedPlaces a_askedAmounts) Y (fun r S' Y' => S' = (z_zc ad ks s_edgeCount s_moveCount s_isNeeded s_timesDone s_size s_isGoing s_allTime s_stepCount s_gapCount g_edges g_moves g_limits a_sfacts a_sbounds a_facts a_zone a_most a_places a_amounts a_nextPlaces a_nextAmounts a_earliest a_visited a_lastSet a_gapFrom a_gapTo a_gapLeast a_askedPlaces a_askedAmounts) ∧ Y = Y' ∧ ∃ z : Int, r = some (z_v z) ∧ (True)) := by
  refine z_start2 (by decide) (Nat.le_of_ble_eq_true rfl) ?_
  intro p e R s m args below meth c Q C hRf hRc hRs hRl hQ hrt hnm
  refine z_loc (L' := [(0, .ref (ad 0)), (1, z_v i0), (2, z_v wh)]) [0, 1, 2] rfl ?_
  refine z_aloadn C 0 dX10_state_0 rfl rfl ?_
  refine z_get C 0 (by decide) rfl rfl z_it10 1 (by decide) rfl fl_10_19 rfl dX10_state_1 ?_
  refine z_get C 5 (by decide) rfl rfl z_it3 1 (by decide) rfl fl_10_102 rfl dX10_state_4 ?_
  refine z_if_eq (t := 13) C dX10_state_7 (by decide) (by omega) (fun c1 => ?_) (fun c1 => ?_)
  · skip
    refine z_aloadn C 0 dX10_state_13 rfl rfl ?_
    refine z_get C 0 (by decide) rfl rfl z_it10 1 (by decide) rfl fl_10_19 rfl dX10_state_14 ?_
    refine z_get C 5 (by decide) rfl rfl z_it3 0 (by decide) rfl fl_10_106 rfl dX10_state_17 ?_
    refine z_iloadn C 1 dX10_state_20 rfl rfl ?_
    refine z_callV C (cm_X4_isMet l i0 (by omega) (by omega)) mv_10_110 (z_atS 6 4 (by decide) rfl rfl rfl) pd_X4_isMet ⟨by omega, by omega⟩ ⟨by omega, by omega⟩ rfl (Nat.le_of_ble_eq_true rfl) dX10_state_21 ?_
    rintro _ _ _ ⟨rfl, rfl, z4, rfl, hz4⟩
    refine z_if_ne (t := 30) C dX10_state_24 (by decide) (by omega) (fun c5 => ?_) (fun c5 => ?_)
    · skip
      refine z_iloadn C 2 dX10_state_30 rfl rfl ?_
      refine z_if_lt (t := 40) C dX10_state_31 (by decide) (by omega) (fun c6 => ?_) (fun c6 => ?_)
      · skip
        refine z_bipush C dX10_state_40 (by decide) ?_
        rw [hQ]
        exact z_iret C hrt dX10_state_42 (⟨rfl, rfl, _, rfl, trivial⟩) (by omega) (by omega)
      · skip
        refine z_iloadn C 2 dX10_state_34 rfl rfl ?_
        refine z_bipush C dX10_state_35 (by decide) ?_
        refine z_icmp_lt (t := 43) C dX10_state_37 (by decide) (by omega) (by omega) (fun c7 => ?_) (fun c7 => ?_)
        · skip
          refine z_aloadn C 0 dX10_state_43 rfl rfl ?_
          refine z_get C 0 (by decide) rfl rfl z_it10 1 (by decide) rfl fl_10_19 rfl dX10_state_44 ?_
          refine z_get C 5 (by decide) rfl rfl z_it3 0 (by decide) rfl fl_10_106 rfl dX10_state_47 ?_
          refine z_iloadn C 1 dX10_state_50 rfl rfl ?_
          refine z_iloadn C 2 dX10_state_51 rfl rfl ?_
          refine z_callV C (cm_X4_fact l i0 wh Ha_sfacts (by omega) (by omega)) mv_10_115 (z_atS 6 4 (by decide) rfl rfl rfl) pd_X4_fact ⟨by omega, by omega⟩ ⟨by omega, by omega⟩ rfl (Nat.le_of_ble_eq_true rfl) dX10_state_52 ?_
          rintro _ _ _ ⟨rfl, rfl, z10, rfl, hz10⟩
          rw [hQ]
          exact z_iret C hrt dX10_state_55 (⟨rfl, rfl, _, rfl, trivial⟩) (by omega) (by omega)
        · skip
          refine z_bipush C dX10_state_40 (by decide) ?_
          rw [hQ]
          exact z_iret C hrt dX10_state_42 (⟨rfl, rfl, _, rfl, trivial⟩) (by omega) (by omega)
    · skip
      refine z_bipush C dX10_state_27 (by decide) ?_
      rw [hQ]
      exact z_iret C hrt dX10_state_29 (⟨rfl, rfl, _, rfl, trivial⟩) (by omega) (by omega)
  · skip
    refine z_bipush C dX10_state_10 (by decide) ?_
    rw [hQ]
    exact z_iret C hrt dX10_state_12 (⟨rfl, rfl, _, rfl, trivial⟩) (by omega) (by omega)
set_option maxRecDepth 20000 in
theorem cm_X10_bound (l : Launch) {D : va_G} {A : Nat → Prop} {ad : Nat → Nat} {ks : z_Ks} {s_edgeCount s_moveCount s_isNeeded s_timesDone s_size s_isGoing s_allTime s_stepCount s_gapCount : Int} {g_edges g_moves g_limits : Nat → Option Nat} {a_sfacts a_sbounds a_facts a_zone a_most a_places a_amounts a_nextPlaces a_nextAmounts a_earliest a_visited a_lastSet a_gapFrom a_gapTo a_gapLeast a_askedPlaces a_askedAmounts : Nat → Int} {Y : Nat → Option va_E} (i0 x y : Int) (Hs_isNeeded : (s_isNeeded = 0 ∨ s_isNeeded = 1)) (Hs_size : (0 ≤ s_size ∧ s_size ≤ 120)) (Ha_sbounds : (∀ j, z_rg (a_sbounds j))) (hi0 : z_rg i0) (hx : z_rg x) (hy : z_rg y) : z_Met l yX10_bound cX10_bound 4 (some .int) 1 23 0 0 D A 27 ad ks [.ref (ad 0), z_v i0, z_v x, z_v y] (z_zc ad ks s_edgeCount s_moveCount s_isNeeded s_timesDone s_size s_isGoing s_allTime s_stepCount s_gapCount g_edges g_moves g_limits a_sfacts a_sbounds a_facts a_zone a_most a_places a_amounts a_nextPlaces a_nextAmounts a_earliest a_visited a_lastSet a_gapFrom a_gapTo a_gapLeast a_askedPlaces a_askedAmounts) Y (fun r S' Y' => S' = (z_zc ad ks s_edgeCount s_moveCount s_isNeeded s_timesDone s_size s_isGoing s_allTime s_stepCount s_gapCount g_edges g_moves g_limits a_sfacts a_sbounds a_facts a_zone a_most a_places a_amounts a_nextPlaces a_nextAmounts a_earliest a_visited a_lastSet a_gapFrom a_gapTo a_gapLeast a_askedPlaces a_askedAmounts) ∧ Y = Y' ∧ ∃ z : Int, r = some (z_v z) ∧ (True)) := by
  refine z_start2 (by decide) (Nat.le_of_ble_eq_true rfl) ?_
  intro p e R s m args below meth c Q C hRf hRc hRs hRl hQ hrt hnm
  refine z_loc (L' := [(0, .ref (ad 0)), (1, z_v i0), (2, z_v x), (3, z_v y)]) [0, 1, 2, 3] rfl ?_
  refine z_aloadn C 0 dX10_bound_0 rfl rfl ?_
  refine z_get C 0 (by decide) rfl rfl z_it10 1 (by decide) rfl fl_10_19 rfl dX10_bound_1 ?_
  refine z_get C 5 (by decide) rfl rfl z_it3 1 (by decide) rfl fl_10_102 rfl dX10_bound_4 ?_
  refine z_if_eq (t := 13) C dX10_bound_7 (by decide) (by omega) (fun c1 => ?_) (fun c1 => ?_)
  · skip
    refine z_aloadn C 0 dX10_bound_13 rfl rfl ?_
    refine z_get C 0 (by decide) rfl rfl z_it10 1 (by decide) rfl fl_10_19 rfl dX10_bound_14 ?_
    refine z_get C 5 (by decide) rfl rfl z_it3 0 (by decide) rfl fl_10_106 rfl dX10_bound_17 ?_
    refine z_iloadn C 1 dX10_bound_20 rfl rfl ?_
    refine z_callV C (cm_X4_isMet l i0 (by omega) (by omega)) mv_10_110 (z_atS 6 4 (by decide) rfl rfl rfl) pd_X4_isMet ⟨by omega, by omega⟩ ⟨by omega, by omega⟩ rfl (Nat.le_of_ble_eq_true rfl) dX10_bound_21 ?_
    rintro _ _ _ ⟨rfl, rfl, z4, rfl, hz4⟩
    refine z_if_eq (t := 41) C dX10_bound_24 (by decide) (by omega) (fun c5 => ?_) (fun c5 => ?_)
    · skip
      refine z_ldc (n := 100002) C kc_10_123 (by decide) dX10_bound_41 ?_
      rw [hQ]
      exact z_iret C hrt dX10_bound_43 (⟨rfl, rfl, _, rfl, trivial⟩) (by omega) (by omega)
    · skip
      refine z_iloadn C 2 dX10_bound_27 rfl rfl ?_
      refine z_callS C (cm_X10_isClockOrZero l x (by omega)) mv_10_120 pd_X10_isClockOrZero ⟨by omega, by omega⟩ ⟨by omega, by omega⟩ rfl (Nat.le_of_ble_eq_true rfl) dX10_bound_28 ?_
      rintro _ _ _ ⟨rfl, rfl, z8, rfl, hz8⟩
      refine z_if_eq (t := 41) C dX10_bound_31 (by decide) (by omega) (fun c9 => ?_) (fun c9 => ?_)
      · skip
        refine z_ldc (n := 100002) C kc_10_123 (by decide) dX10_bound_41 ?_
        rw [hQ]
        exact z_iret C hrt dX10_bound_43 (⟨rfl, rfl, _, rfl, trivial⟩) (by omega) (by omega)
      · skip
        refine z_iloadn C 3 dX10_bound_34 rfl rfl ?_
        refine z_callS C (cm_X10_isClockOrZero l y (by omega)) mv_10_120 pd_X10_isClockOrZero ⟨by omega, by omega⟩ ⟨by omega, by omega⟩ rfl (Nat.le_of_ble_eq_true rfl) dX10_bound_35 ?_
        rintro _ _ _ ⟨rfl, rfl, z12, rfl, hz12⟩
        refine z_if_ne (t := 44) C dX10_bound_38 (by decide) (by omega) (fun c13 => ?_) (fun c13 => ?_)
        · skip
          refine z_aloadn C 0 dX10_bound_44 rfl rfl ?_
          refine z_get C 0 (by decide) rfl rfl z_it10 1 (by decide) rfl fl_10_19 rfl dX10_bound_45 ?_
          refine z_get C 5 (by decide) rfl rfl z_it3 0 (by decide) rfl fl_10_106 rfl dX10_bound_48 ?_
          refine z_iloadn C 1 dX10_bound_51 rfl rfl ?_
          refine z_iloadn C 2 dX10_bound_52 rfl rfl ?_
          refine z_iloadn C 3 dX10_bound_53 rfl rfl ?_
          refine z_callV C (cm_X4_boundOf l i0 x y Ha_sbounds (by omega) (by omega) (by omega)) mv_10_124 (z_atS 6 4 (by decide) rfl rfl rfl) pd_X4_boundOf ⟨by omega, by omega⟩ ⟨by omega, by omega⟩ rfl (Nat.le_of_ble_eq_true rfl) dX10_bound_54 ?_
          rintro _ _ _ ⟨rfl, rfl, z16, rfl, hz16⟩
          rw [hQ]
          exact z_iret C hrt dX10_bound_57 (⟨rfl, rfl, _, rfl, trivial⟩) (by omega) (by omega)
        · skip
          refine z_ldc (n := 100002) C kc_10_123 (by decide) dX10_bound_41 ?_
          rw [hQ]
          exact z_iret C hrt dX10_bound_43 (⟨rfl, rfl, _, rfl, trivial⟩) (by omega) (by omega)
  · skip
    refine z_ldc (n := 100001) C kc_10_119 (by decide) dX10_bound_10 ?_
    rw [hQ]
    exact z_iret C hrt dX10_bound_12 (⟨rfl, rfl, _, rfl, trivial⟩) (by omega) (by omega)
set_option maxRecDepth 20000 in
theorem cm_X10_run (l : Launch) {D : va_G} {A : Nat → Prop} {ad : Nat → Nat} {ks : z_Ks} {s_edgeCount s_moveCount s_isNeeded s_timesDone s_size s_isGoing s_allTime s_stepCount s_gapCount : Int} {g_edges g_moves g_limits : Nat → Option Nat} {a_sfacts a_sbounds a_facts a_zone a_most a_places a_amounts a_nextPlaces a_nextAmounts a_earliest a_visited a_lastSet a_gapFrom a_gapTo a_gapLeast a_askedPlaces a_askedAmounts : Nat → Int} {Y : Nat → Option va_E} (wh : Int) (Hs_isGoing : (s_isGoing = 0 ∨ s_isGoing = 1)) (hwh : z_rg wh) : z_Met l yX10_run cX10_run 2 (some .int) 0 0 0 0 D A 27 ad ks [.ref (ad 0), z_v wh] (z_zc ad ks s_edgeCount s_moveCount s_isNeeded s_timesDone s_size s_isGoing s_allTime s_stepCount s_gapCount g_edges g_moves g_limits a_sfacts a_sbounds a_facts a_zone a_most a_places a_amounts a_nextPlaces a_nextAmounts a_earliest a_visited a_lastSet a_gapFrom a_gapTo a_gapLeast a_askedPlaces a_askedAmounts) Y (fun r S' Y' => S' = (z_zc ad ks s_edgeCount s_moveCount s_isNeeded s_timesDone s_size s_isGoing s_allTime s_stepCount s_gapCount g_edges g_moves g_limits a_sfacts a_sbounds a_facts a_zone a_most a_places a_amounts a_nextPlaces a_nextAmounts a_earliest a_visited a_lastSet a_gapFrom a_gapTo a_gapLeast a_askedPlaces a_askedAmounts) ∧ Y = Y' ∧ ∃ z : Int, r = some (z_v z) ∧ (True)) := by
  refine z_start2 (by decide) (Nat.le_of_ble_eq_true rfl) ?_
  intro p e R s m args below meth c Q C hRf hRc hRs hRl hQ hrt hnm
  refine z_loc (L' := [(0, .ref (ad 0)), (1, z_v wh)]) [0, 1] rfl ?_
  refine z_aloadn C 0 dX10_run_0 rfl rfl ?_
  refine z_get C 0 (by decide) rfl rfl z_it10 2 (by decide) rfl fl_10_26 rfl dX10_run_1 ?_
  refine z_get C 13 (by decide) rfl rfl z_it8 0 (by decide) rfl fl_10_165 rfl dX10_run_4 ?_
  refine z_if_ne (t := 13) C dX10_run_7 (by decide) (by omega) (fun c1 => ?_) (fun c1 => ?_)
  · skip
    refine z_iloadn C 1 dX10_run_13 rfl rfl ?_
    refine z_if_lt (t := 32) C dX10_run_14 (by decide) (by omega) (fun c2 => ?_) (fun c2 => ?_)
    · skip
      refine z_iloadn C 1 dX10_run_32 rfl rfl ?_
      refine z_iconst C dX10_run_33 ?_
      refine z_icmp_le (t := 55) C dX10_run_34 (by decide) (by omega) (by omega) (fun c3 => ?_) (fun c3 => ?_)
      · skip
        refine z_iloadn C 1 dX10_run_55 rfl rfl ?_
        rcases (show (wh ≠ 7 ∧ wh ≠ 8) ∨ wh = 7 ∨ wh = 8 by omega) with w4 | w4 | w4
        · refine z_look (o := 44) (t := 100) C dX10_run_56 (by decide) (by omega) (by simp [Op.lookupswitch.offset, w4]; omega) (by decide) ?_
          refine z_bipush C dX10_run_100 (by decide) ?_
          rw [hQ]
          exact z_iret C hrt dX10_run_102 (⟨rfl, rfl, _, rfl, trivial⟩) (by omega) (by omega)
        · refine z_look (o := 28) (t := 84) C dX10_run_56 (by decide) (by omega) (by rw [w4]; rfl) (by decide) ?_
          refine z_aloadn C 0 dX10_run_84 rfl rfl ?_
          refine z_get C 0 (by decide) rfl rfl z_it10 2 (by decide) rfl fl_10_26 rfl dX10_run_85 ?_
          refine z_get C 13 (by decide) rfl rfl z_it8 3 (by decide) rfl fl_10_191 rfl dX10_run_88 ?_
          rw [hQ]
          exact z_iret C hrt dX10_run_91 (⟨rfl, rfl, _, rfl, trivial⟩) (by omega) (by omega)
        · refine z_look (o := 36) (t := 92) C dX10_run_56 (by decide) (by omega) (by rw [w4]; rfl) (by decide) ?_
          refine z_aloadn C 0 dX10_run_92 rfl rfl ?_
          refine z_get C 0 (by decide) rfl rfl z_it10 2 (by decide) rfl fl_10_26 rfl dX10_run_93 ?_
          refine z_get C 13 (by decide) rfl rfl z_it8 4 (by decide) rfl fl_10_194 rfl dX10_run_96 ?_
          rw [hQ]
          exact z_iret C hrt dX10_run_99 (⟨rfl, rfl, _, rfl, trivial⟩) (by omega) (by omega)
      · skip
        refine z_iloadn C 1 dX10_run_37 rfl rfl ?_
        refine z_bipush C dX10_run_38 (by decide) ?_
        refine z_icmp_ge (t := 55) C dX10_run_40 (by decide) (by omega) (by omega) (fun c5 => ?_) (fun c5 => ?_)
        · skip
          refine z_iloadn C 1 dX10_run_55 rfl rfl ?_
          rcases (show (wh ≠ 7 ∧ wh ≠ 8) ∨ wh = 7 ∨ wh = 8 by omega) with w6 | w6 | w6
          · refine z_look (o := 44) (t := 100) C dX10_run_56 (by decide) (by omega) (by simp [Op.lookupswitch.offset, w6]; omega) (by decide) ?_
            refine z_bipush C dX10_run_100 (by decide) ?_
            rw [hQ]
            exact z_iret C hrt dX10_run_102 (⟨rfl, rfl, _, rfl, trivial⟩) (by omega) (by omega)
          · refine z_look (o := 28) (t := 84) C dX10_run_56 (by decide) (by omega) (by rw [w6]; rfl) (by decide) ?_
            refine z_aloadn C 0 dX10_run_84 rfl rfl ?_
            refine z_get C 0 (by decide) rfl rfl z_it10 2 (by decide) rfl fl_10_26 rfl dX10_run_85 ?_
            refine z_get C 13 (by decide) rfl rfl z_it8 3 (by decide) rfl fl_10_191 rfl dX10_run_88 ?_
            rw [hQ]
            exact z_iret C hrt dX10_run_91 (⟨rfl, rfl, _, rfl, trivial⟩) (by omega) (by omega)
          · refine z_look (o := 36) (t := 92) C dX10_run_56 (by decide) (by omega) (by rw [w6]; rfl) (by decide) ?_
            refine z_aloadn C 0 dX10_run_92 rfl rfl ?_
            refine z_get C 0 (by decide) rfl rfl z_it10 2 (by decide) rfl fl_10_26 rfl dX10_run_93 ?_
            refine z_get C 13 (by decide) rfl rfl z_it8 4 (by decide) rfl fl_10_194 rfl dX10_run_96 ?_
            rw [hQ]
            exact z_iret C hrt dX10_run_99 (⟨rfl, rfl, _, rfl, trivial⟩) (by omega) (by omega)
        · skip
          refine z_aloadn C 0 dX10_run_43 rfl rfl ?_
          refine z_get C 0 (by decide) rfl rfl z_it10 2 (by decide) rfl fl_10_26 rfl dX10_run_44 ?_
          refine z_get C 13 (by decide) rfl rfl z_it8 2 (by decide) rfl fl_10_188 rfl dX10_run_47 ?_
          refine z_iloadn C 1 dX10_run_50 rfl rfl ?_
          refine z_iconst C dX10_run_51 ?_
          refine z_isub C dX10_run_52 ?_
          refine z_iald C 15 (by decide) rfl (by decide) (by omega) (by omega) dX10_run_53 ?_
          rw [hQ]
          exact z_iret C hrt dX10_run_54 (⟨rfl, rfl, _, rfl, trivial⟩) (by omega) (by omega)
    · skip
      refine z_iloadn C 1 dX10_run_17 rfl rfl ?_
      refine z_iconst C dX10_run_18 ?_
      refine z_icmp_ge (t := 32) C dX10_run_19 (by decide) (by omega) (by omega) (fun c7 => ?_) (fun c7 => ?_)
      · skip
        refine z_iloadn C 1 dX10_run_32 rfl rfl ?_
        refine z_iconst C dX10_run_33 ?_
        refine z_icmp_le (t := 55) C dX10_run_34 (by decide) (by omega) (by omega) (fun c8 => ?_) (fun c8 => ?_)
        · skip
          refine z_iloadn C 1 dX10_run_55 rfl rfl ?_
          rcases (show (wh ≠ 7 ∧ wh ≠ 8) ∨ wh = 7 ∨ wh = 8 by omega) with w9 | w9 | w9
          · refine z_look (o := 44) (t := 100) C dX10_run_56 (by decide) (by omega) (by simp [Op.lookupswitch.offset, w9]; omega) (by decide) ?_
            refine z_bipush C dX10_run_100 (by decide) ?_
            rw [hQ]
            exact z_iret C hrt dX10_run_102 (⟨rfl, rfl, _, rfl, trivial⟩) (by omega) (by omega)
          · refine z_look (o := 28) (t := 84) C dX10_run_56 (by decide) (by omega) (by rw [w9]; rfl) (by decide) ?_
            refine z_aloadn C 0 dX10_run_84 rfl rfl ?_
            refine z_get C 0 (by decide) rfl rfl z_it10 2 (by decide) rfl fl_10_26 rfl dX10_run_85 ?_
            refine z_get C 13 (by decide) rfl rfl z_it8 3 (by decide) rfl fl_10_191 rfl dX10_run_88 ?_
            rw [hQ]
            exact z_iret C hrt dX10_run_91 (⟨rfl, rfl, _, rfl, trivial⟩) (by omega) (by omega)
          · refine z_look (o := 36) (t := 92) C dX10_run_56 (by decide) (by omega) (by rw [w9]; rfl) (by decide) ?_
            refine z_aloadn C 0 dX10_run_92 rfl rfl ?_
            refine z_get C 0 (by decide) rfl rfl z_it10 2 (by decide) rfl fl_10_26 rfl dX10_run_93 ?_
            refine z_get C 13 (by decide) rfl rfl z_it8 4 (by decide) rfl fl_10_194 rfl dX10_run_96 ?_
            rw [hQ]
            exact z_iret C hrt dX10_run_99 (⟨rfl, rfl, _, rfl, trivial⟩) (by omega) (by omega)
        · skip
          refine z_iloadn C 1 dX10_run_37 rfl rfl ?_
          refine z_bipush C dX10_run_38 (by decide) ?_
          refine z_icmp_ge (t := 55) C dX10_run_40 (by decide) (by omega) (by omega) (fun c10 => ?_) (fun c10 => ?_)
          · skip
            refine z_iloadn C 1 dX10_run_55 rfl rfl ?_
            rcases (show (wh ≠ 7 ∧ wh ≠ 8) ∨ wh = 7 ∨ wh = 8 by omega) with w11 | w11 | w11
            · refine z_look (o := 44) (t := 100) C dX10_run_56 (by decide) (by omega) (by simp [Op.lookupswitch.offset, w11]; omega) (by decide) ?_
              refine z_bipush C dX10_run_100 (by decide) ?_
              rw [hQ]
              exact z_iret C hrt dX10_run_102 (⟨rfl, rfl, _, rfl, trivial⟩) (by omega) (by omega)
            · refine z_look (o := 28) (t := 84) C dX10_run_56 (by decide) (by omega) (by rw [w11]; rfl) (by decide) ?_
              refine z_aloadn C 0 dX10_run_84 rfl rfl ?_
              refine z_get C 0 (by decide) rfl rfl z_it10 2 (by decide) rfl fl_10_26 rfl dX10_run_85 ?_
              refine z_get C 13 (by decide) rfl rfl z_it8 3 (by decide) rfl fl_10_191 rfl dX10_run_88 ?_
              rw [hQ]
              exact z_iret C hrt dX10_run_91 (⟨rfl, rfl, _, rfl, trivial⟩) (by omega) (by omega)
            · refine z_look (o := 36) (t := 92) C dX10_run_56 (by decide) (by omega) (by rw [w11]; rfl) (by decide) ?_
              refine z_aloadn C 0 dX10_run_92 rfl rfl ?_
              refine z_get C 0 (by decide) rfl rfl z_it10 2 (by decide) rfl fl_10_26 rfl dX10_run_93 ?_
              refine z_get C 13 (by decide) rfl rfl z_it8 4 (by decide) rfl fl_10_194 rfl dX10_run_96 ?_
              rw [hQ]
              exact z_iret C hrt dX10_run_99 (⟨rfl, rfl, _, rfl, trivial⟩) (by omega) (by omega)
          · skip
            refine z_aloadn C 0 dX10_run_43 rfl rfl ?_
            refine z_get C 0 (by decide) rfl rfl z_it10 2 (by decide) rfl fl_10_26 rfl dX10_run_44 ?_
            refine z_get C 13 (by decide) rfl rfl z_it8 2 (by decide) rfl fl_10_188 rfl dX10_run_47 ?_
            refine z_iloadn C 1 dX10_run_50 rfl rfl ?_
            refine z_iconst C dX10_run_51 ?_
            refine z_isub C dX10_run_52 ?_
            refine z_iald C 15 (by decide) rfl (by decide) (by omega) (by omega) dX10_run_53 ?_
            rw [hQ]
            exact z_iret C hrt dX10_run_54 (⟨rfl, rfl, _, rfl, trivial⟩) (by omega) (by omega)
      · skip
        refine z_aloadn C 0 dX10_run_22 rfl rfl ?_
        refine z_get C 0 (by decide) rfl rfl z_it10 2 (by decide) rfl fl_10_26 rfl dX10_run_23 ?_
        refine z_get C 13 (by decide) rfl rfl z_it8 1 (by decide) rfl fl_10_185 rfl dX10_run_26 ?_
        refine z_iloadn C 1 dX10_run_29 rfl rfl ?_
        refine z_iald C 14 (by decide) rfl (by decide) (by omega) (by omega) dX10_run_30 ?_
        rw [hQ]
        exact z_iret C hrt dX10_run_31 (⟨rfl, rfl, _, rfl, trivial⟩) (by omega) (by omega)
  · skip
    refine z_bipush C dX10_run_10 (by decide) ?_
    rw [hQ]
    exact z_iret C hrt dX10_run_12 (⟨rfl, rfl, _, rfl, trivial⟩) (by omega) (by omega)
set_option maxRecDepth 20000 in
theorem cm_X10_about (l : Launch) {D : va_G} {A : Nat → Prop} {ad : Nat → Nat} {ks : z_Ks} {s_edgeCount s_moveCount s_isNeeded s_timesDone s_size s_isGoing s_allTime s_stepCount s_gapCount : Int} {g_edges g_moves g_limits : Nat → Option Nat} {a_sfacts a_sbounds a_facts a_zone a_most a_places a_amounts a_nextPlaces a_nextAmounts a_earliest a_visited a_lastSet a_gapFrom a_gapTo a_gapLeast a_askedPlaces a_askedAmounts : Nat → Int} {Y : Nat → Option va_E} (e0 wh : Int) (Hs_edgeCount : (0 ≤ s_edgeCount ∧ s_edgeCount ≤ 20)) (he0 : z_rg e0) (hwh : z_rg wh) (HE : ∀ j : Nat, (j : Int) < s_edgeCount → ∃ q, g_edges j = some q ∧ z_E ks Y q) : z_Met l yX10_about cX10_about 4 (some .int) 1 21 0 0 D A 27 ad ks [.ref (ad 0), z_v e0, z_v wh] (z_zc ad ks s_edgeCount s_moveCount s_isNeeded s_timesDone s_size s_isGoing s_allTime s_stepCount s_gapCount g_edges g_moves g_limits a_sfacts a_sbounds a_facts a_zone a_most a_places a_amounts a_nextPlaces a_nextAmounts a_earliest a_visited a_lastSet a_gapFrom a_gapTo a_gapLeast a_askedPlaces a_askedAmounts) Y (fun r S' Y' => S' = (z_zc ad ks s_edgeCount s_moveCount s_isNeeded s_timesDone s_size s_isGoing s_allTime s_stepCount s_gapCount g_edges g_moves g_limits a_sfacts a_sbounds a_facts a_zone a_most a_places a_amounts a_nextPlaces a_nextAmounts a_earliest a_visited a_lastSet a_gapFrom a_gapTo a_gapLeast a_askedPlaces a_askedAmounts) ∧ Y = Y' ∧ ∃ z : Int, r = some (z_v z) ∧ (True)) := by
  refine z_start2 (by decide) (Nat.le_of_ble_eq_true rfl) ?_
  intro p e R s m args below meth c Q C hRf hRc hRs hRl hQ hrt hnm
  refine z_loc (L' := [(0, .ref (ad 0)), (1, z_v e0), (2, z_v wh)]) [0, 1, 2] rfl ?_
  refine z_aloadn C 0 dX10_about_0 rfl rfl ?_
  refine z_get C 0 (by decide) rfl rfl z_it10 0 (by decide) rfl fl_10_12 rfl dX10_about_1 ?_
  refine z_iloadn C 1 dX10_about_4 rfl rfl ?_
  refine z_callV C (cm_X2_isEdge l e0 (by omega) (by omega)) mv_10_67 (z_atS 1 2 (by decide) rfl rfl rfl) pd_X2_isEdge ⟨by omega, by omega⟩ ⟨by omega, by omega⟩ rfl (Nat.le_of_ble_eq_true rfl) dX10_about_5 ?_
  rintro _ _ _ ⟨rfl, rfl, z3, rfl, hz3⟩
  refine z_if_ne (t := 14) C dX10_about_8 (by decide) (by omega) (fun c4 => ?_) (fun c4 => ?_)
  · skip
    refine z_aloadn C 0 dX10_about_14 rfl rfl ?_
    refine z_get C 0 (by decide) rfl rfl z_it10 0 (by decide) rfl fl_10_12 rfl dX10_about_15 ?_
    refine z_get C 1 (by decide) rfl rfl z_it2 0 (by decide) rfl fl_10_76 rfl dX10_about_18 ?_
    refine z_iloadn C 1 dX10_about_21 rfl rfl ?_
    obtain ⟨q5, eq5, hq5⟩ := HE (e0 : Int).toNat (by omega)
    refine z_aaldS C 2 1 (by decide) rfl rfl (by decide) (by omega) (by omega) eq5 dX10_about_22 ?_
    refine z_astoren (L' := [(3, .ref q5), (0, .ref (ad 0)), (1, z_v e0), (2, z_v wh)]) C dX10_about_23 rfl (by decide) rfl ?_
    refine z_iloadn C 3 dX10_about_24 rfl rfl ?_
    rcases (show (wh < 0 ∨ 5 < wh) ∨ wh = 0 ∨ wh = 1 ∨ wh = 2 ∨ wh = 3 ∨ wh = 4 ∨ wh = 5 by omega) with w6 | w6 | w6 | w6 | w6 | w6 | w6
    · refine z_tabOut (t := 97) C dX10_about_25 (by omega) w6 (by decide) ?_
      refine z_bipush C dX10_about_97 (by decide) ?_
      rw [hQ]
      exact z_iret C hrt dX10_about_99 (⟨rfl, rfl, _, rfl, trivial⟩) (by omega) (by omega)
    · refine z_tabIn (o := 39) (t := 64) C wh dX10_about_25 (by omega) (by omega) (by omega) (by rw [w6]; rfl) (by decide) ?_
      refine z_aloadn C 0 dX10_about_64 rfl rfl ?_
      obtain ⟨md7, fd7, td7, kd7, rd7, gd7, yd7, ad7, bd7⟩ := id hq5
      refine z_getY C yd7 rfl z_it0 0 (by decide) rfl fl_10_201 rfl dX10_about_65 ?_
      rw [hQ]
      exact z_iret C hrt dX10_about_68 (⟨rfl, rfl, _, rfl, trivial⟩) (by omega) (by omega)
    · refine z_tabIn (o := 44) (t := 69) C wh dX10_about_25 (by omega) (by omega) (by omega) (by rw [w6]; rfl) (by decide) ?_
      refine z_aloadn C 0 dX10_about_69 rfl rfl ?_
      obtain ⟨md8, fd8, td8, kd8, rd8, gd8, yd8, ad8, bd8⟩ := id hq5
      refine z_getY C yd8 rfl z_it0 1 (by decide) rfl fl_10_204 rfl dX10_about_70 ?_
      rw [hQ]
      exact z_iret C hrt dX10_about_73 (⟨rfl, rfl, _, rfl, trivial⟩) (by omega) (by omega)
    · refine z_tabIn (o := 49) (t := 74) C wh dX10_about_25 (by omega) (by omega) (by omega) (by rw [w6]; rfl) (by decide) ?_
      refine z_aloadn C 0 dX10_about_74 rfl rfl ?_
      obtain ⟨md9, fd9, td9, kd9, rd9, gd9, yd9, ad9, bd9⟩ := id hq5
      refine z_getY C yd9 rfl z_it0 2 (by decide) rfl fl_10_207 rfl dX10_about_75 ?_
      rw [hQ]
      exact z_iret C hrt dX10_about_78 (⟨rfl, rfl, _, rfl, trivial⟩) (by omega) (by omega)
    · refine z_tabIn (o := 54) (t := 79) C wh dX10_about_25 (by omega) (by omega) (by omega) (by rw [w6]; rfl) (by decide) ?_
      refine z_aloadn C 0 dX10_about_79 rfl rfl ?_
      obtain ⟨md10, fd10, td10, kd10, rd10, gd10, yd10, ad10, bd10⟩ := id hq5
      refine z_getY C yd10 rfl z_it0 3 (by decide) rfl fl_10_210 rfl dX10_about_80 ?_
      rw [hQ]
      exact z_iret C hrt dX10_about_83 (⟨rfl, rfl, _, rfl, trivial⟩) (by omega) (by omega)
    · refine z_tabIn (o := 59) (t := 84) C wh dX10_about_25 (by omega) (by omega) (by omega) (by rw [w6]; rfl) (by decide) ?_
      refine z_aloadn C 0 dX10_about_84 rfl rfl ?_
      obtain ⟨md11, fd11, td11, kd11, rd11, gd11, yd11, ad11, bd11⟩ := id hq5
      refine z_getY C yd11 rfl z_it0 4 (by decide) rfl fl_10_213 rfl dX10_about_85 ?_
      rw [hQ]
      exact z_iret C hrt dX10_about_88 (⟨rfl, rfl, _, rfl, trivial⟩) (by omega) (by omega)
    · refine z_tabIn (o := 64) (t := 89) C wh dX10_about_25 (by omega) (by omega) (by omega) (by rw [w6]; rfl) (by decide) ?_
      refine z_aloadn C 0 dX10_about_89 rfl rfl ?_
      obtain ⟨md12, fd12, td12, kd12, rd12, gd12, yd12, ad12, bd12⟩ := id hq5
      refine z_getY C yd12 rfl z_it0 5 (by decide) rfl fl_10_80 rfl dX10_about_90 ?_
      obtain ⟨td13, nd13, gd13, yd13, wd13, ad13, bd13⟩ := id bd12
      refine z_getY C yd13 rfl z_it6 1 (by decide) rfl fl_10_216 rfl dX10_about_93 ?_
      rw [hQ]
      exact z_iret C hrt dX10_about_96 (⟨rfl, rfl, _, rfl, trivial⟩) (by omega) (by omega)
  · skip
    refine z_bipush C dX10_about_11 (by decide) ?_
    rw [hQ]
    exact z_iret C hrt dX10_about_13 (⟨rfl, rfl, _, rfl, trivial⟩) (by omega) (by omega)
set_option maxRecDepth 20000 in
theorem cm_X10_mix (l : Launch) {D : va_G} {A : Nat → Prop} {ad : Nat → Nat} {ks : z_Ks} {N : Nat} {S : Nat → va_E} {Y : Nat → Option va_E} (h0 v : Int64) : z_Met l yX10_mix cX10_mix 4 (some .long) 0 0 0 0 D A N ad ks [.long h0, .long v] S Y (fun r S' Y' => S' = S ∧ Y = Y' ∧ ∃ z : Int64, r = some (.long z)) := by
  refine z_start2 (by decide) (Nat.le_of_ble_eq_true rfl) ?_
  intro p e R s m args below meth c Q C hRf hRc hRs hRl hQ hrt hnm
  refine z_loc (L' := [(0, .long h0), (2, .long v)]) [0, 1] rfl ?_
  refine z_ldc2 C kl_10_255 dX10_mix_0 ?_
  refine z_lloadn C 0 dX10_mix_3 rfl rfl ?_
  refine z_lmul C dX10_mix_4 ?_
  refine z_lloadn C 1 dX10_mix_5 rfl rfl ?_
  refine z_ladd C dX10_mix_6 ?_
  rw [hQ]
  exact z_lret C hrt dX10_mix_7 (⟨rfl, rfl, _, rfl⟩) (by omega) (by omega)
set_option maxRecDepth 20000 in
theorem cm_X10_mixTests (l : Launch) {D : va_G} {A : Nat → Prop} {ad : Nat → Nat} {ks : z_Ks} {N : Nat} {S : Nat → va_E} {Y : Nat → Option va_E} (h0 : Int64) (q : Nat) (hq : z_TL ks Y q) : z_Met l yX10_mixTests cX10_mixTests 7 (some .long) 1 23 0 0 D A N ad ks [.long h0, .ref q] S Y (fun r S' Y' => S' = S ∧ Y = Y' ∧ ∃ z : Int64, r = some (.long z)) := by
  refine z_start2 (by decide) (Nat.le_of_ble_eq_true rfl) ?_
  intro p e R s m args below meth c Q C hRf hRc hRs hRl hQ hrt hnm
  refine z_loc (L' := [(0, .long h0), (2, .ref q)]) [0, 1] rfl ?_
  refine z_lloadn C 0 dX10_mixTests_0 rfl rfl ?_
  refine z_lstoren (L' := [(3, .long h0), (0, .long h0), (2, .ref q)]) C dX10_mixTests_1 rfl (by decide) rfl ?_
  refine z_iconst C dX10_mixTests_2 ?_
  refine z_istore (L' := [(5, z_v 0), (3, .long h0), (0, .long h0), (2, .ref q)]) C dX10_mixTests_3 (by decide) rfl ?_
  have L5 : ∀ (n : Nat), ∀ (i3 : Int64) (i5 : Int), (0 ≤ i5 ∧ i5 ≤ 2) → ((2 : Int) - i5).toNat < n → z_V p l e R s m args below meth c Q D A N ad 7 S Y 0 0 5 [(2, .ref q), (3, .long i3), (5, z_v i5)] [] := by
    intro n
    induction n with
    | zero => intro i3 i5 I5 hm; exact absurd hm (Nat.not_lt_zero _)
    | succ n ih5 =>
      intro i3 i5 I5 hm
      refine z_iload C 2 dX10_mixTests_5 rfl ?_
      refine z_aloadn C 0 dX10_mixTests_7 rfl rfl ?_
      obtain ⟨td1, nd1, gd1, yd1, wd1, ad1, bd1⟩ := id hq
      refine z_getY C yd1 rfl z_it6 1 (by decide) rfl fl_10_216 rfl dX10_mixTests_8 ?_
      refine z_icmp_ge (t := 58) C dX10_mixTests_11 (by decide) (by omega) (by omega) (fun c2 => ?_) (fun c2 => ?_)
      · skip
        refine z_lloadn C 1 dX10_mixTests_58 rfl rfl ?_
        rw [hQ]
        exact z_lret C hrt dX10_mixTests_59 (⟨rfl, rfl, _, rfl⟩) (by omega) (by omega)
      · skip
        refine z_aloadn C 0 dX10_mixTests_14 rfl rfl ?_
        refine z_getY C yd1 rfl z_it6 0 (by decide) rfl fl_10_257 rfl dX10_mixTests_15 ?_
        refine z_iload C 2 dX10_mixTests_18 rfl ?_
        obtain ⟨q3, eq3, hq3⟩ := bd1 (i5 : Int).toNat (by omega)
        refine z_aaldT C 4 wd1 rfl (by decide) (by omega) (by omega) eq3 dX10_mixTests_20 ?_
        refine z_astore (L' := [(6, .ref q3), (2, .ref q), (3, .long i3), (5, z_v i5)]) C dX10_mixTests_21 (by decide) rfl ?_
        refine z_lloadn C 2 dX10_mixTests_23 rfl rfl ?_
        refine z_aload C 0 dX10_mixTests_24 rfl ?_
        obtain ⟨cd4, sd4, nd4, yd4, ad4⟩ := id hq3
        refine z_getY C yd4 rfl z_it5 0 (by decide) rfl fl_10_261 rfl dX10_mixTests_26 ?_
        refine z_i2l C dX10_mixTests_29 ?_
        refine z_callS C (cm_X10_mix l i3 ((z_i cd4).toInt64)) mv_10_264 pd_X10_mix ⟨by omega, by omega⟩ ⟨by omega, by omega⟩ rfl (Nat.le_of_ble_eq_true rfl) dX10_mixTests_30 ?_
        rintro _ _ _ ⟨rfl, rfl, z7, rfl⟩
        refine z_aload C 0 dX10_mixTests_33 rfl ?_
        refine z_getY C yd4 rfl z_it5 1 (by decide) rfl fl_10_268 rfl dX10_mixTests_35 ?_
        refine z_i2l C dX10_mixTests_38 ?_
        refine z_callS C (cm_X10_mix l z7 ((z_i sd4).toInt64)) mv_10_264 pd_X10_mix ⟨by omega, by omega⟩ ⟨by omega, by omega⟩ rfl (Nat.le_of_ble_eq_true rfl) dX10_mixTests_39 ?_
        rintro _ _ _ ⟨rfl, rfl, z10, rfl⟩
        refine z_aload C 0 dX10_mixTests_42 rfl ?_
        refine z_getY C yd4 rfl z_it5 2 (by decide) rfl fl_10_271 rfl dX10_mixTests_44 ?_
        refine z_i2l C dX10_mixTests_47 ?_
        refine z_callS C (cm_X10_mix l z10 ((z_i nd4).toInt64)) mv_10_264 pd_X10_mix ⟨by omega, by omega⟩ ⟨by omega, by omega⟩ rfl (Nat.le_of_ble_eq_true rfl) dX10_mixTests_48 ?_
        rintro _ _ _ ⟨rfl, rfl, z13, rfl⟩
        refine z_lstoren (L' := [(3, .long z13), (6, .ref q3), (2, .ref q), (5, z_v i5)]) C dX10_mixTests_51 rfl (by decide) rfl ?_
        refine z_iinc (L' := [(5, z_v (i5 + 1)), (3, .long z13), (6, .ref q3), (2, .ref q)]) C 3 dX10_mixTests_52 rfl (by decide) rfl ?_
        refine z_goto (t := 5) C dX10_mixTests_55 (by decide) ?_
        refine z_loc (L' := [(2, .ref q), (3, .long z13), (5, z_v (i5 + 1))]) [3, 1, 0] rfl ?_
        exact ih5 z13 (i5 + 1) (by omega) (by omega)
  refine z_loc (L' := [(2, .ref q), (3, .long h0), (5, z_v 0)]) [3, 1, 0] rfl ?_
  exact (L5 (((2 : Int) - 0).toNat + 1)) h0 0 (by omega) (Nat.lt_succ_self _)
set_option maxRecDepth 20000 in
theorem cm_X10_mixEdges (l : Launch) {D : va_G} {A : Nat → Prop} {ad : Nat → Nat} {ks : z_Ks} {s_edgeCount s_moveCount s_isNeeded s_timesDone s_size s_isGoing s_allTime s_stepCount s_gapCount : Int} {g_edges g_moves g_limits : Nat → Option Nat} {a_sfacts a_sbounds a_facts a_zone a_most a_places a_amounts a_nextPlaces a_nextAmounts a_earliest a_visited a_lastSet a_gapFrom a_gapTo a_gapLeast a_askedPlaces a_askedAmounts : Nat → Int} {Y : Nat → Option va_E} (h0 : Int64) (Hs_edgeCount : (0 ≤ s_edgeCount ∧ s_edgeCount ≤ 20)) (HE : ∀ j : Nat, (j : Int) < s_edgeCount → ∃ q, g_edges j = some q ∧ z_E ks Y q) : z_Met l yX10_mixEdges cX10_mixEdges 7 (some .long) 2 49 0 0 D A 27 ad ks [.ref (ad 0), .long h0] (z_zc ad ks s_edgeCount s_moveCount s_isNeeded s_timesDone s_size s_isGoing s_allTime s_stepCount s_gapCount g_edges g_moves g_limits a_sfacts a_sbounds a_facts a_zone a_most a_places a_amounts a_nextPlaces a_nextAmounts a_earliest a_visited a_lastSet a_gapFrom a_gapTo a_gapLeast a_askedPlaces a_askedAmounts) Y (fun r S' Y' => S' = (z_zc ad ks s_edgeCount s_moveCount s_isNeeded s_timesDone s_size s_isGoing s_allTime s_stepCount s_gapCount g_edges g_moves g_limits a_sfacts a_sbounds a_facts a_zone a_most a_places a_amounts a_nextPlaces a_nextAmounts a_earliest a_visited a_lastSet a_gapFrom a_gapTo a_gapLeast a_askedPlaces a_askedAmounts) ∧ Y = Y' ∧ ∃ z : Int64, r = some (.long z)) := by
  refine z_start2 (by decide) (Nat.le_of_ble_eq_true rfl) ?_
  intro p e R s m args below meth c Q C hRf hRc hRs hRl hQ hrt hnm
  refine z_loc (L' := [(0, .ref (ad 0)), (1, .long h0)]) [0, 1] rfl ?_
  refine z_lloadn C 1 dX10_mixEdges_0 rfl rfl ?_
  refine z_lstoren (L' := [(3, .long h0), (0, .ref (ad 0)), (1, .long h0)]) C dX10_mixEdges_1 rfl (by decide) rfl ?_
  refine z_iconst C dX10_mixEdges_2 ?_
  refine z_istore (L' := [(5, z_v 0), (3, .long h0), (0, .ref (ad 0)), (1, .long h0)]) C dX10_mixEdges_3 (by decide) rfl ?_
  have L5 : ∀ (n : Nat), ∀ (i3 : Int64) (i5 : Int), (0 ≤ i5 ∧ i5 ≤ 20) → ((20 : Int) - i5).toNat < n → z_V p l e R s m args below meth c Q D A 27 ad 7 (z_zc ad ks s_edgeCount s_moveCount s_isNeeded s_timesDone s_size s_isGoing s_allTime s_stepCount s_gapCount g_edges g_moves g_limits a_sfacts a_sbounds a_facts a_zone a_most a_places a_amounts a_nextPlaces a_nextAmounts a_earliest a_visited a_lastSet a_gapFrom a_gapTo a_gapLeast a_askedPlaces a_askedAmounts) Y 0 0 5 [(0, .ref (ad 0)), (3, .long i3), (5, z_v i5)] [] := by
    intro n
    induction n with
    | zero => intro i3 i5 I5 hm; exact absurd hm (Nat.not_lt_zero _)
    | succ n ih5 =>
      intro i3 i5 I5 hm
      refine z_iload C 2 dX10_mixEdges_5 rfl ?_
      refine z_aloadn C 0 dX10_mixEdges_7 rfl rfl ?_
      refine z_get C 0 (by decide) rfl rfl z_it10 0 (by decide) rfl fl_10_12 rfl dX10_mixEdges_8 ?_
      refine z_get C 1 (by decide) rfl rfl z_it2 1 (by decide) rfl fl_10_51 rfl dX10_mixEdges_11 ?_
      refine z_icmp_ge (t := 70) C dX10_mixEdges_14 (by decide) (by omega) (by omega) (fun c1 => ?_) (fun c1 => ?_)
      · skip
        refine z_lloadn C 1 dX10_mixEdges_70 rfl rfl ?_
        rw [hQ]
        exact z_lret C hrt dX10_mixEdges_71 (⟨rfl, rfl, _, rfl⟩) (by omega) (by omega)
      · skip
        refine z_iconst C dX10_mixEdges_17 ?_
        refine z_istore (L' := [(6, z_v 0), (0, .ref (ad 0)), (3, .long i3), (5, z_v i5)]) C dX10_mixEdges_18 (by decide) rfl ?_
        have L20 : ∀ (n : Nat), ∀ (i3 : Int64) (i6 : Int), (0 ≤ i6 ∧ i6 ≤ 6) → ((6 : Int) - i6).toNat < n → z_V p l e R s m args below meth c Q D A 27 ad 7 (z_zc ad ks s_edgeCount s_moveCount s_isNeeded s_timesDone s_size s_isGoing s_allTime s_stepCount s_gapCount g_edges g_moves g_limits a_sfacts a_sbounds a_facts a_zone a_most a_places a_amounts a_nextPlaces a_nextAmounts a_earliest a_visited a_lastSet a_gapFrom a_gapTo a_gapLeast a_askedPlaces a_askedAmounts) Y 0 0 20 [(0, .ref (ad 0)), (3, .long i3), (5, z_v i5), (6, z_v i6)] [] := by
          intro n
          induction n with
          | zero => intro i3 i6 I6 hm; exact absurd hm (Nat.not_lt_zero _)
          | succ n ih20 =>
            intro i3 i6 I6 hm
            refine z_iload C 3 dX10_mixEdges_20 rfl ?_
            refine z_iconst C dX10_mixEdges_22 ?_
            refine z_icmp_gt (t := 46) C dX10_mixEdges_23 (by decide) (by omega) (by omega) (fun c2 => ?_) (fun c2 => ?_)
            · skip
              refine z_lloadn C 1 dX10_mixEdges_46 rfl rfl ?_
              refine z_aloadn C 0 dX10_mixEdges_47 rfl rfl ?_
              refine z_get C 0 (by decide) rfl rfl z_it10 0 (by decide) rfl fl_10_12 rfl dX10_mixEdges_48 ?_
              refine z_get C 1 (by decide) rfl rfl z_it2 0 (by decide) rfl fl_10_76 rfl dX10_mixEdges_51 ?_
              refine z_iload C 2 dX10_mixEdges_54 rfl ?_
              obtain ⟨q3, eq3, hq3⟩ := HE (i5 : Int).toNat (by omega)
              refine z_aaldS C 2 1 (by decide) rfl rfl (by decide) (by omega) (by omega) eq3 dX10_mixEdges_56 ?_
              obtain ⟨md4, fd4, td4, kd4, rd4, gd4, yd4, ad4, bd4⟩ := id hq3
              refine z_getY C yd4 rfl z_it0 5 (by decide) rfl fl_10_80 rfl dX10_mixEdges_57 ?_
              refine z_callS C (cm_X10_mixTests l i3 gd4 bd4) mv_10_277 pd_X10_mixTests ⟨by omega, by omega⟩ ⟨by omega, by omega⟩ rfl (Nat.le_of_ble_eq_true rfl) dX10_mixEdges_60 ?_
              rintro _ _ _ ⟨rfl, rfl, z7, rfl⟩
              refine z_lstoren (L' := [(3, .long z7), (0, .ref (ad 0)), (5, z_v i5), (6, z_v i6)]) C dX10_mixEdges_63 rfl (by decide) rfl ?_
              refine z_iinc (L' := [(5, z_v (i5 + 1)), (3, .long z7), (0, .ref (ad 0)), (6, z_v i6)]) C 2 dX10_mixEdges_64 rfl (by decide) rfl ?_
              refine z_goto (t := 5) C dX10_mixEdges_67 (by decide) ?_
              refine z_loc (L' := [(0, .ref (ad 0)), (3, .long z7), (5, z_v (i5 + 1))]) [2, 1, 0] rfl ?_
              exact ih5 z7 (i5 + 1) (by omega) (by omega)
            · skip
              refine z_lloadn C 1 dX10_mixEdges_26 rfl rfl ?_
              refine z_aloadn C 0 dX10_mixEdges_27 rfl rfl ?_
              refine z_iload C 2 dX10_mixEdges_28 rfl ?_
              refine z_iload C 3 dX10_mixEdges_30 rfl ?_
              refine z_callV C (cm_X10_about l i5 i6 (by omega) (by omega) (by omega) HE) mv_10_274 (z_atS 0 10 (by decide) rfl rfl rfl) pd_X10_about ⟨by omega, by omega⟩ ⟨by omega, by omega⟩ rfl (Nat.le_of_ble_eq_true rfl) dX10_mixEdges_32 ?_
              rintro _ _ _ ⟨rfl, rfl, z10, rfl, hz10⟩
              refine z_i2l C dX10_mixEdges_35 ?_
              refine z_callS C (cm_X10_mix l i3 ((z_i z10).toInt64)) mv_10_264 pd_X10_mix ⟨by omega, by omega⟩ ⟨by omega, by omega⟩ rfl (Nat.le_of_ble_eq_true rfl) dX10_mixEdges_36 ?_
              rintro _ _ _ ⟨rfl, rfl, z13, rfl⟩
              refine z_lstoren (L' := [(3, .long z13), (0, .ref (ad 0)), (5, z_v i5), (6, z_v i6)]) C dX10_mixEdges_39 rfl (by decide) rfl ?_
              refine z_iinc (L' := [(6, z_v (i6 + 1)), (3, .long z13), (0, .ref (ad 0)), (5, z_v i5)]) C 3 dX10_mixEdges_40 rfl (by decide) rfl ?_
              refine z_goto (t := 20) C dX10_mixEdges_43 (by decide) ?_
              refine z_loc (L' := [(0, .ref (ad 0)), (3, .long z13), (5, z_v i5), (6, z_v (i6 + 1))]) [2, 1, 3, 0] rfl ?_
              exact ih20 z13 (i6 + 1) (by omega) (by omega)
        refine z_loc (L' := [(0, .ref (ad 0)), (3, .long i3), (5, z_v i5), (6, z_v 0)]) [1, 2, 3, 0] rfl ?_
        exact (L20 (((6 : Int) - 0).toNat + 1)) i3 0 (by omega) (Nat.lt_succ_self _)
  refine z_loc (L' := [(0, .ref (ad 0)), (3, .long h0), (5, z_v 0)]) [2, 1, 0] rfl ?_
  exact (L5 (((20 : Int) - 0).toNat + 1)) h0 0 (by omega) (Nat.lt_succ_self _)
set_option maxRecDepth 20000 in
theorem cm_X10_mixLimits (l : Launch) {D : va_G} {A : Nat → Prop} {ad : Nat → Nat} {ks : z_Ks} {s_edgeCount s_moveCount s_isNeeded s_timesDone s_size s_isGoing s_allTime s_stepCount s_gapCount : Int} {g_edges g_moves g_limits : Nat → Option Nat} {a_sfacts a_sbounds a_facts a_zone a_most a_places a_amounts a_nextPlaces a_nextAmounts a_earliest a_visited a_lastSet a_gapFrom a_gapTo a_gapLeast a_askedPlaces a_askedAmounts : Nat → Int} {Y : Nat → Option va_E} (h0 : Int64) (HL : ∀ j : Nat, (j : Int) < 18 → ∃ q, g_limits j = some q ∧ z_TL ks Y q) : z_Met l yX10_mixLimits cX10_mixLimits 8 (some .long) 2 49 0 0 D A 27 ad ks [.ref (ad 0), .long h0] (z_zc ad ks s_edgeCount s_moveCount s_isNeeded s_timesDone s_size s_isGoing s_allTime s_stepCount s_gapCount g_edges g_moves g_limits a_sfacts a_sbounds a_facts a_zone a_most a_places a_amounts a_nextPlaces a_nextAmounts a_earliest a_visited a_lastSet a_gapFrom a_gapTo a_gapLeast a_askedPlaces a_askedAmounts) Y (fun r S' Y' => S' = (z_zc ad ks s_edgeCount s_moveCount s_isNeeded s_timesDone s_size s_isGoing s_allTime s_stepCount s_gapCount g_edges g_moves g_limits a_sfacts a_sbounds a_facts a_zone a_most a_places a_amounts a_nextPlaces a_nextAmounts a_earliest a_visited a_lastSet a_gapFrom a_gapTo a_gapLeast a_askedPlaces a_askedAmounts) ∧ Y = Y' ∧ ∃ z : Int64, r = some (.long z)) := by
  refine z_start2 (by decide) (Nat.le_of_ble_eq_true rfl) ?_
  intro p e R s m args below meth c Q C hRf hRc hRs hRl hQ hrt hnm
  refine z_loc (L' := [(0, .ref (ad 0)), (1, .long h0)]) [0, 1] rfl ?_
  refine z_lloadn C 1 dX10_mixLimits_0 rfl rfl ?_
  refine z_lstoren (L' := [(3, .long h0), (0, .ref (ad 0)), (1, .long h0)]) C dX10_mixLimits_1 rfl (by decide) rfl ?_
  refine z_iconst C dX10_mixLimits_2 ?_
  refine z_istore (L' := [(5, z_v 0), (3, .long h0), (0, .ref (ad 0)), (1, .long h0)]) C dX10_mixLimits_3 (by decide) rfl ?_
  have L5 : ∀ (n : Nat), ∀ (i3 : Int64) (i5 : Int), (0 ≤ i5 ∧ i5 ≤ 3) → ((3 : Int) - i5).toNat < n → z_V p l e R s m args below meth c Q D A 27 ad 8 (z_zc ad ks s_edgeCount s_moveCount s_isNeeded s_timesDone s_size s_isGoing s_allTime s_stepCount s_gapCount g_edges g_moves g_limits a_sfacts a_sbounds a_facts a_zone a_most a_places a_amounts a_nextPlaces a_nextAmounts a_earliest a_visited a_lastSet a_gapFrom a_gapTo a_gapLeast a_askedPlaces a_askedAmounts) Y 0 0 5 [(0, .ref (ad 0)), (3, .long i3), (5, z_v i5)] [] := by
    intro n
    induction n with
    | zero => intro i3 i5 I5 hm; exact absurd hm (Nat.not_lt_zero _)
    | succ n ih5 =>
      intro i3 i5 I5 hm
      refine z_iload C 2 dX10_mixLimits_5 rfl ?_
      refine z_iconst C dX10_mixLimits_7 ?_
      refine z_icmp_ge (t := 62) C dX10_mixLimits_8 (by decide) (by omega) (by omega) (fun c1 => ?_) (fun c1 => ?_)
      · skip
        refine z_lloadn C 1 dX10_mixLimits_62 rfl rfl ?_
        rw [hQ]
        exact z_lret C hrt dX10_mixLimits_63 (⟨rfl, rfl, _, rfl⟩) (by omega) (by omega)
      · skip
        refine z_iconst C dX10_mixLimits_11 ?_
        refine z_istore (L' := [(6, z_v 0), (0, .ref (ad 0)), (3, .long i3), (5, z_v i5)]) C dX10_mixLimits_12 (by decide) rfl ?_
        have L14 : ∀ (n : Nat), ∀ (i3 : Int64) (i6 : Int), (0 ≤ i6 ∧ i6 ≤ 6) → ((6 : Int) - i6).toNat < n → z_V p l e R s m args below meth c Q D A 27 ad 8 (z_zc ad ks s_edgeCount s_moveCount s_isNeeded s_timesDone s_size s_isGoing s_allTime s_stepCount s_gapCount g_edges g_moves g_limits a_sfacts a_sbounds a_facts a_zone a_most a_places a_amounts a_nextPlaces a_nextAmounts a_earliest a_visited a_lastSet a_gapFrom a_gapTo a_gapLeast a_askedPlaces a_askedAmounts) Y 0 0 14 [(0, .ref (ad 0)), (3, .long i3), (5, z_v i5), (6, z_v i6)] [] := by
          intro n
          induction n with
          | zero => intro i3 i6 I6 hm; exact absurd hm (Nat.not_lt_zero _)
          | succ n ih14 =>
            intro i3 i6 I6 hm
            refine z_iload C 3 dX10_mixLimits_14 rfl ?_
            refine z_bipush C dX10_mixLimits_16 (by decide) ?_
            refine z_icmp_ge (t := 56) C dX10_mixLimits_18 (by decide) (by omega) (by omega) (fun c2 => ?_) (fun c2 => ?_)
            · skip
              refine z_iinc (L' := [(5, z_v (i5 + 1)), (0, .ref (ad 0)), (3, .long i3), (6, z_v i6)]) C 2 dX10_mixLimits_56 rfl (by decide) rfl ?_
              refine z_goto (t := 5) C dX10_mixLimits_59 (by decide) ?_
              refine z_loc (L' := [(0, .ref (ad 0)), (3, .long i3), (5, z_v (i5 + 1))]) [1, 2, 0] rfl ?_
              exact ih5 i3 (i5 + 1) (by omega) (by omega)
            · skip
              refine z_aloadn C 0 dX10_mixLimits_21 rfl rfl ?_
              refine z_get C 0 (by decide) rfl rfl z_it10 0 (by decide) rfl fl_10_12 rfl dX10_mixLimits_22 ?_
              refine z_iload C 2 dX10_mixLimits_25 rfl ?_
              refine z_iload C 3 dX10_mixLimits_27 rfl ?_
              refine z_callV C (cm_X2_limitsOf l i5 i6 (by omega) (by omega) HL) mv_10_88 (z_atS 1 2 (by decide) rfl rfl rfl) pd_X2_limitsOf ⟨by omega, by omega⟩ ⟨by omega, by omega⟩ rfl (Nat.le_of_ble_eq_true rfl) dX10_mixLimits_29 ?_
              rintro _ _ _ ⟨rfl, rfl, q3, rfl, hq3⟩
              refine z_astore (L' := [(7, .ref q3), (0, .ref (ad 0)), (3, .long i3), (5, z_v i5), (6, z_v i6)]) C dX10_mixLimits_32 (by decide) rfl ?_
              refine z_lloadn C 2 dX10_mixLimits_34 rfl rfl ?_
              refine z_aload C 0 dX10_mixLimits_35 rfl ?_
              obtain ⟨td4, nd4, gd4, yd4, wd4, ad4, bd4⟩ := id hq3
              refine z_getY C yd4 rfl z_it6 1 (by decide) rfl fl_10_216 rfl dX10_mixLimits_37 ?_
              refine z_i2l C dX10_mixLimits_40 ?_
              refine z_callS C (cm_X10_mix l i3 ((z_i nd4).toInt64)) mv_10_264 pd_X10_mix ⟨by omega, by omega⟩ ⟨by omega, by omega⟩ rfl (Nat.le_of_ble_eq_true rfl) dX10_mixLimits_41 ?_
              rintro _ _ _ ⟨rfl, rfl, z7, rfl⟩
              refine z_aload C 0 dX10_mixLimits_44 rfl ?_
              refine z_callS C (cm_X10_mixTests l z7 q3 hq3) mv_10_277 pd_X10_mixTests ⟨by omega, by omega⟩ ⟨by omega, by omega⟩ rfl (Nat.le_of_ble_eq_true rfl) dX10_mixLimits_46 ?_
              rintro _ _ _ ⟨rfl, rfl, z10, rfl⟩
              refine z_lstoren (L' := [(3, .long z10), (7, .ref q3), (0, .ref (ad 0)), (5, z_v i5), (6, z_v i6)]) C dX10_mixLimits_49 rfl (by decide) rfl ?_
              refine z_iinc (L' := [(6, z_v (i6 + 1)), (3, .long z10), (7, .ref q3), (0, .ref (ad 0)), (5, z_v i5)]) C 4 dX10_mixLimits_50 rfl (by decide) rfl ?_
              refine z_goto (t := 14) C dX10_mixLimits_53 (by decide) ?_
              refine z_loc (L' := [(0, .ref (ad 0)), (3, .long z10), (5, z_v i5), (6, z_v (i6 + 1))]) [3, 1, 4, 0] rfl ?_
              exact ih14 z10 (i6 + 1) (by omega) (by omega)
        refine z_loc (L' := [(0, .ref (ad 0)), (3, .long i3), (5, z_v i5), (6, z_v 0)]) [1, 2, 3, 0] rfl ?_
        exact (L14 (((6 : Int) - 0).toNat + 1)) i3 0 (by omega) (Nat.lt_succ_self _)
  refine z_loc (L' := [(0, .ref (ad 0)), (3, .long h0), (5, z_v 0)]) [2, 1, 0] rfl ?_
  exact (L5 (((3 : Int) - 0).toNat + 1)) h0 0 (by omega) (Nat.lt_succ_self _)
set_option maxRecDepth 20000 in
theorem cm_X10_mixStates (l : Launch) {D : va_G} {A : Nat → Prop} {ad : Nat → Nat} {ks : z_Ks} {s_edgeCount s_moveCount s_isNeeded s_timesDone s_size s_isGoing s_allTime s_stepCount s_gapCount : Int} {g_edges g_moves g_limits : Nat → Option Nat} {a_sfacts a_sbounds a_facts a_zone a_most a_places a_amounts a_nextPlaces a_nextAmounts a_earliest a_visited a_lastSet a_gapFrom a_gapTo a_gapLeast a_askedPlaces a_askedAmounts : Nat → Int} {Y : Nat → Option va_E} (h0 : Int64) (Hs_isNeeded : (s_isNeeded = 0 ∨ s_isNeeded = 1)) (Hs_size : (0 ≤ s_size ∧ s_size ≤ 120)) (Ha_sfacts : (∀ j, (j % 7 < 3 → 0 ≤ a_sfacts j ∧ a_sfacts j ≤ 5) ∧ (j % 7 = 3 → -1 ≤ a_sfacts j ∧ a_sfacts j ≤ 119) ∧ (j % 7 = 6 → 0 ≤ a_sfacts j ∧ a_sfacts j ≤ 40) ∧ z_rg (a_sfacts j))) (Ha_sbounds : (∀ j, z_rg (a_sbounds j))) : z_Met l yX10_mixStates cX10_mixStates 8 (some .long) 2 46 0 0 D A 27 ad ks [.ref (ad 0), .long h0] (z_zc ad ks s_edgeCount s_moveCount s_isNeeded s_timesDone s_size s_isGoing s_allTime s_stepCount s_gapCount g_edges g_moves g_limits a_sfacts a_sbounds a_facts a_zone a_most a_places a_amounts a_nextPlaces a_nextAmounts a_earliest a_visited a_lastSet a_gapFrom a_gapTo a_gapLeast a_askedPlaces a_askedAmounts) Y (fun r S' Y' => S' = (z_zc ad ks s_edgeCount s_moveCount s_isNeeded s_timesDone s_size s_isGoing s_allTime s_stepCount s_gapCount g_edges g_moves g_limits a_sfacts a_sbounds a_facts a_zone a_most a_places a_amounts a_nextPlaces a_nextAmounts a_earliest a_visited a_lastSet a_gapFrom a_gapTo a_gapLeast a_askedPlaces a_askedAmounts) ∧ Y = Y' ∧ ∃ z : Int64, r = some (.long z)) := by
  refine z_start2 (by decide) (Nat.le_of_ble_eq_true rfl) ?_
  intro p e R s m args below meth c Q C hRf hRc hRs hRl hQ hrt hnm
  refine z_loc (L' := [(0, .ref (ad 0)), (1, .long h0)]) [0, 1] rfl ?_
  refine z_lloadn C 1 dX10_mixStates_0 rfl rfl ?_
  refine z_lstoren (L' := [(3, .long h0), (0, .ref (ad 0)), (1, .long h0)]) C dX10_mixStates_1 rfl (by decide) rfl ?_
  refine z_iconst C dX10_mixStates_2 ?_
  refine z_istore (L' := [(5, z_v 0), (3, .long h0), (0, .ref (ad 0)), (1, .long h0)]) C dX10_mixStates_3 (by decide) rfl ?_
  have L5 : ∀ (n : Nat), ∀ (i3 : Int64) (i5 : Int), (0 ≤ i5 ∧ i5 ≤ 120) → ((120 : Int) - i5).toNat < n → z_V p l e R s m args below meth c Q D A 27 ad 8 (z_zc ad ks s_edgeCount s_moveCount s_isNeeded s_timesDone s_size s_isGoing s_allTime s_stepCount s_gapCount g_edges g_moves g_limits a_sfacts a_sbounds a_facts a_zone a_most a_places a_amounts a_nextPlaces a_nextAmounts a_earliest a_visited a_lastSet a_gapFrom a_gapTo a_gapLeast a_askedPlaces a_askedAmounts) Y 0 0 5 [(0, .ref (ad 0)), (3, .long i3), (5, z_v i5)] [] := by
    intro n
    induction n with
    | zero => intro i3 i5 I5 hm; exact absurd hm (Nat.not_lt_zero _)
    | succ n ih5 =>
      intro i3 i5 I5 hm
      refine z_iload C 2 dX10_mixStates_5 rfl ?_
      refine z_aloadn C 0 dX10_mixStates_7 rfl rfl ?_
      refine z_get C 0 (by decide) rfl rfl z_it10 1 (by decide) rfl fl_10_19 rfl dX10_mixStates_8 ?_
      refine z_get C 5 (by decide) rfl rfl z_it3 0 (by decide) rfl fl_10_106 rfl dX10_mixStates_11 ?_
      refine z_get C 6 (by decide) rfl rfl z_it4 0 (by decide) rfl fl_10_227 rfl dX10_mixStates_14 ?_
      refine z_icmp_ge (t := 102) C dX10_mixStates_17 (by decide) (by omega) (by omega) (fun c1 => ?_) (fun c1 => ?_)
      · skip
        refine z_lloadn C 1 dX10_mixStates_102 rfl rfl ?_
        rw [hQ]
        exact z_lret C hrt dX10_mixStates_103 (⟨rfl, rfl, _, rfl⟩) (by omega) (by omega)
      · skip
        refine z_iconst C dX10_mixStates_20 ?_
        refine z_istore (L' := [(6, z_v 0), (0, .ref (ad 0)), (3, .long i3), (5, z_v i5)]) C dX10_mixStates_21 (by decide) rfl ?_
        have L23 : ∀ (n : Nat), ∀ (i3 : Int64) (i6 : Int), (0 ≤ i6 ∧ i6 ≤ 7) → ((7 : Int) - i6).toNat < n → z_V p l e R s m args below meth c Q D A 27 ad 8 (z_zc ad ks s_edgeCount s_moveCount s_isNeeded s_timesDone s_size s_isGoing s_allTime s_stepCount s_gapCount g_edges g_moves g_limits a_sfacts a_sbounds a_facts a_zone a_most a_places a_amounts a_nextPlaces a_nextAmounts a_earliest a_visited a_lastSet a_gapFrom a_gapTo a_gapLeast a_askedPlaces a_askedAmounts) Y 0 0 23 [(0, .ref (ad 0)), (3, .long i3), (5, z_v i5), (6, z_v i6)] [] := by
          intro n
          induction n with
          | zero => intro i3 i6 I6 hm; exact absurd hm (Nat.not_lt_zero _)
          | succ n ih23 =>
            intro i3 i6 I6 hm
            refine z_iload C 3 dX10_mixStates_23 rfl ?_
            refine z_bipush C dX10_mixStates_25 (by decide) ?_
            refine z_icmp_ge (t := 50) C dX10_mixStates_27 (by decide) (by omega) (by omega) (fun c2 => ?_) (fun c2 => ?_)
            · skip
              refine z_iconst C dX10_mixStates_50 ?_
              refine z_istore (L' := [(6, z_v 0), (0, .ref (ad 0)), (3, .long i3), (5, z_v i5)]) C dX10_mixStates_51 (by decide) rfl ?_
              have L53 : ∀ (n : Nat), ∀ (i3 : Int64) (i6 : Int), (0 ≤ i6 ∧ i6 ≤ 4) → ((4 : Int) - i6).toNat < n → z_V p l e R s m args below meth c Q D A 27 ad 8 (z_zc ad ks s_edgeCount s_moveCount s_isNeeded s_timesDone s_size s_isGoing s_allTime s_stepCount s_gapCount g_edges g_moves g_limits a_sfacts a_sbounds a_facts a_zone a_most a_places a_amounts a_nextPlaces a_nextAmounts a_earliest a_visited a_lastSet a_gapFrom a_gapTo a_gapLeast a_askedPlaces a_askedAmounts) Y 0 0 53 [(0, .ref (ad 0)), (3, .long i3), (5, z_v i5), (6, z_v i6)] [] := by
                intro n
                induction n with
                | zero => intro i3 i6 I6 hm; exact absurd hm (Nat.not_lt_zero _)
                | succ n ih53 =>
                  intro i3 i6 I6 hm
                  refine z_iload C 3 dX10_mixStates_53 rfl ?_
                  refine z_iconst C dX10_mixStates_55 ?_
                  refine z_icmp_ge (t := 96) C dX10_mixStates_56 (by decide) (by omega) (by omega) (fun c3 => ?_) (fun c3 => ?_)
                  · skip
                    refine z_iinc (L' := [(5, z_v (i5 + 1)), (0, .ref (ad 0)), (3, .long i3), (6, z_v i6)]) C 2 dX10_mixStates_96 rfl (by decide) rfl ?_
                    refine z_goto (t := 5) C dX10_mixStates_99 (by decide) ?_
                    refine z_loc (L' := [(0, .ref (ad 0)), (3, .long i3), (5, z_v (i5 + 1))]) [1, 2, 0] rfl ?_
                    exact ih5 i3 (i5 + 1) (by omega) (by omega)
                  · skip
                    refine z_iconst C dX10_mixStates_59 ?_
                    refine z_istore (L' := [(7, z_v 0), (0, .ref (ad 0)), (3, .long i3), (5, z_v i5), (6, z_v i6)]) C dX10_mixStates_60 (by decide) rfl ?_
                    have L62 : ∀ (n : Nat), ∀ (i3 : Int64) (i7 : Int), (0 ≤ i7 ∧ i7 ≤ 4) → ((4 : Int) - i7).toNat < n → z_V p l e R s m args below meth c Q D A 27 ad 8 (z_zc ad ks s_edgeCount s_moveCount s_isNeeded s_timesDone s_size s_isGoing s_allTime s_stepCount s_gapCount g_edges g_moves g_limits a_sfacts a_sbounds a_facts a_zone a_most a_places a_amounts a_nextPlaces a_nextAmounts a_earliest a_visited a_lastSet a_gapFrom a_gapTo a_gapLeast a_askedPlaces a_askedAmounts) Y 0 0 62 [(0, .ref (ad 0)), (3, .long i3), (5, z_v i5), (6, z_v i6), (7, z_v i7)] [] := by
                      intro n
                      induction n with
                      | zero => intro i3 i7 I7 hm; exact absurd hm (Nat.not_lt_zero _)
                      | succ n ih62 =>
                        intro i3 i7 I7 hm
                        refine z_iload C 4 dX10_mixStates_62 rfl ?_
                        refine z_iconst C dX10_mixStates_64 ?_
                        refine z_icmp_ge (t := 90) C dX10_mixStates_65 (by decide) (by omega) (by omega) (fun c4 => ?_) (fun c4 => ?_)
                        · skip
                          refine z_iinc (L' := [(6, z_v (i6 + 1)), (0, .ref (ad 0)), (3, .long i3), (5, z_v i5), (7, z_v i7)]) C 3 dX10_mixStates_90 rfl (by decide) rfl ?_
                          refine z_goto (t := 53) C dX10_mixStates_93 (by decide) ?_
                          refine z_loc (L' := [(0, .ref (ad 0)), (3, .long i3), (5, z_v i5), (6, z_v (i6 + 1))]) [1, 2, 3, 0] rfl ?_
                          exact ih53 i3 (i6 + 1) (by omega) (by omega)
                        · skip
                          refine z_lloadn C 1 dX10_mixStates_68 rfl rfl ?_
                          refine z_aloadn C 0 dX10_mixStates_69 rfl rfl ?_
                          refine z_iload C 2 dX10_mixStates_70 rfl ?_
                          refine z_iload C 3 dX10_mixStates_72 rfl ?_
                          refine z_iload C 4 dX10_mixStates_74 rfl ?_
                          refine z_callV C (cm_X10_bound l i5 i6 i7 (by omega) (by omega) Ha_sbounds (by omega) (by omega) (by omega)) mv_10_284 (z_atS 0 10 (by decide) rfl rfl rfl) pd_X10_bound ⟨by omega, by omega⟩ ⟨by omega, by omega⟩ rfl (Nat.le_of_ble_eq_true rfl) dX10_mixStates_76 ?_
                          rintro _ _ _ ⟨rfl, rfl, z7, rfl, hz7⟩
                          refine z_i2l C dX10_mixStates_79 ?_
                          refine z_callS C (cm_X10_mix l i3 ((z_i z7).toInt64)) mv_10_264 pd_X10_mix ⟨by omega, by omega⟩ ⟨by omega, by omega⟩ rfl (Nat.le_of_ble_eq_true rfl) dX10_mixStates_80 ?_
                          rintro _ _ _ ⟨rfl, rfl, z10, rfl⟩
                          refine z_lstoren (L' := [(3, .long z10), (0, .ref (ad 0)), (5, z_v i5), (6, z_v i6), (7, z_v i7)]) C dX10_mixStates_83 rfl (by decide) rfl ?_
                          refine z_iinc (L' := [(7, z_v (i7 + 1)), (3, .long z10), (0, .ref (ad 0)), (5, z_v i5), (6, z_v i6)]) C 4 dX10_mixStates_84 rfl (by decide) rfl ?_
                          refine z_goto (t := 62) C dX10_mixStates_87 (by decide) ?_
                          refine z_loc (L' := [(0, .ref (ad 0)), (3, .long z10), (5, z_v i5), (6, z_v i6), (7, z_v (i7 + 1))]) [2, 1, 3, 4, 0] rfl ?_
                          exact ih62 z10 (i7 + 1) (by omega) (by omega)
                    refine z_loc (L' := [(0, .ref (ad 0)), (3, .long i3), (5, z_v i5), (6, z_v i6), (7, z_v 0)]) [1, 2, 3, 4, 0] rfl ?_
                    exact (L62 (((4 : Int) - 0).toNat + 1)) i3 0 (by omega) (Nat.lt_succ_self _)
              refine z_loc (L' := [(0, .ref (ad 0)), (3, .long i3), (5, z_v i5), (6, z_v 0)]) [1, 2, 3, 0] rfl ?_
              exact (L53 (((4 : Int) - 0).toNat + 1)) i3 0 (by omega) (Nat.lt_succ_self _)
            · skip
              refine z_lloadn C 1 dX10_mixStates_30 rfl rfl ?_
              refine z_aloadn C 0 dX10_mixStates_31 rfl rfl ?_
              refine z_iload C 2 dX10_mixStates_32 rfl ?_
              refine z_iload C 3 dX10_mixStates_34 rfl ?_
              refine z_callV C (cm_X10_state l i5 i6 (by omega) (by omega) Ha_sfacts (by omega) (by omega)) mv_10_281 (z_atS 0 10 (by decide) rfl rfl rfl) pd_X10_state ⟨by omega, by omega⟩ ⟨by omega, by omega⟩ rfl (Nat.le_of_ble_eq_true rfl) dX10_mixStates_36 ?_
              rintro _ _ _ ⟨rfl, rfl, z13, rfl, hz13⟩
              refine z_i2l C dX10_mixStates_39 ?_
              refine z_callS C (cm_X10_mix l i3 ((z_i z13).toInt64)) mv_10_264 pd_X10_mix ⟨by omega, by omega⟩ ⟨by omega, by omega⟩ rfl (Nat.le_of_ble_eq_true rfl) dX10_mixStates_40 ?_
              rintro _ _ _ ⟨rfl, rfl, z16, rfl⟩
              refine z_lstoren (L' := [(3, .long z16), (0, .ref (ad 0)), (5, z_v i5), (6, z_v i6)]) C dX10_mixStates_43 rfl (by decide) rfl ?_
              refine z_iinc (L' := [(6, z_v (i6 + 1)), (3, .long z16), (0, .ref (ad 0)), (5, z_v i5)]) C 3 dX10_mixStates_44 rfl (by decide) rfl ?_
              refine z_goto (t := 23) C dX10_mixStates_47 (by decide) ?_
              refine z_loc (L' := [(0, .ref (ad 0)), (3, .long z16), (5, z_v i5), (6, z_v (i6 + 1))]) [2, 1, 3, 0] rfl ?_
              exact ih23 z16 (i6 + 1) (by omega) (by omega)
        refine z_loc (L' := [(0, .ref (ad 0)), (3, .long i3), (5, z_v i5), (6, z_v 0)]) [1, 2, 3, 0] rfl ?_
        exact (L23 (((7 : Int) - 0).toNat + 1)) i3 0 (by omega) (Nat.lt_succ_self _)
  refine z_loc (L' := [(0, .ref (ad 0)), (3, .long h0), (5, z_v 0)]) [2, 1, 0] rfl ?_
  exact (L5 (((120 : Int) - 0).toNat + 1)) h0 0 (by omega) (Nat.lt_succ_self _)
set_option maxRecDepth 20000 in
theorem cm_X10_mixWalk (l : Launch) {D : va_G} {A : Nat → Prop} {ad : Nat → Nat} {ks : z_Ks} {s_edgeCount s_moveCount s_isNeeded s_timesDone s_size s_isGoing s_allTime s_stepCount s_gapCount : Int} {g_edges g_moves g_limits : Nat → Option Nat} {a_sfacts a_sbounds a_facts a_zone a_most a_places a_amounts a_nextPlaces a_nextAmounts a_earliest a_visited a_lastSet a_gapFrom a_gapTo a_gapLeast a_askedPlaces a_askedAmounts : Nat → Int} {Y : Nat → Option va_E} (h0 : Int64) (Hs_isGoing : (s_isGoing = 0 ∨ s_isGoing = 1)) : z_Met l yX10_mixWalk cX10_mixWalk 6 (some .long) 1 23 0 0 D A 27 ad ks [.ref (ad 0), .long h0] (z_zc ad ks s_edgeCount s_moveCount s_isNeeded s_timesDone s_size s_isGoing s_allTime s_stepCount s_gapCount g_edges g_moves g_limits a_sfacts a_sbounds a_facts a_zone a_most a_places a_amounts a_nextPlaces a_nextAmounts a_earliest a_visited a_lastSet a_gapFrom a_gapTo a_gapLeast a_askedPlaces a_askedAmounts) Y (fun r S' Y' => S' = (z_zc ad ks s_edgeCount s_moveCount s_isNeeded s_timesDone s_size s_isGoing s_allTime s_stepCount s_gapCount g_edges g_moves g_limits a_sfacts a_sbounds a_facts a_zone a_most a_places a_amounts a_nextPlaces a_nextAmounts a_earliest a_visited a_lastSet a_gapFrom a_gapTo a_gapLeast a_askedPlaces a_askedAmounts) ∧ Y = Y' ∧ ∃ z : Int64, r = some (.long z)) := by
  refine z_start2 (by decide) (Nat.le_of_ble_eq_true rfl) ?_
  intro p e R s m args below meth c Q C hRf hRc hRs hRl hQ hrt hnm
  refine z_loc (L' := [(0, .ref (ad 0)), (1, .long h0)]) [0, 1] rfl ?_
  refine z_lloadn C 1 dX10_mixWalk_0 rfl rfl ?_
  refine z_aloadn C 0 dX10_mixWalk_1 rfl rfl ?_
  refine z_get C 0 (by decide) rfl rfl z_it10 2 (by decide) rfl fl_10_26 rfl dX10_mixWalk_2 ?_
  refine z_get C 13 (by decide) rfl rfl z_it8 0 (by decide) rfl fl_10_165 rfl dX10_mixWalk_5 ?_
  refine z_if_eq (t := 15) C dX10_mixWalk_8 (by decide) (by omega) (fun c1 => ?_) (fun c1 => ?_)
  · skip
    refine z_lconst (w := 0) C dX10_mixWalk_15 (by decide) ?_
    refine z_callS C (cm_X10_mix l h0 (0 : Int64)) mv_10_264 pd_X10_mix ⟨by omega, by omega⟩ ⟨by omega, by omega⟩ rfl (Nat.le_of_ble_eq_true rfl) dX10_mixWalk_16 ?_
    rintro _ _ _ ⟨rfl, rfl, z4, rfl⟩
    refine z_lstoren (L' := [(3, .long z4), (0, .ref (ad 0)), (1, .long h0)]) C dX10_mixWalk_19 rfl (by decide) rfl ?_
    refine z_iconst C dX10_mixWalk_20 ?_
    refine z_istore (L' := [(5, z_v 0), (3, .long z4), (0, .ref (ad 0)), (1, .long h0)]) C dX10_mixWalk_21 (by decide) rfl ?_
    have L23 : ∀ (n : Nat), ∀ (i3 : Int64) (i5 : Int), (0 ≤ i5 ∧ i5 ≤ 9) → ((9 : Int) - i5).toNat < n → z_V p l e R s m args below meth c Q D A 27 ad 6 (z_zc ad ks s_edgeCount s_moveCount s_isNeeded s_timesDone s_size s_isGoing s_allTime s_stepCount s_gapCount g_edges g_moves g_limits a_sfacts a_sbounds a_facts a_zone a_most a_places a_amounts a_nextPlaces a_nextAmounts a_earliest a_visited a_lastSet a_gapFrom a_gapTo a_gapLeast a_askedPlaces a_askedAmounts) Y 0 0 23 [(0, .ref (ad 0)), (3, .long i3), (5, z_v i5)] [] := by
      intro n
      induction n with
      | zero => intro i3 i5 I5 hm; exact absurd hm (Nat.not_lt_zero _)
      | succ n ih23 =>
        intro i3 i5 I5 hm
        refine z_iload C 2 dX10_mixWalk_23 rfl ?_
        refine z_bipush C dX10_mixWalk_25 (by decide) ?_
        refine z_icmp_gt (t := 54) C dX10_mixWalk_27 (by decide) (by omega) (by omega) (fun c5 => ?_) (fun c5 => ?_)
        · skip
          refine z_lloadn C 1 dX10_mixWalk_54 rfl rfl ?_
          rw [hQ]
          exact z_lret C hrt dX10_mixWalk_55 (⟨rfl, rfl, _, rfl⟩) (by omega) (by omega)
        · skip
          refine z_iload C 2 dX10_mixWalk_30 rfl ?_
          refine z_iconst C dX10_mixWalk_32 ?_
          refine z_icmp_eq (t := 48) C dX10_mixWalk_33 (by decide) (by omega) (by omega) (fun c6 => ?_) (fun c6 => ?_)
          · skip
            refine z_iinc (L' := [(5, z_v (i5 + 1)), (0, .ref (ad 0)), (3, .long i3)]) C 2 dX10_mixWalk_48 rfl (by decide) rfl ?_
            refine z_goto (t := 23) C dX10_mixWalk_51 (by decide) ?_
            refine z_loc (L' := [(0, .ref (ad 0)), (3, .long i3), (5, z_v (i5 + 1))]) [1, 2, 0] rfl ?_
            exact ih23 i3 (i5 + 1) (by omega) (by omega)
          · skip
            refine z_lloadn C 1 dX10_mixWalk_36 rfl rfl ?_
            refine z_aloadn C 0 dX10_mixWalk_37 rfl rfl ?_
            refine z_iload C 2 dX10_mixWalk_38 rfl ?_
            refine z_callV C (cm_X10_run l i5 (by omega) (by omega)) mv_10_287 (z_atS 0 10 (by decide) rfl rfl rfl) pd_X10_run ⟨by omega, by omega⟩ ⟨by omega, by omega⟩ rfl (Nat.le_of_ble_eq_true rfl) dX10_mixWalk_40 ?_
            rintro _ _ _ ⟨rfl, rfl, z9, rfl, hz9⟩
            refine z_i2l C dX10_mixWalk_43 ?_
            refine z_callS C (cm_X10_mix l i3 ((z_i z9).toInt64)) mv_10_264 pd_X10_mix ⟨by omega, by omega⟩ ⟨by omega, by omega⟩ rfl (Nat.le_of_ble_eq_true rfl) dX10_mixWalk_44 ?_
            rintro _ _ _ ⟨rfl, rfl, z12, rfl⟩
            refine z_lstoren (L' := [(3, .long z12), (0, .ref (ad 0)), (5, z_v i5)]) C dX10_mixWalk_47 rfl (by decide) rfl ?_
            refine z_iinc (L' := [(5, z_v (i5 + 1)), (3, .long z12), (0, .ref (ad 0))]) C 2 dX10_mixWalk_48 rfl (by decide) rfl ?_
            refine z_goto (t := 23) C dX10_mixWalk_51 (by decide) ?_
            refine z_loc (L' := [(0, .ref (ad 0)), (3, .long z12), (5, z_v (i5 + 1))]) [2, 1, 0] rfl ?_
            exact ih23 z12 (i5 + 1) (by omega) (by omega)
    refine z_loc (L' := [(0, .ref (ad 0)), (3, .long z4), (5, z_v 0)]) [2, 1, 0] rfl ?_
    exact (L23 (((9 : Int) - 0).toNat + 1)) z4 0 (by omega) (Nat.lt_succ_self _)
  · skip
    refine z_lconst (w := 1) C dX10_mixWalk_11 (by decide) ?_
    refine z_goto (t := 16) C dX10_mixWalk_12 (by decide) ?_
    refine z_callS C (cm_X10_mix l h0 (1 : Int64)) mv_10_264 pd_X10_mix ⟨by omega, by omega⟩ ⟨by omega, by omega⟩ rfl (Nat.le_of_ble_eq_true rfl) dX10_mixWalk_16 ?_
    rintro _ _ _ ⟨rfl, rfl, z15, rfl⟩
    refine z_lstoren (L' := [(3, .long z15), (0, .ref (ad 0)), (1, .long h0)]) C dX10_mixWalk_19 rfl (by decide) rfl ?_
    refine z_iconst C dX10_mixWalk_20 ?_
    refine z_istore (L' := [(5, z_v 0), (3, .long z15), (0, .ref (ad 0)), (1, .long h0)]) C dX10_mixWalk_21 (by decide) rfl ?_
    have L23 : ∀ (n : Nat), ∀ (i3 : Int64) (i5 : Int), (0 ≤ i5 ∧ i5 ≤ 9) → ((9 : Int) - i5).toNat < n → z_V p l e R s m args below meth c Q D A 27 ad 6 (z_zc ad ks s_edgeCount s_moveCount s_isNeeded s_timesDone s_size s_isGoing s_allTime s_stepCount s_gapCount g_edges g_moves g_limits a_sfacts a_sbounds a_facts a_zone a_most a_places a_amounts a_nextPlaces a_nextAmounts a_earliest a_visited a_lastSet a_gapFrom a_gapTo a_gapLeast a_askedPlaces a_askedAmounts) Y 0 0 23 [(0, .ref (ad 0)), (3, .long i3), (5, z_v i5)] [] := by
      intro n
      induction n with
      | zero => intro i3 i5 I5 hm; exact absurd hm (Nat.not_lt_zero _)
      | succ n ih23 =>
        intro i3 i5 I5 hm
        refine z_iload C 2 dX10_mixWalk_23 rfl ?_
        refine z_bipush C dX10_mixWalk_25 (by decide) ?_
        refine z_icmp_gt (t := 54) C dX10_mixWalk_27 (by decide) (by omega) (by omega) (fun c16 => ?_) (fun c16 => ?_)
        · skip
          refine z_lloadn C 1 dX10_mixWalk_54 rfl rfl ?_
          rw [hQ]
          exact z_lret C hrt dX10_mixWalk_55 (⟨rfl, rfl, _, rfl⟩) (by omega) (by omega)
        · skip
          refine z_iload C 2 dX10_mixWalk_30 rfl ?_
          refine z_iconst C dX10_mixWalk_32 ?_
          refine z_icmp_eq (t := 48) C dX10_mixWalk_33 (by decide) (by omega) (by omega) (fun c17 => ?_) (fun c17 => ?_)
          · skip
            refine z_iinc (L' := [(5, z_v (i5 + 1)), (0, .ref (ad 0)), (3, .long i3)]) C 2 dX10_mixWalk_48 rfl (by decide) rfl ?_
            refine z_goto (t := 23) C dX10_mixWalk_51 (by decide) ?_
            refine z_loc (L' := [(0, .ref (ad 0)), (3, .long i3), (5, z_v (i5 + 1))]) [1, 2, 0] rfl ?_
            exact ih23 i3 (i5 + 1) (by omega) (by omega)
          · skip
            refine z_lloadn C 1 dX10_mixWalk_36 rfl rfl ?_
            refine z_aloadn C 0 dX10_mixWalk_37 rfl rfl ?_
            refine z_iload C 2 dX10_mixWalk_38 rfl ?_
            refine z_callV C (cm_X10_run l i5 (by omega) (by omega)) mv_10_287 (z_atS 0 10 (by decide) rfl rfl rfl) pd_X10_run ⟨by omega, by omega⟩ ⟨by omega, by omega⟩ rfl (Nat.le_of_ble_eq_true rfl) dX10_mixWalk_40 ?_
            rintro _ _ _ ⟨rfl, rfl, z20, rfl, hz20⟩
            refine z_i2l C dX10_mixWalk_43 ?_
            refine z_callS C (cm_X10_mix l i3 ((z_i z20).toInt64)) mv_10_264 pd_X10_mix ⟨by omega, by omega⟩ ⟨by omega, by omega⟩ rfl (Nat.le_of_ble_eq_true rfl) dX10_mixWalk_44 ?_
            rintro _ _ _ ⟨rfl, rfl, z23, rfl⟩
            refine z_lstoren (L' := [(3, .long z23), (0, .ref (ad 0)), (5, z_v i5)]) C dX10_mixWalk_47 rfl (by decide) rfl ?_
            refine z_iinc (L' := [(5, z_v (i5 + 1)), (3, .long z23), (0, .ref (ad 0))]) C 2 dX10_mixWalk_48 rfl (by decide) rfl ?_
            refine z_goto (t := 23) C dX10_mixWalk_51 (by decide) ?_
            refine z_loc (L' := [(0, .ref (ad 0)), (3, .long z23), (5, z_v (i5 + 1))]) [2, 1, 0] rfl ?_
            exact ih23 z23 (i5 + 1) (by omega) (by omega)
    refine z_loc (L' := [(0, .ref (ad 0)), (3, .long z15), (5, z_v 0)]) [2, 1, 0] rfl ?_
    exact (L23 (((9 : Int) - 0).toNat + 1)) z15 0 (by omega) (Nat.lt_succ_self _)
set_option maxRecDepth 20000 in
theorem cm_X10_digest (l : Launch) {D : va_G} {A : Nat → Prop} {ad : Nat → Nat} {ks : z_Ks} {s_edgeCount s_moveCount s_isNeeded s_timesDone s_size s_isGoing s_allTime s_stepCount s_gapCount : Int} {g_edges g_moves g_limits : Nat → Option Nat} {a_sfacts a_sbounds a_facts a_zone a_most a_places a_amounts a_nextPlaces a_nextAmounts a_earliest a_visited a_lastSet a_gapFrom a_gapTo a_gapLeast a_askedPlaces a_askedAmounts : Nat → Int} {Y : Nat → Option va_E} (Hs_edgeCount : (0 ≤ s_edgeCount ∧ s_edgeCount ≤ 20)) (Hs_isNeeded : (s_isNeeded = 0 ∨ s_isNeeded = 1)) (Hs_size : (0 ≤ s_size ∧ s_size ≤ 120)) (Hs_isGoing : (s_isGoing = 0 ∨ s_isGoing = 1)) (Ha_sfacts : (∀ j, (j % 7 < 3 → 0 ≤ a_sfacts j ∧ a_sfacts j ≤ 5) ∧ (j % 7 = 3 → -1 ≤ a_sfacts j ∧ a_sfacts j ≤ 119) ∧ (j % 7 = 6 → 0 ≤ a_sfacts j ∧ a_sfacts j ≤ 40) ∧ z_rg (a_sfacts j))) (Ha_sbounds : (∀ j, z_rg (a_sbounds j))) (HE : ∀ j : Nat, (j : Int) < s_edgeCount → ∃ q, g_edges j = some q ∧ z_E ks Y q) (HL : ∀ j : Nat, (j : Int) < 18 → ∃ q, g_limits j = some q ∧ z_TL ks Y q) : z_Met l yX10_digest cX10_digest 3 (some .long) 3 76 0 0 D A 27 ad ks [.ref (ad 0)] (z_zc ad ks s_edgeCount s_moveCount s_isNeeded s_timesDone s_size s_isGoing s_allTime s_stepCount s_gapCount g_edges g_moves g_limits a_sfacts a_sbounds a_facts a_zone a_most a_places a_amounts a_nextPlaces a_nextAmounts a_earliest a_visited a_lastSet a_gapFrom a_gapTo a_gapLeast a_askedPlaces a_askedAmounts) Y (fun r S' Y' => S' = (z_zc ad ks s_edgeCount s_moveCount s_isNeeded s_timesDone s_size s_isGoing s_allTime s_stepCount s_gapCount g_edges g_moves g_limits a_sfacts a_sbounds a_facts a_zone a_most a_places a_amounts a_nextPlaces a_nextAmounts a_earliest a_visited a_lastSet a_gapFrom a_gapTo a_gapLeast a_askedPlaces a_askedAmounts) ∧ Y = Y' ∧ ∃ z : Int64, r = some (.long z)) := by
  refine z_start2 (by decide) (Nat.le_of_ble_eq_true rfl) ?_
  intro p e R s m args below meth c Q C hRf hRc hRs hRl hQ hrt hnm
  refine z_loc (L' := [(0, .ref (ad 0))]) [0] rfl ?_
  refine z_aloadn C 0 dX10_digest_0 rfl rfl ?_
  refine z_ldc2 C kl_10_231 dX10_digest_1 ?_
  refine z_callV C (cm_X10_mixEdges l (71 : Int64) (by omega) HE) mv_10_233 (z_atS 0 10 (by decide) rfl rfl rfl) pd_X10_mixEdges ⟨by omega, by omega⟩ ⟨by omega, by omega⟩ rfl (Nat.le_of_ble_eq_true rfl) dX10_digest_4 ?_
  rintro _ _ _ ⟨rfl, rfl, z3, rfl⟩
  refine z_lstoren (L' := [(1, .long z3), (0, .ref (ad 0))]) C dX10_digest_7 rfl (by decide) rfl ?_
  refine z_aloadn C 1 dX10_digest_8 rfl rfl ?_
  refine z_lloadn C 0 dX10_digest_9 rfl rfl ?_
  refine z_callV C (cm_X10_mixLimits l z3 HL) mv_10_237 (z_atS 0 10 (by decide) rfl rfl rfl) pd_X10_mixLimits ⟨by omega, by omega⟩ ⟨by omega, by omega⟩ rfl (Nat.le_of_ble_eq_true rfl) dX10_digest_10 ?_
  rintro _ _ _ ⟨rfl, rfl, z6, rfl⟩
  refine z_lstoren (L' := [(1, .long z6), (0, .ref (ad 0))]) C dX10_digest_13 rfl (by decide) rfl ?_
  refine z_aloadn C 1 dX10_digest_14 rfl rfl ?_
  refine z_get C 0 (by decide) rfl rfl z_it10 1 (by decide) rfl fl_10_19 rfl dX10_digest_15 ?_
  refine z_get C 5 (by decide) rfl rfl z_it3 1 (by decide) rfl fl_10_102 rfl dX10_digest_18 ?_
  refine z_if_ne (t := 30) C dX10_digest_21 (by decide) (by omega) (fun c7 => ?_) (fun c7 => ?_)
  · skip
    refine z_aloadn C 1 dX10_digest_30 rfl rfl ?_
    refine z_lloadn C 0 dX10_digest_31 rfl rfl ?_
    refine z_callV C (cm_X10_mixWalk l z6 (by omega)) mv_10_243 (z_atS 0 10 (by decide) rfl rfl rfl) pd_X10_mixWalk ⟨by omega, by omega⟩ ⟨by omega, by omega⟩ rfl (Nat.le_of_ble_eq_true rfl) dX10_digest_32 ?_
    rintro _ _ _ ⟨rfl, rfl, z10, rfl⟩
    rw [hQ]
    exact z_lret C hrt dX10_digest_35 (⟨rfl, rfl, _, rfl⟩) (by omega) (by omega)
  · skip
    refine z_aloadn C 1 dX10_digest_24 rfl rfl ?_
    refine z_lloadn C 0 dX10_digest_25 rfl rfl ?_
    refine z_callV C (cm_X10_mixStates l z6 (by omega) (by omega) Ha_sfacts Ha_sbounds) mv_10_240 (z_atS 0 10 (by decide) rfl rfl rfl) pd_X10_mixStates ⟨by omega, by omega⟩ ⟨by omega, by omega⟩ rfl (Nat.le_of_ble_eq_true rfl) dX10_digest_26 ?_
    rintro _ _ _ ⟨rfl, rfl, z13, rfl⟩
    refine z_lstoren (L' := [(1, .long z13), (0, .ref (ad 0))]) C dX10_digest_29 rfl (by decide) rfl ?_
    refine z_aloadn C 1 dX10_digest_30 rfl rfl ?_
    refine z_lloadn C 0 dX10_digest_31 rfl rfl ?_
    refine z_callV C (cm_X10_mixWalk l z13 (by omega)) mv_10_243 (z_atS 0 10 (by decide) rfl rfl rfl) pd_X10_mixWalk ⟨by omega, by omega⟩ ⟨by omega, by omega⟩ rfl (Nat.le_of_ble_eq_true rfl) dX10_digest_32 ?_
    rintro _ _ _ ⟨rfl, rfl, z16, rfl⟩
    rw [hQ]
    exact z_lret C hrt dX10_digest_35 (⟨rfl, rfl, _, rfl⟩) (by omega) (by omega)
set_option maxRecDepth 20000 in
theorem cm_X10_forgetFindings (l : Launch) {D : va_G} {A : Nat → Prop} {ad : Nat → Nat} {ks : z_Ks} {s_edgeCount s_moveCount s_isNeeded s_timesDone s_size s_isGoing s_allTime s_stepCount s_gapCount : Int} {g_edges g_moves g_limits : Nat → Option Nat} {a_sfacts a_sbounds a_facts a_zone a_most a_places a_amounts a_nextPlaces a_nextAmounts a_earliest a_visited a_lastSet a_gapFrom a_gapTo a_gapLeast a_askedPlaces a_askedAmounts : Nat → Int} {Y : Nat → Option va_E} : z_Met l yX10_forgetFindings cX10_forgetFindings 1 none 0 0 0 0 D A 27 ad ks [.ref (ad 0)] (z_zc ad ks s_edgeCount s_moveCount s_isNeeded s_timesDone s_size s_isGoing s_allTime s_stepCount s_gapCount g_edges g_moves g_limits a_sfacts a_sbounds a_facts a_zone a_most a_places a_amounts a_nextPlaces a_nextAmounts a_earliest a_visited a_lastSet a_gapFrom a_gapTo a_gapLeast a_askedPlaces a_askedAmounts) Y (fun r S' Y' => S' = (z_zc ad ks s_edgeCount s_moveCount 1 s_timesDone s_size 0 s_allTime s_stepCount s_gapCount g_edges g_moves g_limits a_sfacts a_sbounds a_facts a_zone a_most a_places a_amounts a_nextPlaces a_nextAmounts a_earliest a_visited a_lastSet a_gapFrom a_gapTo a_gapLeast a_askedPlaces a_askedAmounts) ∧ Y = Y' ∧ r = none) := by
  refine z_start2 (by decide) (Nat.le_of_ble_eq_true rfl) ?_
  intro p e R s m args below meth c Q C hRf hRc hRs hRl hQ hrt hnm
  refine z_loc (L' := [(0, .ref (ad 0))]) [0] rfl ?_
  refine z_aloadn C 0 dX10_forgetFindings_0 rfl rfl ?_
  refine z_get C 0 (by decide) rfl rfl z_it10 1 (by decide) rfl fl_10_19 rfl dX10_forgetFindings_1 ?_
  refine z_iconst C dX10_forgetFindings_4 ?_
  refine z_put C 5 (by decide) rfl rfl z_it3 tyX3 tyX3_ok nmX3 1 (by decide) rfl (Or.inl rfl) fl_10_102 z_pfZ (z_nbZ (by omega)).1 (z_nbZ (by omega)).2 (Nat.le_of_ble_eq_true rfl) dX10_forgetFindings_5 ?_
  refine z_ext (S' := (z_zc ad ks s_edgeCount s_moveCount 1 s_timesDone s_size s_isGoing s_allTime s_stepCount s_gapCount g_edges g_moves g_limits a_sfacts a_sbounds a_facts a_zone a_most a_places a_amounts a_nextPlaces a_nextAmounts a_earliest a_visited a_lastSet a_gapFrom a_gapTo a_gapLeast a_askedPlaces a_askedAmounts)) upC_s_isNeeded ?_
  refine z_aloadn C 0 dX10_forgetFindings_8 rfl rfl ?_
  refine z_get C 0 (by decide) rfl rfl z_it10 2 (by decide) rfl fl_10_26 rfl dX10_forgetFindings_9 ?_
  refine z_iconst C dX10_forgetFindings_12 ?_
  refine z_put C 13 (by decide) rfl rfl z_it8 tyX8 tyX8_ok nmX8 0 (by decide) rfl (Or.inl rfl) fl_10_165 z_pfZ (z_nbZ (by omega)).1 (z_nbZ (by omega)).2 (Nat.le_of_ble_eq_true rfl) dX10_forgetFindings_13 ?_
  refine z_ext (S' := (z_zc ad ks s_edgeCount s_moveCount 1 s_timesDone s_size 0 s_allTime s_stepCount s_gapCount g_edges g_moves g_limits a_sfacts a_sbounds a_facts a_zone a_most a_places a_amounts a_nextPlaces a_nextAmounts a_earliest a_visited a_lastSet a_gapFrom a_gapTo a_gapLeast a_askedPlaces a_askedAmounts)) upC_s_isGoing ?_
  rw [hQ]
  exact z_vret C hrt dX10_forgetFindings_16 (⟨rfl, rfl, rfl⟩) (by omega) (by omega)
