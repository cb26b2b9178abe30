theorem z_fst_iff {P Q : Int → Prop} {N z : Int} (h : z_fst P N z) (e : ∀ i, P i ↔ Q i) : z_fst Q N z := h.imp (fun q => ⟨q.1, fun i h0 h1 k => q.2 i h0 h1 ((e i).mpr k)⟩) (fun q => ⟨q.1, (e z).mp q.2.1, fun i h0 h1 k => q.2.2 i h0 h1 ((e i).mpr k)⟩)
theorem z_ask3 {f sf : Nat → Int} {a b c i : Int} (h0 : f 0 = a) (h1 : f 1 = b) (h2 : f 2 = c) : (∀ m : Int, 0 ≤ m → m < 3 → f m.toNat = -1 ∨ f m.toNat = sf (7 * i.toNat + m.toNat)) ↔ ((a = -1 ∨ a = sf (7 * i.toNat)) ∧ (b = -1 ∨ b = sf (7 * i.toNat + 1)) ∧ (c = -1 ∨ c = sf (7 * i.toNat + 2))) := by
  subst h0 h1 h2
  constructor
  · intro h
    exact ⟨h 0 (by omega) (by omega), h 1 (by omega) (by omega), h 2 (by omega) (by omega)⟩
  · rintro ⟨k0, k1, k2⟩ m m0 m1
    rcases (show m = 0 ∨ m = 1 ∨ m = 2 by omega) with rfl | rfl | rfl
    · exact k0
    · exact k1
    · exact k2
set_option maxRecDepth 20000 in
theorem cx_X10_state (l : Launch) {D : va_G} {A : Nat → Prop} {ad : Nat → Nat} {ks : z_Ks} {s_edgeCount s_moveCount s_isNeeded s_timesDone s_size s_isGoing s_allTime s_stepCount s_gapCount : Int} {g_edges g_moves g_limits : Nat → Option Nat} {a_sfacts a_sbounds a_facts a_zone a_most a_places a_amounts a_nextPlaces a_nextAmounts a_earliest a_visited a_lastSet a_gapFrom a_gapTo a_gapLeast a_askedPlaces a_askedAmounts : Nat → Int} {Y : Nat → Option va_E} (i0 wh : Int) (Hs_isNeeded : (s_isNeeded = 0 ∨ s_isNeeded = 1)) (Hs_size : (0 ≤ s_size ∧ s_size ≤ 120)) (Ha_sfacts : (∀ j, (j % 7 < 3 → 0 ≤ a_sfacts j ∧ a_sfacts j ≤ 5) ∧ (j % 7 = 3 → -1 ≤ a_sfacts j ∧ a_sfacts j ≤ 119) ∧ (j % 7 = 6 → 0 ≤ a_sfacts j ∧ a_sfacts j ≤ 40) ∧ z_rg (a_sfacts j))) (hi0 : z_rg i0) (hwh : z_rg wh) : z_Met l yX10_state cX10_state 3 (some .int) 1 22 0 0 D A 27 ad ks [.ref (ad 0), z_v i0, z_v wh] (z_zc ad ks s_edgeCount s_moveCount s_isNeeded s_timesDone s_size s_isGoing s_allTime s_stepCount s_gapCount g_edges g_moves g_limits a_sfacts a_sbounds a_facts a_zone a_most a_places a_amounts a_nextPlaces a_nextAmounts a_earliest a_visited a_lastSet a_gapFrom a_gapTo a_gapLeast a_askedPlaces a_askedAmounts) Y (fun r S' Y' => S' = (z_zc ad ks s_edgeCount s_moveCount s_isNeeded s_timesDone s_size s_isGoing s_allTime s_stepCount s_gapCount g_edges g_moves g_limits a_sfacts a_sbounds a_facts a_zone a_most a_places a_amounts a_nextPlaces a_nextAmounts a_earliest a_visited a_lastSet a_gapFrom a_gapTo a_gapLeast a_askedPlaces a_askedAmounts) ∧ Y = Y' ∧ ∃ z : Int, r = some (z_v z) ∧ (z = z_stA i0 wh s_isNeeded s_size (a_sfacts (i0 * 7 + wh).toNat))) := by
  refine z_start2 (by decide) (Nat.le_of_ble_eq_true rfl) ?_
  intro p e R s m args below meth c Q C hRf hRc hRs hRl hQ hrt hnm
  refine z_loc (L' := [(0, .ref (ad 0)), (1, z_v i0), (2, z_v wh)]) [0, 1, 2] rfl ?_
  refine z_aloadn C 0 dX10_state_0 rfl rfl ?_
  refine z_get C 0 (by decide) rfl rfl z_it10 1 (by decide) rfl fl_10_19 rfl dX10_state_1 ?_
  refine z_get C 5 (by decide) rfl rfl z_it3 1 (by decide) rfl fl_10_102 rfl dX10_state_4 ?_
  refine z_if_eq (t := 13) C dX10_state_7 (by decide) (by omega) (fun c1 => ?_) (fun c1 => ?_)
  · skip
    refine z_aloadn C 0 dX10_state_13 rfl rfl ?_
    refine z_get C 0 (by decide) rfl rfl z_it10 1 (by decide) rfl fl_10_19 rfl dX10_state_14 ?_
    refine z_get C 5 (by decide) rfl rfl z_it3 0 (by decide) rfl fl_10_106 rfl dX10_state_17 ?_
    refine z_iloadn C 1 dX10_state_20 rfl rfl ?_
    refine z_callV C (cm_X4_isMet l i0 (by omega) (by omega)) mv_10_110 (z_atS 6 4 (by decide) rfl rfl rfl) pd_X4_isMet ⟨by omega, by omega⟩ ⟨by omega, by omega⟩ rfl (Nat.le_of_ble_eq_true rfl) dX10_state_21 ?_
    rintro _ _ _ ⟨rfl, rfl, z4, rfl, hz4⟩
    refine z_if_ne (t := 30) C dX10_state_24 (by decide) (by omega) (fun c5 => ?_) (fun c5 => ?_)
    · skip
      refine z_iloadn C 2 dX10_state_30 rfl rfl ?_
      refine z_if_lt (t := 40) C dX10_state_31 (by decide) (by omega) (fun c6 => ?_) (fun c6 => ?_)
      · skip
        refine z_bipush C dX10_state_40 (by decide) ?_
        rw [hQ]
        exact z_iret C hrt dX10_state_42 (⟨rfl, rfl, _, rfl, by unfold z_stA; split <;> (try split) <;> (try split) <;> (try split) <;> omega⟩) (by omega) (by omega)
      · skip
        refine z_iloadn C 2 dX10_state_34 rfl rfl ?_
        refine z_bipush C dX10_state_35 (by decide) ?_
        refine z_icmp_lt (t := 43) C dX10_state_37 (by decide) (by omega) (by omega) (fun c7 => ?_) (fun c7 => ?_)
        · skip
          refine z_aloadn C 0 dX10_state_43 rfl rfl ?_
          refine z_get C 0 (by decide) rfl rfl z_it10 1 (by decide) rfl fl_10_19 rfl dX10_state_44 ?_
          refine z_get C 5 (by decide) rfl rfl z_it3 0 (by decide) rfl fl_10_106 rfl dX10_state_47 ?_
          refine z_iloadn C 1 dX10_state_50 rfl rfl ?_
          refine z_iloadn C 2 dX10_state_51 rfl rfl ?_
          refine z_callV C (cm_X4_fact l i0 wh Ha_sfacts (by omega) (by omega)) mv_10_115 (z_atS 6 4 (by decide) rfl rfl rfl) pd_X4_fact ⟨by omega, by omega⟩ ⟨by omega, by omega⟩ rfl (Nat.le_of_ble_eq_true rfl) dX10_state_52 ?_
          rintro _ _ _ ⟨rfl, rfl, z10, rfl, hz10⟩
          rw [hQ]
          exact z_iret C hrt dX10_state_55 (⟨rfl, rfl, _, rfl, by unfold z_stA; split <;> (try split) <;> (try split) <;> (try split) <;> omega⟩) (by omega) (by omega)
        · skip
          refine z_bipush C dX10_state_40 (by decide) ?_
          rw [hQ]
          exact z_iret C hrt dX10_state_42 (⟨rfl, rfl, _, rfl, by unfold z_stA; split <;> (try split) <;> (try split) <;> (try split) <;> omega⟩) (by omega) (by omega)
    · skip
      refine z_bipush C dX10_state_27 (by decide) ?_
      rw [hQ]
      exact z_iret C hrt dX10_state_29 (⟨rfl, rfl, _, rfl, by unfold z_stA; split <;> (try split) <;> (try split) <;> (try split) <;> omega⟩) (by omega) (by omega)
  · skip
    refine z_bipush C dX10_state_10 (by decide) ?_
    rw [hQ]
    exact z_iret C hrt dX10_state_12 (⟨rfl, rfl, _, rfl, by unfold z_stA; split <;> (try split) <;> (try split) <;> (try split) <;> omega⟩) (by omega) (by omega)
set_option maxRecDepth 20000 in
theorem cx_X4_boundOf (l : Launch) {D : va_G} {A : Nat → Prop} {ad : Nat → Nat} {ks : z_Ks} {s_edgeCount s_moveCount s_isNeeded s_timesDone s_size s_isGoing s_allTime s_stepCount s_gapCount : Int} {g_edges g_moves g_limits : Nat → Option Nat} {a_sfacts a_sbounds a_facts a_zone a_most a_places a_amounts a_nextPlaces a_nextAmounts a_earliest a_visited a_lastSet a_gapFrom a_gapTo a_gapLeast a_askedPlaces a_askedAmounts : Nat → Int} {Y : Nat → Option va_E} (i0 x y : Int) (Ha_sbounds : (∀ j, z_rg (a_sbounds j))) (hi : 0 ≤ i0 ∧ i0 ≤ 119) (hx : 0 ≤ x ∧ x ≤ 3) (hy : 0 ≤ y ∧ y ≤ 3) : z_Met l yX4_boundOf cX4_boundOf 4 (some .int) 0 0 0 0 D A 27 ad ks [.ref (ad 6), z_v i0, z_v x, z_v y] (z_zc ad ks s_edgeCount s_moveCount s_isNeeded s_timesDone s_size s_isGoing s_allTime s_stepCount s_gapCount g_edges g_moves g_limits a_sfacts a_sbounds a_facts a_zone a_most a_places a_amounts a_nextPlaces a_nextAmounts a_earliest a_visited a_lastSet a_gapFrom a_gapTo a_gapLeast a_askedPlaces a_askedAmounts) Y (fun r S' Y' => S' = (z_zc ad ks s_edgeCount s_moveCount s_isNeeded s_timesDone s_size s_isGoing s_allTime s_stepCount s_gapCount g_edges g_moves g_limits a_sfacts a_sbounds a_facts a_zone a_most a_places a_amounts a_nextPlaces a_nextAmounts a_earliest a_visited a_lastSet a_gapFrom a_gapTo a_gapLeast a_askedPlaces a_askedAmounts) ∧ Y = Y' ∧ ∃ z : Int, r = some (z_v z) ∧ (z = a_sbounds (16 * i0 + 4 * x + y).toNat ∧ z_rg z)) := by
  refine z_start2 (by decide) (Nat.le_of_ble_eq_true rfl) ?_
  intro p e R s m args below meth c Q C hRf hRc hRs hRl hQ hrt hnm
  refine z_loc (L' := [(0, .ref (ad 6)), (1, z_v i0), (2, z_v x), (3, z_v y)]) [0, 1, 2, 3] rfl ?_
  refine z_aloadn C 0 dX4_boundOf_0 rfl rfl ?_
  refine z_get C 6 (by decide) rfl rfl z_it4 2 (by decide) rfl fl_4_15 rfl dX4_boundOf_1 ?_
  refine z_iloadn C 1 dX4_boundOf_4 rfl rfl ?_
  refine z_bipush C dX4_boundOf_5 (by decide) ?_
  refine z_imul C dX4_boundOf_7 ?_
  refine z_iloadn C 2 dX4_boundOf_8 rfl rfl ?_
  refine z_iconst C dX4_boundOf_9 ?_
  refine z_imul C dX4_boundOf_10 ?_
  refine z_iadd C dX4_boundOf_11 ?_
  refine z_iloadn C 3 dX4_boundOf_12 rfl rfl ?_
  refine z_iadd C dX4_boundOf_13 ?_
  refine z_iald C 8 (by decide) rfl (by decide) (by omega) (by omega) dX4_boundOf_14 ?_
  have rx1 := Ha_sbounds ((((i0 * 16) + (x * 4)) + y) : Int).toNat
  generalize ex1 : a_sbounds ((((i0 * 16) + (x * 4)) + y) : Int).toNat = x1 at rx1 ⊢
  rw [hQ]
  exact z_iret C hrt dX4_boundOf_15 (⟨rfl, rfl, _, rfl, ⟨by rw [show 16 * i0 + 4 * x + y = i0 * 16 + x * 4 + y by omega]; omega, by omega⟩⟩) (by omega) (by omega)
set_option maxRecDepth 20000 in
theorem cx_X10_bound (l : Launch) {D : va_G} {A : Nat → Prop} {ad : Nat → Nat} {ks : z_Ks} {s_edgeCount s_moveCount s_isNeeded s_timesDone s_size s_isGoing s_allTime s_stepCount s_gapCount : Int} {g_edges g_moves g_limits : Nat → Option Nat} {a_sfacts a_sbounds a_facts a_zone a_most a_places a_amounts a_nextPlaces a_nextAmounts a_earliest a_visited a_lastSet a_gapFrom a_gapTo a_gapLeast a_askedPlaces a_askedAmounts : Nat → Int} {Y : Nat → Option va_E} (i0 x y : Int) (Hs_isNeeded : (s_isNeeded = 0 ∨ s_isNeeded = 1)) (Hs_size : (0 ≤ s_size ∧ s_size ≤ 120)) (Ha_sbounds : (∀ j, z_rg (a_sbounds j))) (hi0 : z_rg i0) (hx : z_rg x) (hy : z_rg y) : z_Met l yX10_bound cX10_bound 4 (some .int) 1 23 0 0 D A 27 ad ks [.ref (ad 0), z_v i0, z_v x, z_v y] (z_zc ad ks s_edgeCount s_moveCount s_isNeeded s_timesDone s_size s_isGoing s_allTime s_stepCount s_gapCount g_edges g_moves g_limits a_sfacts a_sbounds a_facts a_zone a_most a_places a_amounts a_nextPlaces a_nextAmounts a_earliest a_visited a_lastSet a_gapFrom a_gapTo a_gapLeast a_askedPlaces a_askedAmounts) Y (fun r S' Y' => S' = (z_zc ad ks s_edgeCount s_moveCount s_isNeeded s_timesDone s_size s_isGoing s_allTime s_stepCount s_gapCount g_edges g_moves g_limits a_sfacts a_sbounds a_facts a_zone a_most a_places a_amounts a_nextPlaces a_nextAmounts a_earliest a_visited a_lastSet a_gapFrom a_gapTo a_gapLeast a_askedPlaces a_askedAmounts) ∧ Y = Y' ∧ ∃ z : Int, r = some (z_v z) ∧ (z = z_bdA i0 x y s_isNeeded s_size (a_sbounds (16 * i0 + 4 * x + y).toNat))) := by
  refine z_start2 (by decide) (Nat.le_of_ble_eq_true rfl) ?_
  intro p e R s m args below meth c Q C hRf hRc hRs hRl hQ hrt hnm
  refine z_loc (L' := [(0, .ref (ad 0)), (1, z_v i0), (2, z_v x), (3, z_v y)]) [0, 1, 2, 3] rfl ?_
  refine z_aloadn C 0 dX10_bound_0 rfl rfl ?_
  refine z_get C 0 (by decide) rfl rfl z_it10 1 (by decide) rfl fl_10_19 rfl dX10_bound_1 ?_
  refine z_get C 5 (by decide) rfl rfl z_it3 1 (by decide) rfl fl_10_102 rfl dX10_bound_4 ?_
  refine z_if_eq (t := 13) C dX10_bound_7 (by decide) (by omega) (fun c1 => ?_) (fun c1 => ?_)
  · skip
    refine z_aloadn C 0 dX10_bound_13 rfl rfl ?_
    refine z_get C 0 (by decide) rfl rfl z_it10 1 (by decide) rfl fl_10_19 rfl dX10_bound_14 ?_
    refine z_get C 5 (by decide) rfl rfl z_it3 0 (by decide) rfl fl_10_106 rfl dX10_bound_17 ?_
    refine z_iloadn C 1 dX10_bound_20 rfl rfl ?_
    refine z_callV C (cm_X4_isMet l i0 (by omega) (by omega)) mv_10_110 (z_atS 6 4 (by decide) rfl rfl rfl) pd_X4_isMet ⟨by omega, by omega⟩ ⟨by omega, by omega⟩ rfl (Nat.le_of_ble_eq_true rfl) dX10_bound_21 ?_
    rintro _ _ _ ⟨rfl, rfl, z4, rfl, hz4⟩
    refine z_if_eq (t := 41) C dX10_bound_24 (by decide) (by omega) (fun c5 => ?_) (fun c5 => ?_)
    · skip
      refine z_ldc (n := 100002) C kc_10_123 (by decide) dX10_bound_41 ?_
      rw [hQ]
      exact z_iret C hrt dX10_bound_43 (⟨rfl, rfl, _, rfl, by unfold z_bdA; split <;> (try split) <;> (try split) <;> omega⟩) (by omega) (by omega)
    · skip
      refine z_iloadn C 2 dX10_bound_27 rfl rfl ?_
      refine z_callS C (cm_X10_isClockOrZero l x (by omega)) mv_10_120 pd_X10_isClockOrZero ⟨by omega, by omega⟩ ⟨by omega, by omega⟩ rfl (Nat.le_of_ble_eq_true rfl) dX10_bound_28 ?_
      rintro _ _ _ ⟨rfl, rfl, z8, rfl, hz8⟩
      refine z_if_eq (t := 41) C dX10_bound_31 (by decide) (by omega) (fun c9 => ?_) (fun c9 => ?_)
      · skip
        refine z_ldc (n := 100002) C kc_10_123 (by decide) dX10_bound_41 ?_
        rw [hQ]
        exact z_iret C hrt dX10_bound_43 (⟨rfl, rfl, _, rfl, by unfold z_bdA; split <;> (try split) <;> (try split) <;> omega⟩) (by omega) (by omega)
      · skip
        refine z_iloadn C 3 dX10_bound_34 rfl rfl ?_
        refine z_callS C (cm_X10_isClockOrZero l y (by omega)) mv_10_120 pd_X10_isClockOrZero ⟨by omega, by omega⟩ ⟨by omega, by omega⟩ rfl (Nat.le_of_ble_eq_true rfl) dX10_bound_35 ?_
        rintro _ _ _ ⟨rfl, rfl, z12, rfl, hz12⟩
        refine z_if_ne (t := 44) C dX10_bound_38 (by decide) (by omega) (fun c13 => ?_) (fun c13 => ?_)
        · skip
          refine z_aloadn C 0 dX10_bound_44 rfl rfl ?_
          refine z_get C 0 (by decide) rfl rfl z_it10 1 (by decide) rfl fl_10_19 rfl dX10_bound_45 ?_
          refine z_get C 5 (by decide) rfl rfl z_it3 0 (by decide) rfl fl_10_106 rfl dX10_bound_48 ?_
          refine z_iloadn C 1 dX10_bound_51 rfl rfl ?_
          refine z_iloadn C 2 dX10_bound_52 rfl rfl ?_
          refine z_iloadn C 3 dX10_bound_53 rfl rfl ?_
          refine z_callV C (cx_X4_boundOf l i0 x y Ha_sbounds (by omega) (by omega) (by omega)) mv_10_124 (z_atS 6 4 (by decide) rfl rfl rfl) pd_X4_boundOf ⟨by omega, by omega⟩ ⟨by omega, by omega⟩ rfl (Nat.le_of_ble_eq_true rfl) dX10_bound_54 ?_
          rintro _ _ _ ⟨rfl, rfl, z16, rfl, hz16⟩
          rw [hQ]
          exact z_iret C hrt dX10_bound_57 (⟨rfl, rfl, _, rfl, by unfold z_bdA; split <;> (try split) <;> (try split) <;> omega⟩) (by omega) (by omega)
        · skip
          refine z_ldc (n := 100002) C kc_10_123 (by decide) dX10_bound_41 ?_
          rw [hQ]
          exact z_iret C hrt dX10_bound_43 (⟨rfl, rfl, _, rfl, by unfold z_bdA; split <;> (try split) <;> (try split) <;> omega⟩) (by omega) (by omega)
  · skip
    refine z_ldc (n := 100001) C kc_10_119 (by decide) dX10_bound_10 ?_
    rw [hQ]
    exact z_iret C hrt dX10_bound_12 (⟨rfl, rfl, _, rfl, by unfold z_bdA; split <;> (try split) <;> (try split) <;> omega⟩) (by omega) (by omega)
set_option maxRecDepth 20000 in
theorem cx_X4_isAt_14 (l : Launch) {D : va_G} {A : Nat → Prop} {ad : Nat → Nat} {ks : z_Ks} {s_edgeCount s_moveCount s_isNeeded s_timesDone s_size s_isGoing s_allTime s_stepCount s_gapCount : Int} {g_edges g_moves g_limits : Nat → Option Nat} {a_sfacts a_sbounds a_facts a_zone a_most a_places a_amounts a_nextPlaces a_nextAmounts a_earliest a_visited a_lastSet a_gapFrom a_gapTo a_gapLeast a_askedPlaces a_askedAmounts : Nat → Int} {Y : Nat → Option va_E} (i0 : Int) (Ha_sfacts : (∀ j, (j % 7 < 3 → 0 ≤ a_sfacts j ∧ a_sfacts j ≤ 5) ∧ (j % 7 = 3 → -1 ≤ a_sfacts j ∧ a_sfacts j ≤ 119) ∧ (j % 7 = 6 → 0 ≤ a_sfacts j ∧ a_sfacts j ≤ 40) ∧ z_rg (a_sfacts j))) (Ha_places : (∀ j, 0 ≤ a_places j ∧ a_places j ≤ 5)) (hi : 0 ≤ i0 ∧ i0 ≤ 119) : z_Met l yX4_isAt cX4_isAt 4 (some .boolean) 1 22 0 0 D A 27 ad ks [.ref (ad 6), z_v i0, .ref (ad 14)] (z_zc ad ks s_edgeCount s_moveCount s_isNeeded s_timesDone s_size s_isGoing s_allTime s_stepCount s_gapCount g_edges g_moves g_limits a_sfacts a_sbounds a_facts a_zone a_most a_places a_amounts a_nextPlaces a_nextAmounts a_earliest a_visited a_lastSet a_gapFrom a_gapTo a_gapLeast a_askedPlaces a_askedAmounts) Y (fun r S' Y' => S' = (z_zc ad ks s_edgeCount s_moveCount s_isNeeded s_timesDone s_size s_isGoing s_allTime s_stepCount s_gapCount g_edges g_moves g_limits a_sfacts a_sbounds a_facts a_zone a_most a_places a_amounts a_nextPlaces a_nextAmounts a_earliest a_visited a_lastSet a_gapFrom a_gapTo a_gapLeast a_askedPlaces a_askedAmounts) ∧ Y = Y' ∧ ∃ z : Int, r = some (z_v z) ∧ (z = 1 ∧ ((∀ m : Int, 0 ≤ m → m < 3 → a_places m.toNat = -1 ∨ a_places m.toNat = a_sfacts (7 * i0.toNat + m.toNat))) ∨ z = 0 ∧ ¬ ((∀ m : Int, 0 ≤ m → m < 3 → a_places m.toNat = -1 ∨ a_places m.toNat = a_sfacts (7 * i0.toNat + m.toNat))))) := by
  refine z_start2 (by decide) (Nat.le_of_ble_eq_true rfl) ?_
  intro p e R s m args below meth c Q C hRf hRc hRs hRl hQ hrt hnm
  refine z_loc (L' := [(0, .ref (ad 6)), (1, z_v i0), (2, .ref (ad 14))]) [0, 1, 2] rfl ?_
  refine z_iconst C dX4_isAt_0 ?_
  refine z_istoren (L' := [(3, z_v 0), (0, .ref (ad 6)), (1, z_v i0), (2, .ref (ad 14))]) C dX4_isAt_1 rfl (by decide) rfl ?_
  have L2 : ∀ (n : Nat), ∀ (i3 : Int), ((∀ m : Int, 0 ≤ m → m < i3 → a_places m.toNat = -1 ∨ a_places m.toNat = a_sfacts (7 * i0.toNat + m.toNat))) → (0 ≤ i3 ∧ i3 ≤ 3) → ((3 : Int) - i3).toNat < n → z_V p l e R s m args below meth c Q D A 27 ad 4 (z_zc ad ks s_edgeCount s_moveCount s_isNeeded s_timesDone s_size s_isGoing s_allTime s_stepCount s_gapCount g_edges g_moves g_limits a_sfacts a_sbounds a_facts a_zone a_most a_places a_amounts a_nextPlaces a_nextAmounts a_earliest a_visited a_lastSet a_gapFrom a_gapTo a_gapLeast a_askedPlaces a_askedAmounts) Y 0 0 2 [(0, .ref (ad 6)), (1, z_v i0), (2, .ref (ad 14)), (3, z_v i3)] [] := by
    intro n
    induction n with
    | zero => intro i3 FM I3 hm; exact absurd hm (Nat.not_lt_zero _)
    | succ n ih2 =>
      intro i3 FM I3 hm
      refine z_iloadn C 3 dX4_isAt_2 rfl rfl ?_
      refine z_iconst C dX4_isAt_3 ?_
      refine z_icmp_ge (t := 34) C dX4_isAt_4 (by decide) (by omega) (by omega) (fun c1 => ?_) (fun c1 => ?_)
      · skip
        refine z_iconst C dX4_isAt_34 ?_
        rw [hQ]
        exact z_zret C hrt (by omega) dX4_isAt_35 (⟨rfl, rfl, _, rfl, Or.inl ⟨rfl, fun m h0 h1 => FM m h0 (by omega)⟩⟩) (by omega) (by omega)
      · skip
        refine z_aloadn C 2 dX4_isAt_7 rfl rfl ?_
        refine z_iloadn C 3 dX4_isAt_8 rfl rfl ?_
        refine z_iald C 14 (by decide) rfl (by decide) (by omega) (by omega) dX4_isAt_9 ?_
        have rx2 := Ha_places (i3 : Int).toNat
        generalize ex2 : a_places (i3 : Int).toNat = x2 at rx2 ⊢
        have e9 := ex2
        refine z_iconst C dX4_isAt_10 ?_
        refine z_icmp_eq (t := 28) C dX4_isAt_11 (by decide) (by omega) (by omega) (fun c3 => ?_) (fun c3 => ?_)
        · skip
          refine z_iinc (L' := [(3, z_v (i3 + 1)), (0, .ref (ad 6)), (1, z_v i0), (2, .ref (ad 14))]) C 3 dX4_isAt_28 rfl (by decide) rfl ?_
          refine z_goto (t := 2) C dX4_isAt_31 (by decide) ?_
          refine z_loc (L' := [(0, .ref (ad 6)), (1, z_v i0), (2, .ref (ad 14)), (3, z_v (i3 + 1))]) [1, 2, 3, 0] rfl ?_
          exact ih2 (i3 + 1) (by first | exact z_snoc FM (Or.inr (zo_fa e9 hf20 (by omega) (by omega))) | exact z_snoc FM (Or.inl (by omega))) (by omega) (by omega)
        · skip
          refine z_aloadn C 2 dX4_isAt_14 rfl rfl ?_
          refine z_iloadn C 3 dX4_isAt_15 rfl rfl ?_
          refine z_iald C 14 (by decide) rfl (by decide) (by omega) (by omega) dX4_isAt_16 ?_
          rw [ex2]
          refine z_aloadn C 0 dX4_isAt_17 rfl rfl ?_
          refine z_iloadn C 1 dX4_isAt_18 rfl rfl ?_
          refine z_iloadn C 3 dX4_isAt_19 rfl rfl ?_
          refine z_callV C (cm_X4_fact l i0 i3 Ha_sfacts (by omega) (by omega)) mv_4_26 (z_atS 6 4 (by decide) rfl rfl rfl) pd_X4_fact ⟨by omega, by omega⟩ ⟨by omega, by omega⟩ rfl (Nat.le_of_ble_eq_true rfl) dX4_isAt_20 ?_
          rintro _ _ _ ⟨rfl, rfl, z6, rfl, hz6⟩
          have hf20 := hz6.1
          refine z_icmp_eq (t := 28) C dX4_isAt_23 (by decide) (by omega) (by omega) (fun c7 => ?_) (fun c7 => ?_)
          · skip
            refine z_iinc (L' := [(3, z_v (i3 + 1)), (0, .ref (ad 6)), (1, z_v i0), (2, .ref (ad 14))]) C 3 dX4_isAt_28 rfl (by decide) rfl ?_
            refine z_goto (t := 2) C dX4_isAt_31 (by decide) ?_
            refine z_loc (L' := [(0, .ref (ad 6)), (1, z_v i0), (2, .ref (ad 14)), (3, z_v (i3 + 1))]) [1, 2, 3, 0] rfl ?_
            exact ih2 (i3 + 1) (by first | exact z_snoc FM (Or.inr (zo_fa e9 hf20 (by omega) (by omega))) | exact z_snoc FM (Or.inl (by omega))) (by omega) (by omega)
          · skip
            refine z_iconst C dX4_isAt_26 ?_
            rw [hQ]
            exact z_zret C hrt (by omega) dX4_isAt_27 (⟨rfl, rfl, _, rfl, Or.inr ⟨rfl, fun h => (h i3 (by omega) (by omega)).elim (fun q => by omega) (zo_fb e9 hf20 (by omega) (by omega))⟩⟩) (by omega) (by omega)
  refine z_loc (L' := [(0, .ref (ad 6)), (1, z_v i0), (2, .ref (ad 14)), (3, z_v 0)]) [1, 2, 3, 0] rfl ?_
  exact (L2 (((3 : Int) - 0).toNat + 1)) 0 (z_vac) (by omega) (Nat.lt_succ_self _)
set_option maxRecDepth 20000 in
theorem cx_X4_isAt_25 (l : Launch) {D : va_G} {A : Nat → Prop} {ad : Nat → Nat} {ks : z_Ks} {s_edgeCount s_moveCount s_isNeeded s_timesDone s_size s_isGoing s_allTime s_stepCount s_gapCount : Int} {g_edges g_moves g_limits : Nat → Option Nat} {a_sfacts a_sbounds a_facts a_zone a_most a_places a_amounts a_nextPlaces a_nextAmounts a_earliest a_visited a_lastSet a_gapFrom a_gapTo a_gapLeast a_askedPlaces a_askedAmounts : Nat → Int} {Y : Nat → Option va_E} (i0 : Int) (Ha_sfacts : (∀ j, (j % 7 < 3 → 0 ≤ a_sfacts j ∧ a_sfacts j ≤ 5) ∧ (j % 7 = 3 → -1 ≤ a_sfacts j ∧ a_sfacts j ≤ 119) ∧ (j % 7 = 6 → 0 ≤ a_sfacts j ∧ a_sfacts j ≤ 40) ∧ z_rg (a_sfacts j))) (Ha_askedPlaces : (∀ j, -1 ≤ a_askedPlaces j ∧ a_askedPlaces j ≤ 5)) (hi : 0 ≤ i0 ∧ i0 ≤ 119) : z_Met l yX4_isAt cX4_isAt 4 (some .boolean) 1 22 0 0 D A 27 ad ks [.ref (ad 6), z_v i0, .ref (ad 25)] (z_zc ad ks s_edgeCount s_moveCount s_isNeeded s_timesDone s_size s_isGoing s_allTime s_stepCount s_gapCount g_edges g_moves g_limits a_sfacts a_sbounds a_facts a_zone a_most a_places a_amounts a_nextPlaces a_nextAmounts a_earliest a_visited a_lastSet a_gapFrom a_gapTo a_gapLeast a_askedPlaces a_askedAmounts) Y (fun r S' Y' => S' = (z_zc ad ks s_edgeCount s_moveCount s_isNeeded s_timesDone s_size s_isGoing s_allTime s_stepCount s_gapCount g_edges g_moves g_limits a_sfacts a_sbounds a_facts a_zone a_most a_places a_amounts a_nextPlaces a_nextAmounts a_earliest a_visited a_lastSet a_gapFrom a_gapTo a_gapLeast a_askedPlaces a_askedAmounts) ∧ Y = Y' ∧ ∃ z : Int, r = some (z_v z) ∧ (z = 1 ∧ ((∀ m : Int, 0 ≤ m → m < 3 → a_askedPlaces m.toNat = -1 ∨ a_askedPlaces m.toNat = a_sfacts (7 * i0.toNat + m.toNat))) ∨ z = 0 ∧ ¬ ((∀ m : Int, 0 ≤ m → m < 3 → a_askedPlaces m.toNat = -1 ∨ a_askedPlaces m.toNat = a_sfacts (7 * i0.toNat + m.toNat))))) := by
  refine z_start2 (by decide) (Nat.le_of_ble_eq_true rfl) ?_
  intro p e R s m args below meth c Q C hRf hRc hRs hRl hQ hrt hnm
  refine z_loc (L' := [(0, .ref (ad 6)), (1, z_v i0), (2, .ref (ad 25))]) [0, 1, 2] rfl ?_
  refine z_iconst C dX4_isAt_0 ?_
  refine z_istoren (L' := [(3, z_v 0), (0, .ref (ad 6)), (1, z_v i0), (2, .ref (ad 25))]) C dX4_isAt_1 rfl (by decide) rfl ?_
  have L2 : ∀ (n : Nat), ∀ (i3 : Int), ((∀ m : Int, 0 ≤ m → m < i3 → a_askedPlaces m.toNat = -1 ∨ a_askedPlaces m.toNat = a_sfacts (7 * i0.toNat + m.toNat))) → (0 ≤ i3 ∧ i3 ≤ 3) → ((3 : Int) - i3).toNat < n → z_V p l e R s m args below meth c Q D A 27 ad 4 (z_zc ad ks s_edgeCount s_moveCount s_isNeeded s_timesDone s_size s_isGoing s_allTime s_stepCount s_gapCount g_edges g_moves g_limits a_sfacts a_sbounds a_facts a_zone a_most a_places a_amounts a_nextPlaces a_nextAmounts a_earliest a_visited a_lastSet a_gapFrom a_gapTo a_gapLeast a_askedPlaces a_askedAmounts) Y 0 0 2 [(0, .ref (ad 6)), (1, z_v i0), (2, .ref (ad 25)), (3, z_v i3)] [] := by
    intro n
    induction n with
    | zero => intro i3 FM I3 hm; exact absurd hm (Nat.not_lt_zero _)
    | succ n ih2 =>
      intro i3 FM I3 hm
      refine z_iloadn C 3 dX4_isAt_2 rfl rfl ?_
      refine z_iconst C dX4_isAt_3 ?_
      refine z_icmp_ge (t := 34) C dX4_isAt_4 (by decide) (by omega) (by omega) (fun c1 => ?_) (fun c1 => ?_)
      · skip
        refine z_iconst C dX4_isAt_34 ?_
        rw [hQ]
        exact z_zret C hrt (by omega) dX4_isAt_35 (⟨rfl, rfl, _, rfl, Or.inl ⟨rfl, fun m h0 h1 => FM m h0 (by omega)⟩⟩) (by omega) (by omega)
      · skip
        refine z_aloadn C 2 dX4_isAt_7 rfl rfl ?_
        refine z_iloadn C 3 dX4_isAt_8 rfl rfl ?_
        refine z_iald C 25 (by decide) rfl (by decide) (by omega) (by omega) dX4_isAt_9 ?_
        have rx2 := Ha_askedPlaces (i3 : Int).toNat
        generalize ex2 : a_askedPlaces (i3 : Int).toNat = x2 at rx2 ⊢
        have e9 := ex2
        refine z_iconst C dX4_isAt_10 ?_
        refine z_icmp_eq (t := 28) C dX4_isAt_11 (by decide) (by omega) (by omega) (fun c3 => ?_) (fun c3 => ?_)
        · skip
          refine z_iinc (L' := [(3, z_v (i3 + 1)), (0, .ref (ad 6)), (1, z_v i0), (2, .ref (ad 25))]) C 3 dX4_isAt_28 rfl (by decide) rfl ?_
          refine z_goto (t := 2) C dX4_isAt_31 (by decide) ?_
          refine z_loc (L' := [(0, .ref (ad 6)), (1, z_v i0), (2, .ref (ad 25)), (3, z_v (i3 + 1))]) [1, 2, 3, 0] rfl ?_
          exact ih2 (i3 + 1) (by first | exact z_snoc FM (Or.inr (zo_fa e9 hf20 (by omega) (by omega))) | exact z_snoc FM (Or.inl (by omega))) (by omega) (by omega)
        · skip
          refine z_aloadn C 2 dX4_isAt_14 rfl rfl ?_
          refine z_iloadn C 3 dX4_isAt_15 rfl rfl ?_
          refine z_iald C 25 (by decide) rfl (by decide) (by omega) (by omega) dX4_isAt_16 ?_
          rw [ex2]
          refine z_aloadn C 0 dX4_isAt_17 rfl rfl ?_
          refine z_iloadn C 1 dX4_isAt_18 rfl rfl ?_
          refine z_iloadn C 3 dX4_isAt_19 rfl rfl ?_
          refine z_callV C (cm_X4_fact l i0 i3 Ha_sfacts (by omega) (by omega)) mv_4_26 (z_atS 6 4 (by decide) rfl rfl rfl) pd_X4_fact ⟨by omega, by omega⟩ ⟨by omega, by omega⟩ rfl (Nat.le_of_ble_eq_true rfl) dX4_isAt_20 ?_
          rintro _ _ _ ⟨rfl, rfl, z6, rfl, hz6⟩
          have hf20 := hz6.1
          refine z_icmp_eq (t := 28) C dX4_isAt_23 (by decide) (by omega) (by omega) (fun c7 => ?_) (fun c7 => ?_)
          · skip
            refine z_iinc (L' := [(3, z_v (i3 + 1)), (0, .ref (ad 6)), (1, z_v i0), (2, .ref (ad 25))]) C 3 dX4_isAt_28 rfl (by decide) rfl ?_
            refine z_goto (t := 2) C dX4_isAt_31 (by decide) ?_
            refine z_loc (L' := [(0, .ref (ad 6)), (1, z_v i0), (2, .ref (ad 25)), (3, z_v (i3 + 1))]) [1, 2, 3, 0] rfl ?_
            exact ih2 (i3 + 1) (by first | exact z_snoc FM (Or.inr (zo_fa e9 hf20 (by omega) (by omega))) | exact z_snoc FM (Or.inl (by omega))) (by omega) (by omega)
          · skip
            refine z_iconst C dX4_isAt_26 ?_
            rw [hQ]
            exact z_zret C hrt (by omega) dX4_isAt_27 (⟨rfl, rfl, _, rfl, Or.inr ⟨rfl, fun h => (h i3 (by omega) (by omega)).elim (fun q => by omega) (zo_fb e9 hf20 (by omega) (by omega))⟩⟩) (by omega) (by omega)
  refine z_loc (L' := [(0, .ref (ad 6)), (1, z_v i0), (2, .ref (ad 25)), (3, z_v 0)]) [1, 2, 3, 0] rfl ?_
  exact (L2 (((3 : Int) - 0).toNat + 1)) 0 (z_vac) (by omega) (Nat.lt_succ_self _)
set_option maxRecDepth 20000 in
theorem cx_X4_firstAt_25 (l : Launch) {D : va_G} {A : Nat → Prop} {ad : Nat → Nat} {ks : z_Ks} {s_edgeCount s_moveCount s_isNeeded s_timesDone s_size s_isGoing s_allTime s_stepCount s_gapCount : Int} {g_edges g_moves g_limits : Nat → Option Nat} {a_sfacts a_sbounds a_facts a_zone a_most a_places a_amounts a_nextPlaces a_nextAmounts a_earliest a_visited a_lastSet a_gapFrom a_gapTo a_gapLeast a_askedPlaces a_askedAmounts : Nat → Int} {Y : Nat → Option va_E} (Hs_size : (0 ≤ s_size ∧ s_size ≤ 120)) (Ha_sfacts : (∀ j, (j % 7 < 3 → 0 ≤ a_sfacts j ∧ a_sfacts j ≤ 5) ∧ (j % 7 = 3 → -1 ≤ a_sfacts j ∧ a_sfacts j ≤ 119) ∧ (j % 7 = 6 → 0 ≤ a_sfacts j ∧ a_sfacts j ≤ 40) ∧ z_rg (a_sfacts j))) (Ha_askedPlaces : (∀ j, -1 ≤ a_askedPlaces j ∧ a_askedPlaces j ≤ 5)) : z_Met l yX4_firstAt cX4_firstAt 3 (some .int) 2 45 0 0 D A 27 ad ks [.ref (ad 6), .ref (ad 25)] (z_zc ad ks s_edgeCount s_moveCount s_isNeeded s_timesDone s_size s_isGoing s_allTime s_stepCount s_gapCount g_edges g_moves g_limits a_sfacts a_sbounds a_facts a_zone a_most a_places a_amounts a_nextPlaces a_nextAmounts a_earliest a_visited a_lastSet a_gapFrom a_gapTo a_gapLeast a_askedPlaces a_askedAmounts) Y (fun r S' Y' => S' = (z_zc ad ks s_edgeCount s_moveCount s_isNeeded s_timesDone s_size s_isGoing s_allTime s_stepCount s_gapCount g_edges g_moves g_limits a_sfacts a_sbounds a_facts a_zone a_most a_places a_amounts a_nextPlaces a_nextAmounts a_earliest a_visited a_lastSet a_gapFrom a_gapTo a_gapLeast a_askedPlaces a_askedAmounts) ∧ Y = Y' ∧ ∃ z : Int, r = some (z_v z) ∧ (z_fst (fun i => (∀ m : Int, 0 ≤ m → m < 3 → a_askedPlaces m.toNat = -1 ∨ a_askedPlaces m.toNat = a_sfacts (7 * i.toNat + m.toNat))) s_size z)) := by
  refine z_start2 (by decide) (Nat.le_of_ble_eq_true rfl) ?_
  intro p e R s m args below meth c Q C hRf hRc hRs hRl hQ hrt hnm
  refine z_loc (L' := [(0, .ref (ad 6)), (1, .ref (ad 25))]) [0, 1] rfl ?_
  refine z_iconst C dX4_firstAt_0 ?_
  refine z_istoren (L' := [(2, z_v 0), (0, .ref (ad 6)), (1, .ref (ad 25))]) C dX4_firstAt_1 rfl (by decide) rfl ?_
  have L2 : ∀ (n : Nat), ∀ (i2 : Int), (∀ i : Int, 0 ≤ i → i < i2 → ¬ (∀ m : Int, 0 ≤ m → m < 3 → a_askedPlaces m.toNat = -1 ∨ a_askedPlaces m.toNat = a_sfacts (7 * i.toNat + m.toNat))) → (0 ≤ i2 ∧ i2 ≤ s_size) → ((s_size : Int) - i2).toNat < n → z_V p l e R s m args below meth c Q D A 27 ad 3 (z_zc ad ks s_edgeCount s_moveCount s_isNeeded s_timesDone s_size s_isGoing s_allTime s_stepCount s_gapCount g_edges g_moves g_limits a_sfacts a_sbounds a_facts a_zone a_most a_places a_amounts a_nextPlaces a_nextAmounts a_earliest a_visited a_lastSet a_gapFrom a_gapTo a_gapLeast a_askedPlaces a_askedAmounts) Y 0 0 2 [(0, .ref (ad 6)), (1, .ref (ad 25)), (2, z_v i2)] [] := by
    intro n
    induction n with
    | zero => intro i2 NF I2 hm; exact absurd hm (Nat.not_lt_zero _)
    | succ n ih2 =>
      intro i2 NF I2 hm
      refine z_iloadn C 2 dX4_firstAt_2 rfl rfl ?_
      refine z_aloadn C 0 dX4_firstAt_3 rfl rfl ?_
      refine z_get C 6 (by decide) rfl rfl z_it4 0 (by decide) rfl fl_4_18 rfl dX4_firstAt_4 ?_
      refine z_icmp_ge (t := 27) C dX4_firstAt_7 (by decide) (by omega) (by omega) (fun c1 => ?_) (fun c1 => ?_)
      · skip
        refine z_iconst C dX4_firstAt_27 ?_
        rw [hQ]
        exact z_iret C hrt dX4_firstAt_28 (⟨rfl, rfl, _, rfl, Or.inl ⟨rfl, fun i h0 h1 => NF i h0 (by omega)⟩⟩) (by omega) (by omega)
      · skip
        refine z_aloadn C 0 dX4_firstAt_10 rfl rfl ?_
        refine z_iloadn C 2 dX4_firstAt_11 rfl rfl ?_
        refine z_aloadn C 1 dX4_firstAt_12 rfl rfl ?_
        refine z_callV C (cx_X4_isAt_25 l i2 Ha_sfacts Ha_askedPlaces (by omega)) mv_4_39 (z_atS 6 4 (by decide) rfl rfl rfl) pd_X4_isAt ⟨by omega, by omega⟩ ⟨by omega, by omega⟩ rfl (Nat.le_of_ble_eq_true rfl) dX4_firstAt_13 ?_
        rintro _ _ _ ⟨rfl, rfl, z4, rfl, hz4⟩
        have hat := hz4
        refine z_if_eq (t := 21) C dX4_firstAt_16 (by decide) (by omega) (fun c5 => ?_) (fun c5 => ?_)
        · skip
          refine z_iinc (L' := [(2, z_v (i2 + 1)), (0, .ref (ad 6)), (1, .ref (ad 25))]) C 2 dX4_firstAt_21 rfl (by decide) rfl ?_
          refine z_goto (t := 2) C dX4_firstAt_24 (by decide) ?_
          refine z_loc (L' := [(0, .ref (ad 6)), (1, .ref (ad 25)), (2, z_v (i2 + 1))]) [1, 2, 0] rfl ?_
          exact ih2 (i2 + 1) (z_snoc NF (z_isz0 hat (by omega))) (by omega) (by omega)
        · skip
          refine z_iloadn C 2 dX4_firstAt_19 rfl rfl ?_
          rw [hQ]
          exact z_iret C hrt dX4_firstAt_20 (⟨rfl, rfl, _, rfl, Or.inr ⟨by omega, z_isz1 hat (by omega), NF⟩⟩) (by omega) (by omega)
  refine z_loc (L' := [(0, .ref (ad 6)), (1, .ref (ad 25)), (2, z_v 0)]) [1, 2, 0] rfl ?_
  exact (L2 (((s_size : Int) - 0).toNat + 1)) 0 (z_vac) (by omega) (Nat.lt_succ_self _)
set_option maxRecDepth 20000 in
theorem cx_X10_reach (l : Launch) {D : va_G} {A : Nat → Prop} {ad : Nat → Nat} {ks : z_Ks} {s_edgeCount s_moveCount s_isNeeded s_timesDone s_size s_isGoing s_allTime s_stepCount s_gapCount : Int} {g_edges g_moves g_limits : Nat → Option Nat} {a_sfacts a_sbounds a_facts a_zone a_most a_places a_amounts a_nextPlaces a_nextAmounts a_earliest a_visited a_lastSet a_gapFrom a_gapTo a_gapLeast a_askedPlaces a_askedAmounts : Nat → Int} {Y : Nat → Option va_E} (a b c0 : Int) (Hs_isNeeded : (s_isNeeded = 0 ∨ s_isNeeded = 1)) (Hs_size : (0 ≤ s_size ∧ s_size ≤ 120)) (Ha_sfacts : (∀ j, (j % 7 < 3 → 0 ≤ a_sfacts j ∧ a_sfacts j ≤ 5) ∧ (j % 7 = 3 → -1 ≤ a_sfacts j ∧ a_sfacts j ≤ 119) ∧ (j % 7 = 6 → 0 ≤ a_sfacts j ∧ a_sfacts j ≤ 40) ∧ z_rg (a_sfacts j))) (Ha_askedPlaces : (∀ j, -1 ≤ a_askedPlaces j ∧ a_askedPlaces j ≤ 5)) (ha : z_rg a) (hb : z_rg b) (hc0 : z_rg c0) : z_Met l yX10_reach cX10_reach 4 (some .int) 3 67 0 0 D A 27 ad ks [.ref (ad 0), z_v a, z_v b, z_v c0] (z_zc ad ks s_edgeCount s_moveCount s_isNeeded s_timesDone s_size s_isGoing s_allTime s_stepCount s_gapCount g_edges g_moves g_limits a_sfacts a_sbounds a_facts a_zone a_most a_places a_amounts a_nextPlaces a_nextAmounts a_earliest a_visited a_lastSet a_gapFrom a_gapTo a_gapLeast a_askedPlaces a_askedAmounts) Y (fun r S' Y' => ∃ na_askedPlaces : Nat → Int, S' = (z_zc ad ks s_edgeCount s_moveCount s_isNeeded s_timesDone s_size s_isGoing s_allTime s_stepCount s_gapCount g_edges g_moves g_limits a_sfacts a_sbounds a_facts a_zone a_most a_places a_amounts a_nextPlaces a_nextAmounts a_earliest a_visited a_lastSet a_gapFrom a_gapTo a_gapLeast na_askedPlaces a_askedAmounts) ∧ Y = Y' ∧ (∀ j, -1 ≤ na_askedPlaces j ∧ na_askedPlaces j ≤ 5) ∧ ∃ z : Int, r = some (z_v z) ∧ (z_rcA a b c0 s_isNeeded s_size (fun i => (a = -1 ∨ a = a_sfacts (7 * i.toNat)) ∧ (b = -1 ∨ b = a_sfacts (7 * i.toNat + 1)) ∧ (c0 = -1 ∨ c0 = a_sfacts (7 * i.toNat + 2))) z)) := by
  refine z_start2 (by decide) (Nat.le_of_ble_eq_true rfl) ?_
  intro p e R s m args below meth c Q C hRf hRc hRs hRl hQ hrt hnm
  refine z_loc (L' := [(0, .ref (ad 0)), (1, z_v a), (2, z_v b), (3, z_v c0)]) [0, 1, 2, 3] rfl ?_
  refine z_aloadn C 0 dX10_reach_0 rfl rfl ?_
  refine z_get C 0 (by decide) rfl rfl z_it10 1 (by decide) rfl fl_10_19 rfl dX10_reach_1 ?_
  refine z_get C 5 (by decide) rfl rfl z_it3 1 (by decide) rfl fl_10_102 rfl dX10_reach_4 ?_
  refine z_if_eq (t := 13) C dX10_reach_7 (by decide) (by omega) (fun c1 => ?_) (fun c1 => ?_)
  · skip
    refine z_iloadn C 1 dX10_reach_13 rfl rfl ?_
    refine z_callS C (cm_X10_isPlaceOrAny l a (by omega)) mv_10_128 pd_X10_isPlaceOrAny ⟨by omega, by omega⟩ ⟨by omega, by omega⟩ rfl (Nat.le_of_ble_eq_true rfl) dX10_reach_14 ?_
    rintro _ _ _ ⟨rfl, rfl, z4, rfl, hz4⟩
    refine z_if_eq (t := 34) C dX10_reach_17 (by decide) (by omega) (fun c5 => ?_) (fun c5 => ?_)
    · skip
      refine z_bipush C dX10_reach_34 (by decide) ?_
      rw [hQ]
      exact z_iret C hrt dX10_reach_36 (⟨a_askedPlaces, rfl, rfl, Ha_askedPlaces, _, rfl, Or.inr (Or.inl ⟨by omega, by omega, rfl⟩)⟩) (by omega) (by omega)
    · skip
      refine z_iloadn C 2 dX10_reach_20 rfl rfl ?_
      refine z_callS C (cm_X10_isPlaceOrAny l b (by omega)) mv_10_128 pd_X10_isPlaceOrAny ⟨by omega, by omega⟩ ⟨by omega, by omega⟩ rfl (Nat.le_of_ble_eq_true rfl) dX10_reach_21 ?_
      rintro _ _ _ ⟨rfl, rfl, z8, rfl, hz8⟩
      refine z_if_eq (t := 34) C dX10_reach_24 (by decide) (by omega) (fun c9 => ?_) (fun c9 => ?_)
      · skip
        refine z_bipush C dX10_reach_34 (by decide) ?_
        rw [hQ]
        exact z_iret C hrt dX10_reach_36 (⟨a_askedPlaces, rfl, rfl, Ha_askedPlaces, _, rfl, Or.inr (Or.inl ⟨by omega, by omega, rfl⟩)⟩) (by omega) (by omega)
      · skip
        refine z_iloadn C 3 dX10_reach_27 rfl rfl ?_
        refine z_callS C (cm_X10_isPlaceOrAny l c0 (by omega)) mv_10_128 pd_X10_isPlaceOrAny ⟨by omega, by omega⟩ ⟨by omega, by omega⟩ rfl (Nat.le_of_ble_eq_true rfl) dX10_reach_28 ?_
        rintro _ _ _ ⟨rfl, rfl, z12, rfl, hz12⟩
        refine z_if_ne (t := 37) C dX10_reach_31 (by decide) (by omega) (fun c13 => ?_) (fun c13 => ?_)
        · skip
          refine z_aloadn C 0 dX10_reach_37 rfl rfl ?_
          refine z_get C 0 (by decide) rfl rfl z_it10 4 (by decide) rfl fl_10_37 rfl dX10_reach_38 ?_
          refine z_iconst C dX10_reach_41 ?_
          refine z_iloadn C 1 dX10_reach_42 rfl rfl ?_
          refine z_iast C 25 (by decide) rfl (by decide) (by omega) (by omega) dX10_reach_43 ?_
          refine z_ext (S' := (z_zc ad ks s_edgeCount s_moveCount s_isNeeded s_timesDone s_size s_isGoing s_allTime s_stepCount s_gapCount g_edges g_moves g_limits a_sfacts a_sbounds a_facts a_zone a_most a_places a_amounts a_nextPlaces a_nextAmounts a_earliest a_visited a_lastSet a_gapFrom a_gapTo a_gapLeast (va_up a_askedPlaces (0 : Int).toNat a) a_askedAmounts)) upC_a_askedPlaces ?_
          have h14 : ∀ j, -1 ≤ (va_up a_askedPlaces (0 : Int).toNat a) j ∧ (va_up a_askedPlaces (0 : Int).toNat a) j ≤ 5 := z_upP (P := fun j v => -1 ≤ v ∧ v ≤ 5) Ha_askedPlaces (by omega)
          refine z_aloadn C 0 dX10_reach_44 rfl rfl ?_
          refine z_get C 0 (by decide) rfl rfl z_it10 4 (by decide) rfl fl_10_37 rfl dX10_reach_45 ?_
          refine z_iconst C dX10_reach_48 ?_
          refine z_iloadn C 2 dX10_reach_49 rfl rfl ?_
          refine z_iast C 25 (by decide) rfl (by decide) (by omega) (by omega) dX10_reach_50 ?_
          refine z_ext (S' := (z_zc ad ks s_edgeCount s_moveCount s_isNeeded s_timesDone s_size s_isGoing s_allTime s_stepCount s_gapCount g_edges g_moves g_limits a_sfacts a_sbounds a_facts a_zone a_most a_places a_amounts a_nextPlaces a_nextAmounts a_earliest a_visited a_lastSet a_gapFrom a_gapTo a_gapLeast (va_up (va_up a_askedPlaces (0 : Int).toNat a) (1 : Int).toNat b) a_askedAmounts)) upC_a_askedPlaces ?_
          have h15 : ∀ j, -1 ≤ (va_up (va_up a_askedPlaces (0 : Int).toNat a) (1 : Int).toNat b) j ∧ (va_up (va_up a_askedPlaces (0 : Int).toNat a) (1 : Int).toNat b) j ≤ 5 := z_upP (P := fun j v => -1 ≤ v ∧ v ≤ 5) h14 (by omega)
          refine z_aloadn C 0 dX10_reach_51 rfl rfl ?_
          refine z_get C 0 (by decide) rfl rfl z_it10 4 (by decide) rfl fl_10_37 rfl dX10_reach_52 ?_
          refine z_iconst C dX10_reach_55 ?_
          refine z_iloadn C 3 dX10_reach_56 rfl rfl ?_
          refine z_iast C 25 (by decide) rfl (by decide) (by omega) (by omega) dX10_reach_57 ?_
          refine z_ext (S' := (z_zc ad ks s_edgeCount s_moveCount s_isNeeded s_timesDone s_size s_isGoing s_allTime s_stepCount s_gapCount g_edges g_moves g_limits a_sfacts a_sbounds a_facts a_zone a_most a_places a_amounts a_nextPlaces a_nextAmounts a_earliest a_visited a_lastSet a_gapFrom a_gapTo a_gapLeast (va_up (va_up (va_up a_askedPlaces (0 : Int).toNat a) (1 : Int).toNat b) (2 : Int).toNat c0) a_askedAmounts)) upC_a_askedPlaces ?_
          have h16 : ∀ j, -1 ≤ (va_up (va_up (va_up a_askedPlaces (0 : Int).toNat a) (1 : Int).toNat b) (2 : Int).toNat c0) j ∧ (va_up (va_up (va_up a_askedPlaces (0 : Int).toNat a) (1 : Int).toNat b) (2 : Int).toNat c0) j ≤ 5 := z_upP (P := fun j v => -1 ≤ v ∧ v ≤ 5) h15 (by omega)
          refine z_aloadn C 0 dX10_reach_58 rfl rfl ?_
          refine z_get C 0 (by decide) rfl rfl z_it10 1 (by decide) rfl fl_10_19 rfl dX10_reach_59 ?_
          refine z_get C 5 (by decide) rfl rfl z_it3 0 (by decide) rfl fl_10_106 rfl dX10_reach_62 ?_
          refine z_aloadn C 0 dX10_reach_65 rfl rfl ?_
          refine z_get C 0 (by decide) rfl rfl z_it10 4 (by decide) rfl fl_10_37 rfl dX10_reach_66 ?_
          refine z_callV C (cx_X4_firstAt_25 l (by omega) Ha_sfacts h16) mv_10_131 (z_atS 6 4 (by decide) rfl rfl rfl) pd_X4_firstAt ⟨by omega, by omega⟩ ⟨by omega, by omega⟩ rfl (Nat.le_of_ble_eq_true rfl) dX10_reach_69 ?_
          rintro _ _ _ ⟨rfl, rfl, z19, rfl, hz19⟩
          have hfa := hz19
          rw [hQ]
          exact z_iret C hrt dX10_reach_72 (⟨(va_up (va_up (va_up a_askedPlaces (0 : Int).toNat a) (1 : Int).toNat b) (2 : Int).toNat c0), rfl, rfl, h16, _, rfl, Or.inr (Or.inr ⟨by omega, by omega, z_fst_iff hfa (fun i => z_ask3 rfl rfl rfl)⟩)⟩) (by omega) (by omega)
        · skip
          refine z_bipush C dX10_reach_34 (by decide) ?_
          rw [hQ]
          exact z_iret C hrt dX10_reach_36 (⟨a_askedPlaces, rfl, rfl, Ha_askedPlaces, _, rfl, Or.inr (Or.inl ⟨by omega, by omega, rfl⟩)⟩) (by omega) (by omega)
  · skip
    refine z_bipush C dX10_reach_10 (by decide) ?_
    rw [hQ]
    exact z_iret C hrt dX10_reach_12 (⟨a_askedPlaces, rfl, rfl, Ha_askedPlaces, _, rfl, Or.inl ⟨by omega, rfl⟩⟩) (by omega) (by omega)
set_option maxRecDepth 20000 in
theorem cx_X4_holds_15 (l : Launch) {D : va_G} {A : Nat → Prop} {ad : Nat → Nat} {ks : z_Ks} {s_edgeCount s_moveCount s_isNeeded s_timesDone s_size s_isGoing s_allTime s_stepCount s_gapCount : Int} {g_edges g_moves g_limits : Nat → Option Nat} {a_sfacts a_sbounds a_facts a_zone a_most a_places a_amounts a_nextPlaces a_nextAmounts a_earliest a_visited a_lastSet a_gapFrom a_gapTo a_gapLeast a_askedPlaces a_askedAmounts : Nat → Int} {Y : Nat → Option va_E} (i0 : Int) (Ha_sbounds : (∀ j, z_rg (a_sbounds j))) (Ha_amounts : (∀ j, 0 ≤ a_amounts j ∧ a_amounts j ≤ 1000000)) (hi : 0 ≤ i0 ∧ i0 ≤ 119) (hzr : ∀ k, k < 16 → -40000 ≤ a_sbounds (16 * i0.toNat + k) ∧ a_sbounds (16 * i0.toNat + k) ≤ 100000) : z_Met l yX4_holds cX4_holds 7 (some .boolean) 1 23 0 0 D A 27 ad ks [.ref (ad 6), z_v i0, .ref (ad 15)] (z_zc ad ks s_edgeCount s_moveCount s_isNeeded s_timesDone s_size s_isGoing s_allTime s_stepCount s_gapCount g_edges g_moves g_limits a_sfacts a_sbounds a_facts a_zone a_most a_places a_amounts a_nextPlaces a_nextAmounts a_earliest a_visited a_lastSet a_gapFrom a_gapTo a_gapLeast a_askedPlaces a_askedAmounts) Y (fun r S' Y' => S' = (z_zc ad ks s_edgeCount s_moveCount s_isNeeded s_timesDone s_size s_isGoing s_allTime s_stepCount s_gapCount g_edges g_moves g_limits a_sfacts a_sbounds a_facts a_zone a_most a_places a_amounts a_nextPlaces a_nextAmounts a_earliest a_visited a_lastSet a_gapFrom a_gapTo a_gapLeast a_askedPlaces a_askedAmounts) ∧ Y = Y' ∧ ∃ z : Int, r = some (z_v z) ∧ (z = 1 ∧ (z_ho a_sbounds i0 a_amounts) ∨ z = 0 ∧ ¬ (z_ho a_sbounds i0 a_amounts))) := by
  refine z_start2 (by decide) (Nat.le_of_ble_eq_true rfl) ?_
  intro p e R s m args below meth c Q C hRf hRc hRs hRl hQ hrt hnm
  refine z_loc (L' := [(0, .ref (ad 6)), (1, z_v i0), (2, .ref (ad 15))]) [0, 1, 2] rfl ?_
  refine z_iconst C dX4_holds_0 ?_
  refine z_istoren (L' := [(3, z_v 0), (0, .ref (ad 6)), (1, z_v i0), (2, .ref (ad 15))]) C dX4_holds_1 rfl (by decide) rfl ?_
  have L2 : ∀ (n : Nat), ∀ (i3 : Int), (∀ x : Int, 0 ≤ x → x < i3 → ∀ y : Int, 0 ≤ y → y < 4 → z_hb (a_amounts x.toNat - a_amounts y.toNat) (a_sbounds (16 * i0 + 4 * x + y).toNat)) → (0 ≤ i3 ∧ i3 ≤ 4) → ((4 : Int) - i3).toNat < n → z_V p l e R s m args below meth c Q D A 27 ad 7 (z_zc ad ks s_edgeCount s_moveCount s_isNeeded s_timesDone s_size s_isGoing s_allTime s_stepCount s_gapCount g_edges g_moves g_limits a_sfacts a_sbounds a_facts a_zone a_most a_places a_amounts a_nextPlaces a_nextAmounts a_earliest a_visited a_lastSet a_gapFrom a_gapTo a_gapLeast a_askedPlaces a_askedAmounts) Y 0 0 2 [(0, .ref (ad 6)), (1, z_v i0), (2, .ref (ad 15)), (3, z_v i3)] [] := by
    intro n
    induction n with
    | zero => intro i3 FO I3 hm; exact absurd hm (Nat.not_lt_zero _)
    | succ n ih2 =>
      intro i3 FO I3 hm
      refine z_iloadn C 3 dX4_holds_2 rfl rfl ?_
      refine z_iconst C dX4_holds_3 ?_
      refine z_icmp_ge (t := 76) C dX4_holds_4 (by decide) (by omega) (by omega) (fun c1 => ?_) (fun c1 => ?_)
      · skip
        refine z_iconst C dX4_holds_76 ?_
        rw [hQ]
        exact z_zret C hrt (by omega) dX4_holds_77 (⟨rfl, rfl, _, rfl, Or.inl ⟨rfl, fun x y x0 x1 y0 y1 => FO x x0 (by omega) y y0 y1⟩⟩) (by omega) (by omega)
      · skip
        refine z_iconst C dX4_holds_7 ?_
        refine z_istore (L' := [(4, z_v 0), (0, .ref (ad 6)), (1, z_v i0), (2, .ref (ad 15)), (3, z_v i3)]) C dX4_holds_8 (by decide) rfl ?_
        have L10 : ∀ (n : Nat), ∀ (i4 : Int), (∀ y : Int, 0 ≤ y → y < i4 → z_hb (a_amounts (i3 : Int).toNat - a_amounts y.toNat) (a_sbounds (16 * i0 + 4 * i3 + y).toNat)) → (0 ≤ i4 ∧ i4 ≤ 4) → ((4 : Int) - i4).toNat < n → z_V p l e R s m args below meth c Q D A 27 ad 7 (z_zc ad ks s_edgeCount s_moveCount s_isNeeded s_timesDone s_size s_isGoing s_allTime s_stepCount s_gapCount g_edges g_moves g_limits a_sfacts a_sbounds a_facts a_zone a_most a_places a_amounts a_nextPlaces a_nextAmounts a_earliest a_visited a_lastSet a_gapFrom a_gapTo a_gapLeast a_askedPlaces a_askedAmounts) Y 0 0 10 [(0, .ref (ad 6)), (1, z_v i0), (2, .ref (ad 15)), (3, z_v i3), (4, z_v i4)] [] := by
          intro n
          induction n with
          | zero => intro i4 FI I4 hm; exact absurd hm (Nat.not_lt_zero _)
          | succ n ih10 =>
            intro i4 FI I4 hm
            refine z_iload C 4 dX4_holds_10 rfl ?_
            refine z_iconst C dX4_holds_12 ?_
            refine z_icmp_ge (t := 70) C dX4_holds_13 (by decide) (by omega) (by omega) (fun c2 => ?_) (fun c2 => ?_)
            · skip
              refine z_iinc (L' := [(3, z_v (i3 + 1)), (0, .ref (ad 6)), (1, z_v i0), (2, .ref (ad 15)), (4, z_v i4)]) C 3 dX4_holds_70 rfl (by decide) rfl ?_
              refine z_goto (t := 2) C dX4_holds_73 (by decide) ?_
              refine z_loc (L' := [(0, .ref (ad 6)), (1, z_v i0), (2, .ref (ad 15)), (3, z_v (i3 + 1))]) [1, 2, 3, 0] rfl ?_
              exact ih2 (i3 + 1) (z_snoc FO (fun y h0 h1 => FI y h0 (by omega))) (by omega) (by omega)
            · skip
              refine z_aloadn C 0 dX4_holds_16 rfl rfl ?_
              refine z_iloadn C 1 dX4_holds_17 rfl rfl ?_
              refine z_iloadn C 3 dX4_holds_18 rfl rfl ?_
              refine z_iload C 4 dX4_holds_19 rfl ?_
              refine z_callV C (cx_X4_boundOf l i0 i3 i4 Ha_sbounds (by omega) (by omega) (by omega)) mv_4_50 (z_atS 6 4 (by decide) rfl rfl rfl) pd_X4_boundOf ⟨by omega, by omega⟩ ⟨by omega, by omega⟩ rfl (Nat.le_of_ble_eq_true rfl) dX4_holds_21 ?_
              rintro _ _ _ ⟨rfl, rfl, z5, rfl, hz5⟩
              have hbo := hz5.1
              have lbo := hzr (4 * i3 + i4 : Int).toNat (by omega)
              rw [show 16 * i0.toNat + (4 * i3 + i4 : Int).toNat = (16 * i0 + 4 * i3 + i4 : Int).toNat by omega] at lbo
              refine z_istore (L' := [(5, z_v z5), (0, .ref (ad 6)), (1, z_v i0), (2, .ref (ad 15)), (3, z_v i3), (4, z_v i4)]) C dX4_holds_24 (by decide) rfl ?_
              refine z_bipush C dX4_holds_26 (by decide) ?_
              refine z_iload C 0 dX4_holds_28 rfl ?_
              refine z_iconst C dX4_holds_30 ?_
              obtain ⟨b6, hb6, rb6⟩ := z_bits (z_i z5 >>> (z_i 1 &&& 31))
              refine z_ishr C hb6 dX4_holds_31 ?_
              have qb6 := z_bitsE hb6 rb6
              have hs31 : b6 = z5 / 2 := by rw [← qb6]; exact zo_shr (by omega)
              refine z_imul C dX4_holds_32 ?_
              refine z_iconst C dX4_holds_33 ?_
              refine z_isub C dX4_holds_34 ?_
              refine z_iload C 0 dX4_holds_35 rfl ?_
              refine z_iconst C dX4_holds_37 ?_
              obtain ⟨b7, hb7, rb7⟩ := z_bits (z_i z5 &&& z_i 1)
              refine z_iand C hb7 dX4_holds_38 ?_
              have qb7 := z_bitsE hb7 rb7
              have hs38 : b7 = z5 % 2 := by rw [← qb7]; exact zo_and1 (by omega)
              refine z_iadd C dX4_holds_39 ?_
              refine z_istore (L' := [(6, z_v (((64 * b6) - 1) + b7)), (5, z_v z5), (0, .ref (ad 6)), (1, z_v i0), (2, .ref (ad 15)), (3, z_v i3), (4, z_v i4)]) C dX4_holds_40 (by decide) rfl ?_
              refine z_iload C 1 dX4_holds_42 rfl ?_
              refine z_ldc (n := 100000) C kc_4_54 (by decide) dX4_holds_44 ?_
              refine z_icmp_eq (t := 64) C dX4_holds_46 (by decide) (by omega) (by omega) (fun c8 => ?_) (fun c8 => ?_)
              · skip
                refine z_iinc (L' := [(4, z_v (i4 + 1)), (6, z_v (((64 * b6) - 1) + b7)), (5, z_v z5), (0, .ref (ad 6)), (1, z_v i0), (2, .ref (ad 15)), (3, z_v i3)]) C 6 dX4_holds_64 rfl (by decide) rfl ?_
                refine z_goto (t := 10) C dX4_holds_67 (by decide) ?_
                refine z_loc (L' := [(0, .ref (ad 6)), (1, z_v i0), (2, .ref (ad 15)), (3, z_v i3), (4, z_v (i4 + 1))]) [3, 4, 5, 6, 0] rfl ?_
                exact ih10 (i4 + 1) (z_snoc FI (by omega)) (by omega) (by omega)
              · skip
                refine z_aloadn C 4 dX4_holds_49 rfl rfl ?_
                refine z_iloadn C 5 dX4_holds_50 rfl rfl ?_
                refine z_iald C 15 (by decide) rfl (by decide) (by omega) (by omega) dX4_holds_51 ?_
                have rx9 := Ha_amounts (i3 : Int).toNat
                generalize ex9 : a_amounts (i3 : Int).toNat = x9 at rx9 ⊢
                refine z_aloadn C 4 dX4_holds_52 rfl rfl ?_
                refine z_iload C 6 dX4_holds_53 rfl ?_
                refine z_iald C 15 (by decide) rfl (by decide) (by omega) (by omega) dX4_holds_55 ?_
                have rx10 := Ha_amounts (i4 : Int).toNat
                generalize ex10 : a_amounts (i4 : Int).toNat = x10 at rx10 ⊢
                refine z_isub C dX4_holds_56 ?_
                refine z_iload C 0 dX4_holds_57 rfl ?_
                refine z_icmp_le (t := 64) C dX4_holds_59 (by decide) (by omega) (by omega) (fun c11 => ?_) (fun c11 => ?_)
                · skip
                  refine z_iinc (L' := [(4, z_v (i4 + 1)), (6, z_v (((64 * b6) - 1) + b7)), (5, z_v z5), (0, .ref (ad 6)), (1, z_v i0), (2, .ref (ad 15)), (3, z_v i3)]) C 6 dX4_holds_64 rfl (by decide) rfl ?_
                  refine z_goto (t := 10) C dX4_holds_67 (by decide) ?_
                  refine z_loc (L' := [(0, .ref (ad 6)), (1, z_v i0), (2, .ref (ad 15)), (3, z_v i3), (4, z_v (i4 + 1))]) [3, 4, 5, 6, 0] rfl ?_
                  exact ih10 (i4 + 1) (z_snoc FI (by omega)) (by omega) (by omega)
                · skip
                  refine z_iconst C dX4_holds_62 ?_
                  rw [hQ]
                  exact z_zret C hrt (by omega) dX4_holds_63 (⟨rfl, rfl, _, rfl, Or.inr ⟨rfl, fun L => absurd (L i3 i4 (by omega) (by omega) (by omega) (by omega)) (by omega)⟩⟩) (by omega) (by omega)
        refine z_loc (L' := [(0, .ref (ad 6)), (1, z_v i0), (2, .ref (ad 15)), (3, z_v i3), (4, z_v 0)]) [1, 2, 3, 4, 0] rfl ?_
        exact (L10 (((4 : Int) - 0).toNat + 1)) 0 (z_vac) (by omega) (Nat.lt_succ_self _)
  refine z_loc (L' := [(0, .ref (ad 6)), (1, z_v i0), (2, .ref (ad 15)), (3, z_v 0)]) [1, 2, 3, 0] rfl ?_
  exact (L2 (((4 : Int) - 0).toNat + 1)) 0 (fun x h0 h1 => absurd h1 (by omega)) (by omega) (Nat.lt_succ_self _)
set_option maxRecDepth 20000 in
theorem cx_X4_holds_26 (l : Launch) {D : va_G} {A : Nat → Prop} {ad : Nat → Nat} {ks : z_Ks} {s_edgeCount s_moveCount s_isNeeded s_timesDone s_size s_isGoing s_allTime s_stepCount s_gapCount : Int} {g_edges g_moves g_limits : Nat → Option Nat} {a_sfacts a_sbounds a_facts a_zone a_most a_places a_amounts a_nextPlaces a_nextAmounts a_earliest a_visited a_lastSet a_gapFrom a_gapTo a_gapLeast a_askedPlaces a_askedAmounts : Nat → Int} {Y : Nat → Option va_E} (i0 : Int) (Ha_sbounds : (∀ j, z_rg (a_sbounds j))) (Ha_askedAmounts : (∀ j, 0 ≤ a_askedAmounts j ∧ a_askedAmounts j ≤ 1000000)) (hi : 0 ≤ i0 ∧ i0 ≤ 119) (hzr : ∀ k, k < 16 → -40000 ≤ a_sbounds (16 * i0.toNat + k) ∧ a_sbounds (16 * i0.toNat + k) ≤ 100000) : z_Met l yX4_holds cX4_holds 7 (some .boolean) 1 23 0 0 D A 27 ad ks [.ref (ad 6), z_v i0, .ref (ad 26)] (z_zc ad ks s_edgeCount s_moveCount s_isNeeded s_timesDone s_size s_isGoing s_allTime s_stepCount s_gapCount g_edges g_moves g_limits a_sfacts a_sbounds a_facts a_zone a_most a_places a_amounts a_nextPlaces a_nextAmounts a_earliest a_visited a_lastSet a_gapFrom a_gapTo a_gapLeast a_askedPlaces a_askedAmounts) Y (fun r S' Y' => S' = (z_zc ad ks s_edgeCount s_moveCount s_isNeeded s_timesDone s_size s_isGoing s_allTime s_stepCount s_gapCount g_edges g_moves g_limits a_sfacts a_sbounds a_facts a_zone a_most a_places a_amounts a_nextPlaces a_nextAmounts a_earliest a_visited a_lastSet a_gapFrom a_gapTo a_gapLeast a_askedPlaces a_askedAmounts) ∧ Y = Y' ∧ ∃ z : Int, r = some (z_v z) ∧ (z = 1 ∧ (z_ho a_sbounds i0 a_askedAmounts) ∨ z = 0 ∧ ¬ (z_ho a_sbounds i0 a_askedAmounts))) := by
  refine z_start2 (by decide) (Nat.le_of_ble_eq_true rfl) ?_
  intro p e R s m args below meth c Q C hRf hRc hRs hRl hQ hrt hnm
  refine z_loc (L' := [(0, .ref (ad 6)), (1, z_v i0), (2, .ref (ad 26))]) [0, 1, 2] rfl ?_
  refine z_iconst C dX4_holds_0 ?_
  refine z_istoren (L' := [(3, z_v 0), (0, .ref (ad 6)), (1, z_v i0), (2, .ref (ad 26))]) C dX4_holds_1 rfl (by decide) rfl ?_
  have L2 : ∀ (n : Nat), ∀ (i3 : Int), (∀ x : Int, 0 ≤ x → x < i3 → ∀ y : Int, 0 ≤ y → y < 4 → z_hb (a_askedAmounts x.toNat - a_askedAmounts y.toNat) (a_sbounds (16 * i0 + 4 * x + y).toNat)) → (0 ≤ i3 ∧ i3 ≤ 4) → ((4 : Int) - i3).toNat < n → z_V p l e R s m args below meth c Q D A 27 ad 7 (z_zc ad ks s_edgeCount s_moveCount s_isNeeded s_timesDone s_size s_isGoing s_allTime s_stepCount s_gapCount g_edges g_moves g_limits a_sfacts a_sbounds a_facts a_zone a_most a_places a_amounts a_nextPlaces a_nextAmounts a_earliest a_visited a_lastSet a_gapFrom a_gapTo a_gapLeast a_askedPlaces a_askedAmounts) Y 0 0 2 [(0, .ref (ad 6)), (1, z_v i0), (2, .ref (ad 26)), (3, z_v i3)] [] := by
    intro n
    induction n with
    | zero => intro i3 FO I3 hm; exact absurd hm (Nat.not_lt_zero _)
    | succ n ih2 =>
      intro i3 FO I3 hm
      refine z_iloadn C 3 dX4_holds_2 rfl rfl ?_
      refine z_iconst C dX4_holds_3 ?_
      refine z_icmp_ge (t := 76) C dX4_holds_4 (by decide) (by omega) (by omega) (fun c1 => ?_) (fun c1 => ?_)
      · skip
        refine z_iconst C dX4_holds_76 ?_
        rw [hQ]
        exact z_zret C hrt (by omega) dX4_holds_77 (⟨rfl, rfl, _, rfl, Or.inl ⟨rfl, fun x y x0 x1 y0 y1 => FO x x0 (by omega) y y0 y1⟩⟩) (by omega) (by omega)
      · skip
        refine z_iconst C dX4_holds_7 ?_
        refine z_istore (L' := [(4, z_v 0), (0, .ref (ad 6)), (1, z_v i0), (2, .ref (ad 26)), (3, z_v i3)]) C dX4_holds_8 (by decide) rfl ?_
        have L10 : ∀ (n : Nat), ∀ (i4 : Int), (∀ y : Int, 0 ≤ y → y < i4 → z_hb (a_askedAmounts (i3 : Int).toNat - a_askedAmounts y.toNat) (a_sbounds (16 * i0 + 4 * i3 + y).toNat)) → (0 ≤ i4 ∧ i4 ≤ 4) → ((4 : Int) - i4).toNat < n → z_V p l e R s m args below meth c Q D A 27 ad 7 (z_zc ad ks s_edgeCount s_moveCount s_isNeeded s_timesDone s_size s_isGoing s_allTime s_stepCount s_gapCount g_edges g_moves g_limits a_sfacts a_sbounds a_facts a_zone a_most a_places a_amounts a_nextPlaces a_nextAmounts a_earliest a_visited a_lastSet a_gapFrom a_gapTo a_gapLeast a_askedPlaces a_askedAmounts) Y 0 0 10 [(0, .ref (ad 6)), (1, z_v i0), (2, .ref (ad 26)), (3, z_v i3), (4, z_v i4)] [] := by
          intro n
          induction n with
          | zero => intro i4 FI I4 hm; exact absurd hm (Nat.not_lt_zero _)
          | succ n ih10 =>
            intro i4 FI I4 hm
            refine z_iload C 4 dX4_holds_10 rfl ?_
            refine z_iconst C dX4_holds_12 ?_
            refine z_icmp_ge (t := 70) C dX4_holds_13 (by decide) (by omega) (by omega) (fun c2 => ?_) (fun c2 => ?_)
            · skip
              refine z_iinc (L' := [(3, z_v (i3 + 1)), (0, .ref (ad 6)), (1, z_v i0), (2, .ref (ad 26)), (4, z_v i4)]) C 3 dX4_holds_70 rfl (by decide) rfl ?_
              refine z_goto (t := 2) C dX4_holds_73 (by decide) ?_
              refine z_loc (L' := [(0, .ref (ad 6)), (1, z_v i0), (2, .ref (ad 26)), (3, z_v (i3 + 1))]) [1, 2, 3, 0] rfl ?_
              exact ih2 (i3 + 1) (z_snoc FO (fun y h0 h1 => FI y h0 (by omega))) (by omega) (by omega)
            · skip
              refine z_aloadn C 0 dX4_holds_16 rfl rfl ?_
              refine z_iloadn C 1 dX4_holds_17 rfl rfl ?_
              refine z_iloadn C 3 dX4_holds_18 rfl rfl ?_
              refine z_iload C 4 dX4_holds_19 rfl ?_
              refine z_callV C (cx_X4_boundOf l i0 i3 i4 Ha_sbounds (by omega) (by omega) (by omega)) mv_4_50 (z_atS 6 4 (by decide) rfl rfl rfl) pd_X4_boundOf ⟨by omega, by omega⟩ ⟨by omega, by omega⟩ rfl (Nat.le_of_ble_eq_true rfl) dX4_holds_21 ?_
              rintro _ _ _ ⟨rfl, rfl, z5, rfl, hz5⟩
              have hbo := hz5.1
              have lbo := hzr (4 * i3 + i4 : Int).toNat (by omega)
              rw [show 16 * i0.toNat + (4 * i3 + i4 : Int).toNat = (16 * i0 + 4 * i3 + i4 : Int).toNat by omega] at lbo
              refine z_istore (L' := [(5, z_v z5), (0, .ref (ad 6)), (1, z_v i0), (2, .ref (ad 26)), (3, z_v i3), (4, z_v i4)]) C dX4_holds_24 (by decide) rfl ?_
              refine z_bipush C dX4_holds_26 (by decide) ?_
              refine z_iload C 0 dX4_holds_28 rfl ?_
              refine z_iconst C dX4_holds_30 ?_
              obtain ⟨b6, hb6, rb6⟩ := z_bits (z_i z5 >>> (z_i 1 &&& 31))
              refine z_ishr C hb6 dX4_holds_31 ?_
              have qb6 := z_bitsE hb6 rb6
              have hs31 : b6 = z5 / 2 := by rw [← qb6]; exact zo_shr (by omega)
              refine z_imul C dX4_holds_32 ?_
              refine z_iconst C dX4_holds_33 ?_
              refine z_isub C dX4_holds_34 ?_
              refine z_iload C 0 dX4_holds_35 rfl ?_
              refine z_iconst C dX4_holds_37 ?_
              obtain ⟨b7, hb7, rb7⟩ := z_bits (z_i z5 &&& z_i 1)
              refine z_iand C hb7 dX4_holds_38 ?_
              have qb7 := z_bitsE hb7 rb7
              have hs38 : b7 = z5 % 2 := by rw [← qb7]; exact zo_and1 (by omega)
              refine z_iadd C dX4_holds_39 ?_
              refine z_istore (L' := [(6, z_v (((64 * b6) - 1) + b7)), (5, z_v z5), (0, .ref (ad 6)), (1, z_v i0), (2, .ref (ad 26)), (3, z_v i3), (4, z_v i4)]) C dX4_holds_40 (by decide) rfl ?_
              refine z_iload C 1 dX4_holds_42 rfl ?_
              refine z_ldc (n := 100000) C kc_4_54 (by decide) dX4_holds_44 ?_
              refine z_icmp_eq (t := 64) C dX4_holds_46 (by decide) (by omega) (by omega) (fun c8 => ?_) (fun c8 => ?_)
              · skip
                refine z_iinc (L' := [(4, z_v (i4 + 1)), (6, z_v (((64 * b6) - 1) + b7)), (5, z_v z5), (0, .ref (ad 6)), (1, z_v i0), (2, .ref (ad 26)), (3, z_v i3)]) C 6 dX4_holds_64 rfl (by decide) rfl ?_
                refine z_goto (t := 10) C dX4_holds_67 (by decide) ?_
                refine z_loc (L' := [(0, .ref (ad 6)), (1, z_v i0), (2, .ref (ad 26)), (3, z_v i3), (4, z_v (i4 + 1))]) [3, 4, 5, 6, 0] rfl ?_
                exact ih10 (i4 + 1) (z_snoc FI (by omega)) (by omega) (by omega)
              · skip
                refine z_aloadn C 4 dX4_holds_49 rfl rfl ?_
                refine z_iloadn C 5 dX4_holds_50 rfl rfl ?_
                refine z_iald C 26 (by decide) rfl (by decide) (by omega) (by omega) dX4_holds_51 ?_
                have rx9 := Ha_askedAmounts (i3 : Int).toNat
                generalize ex9 : a_askedAmounts (i3 : Int).toNat = x9 at rx9 ⊢
                refine z_aloadn C 4 dX4_holds_52 rfl rfl ?_
                refine z_iload C 6 dX4_holds_53 rfl ?_
                refine z_iald C 26 (by decide) rfl (by decide) (by omega) (by omega) dX4_holds_55 ?_
                have rx10 := Ha_askedAmounts (i4 : Int).toNat
                generalize ex10 : a_askedAmounts (i4 : Int).toNat = x10 at rx10 ⊢
                refine z_isub C dX4_holds_56 ?_
                refine z_iload C 0 dX4_holds_57 rfl ?_
                refine z_icmp_le (t := 64) C dX4_holds_59 (by decide) (by omega) (by omega) (fun c11 => ?_) (fun c11 => ?_)
                · skip
                  refine z_iinc (L' := [(4, z_v (i4 + 1)), (6, z_v (((64 * b6) - 1) + b7)), (5, z_v z5), (0, .ref (ad 6)), (1, z_v i0), (2, .ref (ad 26)), (3, z_v i3)]) C 6 dX4_holds_64 rfl (by decide) rfl ?_
                  refine z_goto (t := 10) C dX4_holds_67 (by decide) ?_
                  refine z_loc (L' := [(0, .ref (ad 6)), (1, z_v i0), (2, .ref (ad 26)), (3, z_v i3), (4, z_v (i4 + 1))]) [3, 4, 5, 6, 0] rfl ?_
                  exact ih10 (i4 + 1) (z_snoc FI (by omega)) (by omega) (by omega)
                · skip
                  refine z_iconst C dX4_holds_62 ?_
                  rw [hQ]
                  exact z_zret C hrt (by omega) dX4_holds_63 (⟨rfl, rfl, _, rfl, Or.inr ⟨rfl, fun L => absurd (L i3 i4 (by omega) (by omega) (by omega) (by omega)) (by omega)⟩⟩) (by omega) (by omega)
        refine z_loc (L' := [(0, .ref (ad 6)), (1, z_v i0), (2, .ref (ad 26)), (3, z_v i3), (4, z_v 0)]) [1, 2, 3, 4, 0] rfl ?_
        exact (L10 (((4 : Int) - 0).toNat + 1)) 0 (z_vac) (by omega) (Nat.lt_succ_self _)
  refine z_loc (L' := [(0, .ref (ad 6)), (1, z_v i0), (2, .ref (ad 26)), (3, z_v 0)]) [1, 2, 3, 0] rfl ?_
  exact (L2 (((4 : Int) - 0).toNat + 1)) 0 (fun x h0 h1 => absurd h1 (by omega)) (by omega) (Nat.lt_succ_self _)
set_option maxRecDepth 20000 in
theorem cx_X10_has (l : Launch) {D : va_G} {A : Nat → Prop} {ad : Nat → Nat} {ks : z_Ks} {s_edgeCount s_moveCount s_isNeeded s_timesDone s_size s_isGoing s_allTime s_stepCount s_gapCount : Int} {g_edges g_moves g_limits : Nat → Option Nat} {a_sfacts a_sbounds a_facts a_zone a_most a_places a_amounts a_nextPlaces a_nextAmounts a_earliest a_visited a_lastSet a_gapFrom a_gapTo a_gapLeast a_askedPlaces a_askedAmounts : Nat → Int} {Y : Nat → Option va_E} (i0 a b c0 : Int) (Hs_isNeeded : (s_isNeeded = 0 ∨ s_isNeeded = 1)) (Hs_size : (0 ≤ s_size ∧ s_size ≤ 120)) (Ha_sbounds : (∀ j, z_rg (a_sbounds j))) (Ha_askedAmounts : (∀ j, 0 ≤ a_askedAmounts j ∧ a_askedAmounts j ≤ 1000000)) (hi0 : z_rg i0) (ha : z_rg a) (hb : z_rg b) (hc0 : z_rg c0) (hsz : s_isNeeded = 0 → ∀ i : Nat, (i : Int) < s_size → ∀ k, k < 16 → -40000 ≤ a_sbounds (16 * i + k) ∧ a_sbounds (16 * i + k) ≤ 100000) (hz2 : a_askedAmounts 0 = 0) : z_Met l yX10_has cX10_has 5 (some .int) 2 49 0 0 D A 27 ad ks [.ref (ad 0), z_v i0, z_v a, z_v b, z_v c0] (z_zc ad ks s_edgeCount s_moveCount s_isNeeded s_timesDone s_size s_isGoing s_allTime s_stepCount s_gapCount g_edges g_moves g_limits a_sfacts a_sbounds a_facts a_zone a_most a_places a_amounts a_nextPlaces a_nextAmounts a_earliest a_visited a_lastSet a_gapFrom a_gapTo a_gapLeast a_askedPlaces a_askedAmounts) Y (fun r S' Y' => ∃ na_askedAmounts : Nat → Int, S' = (z_zc ad ks s_edgeCount s_moveCount s_isNeeded s_timesDone s_size s_isGoing s_allTime s_stepCount s_gapCount g_edges g_moves g_limits a_sfacts a_sbounds a_facts a_zone a_most a_places a_amounts a_nextPlaces a_nextAmounts a_earliest a_visited a_lastSet a_gapFrom a_gapTo a_gapLeast a_askedPlaces na_askedAmounts) ∧ Y = Y' ∧ (∀ j, 0 ≤ na_askedAmounts j ∧ na_askedAmounts j ≤ 1000000) ∧ na_askedAmounts 0 = 0 ∧ ∃ z : Int, r = some (z_v z) ∧ (z_hsA i0 a b c0 s_isNeeded s_size (z_ho a_sbounds i0 (fun x => if x = 0 then 0 else if x = 1 then a else if x = 2 then b else c0)) z)) := by
  refine z_start2 (by decide) (Nat.le_of_ble_eq_true rfl) ?_
  intro p e R s m args below meth c Q C hRf hRc hRs hRl hQ hrt hnm
  refine z_loc (L' := [(0, .ref (ad 0)), (1, z_v i0), (2, z_v a), (3, z_v b), (4, z_v c0)]) [0, 1, 2, 3, 4] rfl ?_
  refine z_aloadn C 0 dX10_has_0 rfl rfl ?_
  refine z_get C 0 (by decide) rfl rfl z_it10 1 (by decide) rfl fl_10_19 rfl dX10_has_1 ?_
  refine z_get C 5 (by decide) rfl rfl z_it3 1 (by decide) rfl fl_10_102 rfl dX10_has_4 ?_
  refine z_if_eq (t := 13) C dX10_has_7 (by decide) (by omega) (fun c1 => ?_) (fun c1 => ?_)
  · skip
    refine z_aloadn C 0 dX10_has_13 rfl rfl ?_
    refine z_get C 0 (by decide) rfl rfl z_it10 1 (by decide) rfl fl_10_19 rfl dX10_has_14 ?_
    refine z_get C 5 (by decide) rfl rfl z_it3 0 (by decide) rfl fl_10_106 rfl dX10_has_17 ?_
    refine z_iloadn C 1 dX10_has_20 rfl rfl ?_
    refine z_callV C (cm_X4_isMet l i0 (by omega) (by omega)) mv_10_110 (z_atS 6 4 (by decide) rfl rfl rfl) pd_X4_isMet ⟨by omega, by omega⟩ ⟨by omega, by omega⟩ rfl (Nat.le_of_ble_eq_true rfl) dX10_has_21 ?_
    rintro _ _ _ ⟨rfl, rfl, z4, rfl, hz4⟩
    refine z_if_ne (t := 30) C dX10_has_24 (by decide) (by omega) (fun c5 => ?_) (fun c5 => ?_)
    · skip
      refine z_iloadn C 2 dX10_has_30 rfl rfl ?_
      refine z_callS C (cm_X10_isAmount l a (by omega)) mv_10_135 pd_X10_isAmount ⟨by omega, by omega⟩ ⟨by omega, by omega⟩ rfl (Nat.le_of_ble_eq_true rfl) dX10_has_31 ?_
      rintro _ _ _ ⟨rfl, rfl, z8, rfl, hz8⟩
      refine z_if_eq (t := 52) C dX10_has_34 (by decide) (by omega) (fun c9 => ?_) (fun c9 => ?_)
      · skip
        refine z_bipush C dX10_has_52 (by decide) ?_
        rw [hQ]
        exact z_iret C hrt dX10_has_54 (⟨a_askedAmounts, rfl, rfl, Ha_askedAmounts, hz2, _, rfl, Or.inr (Or.inr (Or.inl ⟨by omega, by omega, rfl⟩))⟩) (by omega) (by omega)
      · skip
        refine z_iloadn C 3 dX10_has_37 rfl rfl ?_
        refine z_callS C (cm_X10_isAmount l b (by omega)) mv_10_135 pd_X10_isAmount ⟨by omega, by omega⟩ ⟨by omega, by omega⟩ rfl (Nat.le_of_ble_eq_true rfl) dX10_has_38 ?_
        rintro _ _ _ ⟨rfl, rfl, z12, rfl, hz12⟩
        refine z_if_eq (t := 52) C dX10_has_41 (by decide) (by omega) (fun c13 => ?_) (fun c13 => ?_)
        · skip
          refine z_bipush C dX10_has_52 (by decide) ?_
          rw [hQ]
          exact z_iret C hrt dX10_has_54 (⟨a_askedAmounts, rfl, rfl, Ha_askedAmounts, hz2, _, rfl, Or.inr (Or.inr (Or.inl ⟨by omega, by omega, rfl⟩))⟩) (by omega) (by omega)
        · skip
          refine z_iload C 4 dX10_has_44 rfl ?_
          refine z_callS C (cm_X10_isAmount l c0 (by omega)) mv_10_135 pd_X10_isAmount ⟨by omega, by omega⟩ ⟨by omega, by omega⟩ rfl (Nat.le_of_ble_eq_true rfl) dX10_has_46 ?_
          rintro _ _ _ ⟨rfl, rfl, z16, rfl, hz16⟩
          refine z_if_ne (t := 55) C dX10_has_49 (by decide) (by omega) (fun c17 => ?_) (fun c17 => ?_)
          · skip
            refine z_aloadn C 0 dX10_has_55 rfl rfl ?_
            refine z_get C 0 (by decide) rfl rfl z_it10 5 (by decide) rfl fl_10_41 rfl dX10_has_56 ?_
            refine z_iconst C dX10_has_59 ?_
            refine z_iloadn C 2 dX10_has_60 rfl rfl ?_
            refine z_iast C 26 (by decide) rfl (by decide) (by omega) (by omega) dX10_has_61 ?_
            refine z_ext (S' := (z_zc ad ks s_edgeCount s_moveCount s_isNeeded s_timesDone s_size s_isGoing s_allTime s_stepCount s_gapCount g_edges g_moves g_limits a_sfacts a_sbounds a_facts a_zone a_most a_places a_amounts a_nextPlaces a_nextAmounts a_earliest a_visited a_lastSet a_gapFrom a_gapTo a_gapLeast a_askedPlaces (va_up a_askedAmounts (1 : Int).toNat a))) upC_a_askedAmounts ?_
            have h18 : ∀ j, 0 ≤ (va_up a_askedAmounts (1 : Int).toNat a) j ∧ (va_up a_askedAmounts (1 : Int).toNat a) j ≤ 1000000 := z_upP (P := fun j v => 0 ≤ v ∧ v ≤ 1000000) Ha_askedAmounts (by omega)
            refine z_aloadn C 0 dX10_has_62 rfl rfl ?_
            refine z_get C 0 (by decide) rfl rfl z_it10 5 (by decide) rfl fl_10_41 rfl dX10_has_63 ?_
            refine z_iconst C dX10_has_66 ?_
            refine z_iloadn C 3 dX10_has_67 rfl rfl ?_
            refine z_iast C 26 (by decide) rfl (by decide) (by omega) (by omega) dX10_has_68 ?_
            refine z_ext (S' := (z_zc ad ks s_edgeCount s_moveCount s_isNeeded s_timesDone s_size s_isGoing s_allTime s_stepCount s_gapCount g_edges g_moves g_limits a_sfacts a_sbounds a_facts a_zone a_most a_places a_amounts a_nextPlaces a_nextAmounts a_earliest a_visited a_lastSet a_gapFrom a_gapTo a_gapLeast a_askedPlaces (va_up (va_up a_askedAmounts (1 : Int).toNat a) (2 : Int).toNat b))) upC_a_askedAmounts ?_
            have h19 : ∀ j, 0 ≤ (va_up (va_up a_askedAmounts (1 : Int).toNat a) (2 : Int).toNat b) j ∧ (va_up (va_up a_askedAmounts (1 : Int).toNat a) (2 : Int).toNat b) j ≤ 1000000 := z_upP (P := fun j v => 0 ≤ v ∧ v ≤ 1000000) h18 (by omega)
            refine z_aloadn C 0 dX10_has_69 rfl rfl ?_
            refine z_get C 0 (by decide) rfl rfl z_it10 5 (by decide) rfl fl_10_41 rfl dX10_has_70 ?_
            refine z_iconst C dX10_has_73 ?_
            refine z_iload C 4 dX10_has_74 rfl ?_
            refine z_iast C 26 (by decide) rfl (by decide) (by omega) (by omega) dX10_has_76 ?_
            refine z_ext (S' := (z_zc ad ks s_edgeCount s_moveCount s_isNeeded s_timesDone s_size s_isGoing s_allTime s_stepCount s_gapCount g_edges g_moves g_limits a_sfacts a_sbounds a_facts a_zone a_most a_places a_amounts a_nextPlaces a_nextAmounts a_earliest a_visited a_lastSet a_gapFrom a_gapTo a_gapLeast a_askedPlaces (va_up (va_up (va_up a_askedAmounts (1 : Int).toNat a) (2 : Int).toNat b) (3 : Int).toNat c0))) upC_a_askedAmounts ?_
            have h20 : ∀ j, 0 ≤ (va_up (va_up (va_up a_askedAmounts (1 : Int).toNat a) (2 : Int).toNat b) (3 : Int).toNat c0) j ∧ (va_up (va_up (va_up a_askedAmounts (1 : Int).toNat a) (2 : Int).toNat b) (3 : Int).toNat c0) j ≤ 1000000 := z_upP (P := fun j v => 0 ≤ v ∧ v ≤ 1000000) h19 (by omega)
            refine z_aloadn C 0 dX10_has_77 rfl rfl ?_
            refine z_get C 0 (by decide) rfl rfl z_it10 1 (by decide) rfl fl_10_19 rfl dX10_has_78 ?_
            refine z_get C 5 (by decide) rfl rfl z_it3 0 (by decide) rfl fl_10_106 rfl dX10_has_81 ?_
            refine z_iloadn C 1 dX10_has_84 rfl rfl ?_
            refine z_aloadn C 0 dX10_has_85 rfl rfl ?_
            refine z_get C 0 (by decide) rfl rfl z_it10 5 (by decide) rfl fl_10_41 rfl dX10_has_86 ?_
            refine z_callV C (cx_X4_holds_26 l i0 Ha_sbounds h20 (by omega) (hsz (by omega) i0.toNat (by omega))) mv_10_138 (z_atS 6 4 (by decide) rfl rfl rfl) pd_X4_holds ⟨by omega, by omega⟩ ⟨by omega, by omega⟩ rfl (Nat.le_of_ble_eq_true rfl) dX10_has_89 ?_
            rintro _ _ _ ⟨rfl, rfl, z23, rfl, hz23⟩
            have hho := z_isz_iff hz23 (z_ho.iff (by omega) (fun _ _ => rfl) (am' := (fun x => if x = 0 then 0 else if x = 1 then a else if x = 2 then b else c0)) (z_as4 hz2 rfl rfl rfl))
            refine z_if_eq (t := 99) C dX10_has_92 (by decide) (by omega) (fun c24 => ?_) (fun c24 => ?_)
            · skip
              refine z_iconst C dX10_has_99 ?_
              rw [hQ]
              exact z_iret C hrt dX10_has_100 (⟨(va_up (va_up (va_up a_askedAmounts (1 : Int).toNat a) (2 : Int).toNat b) (3 : Int).toNat c0), rfl, rfl, h20, hz2, _, rfl, Or.inr (Or.inr (Or.inr ⟨by omega, by omega, by first | exact Or.inl ⟨rfl, z_isz1 hho (by omega)⟩ | exact Or.inr ⟨rfl, z_isz0 hho (by omega)⟩⟩))⟩) (by omega) (by omega)
            · skip
              refine z_iconst C dX10_has_95 ?_
              refine z_goto (t := 100) C dX10_has_96 (by decide) ?_
              rw [hQ]
              exact z_iret C hrt dX10_has_100 (⟨(va_up (va_up (va_up a_askedAmounts (1 : Int).toNat a) (2 : Int).toNat b) (3 : Int).toNat c0), rfl, rfl, h20, hz2, _, rfl, Or.inr (Or.inr (Or.inr ⟨by omega, by omega, by first | exact Or.inl ⟨rfl, z_isz1 hho (by omega)⟩ | exact Or.inr ⟨rfl, z_isz0 hho (by omega)⟩⟩))⟩) (by omega) (by omega)
          · skip
            refine z_bipush C dX10_has_52 (by decide) ?_
            rw [hQ]
            exact z_iret C hrt dX10_has_54 (⟨a_askedAmounts, rfl, rfl, Ha_askedAmounts, hz2, _, rfl, Or.inr (Or.inr (Or.inl ⟨by omega, by omega, rfl⟩))⟩) (by omega) (by omega)
    · skip
      refine z_bipush C dX10_has_27 (by decide) ?_
      rw [hQ]
      exact z_iret C hrt dX10_has_29 (⟨a_askedAmounts, rfl, rfl, Ha_askedAmounts, hz2, _, rfl, Or.inr (Or.inl ⟨by omega, by omega, rfl⟩)⟩) (by omega) (by omega)
  · skip
    refine z_bipush C dX10_has_10 (by decide) ?_
    rw [hQ]
    exact z_iret C hrt dX10_has_12 (⟨a_askedAmounts, rfl, rfl, Ha_askedAmounts, hz2, _, rfl, Or.inl ⟨by omega, rfl⟩⟩) (by omega) (by omega)
set_option maxRecDepth 20000 in
theorem cx_X4_firstHolding_14_15 (l : Launch) {D : va_G} {A : Nat → Prop} {ad : Nat → Nat} {ks : z_Ks} {s_edgeCount s_moveCount s_isNeeded s_timesDone s_size s_isGoing s_allTime s_stepCount s_gapCount : Int} {g_edges g_moves g_limits : Nat → Option Nat} {a_sfacts a_sbounds a_facts a_zone a_most a_places a_amounts a_nextPlaces a_nextAmounts a_earliest a_visited a_lastSet a_gapFrom a_gapTo a_gapLeast a_askedPlaces a_askedAmounts : Nat → Int} {Y : Nat → Option va_E} (Hs_size : (0 ≤ s_size ∧ s_size ≤ 120)) (Ha_sfacts : (∀ j, (j % 7 < 3 → 0 ≤ a_sfacts j ∧ a_sfacts j ≤ 5) ∧ (j % 7 = 3 → -1 ≤ a_sfacts j ∧ a_sfacts j ≤ 119) ∧ (j % 7 = 6 → 0 ≤ a_sfacts j ∧ a_sfacts j ≤ 40) ∧ z_rg (a_sfacts j))) (Ha_places : (∀ j, 0 ≤ a_places j ∧ a_places j ≤ 5)) (Ha_sbounds : (∀ j, z_rg (a_sbounds j))) (Ha_amounts : (∀ j, 0 ≤ a_amounts j ∧ a_amounts j ≤ 1000000)) (hsz : ∀ i : Nat, (i : Int) < s_size → ∀ k, k < 16 → -40000 ≤ a_sbounds (16 * i + k) ∧ a_sbounds (16 * i + k) ≤ 100000) : z_Met l yX4_firstHolding cX4_firstHolding 4 (some .int) 2 49 0 0 D A 27 ad ks [.ref (ad 6), .ref (ad 14), .ref (ad 15)] (z_zc ad ks s_edgeCount s_moveCount s_isNeeded s_timesDone s_size s_isGoing s_allTime s_stepCount s_gapCount g_edges g_moves g_limits a_sfacts a_sbounds a_facts a_zone a_most a_places a_amounts a_nextPlaces a_nextAmounts a_earliest a_visited a_lastSet a_gapFrom a_gapTo a_gapLeast a_askedPlaces a_askedAmounts) Y (fun r S' Y' => S' = (z_zc ad ks s_edgeCount s_moveCount s_isNeeded s_timesDone s_size s_isGoing s_allTime s_stepCount s_gapCount g_edges g_moves g_limits a_sfacts a_sbounds a_facts a_zone a_most a_places a_amounts a_nextPlaces a_nextAmounts a_earliest a_visited a_lastSet a_gapFrom a_gapTo a_gapLeast a_askedPlaces a_askedAmounts) ∧ Y = Y' ∧ ∃ z : Int, r = some (z_v z) ∧ (z_fst (fun i => (∀ m : Int, 0 ≤ m → m < 3 → a_places m.toNat = -1 ∨ a_places m.toNat = a_sfacts (7 * i.toNat + m.toNat)) ∧ z_ho a_sbounds i a_amounts) s_size z)) := by
  refine z_start2 (by decide) (Nat.le_of_ble_eq_true rfl) ?_
  intro p e R s m args below meth c Q C hRf hRc hRs hRl hQ hrt hnm
  refine z_loc (L' := [(0, .ref (ad 6)), (1, .ref (ad 14)), (2, .ref (ad 15))]) [0, 1, 2] rfl ?_
  refine z_iconst C dX4_firstHolding_0 ?_
  refine z_istoren (L' := [(3, z_v 0), (0, .ref (ad 6)), (1, .ref (ad 14)), (2, .ref (ad 15))]) C dX4_firstHolding_1 rfl (by decide) rfl ?_
  have L2 : ∀ (n : Nat), ∀ (i3 : Int), (∀ i : Int, 0 ≤ i → i < i3 → ¬ ((∀ m : Int, 0 ≤ m → m < 3 → a_places m.toNat = -1 ∨ a_places m.toNat = a_sfacts (7 * i.toNat + m.toNat)) ∧ z_ho a_sbounds i a_amounts)) → (0 ≤ i3 ∧ i3 ≤ s_size) → ((s_size : Int) - i3).toNat < n → z_V p l e R s m args below meth c Q D A 27 ad 4 (z_zc ad ks s_edgeCount s_moveCount s_isNeeded s_timesDone s_size s_isGoing s_allTime s_stepCount s_gapCount g_edges g_moves g_limits a_sfacts a_sbounds a_facts a_zone a_most a_places a_amounts a_nextPlaces a_nextAmounts a_earliest a_visited a_lastSet a_gapFrom a_gapTo a_gapLeast a_askedPlaces a_askedAmounts) Y 0 0 2 [(0, .ref (ad 6)), (1, .ref (ad 14)), (2, .ref (ad 15)), (3, z_v i3)] [] := by
    intro n
    induction n with
    | zero => intro i3 NF I3 hm; exact absurd hm (Nat.not_lt_zero _)
    | succ n ih2 =>
      intro i3 NF I3 hm
      refine z_iloadn C 3 dX4_firstHolding_2 rfl rfl ?_
      refine z_aloadn C 0 dX4_firstHolding_3 rfl rfl ?_
      refine z_get C 6 (by decide) rfl rfl z_it4 0 (by decide) rfl fl_4_18 rfl dX4_firstHolding_4 ?_
      refine z_icmp_ge (t := 36) C dX4_firstHolding_7 (by decide) (by omega) (by omega) (fun c1 => ?_) (fun c1 => ?_)
      · skip
        refine z_iconst C dX4_firstHolding_36 ?_
        rw [hQ]
        exact z_iret C hrt dX4_firstHolding_37 (⟨rfl, rfl, _, rfl, Or.inl ⟨rfl, fun i h0 h1 => NF i h0 (by omega)⟩⟩) (by omega) (by omega)
      · skip
        refine z_aloadn C 0 dX4_firstHolding_10 rfl rfl ?_
        refine z_iloadn C 3 dX4_firstHolding_11 rfl rfl ?_
        refine z_aloadn C 1 dX4_firstHolding_12 rfl rfl ?_
        refine z_callV C (cx_X4_isAt_14 l i3 Ha_sfacts Ha_places (by omega)) mv_4_39 (z_atS 6 4 (by decide) rfl rfl rfl) pd_X4_isAt ⟨by omega, by omega⟩ ⟨by omega, by omega⟩ rfl (Nat.le_of_ble_eq_true rfl) dX4_firstHolding_13 ?_
        rintro _ _ _ ⟨rfl, rfl, z4, rfl, hz4⟩
        have hat := hz4
        refine z_if_eq (t := 30) C dX4_firstHolding_16 (by decide) (by omega) (fun c5 => ?_) (fun c5 => ?_)
        · skip
          refine z_iinc (L' := [(3, z_v (i3 + 1)), (0, .ref (ad 6)), (1, .ref (ad 14)), (2, .ref (ad 15))]) C 3 dX4_firstHolding_30 rfl (by decide) rfl ?_
          refine z_goto (t := 2) C dX4_firstHolding_33 (by decide) ?_
          refine z_loc (L' := [(0, .ref (ad 6)), (1, .ref (ad 14)), (2, .ref (ad 15)), (3, z_v (i3 + 1))]) [1, 2, 3, 0] rfl ?_
          exact ih2 (i3 + 1) (by first | exact z_snoc NF (fun q => z_isz0 hho (by omega) q.2) | exact z_snoc NF (fun q => z_isz0 hat (by omega) q.1)) (by omega) (by omega)
        · skip
          refine z_aloadn C 0 dX4_firstHolding_19 rfl rfl ?_
          refine z_iloadn C 3 dX4_firstHolding_20 rfl rfl ?_
          refine z_aloadn C 2 dX4_firstHolding_21 rfl rfl ?_
          refine z_callV C (cx_X4_holds_15 l i3 Ha_sbounds Ha_amounts (by omega) (hsz (i3 : Int).toNat (by omega))) mv_4_43 (z_atS 6 4 (by decide) rfl rfl rfl) pd_X4_holds ⟨by omega, by omega⟩ ⟨by omega, by omega⟩ rfl (Nat.le_of_ble_eq_true rfl) dX4_firstHolding_22 ?_
          rintro _ _ _ ⟨rfl, rfl, z8, rfl, hz8⟩
          have hho := hz8
          refine z_if_eq (t := 30) C dX4_firstHolding_25 (by decide) (by omega) (fun c9 => ?_) (fun c9 => ?_)
          · skip
            refine z_iinc (L' := [(3, z_v (i3 + 1)), (0, .ref (ad 6)), (1, .ref (ad 14)), (2, .ref (ad 15))]) C 3 dX4_firstHolding_30 rfl (by decide) rfl ?_
            refine z_goto (t := 2) C dX4_firstHolding_33 (by decide) ?_
            refine z_loc (L' := [(0, .ref (ad 6)), (1, .ref (ad 14)), (2, .ref (ad 15)), (3, z_v (i3 + 1))]) [1, 2, 3, 0] rfl ?_
            exact ih2 (i3 + 1) (by first | exact z_snoc NF (fun q => z_isz0 hho (by omega) q.2) | exact z_snoc NF (fun q => z_isz0 hat (by omega) q.1)) (by omega) (by omega)
          · skip
            refine z_iloadn C 3 dX4_firstHolding_28 rfl rfl ?_
            rw [hQ]
            exact z_iret C hrt dX4_firstHolding_29 (⟨rfl, rfl, _, rfl, Or.inr ⟨by omega, ⟨z_isz1 hat (by omega), z_isz1 hho (by omega)⟩, NF⟩⟩) (by omega) (by omega)
  refine z_loc (L' := [(0, .ref (ad 6)), (1, .ref (ad 14)), (2, .ref (ad 15)), (3, z_v 0)]) [1, 2, 3, 0] rfl ?_
  exact (L2 (((s_size : Int) - 0).toNat + 1)) 0 (z_vac) (by omega) (Nat.lt_succ_self _)
set_option maxRecDepth 20000 in
theorem cx_X10_here (l : Launch) {D : va_G} {A : Nat → Prop} {ad : Nat → Nat} {ks : z_Ks} {s_edgeCount s_moveCount s_isNeeded s_timesDone s_size s_isGoing s_allTime s_stepCount s_gapCount : Int} {g_edges g_moves g_limits : Nat → Option Nat} {a_sfacts a_sbounds a_facts a_zone a_most a_places a_amounts a_nextPlaces a_nextAmounts a_earliest a_visited a_lastSet a_gapFrom a_gapTo a_gapLeast a_askedPlaces a_askedAmounts : Nat → Int} {Y : Nat → Option va_E} (Hs_isGoing : (s_isGoing = 0 ∨ s_isGoing = 1)) (Hs_isNeeded : (s_isNeeded = 0 ∨ s_isNeeded = 1)) (Hs_size : (0 ≤ s_size ∧ s_size ≤ 120)) (Ha_sfacts : (∀ j, (j % 7 < 3 → 0 ≤ a_sfacts j ∧ a_sfacts j ≤ 5) ∧ (j % 7 = 3 → -1 ≤ a_sfacts j ∧ a_sfacts j ≤ 119) ∧ (j % 7 = 6 → 0 ≤ a_sfacts j ∧ a_sfacts j ≤ 40) ∧ z_rg (a_sfacts j))) (Ha_places : (∀ j, 0 ≤ a_places j ∧ a_places j ≤ 5)) (Ha_sbounds : (∀ j, z_rg (a_sbounds j))) (Ha_amounts : (∀ j, 0 ≤ a_amounts j ∧ a_amounts j ≤ 1000000)) (hsz : s_isNeeded = 0 → ∀ i : Nat, (i : Int) < s_size → ∀ k, k < 16 → -40000 ≤ a_sbounds (16 * i + k) ∧ a_sbounds (16 * i + k) ≤ 100000) : z_Met l yX10_here cX10_here 1 (some .int) 3 72 0 0 D A 27 ad ks [.ref (ad 0)] (z_zc ad ks s_edgeCount s_moveCount s_isNeeded s_timesDone s_size s_isGoing s_allTime s_stepCount s_gapCount g_edges g_moves g_limits a_sfacts a_sbounds a_facts a_zone a_most a_places a_amounts a_nextPlaces a_nextAmounts a_earliest a_visited a_lastSet a_gapFrom a_gapTo a_gapLeast a_askedPlaces a_askedAmounts) Y (fun r S' Y' => S' = (z_zc ad ks s_edgeCount s_moveCount s_isNeeded s_timesDone s_size s_isGoing s_allTime s_stepCount s_gapCount g_edges g_moves g_limits a_sfacts a_sbounds a_facts a_zone a_most a_places a_amounts a_nextPlaces a_nextAmounts a_earliest a_visited a_lastSet a_gapFrom a_gapTo a_gapLeast a_askedPlaces a_askedAmounts) ∧ Y = Y' ∧ ∃ z : Int, r = some (z_v z) ∧ (((s_isGoing = 0 ∨ s_isNeeded ≠ 0) ∧ z = -103) ∨ ((s_isGoing = 1 ∧ s_isNeeded = 0) ∧ z_fst (fun i => (∀ m : Int, 0 ≤ m → m < 3 → a_places m.toNat = -1 ∨ a_places m.toNat = a_sfacts (7 * i.toNat + m.toNat)) ∧ z_ho a_sbounds i a_amounts) s_size z))) := by
  refine z_start2 (by decide) (Nat.le_of_ble_eq_true rfl) ?_
  intro p e R s m args below meth c Q C hRf hRc hRs hRl hQ hrt hnm
  refine z_loc (L' := [(0, .ref (ad 0))]) [0] rfl ?_
  refine z_aloadn C 0 dX10_here_0 rfl rfl ?_
  refine z_get C 0 (by decide) rfl rfl z_it10 2 (by decide) rfl fl_10_26 rfl dX10_here_1 ?_
  refine z_get C 13 (by decide) rfl rfl z_it8 0 (by decide) rfl fl_10_165 rfl dX10_here_4 ?_
  refine z_if_eq (t := 20) C dX10_here_7 (by decide) (by omega) (fun c1 => ?_) (fun c1 => ?_)
  · skip
    refine z_bipush C dX10_here_20 (by decide) ?_
    rw [hQ]
    exact z_iret C hrt dX10_here_22 (⟨rfl, rfl, _, rfl, Or.inl ⟨by omega, rfl⟩⟩) (by omega) (by omega)
  · skip
    refine z_aloadn C 0 dX10_here_10 rfl rfl ?_
    refine z_get C 0 (by decide) rfl rfl z_it10 1 (by decide) rfl fl_10_19 rfl dX10_here_11 ?_
    refine z_get C 5 (by decide) rfl rfl z_it3 1 (by decide) rfl fl_10_102 rfl dX10_here_14 ?_
    refine z_if_eq (t := 23) C dX10_here_17 (by decide) (by omega) (fun c2 => ?_) (fun c2 => ?_)
    · skip
      refine z_aloadn C 0 dX10_here_23 rfl rfl ?_
      refine z_get C 0 (by decide) rfl rfl z_it10 1 (by decide) rfl fl_10_19 rfl dX10_here_24 ?_
      refine z_get C 5 (by decide) rfl rfl z_it3 0 (by decide) rfl fl_10_106 rfl dX10_here_27 ?_
      refine z_aloadn C 0 dX10_here_30 rfl rfl ?_
      refine z_get C 0 (by decide) rfl rfl z_it10 2 (by decide) rfl fl_10_26 rfl dX10_here_31 ?_
      refine z_get C 13 (by decide) rfl rfl z_it8 1 (by decide) rfl fl_10_185 rfl dX10_here_34 ?_
      refine z_aloadn C 0 dX10_here_37 rfl rfl ?_
      refine z_get C 0 (by decide) rfl rfl z_it10 2 (by decide) rfl fl_10_26 rfl dX10_here_38 ?_
      refine z_get C 13 (by decide) rfl rfl z_it8 2 (by decide) rfl fl_10_188 rfl dX10_here_41 ?_
      refine z_callV C (cx_X4_firstHolding_14_15 l (by omega) Ha_sfacts Ha_places Ha_sbounds Ha_amounts (hsz (by omega))) mv_10_197 (z_atS 6 4 (by decide) rfl rfl rfl) pd_X4_firstHolding ⟨by omega, by omega⟩ ⟨by omega, by omega⟩ rfl (Nat.le_of_ble_eq_true rfl) dX10_here_44 ?_
      rintro _ _ _ ⟨rfl, rfl, z5, rfl, hz5⟩
      have hfh := hz5
      rw [hQ]
      exact z_iret C hrt dX10_here_47 (⟨rfl, rfl, _, rfl, Or.inr ⟨by omega, hfh⟩⟩) (by omega) (by omega)
    · skip
      refine z_bipush C dX10_here_20 (by decide) ?_
      rw [hQ]
      exact z_iret C hrt dX10_here_22 (⟨rfl, rfl, _, rfl, Or.inl ⟨by omega, rfl⟩⟩) (by omega) (by omega)
set_option maxRecDepth 20000 in
theorem cx_X2_guardCount (l : Launch) {D : va_G} {A : Nat → Prop} {ad : Nat → Nat} {ks : z_Ks} {s_edgeCount s_moveCount s_isNeeded s_timesDone s_size s_isGoing s_allTime s_stepCount s_gapCount : Int} {g_edges g_moves g_limits : Nat → Option Nat} {a_sfacts a_sbounds a_facts a_zone a_most a_places a_amounts a_nextPlaces a_nextAmounts a_earliest a_visited a_lastSet a_gapFrom a_gapTo a_gapLeast a_askedPlaces a_askedAmounts : Nat → Int} {Y : Nat → Option va_E} {em ef et ec er gn gt ln lt : Nat → Int} {qe ql qt : Nat → Nat} (Hs_edgeCount : (0 ≤ s_edgeCount ∧ s_edgeCount ≤ 20)) (HN : z_N ks Y g_edges g_limits s_edgeCount em ef et ec er gn gt ln lt qe ql qt) : z_Met l yX2_guardCount cX2_guardCount 3 (some .int) 0 0 0 0 D A 27 ad ks [.ref (ad 1)] (z_zc ad ks s_edgeCount s_moveCount s_isNeeded s_timesDone s_size s_isGoing s_allTime s_stepCount s_gapCount g_edges g_moves g_limits a_sfacts a_sbounds a_facts a_zone a_most a_places a_amounts a_nextPlaces a_nextAmounts a_earliest a_visited a_lastSet a_gapFrom a_gapTo a_gapLeast a_askedPlaces a_askedAmounts) Y (fun r S' Y' => S' = (z_zc ad ks s_edgeCount s_moveCount s_isNeeded s_timesDone s_size s_isGoing s_allTime s_stepCount s_gapCount g_edges g_moves g_limits a_sfacts a_sbounds a_facts a_zone a_most a_places a_amounts a_nextPlaces a_nextAmounts a_earliest a_visited a_lastSet a_gapFrom a_gapTo a_gapLeast a_askedPlaces a_askedAmounts) ∧ Y = Y' ∧ ∃ z : Int, r = some (z_v z) ∧ (z = z_su gn s_edgeCount.toNat)) := by
  refine z_start2 (by decide) (Nat.le_of_ble_eq_true rfl) ?_
  intro p e R s m args below meth c Q C hRf hRc hRs hRl hQ hrt hnm
  refine z_loc (L' := [(0, .ref (ad 1))]) [0] rfl ?_
  refine z_iconst C dX2_guardCount_0 ?_
  refine z_istoren (L' := [(1, z_v 0), (0, .ref (ad 1))]) C dX2_guardCount_1 rfl (by decide) rfl ?_
  refine z_iconst C dX2_guardCount_2 ?_
  refine z_istoren (L' := [(2, z_v 0), (1, z_v 0), (0, .ref (ad 1))]) C dX2_guardCount_3 rfl (by decide) rfl ?_
  have L4 : ∀ (n : Nat), ∀ (i1 : Int) (i2 : Int), (i1 = z_su gn (i2 : Int).toNat) → (0 ≤ i2 ∧ i2 ≤ s_edgeCount) → ((s_edgeCount : Int) - i2).toNat < n → z_V p l e R s m args below meth c Q D A 27 ad 3 (z_zc ad ks s_edgeCount s_moveCount s_isNeeded s_timesDone s_size s_isGoing s_allTime s_stepCount s_gapCount g_edges g_moves g_limits a_sfacts a_sbounds a_facts a_zone a_most a_places a_amounts a_nextPlaces a_nextAmounts a_earliest a_visited a_lastSet a_gapFrom a_gapTo a_gapLeast a_askedPlaces a_askedAmounts) Y 0 0 4 [(0, .ref (ad 1)), (1, z_v i1), (2, z_v i2)] [] := by
    intro n
    induction n with
    | zero => intro i1 i2 SU I2 hm; exact absurd hm (Nat.not_lt_zero _)
    | succ n ih4 =>
      intro i1 i2 SU I2 hm
      refine z_iloadn C 2 dX2_guardCount_4 rfl rfl ?_
      refine z_aloadn C 0 dX2_guardCount_5 rfl rfl ?_
      refine z_get C 1 (by decide) rfl rfl z_it2 1 (by decide) rfl fl_2_30 rfl dX2_guardCount_6 ?_
      refine z_icmp_ge (t := 33) C dX2_guardCount_9 (by decide) (by omega) (by omega) (fun c1 => ?_) (fun c1 => ?_)
      · skip
        refine z_iloadn C 1 dX2_guardCount_33 rfl rfl ?_
        rw [hQ]
        exact z_iret C hrt dX2_guardCount_34 (⟨rfl, rfl, _, rfl, by rw [SU, show (i2 : Int).toNat = s_edgeCount.toNat by omega]⟩) (by omega) (by omega)
      · skip
        refine z_iloadn C 1 dX2_guardCount_12 rfl rfl ?_
        refine z_aloadn C 0 dX2_guardCount_13 rfl rfl ?_
        refine z_get C 1 (by decide) rfl rfl z_it2 0 (by decide) rfl fl_2_11 rfl dX2_guardCount_14 ?_
        refine z_iloadn C 2 dX2_guardCount_17 rfl rfl ?_
        obtain ⟨eq2, yq2, rq2, tq2⟩ := HN.1 i2 (by omega) (by omega)
        refine z_aaldS C 2 1 (by decide) rfl rfl (by decide) (by omega) (by omega) eq2 dX2_guardCount_18 ?_
        refine z_getY C yq2 rfl z_it0 5 (by decide) rfl fl_2_76 rfl dX2_guardCount_19 ?_
        obtain ⟨yd3, ad3, gd3, wd3, bd3⟩ := id tq2
        refine z_getY C yd3 rfl z_it6 1 (by decide) rfl fl_2_61 rfl dX2_guardCount_22 ?_
        refine z_iadd C dX2_guardCount_25 ?_
        refine z_istoren (L' := [(1, z_v (i1 + (gn (i2 : Int).toNat))), (0, .ref (ad 1)), (2, z_v i2)]) C dX2_guardCount_26 rfl (by decide) rfl ?_
        refine z_iinc (L' := [(2, z_v (i2 + 1)), (1, z_v (i1 + (gn (i2 : Int).toNat))), (0, .ref (ad 1))]) C 2 dX2_guardCount_27 rfl (by decide) rfl ?_
        refine z_goto (t := 4) C dX2_guardCount_30 (by decide) ?_
        refine z_loc (L' := [(0, .ref (ad 1)), (1, z_v (i1 + (gn (i2 : Int).toNat))), (2, z_v (i2 + 1))]) [2, 1, 0] rfl ?_
        exact ih4 (i1 + (gn (i2 : Int).toNat)) (i2 + 1) (z_su_I SU (by omega) rfl) (by omega) (by omega)
  refine z_loc (L' := [(0, .ref (ad 1)), (1, z_v 0), (2, z_v 0)]) [2, 1, 0] rfl ?_
  exact (L4 (((s_edgeCount : Int) - 0).toNat + 1)) 0 0 (rfl) (by omega) (Nat.lt_succ_self _)
set_option maxRecDepth 20000 in
theorem cx_X2_limitCount (l : Launch) {D : va_G} {A : Nat → Prop} {ad : Nat → Nat} {ks : z_Ks} {s_edgeCount s_moveCount s_isNeeded s_timesDone s_size s_isGoing s_allTime s_stepCount s_gapCount : Int} {g_edges g_moves g_limits : Nat → Option Nat} {a_sfacts a_sbounds a_facts a_zone a_most a_places a_amounts a_nextPlaces a_nextAmounts a_earliest a_visited a_lastSet a_gapFrom a_gapTo a_gapLeast a_askedPlaces a_askedAmounts : Nat → Int} {Y : Nat → Option va_E} {em ef et ec er gn gt ln lt : Nat → Int} {qe ql qt : Nat → Nat} (HN : z_N ks Y g_edges g_limits s_edgeCount em ef et ec er gn gt ln lt qe ql qt) : z_Met l yX2_limitCount cX2_limitCount 3 (some .int) 0 0 0 0 D A 27 ad ks [.ref (ad 1)] (z_zc ad ks s_edgeCount s_moveCount s_isNeeded s_timesDone s_size s_isGoing s_allTime s_stepCount s_gapCount g_edges g_moves g_limits a_sfacts a_sbounds a_facts a_zone a_most a_places a_amounts a_nextPlaces a_nextAmounts a_earliest a_visited a_lastSet a_gapFrom a_gapTo a_gapLeast a_askedPlaces a_askedAmounts) Y (fun r S' Y' => S' = (z_zc ad ks s_edgeCount s_moveCount s_isNeeded s_timesDone s_size s_isGoing s_allTime s_stepCount s_gapCount g_edges g_moves g_limits a_sfacts a_sbounds a_facts a_zone a_most a_places a_amounts a_nextPlaces a_nextAmounts a_earliest a_visited a_lastSet a_gapFrom a_gapTo a_gapLeast a_askedPlaces a_askedAmounts) ∧ Y = Y' ∧ ∃ z : Int, r = some (z_v z) ∧ (z = z_su ln 18)) := by
  refine z_start2 (by decide) (Nat.le_of_ble_eq_true rfl) ?_
  intro p e R s m args below meth c Q C hRf hRc hRs hRl hQ hrt hnm
  refine z_loc (L' := [(0, .ref (ad 1))]) [0] rfl ?_
  refine z_iconst C dX2_limitCount_0 ?_
  refine z_istoren (L' := [(1, z_v 0), (0, .ref (ad 1))]) C dX2_limitCount_1 rfl (by decide) rfl ?_
  refine z_iconst C dX2_limitCount_2 ?_
  refine z_istoren (L' := [(2, z_v 0), (1, z_v 0), (0, .ref (ad 1))]) C dX2_limitCount_3 rfl (by decide) rfl ?_
  have L4 : ∀ (n : Nat), ∀ (i1 : Int) (i2 : Int), (i1 = z_su ln (i2 : Int).toNat) → (0 ≤ i2 ∧ i2 ≤ 18) → ((18 : Int) - i2).toNat < n → z_V p l e R s m args below meth c Q D A 27 ad 3 (z_zc ad ks s_edgeCount s_moveCount s_isNeeded s_timesDone s_size s_isGoing s_allTime s_stepCount s_gapCount g_edges g_moves g_limits a_sfacts a_sbounds a_facts a_zone a_most a_places a_amounts a_nextPlaces a_nextAmounts a_earliest a_visited a_lastSet a_gapFrom a_gapTo a_gapLeast a_askedPlaces a_askedAmounts) Y 0 0 4 [(0, .ref (ad 1)), (1, z_v i1), (2, z_v i2)] [] := by
    intro n
    induction n with
    | zero => intro i1 i2 SU I2 hm; exact absurd hm (Nat.not_lt_zero _)
    | succ n ih4 =>
      intro i1 i2 SU I2 hm
      refine z_iloadn C 2 dX2_limitCount_4 rfl rfl ?_
      refine z_bipush C dX2_limitCount_5 (by decide) ?_
      refine z_icmp_ge (t := 28) C dX2_limitCount_7 (by decide) (by omega) (by omega) (fun c1 => ?_) (fun c1 => ?_)
      · skip
        refine z_iloadn C 1 dX2_limitCount_28 rfl rfl ?_
        rw [hQ]
        exact z_iret C hrt dX2_limitCount_29 (⟨rfl, rfl, _, rfl, by rw [SU, show (i2 : Int).toNat = 18 by omega]⟩) (by omega) (by omega)
      · skip
        refine z_iloadn C 1 dX2_limitCount_10 rfl rfl ?_
        refine z_aloadn C 0 dX2_limitCount_11 rfl rfl ?_
        refine z_get C 1 (by decide) rfl rfl z_it2 4 (by decide) rfl fl_2_25 rfl dX2_limitCount_12 ?_
        refine z_iloadn C 2 dX2_limitCount_15 rfl rfl ?_
        obtain ⟨eq2, tq2⟩ := HN.2.1 i2 (by omega) (by omega)
        refine z_aaldS C 4 3 (by decide) rfl rfl (by decide) (by omega) (by omega) eq2 dX2_limitCount_16 ?_
        obtain ⟨yd3, ad3, gd3, wd3, bd3⟩ := id tq2
        refine z_getY C yd3 rfl z_it6 1 (by decide) rfl fl_2_61 rfl dX2_limitCount_17 ?_
        refine z_iadd C dX2_limitCount_20 ?_
        refine z_istoren (L' := [(1, z_v (i1 + (ln (i2 : Int).toNat))), (0, .ref (ad 1)), (2, z_v i2)]) C dX2_limitCount_21 rfl (by decide) rfl ?_
        refine z_iinc (L' := [(2, z_v (i2 + 1)), (1, z_v (i1 + (ln (i2 : Int).toNat))), (0, .ref (ad 1))]) C 2 dX2_limitCount_22 rfl (by decide) rfl ?_
        refine z_goto (t := 4) C dX2_limitCount_25 (by decide) ?_
        refine z_loc (L' := [(0, .ref (ad 1)), (1, z_v (i1 + (ln (i2 : Int).toNat))), (2, z_v (i2 + 1))]) [2, 1, 0] rfl ?_
        exact ih4 (i1 + (ln (i2 : Int).toNat)) (i2 + 1) (z_su_I SU (by omega) rfl) (by omega) (by omega)
  refine z_loc (L' := [(0, .ref (ad 1)), (1, z_v 0), (2, z_v 0)]) [2, 1, 0] rfl ?_
  exact (L4 (((18 : Int) - 0).toNat + 1)) 0 0 (rfl) (by omega) (Nat.lt_succ_self _)
set_option maxRecDepth 20000 in
theorem cx_X10_count (l : Launch) {D : va_G} {A : Nat → Prop} {ad : Nat → Nat} {ks : z_Ks} {s_edgeCount s_moveCount s_isNeeded s_timesDone s_size s_isGoing s_allTime s_stepCount s_gapCount : Int} {g_edges g_moves g_limits : Nat → Option Nat} {a_sfacts a_sbounds a_facts a_zone a_most a_places a_amounts a_nextPlaces a_nextAmounts a_earliest a_visited a_lastSet a_gapFrom a_gapTo a_gapLeast a_askedPlaces a_askedAmounts : Nat → Int} {Y : Nat → Option va_E} {em ef et ec er gn gt ln lt : Nat → Int} {qe ql qt : Nat → Nat} (wh : Int) (Hs_edgeCount : (0 ≤ s_edgeCount ∧ s_edgeCount ≤ 20)) (Hs_isNeeded : (s_isNeeded = 0 ∨ s_isNeeded = 1)) (hwh : z_rg wh) (HN : z_N ks Y g_edges g_limits s_edgeCount em ef et ec er gn gt ln lt qe ql qt) : z_Met l yX10_count cX10_count 2 (some .int) 1 22 0 0 D A 27 ad ks [.ref (ad 0), z_v wh] (z_zc ad ks s_edgeCount s_moveCount s_isNeeded s_timesDone s_size s_isGoing s_allTime s_stepCount s_gapCount g_edges g_moves g_limits a_sfacts a_sbounds a_facts a_zone a_most a_places a_amounts a_nextPlaces a_nextAmounts a_earliest a_visited a_lastSet a_gapFrom a_gapTo a_gapLeast a_askedPlaces a_askedAmounts) Y (fun r S' Y' => S' = (z_zc ad ks s_edgeCount s_moveCount s_isNeeded s_timesDone s_size s_isGoing s_allTime s_stepCount s_gapCount g_edges g_moves g_limits a_sfacts a_sbounds a_facts a_zone a_most a_places a_amounts a_nextPlaces a_nextAmounts a_earliest a_visited a_lastSet a_gapFrom a_gapTo a_gapLeast a_askedPlaces a_askedAmounts) ∧ Y = Y' ∧ ∃ z : Int, r = some (z_v z) ∧ (z = z_ctA wh s_edgeCount (z_su ln 18) (z_su gn s_edgeCount.toNat) (z_sel (s_isNeeded = 0) s_size 0) s_moveCount s_isNeeded s_timesDone)) := by
  refine z_start2 (by decide) (Nat.le_of_ble_eq_true rfl) ?_
  intro p e R s m args below meth c Q C hRf hRc hRs hRl hQ hrt hnm
  refine z_loc (L' := [(0, .ref (ad 0)), (1, z_v wh)]) [0, 1] rfl ?_
  refine z_iloadn C 1 dX10_count_0 rfl rfl ?_
  rcases (show (wh < 0 ∨ 6 < wh) ∨ wh = 0 ∨ wh = 1 ∨ wh = 2 ∨ wh = 3 ∨ wh = 4 ∨ wh = 5 ∨ wh = 6 by omega) with w1 | w1 | w1 | w1 | w1 | w1 | w1 | w1
  · refine z_tabOut (t := 125) C dX10_count_1 (by omega) w1 (by decide) ?_
    refine z_bipush C dX10_count_125 (by decide) ?_
    rw [hQ]
    exact z_iret C hrt dX10_count_127 (⟨rfl, rfl, _, rfl, by unfold z_ctA z_sel; split <;> (try split) <;> (try split) <;> (try split) <;> (try split) <;> (try split) <;> (try split) <;> (try split) <;> (try split) <;> omega⟩) (by omega) (by omega)
  · refine z_tabIn (o := 43) (t := 44) C wh dX10_count_1 (by omega) (by omega) (by omega) (by rw [w1]; rfl) (by decide) ?_
    refine z_aloadn C 0 dX10_count_44 rfl rfl ?_
    refine z_get C 0 (by decide) rfl rfl z_it10 0 (by decide) rfl fl_10_12 rfl dX10_count_45 ?_
    refine z_get C 1 (by decide) rfl rfl z_it2 1 (by decide) rfl fl_10_51 rfl dX10_count_48 ?_
    rw [hQ]
    exact z_iret C hrt dX10_count_51 (⟨rfl, rfl, _, rfl, by unfold z_ctA z_sel; split <;> (try split) <;> (try split) <;> (try split) <;> (try split) <;> (try split) <;> (try split) <;> (try split) <;> (try split) <;> omega⟩) (by omega) (by omega)
  · refine z_tabIn (o := 51) (t := 52) C wh dX10_count_1 (by omega) (by omega) (by omega) (by rw [w1]; rfl) (by decide) ?_
    refine z_aloadn C 0 dX10_count_52 rfl rfl ?_
    refine z_get C 0 (by decide) rfl rfl z_it10 0 (by decide) rfl fl_10_12 rfl dX10_count_53 ?_
    refine z_callV C (cx_X2_limitCount l HN) mv_10_221 (z_atS 1 2 (by decide) rfl rfl rfl) pd_X2_limitCount ⟨by omega, by omega⟩ ⟨by omega, by omega⟩ rfl (Nat.le_of_ble_eq_true rfl) dX10_count_56 ?_
    rintro _ _ _ ⟨rfl, rfl, z4, rfl, hz4⟩
    rw [hQ]
    exact z_iret C hrt dX10_count_59 (⟨rfl, rfl, _, rfl, by unfold z_ctA z_sel; split <;> (try split) <;> (try split) <;> (try split) <;> (try split) <;> (try split) <;> (try split) <;> (try split) <;> (try split) <;> omega⟩) (by omega) (by omega)
  · refine z_tabIn (o := 59) (t := 60) C wh dX10_count_1 (by omega) (by omega) (by omega) (by rw [w1]; rfl) (by decide) ?_
    refine z_aloadn C 0 dX10_count_60 rfl rfl ?_
    refine z_get C 0 (by decide) rfl rfl z_it10 0 (by decide) rfl fl_10_12 rfl dX10_count_61 ?_
    refine z_callV C (cx_X2_guardCount l (by omega) HN) mv_10_224 (z_atS 1 2 (by decide) rfl rfl rfl) pd_X2_guardCount ⟨by omega, by omega⟩ ⟨by omega, by omega⟩ rfl (Nat.le_of_ble_eq_true rfl) dX10_count_64 ?_
    rintro _ _ _ ⟨rfl, rfl, z7, rfl, hz7⟩
    rw [hQ]
    exact z_iret C hrt dX10_count_67 (⟨rfl, rfl, _, rfl, by unfold z_ctA z_sel; split <;> (try split) <;> (try split) <;> (try split) <;> (try split) <;> (try split) <;> (try split) <;> (try split) <;> (try split) <;> omega⟩) (by omega) (by omega)
  · refine z_tabIn (o := 67) (t := 68) C wh dX10_count_1 (by omega) (by omega) (by omega) (by rw [w1]; rfl) (by decide) ?_
    refine z_aloadn C 0 dX10_count_68 rfl rfl ?_
    refine z_get C 0 (by decide) rfl rfl z_it10 1 (by decide) rfl fl_10_19 rfl dX10_count_69 ?_
    refine z_get C 5 (by decide) rfl rfl z_it3 1 (by decide) rfl fl_10_102 rfl dX10_count_72 ?_
    refine z_if_eq (t := 82) C dX10_count_75 (by decide) (by omega) (fun c8 => ?_) (fun c8 => ?_)
    · skip
      refine z_aloadn C 0 dX10_count_82 rfl rfl ?_
      refine z_get C 0 (by decide) rfl rfl z_it10 1 (by decide) rfl fl_10_19 rfl dX10_count_83 ?_
      refine z_get C 5 (by decide) rfl rfl z_it3 0 (by decide) rfl fl_10_106 rfl dX10_count_86 ?_
      refine z_get C 6 (by decide) rfl rfl z_it4 0 (by decide) rfl fl_10_227 rfl dX10_count_89 ?_
      rw [hQ]
      exact z_iret C hrt dX10_count_92 (⟨rfl, rfl, _, rfl, by unfold z_ctA z_sel; split <;> (try split) <;> (try split) <;> (try split) <;> (try split) <;> (try split) <;> (try split) <;> (try split) <;> (try split) <;> omega⟩) (by omega) (by omega)
    · skip
      refine z_iconst C dX10_count_78 ?_
      refine z_goto (t := 92) C dX10_count_79 (by decide) ?_
      rw [hQ]
      exact z_iret C hrt dX10_count_92 (⟨rfl, rfl, _, rfl, by unfold z_ctA z_sel; split <;> (try split) <;> (try split) <;> (try split) <;> (try split) <;> (try split) <;> (try split) <;> (try split) <;> (try split) <;> omega⟩) (by omega) (by omega)
  · refine z_tabIn (o := 92) (t := 93) C wh dX10_count_1 (by omega) (by omega) (by omega) (by rw [w1]; rfl) (by decide) ?_
    refine z_aloadn C 0 dX10_count_93 rfl rfl ?_
    refine z_get C 0 (by decide) rfl rfl z_it10 0 (by decide) rfl fl_10_12 rfl dX10_count_94 ?_
    refine z_get C 1 (by decide) rfl rfl z_it2 3 (by decide) rfl fl_10_228 rfl dX10_count_97 ?_
    rw [hQ]
    exact z_iret C hrt dX10_count_100 (⟨rfl, rfl, _, rfl, by unfold z_ctA z_sel; split <;> (try split) <;> (try split) <;> (try split) <;> (try split) <;> (try split) <;> (try split) <;> (try split) <;> (try split) <;> omega⟩) (by omega) (by omega)
  · refine z_tabIn (o := 100) (t := 101) C wh dX10_count_1 (by omega) (by omega) (by omega) (by rw [w1]; rfl) (by decide) ?_
    refine z_aloadn C 0 dX10_count_101 rfl rfl ?_
    refine z_get C 0 (by decide) rfl rfl z_it10 1 (by decide) rfl fl_10_19 rfl dX10_count_102 ?_
    refine z_get C 5 (by decide) rfl rfl z_it3 1 (by decide) rfl fl_10_102 rfl dX10_count_105 ?_
    refine z_if_eq (t := 115) C dX10_count_108 (by decide) (by omega) (fun c9 => ?_) (fun c9 => ?_)
    · skip
      refine z_iconst C dX10_count_115 ?_
      rw [hQ]
      exact z_iret C hrt dX10_count_116 (⟨rfl, rfl, _, rfl, by unfold z_ctA z_sel; split <;> (try split) <;> (try split) <;> (try split) <;> (try split) <;> (try split) <;> (try split) <;> (try split) <;> (try split) <;> omega⟩) (by omega) (by omega)
    · skip
      refine z_iconst C dX10_count_111 ?_
      refine z_goto (t := 116) C dX10_count_112 (by decide) ?_
      rw [hQ]
      exact z_iret C hrt dX10_count_116 (⟨rfl, rfl, _, rfl, by unfold z_ctA z_sel; split <;> (try split) <;> (try split) <;> (try split) <;> (try split) <;> (try split) <;> (try split) <;> (try split) <;> (try split) <;> omega⟩) (by omega) (by omega)
  · refine z_tabIn (o := 116) (t := 117) C wh dX10_count_1 (by omega) (by omega) (by omega) (by rw [w1]; rfl) (by decide) ?_
    refine z_aloadn C 0 dX10_count_117 rfl rfl ?_
    refine z_get C 0 (by decide) rfl rfl z_it10 1 (by decide) rfl fl_10_19 rfl dX10_count_118 ?_
    refine z_get C 5 (by decide) rfl rfl z_it3 2 (by decide) rfl fl_10_95 rfl dX10_count_121 ?_
    rw [hQ]
    exact z_iret C hrt dX10_count_124 (⟨rfl, rfl, _, rfl, by unfold z_ctA z_sel; split <;> (try split) <;> (try split) <;> (try split) <;> (try split) <;> (try split) <;> (try split) <;> (try split) <;> (try split) <;> omega⟩) (by omega) (by omega)
