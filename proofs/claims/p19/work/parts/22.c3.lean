/-- the ways of the states met -/
def z_cc (n : Int) (f : Nat → Int) : Prop := ∀ i : Nat, (i : Int) < n → 0 < f (7 * i + 6) → 0 ≤ f (7 * i + 3) ∧ f (7 * i + 3) < i ∧ f (7 * (f (7 * i + 3)).toNat + 6) = f (7 * i + 6) - 1
theorem z_cc0 {f : Nat → Int} : z_cc 0 f := fun i hi => absurd hi (by omega)
theorem z_cc_add {n : Int} {f g : Nat → Int} (h : z_cc n f) (hn : 0 ≤ n) (hc : g 6 = 0 ∨ 0 ≤ g 3 ∧ g 3 < n ∧ f (7 * (g 3).toNat + 6) = g 6 - 1) : z_cc (n + 1) (va_cpy g f (0 : Int).toNat (n * 7 : Int).toNat (7 : Int).toNat) := by
  have e1 : ∀ j : Nat, (j : Int) < n * 7 → va_cpy g f (0 : Int).toNat (n * 7 : Int).toNat (7 : Int).toNat j = f j := fun j hj => pk_cpy_out (Or.inl (by omega))
  have e2 : ∀ j : Nat, j < 7 → va_cpy g f (0 : Int).toNat (n * 7 : Int).toNat (7 : Int).toNat (7 * n.toNat + j) = g j := fun j hj => by
    rw [pk_cpy_in (by omega) (by omega)]
    congr 1
    omega
  intro i hi h0
  by_cases he : i = n.toNat
  · subst he
    rw [e2 6 (by omega)] at h0 ⊢
    rw [e2 3 (by omega)]
    rcases hc with hc | ⟨h1, h2, h3⟩
    · omega
    · exact ⟨h1, by omega, by rw [e1 _ (by omega)]; exact h3⟩
  · rw [e1 (7 * i + 6) (by omega)] at h0 ⊢
    rw [e1 (7 * i + 3) (by omega)]
    obtain ⟨h1, h2, h3⟩ := h i (by omega) h0
    exact ⟨h1, h2, by rw [e1 _ (by omega)]; exact h3⟩
theorem z_cc_at {n i k v : Int} {f : Nat → Int} (h : z_cc n f) (hi : 0 ≤ i ∧ i < n) (hk : f (i * 7 + 6 : Int).toNat = k + 1) (h0 : 0 ≤ k) (hv : v = f (i * 7 + 3 : Int).toNat) : (0 ≤ v ∧ v < n) ∧ f (v * 7 + 6 : Int).toNat = k + (-1) + 1 := by
  rw [show (i * 7 + 6 : Int).toNat = 7 * i.toNat + 6 by omega] at hk
  rw [show (i * 7 + 3 : Int).toNat = 7 * i.toNat + 3 by omega] at hv
  obtain ⟨h1, h2, h3⟩ := h i.toNat (by omega) (by omega)
  subst hv
  refine ⟨⟨h1, by omega⟩, ?_⟩
  rw [show (f (7 * i.toNat + 3) * 7 + 6 : Int).toNat = 7 * (f (7 * i.toNat + 3)).toNat + 6 by omega]
  omega
set_option maxRecDepth 20000 in
theorem cm_X4_isMet (l : Launch) {D : va_G} {A : Nat → Prop} {ad : Nat → Nat} {ks : z_Ks} {s_edgeCount s_moveCount s_isNeeded s_timesDone s_size s_isGoing s_allTime s_stepCount s_gapCount : Int} {g_edges g_moves g_limits : Nat → Option Nat} {a_sfacts a_sbounds a_facts a_zone a_most a_places a_amounts a_nextPlaces a_nextAmounts a_earliest a_visited a_lastSet a_gapFrom a_gapTo a_gapLeast a_askedPlaces a_askedAmounts : Nat → Int} {Y : Nat → Option va_E} (v : Int) (Hs_size : (0 ≤ s_size ∧ s_size ≤ 120)) (hv : z_rg v) : z_Met l yX4_isMet cX4_isMet 2 (some .boolean) 0 0 0 0 D A 27 ad ks [.ref (ad 6), z_v v] (z_zc ad ks s_edgeCount s_moveCount s_isNeeded s_timesDone s_size s_isGoing s_allTime s_stepCount s_gapCount g_edges g_moves g_limits a_sfacts a_sbounds a_facts a_zone a_most a_places a_amounts a_nextPlaces a_nextAmounts a_earliest a_visited a_lastSet a_gapFrom a_gapTo a_gapLeast a_askedPlaces a_askedAmounts) Y (fun r S' Y' => S' = (z_zc ad ks s_edgeCount s_moveCount s_isNeeded s_timesDone s_size s_isGoing s_allTime s_stepCount s_gapCount g_edges g_moves g_limits a_sfacts a_sbounds a_facts a_zone a_most a_places a_amounts a_nextPlaces a_nextAmounts a_earliest a_visited a_lastSet a_gapFrom a_gapTo a_gapLeast a_askedPlaces a_askedAmounts) ∧ Y = Y' ∧ ∃ z : Int, r = some (z_v z) ∧ (z = 1 ∧ (0 ≤ v ∧ v < s_size) ∨ z = 0 ∧ ¬ (0 ≤ v ∧ v < s_size))) := by
  refine z_start2 (by decide) (Nat.le_of_ble_eq_true rfl) ?_
  intro p e R s m args below meth c Q C hRf hRc hRs hRl hQ hrt hnm
  refine z_loc (L' := [(0, .ref (ad 6)), (1, z_v v)]) [0, 1] rfl ?_
  refine z_iloadn C 1 dX4_isMet_0 rfl rfl ?_
  refine z_if_lt (t := 16) C dX4_isMet_1 (by decide) (by omega) (fun c1 => ?_) (fun c1 => ?_)
  · skip
    refine z_iconst C dX4_isMet_16 ?_
    rw [hQ]
    exact z_zret C hrt (by omega) dX4_isMet_17 (⟨rfl, rfl, _, rfl, by omega⟩) (by omega) (by omega)
  · skip
    refine z_iloadn C 1 dX4_isMet_4 rfl rfl ?_
    refine z_aloadn C 0 dX4_isMet_5 rfl rfl ?_
    refine z_get C 6 (by decide) rfl rfl z_it4 0 (by decide) rfl fl_4_18 rfl dX4_isMet_6 ?_
    refine z_icmp_ge (t := 16) C dX4_isMet_9 (by decide) (by omega) (by omega) (fun c2 => ?_) (fun c2 => ?_)
    · skip
      refine z_iconst C dX4_isMet_16 ?_
      rw [hQ]
      exact z_zret C hrt (by omega) dX4_isMet_17 (⟨rfl, rfl, _, rfl, by omega⟩) (by omega) (by omega)
    · skip
      refine z_iconst C dX4_isMet_12 ?_
      refine z_goto (t := 17) C dX4_isMet_13 (by decide) ?_
      rw [hQ]
      exact z_zret C hrt (by omega) dX4_isMet_17 (⟨rfl, rfl, _, rfl, by omega⟩) (by omega) (by omega)
set_option maxRecDepth 20000 in
theorem cm_X4_fact (l : Launch) {D : va_G} {A : Nat → Prop} {ad : Nat → Nat} {ks : z_Ks} {s_edgeCount s_moveCount s_isNeeded s_timesDone s_size s_isGoing s_allTime s_stepCount s_gapCount : Int} {g_edges g_moves g_limits : Nat → Option Nat} {a_sfacts a_sbounds a_facts a_zone a_most a_places a_amounts a_nextPlaces a_nextAmounts a_earliest a_visited a_lastSet a_gapFrom a_gapTo a_gapLeast a_askedPlaces a_askedAmounts : Nat → Int} {Y : Nat → Option va_E} (i0 wh : Int) (Ha_sfacts : (∀ j, (j % 7 < 3 → 0 ≤ a_sfacts j ∧ a_sfacts j ≤ 5) ∧ (j % 7 = 3 → -1 ≤ a_sfacts j ∧ a_sfacts j ≤ 119) ∧ (j % 7 = 6 → 0 ≤ a_sfacts j ∧ a_sfacts j ≤ 40) ∧ z_rg (a_sfacts j))) (hi : 0 ≤ i0 ∧ i0 ≤ 119) (hw : 0 ≤ wh ∧ wh ≤ 6) : z_Met l yX4_fact cX4_fact 3 (some .int) 0 0 0 0 D A 27 ad ks [.ref (ad 6), z_v i0, z_v wh] (z_zc ad ks s_edgeCount s_moveCount s_isNeeded s_timesDone s_size s_isGoing s_allTime s_stepCount s_gapCount g_edges g_moves g_limits a_sfacts a_sbounds a_facts a_zone a_most a_places a_amounts a_nextPlaces a_nextAmounts a_earliest a_visited a_lastSet a_gapFrom a_gapTo a_gapLeast a_askedPlaces a_askedAmounts) Y (fun r S' Y' => S' = (z_zc ad ks s_edgeCount s_moveCount s_isNeeded s_timesDone s_size s_isGoing s_allTime s_stepCount s_gapCount g_edges g_moves g_limits a_sfacts a_sbounds a_facts a_zone a_most a_places a_amounts a_nextPlaces a_nextAmounts a_earliest a_visited a_lastSet a_gapFrom a_gapTo a_gapLeast a_askedPlaces a_askedAmounts) ∧ Y = Y' ∧ ∃ z : Int, r = some (z_v z) ∧ (z = a_sfacts (i0 * 7 + wh : Int).toNat ∧ (((i0 * 7 + wh : Int).toNat % 7 < 3 → 0 ≤ z ∧ z ≤ 5) ∧ ((i0 * 7 + wh : Int).toNat % 7 = 3 → -1 ≤ z ∧ z ≤ 119) ∧ ((i0 * 7 + wh : Int).toNat % 7 = 6 → 0 ≤ z ∧ z ≤ 40) ∧ z_rg (z)))) := by
  refine z_start2 (by decide) (Nat.le_of_ble_eq_true rfl) ?_
  intro p e R s m args below meth c Q C hRf hRc hRs hRl hQ hrt hnm
  refine z_loc (L' := [(0, .ref (ad 6)), (1, z_v i0), (2, z_v wh)]) [0, 1, 2] rfl ?_
  refine z_aloadn C 0 dX4_fact_0 rfl rfl ?_
  refine z_get C 6 (by decide) rfl rfl z_it4 1 (by decide) rfl fl_4_9 rfl dX4_fact_1 ?_
  refine z_iloadn C 1 dX4_fact_4 rfl rfl ?_
  refine z_bipush C dX4_fact_5 (by decide) ?_
  refine z_imul C dX4_fact_7 ?_
  refine z_iloadn C 2 dX4_fact_8 rfl rfl ?_
  refine z_iadd C dX4_fact_9 ?_
  refine z_iald C 7 (by decide) rfl (by decide) (by omega) (by omega) dX4_fact_10 ?_
  have rx1 := Ha_sfacts (((i0 * 7) + wh) : Int).toNat
  generalize ex1 : a_sfacts (((i0 * 7) + wh) : Int).toNat = x1 at rx1 ⊢
  rw [hQ]
  exact z_iret C hrt dX4_fact_11 (⟨rfl, rfl, _, rfl, ⟨by omega, by assumption⟩⟩) (by omega) (by omega)
set_option maxRecDepth 20000 in
theorem cm_X4_isStep (l : Launch) {D : va_G} {A : Nat → Prop} {ad : Nat → Nat} {ks : z_Ks} {s_edgeCount s_moveCount s_isNeeded s_timesDone s_size s_isGoing s_allTime s_stepCount s_gapCount : Int} {g_edges g_moves g_limits : Nat → Option Nat} {a_sfacts a_sbounds a_facts a_zone a_most a_places a_amounts a_nextPlaces a_nextAmounts a_earliest a_visited a_lastSet a_gapFrom a_gapTo a_gapLeast a_askedPlaces a_askedAmounts : Nat → Int} {Y : Nat → Option va_E} (i0 k0 : Int) (Hs_size : (0 ≤ s_size ∧ s_size ≤ 120)) (Ha_sfacts : (∀ j, (j % 7 < 3 → 0 ≤ a_sfacts j ∧ a_sfacts j ≤ 5) ∧ (j % 7 = 3 → -1 ≤ a_sfacts j ∧ a_sfacts j ≤ 119) ∧ (j % 7 = 6 → 0 ≤ a_sfacts j ∧ a_sfacts j ≤ 40) ∧ z_rg (a_sfacts j))) (hi : z_rg i0) (hk : z_rg k0) : z_Met l yX4_isStep cX4_isStep 3 (some .boolean) 1 22 0 0 D A 27 ad ks [.ref (ad 6), z_v i0, z_v k0] (z_zc ad ks s_edgeCount s_moveCount s_isNeeded s_timesDone s_size s_isGoing s_allTime s_stepCount s_gapCount g_edges g_moves g_limits a_sfacts a_sbounds a_facts a_zone a_most a_places a_amounts a_nextPlaces a_nextAmounts a_earliest a_visited a_lastSet a_gapFrom a_gapTo a_gapLeast a_askedPlaces a_askedAmounts) Y (fun r S' Y' => S' = (z_zc ad ks s_edgeCount s_moveCount s_isNeeded s_timesDone s_size s_isGoing s_allTime s_stepCount s_gapCount g_edges g_moves g_limits a_sfacts a_sbounds a_facts a_zone a_most a_places a_amounts a_nextPlaces a_nextAmounts a_earliest a_visited a_lastSet a_gapFrom a_gapTo a_gapLeast a_askedPlaces a_askedAmounts) ∧ Y = Y' ∧ ∃ z : Int, r = some (z_v z) ∧ (z = 1 ∧ ((0 ≤ i0 ∧ i0 < s_size) ∧ 0 ≤ k0 ∧ k0 < a_sfacts (i0 * 7 + 6 : Int).toNat) ∨ z = 0 ∧ ¬ ((0 ≤ i0 ∧ i0 < s_size) ∧ 0 ≤ k0 ∧ k0 < a_sfacts (i0 * 7 + 6 : Int).toNat))) := by
  refine z_start2 (by decide) (Nat.le_of_ble_eq_true rfl) ?_
  intro p e R s m args below meth c Q C hRf hRc hRs hRl hQ hrt hnm
  refine z_loc (L' := [(0, .ref (ad 6)), (1, z_v i0), (2, z_v k0)]) [0, 1, 2] rfl ?_
  refine z_aloadn C 0 dX4_isStep_0 rfl rfl ?_
  refine z_iloadn C 1 dX4_isStep_1 rfl rfl ?_
  refine z_callV C (cm_X4_isMet l i0 (by omega) (by omega)) mv_4_22 (z_atS 6 4 (by decide) rfl rfl rfl) pd_X4_isMet ⟨by omega, by omega⟩ ⟨by omega, by omega⟩ rfl (Nat.le_of_ble_eq_true rfl) dX4_isStep_2 ?_
  rintro _ _ _ ⟨rfl, rfl, z3, rfl, hz3⟩
  refine z_if_eq (t := 27) C dX4_isStep_5 (by decide) (by omega) (fun c4 => ?_) (fun c4 => ?_)
  · skip
    refine z_iconst C dX4_isStep_27 ?_
    rw [hQ]
    exact z_zret C hrt (by omega) dX4_isStep_28 (⟨rfl, rfl, _, rfl, by omega⟩) (by omega) (by omega)
  · skip
    refine z_iloadn C 2 dX4_isStep_8 rfl rfl ?_
    refine z_if_lt (t := 27) C dX4_isStep_9 (by decide) (by omega) (fun c5 => ?_) (fun c5 => ?_)
    · skip
      refine z_iconst C dX4_isStep_27 ?_
      rw [hQ]
      exact z_zret C hrt (by omega) dX4_isStep_28 (⟨rfl, rfl, _, rfl, by omega⟩) (by omega) (by omega)
    · skip
      refine z_iloadn C 2 dX4_isStep_12 rfl rfl ?_
      refine z_aloadn C 0 dX4_isStep_13 rfl rfl ?_
      refine z_iloadn C 1 dX4_isStep_14 rfl rfl ?_
      refine z_bipush C dX4_isStep_15 (by decide) ?_
      refine z_callV C (cm_X4_fact l i0 6 Ha_sfacts (by omega) (by omega)) mv_4_26 (z_atS 6 4 (by decide) rfl rfl rfl) pd_X4_fact ⟨by omega, by omega⟩ ⟨by omega, by omega⟩ rfl (Nat.le_of_ble_eq_true rfl) dX4_isStep_17 ?_
      rintro _ _ _ ⟨rfl, rfl, z8, rfl, hz8⟩
      refine z_icmp_ge (t := 27) C dX4_isStep_20 (by decide) (by omega) (by omega) (fun c9 => ?_) (fun c9 => ?_)
      · skip
        refine z_iconst C dX4_isStep_27 ?_
        rw [hQ]
        exact z_zret C hrt (by omega) dX4_isStep_28 (⟨rfl, rfl, _, rfl, by omega⟩) (by omega) (by omega)
      · skip
        refine z_iconst C dX4_isStep_23 ?_
        refine z_goto (t := 28) C dX4_isStep_24 (by decide) ?_
        rw [hQ]
        exact z_zret C hrt (by omega) dX4_isStep_28 (⟨rfl, rfl, _, rfl, by omega⟩) (by omega) (by omega)
set_option maxRecDepth 20000 in
theorem cm_X4_boundOf (l : Launch) {D : va_G} {A : Nat → Prop} {ad : Nat → Nat} {ks : z_Ks} {s_edgeCount s_moveCount s_isNeeded s_timesDone s_size s_isGoing s_allTime s_stepCount s_gapCount : Int} {g_edges g_moves g_limits : Nat → Option Nat} {a_sfacts a_sbounds a_facts a_zone a_most a_places a_amounts a_nextPlaces a_nextAmounts a_earliest a_visited a_lastSet a_gapFrom a_gapTo a_gapLeast a_askedPlaces a_askedAmounts : Nat → Int} {Y : Nat → Option va_E} (i0 x y : Int) (Ha_sbounds : (∀ j, z_rg (a_sbounds j))) (hi : 0 ≤ i0 ∧ i0 ≤ 119) (hx : 0 ≤ x ∧ x ≤ 3) (hy : 0 ≤ y ∧ y ≤ 3) : z_Met l yX4_boundOf cX4_boundOf 4 (some .int) 0 0 0 0 D A 27 ad ks [.ref (ad 6), z_v i0, z_v x, z_v y] (z_zc ad ks s_edgeCount s_moveCount s_isNeeded s_timesDone s_size s_isGoing s_allTime s_stepCount s_gapCount g_edges g_moves g_limits a_sfacts a_sbounds a_facts a_zone a_most a_places a_amounts a_nextPlaces a_nextAmounts a_earliest a_visited a_lastSet a_gapFrom a_gapTo a_gapLeast a_askedPlaces a_askedAmounts) Y (fun r S' Y' => S' = (z_zc ad ks s_edgeCount s_moveCount s_isNeeded s_timesDone s_size s_isGoing s_allTime s_stepCount s_gapCount g_edges g_moves g_limits a_sfacts a_sbounds a_facts a_zone a_most a_places a_amounts a_nextPlaces a_nextAmounts a_earliest a_visited a_lastSet a_gapFrom a_gapTo a_gapLeast a_askedPlaces a_askedAmounts) ∧ Y = Y' ∧ ∃ z : Int, r = some (z_v z) ∧ (z_rg z)) := by
  refine z_start2 (by decide) (Nat.le_of_ble_eq_true rfl) ?_
  intro p e R s m args below meth c Q C hRf hRc hRs hRl hQ hrt hnm
  refine z_loc (L' := [(0, .ref (ad 6)), (1, z_v i0), (2, z_v x), (3, z_v y)]) [0, 1, 2, 3] rfl ?_
  refine z_aloadn C 0 dX4_boundOf_0 rfl rfl ?_
  refine z_get C 6 (by decide) rfl rfl z_it4 2 (by decide) rfl fl_4_15 rfl dX4_boundOf_1 ?_
  refine z_iloadn C 1 dX4_boundOf_4 rfl rfl ?_
  refine z_bipush C dX4_boundOf_5 (by decide) ?_
  refine z_imul C dX4_boundOf_7 ?_
  refine z_iloadn C 2 dX4_boundOf_8 rfl rfl ?_
  refine z_iconst C dX4_boundOf_9 ?_
  refine z_imul C dX4_boundOf_10 ?_
  refine z_iadd C dX4_boundOf_11 ?_
  refine z_iloadn C 3 dX4_boundOf_12 rfl rfl ?_
  refine z_iadd C dX4_boundOf_13 ?_
  refine z_iald C 8 (by decide) rfl (by decide) (by omega) (by omega) dX4_boundOf_14 ?_
  have rx1 := Ha_sbounds ((((i0 * 16) + (x * 4)) + y) : Int).toNat
  generalize ex1 : a_sbounds ((((i0 * 16) + (x * 4)) + y) : Int).toNat = x1 at rx1 ⊢
  rw [hQ]
  exact z_iret C hrt dX4_boundOf_15 (⟨rfl, rfl, _, rfl, by omega⟩) (by omega) (by omega)
set_option maxRecDepth 20000 in
theorem cm_X4_copyFacts (l : Launch) {D : va_G} {A : Nat → Prop} {ad : Nat → Nat} {ks : z_Ks} {s_edgeCount s_moveCount s_isNeeded s_timesDone s_size s_isGoing s_allTime s_stepCount s_gapCount : Int} {g_edges g_moves g_limits : Nat → Option Nat} {a_sfacts a_sbounds a_facts a_zone a_most a_places a_amounts a_nextPlaces a_nextAmounts a_earliest a_visited a_lastSet a_gapFrom a_gapTo a_gapLeast a_askedPlaces a_askedAmounts : Nat → Int} {Y : Nat → Option va_E} (i0 : Int) (Ha_sfacts : (∀ j, (j % 7 < 3 → 0 ≤ a_sfacts j ∧ a_sfacts j ≤ 5) ∧ (j % 7 = 3 → -1 ≤ a_sfacts j ∧ a_sfacts j ≤ 119) ∧ (j % 7 = 6 → 0 ≤ a_sfacts j ∧ a_sfacts j ≤ 40) ∧ z_rg (a_sfacts j))) (Ha_facts : (∀ j, (j % 7 < 3 → 0 ≤ a_facts j ∧ a_facts j ≤ 5) ∧ (j % 7 = 3 → -1 ≤ a_facts j ∧ a_facts j ≤ 119) ∧ (j % 7 = 6 → 0 ≤ a_facts j ∧ a_facts j ≤ 40) ∧ z_rg (a_facts j))) (hi : 0 ≤ i0 ∧ i0 ≤ 119) : z_Met l yX4_copyFacts cX4_copyFacts 3 none 1 40 0 0 D A 27 ad ks [.ref (ad 6), z_v i0, .ref (ad 9)] (z_zc ad ks s_edgeCount s_moveCount s_isNeeded s_timesDone s_size s_isGoing s_allTime s_stepCount s_gapCount g_edges g_moves g_limits a_sfacts a_sbounds a_facts a_zone a_most a_places a_amounts a_nextPlaces a_nextAmounts a_earliest a_visited a_lastSet a_gapFrom a_gapTo a_gapLeast a_askedPlaces a_askedAmounts) Y (fun r S' Y' => ∃ na_facts : Nat → Int, S' = (z_zc ad ks s_edgeCount s_moveCount s_isNeeded s_timesDone s_size s_isGoing s_allTime s_stepCount s_gapCount g_edges g_moves g_limits a_sfacts a_sbounds na_facts a_zone a_most a_places a_amounts a_nextPlaces a_nextAmounts a_earliest a_visited a_lastSet a_gapFrom a_gapTo a_gapLeast a_askedPlaces a_askedAmounts) ∧ Y = Y' ∧ (∀ j, (j % 7 < 3 → 0 ≤ na_facts j ∧ na_facts j ≤ 5) ∧ (j % 7 = 3 → -1 ≤ na_facts j ∧ na_facts j ≤ 119) ∧ (j % 7 = 6 → 0 ≤ na_facts j ∧ na_facts j ≤ 40) ∧ z_rg (na_facts j)) ∧ (∀ j : Nat, j < 7 → na_facts j = a_sfacts ((i0 * 7 : Int).toNat + j)) ∧ r = none) := by
  refine z_start2 (by decide) (Nat.le_of_ble_eq_true rfl) ?_
  intro p e R s m args below meth c Q C hRf hRc hRs hRl hQ hrt hnm
  refine z_loc (L' := [(0, .ref (ad 6)), (1, z_v i0), (2, .ref (ad 9))]) [0, 1, 2] rfl ?_
  refine z_aloadn C 0 dX4_copyFacts_0 rfl rfl ?_
  refine z_get C 6 (by decide) rfl rfl z_it4 1 (by decide) rfl fl_4_9 rfl dX4_copyFacts_1 ?_
  refine z_iloadn C 1 dX4_copyFacts_4 rfl rfl ?_
  refine z_bipush C dX4_copyFacts_5 (by decide) ?_
  refine z_imul C dX4_copyFacts_7 ?_
  refine z_aloadn C 2 dX4_copyFacts_8 rfl rfl ?_
  refine z_iconst C dX4_copyFacts_9 ?_
  refine z_bipush C dX4_copyFacts_10 (by decide) ?_
  refine z_copy C 7 9 (by decide) (by decide) rfl rfl mc_4_30 (by omega) (by omega) (by omega) (by omega) (by omega) (by decide) (by decide) (by omega) (by rw [hRl]; exact Nat.le_of_ble_eq_true rfl) dX4_copyFacts_12 ?_
  refine z_ext (S' := (z_zc ad ks s_edgeCount s_moveCount s_isNeeded s_timesDone s_size s_isGoing s_allTime s_stepCount s_gapCount g_edges g_moves g_limits a_sfacts a_sbounds (va_cpy a_sfacts a_facts ((i0 * 7) : Int).toNat (0 : Int).toNat (7 : Int).toNat) a_zone a_most a_places a_amounts a_nextPlaces a_nextAmounts a_earliest a_visited a_lastSet a_gapFrom a_gapTo a_gapLeast a_askedPlaces a_askedAmounts)) upC_a_facts ?_
  have h1 : ∀ j, (j % 7 < 3 → 0 ≤ (va_cpy a_sfacts a_facts ((i0 * 7) : Int).toNat (0 : Int).toNat (7 : Int).toNat) j ∧ (va_cpy a_sfacts a_facts ((i0 * 7) : Int).toNat (0 : Int).toNat (7 : Int).toNat) j ≤ 5) ∧ (j % 7 = 3 → -1 ≤ (va_cpy a_sfacts a_facts ((i0 * 7) : Int).toNat (0 : Int).toNat (7 : Int).toNat) j ∧ (va_cpy a_sfacts a_facts ((i0 * 7) : Int).toNat (0 : Int).toNat (7 : Int).toNat) j ≤ 119) ∧ (j % 7 = 6 → 0 ≤ (va_cpy a_sfacts a_facts ((i0 * 7) : Int).toNat (0 : Int).toNat (7 : Int).toNat) j ∧ (va_cpy a_sfacts a_facts ((i0 * 7) : Int).toNat (0 : Int).toNat (7 : Int).toNat) j ≤ 40) ∧ z_rg ((va_cpy a_sfacts a_facts ((i0 * 7) : Int).toNat (0 : Int).toNat (7 : Int).toNat) j) := z_p7c Ha_sfacts Ha_facts (by omega)
  rw [hQ]
  exact z_vret C hrt dX4_copyFacts_15 (⟨(va_cpy a_sfacts a_facts ((i0 * 7) : Int).toNat (0 : Int).toNat (7 : Int).toNat), rfl, rfl, h1, fun j hj => pk_cpy_in (Nat.zero_le _) (by omega), rfl⟩) (by omega) (by omega)