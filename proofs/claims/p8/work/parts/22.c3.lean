/-- the ways of the states met -/
def z_cc (n : Int) (f : Nat → Int) : Prop := ∀ i : Nat, (i : Int) < n → 0 < f (7 * i + 6) → 0 ≤ f (7 * i + 3) ∧ f (7 * i + 3) < i ∧ f (7 * (f (7 * i + 3)).toNat + 6) = f (7 * i + 6) - 1
theorem z_cc0 {f : Nat → Int} : z_cc 0 f := fun i hi => absurd hi (by omega)
theorem z_cc_add {n : Int} {f g : Nat → Int} (h : z_cc n f) (hn : 0 ≤ n) (hc : g 6 = 0 ∨ 0 ≤ g 3 ∧ g 3 < n ∧ f (7 * (g 3).toNat + 6) = g 6 - 1) : z_cc (n + 1) (va_cpy g f (0 : Int).toNat (n * 7 : Int).toNat (7 : Int).toNat) := by
  have e1 : ∀ j : Nat, (j : Int) < n * 7 → va_cpy g f (0 : Int).toNat (n * 7 : Int).toNat (7 : Int).toNat j = f j := fun j hj => pk_cpy_out (Or.inl (by omega))
  have e2 : ∀ j : Nat, j < 7 → va_cpy g f (0 : Int).toNat (n * 7 : Int).toNat (7 : Int).toNat (7 * n.toNat + j) = g j := fun j hj => by
    rw [pk_cpy_in (by omega) (by omega)]
    congr 1
    omega
  intro i hi h0
  by_cases he : i = n.toNat
  · subst he
    rw [e2 6 (by omega)] at h0 ⊢
    rw [e2 3 (by omega)]
    rcases hc with hc | ⟨h1, h2, h3⟩
    · omega
    · exact ⟨h1, by omega, by rw [e1 _ (by omega)]; exact h3⟩
  · rw [e1 (7 * i + 6) (by omega)] at h0 ⊢
    rw [e1 (7 * i + 3) (by omega)]
    obtain ⟨h1, h2, h3⟩ := h i (by omega) h0
    exact ⟨h1, h2, by rw [e1 _ (by omega)]; exact h3⟩
theorem z_cc_at {n i k v : Int} {f : Nat → Int} (h : z_cc n f) (hi : 0 ≤ i ∧ i < n) (hk : f (i * 7 + 6 : Int).toNat = k + 1) (h0 : 0 ≤ k) (hv : v = f (i * 7 + 3 : Int).toNat) : (0 ≤ v ∧ v < n) ∧ f (v * 7 + 6 : Int).toNat = k + (-1) + 1 := by
  rw [show (i * 7 + 6 : Int).toNat = 7 * i.toNat + 6 by omega] at hk
  rw [show (i * 7 + 3 : Int).toNat = 7 * i.toNat + 3 by omega] at hv
  obtain ⟨h1, h2, h3⟩ := h i.toNat (by omega) (by omega)
  subst hv
  refine ⟨⟨h1, by omega⟩, ?_⟩
  rw [show (f (7 * i.toNat + 3) * 7 + 6 : Int).toNat = 7 * (f (7 * i.toNat + 3)).toNat + 6 by omega]
  omega
set_option maxRecDepth 20000 in
theorem cm_X4_isMet (l : Launch) {D : va_G} {A : Nat → Prop} {ad : Nat → Nat} {ks : z_Ks} {s_edgeCount s_moveCount s_isNeeded s_timesDone s_size s_isGoing s_allTime s_stepCount s_gapCount : Int} {g_edges g_moves g_limits : Nat → Option Nat} {a_sfacts a_sbounds a_facts a_zone a_most a_places a_amounts a_nextPlaces a_nextAmounts a_earliest a_visited a_lastSet a_gapFrom a_gapTo a_gapLeast a_askedPlaces a_askedAmounts : Nat → Int} {Y : Nat → Option va_E} (v : Int) (Hs_size : (0 ≤ s_size ∧ s_size ≤ 120)) (hv : z_rg v) : z_Met l yX4_isMet cX4_isMet 2 (some .boolean) 0 0 0 0 D A 27 ad ks [.ref (ad 6), z_v v] (z_zc ad ks s_edgeCount s_moveCount s_isNeeded s_timesDone s_size s_isGoing s_allTime s_stepCount s_gapCount g_edges g_moves g_limits a_sfacts a_sbounds a_facts a_zone a_most a_places a_amounts a_nextPlaces a_nextAmounts a_earliest a_visited a_lastSet a_gapFrom a_gapTo a_gapLeast a_askedPlaces a_askedAmounts) Y (fun r S' Y' => S' = (z_zc ad ks s_edgeCount s_moveCount s_isNeeded s_timesDone s_size s_isGoing s_allTime s_stepCount s_gapCount g_edges g_moves g_limits a_sfacts a_sbounds a_facts a_zone a_most a_places a_amounts a_nextPlaces a_nextAmounts a_earliest a_visited a_lastSet a_gapFrom a_gapTo a_gapLeast a_askedPlaces a_askedAmounts) ∧ Y = Y' ∧ ∃ z : Int, r = some (z_v z) ∧ (z = 1 ∧ (0 ≤ v ∧ v < s_size) ∨ z = 0 ∧ ¬ (0 ≤ v ∧ v < s_size))) := by
  refine z_start2 (by decide) (Nat.le_of_ble_eq_true rfl) ?_
  intro p e R s m args below meth c Q C hRf hRc hRs hRl hQ hrt hnm
  refine z_loc (L' := [(0, .ref (ad 6)), (1, z_v v)]) [0, 1] rfl ?_
  refine z_iloadn C 1 dX4_isMet_0 rfl rfl ?_
  refine z_if_lt (t := 16) C dX4_isMet_1 (by decide) (by omega) (fun c1 => ?_) (fun c1 => ?_)
  · skip
    refine z_iconst C dX4_isMet_16 ?_
    rw [hQ]
    exact z_zret C hrt (by omega) dX4_isMet_17 (⟨rfl, rfl, _, rfl, by omega⟩) (by omega) (by omega)
  · skip
    refine z_iloadn C 1 dX4_isMet_4 rfl rfl ?_
    refine z_aloadn C 0 dX4_isMet_5 rfl rfl ?_
    refine z_get C 6 (by decide) rfl rfl z_it4 0 (by decide) rfl fl_4_18 rfl dX4_isMet_6 ?_
    refine z_icmp_ge (t := 16) C dX4_isMet_9 (by decide) (by omega) (by omega) (fun c2 => ?_) (fun c2 => ?_)
    · skip
      refine z_iconst C dX4_isMet_16 ?_
      rw [hQ]
      exact z_zret C hrt (by omega) dX4_isMet_17 (⟨rfl, rfl, _, rfl, by omega⟩) (by omega) (by omega)
    · skip
      refine z_iconst C dX4_isMet_12 ?_
      refine z_goto (t := 17) C dX4_isMet_13 (by decide) ?_
      rw [hQ]
      exact z_zret C hrt (by omega) dX4_isMet_17 (⟨rfl, rfl, _, rfl, by omega⟩) (by omega) (by omega)
set_option maxRecDepth 20000 in
theorem cm_X4_fact (l : Launch) {D : va_G} {A : Nat → Prop} {ad : Nat → Nat} {ks : z_Ks} {s_edgeCount s_moveCount s_isNeeded s_timesDone s_size s_isGoing s_allTime s_stepCount s_gapCount : Int} {g_edges g_moves g_limits : Nat → Option Nat} {a_sfacts a_sbounds a_facts a_zone a_most a_places a_amounts a_nextPlaces a_nextAmounts a_earliest a_visited a_lastSet a_gapFrom a_gapTo a_gapLeast a_askedPlaces a_askedAmounts : Nat → Int} {Y : Nat → Option va_E} (i0 wh : Int) (Ha_sfacts : (∀ j, (j % 7 < 3 → 0 ≤ a_sfacts j ∧ a_sfacts j ≤ 5) ∧ (j % 7 = 3 → -1 ≤ a_sfacts j ∧ a_sfacts j ≤ 119) ∧ (j % 7 = 6 → 0 ≤ a_sfacts j ∧ a_sfacts j ≤ 40) ∧ z_rg (a_sfacts j))) (hi : 0 ≤ i0 ∧ i0 ≤ 119) (hw : 0 ≤ wh ∧ wh ≤ 6) : z_Met l yX4_fact cX4_fact 3 (some .int) 0 0 0 0 D A 27 ad ks [.ref (ad 6), z_v i0, z_v wh] (z_zc ad ks s_edgeCount s_moveCount s_isNeeded s_timesDone s_size s_isGoing s_allTime s_stepCount s_gapCount g_edges g_moves g_limits a_sfacts a_sbounds a_facts a_zone a_most a_places a_amounts a_nextPlaces a_nextAmounts a_earliest a_visited a_lastSet a_gapFrom a_gapTo a_gapLeast a_askedPlaces a_askedAmounts) Y (fun r S' Y' => S' = (z_zc ad ks s_edgeCount s_moveCount s_isNeeded s_timesDone s_size s_isGoing s_allTime s_stepCount s_gapCount g_edges g_moves g_limits a_sfacts a_sbounds a_facts a_zone a_most a_places a_amounts a_nextPlaces a_nextAmounts a_earliest a_visited a_lastSet a_gapFrom a_gapTo a_gapLeast a_askedPlaces a_askedAmounts) ∧ Y = Y' ∧ ∃ z : Int, r = some (z_v z) ∧ (z = a_sfacts (i0 * 7 + wh : Int).toNat ∧ (((i0 * 7 + wh : Int).toNat % 7 < 3 → 0 ≤ z ∧ z ≤ 5) ∧ ((i0 * 7 + wh : Int).toNat % 7 = 3 → -1 ≤ z ∧ z ≤ 119) ∧ ((i0 * 7 + wh : Int).toNat % 7 = 6 → 0 ≤ z ∧ z ≤ 40) ∧ z_rg (z)))) := by
  refine z_start2 (by decide) (Nat.le_of_ble_eq_true rfl) ?_
  intro p e R s m args below meth c Q C hRf hRc hRs hRl hQ hrt hnm
  refine z_loc (L' := [(0, .ref (ad 6)), (1, z_v i0), (2, z_v wh)]) [0, 1, 2] rfl ?_
  refine z_aloadn C 0 dX4_fact_0 rfl rfl ?_
  refine z_get C 6 (by decide) rfl rfl z_it4 1 (by decide) rfl fl_4_9 rfl dX4_fact_1 ?_
  refine z_iloadn C 1 dX4_fact_4 rfl rfl ?_
  refine z_bipush C dX4_fact_5 (by decide) ?_
  refine z_imul C dX4_fact_7 ?_
  refine z_iloadn C 2 dX4_fact_8 rfl rfl ?_
  refine z_iadd C dX4_fact_9 ?_
  refine z_iald C 7 (by decide) rfl (by decide) (by omega) (by omega) dX4_fact_10 ?_
  have rx1 := Ha_sfacts (((i0 * 7) + wh) : Int).toNat
  generalize ex1 : a_sfacts (((i0 * 7) + wh) : Int).toNat = x1 at rx1 ⊢
  rw [hQ]
  exact z_iret C hrt dX4_fact_11 (⟨rfl, rfl, _, rfl, ⟨by omega, by assumption⟩⟩) (by omega) (by omega)
set_option maxRecDepth 20000 in
theorem cm_X4_isStep (l : Launch) {D : va_G} {A : Nat → Prop} {ad : Nat → Nat} {ks : z_Ks} {s_edgeCount s_moveCount s_isNeeded s_timesDone s_size s_isGoing s_allTime s_stepCount s_gapCount : Int} {g_edges g_moves g_limits : Nat → Option Nat} {a_sfacts a_sbounds a_facts a_zone a_most a_places a_amounts a_nextPlaces a_nextAmounts a_earliest a_visited a_lastSet a_gapFrom a_gapTo a_gapLeast a_askedPlaces a_askedAmounts : Nat → Int} {Y : Nat → Option va_E} (i0 k0 : Int) (Hs_size : (0 ≤ s_size ∧ s_size ≤ 120)) (Ha_sfacts : (∀ j, (j % 7 < 3 → 0 ≤ a_sfacts j ∧ a_sfacts j ≤ 5) ∧ (j % 7 = 3 → -1 ≤ a_sfacts j ∧ a_sfacts j ≤ 119) ∧ (j % 7 = 6 → 0 ≤ a_sfacts j ∧ a_sfacts j ≤ 40) ∧ z_rg (a_sfacts j))) (hi : z_rg i0) (hk : z_rg k0) : z_Met l yX4_isStep cX4_isStep 3 (some .boolean) 1 22 0 0 D A 27 ad ks [.ref (ad 6), z_v i0, z_v k0] (z_zc ad ks s_edgeCount s_moveCount s_isNeeded s_timesDone s_size s_isGoing s_allTime s_stepCount s_gapCount g_edges g_moves g_limits a_sfacts a_sbounds a_facts a_zone a_most a_places a_amounts a_nextPlaces a_nextAmounts a_earliest a_visited a_lastSet a_gapFrom a_gapTo a_gapLeast a_askedPlaces a_askedAmounts) Y (fun r S' Y' => S' = (z_zc ad ks s_edgeCount s_moveCount s_isNeeded s_timesDone s_size s_isGoing s_allTime s_stepCount s_gapCount g_edges g_moves g_limits a_sfacts a_sbounds a_facts a_zone a_most a_places a_amounts a_nextPlaces a_nextAmounts a_earliest a_visited a_lastSet a_gapFrom a_gapTo a_gapLeast a_askedPlaces a_askedAmounts) ∧ Y = Y' ∧ ∃ z : Int, r = some (z_v z) ∧ (z = 1 ∧ ((0 ≤ i0 ∧ i0 < s_size) ∧ 0 ≤ k0 ∧ k0 < a_sfacts (i0 * 7 + 6 : Int).toNat) ∨ z = 0 ∧ ¬ ((0 ≤ i0 ∧ i0 < s_size) ∧ 0 ≤ k0 ∧ k0 < a_sfacts (i0 * 7 + 6 : Int).toNat))) := by
  refine z_start2 (by decide) (Nat.le_of_ble_eq_true rfl) ?_
  intro p e R s m args below meth c Q C hRf hRc hRs hRl hQ hrt hnm
  refine z_loc (L' := [(0, .ref (ad 6)), (1, z_v i0), (2, z_v k0)]) [0, 1, 2] rfl ?_
  refine z_aloadn C 0 dX4_isStep_0 rfl rfl ?_
  refine z_iloadn C 1 dX4_isStep_1 rfl rfl ?_
  refine z_callV C (cm_X4_isMet l i0 (by omega) (by omega)) mv_4_22 (z_atS 6 4 (by decide) rfl rfl rfl) pd_X4_isMet ⟨by omega, by omega⟩ ⟨by omega, by omega⟩ rfl (Nat.le_of_ble_eq_true rfl) dX4_isStep_2 ?_
  rintro _ _ _ ⟨rfl, rfl, z3, rfl, hz3⟩
  refine z_if_eq (t := 27) C dX4_isStep_5 (by decide) (by omega) (fun c4 => ?_) (fun c4 => ?_)
  · skip
    refine z_iconst C dX4_isStep_27 ?_
    rw [hQ]
    exact z_zret C hrt (by omega) dX4_isStep_28 (⟨rfl, rfl, _, rfl, by omega⟩) (by omega) (by omega)
  · skip
    refine z_iloadn C 2 dX4_isStep_8 rfl rfl ?_
    refine z_if_lt (t := 27) C dX4_isStep_9 (by decide) (by omega) (fun c5 => ?_) (fun c5 => ?_)
    · skip
      refine z_iconst C dX4_isStep_27 ?_
      rw [hQ]
      exact z_zret C hrt (by omega) dX4_isStep_28 (⟨rfl, rfl, _, rfl, by omega⟩) (by omega) (by omega)
    · skip
      refine z_iloadn C 2 dX4_isStep_12 rfl rfl ?_
      refine z_aloadn C 0 dX4_isStep_13 rfl rfl ?_
      refine z_iloadn C 1 dX4_isStep_14 rfl rfl ?_
      refine z_bipush C dX4_isStep_15 (by decide) ?_
      refine z_callV C (cm_X4_fact l i0 6 Ha_sfacts (by omega) (by omega)) mv_4_26 (z_atS 6 4 (by decide) rfl rfl rfl) pd_X4_fact ⟨by omega, by omega⟩ ⟨by omega, by omega⟩ rfl (Nat.le_of_ble_eq_true rfl) dX4_isStep_17 ?_
      rintro _ _ _ ⟨rfl, rfl, z8, rfl, hz8⟩
      refine z_icmp_ge (t := 27) C dX4_isStep_20 (by decide) (by omega) (by omega) (fun c9 => ?_) (fun c9 => ?_)
      · skip
        refine z_iconst C dX4_isStep_27 ?_
        rw [hQ]
        exact z_zret C hrt (by omega) dX4_isStep_28 (⟨rfl, rfl, _, rfl, by omega⟩) (by omega) (by omega)
      · skip
        refine z_iconst C dX4_isStep_23 ?_
        refine z_goto (t := 28) C dX4_isStep_24 (by decide) ?_
        rw [hQ]
        exact z_zret C hrt (by omega) dX4_isStep_28 (⟨rfl, rfl, _, rfl, by omega⟩) (by omega) (by omega)
set_option maxRecDepth 20000 in
theorem cm_X4_boundOf (l : Launch) {D : va_G} {A : Nat → Prop} {ad : Nat → Nat} {ks : z_Ks} {s_edgeCount s_moveCount s_isNeeded s_timesDone s_size s_isGoing s_allTime s_stepCount s_gapCount : Int} {g_edges g_moves g_limits : Nat → Option Nat} {a_sfacts a_sbounds a_facts a_zone a_most a_places a_amounts a_nextPlaces a_nextAmounts a_earliest a_visited a_lastSet a_gapFrom a_gapTo a_gapLeast a_askedPlaces a_askedAmounts : Nat → Int} {Y : Nat → Option va_E} (i0 x y : Int) (Ha_sbounds : (∀ j, z_rg (a_sbounds j))) (hi : 0 ≤ i0 ∧ i0 ≤ 119) (hx : 0 ≤ x ∧ x ≤ 3) (hy : 0 ≤ y ∧ y ≤ 3) : z_Met l yX4_boundOf cX4_boundOf 4 (some .int) 0 0 0 0 D A 27 ad ks [.ref (ad 6), z_v i0, z_v x, z_v y] (z_zc ad ks s_edgeCount s_moveCount s_isNeeded s_timesDone s_size s_isGoing s_allTime s_stepCount s_gapCount g_edges g_moves g_limits a_sfacts a_sbounds a_facts a_zone a_most a_places a_amounts a_nextPlaces a_nextAmounts a_earliest a_visited a_lastSet a_gapFrom a_gapTo a_gapLeast a_askedPlaces a_askedAmounts) Y (fun r S' Y' => S' = (z_zc ad ks s_edgeCount s_moveCount s_isNeeded s_timesDone s_size s_isGoing s_allTime s_stepCount s_gapCount g_edges g_moves g_limits a_sfacts a_sbounds a_facts a_zone a_most a_places a_amounts a_nextPlaces a_nextAmounts a_earliest a_visited a_lastSet a_gapFrom a_gapTo a_gapLeast a_askedPlaces a_askedAmounts) ∧ Y = Y' ∧ ∃ z : Int, r = some (z_v z) ∧ (z_rg z)) := by
  refine z_start2 (by decide) (Nat.le_of_ble_eq_true rfl) ?_
  intro p e R s m args below meth c Q C hRf hRc hRs hRl hQ hrt hnm
  refine z_loc (L' := [(0, .ref (ad 6)), (1, z_v i0), (2, z_v x), (3, z_v y)]) [0, 1, 2, 3] rfl ?_
  refine z_aloadn C 0 dX4_boundOf_0 rfl rfl ?_
  refine z_get C 6 (by decide) rfl rfl z_it4 2 (by decide) rfl fl_4_15 rfl dX4_boundOf_1 ?_
  refine z_iloadn C 1 dX4_boundOf_4 rfl rfl ?_
  refine z_bipush C dX4_boundOf_5 (by decide) ?_
  refine z_imul C dX4_boundOf_7 ?_
  refine z_iloadn C 2 dX4_boundOf_8 rfl rfl ?_
  refine z_iconst C dX4_boundOf_9 ?_
  refine z_imul C dX4_boundOf_10 ?_
  refine z_iadd C dX4_boundOf_11 ?_
  refine z_iloadn C 3 dX4_boundOf_12 rfl rfl ?_
  refine z_iadd C dX4_boundOf_13 ?_
  refine z_iald C 8 (by decide) rfl (by decide) (by omega) (by omega) dX4_boundOf_14 ?_
  have rx1 := Ha_sbounds ((((i0 * 16) + (x * 4)) + y) : Int).toNat
  generalize ex1 : a_sbounds ((((i0 * 16) + (x * 4)) + y) : Int).toNat = x1 at rx1 ⊢
  rw [hQ]
  exact z_iret C hrt dX4_boundOf_15 (⟨rfl, rfl, _, rfl, by omega⟩) (by omega) (by omega)
set_option maxRecDepth 20000 in
theorem cm_X4_add (l : Launch) {D : va_G} {A : Nat → Prop} {ad : Nat → Nat} {ks : z_Ks} {s_edgeCount s_moveCount s_isNeeded s_timesDone s_size s_isGoing s_allTime s_stepCount s_gapCount : Int} {g_edges g_moves g_limits : Nat → Option Nat} {a_sfacts a_sbounds a_facts a_zone a_most a_places a_amounts a_nextPlaces a_nextAmounts a_earliest a_visited a_lastSet a_gapFrom a_gapTo a_gapLeast a_askedPlaces a_askedAmounts : Nat → Int} {Y : Nat → Option va_E} (Hs_size : (0 ≤ s_size ∧ s_size ≤ 120)) (Ha_facts : (∀ j, (j % 7 < 3 → 0 ≤ a_facts j ∧ a_facts j ≤ 5) ∧ (j % 7 = 3 → -1 ≤ a_facts j ∧ a_facts j ≤ 119) ∧ (j % 7 = 6 → 0 ≤ a_facts j ∧ a_facts j ≤ 40) ∧ z_rg (a_facts j))) (Ha_sfacts : (∀ j, (j % 7 < 3 → 0 ≤ a_sfacts j ∧ a_sfacts j ≤ 5) ∧ (j % 7 = 3 → -1 ≤ a_sfacts j ∧ a_sfacts j ≤ 119) ∧ (j % 7 = 6 → 0 ≤ a_sfacts j ∧ a_sfacts j ≤ 40) ∧ z_rg (a_sfacts j))) (Ha_sbounds : (∀ j, z_rg (a_sbounds j))) (Ha_zone : (∀ j, z_rg (a_zone j))) (hs : s_size ≤ 119) (hcc : z_cc s_size a_sfacts) (hc : a_facts 6 = 0 ∨ 0 ≤ a_facts 3 ∧ a_facts 3 < s_size ∧ a_sfacts (7 * (a_facts 3).toNat + 6) = a_facts 6 - 1) : z_Met l yX4_add cX4_add 3 none 1 40 0 0 D A 27 ad ks [.ref (ad 6), .ref (ad 9), .ref (ad 10)] (z_zc ad ks s_edgeCount s_moveCount s_isNeeded s_timesDone s_size s_isGoing s_allTime s_stepCount s_gapCount g_edges g_moves g_limits a_sfacts a_sbounds a_facts a_zone a_most a_places a_amounts a_nextPlaces a_nextAmounts a_earliest a_visited a_lastSet a_gapFrom a_gapTo a_gapLeast a_askedPlaces a_askedAmounts) Y (fun r S' Y' => ∃ na_sfacts : Nat → Int, ∃ na_sbounds : Nat → Int, S' = (z_zc ad ks s_edgeCount s_moveCount s_isNeeded s_timesDone (s_size + 1) s_isGoing s_allTime s_stepCount s_gapCount g_edges g_moves g_limits na_sfacts na_sbounds a_facts a_zone a_most a_places a_amounts a_nextPlaces a_nextAmounts a_earliest a_visited a_lastSet a_gapFrom a_gapTo a_gapLeast a_askedPlaces a_askedAmounts) ∧ Y = Y' ∧ (∀ j, (j % 7 < 3 → 0 ≤ na_sfacts j ∧ na_sfacts j ≤ 5) ∧ (j % 7 = 3 → -1 ≤ na_sfacts j ∧ na_sfacts j ≤ 119) ∧ (j % 7 = 6 → 0 ≤ na_sfacts j ∧ na_sfacts j ≤ 40) ∧ z_rg (na_sfacts j)) ∧ (∀ j, z_rg (na_sbounds j)) ∧ z_cc (s_size + 1) na_sfacts ∧ (∀ j : Nat, (j : Int) < s_size * 7 → na_sfacts j = a_sfacts j) ∧ r = none) := by
  refine z_start2 (by decide) (Nat.le_of_ble_eq_true rfl) ?_
  intro p e R s m args below meth c Q C hRf hRc hRs hRl hQ hrt hnm
  refine z_loc (L' := [(0, .ref (ad 6)), (1, .ref (ad 9)), (2, .ref (ad 10))]) [0, 1, 2] rfl ?_
  refine z_aloadn C 0 dX4_add_0 rfl rfl ?_
  refine z_get C 6 (by decide) rfl rfl z_it4 0 (by decide) rfl fl_4_18 rfl dX4_add_1 ?_
  refine z_bipush C dX4_add_4 (by decide) ?_
  refine z_icmp_ge (t := 58) C dX4_add_6 (by decide) (by omega) (by omega) (fun c1 => ?_) (fun c1 => ?_)
  · skip
    omega
  · skip
    refine z_aloadn C 1 dX4_add_9 rfl rfl ?_
    refine z_iconst C dX4_add_10 ?_
    refine z_aloadn C 0 dX4_add_11 rfl rfl ?_
    refine z_get C 6 (by decide) rfl rfl z_it4 1 (by decide) rfl fl_4_9 rfl dX4_add_12 ?_
    refine z_aloadn C 0 dX4_add_15 rfl rfl ?_
    refine z_get C 6 (by decide) rfl rfl z_it4 0 (by decide) rfl fl_4_18 rfl dX4_add_16 ?_
    refine z_bipush C dX4_add_19 (by decide) ?_
    refine z_imul C dX4_add_21 ?_
    refine z_bipush C dX4_add_22 (by decide) ?_
    refine z_copy C 9 7 (by decide) (by decide) rfl rfl mc_4_30 (by omega) (by omega) (by omega) (by omega) (by omega) (by decide) (by decide) (by omega) (by rw [hRl]; exact Nat.le_of_ble_eq_true rfl) dX4_add_24 ?_
    refine z_ext (S' := (z_zc ad ks s_edgeCount s_moveCount s_isNeeded s_timesDone s_size s_isGoing s_allTime s_stepCount s_gapCount g_edges g_moves g_limits (va_cpy a_facts a_sfacts (0 : Int).toNat ((s_size * 7) : Int).toNat (7 : Int).toNat) a_sbounds a_facts a_zone a_most a_places a_amounts a_nextPlaces a_nextAmounts a_earliest a_visited a_lastSet a_gapFrom a_gapTo a_gapLeast a_askedPlaces a_askedAmounts)) upC_a_sfacts ?_
    have h2 : ∀ j, (j % 7 < 3 → 0 ≤ (va_cpy a_facts a_sfacts (0 : Int).toNat ((s_size * 7) : Int).toNat (7 : Int).toNat) j ∧ (va_cpy a_facts a_sfacts (0 : Int).toNat ((s_size * 7) : Int).toNat (7 : Int).toNat) j ≤ 5) ∧ (j % 7 = 3 → -1 ≤ (va_cpy a_facts a_sfacts (0 : Int).toNat ((s_size * 7) : Int).toNat (7 : Int).toNat) j ∧ (va_cpy a_facts a_sfacts (0 : Int).toNat ((s_size * 7) : Int).toNat (7 : Int).toNat) j ≤ 119) ∧ (j % 7 = 6 → 0 ≤ (va_cpy a_facts a_sfacts (0 : Int).toNat ((s_size * 7) : Int).toNat (7 : Int).toNat) j ∧ (va_cpy a_facts a_sfacts (0 : Int).toNat ((s_size * 7) : Int).toNat (7 : Int).toNat) j ≤ 40) ∧ z_rg ((va_cpy a_facts a_sfacts (0 : Int).toNat ((s_size * 7) : Int).toNat (7 : Int).toNat) j) := z_p7c Ha_facts Ha_sfacts (by omega)
    refine z_aloadn C 2 dX4_add_27 rfl rfl ?_
    refine z_get C 10 (by decide) rfl rfl z_it9 0 (by decide) rfl fl_4_36 rfl dX4_add_28 ?_
    refine z_iconst C dX4_add_31 ?_
    refine z_aloadn C 0 dX4_add_32 rfl rfl ?_
    refine z_get C 6 (by decide) rfl rfl z_it4 2 (by decide) rfl fl_4_15 rfl dX4_add_33 ?_
    refine z_aloadn C 0 dX4_add_36 rfl rfl ?_
    refine z_get C 6 (by decide) rfl rfl z_it4 0 (by decide) rfl fl_4_18 rfl dX4_add_37 ?_
    refine z_bipush C dX4_add_40 (by decide) ?_
    refine z_imul C dX4_add_42 ?_
    refine z_bipush C dX4_add_43 (by decide) ?_
    refine z_copy C 11 8 (by decide) (by decide) rfl rfl mc_4_30 (by omega) (by omega) (by omega) (by omega) (by omega) (by decide) (by decide) (by omega) (by rw [hRl]; exact Nat.le_of_ble_eq_true rfl) dX4_add_45 ?_
    refine z_ext (S' := (z_zc ad ks s_edgeCount s_moveCount s_isNeeded s_timesDone s_size s_isGoing s_allTime s_stepCount s_gapCount g_edges g_moves g_limits (va_cpy a_facts a_sfacts (0 : Int).toNat ((s_size * 7) : Int).toNat (7 : Int).toNat) (va_cpy a_zone a_sbounds (0 : Int).toNat ((s_size * 16) : Int).toNat (16 : Int).toNat) a_facts a_zone a_most a_places a_amounts a_nextPlaces a_nextAmounts a_earliest a_visited a_lastSet a_gapFrom a_gapTo a_gapLeast a_askedPlaces a_askedAmounts)) upC_a_sbounds ?_
    have h3 : ∀ j, z_rg ((va_cpy a_zone a_sbounds (0 : Int).toNat ((s_size * 16) : Int).toNat (16 : Int).toNat) j) := z_cpyP (P := fun v => z_rg (v)) Ha_zone Ha_sbounds
    generalize (va_cpy a_zone a_sbounds (0 : Int).toNat ((s_size * 16) : Int).toNat (16 : Int).toNat) = f4 at h3 ⊢
    refine z_aloadn C 0 dX4_add_48 rfl rfl ?_
    refine z_dup C dX4_add_49 rfl ?_
    refine z_get C 6 (by decide) rfl rfl z_it4 0 (by decide) rfl fl_4_18 rfl dX4_add_50 ?_
    refine z_iconst C dX4_add_53 ?_
    refine z_iadd C dX4_add_54 ?_
    refine z_put C 6 (by decide) rfl rfl z_it4 tyX4 tyX4_ok nmX4 0 (by decide) rfl (Or.inl rfl) fl_4_18 z_pfI rfl rfl (Nat.le_of_ble_eq_true rfl) dX4_add_55 ?_
    refine z_ext (S' := (z_zc ad ks s_edgeCount s_moveCount s_isNeeded s_timesDone (s_size + 1) s_isGoing s_allTime s_stepCount s_gapCount g_edges g_moves g_limits (va_cpy a_facts a_sfacts (0 : Int).toNat ((s_size * 7) : Int).toNat (7 : Int).toNat) f4 a_facts a_zone a_most a_places a_amounts a_nextPlaces a_nextAmounts a_earliest a_visited a_lastSet a_gapFrom a_gapTo a_gapLeast a_askedPlaces a_askedAmounts)) upC_s_size ?_
    rw [hQ]
    exact z_vret C hrt dX4_add_58 (⟨(va_cpy a_facts a_sfacts (0 : Int).toNat ((s_size * 7) : Int).toNat (7 : Int).toNat), f4, rfl, rfl, h2, h3, z_cc_add hcc (by omega) hc, fun j hj => pk_cpy_out (Or.inl (by omega)), rfl⟩) (by omega) (by omega)
set_option maxRecDepth 20000 in
theorem cm_X4_copyFacts (l : Launch) {D : va_G} {A : Nat → Prop} {ad : Nat → Nat} {ks : z_Ks} {s_edgeCount s_moveCount s_isNeeded s_timesDone s_size s_isGoing s_allTime s_stepCount s_gapCount : Int} {g_edges g_moves g_limits : Nat → Option Nat} {a_sfacts a_sbounds a_facts a_zone a_most a_places a_amounts a_nextPlaces a_nextAmounts a_earliest a_visited a_lastSet a_gapFrom a_gapTo a_gapLeast a_askedPlaces a_askedAmounts : Nat → Int} {Y : Nat → Option va_E} (i0 : Int) (Ha_sfacts : (∀ j, (j % 7 < 3 → 0 ≤ a_sfacts j ∧ a_sfacts j ≤ 5) ∧ (j % 7 = 3 → -1 ≤ a_sfacts j ∧ a_sfacts j ≤ 119) ∧ (j % 7 = 6 → 0 ≤ a_sfacts j ∧ a_sfacts j ≤ 40) ∧ z_rg (a_sfacts j))) (Ha_facts : (∀ j, (j % 7 < 3 → 0 ≤ a_facts j ∧ a_facts j ≤ 5) ∧ (j % 7 = 3 → -1 ≤ a_facts j ∧ a_facts j ≤ 119) ∧ (j % 7 = 6 → 0 ≤ a_facts j ∧ a_facts j ≤ 40) ∧ z_rg (a_facts j))) (hi : 0 ≤ i0 ∧ i0 ≤ 119) : z_Met l yX4_copyFacts cX4_copyFacts 3 none 1 40 0 0 D A 27 ad ks [.ref (ad 6), z_v i0, .ref (ad 9)] (z_zc ad ks s_edgeCount s_moveCount s_isNeeded s_timesDone s_size s_isGoing s_allTime s_stepCount s_gapCount g_edges g_moves g_limits a_sfacts a_sbounds a_facts a_zone a_most a_places a_amounts a_nextPlaces a_nextAmounts a_earliest a_visited a_lastSet a_gapFrom a_gapTo a_gapLeast a_askedPlaces a_askedAmounts) Y (fun r S' Y' => ∃ na_facts : Nat → Int, S' = (z_zc ad ks s_edgeCount s_moveCount s_isNeeded s_timesDone s_size s_isGoing s_allTime s_stepCount s_gapCount g_edges g_moves g_limits a_sfacts a_sbounds na_facts a_zone a_most a_places a_amounts a_nextPlaces a_nextAmounts a_earliest a_visited a_lastSet a_gapFrom a_gapTo a_gapLeast a_askedPlaces a_askedAmounts) ∧ Y = Y' ∧ (∀ j, (j % 7 < 3 → 0 ≤ na_facts j ∧ na_facts j ≤ 5) ∧ (j % 7 = 3 → -1 ≤ na_facts j ∧ na_facts j ≤ 119) ∧ (j % 7 = 6 → 0 ≤ na_facts j ∧ na_facts j ≤ 40) ∧ z_rg (na_facts j)) ∧ (∀ j : Nat, j < 7 → na_facts j = a_sfacts ((i0 * 7 : Int).toNat + j)) ∧ r = none) := by
  refine z_start2 (by decide) (Nat.le_of_ble_eq_true rfl) ?_
  intro p e R s m args below meth c Q C hRf hRc hRs hRl hQ hrt hnm
  refine z_loc (L' := [(0, .ref (ad 6)), (1, z_v i0), (2, .ref (ad 9))]) [0, 1, 2] rfl ?_
  refine z_aloadn C 0 dX4_copyFacts_0 rfl rfl ?_
  refine z_get C 6 (by decide) rfl rfl z_it4 1 (by decide) rfl fl_4_9 rfl dX4_copyFacts_1 ?_
  refine z_iloadn C 1 dX4_copyFacts_4 rfl rfl ?_
  refine z_bipush C dX4_copyFacts_5 (by decide) ?_
  refine z_imul C dX4_copyFacts_7 ?_
  refine z_aloadn C 2 dX4_copyFacts_8 rfl rfl ?_
  refine z_iconst C dX4_copyFacts_9 ?_
  refine z_bipush C dX4_copyFacts_10 (by decide) ?_
  refine z_copy C 7 9 (by decide) (by decide) rfl rfl mc_4_30 (by omega) (by omega) (by omega) (by omega) (by omega) (by decide) (by decide) (by omega) (by rw [hRl]; exact Nat.le_of_ble_eq_true rfl) dX4_copyFacts_12 ?_
  refine z_ext (S' := (z_zc ad ks s_edgeCount s_moveCount s_isNeeded s_timesDone s_size s_isGoing s_allTime s_stepCount s_gapCount g_edges g_moves g_limits a_sfacts a_sbounds (va_cpy a_sfacts a_facts ((i0 * 7) : Int).toNat (0 : Int).toNat (7 : Int).toNat) a_zone a_most a_places a_amounts a_nextPlaces a_nextAmounts a_earliest a_visited a_lastSet a_gapFrom a_gapTo a_gapLeast a_askedPlaces a_askedAmounts)) upC_a_facts ?_
  have h1 : ∀ j, (j % 7 < 3 → 0 ≤ (va_cpy a_sfacts a_facts ((i0 * 7) : Int).toNat (0 : Int).toNat (7 : Int).toNat) j ∧ (va_cpy a_sfacts a_facts ((i0 * 7) : Int).toNat (0 : Int).toNat (7 : Int).toNat) j ≤ 5) ∧ (j % 7 = 3 → -1 ≤ (va_cpy a_sfacts a_facts ((i0 * 7) : Int).toNat (0 : Int).toNat (7 : Int).toNat) j ∧ (va_cpy a_sfacts a_facts ((i0 * 7) : Int).toNat (0 : Int).toNat (7 : Int).toNat) j ≤ 119) ∧ (j % 7 = 6 → 0 ≤ (va_cpy a_sfacts a_facts ((i0 * 7) : Int).toNat (0 : Int).toNat (7 : Int).toNat) j ∧ (va_cpy a_sfacts a_facts ((i0 * 7) : Int).toNat (0 : Int).toNat (7 : Int).toNat) j ≤ 40) ∧ z_rg ((va_cpy a_sfacts a_facts ((i0 * 7) : Int).toNat (0 : Int).toNat (7 : Int).toNat) j) := z_p7c Ha_sfacts Ha_facts (by omega)
  rw [hQ]
  exact z_vret C hrt dX4_copyFacts_15 (⟨(va_cpy a_sfacts a_facts ((i0 * 7) : Int).toNat (0 : Int).toNat (7 : Int).toNat), rfl, rfl, h1, fun j hj => pk_cpy_in (Nat.zero_le _) (by omega), rfl⟩) (by omega) (by omega)
set_option maxRecDepth 20000 in
theorem cm_X4_copyZone (l : Launch) {D : va_G} {A : Nat → Prop} {ad : Nat → Nat} {ks : z_Ks} {s_edgeCount s_moveCount s_isNeeded s_timesDone s_size s_isGoing s_allTime s_stepCount s_gapCount : Int} {g_edges g_moves g_limits : Nat → Option Nat} {a_sfacts a_sbounds a_facts a_zone a_most a_places a_amounts a_nextPlaces a_nextAmounts a_earliest a_visited a_lastSet a_gapFrom a_gapTo a_gapLeast a_askedPlaces a_askedAmounts : Nat → Int} {Y : Nat → Option va_E} (i0 : Int) (Ha_sbounds : (∀ j, z_rg (a_sbounds j))) (Ha_zone : (∀ j, z_rg (a_zone j))) (hi : 0 ≤ i0 ∧ i0 ≤ 119) : z_Met l yX4_copyZone cX4_copyZone 3 none 1 40 0 0 D A 27 ad ks [.ref (ad 6), z_v i0, .ref (ad 10)] (z_zc ad ks s_edgeCount s_moveCount s_isNeeded s_timesDone s_size s_isGoing s_allTime s_stepCount s_gapCount g_edges g_moves g_limits a_sfacts a_sbounds a_facts a_zone a_most a_places a_amounts a_nextPlaces a_nextAmounts a_earliest a_visited a_lastSet a_gapFrom a_gapTo a_gapLeast a_askedPlaces a_askedAmounts) Y (fun r S' Y' => ∃ na_zone : Nat → Int, S' = (z_zc ad ks s_edgeCount s_moveCount s_isNeeded s_timesDone s_size s_isGoing s_allTime s_stepCount s_gapCount g_edges g_moves g_limits a_sfacts a_sbounds a_facts na_zone a_most a_places a_amounts a_nextPlaces a_nextAmounts a_earliest a_visited a_lastSet a_gapFrom a_gapTo a_gapLeast a_askedPlaces a_askedAmounts) ∧ Y = Y' ∧ (∀ j, z_rg (na_zone j)) ∧ r = none) := by
  refine z_start2 (by decide) (Nat.le_of_ble_eq_true rfl) ?_
  intro p e R s m args below meth c Q C hRf hRc hRs hRl hQ hrt hnm
  refine z_loc (L' := [(0, .ref (ad 6)), (1, z_v i0), (2, .ref (ad 10))]) [0, 1, 2] rfl ?_
  refine z_aloadn C 0 dX4_copyZone_0 rfl rfl ?_
  refine z_get C 6 (by decide) rfl rfl z_it4 2 (by decide) rfl fl_4_15 rfl dX4_copyZone_1 ?_
  refine z_iloadn C 1 dX4_copyZone_4 rfl rfl ?_
  refine z_bipush C dX4_copyZone_5 (by decide) ?_
  refine z_imul C dX4_copyZone_7 ?_
  refine z_aloadn C 2 dX4_copyZone_8 rfl rfl ?_
  refine z_get C 10 (by decide) rfl rfl z_it9 0 (by decide) rfl fl_4_36 rfl dX4_copyZone_9 ?_
  refine z_iconst C dX4_copyZone_12 ?_
  refine z_bipush C dX4_copyZone_13 (by decide) ?_
  refine z_copy C 8 11 (by decide) (by decide) rfl rfl mc_4_30 (by omega) (by omega) (by omega) (by omega) (by omega) (by decide) (by decide) (by omega) (by rw [hRl]; exact Nat.le_of_ble_eq_true rfl) dX4_copyZone_15 ?_
  refine z_ext (S' := (z_zc ad ks s_edgeCount s_moveCount s_isNeeded s_timesDone s_size s_isGoing s_allTime s_stepCount s_gapCount g_edges g_moves g_limits a_sfacts a_sbounds a_facts (va_cpy a_sbounds a_zone ((i0 * 16) : Int).toNat (0 : Int).toNat (16 : Int).toNat) a_most a_places a_amounts a_nextPlaces a_nextAmounts a_earliest a_visited a_lastSet a_gapFrom a_gapTo a_gapLeast a_askedPlaces a_askedAmounts)) upC_a_zone ?_
  have h1 : ∀ j, z_rg ((va_cpy a_sbounds a_zone ((i0 * 16) : Int).toNat (0 : Int).toNat (16 : Int).toNat) j) := z_cpyP (P := fun v => z_rg (v)) Ha_sbounds Ha_zone
  generalize (va_cpy a_sbounds a_zone ((i0 * 16) : Int).toNat (0 : Int).toNat (16 : Int).toNat) = f2 at h1 ⊢
  rw [hQ]
  exact z_vret C hrt dX4_copyZone_18 (⟨f2, rfl, rfl, h1, rfl⟩) (by omega) (by omega)
set_option maxRecDepth 20000 in
theorem cm_X4_onWay (l : Launch) {D : va_G} {A : Nat → Prop} {ad : Nat → Nat} {ks : z_Ks} {s_edgeCount s_moveCount s_isNeeded s_timesDone s_size s_isGoing s_allTime s_stepCount s_gapCount : Int} {g_edges g_moves g_limits : Nat → Option Nat} {a_sfacts a_sbounds a_facts a_zone a_most a_places a_amounts a_nextPlaces a_nextAmounts a_earliest a_visited a_lastSet a_gapFrom a_gapTo a_gapLeast a_askedPlaces a_askedAmounts : Nat → Int} {Y : Nat → Option va_E} (i0 k0 : Int) (Hs_size : (0 ≤ s_size ∧ s_size ≤ 120)) (Ha_sfacts : (∀ j, (j % 7 < 3 → 0 ≤ a_sfacts j ∧ a_sfacts j ≤ 5) ∧ (j % 7 = 3 → -1 ≤ a_sfacts j ∧ a_sfacts j ≤ 119) ∧ (j % 7 = 6 → 0 ≤ a_sfacts j ∧ a_sfacts j ≤ 40) ∧ z_rg (a_sfacts j))) (hi : 0 ≤ i0 ∧ i0 < s_size) (hk : 0 ≤ k0 ∧ k0 < a_sfacts (i0 * 7 + 6 : Int).toNat) (hcc : z_cc s_size a_sfacts) : z_Met l yX4_onWay cX4_onWay 5 (some .int) 1 22 0 0 D A 27 ad ks [.ref (ad 6), z_v i0, z_v k0] (z_zc ad ks s_edgeCount s_moveCount s_isNeeded s_timesDone s_size s_isGoing s_allTime s_stepCount s_gapCount g_edges g_moves g_limits a_sfacts a_sbounds a_facts a_zone a_most a_places a_amounts a_nextPlaces a_nextAmounts a_earliest a_visited a_lastSet a_gapFrom a_gapTo a_gapLeast a_askedPlaces a_askedAmounts) Y (fun r S' Y' => S' = (z_zc ad ks s_edgeCount s_moveCount s_isNeeded s_timesDone s_size s_isGoing s_allTime s_stepCount s_gapCount g_edges g_moves g_limits a_sfacts a_sbounds a_facts a_zone a_most a_places a_amounts a_nextPlaces a_nextAmounts a_earliest a_visited a_lastSet a_gapFrom a_gapTo a_gapLeast a_askedPlaces a_askedAmounts) ∧ Y = Y' ∧ ∃ z : Int, r = some (z_v z) ∧ (0 ≤ z ∧ z < s_size)) := by
  refine z_start2 (by decide) (Nat.le_of_ble_eq_true rfl) ?_
  intro p e R s m args below meth c Q C hRf hRc hRs hRl hQ hrt hnm
  refine z_loc (L' := [(0, .ref (ad 6)), (1, z_v i0), (2, z_v k0)]) [0, 1, 2] rfl ?_
  refine z_iloadn C 1 dX4_onWay_0 rfl rfl ?_
  refine z_istoren (L' := [(3, z_v i0), (0, .ref (ad 6)), (1, z_v i0), (2, z_v k0)]) C dX4_onWay_1 rfl (by decide) rfl ?_
  refine z_aloadn C 1 dX4_onWay_2 rfl rfl ?_
  refine z_iloadn C 2 dX4_onWay_3 rfl rfl ?_
  refine z_bipush C dX4_onWay_4 (by decide) ?_
  refine z_callV C (cm_X4_fact l i0 6 Ha_sfacts (by omega) (by omega)) mv_4_26 (z_atS 6 4 (by decide) rfl rfl rfl) pd_X4_fact ⟨by omega, by omega⟩ ⟨by omega, by omega⟩ rfl (Nat.le_of_ble_eq_true rfl) dX4_onWay_6 ?_
  rintro _ _ _ ⟨rfl, rfl, z3, rfl, hz3⟩
  have qs := hz3.1
  refine z_iconst C dX4_onWay_9 ?_
  refine z_isub C dX4_onWay_10 ?_
  refine z_istore (L' := [(4, z_v (z3 - 1)), (3, z_v i0), (0, .ref (ad 6)), (1, z_v i0), (2, z_v k0)]) C dX4_onWay_11 (by decide) rfl ?_
  have L13 : ∀ (n : Nat), ∀ (i3 : Int) (i4 : Int), (k0 ≤ i4 ∧ i4 ≤ 39) → (0 ≤ i3 ∧ i3 < s_size) → (a_sfacts (i3 * 7 + 6 : Int).toNat = i4 + 1) → (i4 - k0).toNat < n → z_V p l e R s m args below meth c Q D A 27 ad 5 (z_zc ad ks s_edgeCount s_moveCount s_isNeeded s_timesDone s_size s_isGoing s_allTime s_stepCount s_gapCount g_edges g_moves g_limits a_sfacts a_sbounds a_facts a_zone a_most a_places a_amounts a_nextPlaces a_nextAmounts a_earliest a_visited a_lastSet a_gapFrom a_gapTo a_gapLeast a_askedPlaces a_askedAmounts) Y 0 0 13 [(0, .ref (ad 6)), (2, z_v k0), (3, z_v i3), (4, z_v i4)] [] := by
    intro n
    induction n with
    | zero => intro i3 i4 I4 I3 J hm; exact absurd hm (Nat.not_lt_zero _)
    | succ n ih13 =>
      intro i3 i4 I4 I3 J hm
      refine z_iload C 3 dX4_onWay_13 rfl ?_
      refine z_iloadn C 1 dX4_onWay_15 rfl rfl ?_
      refine z_icmp_le (t := 32) C dX4_onWay_16 (by decide) (by omega) (by omega) (fun c4 => ?_) (fun c4 => ?_)
      · skip
        refine z_iloadn C 2 dX4_onWay_32 rfl rfl ?_
        rw [hQ]
        exact z_iret C hrt dX4_onWay_33 (⟨rfl, rfl, _, rfl, by omega⟩) (by omega) (by omega)
      · skip
        refine z_aloadn C 0 dX4_onWay_19 rfl rfl ?_
        refine z_iloadn C 2 dX4_onWay_20 rfl rfl ?_
        refine z_iconst C dX4_onWay_21 ?_
        refine z_callV C (cm_X4_fact l i3 3 Ha_sfacts (by omega) (by omega)) mv_4_26 (z_atS 6 4 (by decide) rfl rfl rfl) pd_X4_fact ⟨by omega, by omega⟩ ⟨by omega, by omega⟩ rfl (Nat.le_of_ble_eq_true rfl) dX4_onWay_22 ?_
        rintro _ _ _ ⟨rfl, rfl, z7, rfl, hz7⟩
        have qf := hz7.1
        refine z_istoren (L' := [(3, z_v z7), (0, .ref (ad 6)), (2, z_v k0), (4, z_v i4)]) C dX4_onWay_25 rfl (by decide) rfl ?_
        refine z_iinc (L' := [(4, z_v (i4 + (-1))), (3, z_v z7), (0, .ref (ad 6)), (2, z_v k0)]) C 3 dX4_onWay_26 rfl (by decide) rfl ?_
        refine z_goto (t := 13) C dX4_onWay_29 (by decide) ?_
        refine z_loc (L' := [(0, .ref (ad 6)), (2, z_v k0), (3, z_v z7), (4, z_v (i4 + (-1)))]) [2, 3, 1, 0] rfl ?_
        exact ih13 z7 (i4 + (-1)) (by omega) ((z_cc_at hcc I3 J (by omega) qf).1) ((z_cc_at hcc I3 J (by omega) qf).2) (by omega)
  refine z_loc (L' := [(0, .ref (ad 6)), (2, z_v k0), (3, z_v i0), (4, z_v (z3 - 1))]) [2, 4, 1, 0] rfl ?_
  exact (L13 (((z3 - 1) - k0).toNat + 1)) i0 (z3 - 1) (by omega) (by omega) (by omega) (Nat.lt_succ_self _)
set_option maxRecDepth 20000 in
theorem cm_X4_isAt_9 (l : Launch) {D : va_G} {A : Nat → Prop} {ad : Nat → Nat} {ks : z_Ks} {s_edgeCount s_moveCount s_isNeeded s_timesDone s_size s_isGoing s_allTime s_stepCount s_gapCount : Int} {g_edges g_moves g_limits : Nat → Option Nat} {a_sfacts a_sbounds a_facts a_zone a_most a_places a_amounts a_nextPlaces a_nextAmounts a_earliest a_visited a_lastSet a_gapFrom a_gapTo a_gapLeast a_askedPlaces a_askedAmounts : Nat → Int} {Y : Nat → Option va_E} (i0 : Int) (Ha_sfacts : (∀ j, (j % 7 < 3 → 0 ≤ a_sfacts j ∧ a_sfacts j ≤ 5) ∧ (j % 7 = 3 → -1 ≤ a_sfacts j ∧ a_sfacts j ≤ 119) ∧ (j % 7 = 6 → 0 ≤ a_sfacts j ∧ a_sfacts j ≤ 40) ∧ z_rg (a_sfacts j))) (Ha_facts : (∀ j, (j % 7 < 3 → 0 ≤ a_facts j ∧ a_facts j ≤ 5) ∧ (j % 7 = 3 → -1 ≤ a_facts j ∧ a_facts j ≤ 119) ∧ (j % 7 = 6 → 0 ≤ a_facts j ∧ a_facts j ≤ 40) ∧ z_rg (a_facts j))) (hi : 0 ≤ i0 ∧ i0 ≤ 119) : z_Met l yX4_isAt cX4_isAt 4 (some .boolean) 1 22 0 0 D A 27 ad ks [.ref (ad 6), z_v i0, .ref (ad 9)] (z_zc ad ks s_edgeCount s_moveCount s_isNeeded s_timesDone s_size s_isGoing s_allTime s_stepCount s_gapCount g_edges g_moves g_limits a_sfacts a_sbounds a_facts a_zone a_most a_places a_amounts a_nextPlaces a_nextAmounts a_earliest a_visited a_lastSet a_gapFrom a_gapTo a_gapLeast a_askedPlaces a_askedAmounts) Y (fun r S' Y' => S' = (z_zc ad ks s_edgeCount s_moveCount s_isNeeded s_timesDone s_size s_isGoing s_allTime s_stepCount s_gapCount g_edges g_moves g_limits a_sfacts a_sbounds a_facts a_zone a_most a_places a_amounts a_nextPlaces a_nextAmounts a_earliest a_visited a_lastSet a_gapFrom a_gapTo a_gapLeast a_askedPlaces a_askedAmounts) ∧ Y = Y' ∧ ∃ z : Int, r = some (z_v z) ∧ (z = 0 ∨ z = 1)) := by
  refine z_start2 (by decide) (Nat.le_of_ble_eq_true rfl) ?_
  intro p e R s m args below meth c Q C hRf hRc hRs hRl hQ hrt hnm
  refine z_loc (L' := [(0, .ref (ad 6)), (1, z_v i0), (2, .ref (ad 9))]) [0, 1, 2] rfl ?_
  refine z_iconst C dX4_isAt_0 ?_
  refine z_istoren (L' := [(3, z_v 0), (0, .ref (ad 6)), (1, z_v i0), (2, .ref (ad 9))]) C dX4_isAt_1 rfl (by decide) rfl ?_
  have L2 : ∀ (n : Nat), ∀ (i3 : Int), (0 ≤ i3 ∧ i3 ≤ 3) → ((3 : Int) - i3).toNat < n → z_V p l e R s m args below meth c Q D A 27 ad 4 (z_zc ad ks s_edgeCount s_moveCount s_isNeeded s_timesDone s_size s_isGoing s_allTime s_stepCount s_gapCount g_edges g_moves g_limits a_sfacts a_sbounds a_facts a_zone a_most a_places a_amounts a_nextPlaces a_nextAmounts a_earliest a_visited a_lastSet a_gapFrom a_gapTo a_gapLeast a_askedPlaces a_askedAmounts) Y 0 0 2 [(0, .ref (ad 6)), (1, z_v i0), (2, .ref (ad 9)), (3, z_v i3)] [] := by
    intro n
    induction n with
    | zero => intro i3 I3 hm; exact absurd hm (Nat.not_lt_zero _)
    | succ n ih2 =>
      intro i3 I3 hm
      refine z_iloadn C 3 dX4_isAt_2 rfl rfl ?_
      refine z_iconst C dX4_isAt_3 ?_
      refine z_icmp_ge (t := 34) C dX4_isAt_4 (by decide) (by omega) (by omega) (fun c1 => ?_) (fun c1 => ?_)
      · skip
        refine z_iconst C dX4_isAt_34 ?_
        rw [hQ]
        exact z_zret C hrt (by omega) dX4_isAt_35 (⟨rfl, rfl, _, rfl, by omega⟩) (by omega) (by omega)
      · skip
        refine z_aloadn C 2 dX4_isAt_7 rfl rfl ?_
        refine z_iloadn C 3 dX4_isAt_8 rfl rfl ?_
        refine z_iald C 9 (by decide) rfl (by decide) (by omega) (by omega) dX4_isAt_9 ?_
        have rx2 := Ha_facts (i3 : Int).toNat
        generalize ex2 : a_facts (i3 : Int).toNat = x2 at rx2 ⊢
        refine z_iconst C dX4_isAt_10 ?_
        refine z_icmp_eq (t := 28) C dX4_isAt_11 (by decide) (by omega) (by omega) (fun c3 => ?_) (fun c3 => ?_)
        · skip
          refine z_iinc (L' := [(3, z_v (i3 + 1)), (0, .ref (ad 6)), (1, z_v i0), (2, .ref (ad 9))]) C 3 dX4_isAt_28 rfl (by decide) rfl ?_
          refine z_goto (t := 2) C dX4_isAt_31 (by decide) ?_
          refine z_loc (L' := [(0, .ref (ad 6)), (1, z_v i0), (2, .ref (ad 9)), (3, z_v (i3 + 1))]) [1, 2, 3, 0] rfl ?_
          exact ih2 (i3 + 1) (by omega) (by omega)
        · skip
          refine z_aloadn C 2 dX4_isAt_14 rfl rfl ?_
          refine z_iloadn C 3 dX4_isAt_15 rfl rfl ?_
          refine z_iald C 9 (by decide) rfl (by decide) (by omega) (by omega) dX4_isAt_16 ?_
          rw [ex2]
          refine z_aloadn C 0 dX4_isAt_17 rfl rfl ?_
          refine z_iloadn C 1 dX4_isAt_18 rfl rfl ?_
          refine z_iloadn C 3 dX4_isAt_19 rfl rfl ?_
          refine z_callV C (cm_X4_fact l i0 i3 Ha_sfacts (by omega) (by omega)) mv_4_26 (z_atS 6 4 (by decide) rfl rfl rfl) pd_X4_fact ⟨by omega, by omega⟩ ⟨by omega, by omega⟩ rfl (Nat.le_of_ble_eq_true rfl) dX4_isAt_20 ?_
          rintro _ _ _ ⟨rfl, rfl, z6, rfl, hz6⟩
          refine z_icmp_eq (t := 28) C dX4_isAt_23 (by decide) (by omega) (by omega) (fun c7 => ?_) (fun c7 => ?_)
          · skip
            refine z_iinc (L' := [(3, z_v (i3 + 1)), (0, .ref (ad 6)), (1, z_v i0), (2, .ref (ad 9))]) C 3 dX4_isAt_28 rfl (by decide) rfl ?_
            refine z_goto (t := 2) C dX4_isAt_31 (by decide) ?_
            refine z_loc (L' := [(0, .ref (ad 6)), (1, z_v i0), (2, .ref (ad 9)), (3, z_v (i3 + 1))]) [1, 2, 3, 0] rfl ?_
            exact ih2 (i3 + 1) (by omega) (by omega)
          · skip
            refine z_iconst C dX4_isAt_26 ?_
            rw [hQ]
            exact z_zret C hrt (by omega) dX4_isAt_27 (⟨rfl, rfl, _, rfl, by omega⟩) (by omega) (by omega)
  refine z_loc (L' := [(0, .ref (ad 6)), (1, z_v i0), (2, .ref (ad 9)), (3, z_v 0)]) [1, 2, 3, 0] rfl ?_
  exact (L2 (((3 : Int) - 0).toNat + 1)) 0 (by omega) (Nat.lt_succ_self _)
set_option maxRecDepth 20000 in
theorem cm_X4_isAt_14 (l : Launch) {D : va_G} {A : Nat → Prop} {ad : Nat → Nat} {ks : z_Ks} {s_edgeCount s_moveCount s_isNeeded s_timesDone s_size s_isGoing s_allTime s_stepCount s_gapCount : Int} {g_edges g_moves g_limits : Nat → Option Nat} {a_sfacts a_sbounds a_facts a_zone a_most a_places a_amounts a_nextPlaces a_nextAmounts a_earliest a_visited a_lastSet a_gapFrom a_gapTo a_gapLeast a_askedPlaces a_askedAmounts : Nat → Int} {Y : Nat → Option va_E} (i0 : Int) (Ha_sfacts : (∀ j, (j % 7 < 3 → 0 ≤ a_sfacts j ∧ a_sfacts j ≤ 5) ∧ (j % 7 = 3 → -1 ≤ a_sfacts j ∧ a_sfacts j ≤ 119) ∧ (j % 7 = 6 → 0 ≤ a_sfacts j ∧ a_sfacts j ≤ 40) ∧ z_rg (a_sfacts j))) (Ha_places : (∀ j, 0 ≤ a_places j ∧ a_places j ≤ 5)) (hi : 0 ≤ i0 ∧ i0 ≤ 119) : z_Met l yX4_isAt cX4_isAt 4 (some .boolean) 1 22 0 0 D A 27 ad ks [.ref (ad 6), z_v i0, .ref (ad 14)] (z_zc ad ks s_edgeCount s_moveCount s_isNeeded s_timesDone s_size s_isGoing s_allTime s_stepCount s_gapCount g_edges g_moves g_limits a_sfacts a_sbounds a_facts a_zone a_most a_places a_amounts a_nextPlaces a_nextAmounts a_earliest a_visited a_lastSet a_gapFrom a_gapTo a_gapLeast a_askedPlaces a_askedAmounts) Y (fun r S' Y' => S' = (z_zc ad ks s_edgeCount s_moveCount s_isNeeded s_timesDone s_size s_isGoing s_allTime s_stepCount s_gapCount g_edges g_moves g_limits a_sfacts a_sbounds a_facts a_zone a_most a_places a_amounts a_nextPlaces a_nextAmounts a_earliest a_visited a_lastSet a_gapFrom a_gapTo a_gapLeast a_askedPlaces a_askedAmounts) ∧ Y = Y' ∧ ∃ z : Int, r = some (z_v z) ∧ (z = 0 ∨ z = 1)) := by
  refine z_start2 (by decide) (Nat.le_of_ble_eq_true rfl) ?_
  intro p e R s m args below meth c Q C hRf hRc hRs hRl hQ hrt hnm
  refine z_loc (L' := [(0, .ref (ad 6)), (1, z_v i0), (2, .ref (ad 14))]) [0, 1, 2] rfl ?_
  refine z_iconst C dX4_isAt_0 ?_
  refine z_istoren (L' := [(3, z_v 0), (0, .ref (ad 6)), (1, z_v i0), (2, .ref (ad 14))]) C dX4_isAt_1 rfl (by decide) rfl ?_
  have L2 : ∀ (n : Nat), ∀ (i3 : Int), (0 ≤ i3 ∧ i3 ≤ 3) → ((3 : Int) - i3).toNat < n → z_V p l e R s m args below meth c Q D A 27 ad 4 (z_zc ad ks s_edgeCount s_moveCount s_isNeeded s_timesDone s_size s_isGoing s_allTime s_stepCount s_gapCount g_edges g_moves g_limits a_sfacts a_sbounds a_facts a_zone a_most a_places a_amounts a_nextPlaces a_nextAmounts a_earliest a_visited a_lastSet a_gapFrom a_gapTo a_gapLeast a_askedPlaces a_askedAmounts) Y 0 0 2 [(0, .ref (ad 6)), (1, z_v i0), (2, .ref (ad 14)), (3, z_v i3)] [] := by
    intro n
    induction n with
    | zero => intro i3 I3 hm; exact absurd hm (Nat.not_lt_zero _)
    | succ n ih2 =>
      intro i3 I3 hm
      refine z_iloadn C 3 dX4_isAt_2 rfl rfl ?_
      refine z_iconst C dX4_isAt_3 ?_
      refine z_icmp_ge (t := 34) C dX4_isAt_4 (by decide) (by omega) (by omega) (fun c1 => ?_) (fun c1 => ?_)
      · skip
        refine z_iconst C dX4_isAt_34 ?_
        rw [hQ]
        exact z_zret C hrt (by omega) dX4_isAt_35 (⟨rfl, rfl, _, rfl, by omega⟩) (by omega) (by omega)
      · skip
        refine z_aloadn C 2 dX4_isAt_7 rfl rfl ?_
        refine z_iloadn C 3 dX4_isAt_8 rfl rfl ?_
        refine z_iald C 14 (by decide) rfl (by decide) (by omega) (by omega) dX4_isAt_9 ?_
        have rx2 := Ha_places (i3 : Int).toNat
        generalize ex2 : a_places (i3 : Int).toNat = x2 at rx2 ⊢
        refine z_iconst C dX4_isAt_10 ?_
        refine z_icmp_eq (t := 28) C dX4_isAt_11 (by decide) (by omega) (by omega) (fun c3 => ?_) (fun c3 => ?_)
        · skip
          refine z_iinc (L' := [(3, z_v (i3 + 1)), (0, .ref (ad 6)), (1, z_v i0), (2, .ref (ad 14))]) C 3 dX4_isAt_28 rfl (by decide) rfl ?_
          refine z_goto (t := 2) C dX4_isAt_31 (by decide) ?_
          refine z_loc (L' := [(0, .ref (ad 6)), (1, z_v i0), (2, .ref (ad 14)), (3, z_v (i3 + 1))]) [1, 2, 3, 0] rfl ?_
          exact ih2 (i3 + 1) (by omega) (by omega)
        · skip
          refine z_aloadn C 2 dX4_isAt_14 rfl rfl ?_
          refine z_iloadn C 3 dX4_isAt_15 rfl rfl ?_
          refine z_iald C 14 (by decide) rfl (by decide) (by omega) (by omega) dX4_isAt_16 ?_
          rw [ex2]
          refine z_aloadn C 0 dX4_isAt_17 rfl rfl ?_
          refine z_iloadn C 1 dX4_isAt_18 rfl rfl ?_
          refine z_iloadn C 3 dX4_isAt_19 rfl rfl ?_
          refine z_callV C (cm_X4_fact l i0 i3 Ha_sfacts (by omega) (by omega)) mv_4_26 (z_atS 6 4 (by decide) rfl rfl rfl) pd_X4_fact ⟨by omega, by omega⟩ ⟨by omega, by omega⟩ rfl (Nat.le_of_ble_eq_true rfl) dX4_isAt_20 ?_
          rintro _ _ _ ⟨rfl, rfl, z6, rfl, hz6⟩
          refine z_icmp_eq (t := 28) C dX4_isAt_23 (by decide) (by omega) (by omega) (fun c7 => ?_) (fun c7 => ?_)
          · skip
            refine z_iinc (L' := [(3, z_v (i3 + 1)), (0, .ref (ad 6)), (1, z_v i0), (2, .ref (ad 14))]) C 3 dX4_isAt_28 rfl (by decide) rfl ?_
            refine z_goto (t := 2) C dX4_isAt_31 (by decide) ?_
            refine z_loc (L' := [(0, .ref (ad 6)), (1, z_v i0), (2, .ref (ad 14)), (3, z_v (i3 + 1))]) [1, 2, 3, 0] rfl ?_
            exact ih2 (i3 + 1) (by omega) (by omega)
          · skip
            refine z_iconst C dX4_isAt_26 ?_
            rw [hQ]
            exact z_zret C hrt (by omega) dX4_isAt_27 (⟨rfl, rfl, _, rfl, by omega⟩) (by omega) (by omega)
  refine z_loc (L' := [(0, .ref (ad 6)), (1, z_v i0), (2, .ref (ad 14)), (3, z_v 0)]) [1, 2, 3, 0] rfl ?_
  exact (L2 (((3 : Int) - 0).toNat + 1)) 0 (by omega) (Nat.lt_succ_self _)
set_option maxRecDepth 20000 in
theorem cm_X4_isAt_25 (l : Launch) {D : va_G} {A : Nat → Prop} {ad : Nat → Nat} {ks : z_Ks} {s_edgeCount s_moveCount s_isNeeded s_timesDone s_size s_isGoing s_allTime s_stepCount s_gapCount : Int} {g_edges g_moves g_limits : Nat → Option Nat} {a_sfacts a_sbounds a_facts a_zone a_most a_places a_amounts a_nextPlaces a_nextAmounts a_earliest a_visited a_lastSet a_gapFrom a_gapTo a_gapLeast a_askedPlaces a_askedAmounts : Nat → Int} {Y : Nat → Option va_E} (i0 : Int) (Ha_sfacts : (∀ j, (j % 7 < 3 → 0 ≤ a_sfacts j ∧ a_sfacts j ≤ 5) ∧ (j % 7 = 3 → -1 ≤ a_sfacts j ∧ a_sfacts j ≤ 119) ∧ (j % 7 = 6 → 0 ≤ a_sfacts j ∧ a_sfacts j ≤ 40) ∧ z_rg (a_sfacts j))) (Ha_askedPlaces : (∀ j, -1 ≤ a_askedPlaces j ∧ a_askedPlaces j ≤ 5)) (hi : 0 ≤ i0 ∧ i0 ≤ 119) : z_Met l yX4_isAt cX4_isAt 4 (some .boolean) 1 22 0 0 D A 27 ad ks [.ref (ad 6), z_v i0, .ref (ad 25)] (z_zc ad ks s_edgeCount s_moveCount s_isNeeded s_timesDone s_size s_isGoing s_allTime s_stepCount s_gapCount g_edges g_moves g_limits a_sfacts a_sbounds a_facts a_zone a_most a_places a_amounts a_nextPlaces a_nextAmounts a_earliest a_visited a_lastSet a_gapFrom a_gapTo a_gapLeast a_askedPlaces a_askedAmounts) Y (fun r S' Y' => S' = (z_zc ad ks s_edgeCount s_moveCount s_isNeeded s_timesDone s_size s_isGoing s_allTime s_stepCount s_gapCount g_edges g_moves g_limits a_sfacts a_sbounds a_facts a_zone a_most a_places a_amounts a_nextPlaces a_nextAmounts a_earliest a_visited a_lastSet a_gapFrom a_gapTo a_gapLeast a_askedPlaces a_askedAmounts) ∧ Y = Y' ∧ ∃ z : Int, r = some (z_v z) ∧ (z = 0 ∨ z = 1)) := by
  refine z_start2 (by decide) (Nat.le_of_ble_eq_true rfl) ?_
  intro p e R s m args below meth c Q C hRf hRc hRs hRl hQ hrt hnm
  refine z_loc (L' := [(0, .ref (ad 6)), (1, z_v i0), (2, .ref (ad 25))]) [0, 1, 2] rfl ?_
  refine z_iconst C dX4_isAt_0 ?_
  refine z_istoren (L' := [(3, z_v 0), (0, .ref (ad 6)), (1, z_v i0), (2, .ref (ad 25))]) C dX4_isAt_1 rfl (by decide) rfl ?_
  have L2 : ∀ (n : Nat), ∀ (i3 : Int), (0 ≤ i3 ∧ i3 ≤ 3) → ((3 : Int) - i3).toNat < n → z_V p l e R s m args below meth c Q D A 27 ad 4 (z_zc ad ks s_edgeCount s_moveCount s_isNeeded s_timesDone s_size s_isGoing s_allTime s_stepCount s_gapCount g_edges g_moves g_limits a_sfacts a_sbounds a_facts a_zone a_most a_places a_amounts a_nextPlaces a_nextAmounts a_earliest a_visited a_lastSet a_gapFrom a_gapTo a_gapLeast a_askedPlaces a_askedAmounts) Y 0 0 2 [(0, .ref (ad 6)), (1, z_v i0), (2, .ref (ad 25)), (3, z_v i3)] [] := by
    intro n
    induction n with
    | zero => intro i3 I3 hm; exact absurd hm (Nat.not_lt_zero _)
    | succ n ih2 =>
      intro i3 I3 hm
      refine z_iloadn C 3 dX4_isAt_2 rfl rfl ?_
      refine z_iconst C dX4_isAt_3 ?_
      refine z_icmp_ge (t := 34) C dX4_isAt_4 (by decide) (by omega) (by omega) (fun c1 => ?_) (fun c1 => ?_)
      · skip
        refine z_iconst C dX4_isAt_34 ?_
        rw [hQ]
        exact z_zret C hrt (by omega) dX4_isAt_35 (⟨rfl, rfl, _, rfl, by omega⟩) (by omega) (by omega)
      · skip
        refine z_aloadn C 2 dX4_isAt_7 rfl rfl ?_
        refine z_iloadn C 3 dX4_isAt_8 rfl rfl ?_
        refine z_iald C 25 (by decide) rfl (by decide) (by omega) (by omega) dX4_isAt_9 ?_
        have rx2 := Ha_askedPlaces (i3 : Int).toNat
        generalize ex2 : a_askedPlaces (i3 : Int).toNat = x2 at rx2 ⊢
        refine z_iconst C dX4_isAt_10 ?_
        refine z_icmp_eq (t := 28) C dX4_isAt_11 (by decide) (by omega) (by omega) (fun c3 => ?_) (fun c3 => ?_)
        · skip
          refine z_iinc (L' := [(3, z_v (i3 + 1)), (0, .ref (ad 6)), (1, z_v i0), (2, .ref (ad 25))]) C 3 dX4_isAt_28 rfl (by decide) rfl ?_
          refine z_goto (t := 2) C dX4_isAt_31 (by decide) ?_
          refine z_loc (L' := [(0, .ref (ad 6)), (1, z_v i0), (2, .ref (ad 25)), (3, z_v (i3 + 1))]) [1, 2, 3, 0] rfl ?_
          exact ih2 (i3 + 1) (by omega) (by omega)
        · skip
          refine z_aloadn C 2 dX4_isAt_14 rfl rfl ?_
          refine z_iloadn C 3 dX4_isAt_15 rfl rfl ?_
          refine z_iald C 25 (by decide) rfl (by decide) (by omega) (by omega) dX4_isAt_16 ?_
          rw [ex2]
          refine z_aloadn C 0 dX4_isAt_17 rfl rfl ?_
          refine z_iloadn C 1 dX4_isAt_18 rfl rfl ?_
          refine z_iloadn C 3 dX4_isAt_19 rfl rfl ?_
          refine z_callV C (cm_X4_fact l i0 i3 Ha_sfacts (by omega) (by omega)) mv_4_26 (z_atS 6 4 (by decide) rfl rfl rfl) pd_X4_fact ⟨by omega, by omega⟩ ⟨by omega, by omega⟩ rfl (Nat.le_of_ble_eq_true rfl) dX4_isAt_20 ?_
          rintro _ _ _ ⟨rfl, rfl, z6, rfl, hz6⟩
          refine z_icmp_eq (t := 28) C dX4_isAt_23 (by decide) (by omega) (by omega) (fun c7 => ?_) (fun c7 => ?_)
          · skip
            refine z_iinc (L' := [(3, z_v (i3 + 1)), (0, .ref (ad 6)), (1, z_v i0), (2, .ref (ad 25))]) C 3 dX4_isAt_28 rfl (by decide) rfl ?_
            refine z_goto (t := 2) C dX4_isAt_31 (by decide) ?_
            refine z_loc (L' := [(0, .ref (ad 6)), (1, z_v i0), (2, .ref (ad 25)), (3, z_v (i3 + 1))]) [1, 2, 3, 0] rfl ?_
            exact ih2 (i3 + 1) (by omega) (by omega)
          · skip
            refine z_iconst C dX4_isAt_26 ?_
            rw [hQ]
            exact z_zret C hrt (by omega) dX4_isAt_27 (⟨rfl, rfl, _, rfl, by omega⟩) (by omega) (by omega)
  refine z_loc (L' := [(0, .ref (ad 6)), (1, z_v i0), (2, .ref (ad 25)), (3, z_v 0)]) [1, 2, 3, 0] rfl ?_
  exact (L2 (((3 : Int) - 0).toNat + 1)) 0 (by omega) (Nat.lt_succ_self _)
set_option maxRecDepth 20000 in
theorem cm_X4_holds_15 (l : Launch) {D : va_G} {A : Nat → Prop} {ad : Nat → Nat} {ks : z_Ks} {s_edgeCount s_moveCount s_isNeeded s_timesDone s_size s_isGoing s_allTime s_stepCount s_gapCount : Int} {g_edges g_moves g_limits : Nat → Option Nat} {a_sfacts a_sbounds a_facts a_zone a_most a_places a_amounts a_nextPlaces a_nextAmounts a_earliest a_visited a_lastSet a_gapFrom a_gapTo a_gapLeast a_askedPlaces a_askedAmounts : Nat → Int} {Y : Nat → Option va_E} (i0 : Int) (Ha_sbounds : (∀ j, z_rg (a_sbounds j))) (Ha_amounts : (∀ j, 0 ≤ a_amounts j ∧ a_amounts j ≤ 1000000)) (hi : 0 ≤ i0 ∧ i0 ≤ 119) : z_Met l yX4_holds cX4_holds 7 (some .boolean) 1 23 0 0 D A 27 ad ks [.ref (ad 6), z_v i0, .ref (ad 15)] (z_zc ad ks s_edgeCount s_moveCount s_isNeeded s_timesDone s_size s_isGoing s_allTime s_stepCount s_gapCount g_edges g_moves g_limits a_sfacts a_sbounds a_facts a_zone a_most a_places a_amounts a_nextPlaces a_nextAmounts a_earliest a_visited a_lastSet a_gapFrom a_gapTo a_gapLeast a_askedPlaces a_askedAmounts) Y (fun r S' Y' => S' = (z_zc ad ks s_edgeCount s_moveCount s_isNeeded s_timesDone s_size s_isGoing s_allTime s_stepCount s_gapCount g_edges g_moves g_limits a_sfacts a_sbounds a_facts a_zone a_most a_places a_amounts a_nextPlaces a_nextAmounts a_earliest a_visited a_lastSet a_gapFrom a_gapTo a_gapLeast a_askedPlaces a_askedAmounts) ∧ Y = Y' ∧ ∃ z : Int, r = some (z_v z) ∧ (z = 0 ∨ z = 1)) := by
  refine z_start2 (by decide) (Nat.le_of_ble_eq_true rfl) ?_
  intro p e R s m args below meth c Q C hRf hRc hRs hRl hQ hrt hnm
  refine z_loc (L' := [(0, .ref (ad 6)), (1, z_v i0), (2, .ref (ad 15))]) [0, 1, 2] rfl ?_
  refine z_iconst C dX4_holds_0 ?_
  refine z_istoren (L' := [(3, z_v 0), (0, .ref (ad 6)), (1, z_v i0), (2, .ref (ad 15))]) C dX4_holds_1 rfl (by decide) rfl ?_
  have L2 : ∀ (n : Nat), ∀ (i3 : Int), (0 ≤ i3 ∧ i3 ≤ 4) → ((4 : Int) - i3).toNat < n → z_V p l e R s m args below meth c Q D A 27 ad 7 (z_zc ad ks s_edgeCount s_moveCount s_isNeeded s_timesDone s_size s_isGoing s_allTime s_stepCount s_gapCount g_edges g_moves g_limits a_sfacts a_sbounds a_facts a_zone a_most a_places a_amounts a_nextPlaces a_nextAmounts a_earliest a_visited a_lastSet a_gapFrom a_gapTo a_gapLeast a_askedPlaces a_askedAmounts) Y 0 0 2 [(0, .ref (ad 6)), (1, z_v i0), (2, .ref (ad 15)), (3, z_v i3)] [] := by
    intro n
    induction n with
    | zero => intro i3 I3 hm; exact absurd hm (Nat.not_lt_zero _)
    | succ n ih2 =>
      intro i3 I3 hm
      refine z_iloadn C 3 dX4_holds_2 rfl rfl ?_
      refine z_iconst C dX4_holds_3 ?_
      refine z_icmp_ge (t := 76) C dX4_holds_4 (by decide) (by omega) (by omega) (fun c1 => ?_) (fun c1 => ?_)
      · skip
        refine z_iconst C dX4_holds_76 ?_
        rw [hQ]
        exact z_zret C hrt (by omega) dX4_holds_77 (⟨rfl, rfl, _, rfl, by omega⟩) (by omega) (by omega)
      · skip
        refine z_iconst C dX4_holds_7 ?_
        refine z_istore (L' := [(4, z_v 0), (0, .ref (ad 6)), (1, z_v i0), (2, .ref (ad 15)), (3, z_v i3)]) C dX4_holds_8 (by decide) rfl ?_
        have L10 : ∀ (n : Nat), ∀ (i4 : Int), (0 ≤ i4 ∧ i4 ≤ 4) → ((4 : Int) - i4).toNat < n → z_V p l e R s m args below meth c Q D A 27 ad 7 (z_zc ad ks s_edgeCount s_moveCount s_isNeeded s_timesDone s_size s_isGoing s_allTime s_stepCount s_gapCount g_edges g_moves g_limits a_sfacts a_sbounds a_facts a_zone a_most a_places a_amounts a_nextPlaces a_nextAmounts a_earliest a_visited a_lastSet a_gapFrom a_gapTo a_gapLeast a_askedPlaces a_askedAmounts) Y 0 0 10 [(0, .ref (ad 6)), (1, z_v i0), (2, .ref (ad 15)), (3, z_v i3), (4, z_v i4)] [] := by
          intro n
          induction n with
          | zero => intro i4 I4 hm; exact absurd hm (Nat.not_lt_zero _)
          | succ n ih10 =>
            intro i4 I4 hm
            refine z_iload C 4 dX4_holds_10 rfl ?_
            refine z_iconst C dX4_holds_12 ?_
            refine z_icmp_ge (t := 70) C dX4_holds_13 (by decide) (by omega) (by omega) (fun c2 => ?_) (fun c2 => ?_)
            · skip
              refine z_iinc (L' := [(3, z_v (i3 + 1)), (0, .ref (ad 6)), (1, z_v i0), (2, .ref (ad 15)), (4, z_v i4)]) C 3 dX4_holds_70 rfl (by decide) rfl ?_
              refine z_goto (t := 2) C dX4_holds_73 (by decide) ?_
              refine z_loc (L' := [(0, .ref (ad 6)), (1, z_v i0), (2, .ref (ad 15)), (3, z_v (i3 + 1))]) [1, 2, 3, 0] rfl ?_
              exact ih2 (i3 + 1) (by omega) (by omega)
            · skip
              refine z_aloadn C 0 dX4_holds_16 rfl rfl ?_
              refine z_iloadn C 1 dX4_holds_17 rfl rfl ?_
              refine z_iloadn C 3 dX4_holds_18 rfl rfl ?_
              refine z_iload C 4 dX4_holds_19 rfl ?_
              refine z_callV C (cm_X4_boundOf l i0 i3 i4 Ha_sbounds (by omega) (by omega) (by omega)) mv_4_50 (z_atS 6 4 (by decide) rfl rfl rfl) pd_X4_boundOf ⟨by omega, by omega⟩ ⟨by omega, by omega⟩ rfl (Nat.le_of_ble_eq_true rfl) dX4_holds_21 ?_
              rintro _ _ _ ⟨rfl, rfl, z5, rfl, hz5⟩
              refine z_istore (L' := [(5, z_v z5), (0, .ref (ad 6)), (1, z_v i0), (2, .ref (ad 15)), (3, z_v i3), (4, z_v i4)]) C dX4_holds_24 (by decide) rfl ?_
              refine z_bipush C dX4_holds_26 (by decide) ?_
              refine z_iload C 0 dX4_holds_28 rfl ?_
              refine z_iconst C dX4_holds_30 ?_
              obtain ⟨b6, hb6, rb6⟩ := z_bits (z_i z5 >>> (z_i 1 &&& 31))
              refine z_ishr C hb6 dX4_holds_31 ?_
              have qb6 := z_bitsE hb6 rb6
              refine z_imul C dX4_holds_32 ?_
              refine z_iconst C dX4_holds_33 ?_
              refine z_isub C dX4_holds_34 ?_
              refine z_iload C 0 dX4_holds_35 rfl ?_
              refine z_iconst C dX4_holds_37 ?_
              obtain ⟨b7, hb7, rb7⟩ := z_bits (z_i z5 &&& z_i 1)
              refine z_iand C hb7 dX4_holds_38 ?_
              have qb7 := z_bitsE hb7 rb7
              refine z_iadd C dX4_holds_39 ?_
              refine z_nrm (fun n8 rn8 en8 => ?_)
              refine z_istore (L' := [(6, z_v n8), (5, z_v z5), (0, .ref (ad 6)), (1, z_v i0), (2, .ref (ad 15)), (3, z_v i3), (4, z_v i4)]) C dX4_holds_40 (by decide) rfl ?_
              refine z_iload C 1 dX4_holds_42 rfl ?_
              refine z_ldc (n := 100000) C kc_4_54 (by decide) dX4_holds_44 ?_
              refine z_icmp_eq (t := 64) C dX4_holds_46 (by decide) (by omega) (by omega) (fun c9 => ?_) (fun c9 => ?_)
              · skip
                refine z_iinc (L' := [(4, z_v (i4 + 1)), (6, z_v n8), (5, z_v z5), (0, .ref (ad 6)), (1, z_v i0), (2, .ref (ad 15)), (3, z_v i3)]) C 6 dX4_holds_64 rfl (by decide) rfl ?_
                refine z_goto (t := 10) C dX4_holds_67 (by decide) ?_
                refine z_loc (L' := [(0, .ref (ad 6)), (1, z_v i0), (2, .ref (ad 15)), (3, z_v i3), (4, z_v (i4 + 1))]) [3, 4, 5, 6, 0] rfl ?_
                exact ih10 (i4 + 1) (by omega) (by omega)
              · skip
                refine z_aloadn C 4 dX4_holds_49 rfl rfl ?_
                refine z_iloadn C 5 dX4_holds_50 rfl rfl ?_
                refine z_iald C 15 (by decide) rfl (by decide) (by omega) (by omega) dX4_holds_51 ?_
                have rx10 := Ha_amounts (i3 : Int).toNat
                generalize ex10 : a_amounts (i3 : Int).toNat = x10 at rx10 ⊢
                refine z_aloadn C 4 dX4_holds_52 rfl rfl ?_
                refine z_iload C 6 dX4_holds_53 rfl ?_
                refine z_iald C 15 (by decide) rfl (by decide) (by omega) (by omega) dX4_holds_55 ?_
                have rx11 := Ha_amounts (i4 : Int).toNat
                generalize ex11 : a_amounts (i4 : Int).toNat = x11 at rx11 ⊢
                refine z_isub C dX4_holds_56 ?_
                refine z_nrm (fun n12 rn12 en12 => ?_)
                refine z_iload C 0 dX4_holds_57 rfl ?_
                refine z_icmp_le (t := 64) C dX4_holds_59 (by decide) (by omega) (by omega) (fun c13 => ?_) (fun c13 => ?_)
                · skip
                  refine z_iinc (L' := [(4, z_v (i4 + 1)), (6, z_v n8), (5, z_v z5), (0, .ref (ad 6)), (1, z_v i0), (2, .ref (ad 15)), (3, z_v i3)]) C 6 dX4_holds_64 rfl (by decide) rfl ?_
                  refine z_goto (t := 10) C dX4_holds_67 (by decide) ?_
                  refine z_loc (L' := [(0, .ref (ad 6)), (1, z_v i0), (2, .ref (ad 15)), (3, z_v i3), (4, z_v (i4 + 1))]) [3, 4, 5, 6, 0] rfl ?_
                  exact ih10 (i4 + 1) (by omega) (by omega)
                · skip
                  refine z_iconst C dX4_holds_62 ?_
                  rw [hQ]
                  exact z_zret C hrt (by omega) dX4_holds_63 (⟨rfl, rfl, _, rfl, by omega⟩) (by omega) (by omega)
        refine z_loc (L' := [(0, .ref (ad 6)), (1, z_v i0), (2, .ref (ad 15)), (3, z_v i3), (4, z_v 0)]) [1, 2, 3, 4, 0] rfl ?_
        exact (L10 (((4 : Int) - 0).toNat + 1)) 0 (by omega) (Nat.lt_succ_self _)
  refine z_loc (L' := [(0, .ref (ad 6)), (1, z_v i0), (2, .ref (ad 15)), (3, z_v 0)]) [1, 2, 3, 0] rfl ?_
  exact (L2 (((4 : Int) - 0).toNat + 1)) 0 (by omega) (Nat.lt_succ_self _)
set_option maxRecDepth 20000 in
theorem cm_X4_holds_26 (l : Launch) {D : va_G} {A : Nat → Prop} {ad : Nat → Nat} {ks : z_Ks} {s_edgeCount s_moveCount s_isNeeded s_timesDone s_size s_isGoing s_allTime s_stepCount s_gapCount : Int} {g_edges g_moves g_limits : Nat → Option Nat} {a_sfacts a_sbounds a_facts a_zone a_most a_places a_amounts a_nextPlaces a_nextAmounts a_earliest a_visited a_lastSet a_gapFrom a_gapTo a_gapLeast a_askedPlaces a_askedAmounts : Nat → Int} {Y : Nat → Option va_E} (i0 : Int) (Ha_sbounds : (∀ j, z_rg (a_sbounds j))) (Ha_askedAmounts : (∀ j, 0 ≤ a_askedAmounts j ∧ a_askedAmounts j ≤ 1000000)) (hi : 0 ≤ i0 ∧ i0 ≤ 119) : z_Met l yX4_holds cX4_holds 7 (some .boolean) 1 23 0 0 D A 27 ad ks [.ref (ad 6), z_v i0, .ref (ad 26)] (z_zc ad ks s_edgeCount s_moveCount s_isNeeded s_timesDone s_size s_isGoing s_allTime s_stepCount s_gapCount g_edges g_moves g_limits a_sfacts a_sbounds a_facts a_zone a_most a_places a_amounts a_nextPlaces a_nextAmounts a_earliest a_visited a_lastSet a_gapFrom a_gapTo a_gapLeast a_askedPlaces a_askedAmounts) Y (fun r S' Y' => S' = (z_zc ad ks s_edgeCount s_moveCount s_isNeeded s_timesDone s_size s_isGoing s_allTime s_stepCount s_gapCount g_edges g_moves g_limits a_sfacts a_sbounds a_facts a_zone a_most a_places a_amounts a_nextPlaces a_nextAmounts a_earliest a_visited a_lastSet a_gapFrom a_gapTo a_gapLeast a_askedPlaces a_askedAmounts) ∧ Y = Y' ∧ ∃ z : Int, r = some (z_v z) ∧ (z = 0 ∨ z = 1)) := by
  refine z_start2 (by decide) (Nat.le_of_ble_eq_true rfl) ?_
  intro p e R s m args below meth c Q C hRf hRc hRs hRl hQ hrt hnm
  refine z_loc (L' := [(0, .ref (ad 6)), (1, z_v i0), (2, .ref (ad 26))]) [0, 1, 2] rfl ?_
  refine z_iconst C dX4_holds_0 ?_
  refine z_istoren (L' := [(3, z_v 0), (0, .ref (ad 6)), (1, z_v i0), (2, .ref (ad 26))]) C dX4_holds_1 rfl (by decide) rfl ?_
  have L2 : ∀ (n : Nat), ∀ (i3 : Int), (0 ≤ i3 ∧ i3 ≤ 4) → ((4 : Int) - i3).toNat < n → z_V p l e R s m args below meth c Q D A 27 ad 7 (z_zc ad ks s_edgeCount s_moveCount s_isNeeded s_timesDone s_size s_isGoing s_allTime s_stepCount s_gapCount g_edges g_moves g_limits a_sfacts a_sbounds a_facts a_zone a_most a_places a_amounts a_nextPlaces a_nextAmounts a_earliest a_visited a_lastSet a_gapFrom a_gapTo a_gapLeast a_askedPlaces a_askedAmounts) Y 0 0 2 [(0, .ref (ad 6)), (1, z_v i0), (2, .ref (ad 26)), (3, z_v i3)] [] := by
    intro n
    induction n with
    | zero => intro i3 I3 hm; exact absurd hm (Nat.not_lt_zero _)
    | succ n ih2 =>
      intro i3 I3 hm
      refine z_iloadn C 3 dX4_holds_2 rfl rfl ?_
      refine z_iconst C dX4_holds_3 ?_
      refine z_icmp_ge (t := 76) C dX4_holds_4 (by decide) (by omega) (by omega) (fun c1 => ?_) (fun c1 => ?_)
      · skip
        refine z_iconst C dX4_holds_76 ?_
        rw [hQ]
        exact z_zret C hrt (by omega) dX4_holds_77 (⟨rfl, rfl, _, rfl, by omega⟩) (by omega) (by omega)
      · skip
        refine z_iconst C dX4_holds_7 ?_
        refine z_istore (L' := [(4, z_v 0), (0, .ref (ad 6)), (1, z_v i0), (2, .ref (ad 26)), (3, z_v i3)]) C dX4_holds_8 (by decide) rfl ?_
        have L10 : ∀ (n : Nat), ∀ (i4 : Int), (0 ≤ i4 ∧ i4 ≤ 4) → ((4 : Int) - i4).toNat < n → z_V p l e R s m args below meth c Q D A 27 ad 7 (z_zc ad ks s_edgeCount s_moveCount s_isNeeded s_timesDone s_size s_isGoing s_allTime s_stepCount s_gapCount g_edges g_moves g_limits a_sfacts a_sbounds a_facts a_zone a_most a_places a_amounts a_nextPlaces a_nextAmounts a_earliest a_visited a_lastSet a_gapFrom a_gapTo a_gapLeast a_askedPlaces a_askedAmounts) Y 0 0 10 [(0, .ref (ad 6)), (1, z_v i0), (2, .ref (ad 26)), (3, z_v i3), (4, z_v i4)] [] := by
          intro n
          induction n with
          | zero => intro i4 I4 hm; exact absurd hm (Nat.not_lt_zero _)
          | succ n ih10 =>
            intro i4 I4 hm
            refine z_iload C 4 dX4_holds_10 rfl ?_
            refine z_iconst C dX4_holds_12 ?_
            refine z_icmp_ge (t := 70) C dX4_holds_13 (by decide) (by omega) (by omega) (fun c2 => ?_) (fun c2 => ?_)
            · skip
              refine z_iinc (L' := [(3, z_v (i3 + 1)), (0, .ref (ad 6)), (1, z_v i0), (2, .ref (ad 26)), (4, z_v i4)]) C 3 dX4_holds_70 rfl (by decide) rfl ?_
              refine z_goto (t := 2) C dX4_holds_73 (by decide) ?_
              refine z_loc (L' := [(0, .ref (ad 6)), (1, z_v i0), (2, .ref (ad 26)), (3, z_v (i3 + 1))]) [1, 2, 3, 0] rfl ?_
              exact ih2 (i3 + 1) (by omega) (by omega)
            · skip
              refine z_aloadn C 0 dX4_holds_16 rfl rfl ?_
              refine z_iloadn C 1 dX4_holds_17 rfl rfl ?_
              refine z_iloadn C 3 dX4_holds_18 rfl rfl ?_
              refine z_iload C 4 dX4_holds_19 rfl ?_
              refine z_callV C (cm_X4_boundOf l i0 i3 i4 Ha_sbounds (by omega) (by omega) (by omega)) mv_4_50 (z_atS 6 4 (by decide) rfl rfl rfl) pd_X4_boundOf ⟨by omega, by omega⟩ ⟨by omega, by omega⟩ rfl (Nat.le_of_ble_eq_true rfl) dX4_holds_21 ?_
              rintro _ _ _ ⟨rfl, rfl, z5, rfl, hz5⟩
              refine z_istore (L' := [(5, z_v z5), (0, .ref (ad 6)), (1, z_v i0), (2, .ref (ad 26)), (3, z_v i3), (4, z_v i4)]) C dX4_holds_24 (by decide) rfl ?_
              refine z_bipush C dX4_holds_26 (by decide) ?_
              refine z_iload C 0 dX4_holds_28 rfl ?_
              refine z_iconst C dX4_holds_30 ?_
              obtain ⟨b6, hb6, rb6⟩ := z_bits (z_i z5 >>> (z_i 1 &&& 31))
              refine z_ishr C hb6 dX4_holds_31 ?_
              have qb6 := z_bitsE hb6 rb6
              refine z_imul C dX4_holds_32 ?_
              refine z_iconst C dX4_holds_33 ?_
              refine z_isub C dX4_holds_34 ?_
              refine z_iload C 0 dX4_holds_35 rfl ?_
              refine z_iconst C dX4_holds_37 ?_
              obtain ⟨b7, hb7, rb7⟩ := z_bits (z_i z5 &&& z_i 1)
              refine z_iand C hb7 dX4_holds_38 ?_
              have qb7 := z_bitsE hb7 rb7
              refine z_iadd C dX4_holds_39 ?_
              refine z_nrm (fun n8 rn8 en8 => ?_)
              refine z_istore (L' := [(6, z_v n8), (5, z_v z5), (0, .ref (ad 6)), (1, z_v i0), (2, .ref (ad 26)), (3, z_v i3), (4, z_v i4)]) C dX4_holds_40 (by decide) rfl ?_
              refine z_iload C 1 dX4_holds_42 rfl ?_
              refine z_ldc (n := 100000) C kc_4_54 (by decide) dX4_holds_44 ?_
              refine z_icmp_eq (t := 64) C dX4_holds_46 (by decide) (by omega) (by omega) (fun c9 => ?_) (fun c9 => ?_)
              · skip
                refine z_iinc (L' := [(4, z_v (i4 + 1)), (6, z_v n8), (5, z_v z5), (0, .ref (ad 6)), (1, z_v i0), (2, .ref (ad 26)), (3, z_v i3)]) C 6 dX4_holds_64 rfl (by decide) rfl ?_
                refine z_goto (t := 10) C dX4_holds_67 (by decide) ?_
                refine z_loc (L' := [(0, .ref (ad 6)), (1, z_v i0), (2, .ref (ad 26)), (3, z_v i3), (4, z_v (i4 + 1))]) [3, 4, 5, 6, 0] rfl ?_
                exact ih10 (i4 + 1) (by omega) (by omega)
              · skip
                refine z_aloadn C 4 dX4_holds_49 rfl rfl ?_
                refine z_iloadn C 5 dX4_holds_50 rfl rfl ?_
                refine z_iald C 26 (by decide) rfl (by decide) (by omega) (by omega) dX4_holds_51 ?_
                have rx10 := Ha_askedAmounts (i3 : Int).toNat
                generalize ex10 : a_askedAmounts (i3 : Int).toNat = x10 at rx10 ⊢
                refine z_aloadn C 4 dX4_holds_52 rfl rfl ?_
                refine z_iload C 6 dX4_holds_53 rfl ?_
                refine z_iald C 26 (by decide) rfl (by decide) (by omega) (by omega) dX4_holds_55 ?_
                have rx11 := Ha_askedAmounts (i4 : Int).toNat
                generalize ex11 : a_askedAmounts (i4 : Int).toNat = x11 at rx11 ⊢
                refine z_isub C dX4_holds_56 ?_
                refine z_nrm (fun n12 rn12 en12 => ?_)
                refine z_iload C 0 dX4_holds_57 rfl ?_
                refine z_icmp_le (t := 64) C dX4_holds_59 (by decide) (by omega) (by omega) (fun c13 => ?_) (fun c13 => ?_)
                · skip
                  refine z_iinc (L' := [(4, z_v (i4 + 1)), (6, z_v n8), (5, z_v z5), (0, .ref (ad 6)), (1, z_v i0), (2, .ref (ad 26)), (3, z_v i3)]) C 6 dX4_holds_64 rfl (by decide) rfl ?_
                  refine z_goto (t := 10) C dX4_holds_67 (by decide) ?_
                  refine z_loc (L' := [(0, .ref (ad 6)), (1, z_v i0), (2, .ref (ad 26)), (3, z_v i3), (4, z_v (i4 + 1))]) [3, 4, 5, 6, 0] rfl ?_
                  exact ih10 (i4 + 1) (by omega) (by omega)
                · skip
                  refine z_iconst C dX4_holds_62 ?_
                  rw [hQ]
                  exact z_zret C hrt (by omega) dX4_holds_63 (⟨rfl, rfl, _, rfl, by omega⟩) (by omega) (by omega)
        refine z_loc (L' := [(0, .ref (ad 6)), (1, z_v i0), (2, .ref (ad 26)), (3, z_v i3), (4, z_v 0)]) [1, 2, 3, 4, 0] rfl ?_
        exact (L10 (((4 : Int) - 0).toNat + 1)) 0 (by omega) (Nat.lt_succ_self _)
  refine z_loc (L' := [(0, .ref (ad 6)), (1, z_v i0), (2, .ref (ad 26)), (3, z_v 0)]) [1, 2, 3, 0] rfl ?_
  exact (L2 (((4 : Int) - 0).toNat + 1)) 0 (by omega) (Nat.lt_succ_self _)
set_option maxRecDepth 20000 in
theorem cm_X4_firstAt_25 (l : Launch) {D : va_G} {A : Nat → Prop} {ad : Nat → Nat} {ks : z_Ks} {s_edgeCount s_moveCount s_isNeeded s_timesDone s_size s_isGoing s_allTime s_stepCount s_gapCount : Int} {g_edges g_moves g_limits : Nat → Option Nat} {a_sfacts a_sbounds a_facts a_zone a_most a_places a_amounts a_nextPlaces a_nextAmounts a_earliest a_visited a_lastSet a_gapFrom a_gapTo a_gapLeast a_askedPlaces a_askedAmounts : Nat → Int} {Y : Nat → Option va_E} (Hs_size : (0 ≤ s_size ∧ s_size ≤ 120)) (Ha_sfacts : (∀ j, (j % 7 < 3 → 0 ≤ a_sfacts j ∧ a_sfacts j ≤ 5) ∧ (j % 7 = 3 → -1 ≤ a_sfacts j ∧ a_sfacts j ≤ 119) ∧ (j % 7 = 6 → 0 ≤ a_sfacts j ∧ a_sfacts j ≤ 40) ∧ z_rg (a_sfacts j))) (Ha_askedPlaces : (∀ j, -1 ≤ a_askedPlaces j ∧ a_askedPlaces j ≤ 5)) : z_Met l yX4_firstAt cX4_firstAt 3 (some .int) 2 45 0 0 D A 27 ad ks [.ref (ad 6), .ref (ad 25)] (z_zc ad ks s_edgeCount s_moveCount s_isNeeded s_timesDone s_size s_isGoing s_allTime s_stepCount s_gapCount g_edges g_moves g_limits a_sfacts a_sbounds a_facts a_zone a_most a_places a_amounts a_nextPlaces a_nextAmounts a_earliest a_visited a_lastSet a_gapFrom a_gapTo a_gapLeast a_askedPlaces a_askedAmounts) Y (fun r S' Y' => S' = (z_zc ad ks s_edgeCount s_moveCount s_isNeeded s_timesDone s_size s_isGoing s_allTime s_stepCount s_gapCount g_edges g_moves g_limits a_sfacts a_sbounds a_facts a_zone a_most a_places a_amounts a_nextPlaces a_nextAmounts a_earliest a_visited a_lastSet a_gapFrom a_gapTo a_gapLeast a_askedPlaces a_askedAmounts) ∧ Y = Y' ∧ ∃ z : Int, r = some (z_v z) ∧ (True)) := by
  refine z_start2 (by decide) (Nat.le_of_ble_eq_true rfl) ?_
  intro p e R s m args below meth c Q C hRf hRc hRs hRl hQ hrt hnm
  refine z_loc (L' := [(0, .ref (ad 6)), (1, .ref (ad 25))]) [0, 1] rfl ?_
  refine z_iconst C dX4_firstAt_0 ?_
  refine z_istoren (L' := [(2, z_v 0), (0, .ref (ad 6)), (1, .ref (ad 25))]) C dX4_firstAt_1 rfl (by decide) rfl ?_
  have L2 : ∀ (n : Nat), ∀ (i2 : Int), (0 ≤ i2 ∧ i2 ≤ 120) → ((120 : Int) - i2).toNat < n → z_V p l e R s m args below meth c Q D A 27 ad 3 (z_zc ad ks s_edgeCount s_moveCount s_isNeeded s_timesDone s_size s_isGoing s_allTime s_stepCount s_gapCount g_edges g_moves g_limits a_sfacts a_sbounds a_facts a_zone a_most a_places a_amounts a_nextPlaces a_nextAmounts a_earliest a_visited a_lastSet a_gapFrom a_gapTo a_gapLeast a_askedPlaces a_askedAmounts) Y 0 0 2 [(0, .ref (ad 6)), (1, .ref (ad 25)), (2, z_v i2)] [] := by
    intro n
    induction n with
    | zero => intro i2 I2 hm; exact absurd hm (Nat.not_lt_zero _)
    | succ n ih2 =>
      intro i2 I2 hm
      refine z_iloadn C 2 dX4_firstAt_2 rfl rfl ?_
      refine z_aloadn C 0 dX4_firstAt_3 rfl rfl ?_
      refine z_get C 6 (by decide) rfl rfl z_it4 0 (by decide) rfl fl_4_18 rfl dX4_firstAt_4 ?_
      refine z_icmp_ge (t := 27) C dX4_firstAt_7 (by decide) (by omega) (by omega) (fun c1 => ?_) (fun c1 => ?_)
      · skip
        refine z_iconst C dX4_firstAt_27 ?_
        rw [hQ]
        exact z_iret C hrt dX4_firstAt_28 (⟨rfl, rfl, _, rfl, trivial⟩) (by omega) (by omega)
      · skip
        refine z_aloadn C 0 dX4_firstAt_10 rfl rfl ?_
        refine z_iloadn C 2 dX4_firstAt_11 rfl rfl ?_
        refine z_aloadn C 1 dX4_firstAt_12 rfl rfl ?_
        refine z_callV C (cm_X4_isAt_25 l i2 Ha_sfacts Ha_askedPlaces (by omega)) mv_4_39 (z_atS 6 4 (by decide) rfl rfl rfl) pd_X4_isAt ⟨by omega, by omega⟩ ⟨by omega, by omega⟩ rfl (Nat.le_of_ble_eq_true rfl) dX4_firstAt_13 ?_
        rintro _ _ _ ⟨rfl, rfl, z4, rfl, hz4⟩
        refine z_if_eq (t := 21) C dX4_firstAt_16 (by decide) (by omega) (fun c5 => ?_) (fun c5 => ?_)
        · skip
          refine z_iinc (L' := [(2, z_v (i2 + 1)), (0, .ref (ad 6)), (1, .ref (ad 25))]) C 2 dX4_firstAt_21 rfl (by decide) rfl ?_
          refine z_goto (t := 2) C dX4_firstAt_24 (by decide) ?_
          refine z_loc (L' := [(0, .ref (ad 6)), (1, .ref (ad 25)), (2, z_v (i2 + 1))]) [1, 2, 0] rfl ?_
          exact ih2 (i2 + 1) (by omega) (by omega)
        · skip
          refine z_iloadn C 2 dX4_firstAt_19 rfl rfl ?_
          rw [hQ]
          exact z_iret C hrt dX4_firstAt_20 (⟨rfl, rfl, _, rfl, trivial⟩) (by omega) (by omega)
  refine z_loc (L' := [(0, .ref (ad 6)), (1, .ref (ad 25)), (2, z_v 0)]) [1, 2, 0] rfl ?_
  exact (L2 (((120 : Int) - 0).toNat + 1)) 0 (by omega) (Nat.lt_succ_self _)
set_option maxRecDepth 20000 in
theorem cm_X4_firstHolding_14_15 (l : Launch) {D : va_G} {A : Nat → Prop} {ad : Nat → Nat} {ks : z_Ks} {s_edgeCount s_moveCount s_isNeeded s_timesDone s_size s_isGoing s_allTime s_stepCount s_gapCount : Int} {g_edges g_moves g_limits : Nat → Option Nat} {a_sfacts a_sbounds a_facts a_zone a_most a_places a_amounts a_nextPlaces a_nextAmounts a_earliest a_visited a_lastSet a_gapFrom a_gapTo a_gapLeast a_askedPlaces a_askedAmounts : Nat → Int} {Y : Nat → Option va_E} (Hs_size : (0 ≤ s_size ∧ s_size ≤ 120)) (Ha_sfacts : (∀ j, (j % 7 < 3 → 0 ≤ a_sfacts j ∧ a_sfacts j ≤ 5) ∧ (j % 7 = 3 → -1 ≤ a_sfacts j ∧ a_sfacts j ≤ 119) ∧ (j % 7 = 6 → 0 ≤ a_sfacts j ∧ a_sfacts j ≤ 40) ∧ z_rg (a_sfacts j))) (Ha_places : (∀ j, 0 ≤ a_places j ∧ a_places j ≤ 5)) (Ha_sbounds : (∀ j, z_rg (a_sbounds j))) (Ha_amounts : (∀ j, 0 ≤ a_amounts j ∧ a_amounts j ≤ 1000000)) : z_Met l yX4_firstHolding cX4_firstHolding 4 (some .int) 2 49 0 0 D A 27 ad ks [.ref (ad 6), .ref (ad 14), .ref (ad 15)] (z_zc ad ks s_edgeCount s_moveCount s_isNeeded s_timesDone s_size s_isGoing s_allTime s_stepCount s_gapCount g_edges g_moves g_limits a_sfacts a_sbounds a_facts a_zone a_most a_places a_amounts a_nextPlaces a_nextAmounts a_earliest a_visited a_lastSet a_gapFrom a_gapTo a_gapLeast a_askedPlaces a_askedAmounts) Y (fun r S' Y' => S' = (z_zc ad ks s_edgeCount s_moveCount s_isNeeded s_timesDone s_size s_isGoing s_allTime s_stepCount s_gapCount g_edges g_moves g_limits a_sfacts a_sbounds a_facts a_zone a_most a_places a_amounts a_nextPlaces a_nextAmounts a_earliest a_visited a_lastSet a_gapFrom a_gapTo a_gapLeast a_askedPlaces a_askedAmounts) ∧ Y = Y' ∧ ∃ z : Int, r = some (z_v z) ∧ (True)) := by
  refine z_start2 (by decide) (Nat.le_of_ble_eq_true rfl) ?_
  intro p e R s m args below meth c Q C hRf hRc hRs hRl hQ hrt hnm
  refine z_loc (L' := [(0, .ref (ad 6)), (1, .ref (ad 14)), (2, .ref (ad 15))]) [0, 1, 2] rfl ?_
  refine z_iconst C dX4_firstHolding_0 ?_
  refine z_istoren (L' := [(3, z_v 0), (0, .ref (ad 6)), (1, .ref (ad 14)), (2, .ref (ad 15))]) C dX4_firstHolding_1 rfl (by decide) rfl ?_
  have L2 : ∀ (n : Nat), ∀ (i3 : Int), (0 ≤ i3 ∧ i3 ≤ 120) → ((120 : Int) - i3).toNat < n → z_V p l e R s m args below meth c Q D A 27 ad 4 (z_zc ad ks s_edgeCount s_moveCount s_isNeeded s_timesDone s_size s_isGoing s_allTime s_stepCount s_gapCount g_edges g_moves g_limits a_sfacts a_sbounds a_facts a_zone a_most a_places a_amounts a_nextPlaces a_nextAmounts a_earliest a_visited a_lastSet a_gapFrom a_gapTo a_gapLeast a_askedPlaces a_askedAmounts) Y 0 0 2 [(0, .ref (ad 6)), (1, .ref (ad 14)), (2, .ref (ad 15)), (3, z_v i3)] [] := by
    intro n
    induction n with
    | zero => intro i3 I3 hm; exact absurd hm (Nat.not_lt_zero _)
    | succ n ih2 =>
      intro i3 I3 hm
      refine z_iloadn C 3 dX4_firstHolding_2 rfl rfl ?_
      refine z_aloadn C 0 dX4_firstHolding_3 rfl rfl ?_
      refine z_get C 6 (by decide) rfl rfl z_it4 0 (by decide) rfl fl_4_18 rfl dX4_firstHolding_4 ?_
      refine z_icmp_ge (t := 36) C dX4_firstHolding_7 (by decide) (by omega) (by omega) (fun c1 => ?_) (fun c1 => ?_)
      · skip
        refine z_iconst C dX4_firstHolding_36 ?_
        rw [hQ]
        exact z_iret C hrt dX4_firstHolding_37 (⟨rfl, rfl, _, rfl, trivial⟩) (by omega) (by omega)
      · skip
        refine z_aloadn C 0 dX4_firstHolding_10 rfl rfl ?_
        refine z_iloadn C 3 dX4_firstHolding_11 rfl rfl ?_
        refine z_aloadn C 1 dX4_firstHolding_12 rfl rfl ?_
        refine z_callV C (cm_X4_isAt_14 l i3 Ha_sfacts Ha_places (by omega)) mv_4_39 (z_atS 6 4 (by decide) rfl rfl rfl) pd_X4_isAt ⟨by omega, by omega⟩ ⟨by omega, by omega⟩ rfl (Nat.le_of_ble_eq_true rfl) dX4_firstHolding_13 ?_
        rintro _ _ _ ⟨rfl, rfl, z4, rfl, hz4⟩
        refine z_if_eq (t := 30) C dX4_firstHolding_16 (by decide) (by omega) (fun c5 => ?_) (fun c5 => ?_)
        · skip
          refine z_iinc (L' := [(3, z_v (i3 + 1)), (0, .ref (ad 6)), (1, .ref (ad 14)), (2, .ref (ad 15))]) C 3 dX4_firstHolding_30 rfl (by decide) rfl ?_
          refine z_goto (t := 2) C dX4_firstHolding_33 (by decide) ?_
          refine z_loc (L' := [(0, .ref (ad 6)), (1, .ref (ad 14)), (2, .ref (ad 15)), (3, z_v (i3 + 1))]) [1, 2, 3, 0] rfl ?_
          exact ih2 (i3 + 1) (by omega) (by omega)
        · skip
          refine z_aloadn C 0 dX4_firstHolding_19 rfl rfl ?_
          refine z_iloadn C 3 dX4_firstHolding_20 rfl rfl ?_
          refine z_aloadn C 2 dX4_firstHolding_21 rfl rfl ?_
          refine z_callV C (cm_X4_holds_15 l i3 Ha_sbounds Ha_amounts (by omega)) mv_4_43 (z_atS 6 4 (by decide) rfl rfl rfl) pd_X4_holds ⟨by omega, by omega⟩ ⟨by omega, by omega⟩ rfl (Nat.le_of_ble_eq_true rfl) dX4_firstHolding_22 ?_
          rintro _ _ _ ⟨rfl, rfl, z8, rfl, hz8⟩
          refine z_if_eq (t := 30) C dX4_firstHolding_25 (by decide) (by omega) (fun c9 => ?_) (fun c9 => ?_)
          · skip
            refine z_iinc (L' := [(3, z_v (i3 + 1)), (0, .ref (ad 6)), (1, .ref (ad 14)), (2, .ref (ad 15))]) C 3 dX4_firstHolding_30 rfl (by decide) rfl ?_
            refine z_goto (t := 2) C dX4_firstHolding_33 (by decide) ?_
            refine z_loc (L' := [(0, .ref (ad 6)), (1, .ref (ad 14)), (2, .ref (ad 15)), (3, z_v (i3 + 1))]) [1, 2, 3, 0] rfl ?_
            exact ih2 (i3 + 1) (by omega) (by omega)
          · skip
            refine z_iloadn C 3 dX4_firstHolding_28 rfl rfl ?_
            rw [hQ]
            exact z_iret C hrt dX4_firstHolding_29 (⟨rfl, rfl, _, rfl, trivial⟩) (by omega) (by omega)
  refine z_loc (L' := [(0, .ref (ad 6)), (1, .ref (ad 14)), (2, .ref (ad 15)), (3, z_v 0)]) [1, 2, 3, 0] rfl ?_
  exact (L2 (((120 : Int) - 0).toNat + 1)) 0 (by omega) (Nat.lt_succ_self _)
set_option maxRecDepth 20000 in
theorem cm_X4_takesIn (l : Launch) {D : va_G} {A : Nat → Prop} {ad : Nat → Nat} {ks : z_Ks} {s_edgeCount s_moveCount s_isNeeded s_timesDone s_size s_isGoing s_allTime s_stepCount s_gapCount : Int} {g_edges g_moves g_limits : Nat → Option Nat} {a_sfacts a_sbounds a_facts a_zone a_most a_places a_amounts a_nextPlaces a_nextAmounts a_earliest a_visited a_lastSet a_gapFrom a_gapTo a_gapLeast a_askedPlaces a_askedAmounts : Nat → Int} {Y : Nat → Option va_E} (i0 : Int) (Ha_sbounds : (∀ j, z_rg (a_sbounds j))) (Ha_zone : (∀ j, z_rg (a_zone j))) (hi : 0 ≤ i0 ∧ i0 ≤ 119) : z_Met l yX4_takesIn cX4_takesIn 4 (some .boolean) 0 0 0 0 D A 27 ad ks [.ref (ad 6), z_v i0, .ref (ad 10)] (z_zc ad ks s_edgeCount s_moveCount s_isNeeded s_timesDone s_size s_isGoing s_allTime s_stepCount s_gapCount g_edges g_moves g_limits a_sfacts a_sbounds a_facts a_zone a_most a_places a_amounts a_nextPlaces a_nextAmounts a_earliest a_visited a_lastSet a_gapFrom a_gapTo a_gapLeast a_askedPlaces a_askedAmounts) Y (fun r S' Y' => S' = (z_zc ad ks s_edgeCount s_moveCount s_isNeeded s_timesDone s_size s_isGoing s_allTime s_stepCount s_gapCount g_edges g_moves g_limits a_sfacts a_sbounds a_facts a_zone a_most a_places a_amounts a_nextPlaces a_nextAmounts a_earliest a_visited a_lastSet a_gapFrom a_gapTo a_gapLeast a_askedPlaces a_askedAmounts) ∧ Y = Y' ∧ ∃ z : Int, r = some (z_v z) ∧ (z = 0 ∨ z = 1)) := by
  refine z_start2 (by decide) (Nat.le_of_ble_eq_true rfl) ?_
  intro p e R s m args below meth c Q C hRf hRc hRs hRl hQ hrt hnm
  refine z_loc (L' := [(0, .ref (ad 6)), (1, z_v i0), (2, .ref (ad 10))]) [0, 1, 2] rfl ?_
  refine z_iconst C dX4_takesIn_0 ?_
  refine z_istoren (L' := [(3, z_v 0), (0, .ref (ad 6)), (1, z_v i0), (2, .ref (ad 10))]) C dX4_takesIn_1 rfl (by decide) rfl ?_
  have L2 : ∀ (n : Nat), ∀ (i3 : Int), (0 ≤ i3 ∧ i3 ≤ 16) → ((16 : Int) - i3).toNat < n → z_V p l e R s m args below meth c Q D A 27 ad 4 (z_zc ad ks s_edgeCount s_moveCount s_isNeeded s_timesDone s_size s_isGoing s_allTime s_stepCount s_gapCount g_edges g_moves g_limits a_sfacts a_sbounds a_facts a_zone a_most a_places a_amounts a_nextPlaces a_nextAmounts a_earliest a_visited a_lastSet a_gapFrom a_gapTo a_gapLeast a_askedPlaces a_askedAmounts) Y 0 0 2 [(0, .ref (ad 6)), (1, z_v i0), (2, .ref (ad 10)), (3, z_v i3)] [] := by
    intro n
    induction n with
    | zero => intro i3 I3 hm; exact absurd hm (Nat.not_lt_zero _)
    | succ n ih2 =>
      intro i3 I3 hm
      refine z_iloadn C 3 dX4_takesIn_2 rfl rfl ?_
      refine z_bipush C dX4_takesIn_3 (by decide) ?_
      refine z_icmp_ge (t := 36) C dX4_takesIn_5 (by decide) (by omega) (by omega) (fun c1 => ?_) (fun c1 => ?_)
      · skip
        refine z_iconst C dX4_takesIn_36 ?_
        rw [hQ]
        exact z_zret C hrt (by omega) dX4_takesIn_37 (⟨rfl, rfl, _, rfl, by omega⟩) (by omega) (by omega)
      · skip
        refine z_aloadn C 2 dX4_takesIn_8 rfl rfl ?_
        refine z_get C 10 (by decide) rfl rfl z_it9 0 (by decide) rfl fl_4_36 rfl dX4_takesIn_9 ?_
        refine z_iloadn C 3 dX4_takesIn_12 rfl rfl ?_
        refine z_iald C 11 (by decide) rfl (by decide) (by omega) (by omega) dX4_takesIn_13 ?_
        have rx2 := Ha_zone (i3 : Int).toNat
        generalize ex2 : a_zone (i3 : Int).toNat = x2 at rx2 ⊢
        refine z_aloadn C 0 dX4_takesIn_14 rfl rfl ?_
        refine z_get C 6 (by decide) rfl rfl z_it4 2 (by decide) rfl fl_4_15 rfl dX4_takesIn_15 ?_
        refine z_iloadn C 1 dX4_takesIn_18 rfl rfl ?_
        refine z_bipush C dX4_takesIn_19 (by decide) ?_
        refine z_imul C dX4_takesIn_21 ?_
        refine z_iloadn C 3 dX4_takesIn_22 rfl rfl ?_
        refine z_iadd C dX4_takesIn_23 ?_
        refine z_iald C 8 (by decide) rfl (by decide) (by omega) (by omega) dX4_takesIn_24 ?_
        have rx3 := Ha_sbounds (((i0 * 16) + i3) : Int).toNat
        generalize ex3 : a_sbounds (((i0 * 16) + i3) : Int).toNat = x3 at rx3 ⊢
        refine z_icmp_le (t := 30) C dX4_takesIn_25 (by decide) (by omega) (by omega) (fun c4 => ?_) (fun c4 => ?_)
        · skip
          refine z_iinc (L' := [(3, z_v (i3 + 1)), (0, .ref (ad 6)), (1, z_v i0), (2, .ref (ad 10))]) C 3 dX4_takesIn_30 rfl (by decide) rfl ?_
          refine z_goto (t := 2) C dX4_takesIn_33 (by decide) ?_
          refine z_loc (L' := [(0, .ref (ad 6)), (1, z_v i0), (2, .ref (ad 10)), (3, z_v (i3 + 1))]) [1, 2, 3, 0] rfl ?_
          exact ih2 (i3 + 1) (by omega) (by omega)
        · skip
          refine z_iconst C dX4_takesIn_28 ?_
          rw [hQ]
          exact z_zret C hrt (by omega) dX4_takesIn_29 (⟨rfl, rfl, _, rfl, by omega⟩) (by omega) (by omega)
  refine z_loc (L' := [(0, .ref (ad 6)), (1, z_v i0), (2, .ref (ad 10)), (3, z_v 0)]) [1, 2, 3, 0] rfl ?_
  exact (L2 (((16 : Int) - 0).toNat + 1)) 0 (by omega) (Nat.lt_succ_self _)
set_option maxRecDepth 20000 in
theorem cm_X4_cover_9_10 (l : Launch) {D : va_G} {A : Nat → Prop} {ad : Nat → Nat} {ks : z_Ks} {s_edgeCount s_moveCount s_isNeeded s_timesDone s_size s_isGoing s_allTime s_stepCount s_gapCount : Int} {g_edges g_moves g_limits : Nat → Option Nat} {a_sfacts a_sbounds a_facts a_zone a_most a_places a_amounts a_nextPlaces a_nextAmounts a_earliest a_visited a_lastSet a_gapFrom a_gapTo a_gapLeast a_askedPlaces a_askedAmounts : Nat → Int} {Y : Nat → Option va_E} (Hs_size : (0 ≤ s_size ∧ s_size ≤ 120)) (Ha_sfacts : (∀ j, (j % 7 < 3 → 0 ≤ a_sfacts j ∧ a_sfacts j ≤ 5) ∧ (j % 7 = 3 → -1 ≤ a_sfacts j ∧ a_sfacts j ≤ 119) ∧ (j % 7 = 6 → 0 ≤ a_sfacts j ∧ a_sfacts j ≤ 40) ∧ z_rg (a_sfacts j))) (Ha_facts : (∀ j, (j % 7 < 3 → 0 ≤ a_facts j ∧ a_facts j ≤ 5) ∧ (j % 7 = 3 → -1 ≤ a_facts j ∧ a_facts j ≤ 119) ∧ (j % 7 = 6 → 0 ≤ a_facts j ∧ a_facts j ≤ 40) ∧ z_rg (a_facts j))) (Ha_sbounds : (∀ j, z_rg (a_sbounds j))) (Ha_zone : (∀ j, z_rg (a_zone j))) : z_Met l yX4_cover cX4_cover 4 (some .boolean) 2 45 0 0 D A 27 ad ks [.ref (ad 6), .ref (ad 9), .ref (ad 10)] (z_zc ad ks s_edgeCount s_moveCount s_isNeeded s_timesDone s_size s_isGoing s_allTime s_stepCount s_gapCount g_edges g_moves g_limits a_sfacts a_sbounds a_facts a_zone a_most a_places a_amounts a_nextPlaces a_nextAmounts a_earliest a_visited a_lastSet a_gapFrom a_gapTo a_gapLeast a_askedPlaces a_askedAmounts) Y (fun r S' Y' => S' = (z_zc ad ks s_edgeCount s_moveCount s_isNeeded s_timesDone s_size s_isGoing s_allTime s_stepCount s_gapCount g_edges g_moves g_limits a_sfacts a_sbounds a_facts a_zone a_most a_places a_amounts a_nextPlaces a_nextAmounts a_earliest a_visited a_lastSet a_gapFrom a_gapTo a_gapLeast a_askedPlaces a_askedAmounts) ∧ Y = Y' ∧ ∃ z : Int, r = some (z_v z) ∧ (z = 0 ∨ z = 1)) := by
  refine z_start2 (by decide) (Nat.le_of_ble_eq_true rfl) ?_
  intro p e R s m args below meth c Q C hRf hRc hRs hRl hQ hrt hnm
  refine z_loc (L' := [(0, .ref (ad 6)), (1, .ref (ad 9)), (2, .ref (ad 10))]) [0, 1, 2] rfl ?_
  refine z_iconst C dX4_cover_0 ?_
  refine z_istoren (L' := [(3, z_v 0), (0, .ref (ad 6)), (1, .ref (ad 9)), (2, .ref (ad 10))]) C dX4_cover_1 rfl (by decide) rfl ?_
  have L2 : ∀ (n : Nat), ∀ (i3 : Int), (0 ≤ i3 ∧ i3 ≤ 120) → ((120 : Int) - i3).toNat < n → z_V p l e R s m args below meth c Q D A 27 ad 4 (z_zc ad ks s_edgeCount s_moveCount s_isNeeded s_timesDone s_size s_isGoing s_allTime s_stepCount s_gapCount g_edges g_moves g_limits a_sfacts a_sbounds a_facts a_zone a_most a_places a_amounts a_nextPlaces a_nextAmounts a_earliest a_visited a_lastSet a_gapFrom a_gapTo a_gapLeast a_askedPlaces a_askedAmounts) Y 0 0 2 [(0, .ref (ad 6)), (1, .ref (ad 9)), (2, .ref (ad 10)), (3, z_v i3)] [] := by
    intro n
    induction n with
    | zero => intro i3 I3 hm; exact absurd hm (Nat.not_lt_zero _)
    | succ n ih2 =>
      intro i3 I3 hm
      refine z_iloadn C 3 dX4_cover_2 rfl rfl ?_
      refine z_aloadn C 0 dX4_cover_3 rfl rfl ?_
      refine z_get C 6 (by decide) rfl rfl z_it4 0 (by decide) rfl fl_4_18 rfl dX4_cover_4 ?_
      refine z_icmp_ge (t := 36) C dX4_cover_7 (by decide) (by omega) (by omega) (fun c1 => ?_) (fun c1 => ?_)
      · skip
        refine z_iconst C dX4_cover_36 ?_
        rw [hQ]
        exact z_zret C hrt (by omega) dX4_cover_37 (⟨rfl, rfl, _, rfl, by omega⟩) (by omega) (by omega)
      · skip
        refine z_aloadn C 0 dX4_cover_10 rfl rfl ?_
        refine z_iloadn C 3 dX4_cover_11 rfl rfl ?_
        refine z_aloadn C 1 dX4_cover_12 rfl rfl ?_
        refine z_callV C (cm_X4_isAt_9 l i3 Ha_sfacts Ha_facts (by omega)) mv_4_39 (z_atS 6 4 (by decide) rfl rfl rfl) pd_X4_isAt ⟨by omega, by omega⟩ ⟨by omega, by omega⟩ rfl (Nat.le_of_ble_eq_true rfl) dX4_cover_13 ?_
        rintro _ _ _ ⟨rfl, rfl, z4, rfl, hz4⟩
        refine z_if_eq (t := 30) C dX4_cover_16 (by decide) (by omega) (fun c5 => ?_) (fun c5 => ?_)
        · skip
          refine z_iinc (L' := [(3, z_v (i3 + 1)), (0, .ref (ad 6)), (1, .ref (ad 9)), (2, .ref (ad 10))]) C 3 dX4_cover_30 rfl (by decide) rfl ?_
          refine z_goto (t := 2) C dX4_cover_33 (by decide) ?_
          refine z_loc (L' := [(0, .ref (ad 6)), (1, .ref (ad 9)), (2, .ref (ad 10)), (3, z_v (i3 + 1))]) [1, 2, 3, 0] rfl ?_
          exact ih2 (i3 + 1) (by omega) (by omega)
        · skip
          refine z_aloadn C 0 dX4_cover_19 rfl rfl ?_
          refine z_iloadn C 3 dX4_cover_20 rfl rfl ?_
          refine z_aloadn C 2 dX4_cover_21 rfl rfl ?_
          refine z_callV C (cm_X4_takesIn l i3 Ha_sbounds Ha_zone (by omega)) mv_4_46 (z_atS 6 4 (by decide) rfl rfl rfl) pd_X4_takesIn ⟨by omega, by omega⟩ ⟨by omega, by omega⟩ rfl (Nat.le_of_ble_eq_true rfl) dX4_cover_22 ?_
          rintro _ _ _ ⟨rfl, rfl, z8, rfl, hz8⟩
          refine z_if_eq (t := 30) C dX4_cover_25 (by decide) (by omega) (fun c9 => ?_) (fun c9 => ?_)
          · skip
            refine z_iinc (L' := [(3, z_v (i3 + 1)), (0, .ref (ad 6)), (1, .ref (ad 9)), (2, .ref (ad 10))]) C 3 dX4_cover_30 rfl (by decide) rfl ?_
            refine z_goto (t := 2) C dX4_cover_33 (by decide) ?_
            refine z_loc (L' := [(0, .ref (ad 6)), (1, .ref (ad 9)), (2, .ref (ad 10)), (3, z_v (i3 + 1))]) [1, 2, 3, 0] rfl ?_
            exact ih2 (i3 + 1) (by omega) (by omega)
          · skip
            refine z_iconst C dX4_cover_28 ?_
            rw [hQ]
            exact z_zret C hrt (by omega) dX4_cover_29 (⟨rfl, rfl, _, rfl, by omega⟩) (by omega) (by omega)
  refine z_loc (L' := [(0, .ref (ad 6)), (1, .ref (ad 9)), (2, .ref (ad 10)), (3, z_v 0)]) [1, 2, 3, 0] rfl ?_
  exact (L2 (((120 : Int) - 0).toNat + 1)) 0 (by omega) (Nat.lt_succ_self _)
