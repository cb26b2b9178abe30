theorem z_gb {n i : Int} {f g : Nat → Int} (h : g 3 = i ∧ g 6 = f (i * 7 + 6 : Int).toNat + 1) (h1 : i < n) (h0 : 0 ≤ i) : 0 ≤ g 3 ∧ g 3 < n ∧ f (7 * (g 3).toNat + 6) = g 6 - 1 := by
  obtain ⟨e1, e2⟩ := h
  rw [e1]
  rw [show (i * 7 + 6 : Int).toNat = 7 * i.toNat + 6 by omega] at e2
  exact ⟨h0, h1, by omega⟩
theorem z_cc_vi {n i k v : Int} {f : Nat → Int} (h : z_cc n f) (hi : 0 ≤ i ∧ i < n) (hk : k ≤ f (i * 7 + 6 : Int).toNat) (h0 : 0 < k) (hv : v = f (i * 7 + 3 : Int).toNat) : (0 ≤ v ∧ v < n) ∧ k + (-1) ≤ f (v * 7 + 6 : Int).toNat := by
  have h1 := z_cc_at (k := f (i * 7 + 6 : Int).toNat - 1) h hi (by omega) (by omega) hv
  exact ⟨h1.1, by omega⟩
set_option maxRecDepth 20000 in
theorem cm_X3_prepare (l : Launch) {D : va_G} {A : Nat → Prop} {ad : Nat → Nat} {ks : z_Ks} {s_edgeCount s_moveCount s_isNeeded s_timesDone s_size s_isGoing s_allTime s_stepCount s_gapCount : Int} {g_edges g_moves g_limits : Nat → Option Nat} {a_sfacts a_sbounds a_facts a_zone a_most a_places a_amounts a_nextPlaces a_nextAmounts a_earliest a_visited a_lastSet a_gapFrom a_gapTo a_gapLeast a_askedPlaces a_askedAmounts : Nat → Int} {Y : Nat → Option va_E} (Hs_edgeCount : (0 ≤ s_edgeCount ∧ s_edgeCount ≤ 20)) (Hs_timesDone : (0 ≤ s_timesDone ∧ s_timesDone ≤ 40)) (Ha_most : (∀ j, 0 ≤ a_most j ∧ a_most j ≤ 1000)) (ht : s_timesDone ≤ 39) (HE : ∀ j : Nat, (j : Int) < s_edgeCount → ∃ q, g_edges j = some q ∧ z_E ks Y q) (HL : ∀ j : Nat, (j : Int) < 18 → ∃ q, g_limits j = some q ∧ z_TL ks Y q) : z_Met l yX3_prepare cX3_prepare 3 none 3 67 0 0 D A 27 ad ks [.ref (ad 5), .ref (ad 1)] (z_zc ad ks s_edgeCount s_moveCount s_isNeeded s_timesDone s_size s_isGoing s_allTime s_stepCount s_gapCount g_edges g_moves g_limits a_sfacts a_sbounds a_facts a_zone a_most a_places a_amounts a_nextPlaces a_nextAmounts a_earliest a_visited a_lastSet a_gapFrom a_gapTo a_gapLeast a_askedPlaces a_askedAmounts) Y (fun r S' Y' => ∃ na_most : Nat → Int, S' = (z_zc ad ks s_edgeCount s_moveCount 0 (s_timesDone + 1) 0 s_isGoing s_allTime s_stepCount s_gapCount g_edges g_moves g_limits a_sfacts a_sbounds a_facts a_zone na_most a_places a_amounts a_nextPlaces a_nextAmounts a_earliest a_visited a_lastSet a_gapFrom a_gapTo a_gapLeast a_askedPlaces a_askedAmounts) ∧ Y = Y' ∧ (∀ j, 0 ≤ na_most j ∧ na_most j ≤ 1000) ∧ r = none) := by
  refine z_start2 (by decide) (Nat.le_of_ble_eq_true rfl) ?_
  intro p e R s m args below meth c Q C hRf hRc hRs hRl hQ hrt hnm
  refine z_loc (L' := [(0, .ref (ad 5)), (1, .ref (ad 1))]) [0, 1] rfl ?_
  refine z_aloadn C 0 dX3_prepare_0 rfl rfl ?_
  refine z_get C 5 (by decide) rfl rfl z_it3 0 (by decide) rfl fl_3_12 rfl dX3_prepare_1 ?_
  refine z_iconst C dX3_prepare_4 ?_
  refine z_put C 6 (by decide) rfl rfl z_it4 tyX4 tyX4_ok nmX4 0 (by decide) rfl (Or.inl rfl) fl_3_51 z_pfI rfl rfl (Nat.le_of_ble_eq_true rfl) dX3_prepare_5 ?_
  refine z_ext (S' := (z_zc ad ks s_edgeCount s_moveCount s_isNeeded s_timesDone 0 s_isGoing s_allTime s_stepCount s_gapCount g_edges g_moves g_limits a_sfacts a_sbounds a_facts a_zone a_most a_places a_amounts a_nextPlaces a_nextAmounts a_earliest a_visited a_lastSet a_gapFrom a_gapTo a_gapLeast a_askedPlaces a_askedAmounts)) upC_s_size ?_
  refine z_aloadn C 0 dX3_prepare_8 rfl rfl ?_
  refine z_iconst C dX3_prepare_9 ?_
  refine z_put C 5 (by decide) rfl rfl z_it3 tyX3 tyX3_ok nmX3 1 (by decide) rfl (Or.inl rfl) fl_3_18 z_pfZ (z_nbZ (by omega)).1 (z_nbZ (by omega)).2 (Nat.le_of_ble_eq_true rfl) dX3_prepare_10 ?_
  refine z_ext (S' := (z_zc ad ks s_edgeCount s_moveCount 0 s_timesDone 0 s_isGoing s_allTime s_stepCount s_gapCount g_edges g_moves g_limits a_sfacts a_sbounds a_facts a_zone a_most a_places a_amounts a_nextPlaces a_nextAmounts a_earliest a_visited a_lastSet a_gapFrom a_gapTo a_gapLeast a_askedPlaces a_askedAmounts)) upC_s_isNeeded ?_
  refine z_aloadn C 0 dX3_prepare_13 rfl rfl ?_
  refine z_dup C dX3_prepare_14 rfl ?_
  refine z_get C 5 (by decide) rfl rfl z_it3 2 (by decide) rfl fl_3_72 rfl dX3_prepare_15 ?_
  refine z_iconst C dX3_prepare_18 ?_
  refine z_iadd C dX3_prepare_19 ?_
  refine z_put C 5 (by decide) rfl rfl z_it3 tyX3 tyX3_ok nmX3 2 (by decide) rfl (Or.inl rfl) fl_3_72 z_pfI rfl rfl (Nat.le_of_ble_eq_true rfl) dX3_prepare_20 ?_
  refine z_ext (S' := (z_zc ad ks s_edgeCount s_moveCount 0 (s_timesDone + 1) 0 s_isGoing s_allTime s_stepCount s_gapCount g_edges g_moves g_limits a_sfacts a_sbounds a_facts a_zone a_most a_places a_amounts a_nextPlaces a_nextAmounts a_earliest a_visited a_lastSet a_gapFrom a_gapTo a_gapLeast a_askedPlaces a_askedAmounts)) upC_s_timesDone ?_
  refine z_iconst C dX3_prepare_23 ?_
  refine z_istoren (L' := [(2, z_v 1), (0, .ref (ad 5)), (1, .ref (ad 1))]) C dX3_prepare_24 rfl (by decide) rfl ?_
  have L25 : ∀ (n : Nat), ∀ (i2 : Int) (fa_most : Nat → Int), ((∀ j, 0 ≤ fa_most j ∧ fa_most j ≤ 1000)) → (1 ≤ i2 ∧ i2 ≤ 4) → ((4 : Int) - i2).toNat < n → z_V p l e R s m args below meth c Q D A 27 ad 3 (z_zc ad ks s_edgeCount s_moveCount 0 (s_timesDone + 1) 0 s_isGoing s_allTime s_stepCount s_gapCount g_edges g_moves g_limits a_sfacts a_sbounds a_facts a_zone fa_most a_places a_amounts a_nextPlaces a_nextAmounts a_earliest a_visited a_lastSet a_gapFrom a_gapTo a_gapLeast a_askedPlaces a_askedAmounts) Y 0 0 25 [(0, .ref (ad 5)), (1, .ref (ad 1)), (2, z_v i2)] [] := by
    intro n
    induction n with
    | zero => intro i2 fa_most Hfa_most I2 hm; exact absurd hm (Nat.not_lt_zero _)
    | succ n ih25 =>
      intro i2 fa_most Hfa_most I2 hm
      refine z_iloadn C 2 dX3_prepare_25 rfl rfl ?_
      refine z_iconst C dX3_prepare_26 ?_
      refine z_icmp_ge (t := 47) C dX3_prepare_27 (by decide) (by omega) (by omega) (fun c1 => ?_) (fun c1 => ?_)
      · skip
        rw [hQ]
        exact z_vret C hrt dX3_prepare_47 (⟨fa_most, rfl, rfl, Hfa_most, rfl⟩) (by omega) (by omega)
      · skip
        refine z_aloadn C 0 dX3_prepare_30 rfl rfl ?_
        refine z_get C 5 (by decide) rfl rfl z_it3 5 (by decide) rfl fl_3_33 rfl dX3_prepare_31 ?_
        refine z_iloadn C 2 dX3_prepare_34 rfl rfl ?_
        refine z_aloadn C 1 dX3_prepare_35 rfl rfl ?_
        refine z_iloadn C 2 dX3_prepare_36 rfl rfl ?_
        refine z_callV C (cm_X2_greatestOf l i2 (by omega) (by omega) HE HL) mv_3_75 (z_atS 1 2 (by decide) rfl rfl rfl) pd_X2_greatestOf ⟨by omega, by omega⟩ ⟨by omega, by omega⟩ rfl (Nat.le_of_ble_eq_true rfl) dX3_prepare_37 ?_
        rintro _ _ _ ⟨rfl, rfl, z4, rfl, hz4⟩
        refine z_iast C 12 (by decide) rfl (by decide) (by omega) (by omega) dX3_prepare_40 ?_
        refine z_ext (S' := (z_zc ad ks s_edgeCount s_moveCount 0 (s_timesDone + 1) 0 s_isGoing s_allTime s_stepCount s_gapCount g_edges g_moves g_limits a_sfacts a_sbounds a_facts a_zone (va_up fa_most (i2 : Int).toNat z4) a_places a_amounts a_nextPlaces a_nextAmounts a_earliest a_visited a_lastSet a_gapFrom a_gapTo a_gapLeast a_askedPlaces a_askedAmounts)) upC_a_most ?_
        have h5 : ∀ j, 0 ≤ (va_up fa_most (i2 : Int).toNat z4) j ∧ (va_up fa_most (i2 : Int).toNat z4) j ≤ 1000 := z_upP (P := fun j v => 0 ≤ v ∧ v ≤ 1000) Hfa_most (by omega)
        generalize (va_up fa_most (i2 : Int).toNat z4) = f6 at h5 ⊢
        refine z_iinc (L' := [(2, z_v (i2 + 1)), (0, .ref (ad 5)), (1, .ref (ad 1))]) C 2 dX3_prepare_41 rfl (by decide) rfl ?_
        refine z_goto (t := 25) C dX3_prepare_44 (by decide) ?_
        refine z_loc (L' := [(0, .ref (ad 5)), (1, .ref (ad 1)), (2, z_v (i2 + 1))]) [1, 2, 0] rfl ?_
        exact ih25 (i2 + 1) f6 h5 (by omega) (by omega)
  refine z_loc (L' := [(0, .ref (ad 5)), (1, .ref (ad 1)), (2, z_v 1)]) [1, 2, 0] rfl ?_
  exact (L25 (((4 : Int) - 1).toNat + 1)) 1 a_most Ha_most (by omega) (Nat.lt_succ_self _)
set_option maxRecDepth 20000 in
theorem cm_X3_standAtStart (l : Launch) {D : va_G} {A : Nat → Prop} {ad : Nat → Nat} {ks : z_Ks} {s_edgeCount s_moveCount s_isNeeded s_timesDone s_size s_isGoing s_allTime s_stepCount s_gapCount : Int} {g_edges g_moves g_limits : Nat → Option Nat} {a_sfacts a_sbounds a_facts a_zone a_most a_places a_amounts a_nextPlaces a_nextAmounts a_earliest a_visited a_lastSet a_gapFrom a_gapTo a_gapLeast a_askedPlaces a_askedAmounts : Nat → Int} {Y : Nat → Option va_E} (Ha_facts : (∀ j, (j % 7 < 3 → 0 ≤ a_facts j ∧ a_facts j ≤ 5) ∧ (j % 7 = 3 → -1 ≤ a_facts j ∧ a_facts j ≤ 119) ∧ (j % 7 = 6 → 0 ≤ a_facts j ∧ a_facts j ≤ 40) ∧ z_rg (a_facts j))) (Ha_zone : (∀ j, z_rg (a_zone j))) : z_Met l yX3_standAtStart cX3_standAtStart 1 none 2 43 0 0 D A 27 ad ks [.ref (ad 5)] (z_zc ad ks s_edgeCount s_moveCount s_isNeeded s_timesDone s_size s_isGoing s_allTime s_stepCount s_gapCount g_edges g_moves g_limits a_sfacts a_sbounds a_facts a_zone a_most a_places a_amounts a_nextPlaces a_nextAmounts a_earliest a_visited a_lastSet a_gapFrom a_gapTo a_gapLeast a_askedPlaces a_askedAmounts) Y (fun r S' Y' => ∃ na_facts : Nat → Int, ∃ na_zone : Nat → Int, S' = (z_zc ad ks s_edgeCount s_moveCount s_isNeeded s_timesDone s_size s_isGoing s_allTime s_stepCount s_gapCount g_edges g_moves g_limits a_sfacts a_sbounds na_facts na_zone a_most a_places a_amounts a_nextPlaces a_nextAmounts a_earliest a_visited a_lastSet a_gapFrom a_gapTo a_gapLeast a_askedPlaces a_askedAmounts) ∧ Y = Y' ∧ (∀ j, (j % 7 < 3 → 0 ≤ na_facts j ∧ na_facts j ≤ 5) ∧ (j % 7 = 3 → -1 ≤ na_facts j ∧ na_facts j ≤ 119) ∧ (j % 7 = 6 → 0 ≤ na_facts j ∧ na_facts j ≤ 40) ∧ z_rg (na_facts j)) ∧ (∀ j, z_rg (na_zone j)) ∧ na_facts 6 = 0 ∧ r = none) := by
  refine z_start2 (by decide) (Nat.le_of_ble_eq_true rfl) ?_
  intro p e R s m args below meth c Q C hRf hRc hRs hRl hQ hrt hnm
  refine z_loc (L' := [(0, .ref (ad 5))]) [0] rfl ?_
  refine z_aloadn C 0 dX3_standAtStart_0 rfl rfl ?_
  refine z_get C 5 (by decide) rfl rfl z_it3 3 (by decide) rfl fl_3_22 rfl dX3_standAtStart_1 ?_
  refine z_iconst C dX3_standAtStart_4 ?_
  refine z_callS C (cm_J7_fill_53178_9 l 0 Ha_facts (by omega)) mv_3_79 pd_J7_fill_53178 ⟨by omega, by omega⟩ ⟨by omega, by omega⟩ rfl (Nat.le_of_ble_eq_true rfl) dX3_standAtStart_5 ?_
  rintro _ _ _ ⟨n1, rfl, rfl, h4, q5_0, rfl⟩
  refine z_aloadn C 0 dX3_standAtStart_8 rfl rfl ?_
  refine z_get C 5 (by decide) rfl rfl z_it3 3 (by decide) rfl fl_3_22 rfl dX3_standAtStart_9 ?_
  refine z_iconst C dX3_standAtStart_12 ?_
  refine z_iconst C dX3_standAtStart_13 ?_
  refine z_iast C 9 (by decide) rfl (by decide) (by omega) (by omega) dX3_standAtStart_14 ?_
  refine z_ext (S' := (z_zc ad ks s_edgeCount s_moveCount s_isNeeded s_timesDone s_size s_isGoing s_allTime s_stepCount s_gapCount g_edges g_moves g_limits a_sfacts a_sbounds (va_up n1 (3 : Int).toNat (-1)) a_zone a_most a_places a_amounts a_nextPlaces a_nextAmounts a_earliest a_visited a_lastSet a_gapFrom a_gapTo a_gapLeast a_askedPlaces a_askedAmounts)) upC_a_facts ?_
  have h5 : ∀ j, (j % 7 < 3 → 0 ≤ (va_up n1 (3 : Int).toNat (-1)) j ∧ (va_up n1 (3 : Int).toNat (-1)) j ≤ 5) ∧ (j % 7 = 3 → -1 ≤ (va_up n1 (3 : Int).toNat (-1)) j ∧ (va_up n1 (3 : Int).toNat (-1)) j ≤ 119) ∧ (j % 7 = 6 → 0 ≤ (va_up n1 (3 : Int).toNat (-1)) j ∧ (va_up n1 (3 : Int).toNat (-1)) j ≤ 40) ∧ z_rg ((va_up n1 (3 : Int).toNat (-1)) j) := z_upP (P := fun j v => (j % 7 < 3 → 0 ≤ v ∧ v ≤ 5) ∧ (j % 7 = 3 → -1 ≤ v ∧ v ≤ 119) ∧ (j % 7 = 6 → 0 ≤ v ∧ v ≤ 40) ∧ z_rg (v)) h4 (by omega)
  refine z_aloadn C 0 dX3_standAtStart_15 rfl rfl ?_
  refine z_get C 5 (by decide) rfl rfl z_it3 3 (by decide) rfl fl_3_22 rfl dX3_standAtStart_16 ?_
  refine z_iconst C dX3_standAtStart_19 ?_
  refine z_iconst C dX3_standAtStart_20 ?_
  refine z_iast C 9 (by decide) rfl (by decide) (by omega) (by omega) dX3_standAtStart_21 ?_
  refine z_ext (S' := (z_zc ad ks s_edgeCount s_moveCount s_isNeeded s_timesDone s_size s_isGoing s_allTime s_stepCount s_gapCount g_edges g_moves g_limits a_sfacts a_sbounds (va_up (va_up n1 (3 : Int).toNat (-1)) (4 : Int).toNat (-1)) a_zone a_most a_places a_amounts a_nextPlaces a_nextAmounts a_earliest a_visited a_lastSet a_gapFrom a_gapTo a_gapLeast a_askedPlaces a_askedAmounts)) upC_a_facts ?_
  have h6 : ∀ j, (j % 7 < 3 → 0 ≤ (va_up (va_up n1 (3 : Int).toNat (-1)) (4 : Int).toNat (-1)) j ∧ (va_up (va_up n1 (3 : Int).toNat (-1)) (4 : Int).toNat (-1)) j ≤ 5) ∧ (j % 7 = 3 → -1 ≤ (va_up (va_up n1 (3 : Int).toNat (-1)) (4 : Int).toNat (-1)) j ∧ (va_up (va_up n1 (3 : Int).toNat (-1)) (4 : Int).toNat (-1)) j ≤ 119) ∧ (j % 7 = 6 → 0 ≤ (va_up (va_up n1 (3 : Int).toNat (-1)) (4 : Int).toNat (-1)) j ∧ (va_up (va_up n1 (3 : Int).toNat (-1)) (4 : Int).toNat (-1)) j ≤ 40) ∧ z_rg ((va_up (va_up n1 (3 : Int).toNat (-1)) (4 : Int).toNat (-1)) j) := z_upP (P := fun j v => (j % 7 < 3 → 0 ≤ v ∧ v ≤ 5) ∧ (j % 7 = 3 → -1 ≤ v ∧ v ≤ 119) ∧ (j % 7 = 6 → 0 ≤ v ∧ v ≤ 40) ∧ z_rg (v)) h5 (by omega)
  refine z_aloadn C 0 dX3_standAtStart_22 rfl rfl ?_
  refine z_get C 5 (by decide) rfl rfl z_it3 3 (by decide) rfl fl_3_22 rfl dX3_standAtStart_23 ?_
  refine z_iconst C dX3_standAtStart_26 ?_
  refine z_iconst C dX3_standAtStart_27 ?_
  refine z_iast C 9 (by decide) rfl (by decide) (by omega) (by omega) dX3_standAtStart_28 ?_
  refine z_ext (S' := (z_zc ad ks s_edgeCount s_moveCount s_isNeeded s_timesDone s_size s_isGoing s_allTime s_stepCount s_gapCount g_edges g_moves g_limits a_sfacts a_sbounds (va_up (va_up (va_up n1 (3 : Int).toNat (-1)) (4 : Int).toNat (-1)) (5 : Int).toNat (-1)) a_zone a_most a_places a_amounts a_nextPlaces a_nextAmounts a_earliest a_visited a_lastSet a_gapFrom a_gapTo a_gapLeast a_askedPlaces a_askedAmounts)) upC_a_facts ?_
  have h7 : ∀ j, (j % 7 < 3 → 0 ≤ (va_up (va_up (va_up n1 (3 : Int).toNat (-1)) (4 : Int).toNat (-1)) (5 : Int).toNat (-1)) j ∧ (va_up (va_up (va_up n1 (3 : Int).toNat (-1)) (4 : Int).toNat (-1)) (5 : Int).toNat (-1)) j ≤ 5) ∧ (j % 7 = 3 → -1 ≤ (va_up (va_up (va_up n1 (3 : Int).toNat (-1)) (4 : Int).toNat (-1)) (5 : Int).toNat (-1)) j ∧ (va_up (va_up (va_up n1 (3 : Int).toNat (-1)) (4 : Int).toNat (-1)) (5 : Int).toNat (-1)) j ≤ 119) ∧ (j % 7 = 6 → 0 ≤ (va_up (va_up (va_up n1 (3 : Int).toNat (-1)) (4 : Int).toNat (-1)) (5 : Int).toNat (-1)) j ∧ (va_up (va_up (va_up n1 (3 : Int).toNat (-1)) (4 : Int).toNat (-1)) (5 : Int).toNat (-1)) j ≤ 40) ∧ z_rg ((va_up (va_up (va_up n1 (3 : Int).toNat (-1)) (4 : Int).toNat (-1)) (5 : Int).toNat (-1)) j) := z_upP (P := fun j v => (j % 7 < 3 → 0 ≤ v ∧ v ≤ 5) ∧ (j % 7 = 3 → -1 ≤ v ∧ v ≤ 119) ∧ (j % 7 = 6 → 0 ≤ v ∧ v ≤ 40) ∧ z_rg (v)) h6 (by omega)
  refine z_aloadn C 0 dX3_standAtStart_29 rfl rfl ?_
  refine z_get C 5 (by decide) rfl rfl z_it3 4 (by decide) rfl fl_3_29 rfl dX3_standAtStart_30 ?_
  refine z_callV C (cm_X9_putAllClocksAtZero l Ha_zone) mv_3_85 (z_atS 10 9 (by decide) rfl rfl rfl) pd_X9_putAllClocksAtZero ⟨by omega, by omega⟩ ⟨by omega, by omega⟩ rfl (Nat.le_of_ble_eq_true rfl) dX3_standAtStart_33 ?_
  rintro _ _ _ ⟨n8, rfl, rfl, h11, rfl⟩
  rw [hQ]
  exact z_vret C hrt dX3_standAtStart_36 (⟨(va_up (va_up (va_up n1 (3 : Int).toNat (-1)) (4 : Int).toNat (-1)) (5 : Int).toNat (-1)), n8, rfl, rfl, h7, h11, q5_0 6 (by omega), rfl⟩) (by omega) (by omega)
set_option maxRecDepth 20000 in
theorem cm_X3_goesBy (l : Launch) {D : va_G} {A : Nat → Prop} {ad : Nat → Nat} {ks : z_Ks} {s_edgeCount s_moveCount s_isNeeded s_timesDone s_size s_isGoing s_allTime s_stepCount s_gapCount : Int} {g_edges g_moves g_limits : Nat → Option Nat} {a_sfacts a_sbounds a_facts a_zone a_most a_places a_amounts a_nextPlaces a_nextAmounts a_earliest a_visited a_lastSet a_gapFrom a_gapTo a_gapLeast a_askedPlaces a_askedAmounts : Nat → Int} {Y : Nat → Option va_E} (i0 : Int) (q : Nat) (Ha_sfacts : (∀ j, (j % 7 < 3 → 0 ≤ a_sfacts j ∧ a_sfacts j ≤ 5) ∧ (j % 7 = 3 → -1 ≤ a_sfacts j ∧ a_sfacts j ≤ 119) ∧ (j % 7 = 6 → 0 ≤ a_sfacts j ∧ a_sfacts j ≤ 40) ∧ z_rg (a_sfacts j))) (Ha_facts : (∀ j, (j % 7 < 3 → 0 ≤ a_facts j ∧ a_facts j ≤ 5) ∧ (j % 7 = 3 → -1 ≤ a_facts j ∧ a_facts j ≤ 119) ∧ (j % 7 = 6 → 0 ≤ a_facts j ∧ a_facts j ≤ 40) ∧ z_rg (a_facts j))) (Ha_sbounds : (∀ j, z_rg (a_sbounds j))) (Ha_zone : (∀ j, z_rg (a_zone j))) (hi : 0 ≤ i0 ∧ i0 ≤ 119) (hq : z_Mv ks Y q) : z_Met l yX3_goesBy cX3_goesBy 4 (some .boolean) 4 92 0 0 D A 27 ad ks [.ref (ad 5), z_v i0, .ref q] (z_zc ad ks s_edgeCount s_moveCount s_isNeeded s_timesDone s_size s_isGoing s_allTime s_stepCount s_gapCount g_edges g_moves g_limits a_sfacts a_sbounds a_facts a_zone a_most a_places a_amounts a_nextPlaces a_nextAmounts a_earliest a_visited a_lastSet a_gapFrom a_gapTo a_gapLeast a_askedPlaces a_askedAmounts) Y (fun r S' Y' => ∃ na_facts : Nat → Int, ∃ na_zone : Nat → Int, S' = (z_zc ad ks s_edgeCount s_moveCount s_isNeeded s_timesDone s_size s_isGoing s_allTime s_stepCount s_gapCount g_edges g_moves g_limits a_sfacts a_sbounds na_facts na_zone a_most a_places a_amounts a_nextPlaces a_nextAmounts a_earliest a_visited a_lastSet a_gapFrom a_gapTo a_gapLeast a_askedPlaces a_askedAmounts) ∧ Y = Y' ∧ (∀ j, (j % 7 < 3 → 0 ≤ na_facts j ∧ na_facts j ≤ 5) ∧ (j % 7 = 3 → -1 ≤ na_facts j ∧ na_facts j ≤ 119) ∧ (j % 7 = 6 → 0 ≤ na_facts j ∧ na_facts j ≤ 40) ∧ z_rg (na_facts j)) ∧ (∀ j, z_rg (na_zone j)) ∧ ∃ z : Int, r = some (z_v z) ∧ ((z = 0 ∨ z = 1) ∧ (z = 1 → na_facts 3 = i0 ∧ na_facts 6 = a_sfacts (i0 * 7 + 6 : Int).toNat + 1))) := by
  refine z_start2 (by decide) (Nat.le_of_ble_eq_true rfl) ?_
  intro p e R s m args below meth c Q C hRf hRc hRs hRl hQ hrt hnm
  refine z_loc (L' := [(0, .ref (ad 5)), (1, z_v i0), (2, .ref q)]) [0, 1, 2] rfl ?_
  refine z_aloadn C 0 dX3_goesBy_0 rfl rfl ?_
  refine z_get C 5 (by decide) rfl rfl z_it3 0 (by decide) rfl fl_3_12 rfl dX3_goesBy_1 ?_
  refine z_iloadn C 1 dX3_goesBy_4 rfl rfl ?_
  refine z_aloadn C 0 dX3_goesBy_5 rfl rfl ?_
  refine z_get C 5 (by decide) rfl rfl z_it3 3 (by decide) rfl fl_3_22 rfl dX3_goesBy_6 ?_
  refine z_callV C (cm_X4_copyFacts l i0 Ha_sfacts Ha_facts (by omega)) mv_3_88 (z_atS 6 4 (by decide) rfl rfl rfl) pd_X4_copyFacts ⟨by omega, by omega⟩ ⟨by omega, by omega⟩ rfl (Nat.le_of_ble_eq_true rfl) dX3_goesBy_9 ?_
  rintro _ _ _ ⟨n1, rfl, rfl, h4, q9_0, rfl⟩
  refine z_aloadn C 0 dX3_goesBy_12 rfl rfl ?_
  refine z_get C 5 (by decide) rfl rfl z_it3 3 (by decide) rfl fl_3_22 rfl dX3_goesBy_13 ?_
  refine z_bipush C dX3_goesBy_16 (by decide) ?_
  refine z_iald C 9 (by decide) rfl (by decide) (by omega) (by omega) dX3_goesBy_18 ?_
  have rx5 := h4 (6 : Int).toNat
  generalize ex5 : n1 (6 : Int).toNat = x5 at rx5 ⊢
  obtain ⟨fs, hfs, hfx⟩ : ∃ v : Int, a_sfacts (i0 * 7 + 6 : Int).toNat = v ∧ v = x5 := ⟨_, rfl, by rw [← ex5, show (i0 * 7 + 6 : Int).toNat = (i0 * 7 : Int).toNat + 6 by omega]; exact (q9_0 6 (by omega)).symm⟩
  have hf6 : n1 6 = fs := by rw [hfx]; exact ex5
  refine z_bipush C dX3_goesBy_19 (by decide) ?_
  refine z_icmp_ge (t := 35) C dX3_goesBy_21 (by decide) (by omega) (by omega) (fun c6 => ?_) (fun c6 => ?_)
  · skip
    refine z_iconst C dX3_goesBy_35 ?_
    rw [hQ]
    exact z_zret C hrt (by omega) dX3_goesBy_36 (⟨n1, a_zone, rfl, rfl, h4, Ha_zone, _, rfl, ⟨by omega, by omega⟩⟩) (by omega) (by omega)
  · skip
    refine z_aloadn C 2 dX3_goesBy_24 rfl rfl ?_
    refine z_aloadn C 0 dX3_goesBy_25 rfl rfl ?_
    refine z_get C 5 (by decide) rfl rfl z_it3 3 (by decide) rfl fl_3_22 rfl dX3_goesBy_26 ?_
    obtain ⟨fd7, sd7, pd7, od7, rd7, yd7, ad7, bd7, kd7⟩ := id hq
    refine z_callV C (cm_X1_startsAt_9 l q h4 hq) mv_3_92 (z_atY 1 yd7 rfl rfl) pd_X1_startsAt ⟨by omega, by omega⟩ ⟨by omega, by omega⟩ rfl (Nat.le_of_ble_eq_true rfl) dX3_goesBy_29 ?_
    rintro _ _ _ ⟨rfl, rfl, z10, rfl, hz10⟩
    refine z_if_ne (t := 37) C dX3_goesBy_32 (by decide) (by omega) (fun c11 => ?_) (fun c11 => ?_)
    · skip
      refine z_aloadn C 0 dX3_goesBy_37 rfl rfl ?_
      refine z_get C 5 (by decide) rfl rfl z_it3 0 (by decide) rfl fl_3_12 rfl dX3_goesBy_38 ?_
      refine z_iloadn C 1 dX3_goesBy_41 rfl rfl ?_
      refine z_aloadn C 0 dX3_goesBy_42 rfl rfl ?_
      refine z_get C 5 (by decide) rfl rfl z_it3 4 (by decide) rfl fl_3_29 rfl dX3_goesBy_43 ?_
      refine z_callV C (cm_X4_copyZone l i0 Ha_sbounds Ha_zone (by omega)) mv_3_98 (z_atS 6 4 (by decide) rfl rfl rfl) pd_X4_copyZone ⟨by omega, by omega⟩ ⟨by omega, by omega⟩ rfl (Nat.le_of_ble_eq_true rfl) dX3_goesBy_46 ?_
      rintro _ _ _ ⟨n12, rfl, rfl, h15, rfl⟩
      refine z_aloadn C 2 dX3_goesBy_49 rfl rfl ?_
      refine z_aloadn C 0 dX3_goesBy_50 rfl rfl ?_
      refine z_get C 5 (by decide) rfl rfl z_it3 4 (by decide) rfl fl_3_29 rfl dX3_goesBy_51 ?_
      obtain ⟨fd16, sd16, pd16, od16, rd16, yd16, ad16, bd16, kd16⟩ := id hq
      refine z_callV C (cm_X1_guardsNarrow l q h15 hq) mv_3_102 (z_atY 1 yd16 rfl rfl) pd_X1_guardsNarrow ⟨by omega, by omega⟩ ⟨by omega, by omega⟩ rfl (Nat.le_of_ble_eq_true rfl) dX3_goesBy_54 ?_
      rintro _ _ _ ⟨n17, rfl, rfl, h20, z21, rfl, hz21⟩
      refine z_if_ne (t := 62) C dX3_goesBy_57 (by decide) (by omega) (fun c22 => ?_) (fun c22 => ?_)
      · skip
        refine z_iconst C dX3_goesBy_62 ?_
        refine z_istoren (L' := [(3, z_v 1), (0, .ref (ad 5)), (1, z_v i0), (2, .ref q)]) C dX3_goesBy_63 rfl (by decide) rfl ?_
        have L64 : ∀ (n : Nat), ∀ (i3 : Int) (fa_zone : Nat → Int), ((∀ j, z_rg (fa_zone j))) → (1 ≤ i3 ∧ i3 ≤ 4) → ((4 : Int) - i3).toNat < n → z_V p l e R s m args below meth c Q D A 27 ad 4 (z_zc ad ks s_edgeCount s_moveCount s_isNeeded s_timesDone s_size s_isGoing s_allTime s_stepCount s_gapCount g_edges g_moves g_limits a_sfacts a_sbounds n1 fa_zone a_most a_places a_amounts a_nextPlaces a_nextAmounts a_earliest a_visited a_lastSet a_gapFrom a_gapTo a_gapLeast a_askedPlaces a_askedAmounts) Y 0 0 64 [(0, .ref (ad 5)), (1, z_v i0), (2, .ref q), (3, z_v i3)] [] := by
          intro n
          induction n with
          | zero => intro i3 fa_zone Hfa_zone I3 hm; exact absurd hm (Nat.not_lt_zero _)
          | succ n ih64 =>
            intro i3 fa_zone Hfa_zone I3 hm
            refine z_iloadn C 3 dX3_goesBy_64 rfl rfl ?_
            refine z_iconst C dX3_goesBy_65 ?_
            refine z_icmp_ge (t := 91) C dX3_goesBy_66 (by decide) (by omega) (by omega) (fun c23 => ?_) (fun c23 => ?_)
            · skip
              refine z_aloadn C 2 dX3_goesBy_91 rfl rfl ?_
              refine z_aloadn C 0 dX3_goesBy_92 rfl rfl ?_
              refine z_get C 5 (by decide) rfl rfl z_it3 3 (by decide) rfl fl_3_22 rfl dX3_goesBy_93 ?_
              obtain ⟨fd24, sd24, pd24, od24, rd24, yd24, ad24, bd24, kd24⟩ := id hq
              refine z_callV C (cm_X1_carry_9 l q h4 hq) mv_3_114 (z_atY 1 yd24 rfl rfl) pd_X1_carry ⟨by omega, by omega⟩ ⟨by omega, by omega⟩ rfl (Nat.le_of_ble_eq_true rfl) dX3_goesBy_96 ?_
              rintro _ _ _ ⟨n25, rfl, rfl, h28, q96_0, rfl⟩
              refine z_aloadn C 0 dX3_goesBy_99 rfl rfl ?_
              refine z_get C 5 (by decide) rfl rfl z_it3 3 (by decide) rfl fl_3_22 rfl dX3_goesBy_100 ?_
              refine z_iconst C dX3_goesBy_103 ?_
              refine z_iloadn C 1 dX3_goesBy_104 rfl rfl ?_
              refine z_iast C 9 (by decide) rfl (by decide) (by omega) (by omega) dX3_goesBy_105 ?_
              refine z_ext (S' := (z_zc ad ks s_edgeCount s_moveCount s_isNeeded s_timesDone s_size s_isGoing s_allTime s_stepCount s_gapCount g_edges g_moves g_limits a_sfacts a_sbounds (va_up n25 (3 : Int).toNat i0) fa_zone a_most a_places a_amounts a_nextPlaces a_nextAmounts a_earliest a_visited a_lastSet a_gapFrom a_gapTo a_gapLeast a_askedPlaces a_askedAmounts)) upC_a_facts ?_
              have h29 : ∀ j, (j % 7 < 3 → 0 ≤ (va_up n25 (3 : Int).toNat i0) j ∧ (va_up n25 (3 : Int).toNat i0) j ≤ 5) ∧ (j % 7 = 3 → -1 ≤ (va_up n25 (3 : Int).toNat i0) j ∧ (va_up n25 (3 : Int).toNat i0) j ≤ 119) ∧ (j % 7 = 6 → 0 ≤ (va_up n25 (3 : Int).toNat i0) j ∧ (va_up n25 (3 : Int).toNat i0) j ≤ 40) ∧ z_rg ((va_up n25 (3 : Int).toNat i0) j) := z_upP (P := fun j v => (j % 7 < 3 → 0 ≤ v ∧ v ≤ 5) ∧ (j % 7 = 3 → -1 ≤ v ∧ v ≤ 119) ∧ (j % 7 = 6 → 0 ≤ v ∧ v ≤ 40) ∧ z_rg (v)) h28 (by omega)
              refine z_aloadn C 0 dX3_goesBy_106 rfl rfl ?_
              refine z_get C 5 (by decide) rfl rfl z_it3 3 (by decide) rfl fl_3_22 rfl dX3_goesBy_107 ?_
              refine z_iconst C dX3_goesBy_110 ?_
              refine z_aloadn C 2 dX3_goesBy_111 rfl rfl ?_
              obtain ⟨fd30, sd30, pd30, od30, rd30, yd30, ad30, bd30, kd30⟩ := id hq
              rcases od30 with _ | od30
              · skip
                refine z_getY C yd30 rfl z_it1 0 (by decide) rfl fl_3_118 rfl dX3_goesBy_112 ?_
                refine z_iast C 9 (by decide) rfl (by decide) (by omega) (by omega) dX3_goesBy_115 ?_
                refine z_ext (S' := (z_zc ad ks s_edgeCount s_moveCount s_isNeeded s_timesDone s_size s_isGoing s_allTime s_stepCount s_gapCount g_edges g_moves g_limits a_sfacts a_sbounds (va_up (va_up n25 (3 : Int).toNat i0) (4 : Int).toNat fd30) fa_zone a_most a_places a_amounts a_nextPlaces a_nextAmounts a_earliest a_visited a_lastSet a_gapFrom a_gapTo a_gapLeast a_askedPlaces a_askedAmounts)) upC_a_facts ?_
                have h31 : ∀ j, (j % 7 < 3 → 0 ≤ (va_up (va_up n25 (3 : Int).toNat i0) (4 : Int).toNat fd30) j ∧ (va_up (va_up n25 (3 : Int).toNat i0) (4 : Int).toNat fd30) j ≤ 5) ∧ (j % 7 = 3 → -1 ≤ (va_up (va_up n25 (3 : Int).toNat i0) (4 : Int).toNat fd30) j ∧ (va_up (va_up n25 (3 : Int).toNat i0) (4 : Int).toNat fd30) j ≤ 119) ∧ (j % 7 = 6 → 0 ≤ (va_up (va_up n25 (3 : Int).toNat i0) (4 : Int).toNat fd30) j ∧ (va_up (va_up n25 (3 : Int).toNat i0) (4 : Int).toNat fd30) j ≤ 40) ∧ z_rg ((va_up (va_up n25 (3 : Int).toNat i0) (4 : Int).toNat fd30) j) := z_upP (P := fun j v => (j % 7 < 3 → 0 ≤ v ∧ v ≤ 5) ∧ (j % 7 = 3 → -1 ≤ v ∧ v ≤ 119) ∧ (j % 7 = 6 → 0 ≤ v ∧ v ≤ 40) ∧ z_rg (v)) h29 (by omega)
                refine z_aloadn C 0 dX3_goesBy_116 rfl rfl ?_
                refine z_get C 5 (by decide) rfl rfl z_it3 3 (by decide) rfl fl_3_22 rfl dX3_goesBy_117 ?_
                refine z_iconst C dX3_goesBy_120 ?_
                refine z_aloadn C 2 dX3_goesBy_121 rfl rfl ?_
                refine z_getY C yd30 rfl z_it1 1 (by decide) rfl fl_3_121 rfl dX3_goesBy_122 ?_
                refine z_iast C 9 (by decide) rfl (by decide) (by omega) (by omega) dX3_goesBy_125 ?_
                refine z_ext (S' := (z_zc ad ks s_edgeCount s_moveCount s_isNeeded s_timesDone s_size s_isGoing s_allTime s_stepCount s_gapCount g_edges g_moves g_limits a_sfacts a_sbounds (va_up (va_up (va_up n25 (3 : Int).toNat i0) (4 : Int).toNat fd30) (5 : Int).toNat sd30) fa_zone a_most a_places a_amounts a_nextPlaces a_nextAmounts a_earliest a_visited a_lastSet a_gapFrom a_gapTo a_gapLeast a_askedPlaces a_askedAmounts)) upC_a_facts ?_
                have h32 : ∀ j, (j % 7 < 3 → 0 ≤ (va_up (va_up (va_up n25 (3 : Int).toNat i0) (4 : Int).toNat fd30) (5 : Int).toNat sd30) j ∧ (va_up (va_up (va_up n25 (3 : Int).toNat i0) (4 : Int).toNat fd30) (5 : Int).toNat sd30) j ≤ 5) ∧ (j % 7 = 3 → -1 ≤ (va_up (va_up (va_up n25 (3 : Int).toNat i0) (4 : Int).toNat fd30) (5 : Int).toNat sd30) j ∧ (va_up (va_up (va_up n25 (3 : Int).toNat i0) (4 : Int).toNat fd30) (5 : Int).toNat sd30) j ≤ 119) ∧ (j % 7 = 6 → 0 ≤ (va_up (va_up (va_up n25 (3 : Int).toNat i0) (4 : Int).toNat fd30) (5 : Int).toNat sd30) j ∧ (va_up (va_up (va_up n25 (3 : Int).toNat i0) (4 : Int).toNat fd30) (5 : Int).toNat sd30) j ≤ 40) ∧ z_rg ((va_up (va_up (va_up n25 (3 : Int).toNat i0) (4 : Int).toNat fd30) (5 : Int).toNat sd30) j) := z_upP (P := fun j v => (j % 7 < 3 → 0 ≤ v ∧ v ≤ 5) ∧ (j % 7 = 3 → -1 ≤ v ∧ v ≤ 119) ∧ (j % 7 = 6 → 0 ≤ v ∧ v ≤ 40) ∧ z_rg (v)) h31 (by omega)
                refine z_aloadn C 0 dX3_goesBy_126 rfl rfl ?_
                refine z_get C 5 (by decide) rfl rfl z_it3 3 (by decide) rfl fl_3_22 rfl dX3_goesBy_127 ?_
                refine z_bipush C dX3_goesBy_130 (by decide) ?_
                refine z_dup2 C dX3_goesBy_132 rfl rfl ?_
                refine z_iald C 9 (by decide) rfl (by decide) (by omega) (by omega) dX3_goesBy_133 ?_
                have rx33 := h32 (6 : Int).toNat
                generalize ex33 : (va_up (va_up (va_up n25 (3 : Int).toNat i0) (4 : Int).toNat fd30) (5 : Int).toNat sd30) (6 : Int).toNat = x33 at rx33 ⊢
                have qx : x33 = fs := by rw [← ex33, ← hf6]; exact q96_0 6 (by omega)
                refine z_iconst C dX3_goesBy_134 ?_
                refine z_iadd C dX3_goesBy_135 ?_
                refine z_iast C 9 (by decide) rfl (by decide) (by omega) (by omega) dX3_goesBy_136 ?_
                refine z_ext (S' := (z_zc ad ks s_edgeCount s_moveCount s_isNeeded s_timesDone s_size s_isGoing s_allTime s_stepCount s_gapCount g_edges g_moves g_limits a_sfacts a_sbounds (va_up (va_up (va_up (va_up n25 (3 : Int).toNat i0) (4 : Int).toNat fd30) (5 : Int).toNat sd30) (6 : Int).toNat (x33 + 1)) fa_zone a_most a_places a_amounts a_nextPlaces a_nextAmounts a_earliest a_visited a_lastSet a_gapFrom a_gapTo a_gapLeast a_askedPlaces a_askedAmounts)) upC_a_facts ?_
                have h34 : ∀ j, (j % 7 < 3 → 0 ≤ (va_up (va_up (va_up (va_up n25 (3 : Int).toNat i0) (4 : Int).toNat fd30) (5 : Int).toNat sd30) (6 : Int).toNat (x33 + 1)) j ∧ (va_up (va_up (va_up (va_up n25 (3 : Int).toNat i0) (4 : Int).toNat fd30) (5 : Int).toNat sd30) (6 : Int).toNat (x33 + 1)) j ≤ 5) ∧ (j % 7 = 3 → -1 ≤ (va_up (va_up (va_up (va_up n25 (3 : Int).toNat i0) (4 : Int).toNat fd30) (5 : Int).toNat sd30) (6 : Int).toNat (x33 + 1)) j ∧ (va_up (va_up (va_up (va_up n25 (3 : Int).toNat i0) (4 : Int).toNat fd30) (5 : Int).toNat sd30) (6 : Int).toNat (x33 + 1)) j ≤ 119) ∧ (j % 7 = 6 → 0 ≤ (va_up (va_up (va_up (va_up n25 (3 : Int).toNat i0) (4 : Int).toNat fd30) (5 : Int).toNat sd30) (6 : Int).toNat (x33 + 1)) j ∧ (va_up (va_up (va_up (va_up n25 (3 : Int).toNat i0) (4 : Int).toNat fd30) (5 : Int).toNat sd30) (6 : Int).toNat (x33 + 1)) j ≤ 40) ∧ z_rg ((va_up (va_up (va_up (va_up n25 (3 : Int).toNat i0) (4 : Int).toNat fd30) (5 : Int).toNat sd30) (6 : Int).toNat (x33 + 1)) j) := z_upP (P := fun j v => (j % 7 < 3 → 0 ≤ v ∧ v ≤ 5) ∧ (j % 7 = 3 → -1 ≤ v ∧ v ≤ 119) ∧ (j % 7 = 6 → 0 ≤ v ∧ v ≤ 40) ∧ z_rg (v)) h32 (by omega)
                refine z_iconst C dX3_goesBy_137 ?_
                rw [hQ]
                exact z_zret C hrt (by omega) dX3_goesBy_138 (⟨(va_up (va_up (va_up (va_up n25 (3 : Int).toNat i0) (4 : Int).toNat fd30) (5 : Int).toNat sd30) (6 : Int).toNat (x33 + 1)), fa_zone, rfl, rfl, h34, Hfa_zone, _, rfl, ⟨by omega, fun _ => ⟨rfl, by rw [hfs, ← qx]; rfl⟩⟩⟩) (by omega) (by omega)
              · skip
                refine z_getY C yd30 rfl z_it1 0 (by decide) rfl fl_3_118 rfl dX3_goesBy_112 ?_
                refine z_iast C 9 (by decide) rfl (by decide) (by omega) (by omega) dX3_goesBy_115 ?_
                refine z_ext (S' := (z_zc ad ks s_edgeCount s_moveCount s_isNeeded s_timesDone s_size s_isGoing s_allTime s_stepCount s_gapCount g_edges g_moves g_limits a_sfacts a_sbounds (va_up (va_up n25 (3 : Int).toNat i0) (4 : Int).toNat fd30) fa_zone a_most a_places a_amounts a_nextPlaces a_nextAmounts a_earliest a_visited a_lastSet a_gapFrom a_gapTo a_gapLeast a_askedPlaces a_askedAmounts)) upC_a_facts ?_
                have h35 : ∀ j, (j % 7 < 3 → 0 ≤ (va_up (va_up n25 (3 : Int).toNat i0) (4 : Int).toNat fd30) j ∧ (va_up (va_up n25 (3 : Int).toNat i0) (4 : Int).toNat fd30) j ≤ 5) ∧ (j % 7 = 3 → -1 ≤ (va_up (va_up n25 (3 : Int).toNat i0) (4 : Int).toNat fd30) j ∧ (va_up (va_up n25 (3 : Int).toNat i0) (4 : Int).toNat fd30) j ≤ 119) ∧ (j % 7 = 6 → 0 ≤ (va_up (va_up n25 (3 : Int).toNat i0) (4 : Int).toNat fd30) j ∧ (va_up (va_up n25 (3 : Int).toNat i0) (4 : Int).toNat fd30) j ≤ 40) ∧ z_rg ((va_up (va_up n25 (3 : Int).toNat i0) (4 : Int).toNat fd30) j) := z_upP (P := fun j v => (j % 7 < 3 → 0 ≤ v ∧ v ≤ 5) ∧ (j % 7 = 3 → -1 ≤ v ∧ v ≤ 119) ∧ (j % 7 = 6 → 0 ≤ v ∧ v ≤ 40) ∧ z_rg (v)) h29 (by omega)
                refine z_aloadn C 0 dX3_goesBy_116 rfl rfl ?_
                refine z_get C 5 (by decide) rfl rfl z_it3 3 (by decide) rfl fl_3_22 rfl dX3_goesBy_117 ?_
                refine z_iconst C dX3_goesBy_120 ?_
                refine z_aloadn C 2 dX3_goesBy_121 rfl rfl ?_
                refine z_getY C yd30 rfl z_it1 1 (by decide) rfl fl_3_121 rfl dX3_goesBy_122 ?_
                refine z_iast C 9 (by decide) rfl (by decide) (by omega) (by omega) dX3_goesBy_125 ?_
                refine z_ext (S' := (z_zc ad ks s_edgeCount s_moveCount s_isNeeded s_timesDone s_size s_isGoing s_allTime s_stepCount s_gapCount g_edges g_moves g_limits a_sfacts a_sbounds (va_up (va_up (va_up n25 (3 : Int).toNat i0) (4 : Int).toNat fd30) (5 : Int).toNat sd30) fa_zone a_most a_places a_amounts a_nextPlaces a_nextAmounts a_earliest a_visited a_lastSet a_gapFrom a_gapTo a_gapLeast a_askedPlaces a_askedAmounts)) upC_a_facts ?_
                have h36 : ∀ j, (j % 7 < 3 → 0 ≤ (va_up (va_up (va_up n25 (3 : Int).toNat i0) (4 : Int).toNat fd30) (5 : Int).toNat sd30) j ∧ (va_up (va_up (va_up n25 (3 : Int).toNat i0) (4 : Int).toNat fd30) (5 : Int).toNat sd30) j ≤ 5) ∧ (j % 7 = 3 → -1 ≤ (va_up (va_up (va_up n25 (3 : Int).toNat i0) (4 : Int).toNat fd30) (5 : Int).toNat sd30) j ∧ (va_up (va_up (va_up n25 (3 : Int).toNat i0) (4 : Int).toNat fd30) (5 : Int).toNat sd30) j ≤ 119) ∧ (j % 7 = 6 → 0 ≤ (va_up (va_up (va_up n25 (3 : Int).toNat i0) (4 : Int).toNat fd30) (5 : Int).toNat sd30) j ∧ (va_up (va_up (va_up n25 (3 : Int).toNat i0) (4 : Int).toNat fd30) (5 : Int).toNat sd30) j ≤ 40) ∧ z_rg ((va_up (va_up (va_up n25 (3 : Int).toNat i0) (4 : Int).toNat fd30) (5 : Int).toNat sd30) j) := z_upP (P := fun j v => (j % 7 < 3 → 0 ≤ v ∧ v ≤ 5) ∧ (j % 7 = 3 → -1 ≤ v ∧ v ≤ 119) ∧ (j % 7 = 6 → 0 ≤ v ∧ v ≤ 40) ∧ z_rg (v)) h35 (by omega)
                refine z_aloadn C 0 dX3_goesBy_126 rfl rfl ?_
                refine z_get C 5 (by decide) rfl rfl z_it3 3 (by decide) rfl fl_3_22 rfl dX3_goesBy_127 ?_
                refine z_bipush C dX3_goesBy_130 (by decide) ?_
                refine z_dup2 C dX3_goesBy_132 rfl rfl ?_
                refine z_iald C 9 (by decide) rfl (by decide) (by omega) (by omega) dX3_goesBy_133 ?_
                have rx37 := h36 (6 : Int).toNat
                generalize ex37 : (va_up (va_up (va_up n25 (3 : Int).toNat i0) (4 : Int).toNat fd30) (5 : Int).toNat sd30) (6 : Int).toNat = x37 at rx37 ⊢
                have qx : x37 = fs := by rw [← ex37, ← hf6]; exact q96_0 6 (by omega)
                refine z_iconst C dX3_goesBy_134 ?_
                refine z_iadd C dX3_goesBy_135 ?_
                refine z_iast C 9 (by decide) rfl (by decide) (by omega) (by omega) dX3_goesBy_136 ?_
                refine z_ext (S' := (z_zc ad ks s_edgeCount s_moveCount s_isNeeded s_timesDone s_size s_isGoing s_allTime s_stepCount s_gapCount g_edges g_moves g_limits a_sfacts a_sbounds (va_up (va_up (va_up (va_up n25 (3 : Int).toNat i0) (4 : Int).toNat fd30) (5 : Int).toNat sd30) (6 : Int).toNat (x37 + 1)) fa_zone a_most a_places a_amounts a_nextPlaces a_nextAmounts a_earliest a_visited a_lastSet a_gapFrom a_gapTo a_gapLeast a_askedPlaces a_askedAmounts)) upC_a_facts ?_
                have h38 : ∀ j, (j % 7 < 3 → 0 ≤ (va_up (va_up (va_up (va_up n25 (3 : Int).toNat i0) (4 : Int).toNat fd30) (5 : Int).toNat sd30) (6 : Int).toNat (x37 + 1)) j ∧ (va_up (va_up (va_up (va_up n25 (3 : Int).toNat i0) (4 : Int).toNat fd30) (5 : Int).toNat sd30) (6 : Int).toNat (x37 + 1)) j ≤ 5) ∧ (j % 7 = 3 → -1 ≤ (va_up (va_up (va_up (va_up n25 (3 : Int).toNat i0) (4 : Int).toNat fd30) (5 : Int).toNat sd30) (6 : Int).toNat (x37 + 1)) j ∧ (va_up (va_up (va_up (va_up n25 (3 : Int).toNat i0) (4 : Int).toNat fd30) (5 : Int).toNat sd30) (6 : Int).toNat (x37 + 1)) j ≤ 119) ∧ (j % 7 = 6 → 0 ≤ (va_up (va_up (va_up (va_up n25 (3 : Int).toNat i0) (4 : Int).toNat fd30) (5 : Int).toNat sd30) (6 : Int).toNat (x37 + 1)) j ∧ (va_up (va_up (va_up (va_up n25 (3 : Int).toNat i0) (4 : Int).toNat fd30) (5 : Int).toNat sd30) (6 : Int).toNat (x37 + 1)) j ≤ 40) ∧ z_rg ((va_up (va_up (va_up (va_up n25 (3 : Int).toNat i0) (4 : Int).toNat fd30) (5 : Int).toNat sd30) (6 : Int).toNat (x37 + 1)) j) := z_upP (P := fun j v => (j % 7 < 3 → 0 ≤ v ∧ v ≤ 5) ∧ (j % 7 = 3 → -1 ≤ v ∧ v ≤ 119) ∧ (j % 7 = 6 → 0 ≤ v ∧ v ≤ 40) ∧ z_rg (v)) h36 (by omega)
                refine z_iconst C dX3_goesBy_137 ?_
                rw [hQ]
                exact z_zret C hrt (by omega) dX3_goesBy_138 (⟨(va_up (va_up (va_up (va_up n25 (3 : Int).toNat i0) (4 : Int).toNat fd30) (5 : Int).toNat sd30) (6 : Int).toNat (x37 + 1)), fa_zone, rfl, rfl, h38, Hfa_zone, _, rfl, ⟨by omega, fun _ => ⟨rfl, by rw [hfs, ← qx]; rfl⟩⟩⟩) (by omega) (by omega)
            · skip
              refine z_aloadn C 2 dX3_goesBy_69 rfl rfl ?_
              refine z_iloadn C 3 dX3_goesBy_70 rfl rfl ?_
              obtain ⟨fd39, sd39, pd39, od39, rd39, yd39, ad39, bd39, kd39⟩ := id hq
              refine z_callV C (cm_X1_sets l i3 q hq (by omega)) mv_3_106 (z_atY 1 yd39 rfl rfl) pd_X1_sets ⟨by omega, by omega⟩ ⟨by omega, by omega⟩ rfl (Nat.le_of_ble_eq_true rfl) dX3_goesBy_71 ?_
              rintro _ _ _ ⟨rfl, rfl, z42, rfl, hz42⟩
              refine z_if_eq (t := 85) C dX3_goesBy_74 (by decide) (by omega) (fun c43 => ?_) (fun c43 => ?_)
              · skip
                refine z_iinc (L' := [(3, z_v (i3 + 1)), (0, .ref (ad 5)), (1, z_v i0), (2, .ref q)]) C 3 dX3_goesBy_85 rfl (by decide) rfl ?_
                refine z_goto (t := 64) C dX3_goesBy_88 (by decide) ?_
                refine z_loc (L' := [(0, .ref (ad 5)), (1, z_v i0), (2, .ref q), (3, z_v (i3 + 1))]) [1, 2, 3, 0] rfl ?_
                exact ih64 (i3 + 1) fa_zone Hfa_zone (by omega) (by omega)
              · skip
                refine z_aloadn C 0 dX3_goesBy_77 rfl rfl ?_
                refine z_get C 5 (by decide) rfl rfl z_it3 4 (by decide) rfl fl_3_29 rfl dX3_goesBy_78 ?_
                refine z_iloadn C 3 dX3_goesBy_81 rfl rfl ?_
                refine z_callV C (cm_X9_setToZero l i3 Hfa_zone (by omega)) mv_3_110 (z_atS 10 9 (by decide) rfl rfl rfl) pd_X9_setToZero ⟨by omega, by omega⟩ ⟨by omega, by omega⟩ rfl (Nat.le_of_ble_eq_true rfl) dX3_goesBy_82 ?_
                rintro _ _ _ ⟨n44, rfl, rfl, h47, rfl⟩
                refine z_iinc (L' := [(3, z_v (i3 + 1)), (0, .ref (ad 5)), (1, z_v i0), (2, .ref q)]) C 3 dX3_goesBy_85 rfl (by decide) rfl ?_
                refine z_goto (t := 64) C dX3_goesBy_88 (by decide) ?_
                refine z_loc (L' := [(0, .ref (ad 5)), (1, z_v i0), (2, .ref q), (3, z_v (i3 + 1))]) [1, 2, 3, 0] rfl ?_
                exact ih64 (i3 + 1) n44 h47 (by omega) (by omega)
        refine z_loc (L' := [(0, .ref (ad 5)), (1, z_v i0), (2, .ref q), (3, z_v 1)]) [1, 2, 3, 0] rfl ?_
        exact (L64 (((4 : Int) - 1).toNat + 1)) 1 n17 h20 (by omega) (Nat.lt_succ_self _)
      · skip
        refine z_iconst C dX3_goesBy_60 ?_
        rw [hQ]
        exact z_zret C hrt (by omega) dX3_goesBy_61 (⟨n1, n17, rfl, rfl, h4, h20, _, rfl, ⟨by omega, by omega⟩⟩) (by omega) (by omega)
    · skip
      refine z_iconst C dX3_goesBy_35 ?_
      rw [hQ]
      exact z_zret C hrt (by omega) dX3_goesBy_36 (⟨n1, a_zone, rfl, rfl, h4, Ha_zone, _, rfl, ⟨by omega, by omega⟩⟩) (by omega) (by omega)
set_option maxRecDepth 20000 in
theorem cm_X3_settles (l : Launch) {D : va_G} {A : Nat → Prop} {ad : Nat → Nat} {ks : z_Ks} {s_edgeCount s_moveCount s_isNeeded s_timesDone s_size s_isGoing s_allTime s_stepCount s_gapCount : Int} {g_edges g_moves g_limits : Nat → Option Nat} {a_sfacts a_sbounds a_facts a_zone a_most a_places a_amounts a_nextPlaces a_nextAmounts a_earliest a_visited a_lastSet a_gapFrom a_gapTo a_gapLeast a_askedPlaces a_askedAmounts : Nat → Int} {Y : Nat → Option va_E} (Ha_facts : (∀ j, (j % 7 < 3 → 0 ≤ a_facts j ∧ a_facts j ≤ 5) ∧ (j % 7 = 3 → -1 ≤ a_facts j ∧ a_facts j ≤ 119) ∧ (j % 7 = 6 → 0 ≤ a_facts j ∧ a_facts j ≤ 40) ∧ z_rg (a_facts j))) (Ha_zone : (∀ j, z_rg (a_zone j))) (Ha_most : (∀ j, 0 ≤ a_most j ∧ a_most j ≤ 1000)) (HL : ∀ j : Nat, (j : Int) < 18 → ∃ q, g_limits j = some q ∧ z_TL ks Y q) : z_Met l yX3_settles cX3_settles 2 (some .boolean) 4 94 0 0 D A 27 ad ks [.ref (ad 5), .ref (ad 1)] (z_zc ad ks s_edgeCount s_moveCount s_isNeeded s_timesDone s_size s_isGoing s_allTime s_stepCount s_gapCount g_edges g_moves g_limits a_sfacts a_sbounds a_facts a_zone a_most a_places a_amounts a_nextPlaces a_nextAmounts a_earliest a_visited a_lastSet a_gapFrom a_gapTo a_gapLeast a_askedPlaces a_askedAmounts) Y (fun r S' Y' => ∃ na_zone : Nat → Int, S' = (z_zc ad ks s_edgeCount s_moveCount s_isNeeded s_timesDone s_size s_isGoing s_allTime s_stepCount s_gapCount g_edges g_moves g_limits a_sfacts a_sbounds a_facts na_zone a_most a_places a_amounts a_nextPlaces a_nextAmounts a_earliest a_visited a_lastSet a_gapFrom a_gapTo a_gapLeast a_askedPlaces a_askedAmounts) ∧ Y = Y' ∧ (∀ j, z_rg (na_zone j)) ∧ ∃ z : Int, r = some (z_v z) ∧ (z = 0 ∨ z = 1)) := by
  refine z_start2 (by decide) (Nat.le_of_ble_eq_true rfl) ?_
  intro p e R s m args below meth c Q C hRf hRc hRs hRl hQ hrt hnm
  refine z_loc (L' := [(0, .ref (ad 5)), (1, .ref (ad 1))]) [0, 1] rfl ?_
  refine z_aloadn C 1 dX3_settles_0 rfl rfl ?_
  refine z_aloadn C 0 dX3_settles_1 rfl rfl ?_
  refine z_get C 5 (by decide) rfl rfl z_it3 3 (by decide) rfl fl_3_22 rfl dX3_settles_2 ?_
  refine z_aloadn C 0 dX3_settles_5 rfl rfl ?_
  refine z_get C 5 (by decide) rfl rfl z_it3 4 (by decide) rfl fl_3_29 rfl dX3_settles_6 ?_
  refine z_callV C (cm_X2_limitsNarrow l Ha_facts Ha_zone HL) mv_3_124 (z_atS 1 2 (by decide) rfl rfl rfl) pd_X2_limitsNarrow ⟨by omega, by omega⟩ ⟨by omega, by omega⟩ rfl (Nat.le_of_ble_eq_true rfl) dX3_settles_9 ?_
  rintro _ _ _ ⟨n1, rfl, rfl, h4, z5, rfl, hz5⟩
  refine z_if_ne (t := 17) C dX3_settles_12 (by decide) (by omega) (fun c6 => ?_) (fun c6 => ?_)
  · skip
    refine z_aloadn C 0 dX3_settles_17 rfl rfl ?_
    refine z_get C 5 (by decide) rfl rfl z_it3 4 (by decide) rfl fl_3_29 rfl dX3_settles_18 ?_
    refine z_callV C (cm_X9_letTimeGoBy l h4) mv_3_127 (z_atS 10 9 (by decide) rfl rfl rfl) pd_X9_letTimeGoBy ⟨by omega, by omega⟩ ⟨by omega, by omega⟩ rfl (Nat.le_of_ble_eq_true rfl) dX3_settles_21 ?_
    rintro _ _ _ ⟨n7, rfl, rfl, h10, rfl⟩
    refine z_aloadn C 1 dX3_settles_24 rfl rfl ?_
    refine z_aloadn C 0 dX3_settles_25 rfl rfl ?_
    refine z_get C 5 (by decide) rfl rfl z_it3 3 (by decide) rfl fl_3_22 rfl dX3_settles_26 ?_
    refine z_aloadn C 0 dX3_settles_29 rfl rfl ?_
    refine z_get C 5 (by decide) rfl rfl z_it3 4 (by decide) rfl fl_3_29 rfl dX3_settles_30 ?_
    refine z_callV C (cm_X2_limitsNarrow l Ha_facts h10 HL) mv_3_124 (z_atS 1 2 (by decide) rfl rfl rfl) pd_X2_limitsNarrow ⟨by omega, by omega⟩ ⟨by omega, by omega⟩ rfl (Nat.le_of_ble_eq_true rfl) dX3_settles_33 ?_
    rintro _ _ _ ⟨n11, rfl, rfl, h14, z15, rfl, hz15⟩
    refine z_if_ne (t := 41) C dX3_settles_36 (by decide) (by omega) (fun c16 => ?_) (fun c16 => ?_)
    · skip
      refine z_aloadn C 0 dX3_settles_41 rfl rfl ?_
      refine z_get C 5 (by decide) rfl rfl z_it3 4 (by decide) rfl fl_3_29 rfl dX3_settles_42 ?_
      refine z_aloadn C 0 dX3_settles_45 rfl rfl ?_
      refine z_get C 5 (by decide) rfl rfl z_it3 5 (by decide) rfl fl_3_33 rfl dX3_settles_46 ?_
      refine z_callV C (cm_X9_widen l h14 Ha_most) mv_3_130 (z_atS 10 9 (by decide) rfl rfl rfl) pd_X9_widen ⟨by omega, by omega⟩ ⟨by omega, by omega⟩ rfl (Nat.le_of_ble_eq_true rfl) dX3_settles_49 ?_
      rintro _ _ _ ⟨n17, rfl, rfl, h20, rfl⟩
      refine z_iconst C dX3_settles_52 ?_
      rw [hQ]
      exact z_zret C hrt (by omega) dX3_settles_53 (⟨n17, rfl, rfl, h20, _, rfl, by omega⟩) (by omega) (by omega)
    · skip
      refine z_iconst C dX3_settles_39 ?_
      rw [hQ]
      exact z_zret C hrt (by omega) dX3_settles_40 (⟨n11, rfl, rfl, h14, _, rfl, by omega⟩) (by omega) (by omega)
  · skip
    refine z_iconst C dX3_settles_15 ?_
    rw [hQ]
    exact z_zret C hrt (by omega) dX3_settles_16 (⟨n1, rfl, rfl, h4, _, rfl, by omega⟩) (by omega) (by omega)
set_option maxRecDepth 20000 in
set_option maxHeartbeats 1000000 in
theorem cm_X3_meetAll (l : Launch) {D : va_G} {A : Nat → Prop} {ad : Nat → Nat} {ks : z_Ks} {s_edgeCount s_moveCount s_isNeeded s_timesDone s_size s_isGoing s_allTime s_stepCount s_gapCount : Int} {g_edges g_moves g_limits : Nat → Option Nat} {a_sfacts a_sbounds a_facts a_zone a_most a_places a_amounts a_nextPlaces a_nextAmounts a_earliest a_visited a_lastSet a_gapFrom a_gapTo a_gapLeast a_askedPlaces a_askedAmounts : Nat → Int} {Y : Nat → Option va_E} (n0 : Int) (Hs_size : (0 ≤ s_size ∧ s_size ≤ 120)) (Hs_isNeeded : (s_isNeeded = 0 ∨ s_isNeeded = 1)) (Hs_timesDone : (0 ≤ s_timesDone ∧ s_timesDone ≤ 40)) (Ha_most : (∀ j, 0 ≤ a_most j ∧ a_most j ≤ 1000)) (Ha_facts : (∀ j, (j % 7 < 3 → 0 ≤ a_facts j ∧ a_facts j ≤ 5) ∧ (j % 7 = 3 → -1 ≤ a_facts j ∧ a_facts j ≤ 119) ∧ (j % 7 = 6 → 0 ≤ a_facts j ∧ a_facts j ≤ 40) ∧ z_rg (a_facts j))) (Ha_zone : (∀ j, z_rg (a_zone j))) (Ha_sfacts : (∀ j, (j % 7 < 3 → 0 ≤ a_sfacts j ∧ a_sfacts j ≤ 5) ∧ (j % 7 = 3 → -1 ≤ a_sfacts j ∧ a_sfacts j ≤ 119) ∧ (j % 7 = 6 → 0 ≤ a_sfacts j ∧ a_sfacts j ≤ 40) ∧ z_rg (a_sfacts j))) (Ha_sbounds : (∀ j, z_rg (a_sbounds j))) (Hs_edgeCount : (0 ≤ s_edgeCount ∧ s_edgeCount ≤ 20)) (Hs_moveCount : (0 ≤ s_moveCount ∧ s_moveCount ≤ 400)) (hn : 1 ≤ n0 ∧ n0 ≤ 120) (ht : s_timesDone ≤ 39) (HE : ∀ j : Nat, (j : Int) < s_edgeCount → ∃ q, g_edges j = some q ∧ z_E ks Y q) (HM : ∀ j : Nat, (j : Int) < s_moveCount → ∃ q, g_moves j = some q ∧ z_Mv ks Y q) (HL : ∀ j : Nat, (j : Int) < 18 → ∃ q, g_limits j = some q ∧ z_TL ks Y q) : z_Met l yX3_meetAll cX3_meetAll 5 (some .int) 5 115 0 0 D A 27 ad ks [.ref (ad 5), .ref (ad 1), z_v n0] (z_zc ad ks s_edgeCount s_moveCount s_isNeeded s_timesDone s_size s_isGoing s_allTime s_stepCount s_gapCount g_edges g_moves g_limits a_sfacts a_sbounds a_facts a_zone a_most a_places a_amounts a_nextPlaces a_nextAmounts a_earliest a_visited a_lastSet a_gapFrom a_gapTo a_gapLeast a_askedPlaces a_askedAmounts) Y (fun r S' Y' => ∃ ns_size : Int, ∃ ns_isNeeded : Int, ∃ ns_timesDone : Int, ∃ na_most : Nat → Int, ∃ na_facts : Nat → Int, ∃ na_zone : Nat → Int, ∃ na_sfacts : Nat → Int, ∃ na_sbounds : Nat → Int, S' = (z_zc ad ks s_edgeCount s_moveCount ns_isNeeded ns_timesDone ns_size s_isGoing s_allTime s_stepCount s_gapCount g_edges g_moves g_limits na_sfacts na_sbounds na_facts na_zone na_most a_places a_amounts a_nextPlaces a_nextAmounts a_earliest a_visited a_lastSet a_gapFrom a_gapTo a_gapLeast a_askedPlaces a_askedAmounts) ∧ Y = Y' ∧ (0 ≤ ns_size ∧ ns_size ≤ 120) ∧ (ns_isNeeded = 0 ∨ ns_isNeeded = 1) ∧ (0 ≤ ns_timesDone ∧ ns_timesDone ≤ 40) ∧ (∀ j, 0 ≤ na_most j ∧ na_most j ≤ 1000) ∧ (∀ j, (j % 7 < 3 → 0 ≤ na_facts j ∧ na_facts j ≤ 5) ∧ (j % 7 = 3 → -1 ≤ na_facts j ∧ na_facts j ≤ 119) ∧ (j % 7 = 6 → 0 ≤ na_facts j ∧ na_facts j ≤ 40) ∧ z_rg (na_facts j)) ∧ (∀ j, z_rg (na_zone j)) ∧ (∀ j, (j % 7 < 3 → 0 ≤ na_sfacts j ∧ na_sfacts j ≤ 5) ∧ (j % 7 = 3 → -1 ≤ na_sfacts j ∧ na_sfacts j ≤ 119) ∧ (j % 7 = 6 → 0 ≤ na_sfacts j ∧ na_sfacts j ≤ 40) ∧ z_rg (na_sfacts j)) ∧ (∀ j, z_rg (na_sbounds j)) ∧ z_cc ns_size na_sfacts ∧ ∃ z : Int, r = some (z_v z) ∧ (True)) := by
  refine z_start2 (by decide) (Nat.le_of_ble_eq_true rfl) ?_
  intro p e R s m args below meth c Q C hRf hRc hRs hRl hQ hrt hnm
  refine z_loc (L' := [(0, .ref (ad 5)), (1, .ref (ad 1)), (2, z_v n0)]) [0, 1, 2] rfl ?_
  refine z_aloadn C 0 dX3_meetAll_0 rfl rfl ?_
  refine z_aloadn C 1 dX3_meetAll_1 rfl rfl ?_
  refine z_callV C (cm_X3_prepare l (by omega) (by omega) Ha_most (by omega) HE HL) mv_3_36 (z_atS 5 3 (by decide) rfl rfl rfl) pd_X3_prepare ⟨by omega, by omega⟩ ⟨by omega, by omega⟩ rfl (Nat.le_of_ble_eq_true rfl) dX3_meetAll_2 ?_
  rintro _ _ _ ⟨n1, rfl, rfl, h4, rfl⟩
  refine z_aloadn C 0 dX3_meetAll_5 rfl rfl ?_
  refine z_callV C (cm_X3_standAtStart l Ha_facts Ha_zone) mv_3_40 (z_atS 5 3 (by decide) rfl rfl rfl) pd_X3_standAtStart ⟨by omega, by omega⟩ ⟨by omega, by omega⟩ rfl (Nat.le_of_ble_eq_true rfl) dX3_meetAll_6 ?_
  rintro _ _ _ ⟨n5, n6, rfl, rfl, h9, h10, q6_0, rfl⟩
  refine z_aloadn C 0 dX3_meetAll_9 rfl rfl ?_
  refine z_aloadn C 1 dX3_meetAll_10 rfl rfl ?_
  refine z_callV C (cm_X3_settles l h9 h10 h4 HL) mv_3_43 (z_atS 5 3 (by decide) rfl rfl rfl) pd_X3_settles ⟨by omega, by omega⟩ ⟨by omega, by omega⟩ rfl (Nat.le_of_ble_eq_true rfl) dX3_meetAll_11 ?_
  rintro _ _ _ ⟨n11, rfl, rfl, h14, z15, rfl, hz15⟩
  refine z_if_eq (t := 32) C dX3_meetAll_14 (by decide) (by omega) (fun c16 => ?_) (fun c16 => ?_)
  · skip
    have J32 : ∀ (fs_size : Int) (fa_facts : Nat → Int) (fa_zone : Nat → Int) (fa_sfacts : Nat → Int) (fa_sbounds : Nat → Int), ((0 ≤ fs_size ∧ fs_size ≤ 120)) → ((∀ j, (j % 7 < 3 → 0 ≤ fa_facts j ∧ fa_facts j ≤ 5) ∧ (j % 7 = 3 → -1 ≤ fa_facts j ∧ fa_facts j ≤ 119) ∧ (j % 7 = 6 → 0 ≤ fa_facts j ∧ fa_facts j ≤ 40) ∧ z_rg (fa_facts j))) → ((∀ j, z_rg (fa_zone j))) → ((∀ j, (j % 7 < 3 → 0 ≤ fa_sfacts j ∧ fa_sfacts j ≤ 5) ∧ (j % 7 = 3 → -1 ≤ fa_sfacts j ∧ fa_sfacts j ≤ 119) ∧ (j % 7 = 6 → 0 ≤ fa_sfacts j ∧ fa_sfacts j ≤ 40) ∧ z_rg (fa_sfacts j))) → ((∀ j, z_rg (fa_sbounds j))) → (z_cc fs_size fa_sfacts) → (fs_size ≤ n0) → z_V p l e R s m args below meth c Q D A 27 ad 5 (z_zc ad ks s_edgeCount s_moveCount 0 (s_timesDone + 1) fs_size s_isGoing s_allTime s_stepCount s_gapCount g_edges g_moves g_limits fa_sfacts fa_sbounds fa_facts fa_zone n1 a_places a_amounts a_nextPlaces a_nextAmounts a_earliest a_visited a_lastSet a_gapFrom a_gapTo a_gapLeast a_askedPlaces a_askedAmounts) Y 0 0 32 [(0, .ref (ad 5)), (1, .ref (ad 1)), (2, z_v n0)] [] := by
      intro fs_size fa_facts fa_zone fa_sfacts fa_sbounds Hfs_size Hfa_facts Hfa_zone Hfa_sfacts Hfa_sbounds CH K1
      refine z_iconst C dX3_meetAll_32 ?_
      refine z_istoren (L' := [(3, z_v 0), (0, .ref (ad 5)), (1, .ref (ad 1)), (2, z_v n0)]) C dX3_meetAll_33 rfl (by decide) rfl ?_
      have L34 : ∀ (n : Nat), ∀ (i3 : Int) (fs_size : Int) (fa_facts : Nat → Int) (fa_zone : Nat → Int) (fa_sfacts : Nat → Int) (fa_sbounds : Nat → Int), ((0 ≤ fs_size ∧ fs_size ≤ 120)) → ((∀ j, (j % 7 < 3 → 0 ≤ fa_facts j ∧ fa_facts j ≤ 5) ∧ (j % 7 = 3 → -1 ≤ fa_facts j ∧ fa_facts j ≤ 119) ∧ (j % 7 = 6 → 0 ≤ fa_facts j ∧ fa_facts j ≤ 40) ∧ z_rg (fa_facts j))) → ((∀ j, z_rg (fa_zone j))) → ((∀ j, (j % 7 < 3 → 0 ≤ fa_sfacts j ∧ fa_sfacts j ≤ 5) ∧ (j % 7 = 3 → -1 ≤ fa_sfacts j ∧ fa_sfacts j ≤ 119) ∧ (j % 7 = 6 → 0 ≤ fa_sfacts j ∧ fa_sfacts j ≤ 40) ∧ z_rg (fa_sfacts j))) → ((∀ j, z_rg (fa_sbounds j))) → (z_cc fs_size fa_sfacts) → (fs_size ≤ n0) → (0 ≤ i3 ∧ i3 ≤ 120) → ((120 : Int) - i3).toNat < n → z_V p l e R s m args below meth c Q D A 27 ad 5 (z_zc ad ks s_edgeCount s_moveCount 0 (s_timesDone + 1) fs_size s_isGoing s_allTime s_stepCount s_gapCount g_edges g_moves g_limits fa_sfacts fa_sbounds fa_facts fa_zone n1 a_places a_amounts a_nextPlaces a_nextAmounts a_earliest a_visited a_lastSet a_gapFrom a_gapTo a_gapLeast a_askedPlaces a_askedAmounts) Y 0 0 34 [(0, .ref (ad 5)), (1, .ref (ad 1)), (2, z_v n0), (3, z_v i3)] [] := by
        intro n
        induction n with
        | zero => intro i3 fs_size fa_facts fa_zone fa_sfacts fa_sbounds Hfs_size Hfa_facts Hfa_zone Hfa_sfacts Hfa_sbounds CH K1 I3 hm; exact absurd hm (Nat.not_lt_zero _)
        | succ n ih34 =>
          intro i3 fs_size fa_facts fa_zone fa_sfacts fa_sbounds Hfs_size Hfa_facts Hfa_zone Hfa_sfacts Hfa_sbounds CH K1 I3 hm
          refine z_iloadn C 3 dX3_meetAll_34 rfl rfl ?_
          refine z_aloadn C 0 dX3_meetAll_35 rfl rfl ?_
          refine z_get C 5 (by decide) rfl rfl z_it3 0 (by decide) rfl fl_3_12 rfl dX3_meetAll_36 ?_
          refine z_get C 6 (by decide) rfl rfl z_it4 0 (by decide) rfl fl_3_51 rfl dX3_meetAll_39 ?_
          refine z_icmp_ge (t := 149) C dX3_meetAll_42 (by decide) (by omega) (by omega) (fun c17 => ?_) (fun c17 => ?_)
          · skip
            refine z_aloadn C 0 dX3_meetAll_149 rfl rfl ?_
            refine z_get C 5 (by decide) rfl rfl z_it3 0 (by decide) rfl fl_3_12 rfl dX3_meetAll_150 ?_
            refine z_get C 6 (by decide) rfl rfl z_it4 0 (by decide) rfl fl_3_51 rfl dX3_meetAll_153 ?_
            rw [hQ]
            exact z_iret C hrt dX3_meetAll_156 (⟨fs_size, 0, (s_timesDone + 1), n1, fa_facts, fa_zone, fa_sfacts, fa_sbounds, rfl, rfl, by omega, by omega, by omega, h4, Hfa_facts, Hfa_zone, Hfa_sfacts, Hfa_sbounds, by first | assumption | exact q134_0 | exact q29_0 | exact z_cc0, _, rfl, trivial⟩) (by omega) (by omega)
          · skip
            refine z_iloadn C 3 dX3_meetAll_45 rfl rfl ?_
            refine z_bipush C dX3_meetAll_46 (by decide) ?_
            refine z_icmp_ge (t := 149) C dX3_meetAll_48 (by decide) (by omega) (by omega) (fun c18 => ?_) (fun c18 => ?_)
            · skip
              refine z_aloadn C 0 dX3_meetAll_149 rfl rfl ?_
              refine z_get C 5 (by decide) rfl rfl z_it3 0 (by decide) rfl fl_3_12 rfl dX3_meetAll_150 ?_
              refine z_get C 6 (by decide) rfl rfl z_it4 0 (by decide) rfl fl_3_51 rfl dX3_meetAll_153 ?_
              rw [hQ]
              exact z_iret C hrt dX3_meetAll_156 (⟨fs_size, 0, (s_timesDone + 1), n1, fa_facts, fa_zone, fa_sfacts, fa_sbounds, rfl, rfl, by omega, by omega, by omega, h4, Hfa_facts, Hfa_zone, Hfa_sfacts, Hfa_sbounds, by first | assumption | exact q134_0 | exact q29_0 | exact z_cc0, _, rfl, trivial⟩) (by omega) (by omega)
            · skip
              refine z_iconst C dX3_meetAll_51 ?_
              refine z_istore (L' := [(4, z_v 0), (0, .ref (ad 5)), (1, .ref (ad 1)), (2, z_v n0), (3, z_v i3)]) C dX3_meetAll_52 (by decide) rfl ?_
              have L54 : ∀ (n : Nat), ∀ (i4 : Int) (fs_size : Int) (fa_facts : Nat → Int) (fa_zone : Nat → Int) (fa_sfacts : Nat → Int) (fa_sbounds : Nat → Int), ((0 ≤ fs_size ∧ fs_size ≤ 120)) → ((∀ j, (j % 7 < 3 → 0 ≤ fa_facts j ∧ fa_facts j ≤ 5) ∧ (j % 7 = 3 → -1 ≤ fa_facts j ∧ fa_facts j ≤ 119) ∧ (j % 7 = 6 → 0 ≤ fa_facts j ∧ fa_facts j ≤ 40) ∧ z_rg (fa_facts j))) → ((∀ j, z_rg (fa_zone j))) → ((∀ j, (j % 7 < 3 → 0 ≤ fa_sfacts j ∧ fa_sfacts j ≤ 5) ∧ (j % 7 = 3 → -1 ≤ fa_sfacts j ∧ fa_sfacts j ≤ 119) ∧ (j % 7 = 6 → 0 ≤ fa_sfacts j ∧ fa_sfacts j ≤ 40) ∧ z_rg (fa_sfacts j))) → ((∀ j, z_rg (fa_sbounds j))) → (z_cc fs_size fa_sfacts) → (fs_size ≤ n0) → (i3 < fs_size) → (0 ≤ i4 ∧ i4 ≤ 400) → ((400 : Int) - i4).toNat < n → z_V p l e R s m args below meth c Q D A 27 ad 5 (z_zc ad ks s_edgeCount s_moveCount 0 (s_timesDone + 1) fs_size s_isGoing s_allTime s_stepCount s_gapCount g_edges g_moves g_limits fa_sfacts fa_sbounds fa_facts fa_zone n1 a_places a_amounts a_nextPlaces a_nextAmounts a_earliest a_visited a_lastSet a_gapFrom a_gapTo a_gapLeast a_askedPlaces a_askedAmounts) Y 0 0 54 [(0, .ref (ad 5)), (1, .ref (ad 1)), (2, z_v n0), (3, z_v i3), (4, z_v i4)] [] := by
                intro n
                induction n with
                | zero => intro i4 fs_size fa_facts fa_zone fa_sfacts fa_sbounds Hfs_size Hfa_facts Hfa_zone Hfa_sfacts Hfa_sbounds CH K1 K2 I4 hm; exact absurd hm (Nat.not_lt_zero _)
                | succ n ih54 =>
                  intro i4 fs_size fa_facts fa_zone fa_sfacts fa_sbounds Hfs_size Hfa_facts Hfa_zone Hfa_sfacts Hfa_sbounds CH K1 K2 I4 hm
                  refine z_iload C 4 dX3_meetAll_54 rfl ?_
                  refine z_aloadn C 1 dX3_meetAll_56 rfl rfl ?_
                  refine z_get C 1 (by decide) rfl rfl z_it2 3 (by decide) rfl fl_3_55 rfl dX3_meetAll_57 ?_
                  refine z_icmp_ge (t := 143) C dX3_meetAll_60 (by decide) (by omega) (by omega) (fun c19 => ?_) (fun c19 => ?_)
                  · skip
                    refine z_iinc (L' := [(3, z_v (i3 + 1)), (0, .ref (ad 5)), (1, .ref (ad 1)), (2, z_v n0), (4, z_v i4)]) C 3 dX3_meetAll_143 rfl (by decide) rfl ?_
                    refine z_goto (t := 34) C dX3_meetAll_146 (by decide) ?_
                    refine z_loc (L' := [(0, .ref (ad 5)), (1, .ref (ad 1)), (2, z_v n0), (3, z_v (i3 + 1))]) [1, 2, 3, 0] rfl ?_
                    exact ih34 (i3 + 1) fs_size fa_facts fa_zone fa_sfacts fa_sbounds (by omega) Hfa_facts Hfa_zone Hfa_sfacts Hfa_sbounds (by first | assumption | exact q134_0 | exact q29_0 | exact z_cc0) (by omega) (by omega) (by omega)
                  · skip
                    refine z_aloadn C 0 dX3_meetAll_63 rfl rfl ?_
                    refine z_iloadn C 3 dX3_meetAll_64 rfl rfl ?_
                    refine z_aloadn C 1 dX3_meetAll_65 rfl rfl ?_
                    refine z_get C 1 (by decide) rfl rfl z_it2 2 (by decide) rfl fl_3_60 rfl dX3_meetAll_66 ?_
                    refine z_iload C 4 dX3_meetAll_69 rfl ?_
                    obtain ⟨q20, eq20, hq20⟩ := HM (i4 : Int).toNat (by omega)
                    refine z_aaldS C 3 2 (by decide) rfl rfl (by decide) (by omega) (by omega) eq20 dX3_meetAll_71 ?_
                    refine z_callV C (cm_X3_goesBy l i3 q20 Hfa_sfacts Hfa_facts Hfa_sbounds Hfa_zone (by omega) hq20) mv_3_64 (z_atS 5 3 (by decide) rfl rfl rfl) pd_X3_goesBy ⟨by omega, by omega⟩ ⟨by omega, by omega⟩ rfl (Nat.le_of_ble_eq_true rfl) dX3_meetAll_72 ?_
                    rintro _ _ _ ⟨n21, n22, rfl, rfl, h25, h26, z27, rfl, hz27⟩
                    have g72 := hz27.2
                    refine z_if_eq (t := 137) C dX3_meetAll_75 (by decide) (by omega) (fun c28 => ?_) (fun c28 => ?_)
                    · skip
                      refine z_iinc (L' := [(4, z_v (i4 + 1)), (0, .ref (ad 5)), (1, .ref (ad 1)), (2, z_v n0), (3, z_v i3)]) C 4 dX3_meetAll_137 rfl (by decide) rfl ?_
                      refine z_goto (t := 54) C dX3_meetAll_140 (by decide) ?_
                      refine z_loc (L' := [(0, .ref (ad 5)), (1, .ref (ad 1)), (2, z_v n0), (3, z_v i3), (4, z_v (i4 + 1))]) [1, 2, 3, 4, 0] rfl ?_
                      exact ih54 (i4 + 1) fs_size n21 n22 fa_sfacts fa_sbounds (by omega) h25 h26 Hfa_sfacts Hfa_sbounds (by first | assumption | exact q134_0 | exact q29_0 | exact z_cc0) (by omega) (by omega) (by omega) (by omega)
                    · skip
                      refine z_aloadn C 0 dX3_meetAll_78 rfl rfl ?_
                      refine z_aloadn C 1 dX3_meetAll_79 rfl rfl ?_
                      refine z_callV C (cm_X3_settles l h25 h26 h4 HL) mv_3_43 (z_atS 5 3 (by decide) rfl rfl rfl) pd_X3_settles ⟨by omega, by omega⟩ ⟨by omega, by omega⟩ rfl (Nat.le_of_ble_eq_true rfl) dX3_meetAll_80 ?_
                      rintro _ _ _ ⟨n29, rfl, rfl, h32, z33, rfl, hz33⟩
                      refine z_if_eq (t := 137) C dX3_meetAll_83 (by decide) (by omega) (fun c34 => ?_) (fun c34 => ?_)
                      · skip
                        refine z_iinc (L' := [(4, z_v (i4 + 1)), (0, .ref (ad 5)), (1, .ref (ad 1)), (2, z_v n0), (3, z_v i3)]) C 4 dX3_meetAll_137 rfl (by decide) rfl ?_
                        refine z_goto (t := 54) C dX3_meetAll_140 (by decide) ?_
                        refine z_loc (L' := [(0, .ref (ad 5)), (1, .ref (ad 1)), (2, z_v n0), (3, z_v i3), (4, z_v (i4 + 1))]) [1, 2, 3, 4, 0] rfl ?_
                        exact ih54 (i4 + 1) fs_size n21 n29 fa_sfacts fa_sbounds (by omega) h25 h32 Hfa_sfacts Hfa_sbounds (by first | assumption | exact q134_0 | exact q29_0 | exact z_cc0) (by omega) (by omega) (by omega) (by omega)
                      · skip
                        refine z_aloadn C 0 dX3_meetAll_86 rfl rfl ?_
                        refine z_get C 5 (by decide) rfl rfl z_it3 0 (by decide) rfl fl_3_12 rfl dX3_meetAll_87 ?_
                        refine z_aloadn C 0 dX3_meetAll_90 rfl rfl ?_
                        refine z_get C 5 (by decide) rfl rfl z_it3 3 (by decide) rfl fl_3_22 rfl dX3_meetAll_91 ?_
                        refine z_aloadn C 0 dX3_meetAll_94 rfl rfl ?_
                        refine z_get C 5 (by decide) rfl rfl z_it3 4 (by decide) rfl fl_3_29 rfl dX3_meetAll_95 ?_
                        refine z_callV C (cm_X4_cover_9_10 l (by omega) Hfa_sfacts h25 Hfa_sbounds h32) mv_3_68 (z_atS 6 4 (by decide) rfl rfl rfl) pd_X4_cover ⟨by omega, by omega⟩ ⟨by omega, by omega⟩ rfl (Nat.le_of_ble_eq_true rfl) dX3_meetAll_98 ?_
                        rintro _ _ _ ⟨rfl, rfl, z37, rfl, hz37⟩
                        refine z_if_eq (t := 107) C dX3_meetAll_101 (by decide) (by omega) (fun c38 => ?_) (fun c38 => ?_)
                        · skip
                          refine z_aloadn C 0 dX3_meetAll_107 rfl rfl ?_
                          refine z_get C 5 (by decide) rfl rfl z_it3 0 (by decide) rfl fl_3_12 rfl dX3_meetAll_108 ?_
                          refine z_get C 6 (by decide) rfl rfl z_it4 0 (by decide) rfl fl_3_51 rfl dX3_meetAll_111 ?_
                          refine z_iloadn C 2 dX3_meetAll_114 rfl rfl ?_
                          refine z_icmp_lt (t := 122) C dX3_meetAll_115 (by decide) (by omega) (by omega) (fun c39 => ?_) (fun c39 => ?_)
                          · skip
                            refine z_aloadn C 0 dX3_meetAll_122 rfl rfl ?_
                            refine z_get C 5 (by decide) rfl rfl z_it3 0 (by decide) rfl fl_3_12 rfl dX3_meetAll_123 ?_
                            refine z_aloadn C 0 dX3_meetAll_126 rfl rfl ?_
                            refine z_get C 5 (by decide) rfl rfl z_it3 3 (by decide) rfl fl_3_22 rfl dX3_meetAll_127 ?_
                            refine z_aloadn C 0 dX3_meetAll_130 rfl rfl ?_
                            refine z_get C 5 (by decide) rfl rfl z_it3 4 (by decide) rfl fl_3_29 rfl dX3_meetAll_131 ?_
                            refine z_callV C (cm_X4_add l (by omega) h25 Hfa_sfacts Hfa_sbounds h32 (by omega) CH (Or.inr (z_gb (g72 (by omega)) K2 (by omega)))) mv_3_47 (z_atS 6 4 (by decide) rfl rfl rfl) pd_X4_add ⟨by omega, by omega⟩ ⟨by omega, by omega⟩ rfl (Nat.le_of_ble_eq_true rfl) dX3_meetAll_134 ?_
                            rintro _ _ _ ⟨n40, n41, rfl, rfl, h44, h45, q134_0, q134_1, rfl⟩
                            refine z_iinc (L' := [(4, z_v (i4 + 1)), (0, .ref (ad 5)), (1, .ref (ad 1)), (2, z_v n0), (3, z_v i3)]) C 4 dX3_meetAll_137 rfl (by decide) rfl ?_
                            refine z_goto (t := 54) C dX3_meetAll_140 (by decide) ?_
                            refine z_loc (L' := [(0, .ref (ad 5)), (1, .ref (ad 1)), (2, z_v n0), (3, z_v i3), (4, z_v (i4 + 1))]) [1, 2, 3, 4, 0] rfl ?_
                            exact ih54 (i4 + 1) (fs_size + 1) n21 n29 n40 n41 (by omega) h25 h32 h44 h45 (by first | assumption | exact q134_0 | exact q29_0 | exact z_cc0) (by omega) (by omega) (by omega) (by omega)
                          · skip
                            refine z_iconst C dX3_meetAll_118 ?_
                            refine z_iloadn C 2 dX3_meetAll_119 rfl rfl ?_
                            refine z_isub C dX3_meetAll_120 ?_
                            rw [hQ]
                            exact z_iret C hrt dX3_meetAll_121 (⟨fs_size, 0, (s_timesDone + 1), n1, n21, n29, fa_sfacts, fa_sbounds, rfl, rfl, by omega, by omega, by omega, h4, h25, h32, Hfa_sfacts, Hfa_sbounds, by first | assumption | exact q134_0 | exact q29_0 | exact z_cc0, _, rfl, trivial⟩) (by omega) (by omega)
                        · skip
                          refine z_goto (t := 137) C dX3_meetAll_104 (by decide) ?_
                          refine z_iinc (L' := [(4, z_v (i4 + 1)), (0, .ref (ad 5)), (1, .ref (ad 1)), (2, z_v n0), (3, z_v i3)]) C 4 dX3_meetAll_137 rfl (by decide) rfl ?_
                          refine z_goto (t := 54) C dX3_meetAll_140 (by decide) ?_
                          refine z_loc (L' := [(0, .ref (ad 5)), (1, .ref (ad 1)), (2, z_v n0), (3, z_v i3), (4, z_v (i4 + 1))]) [1, 2, 3, 4, 0] rfl ?_
                          exact ih54 (i4 + 1) fs_size n21 n29 fa_sfacts fa_sbounds (by omega) h25 h32 Hfa_sfacts Hfa_sbounds (by first | assumption | exact q134_0 | exact q29_0 | exact z_cc0) (by omega) (by omega) (by omega) (by omega)
              refine z_loc (L' := [(0, .ref (ad 5)), (1, .ref (ad 1)), (2, z_v n0), (3, z_v i3), (4, z_v 0)]) [1, 2, 3, 4, 0] rfl ?_
              exact (L54 (((400 : Int) - 0).toNat + 1)) 0 fs_size fa_facts fa_zone fa_sfacts fa_sbounds (by omega) Hfa_facts Hfa_zone Hfa_sfacts Hfa_sbounds (by first | assumption | exact q134_0 | exact q29_0 | exact z_cc0) (by omega) (by omega) (by omega) (Nat.lt_succ_self _)
      refine z_loc (L' := [(0, .ref (ad 5)), (1, .ref (ad 1)), (2, z_v n0), (3, z_v 0)]) [1, 2, 3, 0] rfl ?_
      exact (L34 (((120 : Int) - 0).toNat + 1)) 0 fs_size fa_facts fa_zone fa_sfacts fa_sbounds (by omega) Hfa_facts Hfa_zone Hfa_sfacts Hfa_sbounds (by first | assumption | exact q134_0 | exact q29_0 | exact z_cc0) (by omega) (by omega) (Nat.lt_succ_self _)
    refine z_loc (L' := [(0, .ref (ad 5)), (1, .ref (ad 1)), (2, z_v n0)]) [0, 1, 2] rfl ?_
    exact J32 0 n5 n11 a_sfacts a_sbounds (by omega) h9 h14 Ha_sfacts Ha_sbounds (by first | assumption | exact q134_0 | exact q29_0 | exact z_cc0) (by omega)
  · skip
    refine z_aloadn C 0 dX3_meetAll_17 rfl rfl ?_
    refine z_get C 5 (by decide) rfl rfl z_it3 0 (by decide) rfl fl_3_12 rfl dX3_meetAll_18 ?_
    refine z_aloadn C 0 dX3_meetAll_21 rfl rfl ?_
    refine z_get C 5 (by decide) rfl rfl z_it3 3 (by decide) rfl fl_3_22 rfl dX3_meetAll_22 ?_
    refine z_aloadn C 0 dX3_meetAll_25 rfl rfl ?_
    refine z_get C 5 (by decide) rfl rfl z_it3 4 (by decide) rfl fl_3_29 rfl dX3_meetAll_26 ?_
    refine z_callV C (cm_X4_add l (by omega) h9 Ha_sfacts Ha_sbounds h14 (by omega) z_cc0 (Or.inl q6_0)) mv_3_47 (z_atS 6 4 (by decide) rfl rfl rfl) pd_X4_add ⟨by omega, by omega⟩ ⟨by omega, by omega⟩ rfl (Nat.le_of_ble_eq_true rfl) dX3_meetAll_29 ?_
    rintro _ _ _ ⟨n46, n47, rfl, rfl, h50, h51, q29_0, q29_1, rfl⟩
    have J32 : ∀ (fs_size : Int) (fa_facts : Nat → Int) (fa_zone : Nat → Int) (fa_sfacts : Nat → Int) (fa_sbounds : Nat → Int), ((0 ≤ fs_size ∧ fs_size ≤ 120)) → ((∀ j, (j % 7 < 3 → 0 ≤ fa_facts j ∧ fa_facts j ≤ 5) ∧ (j % 7 = 3 → -1 ≤ fa_facts j ∧ fa_facts j ≤ 119) ∧ (j % 7 = 6 → 0 ≤ fa_facts j ∧ fa_facts j ≤ 40) ∧ z_rg (fa_facts j))) → ((∀ j, z_rg (fa_zone j))) → ((∀ j, (j % 7 < 3 → 0 ≤ fa_sfacts j ∧ fa_sfacts j ≤ 5) ∧ (j % 7 = 3 → -1 ≤ fa_sfacts j ∧ fa_sfacts j ≤ 119) ∧ (j % 7 = 6 → 0 ≤ fa_sfacts j ∧ fa_sfacts j ≤ 40) ∧ z_rg (fa_sfacts j))) → ((∀ j, z_rg (fa_sbounds j))) → (z_cc fs_size fa_sfacts) → (fs_size ≤ n0) → z_V p l e R s m args below meth c Q D A 27 ad 5 (z_zc ad ks s_edgeCount s_moveCount 0 (s_timesDone + 1) fs_size s_isGoing s_allTime s_stepCount s_gapCount g_edges g_moves g_limits fa_sfacts fa_sbounds fa_facts fa_zone n1 a_places a_amounts a_nextPlaces a_nextAmounts a_earliest a_visited a_lastSet a_gapFrom a_gapTo a_gapLeast a_askedPlaces a_askedAmounts) Y 0 0 32 [(0, .ref (ad 5)), (1, .ref (ad 1)), (2, z_v n0)] [] := by
      intro fs_size fa_facts fa_zone fa_sfacts fa_sbounds Hfs_size Hfa_facts Hfa_zone Hfa_sfacts Hfa_sbounds CH K1
      refine z_iconst C dX3_meetAll_32 ?_
      refine z_istoren (L' := [(3, z_v 0), (0, .ref (ad 5)), (1, .ref (ad 1)), (2, z_v n0)]) C dX3_meetAll_33 rfl (by decide) rfl ?_
      have L34 : ∀ (n : Nat), ∀ (i3 : Int) (fs_size : Int) (fa_facts : Nat → Int) (fa_zone : Nat → Int) (fa_sfacts : Nat → Int) (fa_sbounds : Nat → Int), ((0 ≤ fs_size ∧ fs_size ≤ 120)) → ((∀ j, (j % 7 < 3 → 0 ≤ fa_facts j ∧ fa_facts j ≤ 5) ∧ (j % 7 = 3 → -1 ≤ fa_facts j ∧ fa_facts j ≤ 119) ∧ (j % 7 = 6 → 0 ≤ fa_facts j ∧ fa_facts j ≤ 40) ∧ z_rg (fa_facts j))) → ((∀ j, z_rg (fa_zone j))) → ((∀ j, (j % 7 < 3 → 0 ≤ fa_sfacts j ∧ fa_sfacts j ≤ 5) ∧ (j % 7 = 3 → -1 ≤ fa_sfacts j ∧ fa_sfacts j ≤ 119) ∧ (j % 7 = 6 → 0 ≤ fa_sfacts j ∧ fa_sfacts j ≤ 40) ∧ z_rg (fa_sfacts j))) → ((∀ j, z_rg (fa_sbounds j))) → (z_cc fs_size fa_sfacts) → (fs_size ≤ n0) → (0 ≤ i3 ∧ i3 ≤ 120) → ((120 : Int) - i3).toNat < n → z_V p l e R s m args below meth c Q D A 27 ad 5 (z_zc ad ks s_edgeCount s_moveCount 0 (s_timesDone + 1) fs_size s_isGoing s_allTime s_stepCount s_gapCount g_edges g_moves g_limits fa_sfacts fa_sbounds fa_facts fa_zone n1 a_places a_amounts a_nextPlaces a_nextAmounts a_earliest a_visited a_lastSet a_gapFrom a_gapTo a_gapLeast a_askedPlaces a_askedAmounts) Y 0 0 34 [(0, .ref (ad 5)), (1, .ref (ad 1)), (2, z_v n0), (3, z_v i3)] [] := by
        intro n
        induction n with
        | zero => intro i3 fs_size fa_facts fa_zone fa_sfacts fa_sbounds Hfs_size Hfa_facts Hfa_zone Hfa_sfacts Hfa_sbounds CH K1 I3 hm; exact absurd hm (Nat.not_lt_zero _)
        | succ n ih34 =>
          intro i3 fs_size fa_facts fa_zone fa_sfacts fa_sbounds Hfs_size Hfa_facts Hfa_zone Hfa_sfacts Hfa_sbounds CH K1 I3 hm
          refine z_iloadn C 3 dX3_meetAll_34 rfl rfl ?_
          refine z_aloadn C 0 dX3_meetAll_35 rfl rfl ?_
          refine z_get C 5 (by decide) rfl rfl z_it3 0 (by decide) rfl fl_3_12 rfl dX3_meetAll_36 ?_
          refine z_get C 6 (by decide) rfl rfl z_it4 0 (by decide) rfl fl_3_51 rfl dX3_meetAll_39 ?_
          refine z_icmp_ge (t := 149) C dX3_meetAll_42 (by decide) (by omega) (by omega) (fun c52 => ?_) (fun c52 => ?_)
          · skip
            refine z_aloadn C 0 dX3_meetAll_149 rfl rfl ?_
            refine z_get C 5 (by decide) rfl rfl z_it3 0 (by decide) rfl fl_3_12 rfl dX3_meetAll_150 ?_
            refine z_get C 6 (by decide) rfl rfl z_it4 0 (by decide) rfl fl_3_51 rfl dX3_meetAll_153 ?_
            rw [hQ]
            exact z_iret C hrt dX3_meetAll_156 (⟨fs_size, 0, (s_timesDone + 1), n1, fa_facts, fa_zone, fa_sfacts, fa_sbounds, rfl, rfl, by omega, by omega, by omega, h4, Hfa_facts, Hfa_zone, Hfa_sfacts, Hfa_sbounds, by first | assumption | exact q134_0 | exact q29_0 | exact z_cc0, _, rfl, trivial⟩) (by omega) (by omega)
          · skip
            refine z_iloadn C 3 dX3_meetAll_45 rfl rfl ?_
            refine z_bipush C dX3_meetAll_46 (by decide) ?_
            refine z_icmp_ge (t := 149) C dX3_meetAll_48 (by decide) (by omega) (by omega) (fun c53 => ?_) (fun c53 => ?_)
            · skip
              refine z_aloadn C 0 dX3_meetAll_149 rfl rfl ?_
              refine z_get C 5 (by decide) rfl rfl z_it3 0 (by decide) rfl fl_3_12 rfl dX3_meetAll_150 ?_
              refine z_get C 6 (by decide) rfl rfl z_it4 0 (by decide) rfl fl_3_51 rfl dX3_meetAll_153 ?_
              rw [hQ]
              exact z_iret C hrt dX3_meetAll_156 (⟨fs_size, 0, (s_timesDone + 1), n1, fa_facts, fa_zone, fa_sfacts, fa_sbounds, rfl, rfl, by omega, by omega, by omega, h4, Hfa_facts, Hfa_zone, Hfa_sfacts, Hfa_sbounds, by first | assumption | exact q134_0 | exact q29_0 | exact z_cc0, _, rfl, trivial⟩) (by omega) (by omega)
            · skip
              refine z_iconst C dX3_meetAll_51 ?_
              refine z_istore (L' := [(4, z_v 0), (0, .ref (ad 5)), (1, .ref (ad 1)), (2, z_v n0), (3, z_v i3)]) C dX3_meetAll_52 (by decide) rfl ?_
              have L54 : ∀ (n : Nat), ∀ (i4 : Int) (fs_size : Int) (fa_facts : Nat → Int) (fa_zone : Nat → Int) (fa_sfacts : Nat → Int) (fa_sbounds : Nat → Int), ((0 ≤ fs_size ∧ fs_size ≤ 120)) → ((∀ j, (j % 7 < 3 → 0 ≤ fa_facts j ∧ fa_facts j ≤ 5) ∧ (j % 7 = 3 → -1 ≤ fa_facts j ∧ fa_facts j ≤ 119) ∧ (j % 7 = 6 → 0 ≤ fa_facts j ∧ fa_facts j ≤ 40) ∧ z_rg (fa_facts j))) → ((∀ j, z_rg (fa_zone j))) → ((∀ j, (j % 7 < 3 → 0 ≤ fa_sfacts j ∧ fa_sfacts j ≤ 5) ∧ (j % 7 = 3 → -1 ≤ fa_sfacts j ∧ fa_sfacts j ≤ 119) ∧ (j % 7 = 6 → 0 ≤ fa_sfacts j ∧ fa_sfacts j ≤ 40) ∧ z_rg (fa_sfacts j))) → ((∀ j, z_rg (fa_sbounds j))) → (z_cc fs_size fa_sfacts) → (fs_size ≤ n0) → (i3 < fs_size) → (0 ≤ i4 ∧ i4 ≤ 400) → ((400 : Int) - i4).toNat < n → z_V p l e R s m args below meth c Q D A 27 ad 5 (z_zc ad ks s_edgeCount s_moveCount 0 (s_timesDone + 1) fs_size s_isGoing s_allTime s_stepCount s_gapCount g_edges g_moves g_limits fa_sfacts fa_sbounds fa_facts fa_zone n1 a_places a_amounts a_nextPlaces a_nextAmounts a_earliest a_visited a_lastSet a_gapFrom a_gapTo a_gapLeast a_askedPlaces a_askedAmounts) Y 0 0 54 [(0, .ref (ad 5)), (1, .ref (ad 1)), (2, z_v n0), (3, z_v i3), (4, z_v i4)] [] := by
                intro n
                induction n with
                | zero => intro i4 fs_size fa_facts fa_zone fa_sfacts fa_sbounds Hfs_size Hfa_facts Hfa_zone Hfa_sfacts Hfa_sbounds CH K1 K2 I4 hm; exact absurd hm (Nat.not_lt_zero _)
                | succ n ih54 =>
                  intro i4 fs_size fa_facts fa_zone fa_sfacts fa_sbounds Hfs_size Hfa_facts Hfa_zone Hfa_sfacts Hfa_sbounds CH K1 K2 I4 hm
                  refine z_iload C 4 dX3_meetAll_54 rfl ?_
                  refine z_aloadn C 1 dX3_meetAll_56 rfl rfl ?_
                  refine z_get C 1 (by decide) rfl rfl z_it2 3 (by decide) rfl fl_3_55 rfl dX3_meetAll_57 ?_
                  refine z_icmp_ge (t := 143) C dX3_meetAll_60 (by decide) (by omega) (by omega) (fun c54 => ?_) (fun c54 => ?_)
                  · skip
                    refine z_iinc (L' := [(3, z_v (i3 + 1)), (0, .ref (ad 5)), (1, .ref (ad 1)), (2, z_v n0), (4, z_v i4)]) C 3 dX3_meetAll_143 rfl (by decide) rfl ?_
                    refine z_goto (t := 34) C dX3_meetAll_146 (by decide) ?_
                    refine z_loc (L' := [(0, .ref (ad 5)), (1, .ref (ad 1)), (2, z_v n0), (3, z_v (i3 + 1))]) [1, 2, 3, 0] rfl ?_
                    exact ih34 (i3 + 1) fs_size fa_facts fa_zone fa_sfacts fa_sbounds (by omega) Hfa_facts Hfa_zone Hfa_sfacts Hfa_sbounds (by first | assumption | exact q134_0 | exact q29_0 | exact z_cc0) (by omega) (by omega) (by omega)
                  · skip
                    refine z_aloadn C 0 dX3_meetAll_63 rfl rfl ?_
                    refine z_iloadn C 3 dX3_meetAll_64 rfl rfl ?_
                    refine z_aloadn C 1 dX3_meetAll_65 rfl rfl ?_
                    refine z_get C 1 (by decide) rfl rfl z_it2 2 (by decide) rfl fl_3_60 rfl dX3_meetAll_66 ?_
                    refine z_iload C 4 dX3_meetAll_69 rfl ?_
                    obtain ⟨q55, eq55, hq55⟩ := HM (i4 : Int).toNat (by omega)
                    refine z_aaldS C 3 2 (by decide) rfl rfl (by decide) (by omega) (by omega) eq55 dX3_meetAll_71 ?_
                    refine z_callV C (cm_X3_goesBy l i3 q55 Hfa_sfacts Hfa_facts Hfa_sbounds Hfa_zone (by omega) hq55) mv_3_64 (z_atS 5 3 (by decide) rfl rfl rfl) pd_X3_goesBy ⟨by omega, by omega⟩ ⟨by omega, by omega⟩ rfl (Nat.le_of_ble_eq_true rfl) dX3_meetAll_72 ?_
                    rintro _ _ _ ⟨n56, n57, rfl, rfl, h60, h61, z62, rfl, hz62⟩
                    have g72 := hz62.2
                    refine z_if_eq (t := 137) C dX3_meetAll_75 (by decide) (by omega) (fun c63 => ?_) (fun c63 => ?_)
                    · skip
                      refine z_iinc (L' := [(4, z_v (i4 + 1)), (0, .ref (ad 5)), (1, .ref (ad 1)), (2, z_v n0), (3, z_v i3)]) C 4 dX3_meetAll_137 rfl (by decide) rfl ?_
                      refine z_goto (t := 54) C dX3_meetAll_140 (by decide) ?_
                      refine z_loc (L' := [(0, .ref (ad 5)), (1, .ref (ad 1)), (2, z_v n0), (3, z_v i3), (4, z_v (i4 + 1))]) [1, 2, 3, 4, 0] rfl ?_
                      exact ih54 (i4 + 1) fs_size n56 n57 fa_sfacts fa_sbounds (by omega) h60 h61 Hfa_sfacts Hfa_sbounds (by first | assumption | exact q134_0 | exact q29_0 | exact z_cc0) (by omega) (by omega) (by omega) (by omega)
                    · skip
                      refine z_aloadn C 0 dX3_meetAll_78 rfl rfl ?_
                      refine z_aloadn C 1 dX3_meetAll_79 rfl rfl ?_
                      refine z_callV C (cm_X3_settles l h60 h61 h4 HL) mv_3_43 (z_atS 5 3 (by decide) rfl rfl rfl) pd_X3_settles ⟨by omega, by omega⟩ ⟨by omega, by omega⟩ rfl (Nat.le_of_ble_eq_true rfl) dX3_meetAll_80 ?_
                      rintro _ _ _ ⟨n64, rfl, rfl, h67, z68, rfl, hz68⟩
                      refine z_if_eq (t := 137) C dX3_meetAll_83 (by decide) (by omega) (fun c69 => ?_) (fun c69 => ?_)
                      · skip
                        refine z_iinc (L' := [(4, z_v (i4 + 1)), (0, .ref (ad 5)), (1, .ref (ad 1)), (2, z_v n0), (3, z_v i3)]) C 4 dX3_meetAll_137 rfl (by decide) rfl ?_
                        refine z_goto (t := 54) C dX3_meetAll_140 (by decide) ?_
                        refine z_loc (L' := [(0, .ref (ad 5)), (1, .ref (ad 1)), (2, z_v n0), (3, z_v i3), (4, z_v (i4 + 1))]) [1, 2, 3, 4, 0] rfl ?_
                        exact ih54 (i4 + 1) fs_size n56 n64 fa_sfacts fa_sbounds (by omega) h60 h67 Hfa_sfacts Hfa_sbounds (by first | assumption | exact q134_0 | exact q29_0 | exact z_cc0) (by omega) (by omega) (by omega) (by omega)
                      · skip
                        refine z_aloadn C 0 dX3_meetAll_86 rfl rfl ?_
                        refine z_get C 5 (by decide) rfl rfl z_it3 0 (by decide) rfl fl_3_12 rfl dX3_meetAll_87 ?_
                        refine z_aloadn C 0 dX3_meetAll_90 rfl rfl ?_
                        refine z_get C 5 (by decide) rfl rfl z_it3 3 (by decide) rfl fl_3_22 rfl dX3_meetAll_91 ?_
                        refine z_aloadn C 0 dX3_meetAll_94 rfl rfl ?_
                        refine z_get C 5 (by decide) rfl rfl z_it3 4 (by decide) rfl fl_3_29 rfl dX3_meetAll_95 ?_
                        refine z_callV C (cm_X4_cover_9_10 l (by omega) Hfa_sfacts h60 Hfa_sbounds h67) mv_3_68 (z_atS 6 4 (by decide) rfl rfl rfl) pd_X4_cover ⟨by omega, by omega⟩ ⟨by omega, by omega⟩ rfl (Nat.le_of_ble_eq_true rfl) dX3_meetAll_98 ?_
                        rintro _ _ _ ⟨rfl, rfl, z72, rfl, hz72⟩
                        refine z_if_eq (t := 107) C dX3_meetAll_101 (by decide) (by omega) (fun c73 => ?_) (fun c73 => ?_)
                        · skip
                          refine z_aloadn C 0 dX3_meetAll_107 rfl rfl ?_
                          refine z_get C 5 (by decide) rfl rfl z_it3 0 (by decide) rfl fl_3_12 rfl dX3_meetAll_108 ?_
                          refine z_get C 6 (by decide) rfl rfl z_it4 0 (by decide) rfl fl_3_51 rfl dX3_meetAll_111 ?_
                          refine z_iloadn C 2 dX3_meetAll_114 rfl rfl ?_
                          refine z_icmp_lt (t := 122) C dX3_meetAll_115 (by decide) (by omega) (by omega) (fun c74 => ?_) (fun c74 => ?_)
                          · skip
                            refine z_aloadn C 0 dX3_meetAll_122 rfl rfl ?_
                            refine z_get C 5 (by decide) rfl rfl z_it3 0 (by decide) rfl fl_3_12 rfl dX3_meetAll_123 ?_
                            refine z_aloadn C 0 dX3_meetAll_126 rfl rfl ?_
                            refine z_get C 5 (by decide) rfl rfl z_it3 3 (by decide) rfl fl_3_22 rfl dX3_meetAll_127 ?_
                            refine z_aloadn C 0 dX3_meetAll_130 rfl rfl ?_
                            refine z_get C 5 (by decide) rfl rfl z_it3 4 (by decide) rfl fl_3_29 rfl dX3_meetAll_131 ?_
                            refine z_callV C (cm_X4_add l (by omega) h60 Hfa_sfacts Hfa_sbounds h67 (by omega) CH (Or.inr (z_gb (g72 (by omega)) K2 (by omega)))) mv_3_47 (z_atS 6 4 (by decide) rfl rfl rfl) pd_X4_add ⟨by omega, by omega⟩ ⟨by omega, by omega⟩ rfl (Nat.le_of_ble_eq_true rfl) dX3_meetAll_134 ?_
                            rintro _ _ _ ⟨n75, n76, rfl, rfl, h79, h80, q134_0, q134_1, rfl⟩
                            refine z_iinc (L' := [(4, z_v (i4 + 1)), (0, .ref (ad 5)), (1, .ref (ad 1)), (2, z_v n0), (3, z_v i3)]) C 4 dX3_meetAll_137 rfl (by decide) rfl ?_
                            refine z_goto (t := 54) C dX3_meetAll_140 (by decide) ?_
                            refine z_loc (L' := [(0, .ref (ad 5)), (1, .ref (ad 1)), (2, z_v n0), (3, z_v i3), (4, z_v (i4 + 1))]) [1, 2, 3, 4, 0] rfl ?_
                            exact ih54 (i4 + 1) (fs_size + 1) n56 n64 n75 n76 (by omega) h60 h67 h79 h80 (by first | assumption | exact q134_0 | exact q29_0 | exact z_cc0) (by omega) (by omega) (by omega) (by omega)
                          · skip
                            refine z_iconst C dX3_meetAll_118 ?_
                            refine z_iloadn C 2 dX3_meetAll_119 rfl rfl ?_
                            refine z_isub C dX3_meetAll_120 ?_
                            rw [hQ]
                            exact z_iret C hrt dX3_meetAll_121 (⟨fs_size, 0, (s_timesDone + 1), n1, n56, n64, fa_sfacts, fa_sbounds, rfl, rfl, by omega, by omega, by omega, h4, h60, h67, Hfa_sfacts, Hfa_sbounds, by first | assumption | exact q134_0 | exact q29_0 | exact z_cc0, _, rfl, trivial⟩) (by omega) (by omega)
                        · skip
                          refine z_goto (t := 137) C dX3_meetAll_104 (by decide) ?_
                          refine z_iinc (L' := [(4, z_v (i4 + 1)), (0, .ref (ad 5)), (1, .ref (ad 1)), (2, z_v n0), (3, z_v i3)]) C 4 dX3_meetAll_137 rfl (by decide) rfl ?_
                          refine z_goto (t := 54) C dX3_meetAll_140 (by decide) ?_
                          refine z_loc (L' := [(0, .ref (ad 5)), (1, .ref (ad 1)), (2, z_v n0), (3, z_v i3), (4, z_v (i4 + 1))]) [1, 2, 3, 4, 0] rfl ?_
                          exact ih54 (i4 + 1) fs_size n56 n64 fa_sfacts fa_sbounds (by omega) h60 h67 Hfa_sfacts Hfa_sbounds (by first | assumption | exact q134_0 | exact q29_0 | exact z_cc0) (by omega) (by omega) (by omega) (by omega)
              refine z_loc (L' := [(0, .ref (ad 5)), (1, .ref (ad 1)), (2, z_v n0), (3, z_v i3), (4, z_v 0)]) [1, 2, 3, 4, 0] rfl ?_
              exact (L54 (((400 : Int) - 0).toNat + 1)) 0 fs_size fa_facts fa_zone fa_sfacts fa_sbounds (by omega) Hfa_facts Hfa_zone Hfa_sfacts Hfa_sbounds (by first | assumption | exact q134_0 | exact q29_0 | exact z_cc0) (by omega) (by omega) (by omega) (Nat.lt_succ_self _)
      refine z_loc (L' := [(0, .ref (ad 5)), (1, .ref (ad 1)), (2, z_v n0), (3, z_v 0)]) [1, 2, 3, 0] rfl ?_
      exact (L34 (((120 : Int) - 0).toNat + 1)) 0 fs_size fa_facts fa_zone fa_sfacts fa_sbounds (by omega) Hfa_facts Hfa_zone Hfa_sfacts Hfa_sbounds (by first | assumption | exact q134_0 | exact q29_0 | exact z_cc0) (by omega) (by omega) (Nat.lt_succ_self _)
    refine z_loc (L' := [(0, .ref (ad 5)), (1, .ref (ad 1)), (2, z_v n0)]) [0, 1, 2] rfl ?_
    exact J32 (0 + 1) n5 n11 n46 n47 (by omega) h9 h14 h50 h51 (by first | assumption | exact q134_0 | exact q29_0 | exact z_cc0) (by omega)
set_option maxRecDepth 20000 in
theorem cm_X8_start (l : Launch) {D : va_G} {A : Nat → Prop} {ad : Nat → Nat} {ks : z_Ks} {s_edgeCount s_moveCount s_isNeeded s_timesDone s_size s_isGoing s_allTime s_stepCount s_gapCount : Int} {g_edges g_moves g_limits : Nat → Option Nat} {a_sfacts a_sbounds a_facts a_zone a_most a_places a_amounts a_nextPlaces a_nextAmounts a_earliest a_visited a_lastSet a_gapFrom a_gapTo a_gapLeast a_askedPlaces a_askedAmounts : Nat → Int} {Y : Nat → Option va_E} (Ha_places : (∀ j, 0 ≤ a_places j ∧ a_places j ≤ 5)) (Ha_amounts : (∀ j, 0 ≤ a_amounts j ∧ a_amounts j ≤ 1000000)) (Hs_isGoing : (s_isGoing = 0 ∨ s_isGoing = 1)) (HL : ∀ j : Nat, (j : Int) < 18 → ∃ q, g_limits j = some q ∧ z_TL ks Y q) : z_Met l yX8_start cX8_start 2 (some .boolean) 4 86 0 0 D A 27 ad ks [.ref (ad 13), .ref (ad 1)] (z_zc ad ks s_edgeCount s_moveCount s_isNeeded s_timesDone s_size s_isGoing s_allTime s_stepCount s_gapCount g_edges g_moves g_limits a_sfacts a_sbounds a_facts a_zone a_most a_places a_amounts a_nextPlaces a_nextAmounts a_earliest a_visited a_lastSet a_gapFrom a_gapTo a_gapLeast a_askedPlaces a_askedAmounts) Y (fun r S' Y' => ∃ na_places : Nat → Int, ∃ na_amounts : Nat → Int, ∃ ns_isGoing : Int, S' = (z_zc ad ks s_edgeCount s_moveCount s_isNeeded s_timesDone s_size ns_isGoing 0 0 s_gapCount g_edges g_moves g_limits a_sfacts a_sbounds a_facts a_zone a_most na_places na_amounts a_nextPlaces a_nextAmounts a_earliest a_visited a_lastSet a_gapFrom a_gapTo a_gapLeast a_askedPlaces a_askedAmounts) ∧ Y = Y' ∧ (∀ j, 0 ≤ na_places j ∧ na_places j ≤ 5) ∧ (∀ j, 0 ≤ na_amounts j ∧ na_amounts j ≤ 1000000) ∧ (ns_isGoing = 0 ∨ ns_isGoing = 1) ∧ ∃ z : Int, r = some (z_v z) ∧ (z = 0 ∨ z = 1)) := by
  refine z_start2 (by decide) (Nat.le_of_ble_eq_true rfl) ?_
  intro p e R s m args below meth c Q C hRf hRc hRs hRl hQ hrt hnm
  refine z_loc (L' := [(0, .ref (ad 13)), (1, .ref (ad 1))]) [0, 1] rfl ?_
  refine z_aloadn C 0 dX8_start_0 rfl rfl ?_
  refine z_get C 13 (by decide) rfl rfl z_it8 1 (by decide) rfl fl_8_9 rfl dX8_start_1 ?_
  refine z_iconst C dX8_start_4 ?_
  refine z_callS C (cm_J7_fill_53178_14 l 0 Ha_places (by omega)) mv_8_24 pd_J7_fill_53178 ⟨by omega, by omega⟩ ⟨by omega, by omega⟩ rfl (Nat.le_of_ble_eq_true rfl) dX8_start_5 ?_
  rintro _ _ _ ⟨n1, rfl, rfl, h4, q5_0, rfl⟩
  refine z_aloadn C 0 dX8_start_8 rfl rfl ?_
  refine z_get C 13 (by decide) rfl rfl z_it8 2 (by decide) rfl fl_8_15 rfl dX8_start_9 ?_
  refine z_iconst C dX8_start_12 ?_
  refine z_callS C (cm_J7_fill_53178_15 l 0 Ha_amounts (by omega)) mv_8_24 pd_J7_fill_53178 ⟨by omega, by omega⟩ ⟨by omega, by omega⟩ rfl (Nat.le_of_ble_eq_true rfl) dX8_start_13 ?_
  rintro _ _ _ ⟨n5, rfl, rfl, h8, q13_0, rfl⟩
  refine z_aloadn C 0 dX8_start_16 rfl rfl ?_
  refine z_iconst C dX8_start_17 ?_
  refine z_put C 13 (by decide) rfl rfl z_it8 tyX8 tyX8_ok nmX8 3 (by decide) rfl (Or.inl rfl) fl_8_30 z_pfI rfl rfl (Nat.le_of_ble_eq_true rfl) dX8_start_18 ?_
  refine z_ext (S' := (z_zc ad ks s_edgeCount s_moveCount s_isNeeded s_timesDone s_size s_isGoing 0 s_stepCount s_gapCount g_edges g_moves g_limits a_sfacts a_sbounds a_facts a_zone a_most n1 n5 a_nextPlaces a_nextAmounts a_earliest a_visited a_lastSet a_gapFrom a_gapTo a_gapLeast a_askedPlaces a_askedAmounts)) upC_s_allTime ?_
  refine z_aloadn C 0 dX8_start_21 rfl rfl ?_
  refine z_iconst C dX8_start_22 ?_
  refine z_put C 13 (by decide) rfl rfl z_it8 tyX8 tyX8_ok nmX8 4 (by decide) rfl (Or.inl rfl) fl_8_34 z_pfI rfl rfl (Nat.le_of_ble_eq_true rfl) dX8_start_23 ?_
  refine z_ext (S' := (z_zc ad ks s_edgeCount s_moveCount s_isNeeded s_timesDone s_size s_isGoing 0 0 s_gapCount g_edges g_moves g_limits a_sfacts a_sbounds a_facts a_zone a_most n1 n5 a_nextPlaces a_nextAmounts a_earliest a_visited a_lastSet a_gapFrom a_gapTo a_gapLeast a_askedPlaces a_askedAmounts)) upC_s_stepCount ?_
  refine z_aloadn C 0 dX8_start_26 rfl rfl ?_
  refine z_aloadn C 1 dX8_start_27 rfl rfl ?_
  refine z_aloadn C 0 dX8_start_28 rfl rfl ?_
  refine z_get C 13 (by decide) rfl rfl z_it8 1 (by decide) rfl fl_8_9 rfl dX8_start_29 ?_
  refine z_aloadn C 0 dX8_start_32 rfl rfl ?_
  refine z_get C 13 (by decide) rfl rfl z_it8 2 (by decide) rfl fl_8_15 rfl dX8_start_33 ?_
  refine z_callV C (cm_X2_limitsAllow_14_15 l h4 h8 HL) mv_8_37 (z_atS 1 2 (by decide) rfl rfl rfl) pd_X2_limitsAllow ⟨by omega, by omega⟩ ⟨by omega, by omega⟩ rfl (Nat.le_of_ble_eq_true rfl) dX8_start_36 ?_
  rintro _ _ _ ⟨rfl, rfl, z11, rfl, hz11⟩
  refine z_put C 13 (by decide) rfl rfl z_it8 tyX8 tyX8_ok nmX8 0 (by decide) rfl (Or.inl rfl) fl_8_43 z_pfZ (z_nbZ (by omega)).1 (z_nbZ (by omega)).2 (Nat.le_of_ble_eq_true rfl) dX8_start_39 ?_
  refine z_ext (S' := (z_zc ad ks s_edgeCount s_moveCount s_isNeeded s_timesDone s_size z11 0 0 s_gapCount g_edges g_moves g_limits a_sfacts a_sbounds a_facts a_zone a_most n1 n5 a_nextPlaces a_nextAmounts a_earliest a_visited a_lastSet a_gapFrom a_gapTo a_gapLeast a_askedPlaces a_askedAmounts)) upC_s_isGoing ?_
  refine z_aloadn C 0 dX8_start_42 rfl rfl ?_
  refine z_get C 13 (by decide) rfl rfl z_it8 0 (by decide) rfl fl_8_43 rfl dX8_start_43 ?_
  rw [hQ]
  exact z_zret C hrt (by omega) dX8_start_46 (⟨n1, n5, z11, rfl, rfl, h4, h8, by omega, _, rfl, by omega⟩) (by omega) (by omega)
set_option maxRecDepth 20000 in
theorem cm_X8_greatestAmount (l : Launch) {D : va_G} {A : Nat → Prop} {ad : Nat → Nat} {ks : z_Ks} {s_edgeCount s_moveCount s_isNeeded s_timesDone s_size s_isGoing s_allTime s_stepCount s_gapCount : Int} {g_edges g_moves g_limits : Nat → Option Nat} {a_sfacts a_sbounds a_facts a_zone a_most a_places a_amounts a_nextPlaces a_nextAmounts a_earliest a_visited a_lastSet a_gapFrom a_gapTo a_gapLeast a_askedPlaces a_askedAmounts : Nat → Int} {Y : Nat → Option va_E} (Ha_amounts : (∀ j, 0 ≤ a_amounts j ∧ a_amounts j ≤ 1000000)) : z_Met l yX8_greatestAmount cX8_greatestAmount 1 (some .int) 1 21 0 0 D A 27 ad ks [.ref (ad 13)] (z_zc ad ks s_edgeCount s_moveCount s_isNeeded s_timesDone s_size s_isGoing s_allTime s_stepCount s_gapCount g_edges g_moves g_limits a_sfacts a_sbounds a_facts a_zone a_most a_places a_amounts a_nextPlaces a_nextAmounts a_earliest a_visited a_lastSet a_gapFrom a_gapTo a_gapLeast a_askedPlaces a_askedAmounts) Y (fun r S' Y' => S' = (z_zc ad ks s_edgeCount s_moveCount s_isNeeded s_timesDone s_size s_isGoing s_allTime s_stepCount s_gapCount g_edges g_moves g_limits a_sfacts a_sbounds a_facts a_zone a_most a_places a_amounts a_nextPlaces a_nextAmounts a_earliest a_visited a_lastSet a_gapFrom a_gapTo a_gapLeast a_askedPlaces a_askedAmounts) ∧ Y = Y' ∧ ∃ z : Int, r = some (z_v z) ∧ (z_rg z)) := by
  refine z_start2 (by decide) (Nat.le_of_ble_eq_true rfl) ?_
  intro p e R s m args below meth c Q C hRf hRc hRs hRl hQ hrt hnm
  refine z_loc (L' := [(0, .ref (ad 13))]) [0] rfl ?_
  refine z_aloadn C 0 dX8_greatestAmount_0 rfl rfl ?_
  refine z_get C 13 (by decide) rfl rfl z_it8 2 (by decide) rfl fl_8_15 rfl dX8_greatestAmount_1 ?_
  refine z_iconst C dX8_greatestAmount_4 ?_
  refine z_iald C 15 (by decide) rfl (by decide) (by omega) (by omega) dX8_greatestAmount_5 ?_
  have rx1 := Ha_amounts (1 : Int).toNat
  generalize ex1 : a_amounts (1 : Int).toNat = x1 at rx1 ⊢
  refine z_aloadn C 0 dX8_greatestAmount_6 rfl rfl ?_
  refine z_get C 13 (by decide) rfl rfl z_it8 2 (by decide) rfl fl_8_15 rfl dX8_greatestAmount_7 ?_
  refine z_iconst C dX8_greatestAmount_10 ?_
  refine z_iald C 15 (by decide) rfl (by decide) (by omega) (by omega) dX8_greatestAmount_11 ?_
  have rx2 := Ha_amounts (2 : Int).toNat
  generalize ex2 : a_amounts (2 : Int).toNat = x2 at rx2 ⊢
  refine z_aloadn C 0 dX8_greatestAmount_12 rfl rfl ?_
  refine z_get C 13 (by decide) rfl rfl z_it8 2 (by decide) rfl fl_8_15 rfl dX8_greatestAmount_13 ?_
  refine z_iconst C dX8_greatestAmount_16 ?_
  refine z_iald C 15 (by decide) rfl (by decide) (by omega) (by omega) dX8_greatestAmount_17 ?_
  have rx3 := Ha_amounts (3 : Int).toNat
  generalize ex3 : a_amounts (3 : Int).toNat = x3 at rx3 ⊢
  refine z_max C mm_8_47 (by omega) (by omega) (by omega) (by rw [hRl]; exact Nat.le_of_ble_eq_true rfl) (by omega) (by omega) dX8_greatestAmount_18 ?_
  obtain ⟨x4, ex4⟩ : ∃ z : Int, z = (if x2 < x3 then x3 else x2) := ⟨_, rfl⟩
  rw [← ex4]
  have rx4 : (x4 = x2 ∨ x4 = x3) ∧ x2 ≤ x4 ∧ x3 ≤ x4 := by split at ex4 <;> omega
  refine z_max C mm_8_47 (by omega) (by omega) (by omega) (by rw [hRl]; exact Nat.le_of_ble_eq_true rfl) (by omega) (by omega) dX8_greatestAmount_21 ?_
  obtain ⟨x5, ex5⟩ : ∃ z : Int, z = (if x1 < x4 then x4 else x1) := ⟨_, rfl⟩
  rw [← ex5]
  have rx5 : (x5 = x1 ∨ x5 = x4) ∧ x1 ≤ x5 ∧ x4 ≤ x5 := by split at ex5 <;> omega
  rw [hQ]
  exact z_iret C hrt dX8_greatestAmount_24 (⟨rfl, rfl, _, rfl, by omega⟩) (by omega) (by omega)
set_option maxRecDepth 20000 in
theorem cm_X7_addGap (l : Launch) {D : va_G} {A : Nat → Prop} {ad : Nat → Nat} {ks : z_Ks} {s_edgeCount s_moveCount s_isNeeded s_timesDone s_size s_isGoing s_allTime s_stepCount s_gapCount : Int} {g_edges g_moves g_limits : Nat → Option Nat} {a_sfacts a_sbounds a_facts a_zone a_most a_places a_amounts a_nextPlaces a_nextAmounts a_earliest a_visited a_lastSet a_gapFrom a_gapTo a_gapLeast a_askedPlaces a_askedAmounts : Nat → Int} {Y : Nat → Option va_E} (f0 t0 l0 : Int) (Hs_gapCount : (0 ≤ s_gapCount ∧ s_gapCount ≤ 615)) (Ha_gapFrom : (∀ j, 0 ≤ a_gapFrom j ∧ a_gapFrom j ≤ 40)) (Ha_gapTo : (∀ j, 0 ≤ a_gapTo j ∧ a_gapTo j ≤ 40)) (Ha_gapLeast : (∀ j, z_rg (a_gapLeast j))) (hf : 0 ≤ f0 ∧ f0 ≤ 40) (ht : 0 ≤ t0 ∧ t0 ≤ 40) (hl : z_rg l0) : z_Met l yX7_addGap cX7_addGap 4 none 0 0 0 0 D A 27 ad ks [.ref (ad 18), z_v f0, z_v t0, z_v l0] (z_zc ad ks s_edgeCount s_moveCount s_isNeeded s_timesDone s_size s_isGoing s_allTime s_stepCount s_gapCount g_edges g_moves g_limits a_sfacts a_sbounds a_facts a_zone a_most a_places a_amounts a_nextPlaces a_nextAmounts a_earliest a_visited a_lastSet a_gapFrom a_gapTo a_gapLeast a_askedPlaces a_askedAmounts) Y (fun r S' Y' => ∃ ns_gapCount : Int, ∃ na_gapFrom : Nat → Int, ∃ na_gapTo : Nat → Int, ∃ na_gapLeast : Nat → Int, S' = (z_zc ad ks s_edgeCount s_moveCount s_isNeeded s_timesDone s_size s_isGoing s_allTime s_stepCount ns_gapCount g_edges g_moves g_limits a_sfacts a_sbounds a_facts a_zone a_most a_places a_amounts a_nextPlaces a_nextAmounts a_earliest a_visited a_lastSet na_gapFrom na_gapTo na_gapLeast a_askedPlaces a_askedAmounts) ∧ Y = Y' ∧ (0 ≤ ns_gapCount ∧ ns_gapCount ≤ 615) ∧ (∀ j, 0 ≤ na_gapFrom j ∧ na_gapFrom j ≤ 40) ∧ (∀ j, 0 ≤ na_gapTo j ∧ na_gapTo j ≤ 40) ∧ (∀ j, z_rg (na_gapLeast j)) ∧ r = none) := by
  refine z_start2 (by decide) (Nat.le_of_ble_eq_true rfl) ?_
  intro p e R s m args below meth c Q C hRf hRc hRs hRl hQ hrt hnm
  refine z_loc (L' := [(0, .ref (ad 18)), (1, z_v f0), (2, z_v t0), (3, z_v l0)]) [0, 1, 2, 3] rfl ?_
  refine z_aloadn C 0 dX7_addGap_0 rfl rfl ?_
  refine z_get C 18 (by decide) rfl rfl z_it7 6 (by decide) rfl fl_7_45 rfl dX7_addGap_1 ?_
  refine z_sipush C dX7_addGap_4 (by decide) ?_
  refine z_icmp_ge (t := 50) C dX7_addGap_7 (by decide) (by omega) (by omega) (fun c1 => ?_) (fun c1 => ?_)
  · skip
    rw [hQ]
    exact z_vret C hrt dX7_addGap_50 (⟨s_gapCount, a_gapFrom, a_gapTo, a_gapLeast, rfl, rfl, by omega, Ha_gapFrom, Ha_gapTo, Ha_gapLeast, rfl⟩) (by omega) (by omega)
  · skip
    refine z_aloadn C 0 dX7_addGap_10 rfl rfl ?_
    refine z_get C 18 (by decide) rfl rfl z_it7 3 (by decide) rfl fl_7_21 rfl dX7_addGap_11 ?_
    refine z_aloadn C 0 dX7_addGap_14 rfl rfl ?_
    refine z_get C 18 (by decide) rfl rfl z_it7 6 (by decide) rfl fl_7_45 rfl dX7_addGap_15 ?_
    refine z_iloadn C 1 dX7_addGap_18 rfl rfl ?_
    refine z_iast C 22 (by decide) rfl (by decide) (by omega) (by omega) dX7_addGap_19 ?_
    refine z_ext (S' := (z_zc ad ks s_edgeCount s_moveCount s_isNeeded s_timesDone s_size s_isGoing s_allTime s_stepCount s_gapCount g_edges g_moves g_limits a_sfacts a_sbounds a_facts a_zone a_most a_places a_amounts a_nextPlaces a_nextAmounts a_earliest a_visited a_lastSet (va_up a_gapFrom (s_gapCount : Int).toNat f0) a_gapTo a_gapLeast a_askedPlaces a_askedAmounts)) upC_a_gapFrom ?_
    have h2 : ∀ j, 0 ≤ (va_up a_gapFrom (s_gapCount : Int).toNat f0) j ∧ (va_up a_gapFrom (s_gapCount : Int).toNat f0) j ≤ 40 := z_upP (P := fun j v => 0 ≤ v ∧ v ≤ 40) Ha_gapFrom (by omega)
    generalize (va_up a_gapFrom (s_gapCount : Int).toNat f0) = f3 at h2 ⊢
    refine z_aloadn C 0 dX7_addGap_20 rfl rfl ?_
    refine z_get C 18 (by decide) rfl rfl z_it7 4 (by decide) rfl fl_7_24 rfl dX7_addGap_21 ?_
    refine z_aloadn C 0 dX7_addGap_24 rfl rfl ?_
    refine z_get C 18 (by decide) rfl rfl z_it7 6 (by decide) rfl fl_7_45 rfl dX7_addGap_25 ?_
    refine z_iloadn C 2 dX7_addGap_28 rfl rfl ?_
    refine z_iast C 23 (by decide) rfl (by decide) (by omega) (by omega) dX7_addGap_29 ?_
    refine z_ext (S' := (z_zc ad ks s_edgeCount s_moveCount s_isNeeded s_timesDone s_size s_isGoing s_allTime s_stepCount s_gapCount g_edges g_moves g_limits a_sfacts a_sbounds a_facts a_zone a_most a_places a_amounts a_nextPlaces a_nextAmounts a_earliest a_visited a_lastSet f3 (va_up a_gapTo (s_gapCount : Int).toNat t0) a_gapLeast a_askedPlaces a_askedAmounts)) upC_a_gapTo ?_
    have h4 : ∀ j, 0 ≤ (va_up a_gapTo (s_gapCount : Int).toNat t0) j ∧ (va_up a_gapTo (s_gapCount : Int).toNat t0) j ≤ 40 := z_upP (P := fun j v => 0 ≤ v ∧ v ≤ 40) Ha_gapTo (by omega)
    generalize (va_up a_gapTo (s_gapCount : Int).toNat t0) = f5 at h4 ⊢
    refine z_aloadn C 0 dX7_addGap_30 rfl rfl ?_
    refine z_get C 18 (by decide) rfl rfl z_it7 5 (by decide) rfl fl_7_27 rfl dX7_addGap_31 ?_
    refine z_aloadn C 0 dX7_addGap_34 rfl rfl ?_
    refine z_get C 18 (by decide) rfl rfl z_it7 6 (by decide) rfl fl_7_45 rfl dX7_addGap_35 ?_
    refine z_iloadn C 3 dX7_addGap_38 rfl rfl ?_
    refine z_iast C 24 (by decide) rfl (by decide) (by omega) (by omega) dX7_addGap_39 ?_
    refine z_ext (S' := (z_zc ad ks s_edgeCount s_moveCount s_isNeeded s_timesDone s_size s_isGoing s_allTime s_stepCount s_gapCount g_edges g_moves g_limits a_sfacts a_sbounds a_facts a_zone a_most a_places a_amounts a_nextPlaces a_nextAmounts a_earliest a_visited a_lastSet f3 f5 (va_up a_gapLeast (s_gapCount : Int).toNat l0) a_askedPlaces a_askedAmounts)) upC_a_gapLeast ?_
    have h6 : ∀ j, z_rg ((va_up a_gapLeast (s_gapCount : Int).toNat l0) j) := z_upP (P := fun j v => z_rg (v)) Ha_gapLeast (by omega)
    generalize (va_up a_gapLeast (s_gapCount : Int).toNat l0) = f7 at h6 ⊢
    refine z_aloadn C 0 dX7_addGap_40 rfl rfl ?_
    refine z_dup C dX7_addGap_41 rfl ?_
    refine z_get C 18 (by decide) rfl rfl z_it7 6 (by decide) rfl fl_7_45 rfl dX7_addGap_42 ?_
    refine z_iconst C dX7_addGap_45 ?_
    refine z_iadd C dX7_addGap_46 ?_
    refine z_put C 18 (by decide) rfl rfl z_it7 tyX7 tyX7_ok nmX7 6 (by decide) rfl (Or.inl rfl) fl_7_45 z_pfI rfl rfl (Nat.le_of_ble_eq_true rfl) dX7_addGap_47 ?_
    refine z_ext (S' := (z_zc ad ks s_edgeCount s_moveCount s_isNeeded s_timesDone s_size s_isGoing s_allTime s_stepCount (s_gapCount + 1) g_edges g_moves g_limits a_sfacts a_sbounds a_facts a_zone a_most a_places a_amounts a_nextPlaces a_nextAmounts a_earliest a_visited a_lastSet f3 f5 f7 a_askedPlaces a_askedAmounts)) upC_s_gapCount ?_
    rw [hQ]
    exact z_vret C hrt dX7_addGap_50 (⟨(s_gapCount + 1), f3, f5, f7, rfl, rfl, by omega, h2, h4, h6, rfl⟩) (by omega) (by omega)
set_option maxRecDepth 20000 in
theorem cm_X7_addTests (l : Launch) {D : va_G} {A : Nat → Prop} {ad : Nat → Nat} {ks : z_Ks} {s_edgeCount s_moveCount s_isNeeded s_timesDone s_size s_isGoing s_allTime s_stepCount s_gapCount : Int} {g_edges g_moves g_limits : Nat → Option Nat} {a_sfacts a_sbounds a_facts a_zone a_most a_places a_amounts a_nextPlaces a_nextAmounts a_earliest a_visited a_lastSet a_gapFrom a_gapTo a_gapLeast a_askedPlaces a_askedAmounts : Nat → Int} {Y : Nat → Option va_E} (k0 : Int) (q : Nat) (Hs_gapCount : (0 ≤ s_gapCount ∧ s_gapCount ≤ 615)) (Ha_gapFrom : (∀ j, 0 ≤ a_gapFrom j ∧ a_gapFrom j ≤ 40)) (Ha_gapTo : (∀ j, 0 ≤ a_gapTo j ∧ a_gapTo j ≤ 40)) (Ha_gapLeast : (∀ j, z_rg (a_gapLeast j))) (Ha_lastSet : (∀ j, 0 ≤ a_lastSet j ∧ a_lastSet j ≤ 40)) (hq : z_TL ks Y q) (hk : 0 ≤ k0 ∧ k0 ≤ 40) : z_Met l yX7_addTests cX7_addTests 6 none 1 23 0 0 D A 27 ad ks [.ref (ad 18), .ref q, z_v k0] (z_zc ad ks s_edgeCount s_moveCount s_isNeeded s_timesDone s_size s_isGoing s_allTime s_stepCount s_gapCount g_edges g_moves g_limits a_sfacts a_sbounds a_facts a_zone a_most a_places a_amounts a_nextPlaces a_nextAmounts a_earliest a_visited a_lastSet a_gapFrom a_gapTo a_gapLeast a_askedPlaces a_askedAmounts) Y (fun r S' Y' => ∃ ns_gapCount : Int, ∃ na_gapFrom : Nat → Int, ∃ na_gapTo : Nat → Int, ∃ na_gapLeast : Nat → Int, S' = (z_zc ad ks s_edgeCount s_moveCount s_isNeeded s_timesDone s_size s_isGoing s_allTime s_stepCount ns_gapCount g_edges g_moves g_limits a_sfacts a_sbounds a_facts a_zone a_most a_places a_amounts a_nextPlaces a_nextAmounts a_earliest a_visited a_lastSet na_gapFrom na_gapTo na_gapLeast a_askedPlaces a_askedAmounts) ∧ Y = Y' ∧ (0 ≤ ns_gapCount ∧ ns_gapCount ≤ 615) ∧ (∀ j, 0 ≤ na_gapFrom j ∧ na_gapFrom j ≤ 40) ∧ (∀ j, 0 ≤ na_gapTo j ∧ na_gapTo j ≤ 40) ∧ (∀ j, z_rg (na_gapLeast j)) ∧ r = none) := by
  refine z_start2 (by decide) (Nat.le_of_ble_eq_true rfl) ?_
  intro p e R s m args below meth c Q C hRf hRc hRs hRl hQ hrt hnm
  refine z_loc (L' := [(0, .ref (ad 18)), (1, .ref q), (2, z_v k0)]) [0, 1, 2] rfl ?_
  refine z_iconst C dX7_addTests_0 ?_
  refine z_istoren (L' := [(3, z_v 0), (0, .ref (ad 18)), (1, .ref q), (2, z_v k0)]) C dX7_addTests_1 rfl (by decide) rfl ?_
  have L2 : ∀ (n : Nat), ∀ (i3 : Int) (fs_gapCount : Int) (fa_gapFrom : Nat → Int) (fa_gapTo : Nat → Int) (fa_gapLeast : Nat → Int), ((0 ≤ fs_gapCount ∧ fs_gapCount ≤ 615)) → ((∀ j, 0 ≤ fa_gapFrom j ∧ fa_gapFrom j ≤ 40)) → ((∀ j, 0 ≤ fa_gapTo j ∧ fa_gapTo j ≤ 40)) → ((∀ j, z_rg (fa_gapLeast j))) → (0 ≤ i3 ∧ i3 ≤ 2) → ((2 : Int) - i3).toNat < n → z_V p l e R s m args below meth c Q D A 27 ad 6 (z_zc ad ks s_edgeCount s_moveCount s_isNeeded s_timesDone s_size s_isGoing s_allTime s_stepCount fs_gapCount g_edges g_moves g_limits a_sfacts a_sbounds a_facts a_zone a_most a_places a_amounts a_nextPlaces a_nextAmounts a_earliest a_visited a_lastSet fa_gapFrom fa_gapTo fa_gapLeast a_askedPlaces a_askedAmounts) Y 0 0 2 [(0, .ref (ad 18)), (1, .ref q), (2, z_v k0), (3, z_v i3)] [] := by
    intro n
    induction n with
    | zero => intro i3 fs_gapCount fa_gapFrom fa_gapTo fa_gapLeast Hfs_gapCount Hfa_gapFrom Hfa_gapTo Hfa_gapLeast I3 hm; exact absurd hm (Nat.not_lt_zero _)
    | succ n ih2 =>
      intro i3 fs_gapCount fa_gapFrom fa_gapTo fa_gapLeast Hfs_gapCount Hfa_gapFrom Hfa_gapTo Hfa_gapLeast I3 hm
      refine z_iloadn C 3 dX7_addTests_2 rfl rfl ?_
      refine z_aloadn C 1 dX7_addTests_3 rfl rfl ?_
      obtain ⟨td1, nd1, gd1, yd1, wd1, ad1, bd1⟩ := id hq
      refine z_getY C yd1 rfl z_it6 1 (by decide) rfl fl_7_103 rfl dX7_addTests_4 ?_
      refine z_icmp_ge (t := 77) C dX7_addTests_7 (by decide) (by omega) (by omega) (fun c2 => ?_) (fun c2 => ?_)
      · skip
        rw [hQ]
        exact z_vret C hrt dX7_addTests_77 (⟨fs_gapCount, fa_gapFrom, fa_gapTo, fa_gapLeast, rfl, rfl, by omega, Hfa_gapFrom, Hfa_gapTo, Hfa_gapLeast, rfl⟩) (by omega) (by omega)
      · skip
        refine z_aloadn C 1 dX7_addTests_10 rfl rfl ?_
        refine z_getY C yd1 rfl z_it6 0 (by decide) rfl fl_7_108 rfl dX7_addTests_11 ?_
        refine z_iloadn C 3 dX7_addTests_14 rfl rfl ?_
        obtain ⟨q3, eq3, hq3⟩ := bd1 (i3 : Int).toNat (by omega)
        refine z_aaldT C 4 wd1 rfl (by decide) (by omega) (by omega) eq3 dX7_addTests_15 ?_
        refine z_astore (L' := [(4, .ref q3), (0, .ref (ad 18)), (1, .ref q), (2, z_v k0), (3, z_v i3)]) C dX7_addTests_16 (by decide) rfl ?_
        refine z_aloadn C 1 dX7_addTests_18 rfl rfl ?_
        refine z_get C 18 (by decide) rfl rfl z_it7 2 (by decide) rfl fl_7_18 rfl dX7_addTests_19 ?_
        refine z_aload C 0 dX7_addTests_22 rfl ?_
        obtain ⟨cd4, sd4, nd4, yd4, ad4⟩ := id hq3
        refine z_getY C yd4 rfl z_it5 0 (by decide) rfl fl_7_112 rfl dX7_addTests_24 ?_
        refine z_iald C 21 (by decide) rfl (by decide) (by omega) (by omega) dX7_addTests_27 ?_
        have rx5 := Ha_lastSet (cd4 : Int).toNat
        generalize ex5 : a_lastSet (cd4 : Int).toNat = x5 at rx5 ⊢
        refine z_istore (L' := [(5, z_v x5), (4, .ref q3), (0, .ref (ad 18)), (1, .ref q), (2, z_v k0), (3, z_v i3)]) C dX7_addTests_28 (by decide) rfl ?_
        refine z_aload C 1 dX7_addTests_30 rfl ?_
        refine z_callV C (cm_X5_isCeiling l q3 hq3) mv_7_117 (z_atY 5 yd4 rfl rfl) pd_X5_isCeiling ⟨by omega, by omega⟩ ⟨by omega, by omega⟩ rfl (Nat.le_of_ble_eq_true rfl) dX7_addTests_32 ?_
        rintro _ _ _ ⟨rfl, rfl, z8, rfl, hz8⟩
        refine z_if_eq (t := 51) C dX7_addTests_35 (by decide) (by omega) (fun c9 => ?_) (fun c9 => ?_)
        · skip
          refine z_aload C 1 dX7_addTests_51 rfl ?_
          refine z_callV C (cm_X5_isFloor l q3 hq3) mv_7_125 (z_atY 5 yd4 rfl rfl) pd_X5_isFloor ⟨by omega, by omega⟩ ⟨by omega, by omega⟩ rfl (Nat.le_of_ble_eq_true rfl) dX7_addTests_53 ?_
          rintro _ _ _ ⟨rfl, rfl, z12, rfl, hz12⟩
          refine z_if_eq (t := 71) C dX7_addTests_56 (by decide) (by omega) (fun c13 => ?_) (fun c13 => ?_)
          · skip
            refine z_iinc (L' := [(3, z_v (i3 + 1)), (5, z_v x5), (4, .ref q3), (0, .ref (ad 18)), (1, .ref q), (2, z_v k0)]) C 5 dX7_addTests_71 rfl (by decide) rfl ?_
            refine z_goto (t := 2) C dX7_addTests_74 (by decide) ?_
            refine z_loc (L' := [(0, .ref (ad 18)), (1, .ref q), (2, z_v k0), (3, z_v (i3 + 1))]) [3, 4, 5, 0] rfl ?_
            exact ih2 (i3 + 1) fs_gapCount fa_gapFrom fa_gapTo fa_gapLeast (by omega) Hfa_gapFrom Hfa_gapTo Hfa_gapLeast (by omega) (by omega)
          · skip
            refine z_aloadn C 2 dX7_addTests_59 rfl rfl ?_
            refine z_iload C 0 dX7_addTests_60 rfl ?_
            refine z_iloadn C 4 dX7_addTests_62 rfl rfl ?_
            refine z_aload C 1 dX7_addTests_63 rfl ?_
            refine z_callV C (cm_X5_leastParts l q3 hq3) mv_7_128 (z_atY 5 yd4 rfl rfl) pd_X5_leastParts ⟨by omega, by omega⟩ ⟨by omega, by omega⟩ rfl (Nat.le_of_ble_eq_true rfl) dX7_addTests_65 ?_
            rintro _ _ _ ⟨rfl, rfl, z16, rfl, hz16⟩
            refine z_callV C (cm_X7_addGap l x5 k0 z16 (by omega) Hfa_gapFrom Hfa_gapTo Hfa_gapLeast (by omega) (by omega) (by omega)) mv_7_55 (z_atS 18 7 (by decide) rfl rfl rfl) pd_X7_addGap ⟨by omega, by omega⟩ ⟨by omega, by omega⟩ rfl (Nat.le_of_ble_eq_true rfl) dX7_addTests_68 ?_
            rintro _ _ _ ⟨n17, n18, n19, n20, rfl, rfl, h23, h24, h25, h26, rfl⟩
            refine z_iinc (L' := [(3, z_v (i3 + 1)), (5, z_v x5), (4, .ref q3), (0, .ref (ad 18)), (1, .ref q), (2, z_v k0)]) C 5 dX7_addTests_71 rfl (by decide) rfl ?_
            refine z_goto (t := 2) C dX7_addTests_74 (by decide) ?_
            refine z_loc (L' := [(0, .ref (ad 18)), (1, .ref q), (2, z_v k0), (3, z_v (i3 + 1))]) [3, 4, 5, 0] rfl ?_
            exact ih2 (i3 + 1) n17 n18 n19 n20 (by omega) h24 h25 h26 (by omega) (by omega)
        · skip
          refine z_aloadn C 2 dX7_addTests_38 rfl rfl ?_
          refine z_iloadn C 4 dX7_addTests_39 rfl rfl ?_
          refine z_iload C 0 dX7_addTests_40 rfl ?_
          refine z_aload C 1 dX7_addTests_42 rfl ?_
          refine z_callV C (cm_X5_mostParts l q3 hq3) mv_7_121 (z_atY 5 yd4 rfl rfl) pd_X5_mostParts ⟨by omega, by omega⟩ ⟨by omega, by omega⟩ rfl (Nat.le_of_ble_eq_true rfl) dX7_addTests_44 ?_
          rintro _ _ _ ⟨rfl, rfl, z29, rfl, hz29⟩
          refine z_ineg C dX7_addTests_47 ?_
          refine z_callV C (cm_X7_addGap l k0 x5 (-z29) (by omega) Hfa_gapFrom Hfa_gapTo Hfa_gapLeast (by omega) (by omega) (by omega)) mv_7_55 (z_atS 18 7 (by decide) rfl rfl rfl) pd_X7_addGap ⟨by omega, by omega⟩ ⟨by omega, by omega⟩ rfl (Nat.le_of_ble_eq_true rfl) dX7_addTests_48 ?_
          rintro _ _ _ ⟨n30, n31, n32, n33, rfl, rfl, h36, h37, h38, h39, rfl⟩
          refine z_aload C 1 dX7_addTests_51 rfl ?_
          refine z_callV C (cm_X5_isFloor l q3 hq3) mv_7_125 (z_atY 5 yd4 rfl rfl) pd_X5_isFloor ⟨by omega, by omega⟩ ⟨by omega, by omega⟩ rfl (Nat.le_of_ble_eq_true rfl) dX7_addTests_53 ?_
          rintro _ _ _ ⟨rfl, rfl, z42, rfl, hz42⟩
          refine z_if_eq (t := 71) C dX7_addTests_56 (by decide) (by omega) (fun c43 => ?_) (fun c43 => ?_)
          · skip
            refine z_iinc (L' := [(3, z_v (i3 + 1)), (5, z_v x5), (4, .ref q3), (0, .ref (ad 18)), (1, .ref q), (2, z_v k0)]) C 5 dX7_addTests_71 rfl (by decide) rfl ?_
            refine z_goto (t := 2) C dX7_addTests_74 (by decide) ?_
            refine z_loc (L' := [(0, .ref (ad 18)), (1, .ref q), (2, z_v k0), (3, z_v (i3 + 1))]) [3, 4, 5, 0] rfl ?_
            exact ih2 (i3 + 1) n30 n31 n32 n33 (by omega) h37 h38 h39 (by omega) (by omega)
          · skip
            refine z_aloadn C 2 dX7_addTests_59 rfl rfl ?_
            refine z_iload C 0 dX7_addTests_60 rfl ?_
            refine z_iloadn C 4 dX7_addTests_62 rfl rfl ?_
            refine z_aload C 1 dX7_addTests_63 rfl ?_
            refine z_callV C (cm_X5_leastParts l q3 hq3) mv_7_128 (z_atY 5 yd4 rfl rfl) pd_X5_leastParts ⟨by omega, by omega⟩ ⟨by omega, by omega⟩ rfl (Nat.le_of_ble_eq_true rfl) dX7_addTests_65 ?_
            rintro _ _ _ ⟨rfl, rfl, z46, rfl, hz46⟩
            refine z_callV C (cm_X7_addGap l x5 k0 z46 (by omega) h37 h38 h39 (by omega) (by omega) (by omega)) mv_7_55 (z_atS 18 7 (by decide) rfl rfl rfl) pd_X7_addGap ⟨by omega, by omega⟩ ⟨by omega, by omega⟩ rfl (Nat.le_of_ble_eq_true rfl) dX7_addTests_68 ?_
            rintro _ _ _ ⟨n47, n48, n49, n50, rfl, rfl, h53, h54, h55, h56, rfl⟩
            refine z_iinc (L' := [(3, z_v (i3 + 1)), (5, z_v x5), (4, .ref q3), (0, .ref (ad 18)), (1, .ref q), (2, z_v k0)]) C 5 dX7_addTests_71 rfl (by decide) rfl ?_
            refine z_goto (t := 2) C dX7_addTests_74 (by decide) ?_
            refine z_loc (L' := [(0, .ref (ad 18)), (1, .ref q), (2, z_v k0), (3, z_v (i3 + 1))]) [3, 4, 5, 0] rfl ?_
            exact ih2 (i3 + 1) n47 n48 n49 n50 (by omega) h54 h55 h56 (by omega) (by omega)
  refine z_loc (L' := [(0, .ref (ad 18)), (1, .ref q), (2, z_v k0), (3, z_v 0)]) [1, 2, 3, 0] rfl ?_
  exact (L2 (((2 : Int) - 0).toNat + 1)) 0 s_gapCount a_gapFrom a_gapTo a_gapLeast (by omega) Ha_gapFrom Ha_gapTo Ha_gapLeast (by omega) (Nat.lt_succ_self _)
set_option maxRecDepth 20000 in
theorem cm_X7_addLimits (l : Launch) {D : va_G} {A : Nat → Prop} {ad : Nat → Nat} {ks : z_Ks} {s_edgeCount s_moveCount s_isNeeded s_timesDone s_size s_isGoing s_allTime s_stepCount s_gapCount : Int} {g_edges g_moves g_limits : Nat → Option Nat} {a_sfacts a_sbounds a_facts a_zone a_most a_places a_amounts a_nextPlaces a_nextAmounts a_earliest a_visited a_lastSet a_gapFrom a_gapTo a_gapLeast a_askedPlaces a_askedAmounts : Nat → Int} {Y : Nat → Option va_E} (m0 k0 : Int) (Hs_gapCount : (0 ≤ s_gapCount ∧ s_gapCount ≤ 615)) (Ha_gapFrom : (∀ j, 0 ≤ a_gapFrom j ∧ a_gapFrom j ≤ 40)) (Ha_gapTo : (∀ j, 0 ≤ a_gapTo j ∧ a_gapTo j ≤ 40)) (Ha_gapLeast : (∀ j, z_rg (a_gapLeast j))) (Ha_lastSet : (∀ j, 0 ≤ a_lastSet j ∧ a_lastSet j ≤ 40)) (Ha_sfacts : (∀ j, (j % 7 < 3 → 0 ≤ a_sfacts j ∧ a_sfacts j ≤ 5) ∧ (j % 7 = 3 → -1 ≤ a_sfacts j ∧ a_sfacts j ≤ 119) ∧ (j % 7 = 6 → 0 ≤ a_sfacts j ∧ a_sfacts j ≤ 40) ∧ z_rg (a_sfacts j))) (hm : 0 ≤ m0 ∧ m0 ≤ 119) (hk : 0 ≤ k0 ∧ k0 ≤ 40) (HL : ∀ j : Nat, (j : Int) < 18 → ∃ q, g_limits j = some q ∧ z_TL ks Y q) : z_Met l yX7_addLimits cX7_addLimits 6 none 2 48 0 0 D A 27 ad ks [.ref (ad 18), .ref (ad 1), .ref (ad 6), z_v m0, z_v k0] (z_zc ad ks s_edgeCount s_moveCount s_isNeeded s_timesDone s_size s_isGoing s_allTime s_stepCount s_gapCount g_edges g_moves g_limits a_sfacts a_sbounds a_facts a_zone a_most a_places a_amounts a_nextPlaces a_nextAmounts a_earliest a_visited a_lastSet a_gapFrom a_gapTo a_gapLeast a_askedPlaces a_askedAmounts) Y (fun r S' Y' => ∃ ns_gapCount : Int, ∃ na_gapFrom : Nat → Int, ∃ na_gapTo : Nat → Int, ∃ na_gapLeast : Nat → Int, S' = (z_zc ad ks s_edgeCount s_moveCount s_isNeeded s_timesDone s_size s_isGoing s_allTime s_stepCount ns_gapCount g_edges g_moves g_limits a_sfacts a_sbounds a_facts a_zone a_most a_places a_amounts a_nextPlaces a_nextAmounts a_earliest a_visited a_lastSet na_gapFrom na_gapTo na_gapLeast a_askedPlaces a_askedAmounts) ∧ Y = Y' ∧ (0 ≤ ns_gapCount ∧ ns_gapCount ≤ 615) ∧ (∀ j, 0 ≤ na_gapFrom j ∧ na_gapFrom j ≤ 40) ∧ (∀ j, 0 ≤ na_gapTo j ∧ na_gapTo j ≤ 40) ∧ (∀ j, z_rg (na_gapLeast j)) ∧ r = none) := by
  refine z_start2 (by decide) (Nat.le_of_ble_eq_true rfl) ?_
  intro p e R s m args below meth c Q C hRf hRc hRs hRl hQ hrt hnm
  refine z_loc (L' := [(0, .ref (ad 18)), (1, .ref (ad 1)), (2, .ref (ad 6)), (3, z_v m0), (4, z_v k0)]) [0, 1, 2, 3, 4] rfl ?_
  refine z_iconst C dX7_addLimits_0 ?_
  refine z_istore (L' := [(5, z_v 0), (0, .ref (ad 18)), (1, .ref (ad 1)), (2, .ref (ad 6)), (3, z_v m0), (4, z_v k0)]) C dX7_addLimits_1 (by decide) rfl ?_
  have L3 : ∀ (n : Nat), ∀ (i5 : Int) (fs_gapCount : Int) (fa_gapFrom : Nat → Int) (fa_gapTo : Nat → Int) (fa_gapLeast : Nat → Int), ((0 ≤ fs_gapCount ∧ fs_gapCount ≤ 615)) → ((∀ j, 0 ≤ fa_gapFrom j ∧ fa_gapFrom j ≤ 40)) → ((∀ j, 0 ≤ fa_gapTo j ∧ fa_gapTo j ≤ 40)) → ((∀ j, z_rg (fa_gapLeast j))) → (0 ≤ i5 ∧ i5 ≤ 3) → ((3 : Int) - i5).toNat < n → z_V p l e R s m args below meth c Q D A 27 ad 6 (z_zc ad ks s_edgeCount s_moveCount s_isNeeded s_timesDone s_size s_isGoing s_allTime s_stepCount fs_gapCount g_edges g_moves g_limits a_sfacts a_sbounds a_facts a_zone a_most a_places a_amounts a_nextPlaces a_nextAmounts a_earliest a_visited a_lastSet fa_gapFrom fa_gapTo fa_gapLeast a_askedPlaces a_askedAmounts) Y 0 0 3 [(0, .ref (ad 18)), (1, .ref (ad 1)), (2, .ref (ad 6)), (3, z_v m0), (4, z_v k0), (5, z_v i5)] [] := by
    intro n
    induction n with
    | zero => intro i5 fs_gapCount fa_gapFrom fa_gapTo fa_gapLeast Hfs_gapCount Hfa_gapFrom Hfa_gapTo Hfa_gapLeast I5 hm; exact absurd hm (Nat.not_lt_zero _)
    | succ n ih3 =>
      intro i5 fs_gapCount fa_gapFrom fa_gapTo fa_gapLeast Hfs_gapCount Hfa_gapFrom Hfa_gapTo Hfa_gapLeast I5 hm
      refine z_iload C 5 dX7_addLimits_3 rfl ?_
      refine z_iconst C dX7_addLimits_5 ?_
      refine z_icmp_ge (t := 34) C dX7_addLimits_6 (by decide) (by omega) (by omega) (fun c1 => ?_) (fun c1 => ?_)
      · skip
        rw [hQ]
        exact z_vret C hrt dX7_addLimits_34 (⟨fs_gapCount, fa_gapFrom, fa_gapTo, fa_gapLeast, rfl, rfl, by omega, Hfa_gapFrom, Hfa_gapTo, Hfa_gapLeast, rfl⟩) (by omega) (by omega)
      · skip
        refine z_aloadn C 0 dX7_addLimits_9 rfl rfl ?_
        refine z_aloadn C 1 dX7_addLimits_10 rfl rfl ?_
        refine z_iload C 5 dX7_addLimits_11 rfl ?_
        refine z_aloadn C 2 dX7_addLimits_13 rfl rfl ?_
        refine z_iloadn C 3 dX7_addLimits_14 rfl rfl ?_
        refine z_iload C 5 dX7_addLimits_15 rfl ?_
        refine z_callV C (cm_X4_fact l m0 i5 Ha_sfacts (by omega) (by omega)) mv_7_30 (z_atS 6 4 (by decide) rfl rfl rfl) pd_X4_fact ⟨by omega, by omega⟩ ⟨by omega, by omega⟩ rfl (Nat.le_of_ble_eq_true rfl) dX7_addLimits_17 ?_
        rintro _ _ _ ⟨rfl, rfl, z4, rfl, hz4⟩
        refine z_callV C (cm_X2_limitsOf l i5 z4 (by omega) (by omega) HL) mv_7_99 (z_atS 1 2 (by decide) rfl rfl rfl) pd_X2_limitsOf ⟨by omega, by omega⟩ ⟨by omega, by omega⟩ rfl (Nat.le_of_ble_eq_true rfl) dX7_addLimits_20 ?_
        rintro _ _ _ ⟨rfl, rfl, q5, rfl, hq5⟩
        refine z_iload C 4 dX7_addLimits_23 rfl ?_
        refine z_callV C (cm_X7_addTests l k0 q5 (by omega) Hfa_gapFrom Hfa_gapTo Hfa_gapLeast Ha_lastSet hq5 (by omega)) mv_7_88 (z_atS 18 7 (by decide) rfl rfl rfl) pd_X7_addTests ⟨by omega, by omega⟩ ⟨by omega, by omega⟩ rfl (Nat.le_of_ble_eq_true rfl) dX7_addLimits_25 ?_
        rintro _ _ _ ⟨n6, n7, n8, n9, rfl, rfl, h12, h13, h14, h15, rfl⟩
        refine z_iinc (L' := [(5, z_v (i5 + 1)), (0, .ref (ad 18)), (1, .ref (ad 1)), (2, .ref (ad 6)), (3, z_v m0), (4, z_v k0)]) C 5 dX7_addLimits_28 rfl (by decide) rfl ?_
        refine z_goto (t := 3) C dX7_addLimits_31 (by decide) ?_
        refine z_loc (L' := [(0, .ref (ad 18)), (1, .ref (ad 1)), (2, .ref (ad 6)), (3, z_v m0), (4, z_v k0), (5, z_v (i5 + 1))]) [1, 2, 3, 4, 5, 0] rfl ?_
        exact ih3 (i5 + 1) n6 n7 n8 n9 (by omega) h13 h14 h15 (by omega) (by omega)
  refine z_loc (L' := [(0, .ref (ad 18)), (1, .ref (ad 1)), (2, .ref (ad 6)), (3, z_v m0), (4, z_v k0), (5, z_v 0)]) [1, 2, 3, 4, 5, 0] rfl ?_
  exact (L3 (((3 : Int) - 0).toNat + 1)) 0 s_gapCount a_gapFrom a_gapTo a_gapLeast (by omega) Ha_gapFrom Ha_gapTo Ha_gapLeast (by omega) (Nat.lt_succ_self _)
set_option maxRecDepth 20000 in
theorem cm_X7_addStep (l : Launch) {D : va_G} {A : Nat → Prop} {ad : Nat → Nat} {ks : z_Ks} {s_edgeCount s_moveCount s_isNeeded s_timesDone s_size s_isGoing s_allTime s_stepCount s_gapCount : Int} {g_edges g_moves g_limits : Nat → Option Nat} {a_sfacts a_sbounds a_facts a_zone a_most a_places a_amounts a_nextPlaces a_nextAmounts a_earliest a_visited a_lastSet a_gapFrom a_gapTo a_gapLeast a_askedPlaces a_askedAmounts : Nat → Int} {Y : Nat → Option va_E} (k0 : Int) (q : Nat) (Hs_gapCount : (0 ≤ s_gapCount ∧ s_gapCount ≤ 615)) (Ha_gapFrom : (∀ j, 0 ≤ a_gapFrom j ∧ a_gapFrom j ≤ 40)) (Ha_gapTo : (∀ j, 0 ≤ a_gapTo j ∧ a_gapTo j ≤ 40)) (Ha_gapLeast : (∀ j, z_rg (a_gapLeast j))) (Ha_lastSet : (∀ j, 0 ≤ a_lastSet j ∧ a_lastSet j ≤ 40)) (hq : z_Mv ks Y q) (hk : 0 ≤ k0 ∧ k0 ≤ 40) : z_Met l yX7_addStep cX7_addStep 4 none 2 48 0 0 D A 27 ad ks [.ref (ad 18), .ref q, z_v k0] (z_zc ad ks s_edgeCount s_moveCount s_isNeeded s_timesDone s_size s_isGoing s_allTime s_stepCount s_gapCount g_edges g_moves g_limits a_sfacts a_sbounds a_facts a_zone a_most a_places a_amounts a_nextPlaces a_nextAmounts a_earliest a_visited a_lastSet a_gapFrom a_gapTo a_gapLeast a_askedPlaces a_askedAmounts) Y (fun r S' Y' => ∃ ns_gapCount : Int, ∃ na_gapFrom : Nat → Int, ∃ na_gapTo : Nat → Int, ∃ na_gapLeast : Nat → Int, ∃ na_lastSet : Nat → Int, S' = (z_zc ad ks s_edgeCount s_moveCount s_isNeeded s_timesDone s_size s_isGoing s_allTime s_stepCount ns_gapCount g_edges g_moves g_limits a_sfacts a_sbounds a_facts a_zone a_most a_places a_amounts a_nextPlaces a_nextAmounts a_earliest a_visited na_lastSet na_gapFrom na_gapTo na_gapLeast a_askedPlaces a_askedAmounts) ∧ Y = Y' ∧ (0 ≤ ns_gapCount ∧ ns_gapCount ≤ 615) ∧ (∀ j, 0 ≤ na_gapFrom j ∧ na_gapFrom j ≤ 40) ∧ (∀ j, 0 ≤ na_gapTo j ∧ na_gapTo j ≤ 40) ∧ (∀ j, z_rg (na_gapLeast j)) ∧ (∀ j, 0 ≤ na_lastSet j ∧ na_lastSet j ≤ 40) ∧ r = none) := by
  refine z_start2 (by decide) (Nat.le_of_ble_eq_true rfl) ?_
  intro p e R s m args below meth c Q C hRf hRc hRs hRl hQ hrt hnm
  refine z_loc (L' := [(0, .ref (ad 18)), (1, .ref q), (2, z_v k0)]) [0, 1, 2] rfl ?_
  refine z_aloadn C 1 dX7_addStep_0 rfl rfl ?_
  refine z_ifnonnull (t := 5) C dX7_addStep_1 (by decide) ?_
  refine z_aloadn C 0 dX7_addStep_5 rfl rfl ?_
  refine z_aloadn C 1 dX7_addStep_6 rfl rfl ?_
  obtain ⟨fd1, sd1, pd1, od1, rd1, yd1, ad1, bd1, kd1⟩ := id hq
  rcases od1 with _ | od1
  · skip
    refine z_getY C yd1 rfl z_it1 2 (by decide) rfl fl_7_76 rfl dX7_addStep_7 ?_
    obtain ⟨md2, fd2, td2, kd2, rd2, gd2, yd2, ad2, bd2⟩ := id bd1
    refine z_getY C yd2 rfl z_it0 5 (by decide) rfl fl_7_82 rfl dX7_addStep_10 ?_
    refine z_iloadn C 2 dX7_addStep_13 rfl rfl ?_
    refine z_callV C (cm_X7_addTests l k0 gd2 (by omega) Ha_gapFrom Ha_gapTo Ha_gapLeast Ha_lastSet bd2 (by omega)) mv_7_88 (z_atS 18 7 (by decide) rfl rfl rfl) pd_X7_addTests ⟨by omega, by omega⟩ ⟨by omega, by omega⟩ rfl (Nat.le_of_ble_eq_true rfl) dX7_addStep_14 ?_
    rintro _ _ _ ⟨n3, n4, n5, n6, rfl, rfl, h9, h10, h11, h12, rfl⟩
    refine z_aloadn C 1 dX7_addStep_17 rfl rfl ?_
    refine z_getY C yd1 rfl z_it1 3 (by decide) rfl fl_7_92 rfl dX7_addStep_18 ?_
    refine z_ifnullN (t := 36) C dX7_addStep_21 (by decide) ?_
    refine z_iconst C dX7_addStep_36 ?_
    refine z_istoren (L' := [(3, z_v 1), (0, .ref (ad 18)), (1, .ref q), (2, z_v k0)]) C dX7_addStep_37 rfl (by decide) rfl ?_
    have L38 : ∀ (n : Nat), ∀ (i3 : Int) (fa_lastSet : Nat → Int), ((∀ j, 0 ≤ fa_lastSet j ∧ fa_lastSet j ≤ 40)) → (1 ≤ i3 ∧ i3 ≤ 4) → ((4 : Int) - i3).toNat < n → z_V p l e R s m args below meth c Q D A 27 ad 4 (z_zc ad ks s_edgeCount s_moveCount s_isNeeded s_timesDone s_size s_isGoing s_allTime s_stepCount n3 g_edges g_moves g_limits a_sfacts a_sbounds a_facts a_zone a_most a_places a_amounts a_nextPlaces a_nextAmounts a_earliest a_visited fa_lastSet n4 n5 n6 a_askedPlaces a_askedAmounts) Y 0 0 38 [(0, .ref (ad 18)), (1, .ref q), (2, z_v k0), (3, z_v i3)] [] := by
      intro n
      induction n with
      | zero => intro i3 fa_lastSet Hfa_lastSet I3 hm; exact absurd hm (Nat.not_lt_zero _)
      | succ n ih38 =>
        intro i3 fa_lastSet Hfa_lastSet I3 hm
        refine z_iloadn C 3 dX7_addStep_38 rfl rfl ?_
        refine z_iconst C dX7_addStep_39 ?_
        refine z_icmp_ge (t := 64) C dX7_addStep_40 (by decide) (by omega) (by omega) (fun c13 => ?_) (fun c13 => ?_)
        · skip
          rw [hQ]
          exact z_vret C hrt dX7_addStep_64 (⟨n3, n4, n5, n6, fa_lastSet, rfl, rfl, by omega, h10, h11, h12, Hfa_lastSet, rfl⟩) (by omega) (by omega)
        · skip
          refine z_aloadn C 1 dX7_addStep_43 rfl rfl ?_
          refine z_iloadn C 3 dX7_addStep_44 rfl rfl ?_
          refine z_callV C (cm_X1_sets l i3 q hq (by omega)) mv_7_95 (z_atY 1 yd1 rfl rfl) pd_X1_sets ⟨by omega, by omega⟩ ⟨by omega, by omega⟩ rfl (Nat.le_of_ble_eq_true rfl) dX7_addStep_45 ?_
          rintro _ _ _ ⟨rfl, rfl, z16, rfl, hz16⟩
          refine z_if_eq (t := 58) C dX7_addStep_48 (by decide) (by omega) (fun c17 => ?_) (fun c17 => ?_)
          · skip
            refine z_iinc (L' := [(3, z_v (i3 + 1)), (0, .ref (ad 18)), (1, .ref q), (2, z_v k0)]) C 3 dX7_addStep_58 rfl (by decide) rfl ?_
            refine z_goto (t := 38) C dX7_addStep_61 (by decide) ?_
            refine z_loc (L' := [(0, .ref (ad 18)), (1, .ref q), (2, z_v k0), (3, z_v (i3 + 1))]) [1, 2, 3, 0] rfl ?_
            exact ih38 (i3 + 1) fa_lastSet Hfa_lastSet (by omega) (by omega)
          · skip
            refine z_aloadn C 0 dX7_addStep_51 rfl rfl ?_
            refine z_get C 18 (by decide) rfl rfl z_it7 2 (by decide) rfl fl_7_18 rfl dX7_addStep_52 ?_
            refine z_iloadn C 3 dX7_addStep_55 rfl rfl ?_
            refine z_iloadn C 2 dX7_addStep_56 rfl rfl ?_
            refine z_iast C 21 (by decide) rfl (by decide) (by omega) (by omega) dX7_addStep_57 ?_
            refine z_ext (S' := (z_zc ad ks s_edgeCount s_moveCount s_isNeeded s_timesDone s_size s_isGoing s_allTime s_stepCount n3 g_edges g_moves g_limits a_sfacts a_sbounds a_facts a_zone a_most a_places a_amounts a_nextPlaces a_nextAmounts a_earliest a_visited (va_up fa_lastSet (i3 : Int).toNat k0) n4 n5 n6 a_askedPlaces a_askedAmounts)) upC_a_lastSet ?_
            have h18 : ∀ j, 0 ≤ (va_up fa_lastSet (i3 : Int).toNat k0) j ∧ (va_up fa_lastSet (i3 : Int).toNat k0) j ≤ 40 := z_upP (P := fun j v => 0 ≤ v ∧ v ≤ 40) Hfa_lastSet (by omega)
            generalize (va_up fa_lastSet (i3 : Int).toNat k0) = f19 at h18 ⊢
            refine z_iinc (L' := [(3, z_v (i3 + 1)), (0, .ref (ad 18)), (1, .ref q), (2, z_v k0)]) C 3 dX7_addStep_58 rfl (by decide) rfl ?_
            refine z_goto (t := 38) C dX7_addStep_61 (by decide) ?_
            refine z_loc (L' := [(0, .ref (ad 18)), (1, .ref q), (2, z_v k0), (3, z_v (i3 + 1))]) [1, 2, 3, 0] rfl ?_
            exact ih38 (i3 + 1) f19 h18 (by omega) (by omega)
    refine z_loc (L' := [(0, .ref (ad 18)), (1, .ref q), (2, z_v k0), (3, z_v 1)]) [1, 2, 3, 0] rfl ?_
    exact (L38 (((4 : Int) - 1).toNat + 1)) 1 a_lastSet Ha_lastSet (by omega) (Nat.lt_succ_self _)
  · skip
    refine z_getY C yd1 rfl z_it1 2 (by decide) rfl fl_7_76 rfl dX7_addStep_7 ?_
    obtain ⟨md20, fd20, td20, kd20, rd20, gd20, yd20, ad20, bd20⟩ := id bd1
    refine z_getY C yd20 rfl z_it0 5 (by decide) rfl fl_7_82 rfl dX7_addStep_10 ?_
    refine z_iloadn C 2 dX7_addStep_13 rfl rfl ?_
    refine z_callV C (cm_X7_addTests l k0 gd20 (by omega) Ha_gapFrom Ha_gapTo Ha_gapLeast Ha_lastSet bd20 (by omega)) mv_7_88 (z_atS 18 7 (by decide) rfl rfl rfl) pd_X7_addTests ⟨by omega, by omega⟩ ⟨by omega, by omega⟩ rfl (Nat.le_of_ble_eq_true rfl) dX7_addStep_14 ?_
    rintro _ _ _ ⟨n21, n22, n23, n24, rfl, rfl, h27, h28, h29, h30, rfl⟩
    refine z_aloadn C 1 dX7_addStep_17 rfl rfl ?_
    refine z_getY C yd1 rfl z_it1 3 (by decide) rfl fl_7_92 rfl dX7_addStep_18 ?_
    refine z_ifnull C dX7_addStep_21 ?_
    refine z_aloadn C 0 dX7_addStep_24 rfl rfl ?_
    refine z_aloadn C 1 dX7_addStep_25 rfl rfl ?_
    refine z_getY C yd1 rfl z_it1 3 (by decide) rfl fl_7_92 rfl dX7_addStep_26 ?_
    obtain ⟨md31, fd31, td31, kd31, rd31, gd31, yd31, ad31, bd31⟩ := id (kd1 _ rfl)
    refine z_getY C yd31 rfl z_it0 5 (by decide) rfl fl_7_82 rfl dX7_addStep_29 ?_
    refine z_iloadn C 2 dX7_addStep_32 rfl rfl ?_
    refine z_callV C (cm_X7_addTests l k0 gd31 (by omega) h28 h29 h30 Ha_lastSet bd31 (by omega)) mv_7_88 (z_atS 18 7 (by decide) rfl rfl rfl) pd_X7_addTests ⟨by omega, by omega⟩ ⟨by omega, by omega⟩ rfl (Nat.le_of_ble_eq_true rfl) dX7_addStep_33 ?_
    rintro _ _ _ ⟨n32, n33, n34, n35, rfl, rfl, h38, h39, h40, h41, rfl⟩
    refine z_iconst C dX7_addStep_36 ?_
    refine z_istoren (L' := [(3, z_v 1), (0, .ref (ad 18)), (1, .ref q), (2, z_v k0)]) C dX7_addStep_37 rfl (by decide) rfl ?_
    have L38 : ∀ (n : Nat), ∀ (i3 : Int) (fa_lastSet : Nat → Int), ((∀ j, 0 ≤ fa_lastSet j ∧ fa_lastSet j ≤ 40)) → (1 ≤ i3 ∧ i3 ≤ 4) → ((4 : Int) - i3).toNat < n → z_V p l e R s m args below meth c Q D A 27 ad 4 (z_zc ad ks s_edgeCount s_moveCount s_isNeeded s_timesDone s_size s_isGoing s_allTime s_stepCount n32 g_edges g_moves g_limits a_sfacts a_sbounds a_facts a_zone a_most a_places a_amounts a_nextPlaces a_nextAmounts a_earliest a_visited fa_lastSet n33 n34 n35 a_askedPlaces a_askedAmounts) Y 0 0 38 [(0, .ref (ad 18)), (1, .ref q), (2, z_v k0), (3, z_v i3)] [] := by
      intro n
      induction n with
      | zero => intro i3 fa_lastSet Hfa_lastSet I3 hm; exact absurd hm (Nat.not_lt_zero _)
      | succ n ih38 =>
        intro i3 fa_lastSet Hfa_lastSet I3 hm
        refine z_iloadn C 3 dX7_addStep_38 rfl rfl ?_
        refine z_iconst C dX7_addStep_39 ?_
        refine z_icmp_ge (t := 64) C dX7_addStep_40 (by decide) (by omega) (by omega) (fun c42 => ?_) (fun c42 => ?_)
        · skip
          rw [hQ]
          exact z_vret C hrt dX7_addStep_64 (⟨n32, n33, n34, n35, fa_lastSet, rfl, rfl, by omega, h39, h40, h41, Hfa_lastSet, rfl⟩) (by omega) (by omega)
        · skip
          refine z_aloadn C 1 dX7_addStep_43 rfl rfl ?_
          refine z_iloadn C 3 dX7_addStep_44 rfl rfl ?_
          refine z_callV C (cm_X1_sets l i3 q hq (by omega)) mv_7_95 (z_atY 1 yd1 rfl rfl) pd_X1_sets ⟨by omega, by omega⟩ ⟨by omega, by omega⟩ rfl (Nat.le_of_ble_eq_true rfl) dX7_addStep_45 ?_
          rintro _ _ _ ⟨rfl, rfl, z45, rfl, hz45⟩
          refine z_if_eq (t := 58) C dX7_addStep_48 (by decide) (by omega) (fun c46 => ?_) (fun c46 => ?_)
          · skip
            refine z_iinc (L' := [(3, z_v (i3 + 1)), (0, .ref (ad 18)), (1, .ref q), (2, z_v k0)]) C 3 dX7_addStep_58 rfl (by decide) rfl ?_
            refine z_goto (t := 38) C dX7_addStep_61 (by decide) ?_
            refine z_loc (L' := [(0, .ref (ad 18)), (1, .ref q), (2, z_v k0), (3, z_v (i3 + 1))]) [1, 2, 3, 0] rfl ?_
            exact ih38 (i3 + 1) fa_lastSet Hfa_lastSet (by omega) (by omega)
          · skip
            refine z_aloadn C 0 dX7_addStep_51 rfl rfl ?_
            refine z_get C 18 (by decide) rfl rfl z_it7 2 (by decide) rfl fl_7_18 rfl dX7_addStep_52 ?_
            refine z_iloadn C 3 dX7_addStep_55 rfl rfl ?_
            refine z_iloadn C 2 dX7_addStep_56 rfl rfl ?_
            refine z_iast C 21 (by decide) rfl (by decide) (by omega) (by omega) dX7_addStep_57 ?_
            refine z_ext (S' := (z_zc ad ks s_edgeCount s_moveCount s_isNeeded s_timesDone s_size s_isGoing s_allTime s_stepCount n32 g_edges g_moves g_limits a_sfacts a_sbounds a_facts a_zone a_most a_places a_amounts a_nextPlaces a_nextAmounts a_earliest a_visited (va_up fa_lastSet (i3 : Int).toNat k0) n33 n34 n35 a_askedPlaces a_askedAmounts)) upC_a_lastSet ?_
            have h47 : ∀ j, 0 ≤ (va_up fa_lastSet (i3 : Int).toNat k0) j ∧ (va_up fa_lastSet (i3 : Int).toNat k0) j ≤ 40 := z_upP (P := fun j v => 0 ≤ v ∧ v ≤ 40) Hfa_lastSet (by omega)
            generalize (va_up fa_lastSet (i3 : Int).toNat k0) = f48 at h47 ⊢
            refine z_iinc (L' := [(3, z_v (i3 + 1)), (0, .ref (ad 18)), (1, .ref q), (2, z_v k0)]) C 3 dX7_addStep_58 rfl (by decide) rfl ?_
            refine z_goto (t := 38) C dX7_addStep_61 (by decide) ?_
            refine z_loc (L' := [(0, .ref (ad 18)), (1, .ref q), (2, z_v k0), (3, z_v (i3 + 1))]) [1, 2, 3, 0] rfl ?_
            exact ih38 (i3 + 1) f48 h47 (by omega) (by omega)
    refine z_loc (L' := [(0, .ref (ad 18)), (1, .ref q), (2, z_v k0), (3, z_v 1)]) [1, 2, 3, 0] rfl ?_
    exact (L38 (((4 : Int) - 1).toNat + 1)) 1 a_lastSet Ha_lastSet (by omega) (Nat.lt_succ_self _)
set_option maxRecDepth 20000 in
theorem cm_X7_addStep_n (l : Launch) {D : va_G} {A : Nat → Prop} {ad : Nat → Nat} {ks : z_Ks} {s_edgeCount s_moveCount s_isNeeded s_timesDone s_size s_isGoing s_allTime s_stepCount s_gapCount : Int} {g_edges g_moves g_limits : Nat → Option Nat} {a_sfacts a_sbounds a_facts a_zone a_most a_places a_amounts a_nextPlaces a_nextAmounts a_earliest a_visited a_lastSet a_gapFrom a_gapTo a_gapLeast a_askedPlaces a_askedAmounts : Nat → Int} {Y : Nat → Option va_E} (k0 : Int) : z_Met l yX7_addStep cX7_addStep 4 none 2 48 0 0 D A 27 ad ks [.ref (ad 18), .null, z_v k0] (z_zc ad ks s_edgeCount s_moveCount s_isNeeded s_timesDone s_size s_isGoing s_allTime s_stepCount s_gapCount g_edges g_moves g_limits a_sfacts a_sbounds a_facts a_zone a_most a_places a_amounts a_nextPlaces a_nextAmounts a_earliest a_visited a_lastSet a_gapFrom a_gapTo a_gapLeast a_askedPlaces a_askedAmounts) Y (fun r S' Y' => S' = (z_zc ad ks s_edgeCount s_moveCount s_isNeeded s_timesDone s_size s_isGoing s_allTime s_stepCount s_gapCount g_edges g_moves g_limits a_sfacts a_sbounds a_facts a_zone a_most a_places a_amounts a_nextPlaces a_nextAmounts a_earliest a_visited a_lastSet a_gapFrom a_gapTo a_gapLeast a_askedPlaces a_askedAmounts) ∧ Y = Y' ∧ r = none) := by
  refine z_start2 (by decide) (Nat.le_of_ble_eq_true rfl) ?_
  intro p e R s m args below meth c Q C hRf hRc hRs hRl hQ hrt hnm
  refine z_loc (L' := [(0, .ref (ad 18)), (1, .null), (2, z_v k0)]) [0, 1, 2] rfl ?_
  refine z_aloadnN C 1 dX7_addStep_0 rfl rfl ?_
  refine z_ifnonnullN C dX7_addStep_1 ?_
  rw [hQ]
  exact z_vret C hrt dX7_addStep_4 (⟨rfl, rfl, rfl⟩) (by omega) (by omega)
set_option maxRecDepth 20000 in
theorem cm_X7_visit (l : Launch) {D : va_G} {A : Nat → Prop} {ad : Nat → Nat} {ks : z_Ks} {s_edgeCount s_moveCount s_isNeeded s_timesDone s_size s_isGoing s_allTime s_stepCount s_gapCount : Int} {g_edges g_moves g_limits : Nat → Option Nat} {a_sfacts a_sbounds a_facts a_zone a_most a_places a_amounts a_nextPlaces a_nextAmounts a_earliest a_visited a_lastSet a_gapFrom a_gapTo a_gapLeast a_askedPlaces a_askedAmounts : Nat → Int} {Y : Nat → Option va_E} (i0 t0 : Int) (Hs_size : (0 ≤ s_size ∧ s_size ≤ 120)) (Ha_sfacts : (∀ j, (j % 7 < 3 → 0 ≤ a_sfacts j ∧ a_sfacts j ≤ 5) ∧ (j % 7 = 3 → -1 ≤ a_sfacts j ∧ a_sfacts j ≤ 119) ∧ (j % 7 = 6 → 0 ≤ a_sfacts j ∧ a_sfacts j ≤ 40) ∧ z_rg (a_sfacts j))) (Ha_visited : (∀ j, 0 ≤ a_visited j ∧ a_visited j ≤ 119)) (hi : 0 ≤ i0 ∧ i0 < s_size) (ht : 0 ≤ t0 ∧ t0 ≤ 40 ∧ t0 ≤ a_sfacts (i0 * 7 + 6 : Int).toNat) (hcc : z_cc s_size a_sfacts) : z_Met l yX7_visit cX7_visit 6 none 1 22 0 0 D A 27 ad ks [.ref (ad 18), .ref (ad 6), z_v i0, z_v t0] (z_zc ad ks s_edgeCount s_moveCount s_isNeeded s_timesDone s_size s_isGoing s_allTime s_stepCount s_gapCount g_edges g_moves g_limits a_sfacts a_sbounds a_facts a_zone a_most a_places a_amounts a_nextPlaces a_nextAmounts a_earliest a_visited a_lastSet a_gapFrom a_gapTo a_gapLeast a_askedPlaces a_askedAmounts) Y (fun r S' Y' => ∃ na_visited : Nat → Int, S' = (z_zc ad ks s_edgeCount s_moveCount s_isNeeded s_timesDone s_size s_isGoing s_allTime s_stepCount s_gapCount g_edges g_moves g_limits a_sfacts a_sbounds a_facts a_zone a_most a_places a_amounts a_nextPlaces a_nextAmounts a_earliest na_visited a_lastSet a_gapFrom a_gapTo a_gapLeast a_askedPlaces a_askedAmounts) ∧ Y = Y' ∧ (∀ j, 0 ≤ na_visited j ∧ na_visited j ≤ 119) ∧ r = none) := by
  refine z_start2 (by decide) (Nat.le_of_ble_eq_true rfl) ?_
  intro p e R s m args below meth c Q C hRf hRc hRs hRl hQ hrt hnm
  refine z_loc (L' := [(0, .ref (ad 18)), (1, .ref (ad 6)), (2, z_v i0), (3, z_v t0)]) [0, 1, 2, 3] rfl ?_
  refine z_iloadn C 2 dX7_visit_0 rfl rfl ?_
  refine z_istore (L' := [(4, z_v i0), (0, .ref (ad 18)), (1, .ref (ad 6)), (2, z_v i0), (3, z_v t0)]) C dX7_visit_1 (by decide) rfl ?_
  refine z_iloadn C 4 dX7_visit_3 rfl rfl ?_
  refine z_istore (L' := [(5, z_v t0), (4, z_v i0), (0, .ref (ad 18)), (1, .ref (ad 6)), (2, z_v i0), (3, z_v t0)]) C dX7_visit_4 (by decide) rfl ?_
  have L6 : ∀ (n : Nat), ∀ (i4 : Int) (i5 : Int) (fa_visited : Nat → Int), ((∀ j, 0 ≤ fa_visited j ∧ fa_visited j ≤ 119)) → (0 ≤ i4 ∧ i4 < s_size) → (i5 ≤ a_sfacts (i4 * 7 + 6 : Int).toNat) → (0 ≤ i5 ∧ i5 ≤ 40) → ((i5 : Int) - (0)).toNat < n → z_V p l e R s m args below meth c Q D A 27 ad 6 (z_zc ad ks s_edgeCount s_moveCount s_isNeeded s_timesDone s_size s_isGoing s_allTime s_stepCount s_gapCount g_edges g_moves g_limits a_sfacts a_sbounds a_facts a_zone a_most a_places a_amounts a_nextPlaces a_nextAmounts a_earliest fa_visited a_lastSet a_gapFrom a_gapTo a_gapLeast a_askedPlaces a_askedAmounts) Y 0 0 6 [(0, .ref (ad 18)), (1, .ref (ad 6)), (4, z_v i4), (5, z_v i5)] [] := by
    intro n
    induction n with
    | zero => intro i4 i5 fa_visited Hfa_visited I4 J I5 hm; exact absurd hm (Nat.not_lt_zero _)
    | succ n ih6 =>
      intro i4 i5 fa_visited Hfa_visited I4 J I5 hm
      refine z_iload C 3 dX7_visit_6 rfl ?_
      refine z_if_le (t := 35) C dX7_visit_8 (by decide) (by omega) (fun c1 => ?_) (fun c1 => ?_)
      · skip
        refine z_aloadn C 0 dX7_visit_35 rfl rfl ?_
        refine z_get C 18 (by decide) rfl rfl z_it7 1 (by decide) rfl fl_7_15 rfl dX7_visit_36 ?_
        refine z_iconst C dX7_visit_39 ?_
        refine z_iload C 2 dX7_visit_40 rfl ?_
        refine z_iast C 20 (by decide) rfl (by decide) (by omega) (by omega) dX7_visit_42 ?_
        refine z_ext (S' := (z_zc ad ks s_edgeCount s_moveCount s_isNeeded s_timesDone s_size s_isGoing s_allTime s_stepCount s_gapCount g_edges g_moves g_limits a_sfacts a_sbounds a_facts a_zone a_most a_places a_amounts a_nextPlaces a_nextAmounts a_earliest (va_up fa_visited (0 : Int).toNat i4) a_lastSet a_gapFrom a_gapTo a_gapLeast a_askedPlaces a_askedAmounts)) upC_a_visited ?_
        have h2 : ∀ j, 0 ≤ (va_up fa_visited (0 : Int).toNat i4) j ∧ (va_up fa_visited (0 : Int).toNat i4) j ≤ 119 := z_upP (P := fun j v => 0 ≤ v ∧ v ≤ 119) Hfa_visited (by omega)
        generalize (va_up fa_visited (0 : Int).toNat i4) = f3 at h2 ⊢
        rw [hQ]
        exact z_vret C hrt dX7_visit_43 (⟨f3, rfl, rfl, h2, rfl⟩) (by omega) (by omega)
      · skip
        refine z_aloadn C 0 dX7_visit_11 rfl rfl ?_
        refine z_get C 18 (by decide) rfl rfl z_it7 1 (by decide) rfl fl_7_15 rfl dX7_visit_12 ?_
        refine z_iload C 3 dX7_visit_15 rfl ?_
        refine z_iload C 2 dX7_visit_17 rfl ?_
        refine z_iast C 20 (by decide) rfl (by decide) (by omega) (by omega) dX7_visit_19 ?_
        refine z_ext (S' := (z_zc ad ks s_edgeCount s_moveCount s_isNeeded s_timesDone s_size s_isGoing s_allTime s_stepCount s_gapCount g_edges g_moves g_limits a_sfacts a_sbounds a_facts a_zone a_most a_places a_amounts a_nextPlaces a_nextAmounts a_earliest (va_up fa_visited (i5 : Int).toNat i4) a_lastSet a_gapFrom a_gapTo a_gapLeast a_askedPlaces a_askedAmounts)) upC_a_visited ?_
        have h4 : ∀ j, 0 ≤ (va_up fa_visited (i5 : Int).toNat i4) j ∧ (va_up fa_visited (i5 : Int).toNat i4) j ≤ 119 := z_upP (P := fun j v => 0 ≤ v ∧ v ≤ 119) Hfa_visited (by omega)
        generalize (va_up fa_visited (i5 : Int).toNat i4) = f5 at h4 ⊢
        refine z_aloadn C 1 dX7_visit_20 rfl rfl ?_
        refine z_iload C 2 dX7_visit_21 rfl ?_
        refine z_iconst C dX7_visit_23 ?_
        refine z_callV C (cm_X4_fact l i4 3 Ha_sfacts (by omega) (by omega)) mv_7_30 (z_atS 6 4 (by decide) rfl rfl rfl) pd_X4_fact ⟨by omega, by omega⟩ ⟨by omega, by omega⟩ rfl (Nat.le_of_ble_eq_true rfl) dX7_visit_24 ?_
        rintro _ _ _ ⟨rfl, rfl, z8, rfl, hz8⟩
        have qf := hz8.1
        refine z_istore (L' := [(4, z_v z8), (0, .ref (ad 18)), (1, .ref (ad 6)), (5, z_v i5)]) C dX7_visit_27 (by decide) rfl ?_
        refine z_iinc (L' := [(5, z_v (i5 + (-1))), (4, z_v z8), (0, .ref (ad 18)), (1, .ref (ad 6))]) C 3 dX7_visit_29 rfl (by decide) rfl ?_
        refine z_goto (t := 6) C dX7_visit_32 (by decide) ?_
        refine z_loc (L' := [(0, .ref (ad 18)), (1, .ref (ad 6)), (4, z_v z8), (5, z_v (i5 + (-1)))]) [2, 3, 1, 0] rfl ?_
        exact ih6 z8 (i5 + (-1)) f5 h4 ((z_cc_vi hcc I4 J (by omega) qf).1) ((z_cc_vi hcc I4 J (by omega) qf).2) (by omega) (by omega)
  refine z_loc (L' := [(0, .ref (ad 18)), (1, .ref (ad 6)), (4, z_v i0), (5, z_v t0)]) [2, 3, 1, 0] rfl ?_
  exact (L6 (((t0 : Int) - (0)).toNat + 1)) i0 t0 a_visited Ha_visited (by omega) (by omega) (by omega) (Nat.lt_succ_self _)
set_option maxRecDepth 20000 in
theorem cm_X7_settle (l : Launch) {D : va_G} {A : Nat → Prop} {ad : Nat → Nat} {ks : z_Ks} {s_edgeCount s_moveCount s_isNeeded s_timesDone s_size s_isGoing s_allTime s_stepCount s_gapCount : Int} {g_edges g_moves g_limits : Nat → Option Nat} {a_sfacts a_sbounds a_facts a_zone a_most a_places a_amounts a_nextPlaces a_nextAmounts a_earliest a_visited a_lastSet a_gapFrom a_gapTo a_gapLeast a_askedPlaces a_askedAmounts : Nat → Int} {Y : Nat → Option va_E} (Hs_gapCount : (0 ≤ s_gapCount ∧ s_gapCount ≤ 615)) (Ha_gapFrom : (∀ j, 0 ≤ a_gapFrom j ∧ a_gapFrom j ≤ 40)) (Ha_gapTo : (∀ j, 0 ≤ a_gapTo j ∧ a_gapTo j ≤ 40)) (Ha_gapLeast : (∀ j, z_rg (a_gapLeast j))) (Ha_earliest : (∀ j, z_rg (a_earliest j))) : z_Met l yX7_settle cX7_settle 5 none 1 23 0 0 D A 27 ad ks [.ref (ad 18)] (z_zc ad ks s_edgeCount s_moveCount s_isNeeded s_timesDone s_size s_isGoing s_allTime s_stepCount s_gapCount g_edges g_moves g_limits a_sfacts a_sbounds a_facts a_zone a_most a_places a_amounts a_nextPlaces a_nextAmounts a_earliest a_visited a_lastSet a_gapFrom a_gapTo a_gapLeast a_askedPlaces a_askedAmounts) Y (fun r S' Y' => ∃ na_earliest : Nat → Int, S' = (z_zc ad ks s_edgeCount s_moveCount s_isNeeded s_timesDone s_size s_isGoing s_allTime s_stepCount s_gapCount g_edges g_moves g_limits a_sfacts a_sbounds a_facts a_zone a_most a_places a_amounts a_nextPlaces a_nextAmounts na_earliest a_visited a_lastSet a_gapFrom a_gapTo a_gapLeast a_askedPlaces a_askedAmounts) ∧ Y = Y' ∧ (∀ j, z_rg (na_earliest j)) ∧ r = none) := by
  refine z_start2 (by decide) (Nat.le_of_ble_eq_true rfl) ?_
  intro p e R s m args below meth c Q C hRf hRc hRs hRl hQ hrt hnm
  refine z_loc (L' := [(0, .ref (ad 18))]) [0] rfl ?_
  refine z_aloadn C 0 dX7_settle_0 rfl rfl ?_
  refine z_get C 18 (by decide) rfl rfl z_it7 0 (by decide) rfl fl_7_9 rfl dX7_settle_1 ?_
  refine z_iconst C dX7_settle_4 ?_
  refine z_callS C (cm_J7_fill_53178_19 l 0 Ha_earliest (by omega)) mv_7_49 pd_J7_fill_53178 ⟨by omega, by omega⟩ ⟨by omega, by omega⟩ rfl (Nat.le_of_ble_eq_true rfl) dX7_settle_5 ?_
  rintro _ _ _ ⟨n1, rfl, rfl, h4, q5_0, rfl⟩
  refine z_iconst C dX7_settle_8 ?_
  refine z_istoren (L' := [(1, z_v 1), (0, .ref (ad 18))]) C dX7_settle_9 rfl (by decide) rfl ?_
  refine z_iconst C dX7_settle_10 ?_
  refine z_istoren (L' := [(2, z_v 0), (1, z_v 1), (0, .ref (ad 18))]) C dX7_settle_11 rfl (by decide) rfl ?_
  have L12 : ∀ (n : Nat), ∀ (i1 : Int) (i2 : Int) (fa_earliest : Nat → Int), ((∀ j, z_rg (fa_earliest j))) → (0 ≤ i2 ∧ i2 ≤ 42) → (i1 = 0 ∨ i1 = 1) → ((42 : Int) - i2).toNat < n → z_V p l e R s m args below meth c Q D A 27 ad 5 (z_zc ad ks s_edgeCount s_moveCount s_isNeeded s_timesDone s_size s_isGoing s_allTime s_stepCount s_gapCount g_edges g_moves g_limits a_sfacts a_sbounds a_facts a_zone a_most a_places a_amounts a_nextPlaces a_nextAmounts fa_earliest a_visited a_lastSet a_gapFrom a_gapTo a_gapLeast a_askedPlaces a_askedAmounts) Y 0 0 12 [(0, .ref (ad 18)), (1, z_v i1), (2, z_v i2)] [] := by
    intro n
    induction n with
    | zero => intro i1 i2 fa_earliest Hfa_earliest I2 B1 hm; exact absurd hm (Nat.not_lt_zero _)
    | succ n ih12 =>
      intro i1 i2 fa_earliest Hfa_earliest I2 B1 hm
      refine z_iloadn C 1 dX7_settle_12 rfl rfl ?_
      refine z_if_eq (t := 97) C dX7_settle_13 (by decide) (by omega) (fun c5 => ?_) (fun c5 => ?_)
      · skip
        rw [hQ]
        exact z_vret C hrt dX7_settle_97 (⟨fa_earliest, rfl, rfl, Hfa_earliest, rfl⟩) (by omega) (by omega)
      · skip
        refine z_iloadn C 2 dX7_settle_16 rfl rfl ?_
        refine z_bipush C dX7_settle_17 (by decide) ?_
        refine z_icmp_gt (t := 97) C dX7_settle_19 (by decide) (by omega) (by omega) (fun c6 => ?_) (fun c6 => ?_)
        · skip
          rw [hQ]
          exact z_vret C hrt dX7_settle_97 (⟨fa_earliest, rfl, rfl, Hfa_earliest, rfl⟩) (by omega) (by omega)
        · skip
          refine z_iconst C dX7_settle_22 ?_
          refine z_istoren (L' := [(1, z_v 0), (0, .ref (ad 18)), (2, z_v i2)]) C dX7_settle_23 rfl (by decide) rfl ?_
          refine z_iconst C dX7_settle_24 ?_
          refine z_istoren (L' := [(3, z_v 0), (1, z_v 0), (0, .ref (ad 18)), (2, z_v i2)]) C dX7_settle_25 rfl (by decide) rfl ?_
          have L26 : ∀ (n : Nat), ∀ (i1 : Int) (i3 : Int) (fa_earliest : Nat → Int), ((∀ j, z_rg (fa_earliest j))) → (0 ≤ i3 ∧ i3 ≤ 615) → (i1 = 0 ∨ i1 = 1) → ((615 : Int) - i3).toNat < n → z_V p l e R s m args below meth c Q D A 27 ad 5 (z_zc ad ks s_edgeCount s_moveCount s_isNeeded s_timesDone s_size s_isGoing s_allTime s_stepCount s_gapCount g_edges g_moves g_limits a_sfacts a_sbounds a_facts a_zone a_most a_places a_amounts a_nextPlaces a_nextAmounts fa_earliest a_visited a_lastSet a_gapFrom a_gapTo a_gapLeast a_askedPlaces a_askedAmounts) Y 0 0 26 [(0, .ref (ad 18)), (1, z_v i1), (2, z_v i2), (3, z_v i3)] [] := by
            intro n
            induction n with
            | zero => intro i1 i3 fa_earliest Hfa_earliest I3 B1 hm; exact absurd hm (Nat.not_lt_zero _)
            | succ n ih26 =>
              intro i1 i3 fa_earliest Hfa_earliest I3 B1 hm
              refine z_iloadn C 3 dX7_settle_26 rfl rfl ?_
              refine z_aloadn C 0 dX7_settle_27 rfl rfl ?_
              refine z_get C 18 (by decide) rfl rfl z_it7 6 (by decide) rfl fl_7_45 rfl dX7_settle_28 ?_
              refine z_icmp_ge (t := 91) C dX7_settle_31 (by decide) (by omega) (by omega) (fun c7 => ?_) (fun c7 => ?_)
              · skip
                refine z_iinc (L' := [(2, z_v (i2 + 1)), (0, .ref (ad 18)), (1, z_v i1), (3, z_v i3)]) C 2 dX7_settle_91 rfl (by decide) rfl ?_
                refine z_goto (t := 12) C dX7_settle_94 (by decide) ?_
                refine z_loc (L' := [(0, .ref (ad 18)), (1, z_v i1), (2, z_v (i2 + 1))]) [1, 2, 0] rfl ?_
                exact ih12 i1 (i2 + 1) fa_earliest Hfa_earliest (by omega) (by omega) (by omega)
              · skip
                refine z_aloadn C 0 dX7_settle_34 rfl rfl ?_
                refine z_get C 18 (by decide) rfl rfl z_it7 0 (by decide) rfl fl_7_9 rfl dX7_settle_35 ?_
                refine z_aloadn C 0 dX7_settle_38 rfl rfl ?_
                refine z_get C 18 (by decide) rfl rfl z_it7 3 (by decide) rfl fl_7_21 rfl dX7_settle_39 ?_
                refine z_iloadn C 3 dX7_settle_42 rfl rfl ?_
                refine z_iald C 22 (by decide) rfl (by decide) (by omega) (by omega) dX7_settle_43 ?_
                have rx8 := Ha_gapFrom (i3 : Int).toNat
                generalize ex8 : a_gapFrom (i3 : Int).toNat = x8 at rx8 ⊢
                refine z_iald C 19 (by decide) rfl (by decide) (by omega) (by omega) dX7_settle_44 ?_
                have rx9 := Hfa_earliest (x8 : Int).toNat
                generalize ex9 : fa_earliest (x8 : Int).toNat = x9 at rx9 ⊢
                refine z_aloadn C 0 dX7_settle_45 rfl rfl ?_
                refine z_get C 18 (by decide) rfl rfl z_it7 5 (by decide) rfl fl_7_27 rfl dX7_settle_46 ?_
                refine z_iloadn C 3 dX7_settle_49 rfl rfl ?_
                refine z_iald C 24 (by decide) rfl (by decide) (by omega) (by omega) dX7_settle_50 ?_
                have rx10 := Ha_gapLeast (i3 : Int).toNat
                generalize ex10 : a_gapLeast (i3 : Int).toNat = x10 at rx10 ⊢
                refine z_iadd C dX7_settle_51 ?_
                refine z_nrm (fun n11 rn11 en11 => ?_)
                refine z_istore (L' := [(4, z_v n11), (0, .ref (ad 18)), (1, z_v i1), (2, z_v i2), (3, z_v i3)]) C dX7_settle_52 (by decide) rfl ?_
                refine z_iload C 0 dX7_settle_54 rfl ?_
                refine z_aloadn C 1 dX7_settle_56 rfl rfl ?_
                refine z_get C 18 (by decide) rfl rfl z_it7 0 (by decide) rfl fl_7_9 rfl dX7_settle_57 ?_
                refine z_aloadn C 1 dX7_settle_60 rfl rfl ?_
                refine z_get C 18 (by decide) rfl rfl z_it7 4 (by decide) rfl fl_7_24 rfl dX7_settle_61 ?_
                refine z_iloadn C 4 dX7_settle_64 rfl rfl ?_
                refine z_iald C 23 (by decide) rfl (by decide) (by omega) (by omega) dX7_settle_65 ?_
                have rx12 := Ha_gapTo (i3 : Int).toNat
                generalize ex12 : a_gapTo (i3 : Int).toNat = x12 at rx12 ⊢
                refine z_iald C 19 (by decide) rfl (by decide) (by omega) (by omega) dX7_settle_66 ?_
                have rx13 := Hfa_earliest (x12 : Int).toNat
                generalize ex13 : fa_earliest (x12 : Int).toNat = x13 at rx13 ⊢
                refine z_icmp_le (t := 85) C dX7_settle_67 (by decide) (by omega) (by omega) (fun c14 => ?_) (fun c14 => ?_)
                · skip
                  refine z_iinc (L' := [(3, z_v (i3 + 1)), (4, z_v n11), (0, .ref (ad 18)), (1, z_v i1), (2, z_v i2)]) C 4 dX7_settle_85 rfl (by decide) rfl ?_
                  refine z_goto (t := 26) C dX7_settle_88 (by decide) ?_
                  refine z_loc (L' := [(0, .ref (ad 18)), (1, z_v i1), (2, z_v i2), (3, z_v (i3 + 1))]) [2, 3, 4, 0] rfl ?_
                  exact ih26 i1 (i3 + 1) fa_earliest Hfa_earliest (by omega) (by omega) (by omega)
                · skip
                  refine z_aloadn C 1 dX7_settle_70 rfl rfl ?_
                  refine z_get C 18 (by decide) rfl rfl z_it7 0 (by decide) rfl fl_7_9 rfl dX7_settle_71 ?_
                  refine z_aloadn C 1 dX7_settle_74 rfl rfl ?_
                  refine z_get C 18 (by decide) rfl rfl z_it7 4 (by decide) rfl fl_7_24 rfl dX7_settle_75 ?_
                  refine z_iloadn C 4 dX7_settle_78 rfl rfl ?_
                  refine z_iald C 23 (by decide) rfl (by decide) (by omega) (by omega) dX7_settle_79 ?_
                  rw [ex12]
                  refine z_iload C 0 dX7_settle_80 rfl ?_
                  refine z_iast C 19 (by decide) rfl (by decide) (by omega) (by omega) dX7_settle_82 ?_
                  refine z_ext (S' := (z_zc ad ks s_edgeCount s_moveCount s_isNeeded s_timesDone s_size s_isGoing s_allTime s_stepCount s_gapCount g_edges g_moves g_limits a_sfacts a_sbounds a_facts a_zone a_most a_places a_amounts a_nextPlaces a_nextAmounts (va_up fa_earliest (x12 : Int).toNat n11) a_visited a_lastSet a_gapFrom a_gapTo a_gapLeast a_askedPlaces a_askedAmounts)) upC_a_earliest ?_
                  have h15 : ∀ j, z_rg ((va_up fa_earliest (x12 : Int).toNat n11) j) := z_upP (P := fun j v => z_rg (v)) Hfa_earliest (by omega)
                  generalize (va_up fa_earliest (x12 : Int).toNat n11) = f16 at h15 ⊢
                  refine z_iconst C dX7_settle_83 ?_
                  refine z_istoren (L' := [(1, z_v 1), (4, z_v n11), (0, .ref (ad 18)), (2, z_v i2), (3, z_v i3)]) C dX7_settle_84 rfl (by decide) rfl ?_
                  refine z_iinc (L' := [(3, z_v (i3 + 1)), (1, z_v 1), (4, z_v n11), (0, .ref (ad 18)), (2, z_v i2)]) C 4 dX7_settle_85 rfl (by decide) rfl ?_
                  refine z_goto (t := 26) C dX7_settle_88 (by decide) ?_
                  refine z_loc (L' := [(0, .ref (ad 18)), (1, z_v 1), (2, z_v i2), (3, z_v (i3 + 1))]) [3, 1, 4, 0] rfl ?_
                  exact ih26 1 (i3 + 1) f16 h15 (by omega) (by omega) (by omega)
          refine z_loc (L' := [(0, .ref (ad 18)), (1, z_v 0), (2, z_v i2), (3, z_v 0)]) [2, 1, 3, 0] rfl ?_
          exact (L26 (((615 : Int) - 0).toNat + 1)) 0 0 fa_earliest Hfa_earliest (by omega) (by omega) (Nat.lt_succ_self _)
  refine z_loc (L' := [(0, .ref (ad 18)), (1, z_v 1), (2, z_v 0)]) [2, 1, 0] rfl ?_
  exact (L12 (((42 : Int) - 0).toNat + 1)) 1 0 n1 h4 (by omega) (by omega) (Nat.lt_succ_self _)
set_option maxRecDepth 20000 in
theorem cm_X7_fill (l : Launch) {D : va_G} {A : Nat → Prop} {ad : Nat → Nat} {ks : z_Ks} {s_edgeCount s_moveCount s_isNeeded s_timesDone s_size s_isGoing s_allTime s_stepCount s_gapCount : Int} {g_edges g_moves g_limits : Nat → Option Nat} {a_sfacts a_sbounds a_facts a_zone a_most a_places a_amounts a_nextPlaces a_nextAmounts a_earliest a_visited a_lastSet a_gapFrom a_gapTo a_gapLeast a_askedPlaces a_askedAmounts : Nat → Int} {Y : Nat → Option va_E} (i0 : Int) (Hs_gapCount : (0 ≤ s_gapCount ∧ s_gapCount ≤ 615)) (Ha_gapFrom : (∀ j, 0 ≤ a_gapFrom j ∧ a_gapFrom j ≤ 40)) (Ha_gapTo : (∀ j, 0 ≤ a_gapTo j ∧ a_gapTo j ≤ 40)) (Ha_gapLeast : (∀ j, z_rg (a_gapLeast j))) (Ha_lastSet : (∀ j, 0 ≤ a_lastSet j ∧ a_lastSet j ≤ 40)) (Ha_visited : (∀ j, 0 ≤ a_visited j ∧ a_visited j ≤ 119)) (Ha_earliest : (∀ j, z_rg (a_earliest j))) (Ha_sfacts : (∀ j, (j % 7 < 3 → 0 ≤ a_sfacts j ∧ a_sfacts j ≤ 5) ∧ (j % 7 = 3 → -1 ≤ a_sfacts j ∧ a_sfacts j ≤ 119) ∧ (j % 7 = 6 → 0 ≤ a_sfacts j ∧ a_sfacts j ≤ 40) ∧ z_rg (a_sfacts j))) (Hs_size : (0 ≤ s_size ∧ s_size ≤ 120)) (Hs_moveCount : (0 ≤ s_moveCount ∧ s_moveCount ≤ 400)) (hi : 0 ≤ i0 ∧ i0 < s_size) (hcc : z_cc s_size a_sfacts) (HM : ∀ j : Nat, (j : Int) < s_moveCount → ∃ q, g_moves j = some q ∧ z_Mv ks Y q) (HL : ∀ j : Nat, (j : Int) < 18 → ∃ q, g_limits j = some q ∧ z_TL ks Y q) : z_Met l yX7_fill cX7_fill 7 none 3 73 0 0 D A 27 ad ks [.ref (ad 18), .ref (ad 1), .ref (ad 6), z_v i0] (z_zc ad ks s_edgeCount s_moveCount s_isNeeded s_timesDone s_size s_isGoing s_allTime s_stepCount s_gapCount g_edges g_moves g_limits a_sfacts a_sbounds a_facts a_zone a_most a_places a_amounts a_nextPlaces a_nextAmounts a_earliest a_visited a_lastSet a_gapFrom a_gapTo a_gapLeast a_askedPlaces a_askedAmounts) Y (fun r S' Y' => ∃ ns_gapCount : Int, ∃ na_gapFrom : Nat → Int, ∃ na_gapTo : Nat → Int, ∃ na_gapLeast : Nat → Int, ∃ na_lastSet : Nat → Int, ∃ na_visited : Nat → Int, ∃ na_earliest : Nat → Int, S' = (z_zc ad ks s_edgeCount s_moveCount s_isNeeded s_timesDone s_size s_isGoing s_allTime s_stepCount ns_gapCount g_edges g_moves g_limits a_sfacts a_sbounds a_facts a_zone a_most a_places a_amounts a_nextPlaces a_nextAmounts na_earliest na_visited na_lastSet na_gapFrom na_gapTo na_gapLeast a_askedPlaces a_askedAmounts) ∧ Y = Y' ∧ (0 ≤ ns_gapCount ∧ ns_gapCount ≤ 615) ∧ (∀ j, 0 ≤ na_gapFrom j ∧ na_gapFrom j ≤ 40) ∧ (∀ j, 0 ≤ na_gapTo j ∧ na_gapTo j ≤ 40) ∧ (∀ j, z_rg (na_gapLeast j)) ∧ (∀ j, 0 ≤ na_lastSet j ∧ na_lastSet j ≤ 40) ∧ (∀ j, 0 ≤ na_visited j ∧ na_visited j ≤ 119) ∧ (∀ j, z_rg (na_earliest j)) ∧ r = none) := by
  refine z_start2 (by decide) (Nat.le_of_ble_eq_true rfl) ?_
  intro p e R s m args below meth c Q C hRf hRc hRs hRl hQ hrt hnm
  refine z_loc (L' := [(0, .ref (ad 18)), (1, .ref (ad 1)), (2, .ref (ad 6)), (3, z_v i0)]) [0, 1, 2, 3] rfl ?_
  refine z_aloadn C 2 dX7_fill_0 rfl rfl ?_
  refine z_iloadn C 3 dX7_fill_1 rfl rfl ?_
  refine z_bipush C dX7_fill_2 (by decide) ?_
  refine z_callV C (cm_X4_fact l i0 6 Ha_sfacts (by omega) (by omega)) mv_7_30 (z_atS 6 4 (by decide) rfl rfl rfl) pd_X4_fact ⟨by omega, by omega⟩ ⟨by omega, by omega⟩ rfl (Nat.le_of_ble_eq_true rfl) dX7_fill_4 ?_
  rintro _ _ _ ⟨rfl, rfl, z3, rfl, hz3⟩
  have qs := hz3.1
  refine z_bipush C dX7_fill_7 (by decide) ?_
  refine z_min C mm_7_36 (by omega) (by omega) (by omega) (by rw [hRl]; exact Nat.le_of_ble_eq_true rfl) (by omega) (by omega) dX7_fill_9 ?_
  obtain ⟨x4, ex4⟩ : ∃ z : Int, z = (if 40 < z3 then 40 else z3) := ⟨_, rfl⟩
  rw [← ex4]
  have rx4 : (x4 = z3 ∨ x4 = 40) ∧ z3 ≥ x4 ∧ 40 ≥ x4 := by split at ex4 <;> omega
  refine z_istore (L' := [(4, z_v x4), (0, .ref (ad 18)), (1, .ref (ad 1)), (2, .ref (ad 6)), (3, z_v i0)]) C dX7_fill_12 (by decide) rfl ?_
  refine z_aloadn C 1 dX7_fill_14 rfl rfl ?_
  refine z_aloadn C 3 dX7_fill_15 rfl rfl ?_
  refine z_iloadn C 4 dX7_fill_16 rfl rfl ?_
  refine z_iload C 0 dX7_fill_17 rfl ?_
  refine z_callV C (cm_X7_visit l i0 x4 (by omega) Ha_sfacts Ha_visited (by omega) (by omega) hcc) mv_7_41 (z_atS 18 7 (by decide) rfl rfl rfl) pd_X7_visit ⟨by omega, by omega⟩ ⟨by omega, by omega⟩ rfl (Nat.le_of_ble_eq_true rfl) dX7_fill_19 ?_
  rintro _ _ _ ⟨n5, rfl, rfl, h8, rfl⟩
  refine z_aloadn C 1 dX7_fill_22 rfl rfl ?_
  refine z_iconst C dX7_fill_23 ?_
  refine z_put C 18 (by decide) rfl rfl z_it7 tyX7 tyX7_ok nmX7 6 (by decide) rfl (Or.inl rfl) fl_7_45 z_pfI rfl rfl (Nat.le_of_ble_eq_true rfl) dX7_fill_24 ?_
  refine z_ext (S' := (z_zc ad ks s_edgeCount s_moveCount s_isNeeded s_timesDone s_size s_isGoing s_allTime s_stepCount 0 g_edges g_moves g_limits a_sfacts a_sbounds a_facts a_zone a_most a_places a_amounts a_nextPlaces a_nextAmounts a_earliest n5 a_lastSet a_gapFrom a_gapTo a_gapLeast a_askedPlaces a_askedAmounts)) upC_s_gapCount ?_
  refine z_aloadn C 1 dX7_fill_27 rfl rfl ?_
  refine z_get C 18 (by decide) rfl rfl z_it7 2 (by decide) rfl fl_7_18 rfl dX7_fill_28 ?_
  refine z_iconst C dX7_fill_31 ?_
  refine z_callS C (cm_J7_fill_53178_21 l 0 Ha_lastSet (by omega)) mv_7_49 pd_J7_fill_53178 ⟨by omega, by omega⟩ ⟨by omega, by omega⟩ rfl (Nat.le_of_ble_eq_true rfl) dX7_fill_32 ?_
  rintro _ _ _ ⟨n9, rfl, rfl, h12, q32_0, rfl⟩
  refine z_iconst C dX7_fill_35 ?_
  refine z_istore (L' := [(5, z_v 1), (4, z_v x4), (0, .ref (ad 18)), (1, .ref (ad 1)), (2, .ref (ad 6)), (3, z_v i0)]) C dX7_fill_36 (by decide) rfl ?_
  have L38 : ∀ (n : Nat), ∀ (i5 : Int) (fs_gapCount : Int) (fa_gapFrom : Nat → Int) (fa_gapTo : Nat → Int) (fa_gapLeast : Nat → Int) (fa_lastSet : Nat → Int), ((0 ≤ fs_gapCount ∧ fs_gapCount ≤ 615)) → ((∀ j, 0 ≤ fa_gapFrom j ∧ fa_gapFrom j ≤ 40)) → ((∀ j, 0 ≤ fa_gapTo j ∧ fa_gapTo j ≤ 40)) → ((∀ j, z_rg (fa_gapLeast j))) → ((∀ j, 0 ≤ fa_lastSet j ∧ fa_lastSet j ≤ 40)) → (1 ≤ i5 ∧ i5 ≤ 41) → ((41 : Int) - i5).toNat < n → z_V p l e R s m args below meth c Q D A 27 ad 7 (z_zc ad ks s_edgeCount s_moveCount s_isNeeded s_timesDone s_size s_isGoing s_allTime s_stepCount fs_gapCount g_edges g_moves g_limits a_sfacts a_sbounds a_facts a_zone a_most a_places a_amounts a_nextPlaces a_nextAmounts a_earliest n5 fa_lastSet fa_gapFrom fa_gapTo fa_gapLeast a_askedPlaces a_askedAmounts) Y 0 0 38 [(0, .ref (ad 18)), (1, .ref (ad 1)), (2, .ref (ad 6)), (4, z_v x4), (5, z_v i5)] [] := by
    intro n
    induction n with
    | zero => intro i5 fs_gapCount fa_gapFrom fa_gapTo fa_gapLeast fa_lastSet Hfs_gapCount Hfa_gapFrom Hfa_gapTo Hfa_gapLeast Hfa_lastSet I5 hm; exact absurd hm (Nat.not_lt_zero _)
    | succ n ih38 =>
      intro i5 fs_gapCount fa_gapFrom fa_gapTo fa_gapLeast fa_lastSet Hfs_gapCount Hfa_gapFrom Hfa_gapTo Hfa_gapLeast Hfa_lastSet I5 hm
      refine z_iload C 4 dX7_fill_38 rfl ?_
      refine z_iload C 3 dX7_fill_40 rfl ?_
      refine z_icmp_gt (t := 112) C dX7_fill_42 (by decide) (by omega) (by omega) (fun c13 => ?_) (fun c13 => ?_)
      · skip
        refine z_aloadn C 0 dX7_fill_112 rfl rfl ?_
        refine z_aloadn C 1 dX7_fill_113 rfl rfl ?_
        refine z_aloadn C 2 dX7_fill_114 rfl rfl ?_
        refine z_aloadn C 0 dX7_fill_115 rfl rfl ?_
        refine z_get C 18 (by decide) rfl rfl z_it7 1 (by decide) rfl fl_7_15 rfl dX7_fill_116 ?_
        refine z_iload C 3 dX7_fill_119 rfl ?_
        refine z_iald C 20 (by decide) rfl (by decide) (by omega) (by omega) dX7_fill_121 ?_
        have rx14 := h8 (x4 : Int).toNat
        generalize ex14 : n5 (x4 : Int).toNat = x14 at rx14 ⊢
        refine z_iload C 3 dX7_fill_122 rfl ?_
        refine z_callV C (cm_X7_addLimits l x14 x4 (by omega) Hfa_gapFrom Hfa_gapTo Hfa_gapLeast Hfa_lastSet Ha_sfacts (by omega) (by omega) HL) mv_7_59 (z_atS 18 7 (by decide) rfl rfl rfl) pd_X7_addLimits ⟨by omega, by omega⟩ ⟨by omega, by omega⟩ rfl (Nat.le_of_ble_eq_true rfl) dX7_fill_124 ?_
        rintro _ _ _ ⟨n15, n16, n17, n18, rfl, rfl, h21, h22, h23, h24, rfl⟩
        refine z_aloadn C 0 dX7_fill_127 rfl rfl ?_
        refine z_callV C (cm_X7_settle l (by omega) h22 h23 h24 Ha_earliest) mv_7_73 (z_atS 18 7 (by decide) rfl rfl rfl) pd_X7_settle ⟨by omega, by omega⟩ ⟨by omega, by omega⟩ rfl (Nat.le_of_ble_eq_true rfl) dX7_fill_128 ?_
        rintro _ _ _ ⟨n25, rfl, rfl, h28, rfl⟩
        rw [hQ]
        exact z_vret C hrt dX7_fill_131 (⟨n15, n16, n17, n18, fa_lastSet, n5, n25, rfl, rfl, by omega, h22, h23, h24, Hfa_lastSet, h8, h28, rfl⟩) (by omega) (by omega)
      · skip
        refine z_aloadn C 0 dX7_fill_45 rfl rfl ?_
        refine z_iload C 4 dX7_fill_46 rfl ?_
        refine z_iconst C dX7_fill_48 ?_
        refine z_isub C dX7_fill_49 ?_
        refine z_iload C 4 dX7_fill_50 rfl ?_
        refine z_iconst C dX7_fill_52 ?_
        refine z_callV C (cm_X7_addGap l (i5 - 1) i5 0 (by omega) Hfa_gapFrom Hfa_gapTo Hfa_gapLeast (by omega) (by omega) (by omega)) mv_7_55 (z_atS 18 7 (by decide) rfl rfl rfl) pd_X7_addGap ⟨by omega, by omega⟩ ⟨by omega, by omega⟩ rfl (Nat.le_of_ble_eq_true rfl) dX7_fill_53 ?_
        rintro _ _ _ ⟨n29, n30, n31, n32, rfl, rfl, h35, h36, h37, h38, rfl⟩
        refine z_aloadn C 0 dX7_fill_56 rfl rfl ?_
        refine z_aloadn C 1 dX7_fill_57 rfl rfl ?_
        refine z_aloadn C 2 dX7_fill_58 rfl rfl ?_
        refine z_aloadn C 0 dX7_fill_59 rfl rfl ?_
        refine z_get C 18 (by decide) rfl rfl z_it7 1 (by decide) rfl fl_7_15 rfl dX7_fill_60 ?_
        refine z_iload C 4 dX7_fill_63 rfl ?_
        refine z_iconst C dX7_fill_65 ?_
        refine z_isub C dX7_fill_66 ?_
        refine z_iald C 20 (by decide) rfl (by decide) (by omega) (by omega) dX7_fill_67 ?_
        have rx39 := h8 ((i5 - 1) : Int).toNat
        generalize ex39 : n5 ((i5 - 1) : Int).toNat = x39 at rx39 ⊢
        refine z_iload C 4 dX7_fill_68 rfl ?_
        refine z_callV C (cm_X7_addLimits l x39 i5 (by omega) h36 h37 h38 Hfa_lastSet Ha_sfacts (by omega) (by omega) HL) mv_7_59 (z_atS 18 7 (by decide) rfl rfl rfl) pd_X7_addLimits ⟨by omega, by omega⟩ ⟨by omega, by omega⟩ rfl (Nat.le_of_ble_eq_true rfl) dX7_fill_70 ?_
        rintro _ _ _ ⟨n40, n41, n42, n43, rfl, rfl, h46, h47, h48, h49, rfl⟩
        refine z_aloadn C 0 dX7_fill_73 rfl rfl ?_
        refine z_get C 18 (by decide) rfl rfl z_it7 1 (by decide) rfl fl_7_15 rfl dX7_fill_74 ?_
        refine z_iload C 4 dX7_fill_77 rfl ?_
        refine z_iald C 20 (by decide) rfl (by decide) (by omega) (by omega) dX7_fill_79 ?_
        have rx50 := h8 (i5 : Int).toNat
        generalize ex50 : n5 (i5 : Int).toNat = x50 at rx50 ⊢
        refine z_istore (L' := [(6, z_v x50), (0, .ref (ad 18)), (1, .ref (ad 1)), (2, .ref (ad 6)), (4, z_v x4), (5, z_v i5)]) C dX7_fill_80 (by decide) rfl ?_
        refine z_aloadn C 1 dX7_fill_82 rfl rfl ?_
        refine z_aloadn C 2 dX7_fill_83 rfl rfl ?_
        refine z_aloadn C 3 dX7_fill_84 rfl rfl ?_
        refine z_iload C 0 dX7_fill_85 rfl ?_
        refine z_iconst C dX7_fill_87 ?_
        refine z_callV C (cm_X4_fact l x50 4 Ha_sfacts (by omega) (by omega)) mv_7_30 (z_atS 6 4 (by decide) rfl rfl rfl) pd_X4_fact ⟨by omega, by omega⟩ ⟨by omega, by omega⟩ rfl (Nat.le_of_ble_eq_true rfl) dX7_fill_88 ?_
        rintro _ _ _ ⟨rfl, rfl, z53, rfl, hz53⟩
        refine z_aloadn C 3 dX7_fill_91 rfl rfl ?_
        refine z_iload C 0 dX7_fill_92 rfl ?_
        refine z_iconst C dX7_fill_94 ?_
        refine z_callV C (cm_X4_fact l x50 5 Ha_sfacts (by omega) (by omega)) mv_7_30 (z_atS 6 4 (by decide) rfl rfl rfl) pd_X4_fact ⟨by omega, by omega⟩ ⟨by omega, by omega⟩ rfl (Nat.le_of_ble_eq_true rfl) dX7_fill_95 ?_
        rintro _ _ _ ⟨rfl, rfl, z56, rfl, hz56⟩
        refine z_callV C (cm_X2_find l z53 z56 (by omega) (by omega) (by omega) HM) mv_7_63 (z_atS 1 2 (by decide) rfl rfl rfl) pd_X2_find ⟨by omega, by omega⟩ ⟨by omega, by omega⟩ rfl (Nat.le_of_ble_eq_true rfl) dX7_fill_98 ?_
        rintro _ _ _ ⟨rfl, rfl, rfl | ⟨q57, rfl, hq57⟩⟩
        · skip
          refine z_iload C 5 dX7_fill_101 rfl ?_
          refine z_callV C (cm_X7_addStep_n l i5) mv_7_69 (z_atS 18 7 (by decide) rfl rfl rfl) pd_X7_addStep ⟨by omega, by omega⟩ ⟨by omega, by omega⟩ rfl (Nat.le_of_ble_eq_true rfl) dX7_fill_103 ?_
          rintro _ _ _ ⟨rfl, rfl, rfl⟩
          refine z_iinc (L' := [(5, z_v (i5 + 1)), (6, z_v x50), (0, .ref (ad 18)), (1, .ref (ad 1)), (2, .ref (ad 6)), (4, z_v x4)]) C 5 dX7_fill_106 rfl (by decide) rfl ?_
          refine z_goto (t := 38) C dX7_fill_109 (by decide) ?_
          refine z_loc (L' := [(0, .ref (ad 18)), (1, .ref (ad 1)), (2, .ref (ad 6)), (4, z_v x4), (5, z_v (i5 + 1))]) [2, 3, 4, 5, 0] rfl ?_
          exact ih38 (i5 + 1) n40 n41 n42 n43 fa_lastSet (by omega) h47 h48 h49 Hfa_lastSet (by omega) (by omega)
        · skip
          refine z_iload C 5 dX7_fill_101 rfl ?_
          refine z_callV C (cm_X7_addStep l i5 q57 (by omega) h47 h48 h49 Hfa_lastSet hq57 (by omega)) mv_7_69 (z_atS 18 7 (by decide) rfl rfl rfl) pd_X7_addStep ⟨by omega, by omega⟩ ⟨by omega, by omega⟩ rfl (Nat.le_of_ble_eq_true rfl) dX7_fill_103 ?_
          rintro _ _ _ ⟨n60, n61, n62, n63, n64, rfl, rfl, h67, h68, h69, h70, h71, rfl⟩
          refine z_iinc (L' := [(5, z_v (i5 + 1)), (6, z_v x50), (0, .ref (ad 18)), (1, .ref (ad 1)), (2, .ref (ad 6)), (4, z_v x4)]) C 5 dX7_fill_106 rfl (by decide) rfl ?_
          refine z_goto (t := 38) C dX7_fill_109 (by decide) ?_
          refine z_loc (L' := [(0, .ref (ad 18)), (1, .ref (ad 1)), (2, .ref (ad 6)), (4, z_v x4), (5, z_v (i5 + 1))]) [2, 3, 4, 5, 0] rfl ?_
          exact ih38 (i5 + 1) n60 n61 n62 n63 n64 (by omega) h68 h69 h70 h71 (by omega) (by omega)
  refine z_loc (L' := [(0, .ref (ad 18)), (1, .ref (ad 1)), (2, .ref (ad 6)), (4, z_v x4), (5, z_v 1)]) [2, 3, 4, 1, 0] rfl ?_
  exact (L38 (((41 : Int) - 1).toNat + 1)) 1 0 a_gapFrom a_gapTo a_gapLeast n9 (by omega) Ha_gapFrom Ha_gapTo Ha_gapLeast h12 (by omega) (Nat.lt_succ_self _)
