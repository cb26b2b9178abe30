theorem z_gb {n i : Int} {f g : Nat → Int} (h : g 3 = i ∧ g 6 = f (i * 7 + 6 : Int).toNat + 1) (h1 : i < n) (h0 : 0 ≤ i) : 0 ≤ g 3 ∧ g 3 < n ∧ f (7 * (g 3).toNat + 6) = g 6 - 1 := by
  obtain ⟨e1, e2⟩ := h
  rw [e1]
  rw [show (i * 7 + 6 : Int).toNat = 7 * i.toNat + 6 by omega] at e2
  exact ⟨h0, h1, by omega⟩
theorem z_cc_vi {n i k v : Int} {f : Nat → Int} (h : z_cc n f) (hi : 0 ≤ i ∧ i < n) (hk : k ≤ f (i * 7 + 6 : Int).toNat) (h0 : 0 < k) (hv : v = f (i * 7 + 3 : Int).toNat) : (0 ≤ v ∧ v < n) ∧ k + (-1) ≤ f (v * 7 + 6 : Int).toNat := by
  have h1 := z_cc_at (k := f (i * 7 + 6 : Int).toNat - 1) h hi (by omega) (by omega) hv
  exact ⟨h1.1, by omega⟩
set_option maxRecDepth 20000 in
theorem cm_X7_addStep_n (l : Launch) {D : va_G} {A : Nat → Prop} {ad : Nat → Nat} {ks : z_Ks} {s_edgeCount s_moveCount s_isNeeded s_timesDone s_size s_isGoing s_allTime s_stepCount s_gapCount : Int} {g_edges g_moves g_limits : Nat → Option Nat} {a_sfacts a_sbounds a_facts a_zone a_most a_places a_amounts a_nextPlaces a_nextAmounts a_earliest a_visited a_lastSet a_gapFrom a_gapTo a_gapLeast a_askedPlaces a_askedAmounts : Nat → Int} {Y : Nat → Option va_E} (k0 : Int) : z_Met l yX7_addStep cX7_addStep 4 none 2 48 0 0 D A 27 ad ks [.ref (ad 18), .null, z_v k0] (z_zc ad ks s_edgeCount s_moveCount s_isNeeded s_timesDone s_size s_isGoing s_allTime s_stepCount s_gapCount g_edges g_moves g_limits a_sfacts a_sbounds a_facts a_zone a_most a_places a_amounts a_nextPlaces a_nextAmounts a_earliest a_visited a_lastSet a_gapFrom a_gapTo a_gapLeast a_askedPlaces a_askedAmounts) Y (fun r S' Y' => S' = (z_zc ad ks s_edgeCount s_moveCount s_isNeeded s_timesDone s_size s_isGoing s_allTime s_stepCount s_gapCount g_edges g_moves g_limits a_sfacts a_sbounds a_facts a_zone a_most a_places a_amounts a_nextPlaces a_nextAmounts a_earliest a_visited a_lastSet a_gapFrom a_gapTo a_gapLeast a_askedPlaces a_askedAmounts) ∧ Y = Y' ∧ r = none) := by
  refine z_start2 (by decide) (Nat.le_of_ble_eq_true rfl) ?_
  intro p e R s m args below meth c Q C hRf hRc hRs hRl hQ hrt hnm
  refine z_loc (L' := [(0, .ref (ad 18)), (1, .null), (2, z_v k0)]) [0, 1, 2] rfl ?_
  refine z_aloadnN C 1 dX7_addStep_0 rfl rfl ?_
  refine z_ifnonnullN C dX7_addStep_1 ?_
  rw [hQ]
  exact z_vret C hrt dX7_addStep_4 (⟨rfl, rfl, rfl⟩) (by omega) (by omega)