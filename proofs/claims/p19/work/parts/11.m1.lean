set_option maxRecDepth 20000 in
theorem cm_X11_in (l : Launch) {D : va_G} {A : Nat → Prop} {ad : Nat → Nat} {ks : z_Ks} {N : Nat} {S : Nat → va_E} {Y : Nat → Option va_E} (v lo hi : Int) (h1 : z_rg v) (h2 : z_rg lo) (h3 : z_rg hi) : z_Met l yX11_in cX11_in 3 (some .boolean) 0 0 0 0 D A N ad ks [z_v v, z_v lo, z_v hi] S Y (fun r S' Y' => S' = S ∧ Y = Y' ∧ ∃ z : Int, r = some (z_v z) ∧ (z = 1 ∧ (lo ≤ v ∧ v ≤ hi) ∨ z = 0 ∧ ¬ (lo ≤ v ∧ v ≤ hi))) := by
  refine z_start2 (by decide) (Nat.le_of_ble_eq_true rfl) ?_
  intro p e R s m args below meth c Q C hRf hRc hRs hRl hQ hrt hnm
  refine z_loc (L' := [(0, z_v v), (1, z_v lo), (2, z_v hi)]) [0, 1, 2] rfl ?_
  refine z_iloadn C 0 dX11_in_0 rfl rfl ?_
  refine z_iloadn C 1 dX11_in_1 rfl rfl ?_
  refine z_icmp_lt (t := 14) C dX11_in_2 (by decide) (by omega) (by omega) (fun c1 => ?_) (fun c1 => ?_)
  · skip
    refine z_iconst C dX11_in_14 ?_
    rw [hQ]
    exact z_zret C hrt (by omega) dX11_in_15 (⟨rfl, rfl, _, rfl, by omega⟩) (by omega) (by omega)
  · skip
    refine z_iloadn C 0 dX11_in_5 rfl rfl ?_
    refine z_iloadn C 2 dX11_in_6 rfl rfl ?_
    refine z_icmp_gt (t := 14) C dX11_in_7 (by decide) (by omega) (by omega) (fun c2 => ?_) (fun c2 => ?_)
    · skip
      refine z_iconst C dX11_in_14 ?_
      rw [hQ]
      exact z_zret C hrt (by omega) dX11_in_15 (⟨rfl, rfl, _, rfl, by omega⟩) (by omega) (by omega)
    · skip
      refine z_iconst C dX11_in_10 ?_
      refine z_goto (t := 15) C dX11_in_11 (by decide) ?_
      rw [hQ]
      exact z_zret C hrt (by omega) dX11_in_15 (⟨rfl, rfl, _, rfl, by omega⟩) (by omega) (by omega)
set_option maxRecDepth 20000 in
theorem cm_X11_isMachine (l : Launch) {D : va_G} {A : Nat → Prop} {ad : Nat → Nat} {ks : z_Ks} {N : Nat} {S : Nat → va_E} {Y : Nat → Option va_E} (v : Int) (h1 : z_rg v) : z_Met l yX11_isMachine cX11_isMachine 1 (some .boolean) 1 22 0 0 D A N ad ks [z_v v] S Y (fun r S' Y' => S' = S ∧ Y = Y' ∧ ∃ z : Int, r = some (z_v z) ∧ (z = 1 ∧ (0 ≤ v ∧ v ≤ 2) ∨ z = 0 ∧ ¬ (0 ≤ v ∧ v ≤ 2))) := by
  refine z_start2 (by decide) (Nat.le_of_ble_eq_true rfl) ?_
  intro p e R s m args below meth c Q C hRf hRc hRs hRl hQ hrt hnm
  refine z_loc (L' := [(0, z_v v)]) [0] rfl ?_
  refine z_iloadn C 0 dX11_isMachine_0 rfl rfl ?_
  refine z_iconst C dX11_isMachine_1 ?_
  refine z_iconst C dX11_isMachine_2 ?_
  refine z_callS C (cm_X11_in l v 0 2 (by omega) (by omega) (by omega)) mv_11_86 pd_X11_in ⟨by omega, by omega⟩ ⟨by omega, by omega⟩ rfl (Nat.le_of_ble_eq_true rfl) dX11_isMachine_3 ?_
  rintro _ _ _ ⟨rfl, rfl, z1, rfl, hz1⟩
  rw [hQ]
  exact z_zret C hrt (by omega) dX11_isMachine_6 (⟨rfl, rfl, _, rfl, by omega⟩) (by omega) (by omega)
set_option maxRecDepth 20000 in
theorem cm_X11_isPlace (l : Launch) {D : va_G} {A : Nat → Prop} {ad : Nat → Nat} {ks : z_Ks} {N : Nat} {S : Nat → va_E} {Y : Nat → Option va_E} (v : Int) (h1 : z_rg v) : z_Met l yX11_isPlace cX11_isPlace 1 (some .boolean) 1 22 0 0 D A N ad ks [z_v v] S Y (fun r S' Y' => S' = S ∧ Y = Y' ∧ ∃ z : Int, r = some (z_v z) ∧ (z = 1 ∧ (0 ≤ v ∧ v ≤ 5) ∨ z = 0 ∧ ¬ (0 ≤ v ∧ v ≤ 5))) := by
  refine z_start2 (by decide) (Nat.le_of_ble_eq_true rfl) ?_
  intro p e R s m args below meth c Q C hRf hRc hRs hRl hQ hrt hnm
  refine z_loc (L' := [(0, z_v v)]) [0] rfl ?_
  refine z_iloadn C 0 dX11_isPlace_0 rfl rfl ?_
  refine z_iconst C dX11_isPlace_1 ?_
  refine z_iconst C dX11_isPlace_2 ?_
  refine z_callS C (cm_X11_in l v 0 5 (by omega) (by omega) (by omega)) mv_11_86 pd_X11_in ⟨by omega, by omega⟩ ⟨by omega, by omega⟩ rfl (Nat.le_of_ble_eq_true rfl) dX11_isPlace_3 ?_
  rintro _ _ _ ⟨rfl, rfl, z1, rfl, hz1⟩
  rw [hQ]
  exact z_zret C hrt (by omega) dX11_isPlace_6 (⟨rfl, rfl, _, rfl, by omega⟩) (by omega) (by omega)
set_option maxRecDepth 20000 in
theorem cm_X11_isClock (l : Launch) {D : va_G} {A : Nat → Prop} {ad : Nat → Nat} {ks : z_Ks} {N : Nat} {S : Nat → va_E} {Y : Nat → Option va_E} (v : Int) (h1 : z_rg v) : z_Met l yX11_isClock cX11_isClock 1 (some .boolean) 1 22 0 0 D A N ad ks [z_v v] S Y (fun r S' Y' => S' = S ∧ Y = Y' ∧ ∃ z : Int, r = some (z_v z) ∧ (z = 1 ∧ (1 ≤ v ∧ v ≤ 3) ∨ z = 0 ∧ ¬ (1 ≤ v ∧ v ≤ 3))) := by
  refine z_start2 (by decide) (Nat.le_of_ble_eq_true rfl) ?_
  intro p e R s m args below meth c Q C hRf hRc hRs hRl hQ hrt hnm
  refine z_loc (L' := [(0, z_v v)]) [0] rfl ?_
  refine z_iloadn C 0 dX11_isClock_0 rfl rfl ?_
  refine z_iconst C dX11_isClock_1 ?_
  refine z_iconst C dX11_isClock_2 ?_
  refine z_callS C (cm_X11_in l v 1 3 (by omega) (by omega) (by omega)) mv_11_86 pd_X11_in ⟨by omega, by omega⟩ ⟨by omega, by omega⟩ rfl (Nat.le_of_ble_eq_true rfl) dX11_isClock_3 ?_
  rintro _ _ _ ⟨rfl, rfl, z1, rfl, hz1⟩
  rw [hQ]
  exact z_zret C hrt (by omega) dX11_isClock_6 (⟨rfl, rfl, _, rfl, by omega⟩) (by omega) (by omega)
set_option maxRecDepth 20000 in
theorem cm_X11_isEdge (l : Launch) {D : va_G} {A : Nat → Prop} {ad : Nat → Nat} {ks : z_Ks} {s_edges s_isNeeded s_explored s_states s_isMoved s_runs s_runTime s_runMoves : Int} {w_h : Int64} {a_machine a_from a_to a_channel a_resets a_guards a_guardOf a_limits a_limitOf a_places a_zones a_parent a_moveE a_moveF a_moves a_z a_ahead a_at a_amounts a_way a_moments a_runAt a_runClock : Nat → Int} {Y : Nat → Option va_E} (v : Int) (h1 : z_rg v) (h2 : 0 ≤ s_edges ∧ s_edges ≤ 20) : z_Met l yX11_isEdge cX11_isEdge 2 (some .boolean) 1 22 0 0 D A 24 ad ks [.ref (ad 0), z_v v] (z_zm ad ks s_edges s_isNeeded s_explored s_states s_isMoved s_runs s_runTime s_runMoves w_h a_machine a_from a_to a_channel a_resets a_guards a_guardOf a_limits a_limitOf a_places a_zones a_parent a_moveE a_moveF a_moves a_z a_ahead a_at a_amounts a_way a_moments a_runAt a_runClock) Y (fun r S' Y' => S' = (z_zm ad ks s_edges s_isNeeded s_explored s_states s_isMoved s_runs s_runTime s_runMoves w_h a_machine a_from a_to a_channel a_resets a_guards a_guardOf a_limits a_limitOf a_places a_zones a_parent a_moveE a_moveF a_moves a_z a_ahead a_at a_amounts a_way a_moments a_runAt a_runClock) ∧ Y = Y' ∧ ∃ z : Int, r = some (z_v z) ∧ (z = 1 ∧ (0 ≤ v ∧ v < s_edges) ∨ z = 0 ∧ ¬ (0 ≤ v ∧ v < s_edges))) := by
  refine z_start2 (by decide) (Nat.le_of_ble_eq_true rfl) ?_
  intro p e R s m args below meth c Q C hRf hRc hRs hRl hQ hrt hnm
  refine z_loc (L' := [(0, .ref (ad 0)), (1, z_v v)]) [0, 1] rfl ?_
  refine z_iloadn C 1 dX11_isEdge_0 rfl rfl ?_
  refine z_iconst C dX11_isEdge_1 ?_
  refine z_aloadn C 0 dX11_isEdge_2 rfl rfl ?_
  refine z_get C 0 (by decide) rfl rfl z_it11 0 (by decide) rfl fl_11_90 rfl dX11_isEdge_3 ?_
  refine z_iconst C dX11_isEdge_6 ?_
  refine z_isub C dX11_isEdge_7 ?_
  refine z_callS C (cm_X11_in l v 0 (s_edges - 1) (by omega) (by omega) (by omega)) mv_11_86 pd_X11_in ⟨by omega, by omega⟩ ⟨by omega, by omega⟩ rfl (Nat.le_of_ble_eq_true rfl) dX11_isEdge_8 ?_
  rintro _ _ _ ⟨rfl, rfl, z1, rfl, hz1⟩
  rw [hQ]
  exact z_zret C hrt (by omega) dX11_isEdge_11 (⟨rfl, rfl, _, rfl, by omega⟩) (by omega) (by omega)
set_option maxRecDepth 20000 in
theorem cm_X11_isState (l : Launch) {D : va_G} {A : Nat → Prop} {ad : Nat → Nat} {ks : z_Ks} {s_edges s_isNeeded s_explored s_states s_isMoved s_runs s_runTime s_runMoves : Int} {w_h : Int64} {a_machine a_from a_to a_channel a_resets a_guards a_guardOf a_limits a_limitOf a_places a_zones a_parent a_moveE a_moveF a_moves a_z a_ahead a_at a_amounts a_way a_moments a_runAt a_runClock : Nat → Int} {Y : Nat → Option va_E} (v : Int) (h1 : z_rg v) (h2 : 0 ≤ s_states ∧ s_states ≤ 120) : z_Met l yX11_isState cX11_isState 2 (some .boolean) 1 22 0 0 D A 24 ad ks [.ref (ad 0), z_v v] (z_zm ad ks s_edges s_isNeeded s_explored s_states s_isMoved s_runs s_runTime s_runMoves w_h a_machine a_from a_to a_channel a_resets a_guards a_guardOf a_limits a_limitOf a_places a_zones a_parent a_moveE a_moveF a_moves a_z a_ahead a_at a_amounts a_way a_moments a_runAt a_runClock) Y (fun r S' Y' => S' = (z_zm ad ks s_edges s_isNeeded s_explored s_states s_isMoved s_runs s_runTime s_runMoves w_h a_machine a_from a_to a_channel a_resets a_guards a_guardOf a_limits a_limitOf a_places a_zones a_parent a_moveE a_moveF a_moves a_z a_ahead a_at a_amounts a_way a_moments a_runAt a_runClock) ∧ Y = Y' ∧ ∃ z : Int, r = some (z_v z) ∧ (z = 1 ∧ (0 ≤ v ∧ v < s_states) ∨ z = 0 ∧ ¬ (0 ≤ v ∧ v < s_states))) := by
  refine z_start2 (by decide) (Nat.le_of_ble_eq_true rfl) ?_
  intro p e R s m args below meth c Q C hRf hRc hRs hRl hQ hrt hnm
  refine z_loc (L' := [(0, .ref (ad 0)), (1, z_v v)]) [0, 1] rfl ?_
  refine z_iloadn C 1 dX11_isState_0 rfl rfl ?_
  refine z_iconst C dX11_isState_1 ?_
  refine z_aloadn C 0 dX11_isState_2 rfl rfl ?_
  refine z_get C 0 (by decide) rfl rfl z_it11 12 (by decide) rfl fl_11_94 rfl dX11_isState_3 ?_
  refine z_iconst C dX11_isState_6 ?_
  refine z_isub C dX11_isState_7 ?_
  refine z_callS C (cm_X11_in l v 0 (s_states - 1) (by omega) (by omega) (by omega)) mv_11_86 pd_X11_in ⟨by omega, by omega⟩ ⟨by omega, by omega⟩ rfl (Nat.le_of_ble_eq_true rfl) dX11_isState_8 ?_
  rintro _ _ _ ⟨rfl, rfl, z1, rfl, hz1⟩
  rw [hQ]
  exact z_zret C hrt (by omega) dX11_isState_11 (⟨rfl, rfl, _, rfl, by omega⟩) (by omega) (by omega)
set_option maxRecDepth 20000 in
theorem cm_X11_changed (l : Launch) {D : va_G} {A : Nat → Prop} {ad : Nat → Nat} {ks : z_Ks} {s_edges s_isNeeded s_explored s_states s_isMoved s_runs s_runTime s_runMoves : Int} {w_h : Int64} {a_machine a_from a_to a_channel a_resets a_guards a_guardOf a_limits a_limitOf a_places a_zones a_parent a_moveE a_moveF a_moves a_z a_ahead a_at a_amounts a_way a_moments a_runAt a_runClock : Nat → Int} {Y : Nat → Option va_E} : z_Met l yX11_changed cX11_changed 1 none 0 0 0 0 D A 24 ad ks [.ref (ad 0)] (z_zm ad ks s_edges s_isNeeded s_explored s_states s_isMoved s_runs s_runTime s_runMoves w_h a_machine a_from a_to a_channel a_resets a_guards a_guardOf a_limits a_limitOf a_places a_zones a_parent a_moveE a_moveF a_moves a_z a_ahead a_at a_amounts a_way a_moments a_runAt a_runClock) Y (fun r S' Y' => S' = (z_zm ad ks s_edges 1 s_explored 0 s_isMoved 0 s_runTime s_runMoves w_h a_machine a_from a_to a_channel a_resets a_guards a_guardOf a_limits a_limitOf a_places a_zones a_parent a_moveE a_moveF a_moves a_z a_ahead a_at a_amounts a_way a_moments a_runAt a_runClock) ∧ Y = Y' ∧ r = none) := by
  refine z_start2 (by decide) (Nat.le_of_ble_eq_true rfl) ?_
  intro p e R s m args below meth c Q C hRf hRc hRs hRl hQ hrt hnm
  refine z_loc (L' := [(0, .ref (ad 0))]) [0] rfl ?_
  refine z_aloadn C 0 dX11_changed_0 rfl rfl ?_
  refine z_iconst C dX11_changed_1 ?_
  refine z_put C 0 (by decide) rfl rfl z_it11 tyX11 tyX11_ok nmX11 10 (by decide) rfl (Or.inl rfl) fl_11_37 z_pfZ (z_nbZ (by omega)).1 (z_nbZ (by omega)).2 (Nat.le_of_ble_eq_true rfl) dX11_changed_2 ?_
  refine z_ext (S' := (z_zm ad ks s_edges 1 s_explored s_states s_isMoved s_runs s_runTime s_runMoves w_h a_machine a_from a_to a_channel a_resets a_guards a_guardOf a_limits a_limitOf a_places a_zones a_parent a_moveE a_moveF a_moves a_z a_ahead a_at a_amounts a_way a_moments a_runAt a_runClock)) upM_s_isNeeded ?_
  refine z_aloadn C 0 dX11_changed_5 rfl rfl ?_
  refine z_iconst C dX11_changed_6 ?_
  refine z_put C 0 (by decide) rfl rfl z_it11 tyX11 tyX11_ok nmX11 12 (by decide) rfl (Or.inl rfl) fl_11_94 z_pfI rfl rfl (Nat.le_of_ble_eq_true rfl) dX11_changed_7 ?_
  refine z_ext (S' := (z_zm ad ks s_edges 1 s_explored 0 s_isMoved s_runs s_runTime s_runMoves w_h a_machine a_from a_to a_channel a_resets a_guards a_guardOf a_limits a_limitOf a_places a_zones a_parent a_moveE a_moveF a_moves a_z a_ahead a_at a_amounts a_way a_moments a_runAt a_runClock)) upM_s_states ?_
  refine z_aloadn C 0 dX11_changed_10 rfl rfl ?_
  refine z_iconst C dX11_changed_11 ?_
  refine z_put C 0 (by decide) rfl rfl z_it11 tyX11 tyX11_ok nmX11 26 (by decide) rfl (Or.inl rfl) fl_11_83 z_pfZ (z_nbZ (by omega)).1 (z_nbZ (by omega)).2 (Nat.le_of_ble_eq_true rfl) dX11_changed_12 ?_
  refine z_ext (S' := (z_zm ad ks s_edges 1 s_explored 0 s_isMoved 0 s_runTime s_runMoves w_h a_machine a_from a_to a_channel a_resets a_guards a_guardOf a_limits a_limitOf a_places a_zones a_parent a_moveE a_moveF a_moves a_z a_ahead a_at a_amounts a_way a_moments a_runAt a_runClock)) upM_s_runs ?_
  rw [hQ]
  exact z_vret C hrt dX11_changed_15 (⟨rfl, rfl, rfl⟩) (by omega) (by omega)
