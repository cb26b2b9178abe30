theorem z_as4 {f : Nat → Int} {a b c : Int} (h0 : f 0 = 0) (h1 : f 1 = a) (h2 : f 2 = b) (h3 : f 3 = c) : ∀ x, x < 4 → f x = if x = 0 then 0 else if x = 1 then a else if x = 2 then b else c := by
  intro x hx
  rcases (show x = 0 ∨ x = 1 ∨ x = 2 ∨ x = 3 by omega) with rfl | rfl | rfl | rfl
  · exact h0
  · exact h1
  · exact h2
  · exact h3
theorem zo_pos.all {n mc k e f : Int} {mf ms em ec : Nat → Int} (h : z_ml n mc mf ms em ec) (p : zo_pos mc mf ms k e f) (he : n ≤ e) : k = mc := by
  by_cases q : k < mc
  · have a := p.2.2 k (by omega) q
    have b := ((h.2 (mf k.toNat) (ms k.toNat)).mp ⟨k, p.1.1, q, rfl, rfl⟩).1
    omega
  · have := p.1
    omega
set_option maxRecDepth 20000 in
theorem cx_X11_tells (l : Launch) {D : va_G} {A : Nat → Prop} {ad : Nat → Nat} {ks : z_Ks} {s_edges s_isNeeded s_explored s_states s_isMoved s_runs s_runTime s_runMoves : Int} {w_h : Int64} {a_machine a_from a_to a_channel a_resets a_guards a_guardOf a_limits a_limitOf a_places a_zones a_parent a_moveE a_moveF a_moves a_z a_ahead a_at a_amounts a_way a_moments a_runAt a_runClock : Nat → Int} {Y : Nat → Option va_E} (i0 wh : Int) (hi : 0 ≤ i0 ∧ i0 ≤ 119) (hw : 0 ≤ wh ∧ wh ≤ 6) : z_Met l yX11_tells cX11_tells 3 (some .int) 0 0 0 0 D A 24 ad ks [.ref (ad 0), z_v i0, z_v wh] (z_zm ad ks s_edges s_isNeeded s_explored s_states s_isMoved s_runs s_runTime s_runMoves w_h a_machine a_from a_to a_channel a_resets a_guards a_guardOf a_limits a_limitOf a_places a_zones a_parent a_moveE a_moveF a_moves a_z a_ahead a_at a_amounts a_way a_moments a_runAt a_runClock) Y (fun r S' Y' => S' = (z_zm ad ks s_edges s_isNeeded s_explored s_states s_isMoved s_runs s_runTime s_runMoves w_h a_machine a_from a_to a_channel a_resets a_guards a_guardOf a_limits a_limitOf a_places a_zones a_parent a_moveE a_moveF a_moves a_z a_ahead a_at a_amounts a_way a_moments a_runAt a_runClock) ∧ Y = Y' ∧ ∃ z : Int, r = some (z_v z) ∧ (z = z_tl i0 wh a_places a_parent a_moveE a_moveF a_moves)) := by
  refine z_start2 (by decide) (Nat.le_of_ble_eq_true rfl) ?_
  intro p e R s m args below meth c Q C hRf hRc hRs hRl hQ hrt hnm
  refine z_loc (L' := [(0, .ref (ad 0)), (1, z_v i0), (2, z_v wh)]) [0, 1, 2] rfl ?_
  refine z_iloadn C 2 dX11_tells_0 rfl rfl ?_
  refine z_iconst C dX11_tells_1 ?_
  refine z_icmp_ge (t := 18) C dX11_tells_2 (by decide) (by omega) (by omega) (fun c1 => ?_) (fun c1 => ?_)
  · skip
    refine z_iloadn C 2 dX11_tells_18 rfl rfl ?_
    refine z_iconst C dX11_tells_19 ?_
    refine z_icmp_ne (t := 32) C dX11_tells_20 (by decide) (by omega) (by omega) (fun c2 => ?_) (fun c2 => ?_)
    · skip
      refine z_iloadn C 2 dX11_tells_32 rfl rfl ?_
      refine z_iconst C dX11_tells_33 ?_
      refine z_icmp_ne (t := 46) C dX11_tells_34 (by decide) (by omega) (by omega) (fun c3 => ?_) (fun c3 => ?_)
      · skip
        refine z_iloadn C 2 dX11_tells_46 rfl rfl ?_
        refine z_iconst C dX11_tells_47 ?_
        refine z_icmp_ne (t := 60) C dX11_tells_48 (by decide) (by omega) (by omega) (fun c4 => ?_) (fun c4 => ?_)
        · skip
          refine z_aloadn C 0 dX11_tells_60 rfl rfl ?_
          refine z_get C 0 (by decide) rfl rfl z_it11 18 (by decide) rfl fl_11_56 rfl dX11_tells_61 ?_
          refine z_iloadn C 1 dX11_tells_64 rfl rfl ?_
          refine z_iald C 15 (by decide) rfl (by decide) (by omega) (by omega) dX11_tells_65 ?_
          rw [hQ]
          exact z_iret C hrt dX11_tells_66 (⟨rfl, rfl, _, rfl, by unfold z_tl; split <;> (try split) <;> (try split) <;> (try split) <;> (try split) <;> omega⟩) (by omega) (by omega)
        · skip
          refine z_aloadn C 0 dX11_tells_51 rfl rfl ?_
          refine z_get C 0 (by decide) rfl rfl z_it11 17 (by decide) rfl fl_11_53 rfl dX11_tells_52 ?_
          refine z_iloadn C 1 dX11_tells_55 rfl rfl ?_
          refine z_iald C 14 (by decide) rfl (by decide) (by omega) (by omega) dX11_tells_56 ?_
          refine z_goto (t := 66) C dX11_tells_57 (by decide) ?_
          rw [hQ]
          exact z_iret C hrt dX11_tells_66 (⟨rfl, rfl, _, rfl, by unfold z_tl; split <;> (try split) <;> (try split) <;> (try split) <;> (try split) <;> omega⟩) (by omega) (by omega)
      · skip
        refine z_aloadn C 0 dX11_tells_37 rfl rfl ?_
        refine z_get C 0 (by decide) rfl rfl z_it11 16 (by decide) rfl fl_11_50 rfl dX11_tells_38 ?_
        refine z_iloadn C 1 dX11_tells_41 rfl rfl ?_
        refine z_iald C 13 (by decide) rfl (by decide) (by omega) (by omega) dX11_tells_42 ?_
        refine z_goto (t := 66) C dX11_tells_43 (by decide) ?_
        rw [hQ]
        exact z_iret C hrt dX11_tells_66 (⟨rfl, rfl, _, rfl, by unfold z_tl; split <;> (try split) <;> (try split) <;> (try split) <;> (try split) <;> omega⟩) (by omega) (by omega)
    · skip
      refine z_aloadn C 0 dX11_tells_23 rfl rfl ?_
      refine z_get C 0 (by decide) rfl rfl z_it11 15 (by decide) rfl fl_11_47 rfl dX11_tells_24 ?_
      refine z_iloadn C 1 dX11_tells_27 rfl rfl ?_
      refine z_iald C 12 (by decide) rfl (by decide) (by omega) (by omega) dX11_tells_28 ?_
      refine z_goto (t := 66) C dX11_tells_29 (by decide) ?_
      rw [hQ]
      exact z_iret C hrt dX11_tells_66 (⟨rfl, rfl, _, rfl, by unfold z_tl; split <;> (try split) <;> (try split) <;> (try split) <;> (try split) <;> omega⟩) (by omega) (by omega)
  · skip
    refine z_aloadn C 0 dX11_tells_5 rfl rfl ?_
    refine z_get C 0 (by decide) rfl rfl z_it11 13 (by decide) rfl fl_11_41 rfl dX11_tells_6 ?_
    refine z_iconst C dX11_tells_9 ?_
    refine z_iloadn C 1 dX11_tells_10 rfl rfl ?_
    refine z_imul C dX11_tells_11 ?_
    refine z_iloadn C 2 dX11_tells_12 rfl rfl ?_
    refine z_iadd C dX11_tells_13 ?_
    refine z_iald C 10 (by decide) rfl (by decide) (by omega) (by omega) dX11_tells_14 ?_
    refine z_goto (t := 66) C dX11_tells_15 (by decide) ?_
    rw [hQ]
    exact z_iret C hrt dX11_tells_66 (⟨rfl, rfl, _, rfl, by unfold z_tl; split <;> (try split) <;> (try split) <;> (try split) <;> (try split) <;> omega⟩) (by omega) (by omega)
set_option maxRecDepth 20000 in
theorem cx_X11_state (l : Launch) {D : va_G} {A : Nat → Prop} {ad : Nat → Nat} {ks : z_Ks} {s_edges s_isNeeded s_explored s_states s_isMoved s_runs s_runTime s_runMoves : Int} {w_h : Int64} {a_machine a_from a_to a_channel a_resets a_guards a_guardOf a_limits a_limitOf a_places a_zones a_parent a_moveE a_moveF a_moves a_z a_ahead a_at a_amounts a_way a_moments a_runAt a_runClock : Nat → Int} {Y : Nat → Option va_E} (i0 wh : Int) (Hs_isNeeded : (s_isNeeded = 0 ∨ s_isNeeded = 1)) (Hs_states : (0 ≤ s_states ∧ s_states ≤ 120)) (hi : z_rg i0) (hw : z_rg wh) : z_Met l yX11_state cX11_state 3 (some .int) 2 43 0 0 D A 24 ad ks [.ref (ad 0), z_v i0, z_v wh] (z_zm ad ks s_edges s_isNeeded s_explored s_states s_isMoved s_runs s_runTime s_runMoves w_h a_machine a_from a_to a_channel a_resets a_guards a_guardOf a_limits a_limitOf a_places a_zones a_parent a_moveE a_moveF a_moves a_z a_ahead a_at a_amounts a_way a_moments a_runAt a_runClock) Y (fun r S' Y' => S' = (z_zm ad ks s_edges s_isNeeded s_explored s_states s_isMoved s_runs s_runTime s_runMoves w_h a_machine a_from a_to a_channel a_resets a_guards a_guardOf a_limits a_limitOf a_places a_zones a_parent a_moveE a_moveF a_moves a_z a_ahead a_at a_amounts a_way a_moments a_runAt a_runClock) ∧ Y = Y' ∧ ∃ z : Int, r = some (z_v z) ∧ (z = z_stA i0 wh s_isNeeded s_states (z_tl i0 wh a_places a_parent a_moveE a_moveF a_moves))) := by
  refine z_start2 (by decide) (Nat.le_of_ble_eq_true rfl) ?_
  intro p e R s m args below meth c Q C hRf hRc hRs hRl hQ hrt hnm
  refine z_loc (L' := [(0, .ref (ad 0)), (1, z_v i0), (2, z_v wh)]) [0, 1, 2] rfl ?_
  refine z_aloadn C 0 dX11_state_0 rfl rfl ?_
  refine z_get C 0 (by decide) rfl rfl z_it11 10 (by decide) rfl fl_11_37 rfl dX11_state_1 ?_
  refine z_if_eq (t := 10) C dX11_state_4 (by decide) (by omega) (fun c1 => ?_) (fun c1 => ?_)
  · skip
    refine z_aloadn C 0 dX11_state_10 rfl rfl ?_
    refine z_iloadn C 1 dX11_state_11 rfl rfl ?_
    refine z_callV C (cm_X11_isState l i0 (by omega) (by omega)) mv_11_165 (z_atS 0 11 (by decide) rfl rfl rfl) pd_X11_isState ⟨by omega, by omega⟩ ⟨by omega, by omega⟩ rfl (Nat.le_of_ble_eq_true rfl) dX11_state_12 ?_
    rintro _ _ _ ⟨rfl, rfl, z2, rfl, hz2⟩
    refine z_if_ne (t := 21) C dX11_state_15 (by decide) (by omega) (fun c3 => ?_) (fun c3 => ?_)
    · skip
      refine z_iloadn C 2 dX11_state_21 rfl rfl ?_
      refine z_iconst C dX11_state_22 ?_
      refine z_bipush C dX11_state_23 (by decide) ?_
      refine z_callS C (cm_X11_in l wh 0 6 (by omega) (by omega) (by omega)) mv_11_86 pd_X11_in ⟨by omega, by omega⟩ ⟨by omega, by omega⟩ rfl (Nat.le_of_ble_eq_true rfl) dX11_state_25 ?_
      rintro _ _ _ ⟨rfl, rfl, z4, rfl, hz4⟩
      refine z_if_eq (t := 40) C dX11_state_28 (by decide) (by omega) (fun c5 => ?_) (fun c5 => ?_)
      · skip
        refine z_bipush C dX11_state_40 (by decide) ?_
        rw [hQ]
        exact z_iret C hrt dX11_state_42 (⟨rfl, rfl, _, rfl, by unfold z_stA; split <;> (try split) <;> (try split) <;> (try split) <;> omega⟩) (by omega) (by omega)
      · skip
        refine z_aloadn C 0 dX11_state_31 rfl rfl ?_
        refine z_iloadn C 1 dX11_state_32 rfl rfl ?_
        refine z_iloadn C 2 dX11_state_33 rfl rfl ?_
        refine z_callV C (cx_X11_tells l i0 wh (by omega) (by omega)) mv_11_168 (z_atS 0 11 (by decide) rfl rfl rfl) pd_X11_tells ⟨by omega, by omega⟩ ⟨by omega, by omega⟩ rfl (Nat.le_of_ble_eq_true rfl) dX11_state_34 ?_
        rintro _ _ _ ⟨rfl, rfl, z8, rfl, hz8⟩
        refine z_goto (t := 42) C dX11_state_37 (by decide) ?_
        rw [hQ]
        exact z_iret C hrt dX11_state_42 (⟨rfl, rfl, _, rfl, by unfold z_stA; split <;> (try split) <;> (try split) <;> (try split) <;> omega⟩) (by omega) (by omega)
    · skip
      refine z_bipush C dX11_state_18 (by decide) ?_
      rw [hQ]
      exact z_iret C hrt dX11_state_20 (⟨rfl, rfl, _, rfl, by unfold z_stA; split <;> (try split) <;> (try split) <;> (try split) <;> omega⟩) (by omega) (by omega)
  · skip
    refine z_bipush C dX11_state_7 (by decide) ?_
    rw [hQ]
    exact z_iret C hrt dX11_state_9 (⟨rfl, rfl, _, rfl, by unfold z_stA; split <;> (try split) <;> (try split) <;> (try split) <;> omega⟩) (by omega) (by omega)
set_option maxRecDepth 20000 in
theorem cx_X11_bound (l : Launch) {D : va_G} {A : Nat → Prop} {ad : Nat → Nat} {ks : z_Ks} {s_edges s_isNeeded s_explored s_states s_isMoved s_runs s_runTime s_runMoves : Int} {w_h : Int64} {a_machine a_from a_to a_channel a_resets a_guards a_guardOf a_limits a_limitOf a_places a_zones a_parent a_moveE a_moveF a_moves a_z a_ahead a_at a_amounts a_way a_moments a_runAt a_runClock : Nat → Int} {Y : Nat → Option va_E} (i0 x y : Int) (Hs_isNeeded : (s_isNeeded = 0 ∨ s_isNeeded = 1)) (Hs_states : (0 ≤ s_states ∧ s_states ≤ 120)) (hi : z_rg i0) (hx : z_rg x) (hy : z_rg y) : z_Met l yX11_bound cX11_bound 4 (some .int) 2 43 0 0 D A 24 ad ks [.ref (ad 0), z_v i0, z_v x, z_v y] (z_zm ad ks s_edges s_isNeeded s_explored s_states s_isMoved s_runs s_runTime s_runMoves w_h a_machine a_from a_to a_channel a_resets a_guards a_guardOf a_limits a_limitOf a_places a_zones a_parent a_moveE a_moveF a_moves a_z a_ahead a_at a_amounts a_way a_moments a_runAt a_runClock) Y (fun r S' Y' => S' = (z_zm ad ks s_edges s_isNeeded s_explored s_states s_isMoved s_runs s_runTime s_runMoves w_h a_machine a_from a_to a_channel a_resets a_guards a_guardOf a_limits a_limitOf a_places a_zones a_parent a_moveE a_moveF a_moves a_z a_ahead a_at a_amounts a_way a_moments a_runAt a_runClock) ∧ Y = Y' ∧ ∃ z : Int, r = some (z_v z) ∧ (z = z_bdA i0 x y s_isNeeded s_states (a_zones (16 * i0 + 4 * x + y).toNat))) := by
  refine z_start2 (by decide) (Nat.le_of_ble_eq_true rfl) ?_
  intro p e R s m args below meth c Q C hRf hRc hRs hRl hQ hrt hnm
  refine z_loc (L' := [(0, .ref (ad 0)), (1, z_v i0), (2, z_v x), (3, z_v y)]) [0, 1, 2, 3] rfl ?_
  refine z_aloadn C 0 dX11_bound_0 rfl rfl ?_
  refine z_get C 0 (by decide) rfl rfl z_it11 10 (by decide) rfl fl_11_37 rfl dX11_bound_1 ?_
  refine z_if_eq (t := 10) C dX11_bound_4 (by decide) (by omega) (fun c1 => ?_) (fun c1 => ?_)
  · skip
    refine z_aloadn C 0 dX11_bound_10 rfl rfl ?_
    refine z_iloadn C 1 dX11_bound_11 rfl rfl ?_
    refine z_callV C (cm_X11_isState l i0 (by omega) (by omega)) mv_11_165 (z_atS 0 11 (by decide) rfl rfl rfl) pd_X11_isState ⟨by omega, by omega⟩ ⟨by omega, by omega⟩ rfl (Nat.le_of_ble_eq_true rfl) dX11_bound_12 ?_
    rintro _ _ _ ⟨rfl, rfl, z2, rfl, hz2⟩
    refine z_if_eq (t := 36) C dX11_bound_15 (by decide) (by omega) (fun c3 => ?_) (fun c3 => ?_)
    · skip
      refine z_ldc (n := 100002) C kc_11_172 (by decide) dX11_bound_36 ?_
      rw [hQ]
      exact z_iret C hrt dX11_bound_38 (⟨rfl, rfl, _, rfl, by unfold z_bdA; split <;> (try split) <;> (try split) <;> omega⟩) (by omega) (by omega)
    · skip
      refine z_iloadn C 2 dX11_bound_18 rfl rfl ?_
      refine z_iconst C dX11_bound_19 ?_
      refine z_iconst C dX11_bound_20 ?_
      refine z_callS C (cm_X11_in l x 0 3 (by omega) (by omega) (by omega)) mv_11_86 pd_X11_in ⟨by omega, by omega⟩ ⟨by omega, by omega⟩ rfl (Nat.le_of_ble_eq_true rfl) dX11_bound_21 ?_
      rintro _ _ _ ⟨rfl, rfl, z4, rfl, hz4⟩
      refine z_if_eq (t := 36) C dX11_bound_24 (by decide) (by omega) (fun c5 => ?_) (fun c5 => ?_)
      · skip
        refine z_ldc (n := 100002) C kc_11_172 (by decide) dX11_bound_36 ?_
        rw [hQ]
        exact z_iret C hrt dX11_bound_38 (⟨rfl, rfl, _, rfl, by unfold z_bdA; split <;> (try split) <;> (try split) <;> omega⟩) (by omega) (by omega)
      · skip
        refine z_iloadn C 3 dX11_bound_27 rfl rfl ?_
        refine z_iconst C dX11_bound_28 ?_
        refine z_iconst C dX11_bound_29 ?_
        refine z_callS C (cm_X11_in l y 0 3 (by omega) (by omega) (by omega)) mv_11_86 pd_X11_in ⟨by omega, by omega⟩ ⟨by omega, by omega⟩ rfl (Nat.le_of_ble_eq_true rfl) dX11_bound_30 ?_
        rintro _ _ _ ⟨rfl, rfl, z6, rfl, hz6⟩
        refine z_if_ne (t := 39) C dX11_bound_33 (by decide) (by omega) (fun c7 => ?_) (fun c7 => ?_)
        · skip
          refine z_aloadn C 0 dX11_bound_39 rfl rfl ?_
          refine z_get C 0 (by decide) rfl rfl z_it11 14 (by decide) rfl fl_11_44 rfl dX11_bound_40 ?_
          refine z_bipush C dX11_bound_43 (by decide) ?_
          refine z_iloadn C 1 dX11_bound_45 rfl rfl ?_
          refine z_imul C dX11_bound_46 ?_
          refine z_iconst C dX11_bound_47 ?_
          refine z_iloadn C 2 dX11_bound_48 rfl rfl ?_
          refine z_imul C dX11_bound_49 ?_
          refine z_iadd C dX11_bound_50 ?_
          refine z_iloadn C 3 dX11_bound_51 rfl rfl ?_
          refine z_iadd C dX11_bound_52 ?_
          refine z_iald C 11 (by decide) rfl (by decide) (by omega) (by omega) dX11_bound_53 ?_
          rw [hQ]
          exact z_iret C hrt dX11_bound_54 (⟨rfl, rfl, _, rfl, by unfold z_bdA; split <;> (try split) <;> (try split) <;> omega⟩) (by omega) (by omega)
        · skip
          refine z_ldc (n := 100002) C kc_11_172 (by decide) dX11_bound_36 ?_
          rw [hQ]
          exact z_iret C hrt dX11_bound_38 (⟨rfl, rfl, _, rfl, by unfold z_bdA; split <;> (try split) <;> (try split) <;> omega⟩) (by omega) (by omega)
  · skip
    refine z_ldc (n := 100001) C kc_11_171 (by decide) dX11_bound_7 ?_
    rw [hQ]
    exact z_iret C hrt dX11_bound_9 (⟨rfl, rfl, _, rfl, by unfold z_bdA; split <;> (try split) <;> (try split) <;> omega⟩) (by omega) (by omega)
set_option maxRecDepth 20000 in
theorem cx_X11_reach (l : Launch) {D : va_G} {A : Nat → Prop} {ad : Nat → Nat} {ks : z_Ks} {s_edges s_isNeeded s_explored s_states s_isMoved s_runs s_runTime s_runMoves : Int} {w_h : Int64} {a_machine a_from a_to a_channel a_resets a_guards a_guardOf a_limits a_limitOf a_places a_zones a_parent a_moveE a_moveF a_moves a_z a_ahead a_at a_amounts a_way a_moments a_runAt a_runClock : Nat → Int} {Y : Nat → Option va_E} (a b c0 : Int) (Hs_isNeeded : (s_isNeeded = 0 ∨ s_isNeeded = 1)) (Hs_states : (0 ≤ s_states ∧ s_states ≤ 120)) (Ha_places : (∀ j, 0 ≤ a_places j ∧ a_places j ≤ 5)) (ha : z_rg a) (hb : z_rg b) (hc : z_rg c0) : z_Met l yX11_reach cX11_reach 5 (some .int) 1 22 0 0 D A 24 ad ks [.ref (ad 0), z_v a, z_v b, z_v c0] (z_zm ad ks s_edges s_isNeeded s_explored s_states s_isMoved s_runs s_runTime s_runMoves w_h a_machine a_from a_to a_channel a_resets a_guards a_guardOf a_limits a_limitOf a_places a_zones a_parent a_moveE a_moveF a_moves a_z a_ahead a_at a_amounts a_way a_moments a_runAt a_runClock) Y (fun r S' Y' => S' = (z_zm ad ks s_edges s_isNeeded s_explored s_states s_isMoved s_runs s_runTime s_runMoves w_h a_machine a_from a_to a_channel a_resets a_guards a_guardOf a_limits a_limitOf a_places a_zones a_parent a_moveE a_moveF a_moves a_z a_ahead a_at a_amounts a_way a_moments a_runAt a_runClock) ∧ Y = Y' ∧ ∃ z : Int, r = some (z_v z) ∧ (z_rcA a b c0 s_isNeeded s_states (fun i => (a < 0 ∨ a_places (3 * i).toNat = a) ∧ (b < 0 ∨ a_places (3 * i + 1).toNat = b) ∧ (c0 < 0 ∨ a_places (3 * i + 2).toNat = c0)) z)) := by
  refine z_start2 (by decide) (Nat.le_of_ble_eq_true rfl) ?_
  intro p e R s m args below meth c Q C hRf hRc hRs hRl hQ hrt hnm
  refine z_loc (L' := [(0, .ref (ad 0)), (1, z_v a), (2, z_v b), (3, z_v c0)]) [0, 1, 2, 3] rfl ?_
  refine z_aloadn C 0 dX11_reach_0 rfl rfl ?_
  refine z_get C 0 (by decide) rfl rfl z_it11 10 (by decide) rfl fl_11_37 rfl dX11_reach_1 ?_
  refine z_if_eq (t := 10) C dX11_reach_4 (by decide) (by omega) (fun c1 => ?_) (fun c1 => ?_)
  · skip
    refine z_iloadn C 1 dX11_reach_10 rfl rfl ?_
    refine z_iconst C dX11_reach_11 ?_
    refine z_iconst C dX11_reach_12 ?_
    refine z_callS C (cm_X11_in l a (-1) 5 (by omega) (by omega) (by omega)) mv_11_86 pd_X11_in ⟨by omega, by omega⟩ ⟨by omega, by omega⟩ rfl (Nat.le_of_ble_eq_true rfl) dX11_reach_13 ?_
    rintro _ _ _ ⟨rfl, rfl, z2, rfl, hz2⟩
    refine z_if_eq (t := 37) C dX11_reach_16 (by decide) (by omega) (fun c3 => ?_) (fun c3 => ?_)
    · skip
      refine z_bipush C dX11_reach_37 (by decide) ?_
      rw [hQ]
      exact z_iret C hrt dX11_reach_39 (⟨rfl, rfl, _, rfl, Or.inr (Or.inl ⟨by omega, by omega, rfl⟩)⟩) (by omega) (by omega)
    · skip
      refine z_iloadn C 2 dX11_reach_19 rfl rfl ?_
      refine z_iconst C dX11_reach_20 ?_
      refine z_iconst C dX11_reach_21 ?_
      refine z_callS C (cm_X11_in l b (-1) 5 (by omega) (by omega) (by omega)) mv_11_86 pd_X11_in ⟨by omega, by omega⟩ ⟨by omega, by omega⟩ rfl (Nat.le_of_ble_eq_true rfl) dX11_reach_22 ?_
      rintro _ _ _ ⟨rfl, rfl, z4, rfl, hz4⟩
      refine z_if_eq (t := 37) C dX11_reach_25 (by decide) (by omega) (fun c5 => ?_) (fun c5 => ?_)
      · skip
        refine z_bipush C dX11_reach_37 (by decide) ?_
        rw [hQ]
        exact z_iret C hrt dX11_reach_39 (⟨rfl, rfl, _, rfl, Or.inr (Or.inl ⟨by omega, by omega, rfl⟩)⟩) (by omega) (by omega)
      · skip
        refine z_iloadn C 3 dX11_reach_28 rfl rfl ?_
        refine z_iconst C dX11_reach_29 ?_
        refine z_iconst C dX11_reach_30 ?_
        refine z_callS C (cm_X11_in l c0 (-1) 5 (by omega) (by omega) (by omega)) mv_11_86 pd_X11_in ⟨by omega, by omega⟩ ⟨by omega, by omega⟩ rfl (Nat.le_of_ble_eq_true rfl) dX11_reach_31 ?_
        rintro _ _ _ ⟨rfl, rfl, z6, rfl, hz6⟩
        refine z_if_ne (t := 40) C dX11_reach_34 (by decide) (by omega) (fun c7 => ?_) (fun c7 => ?_)
        · skip
          refine z_iconst C dX11_reach_40 ?_
          refine z_istore (L' := [(4, z_v 0), (0, .ref (ad 0)), (1, z_v a), (2, z_v b), (3, z_v c0)]) C dX11_reach_41 (by decide) rfl ?_
          have L43 : ∀ (n : Nat), ∀ (i4 : Int), (∀ i : Int, 0 ≤ i → i < i4 → ¬ ((a < 0 ∨ a_places (3 * i).toNat = a) ∧ (b < 0 ∨ a_places (3 * i + 1).toNat = b) ∧ (c0 < 0 ∨ a_places (3 * i + 2).toNat = c0))) → (0 ≤ i4 ∧ i4 ≤ s_states) → ((s_states : Int) - i4).toNat < n → z_V p l e R s m args below meth c Q D A 24 ad 5 (z_zm ad ks s_edges s_isNeeded s_explored s_states s_isMoved s_runs s_runTime s_runMoves w_h a_machine a_from a_to a_channel a_resets a_guards a_guardOf a_limits a_limitOf a_places a_zones a_parent a_moveE a_moveF a_moves a_z a_ahead a_at a_amounts a_way a_moments a_runAt a_runClock) Y 0 0 43 [(0, .ref (ad 0)), (1, z_v a), (2, z_v b), (3, z_v c0), (4, z_v i4)] [] := by
            intro n
            induction n with
            | zero => intro i4 NF I4 hm; exact absurd hm (Nat.not_lt_zero _)
            | succ n ih43 =>
              intro i4 NF I4 hm
              refine z_iload C 4 dX11_reach_43 rfl ?_
              refine z_aloadn C 0 dX11_reach_45 rfl rfl ?_
              refine z_get C 0 (by decide) rfl rfl z_it11 12 (by decide) rfl fl_11_94 rfl dX11_reach_46 ?_
              refine z_icmp_ge (t := 116) C dX11_reach_49 (by decide) (by omega) (by omega) (fun c8 => ?_) (fun c8 => ?_)
              · skip
                refine z_iconst C dX11_reach_116 ?_
                rw [hQ]
                exact z_iret C hrt dX11_reach_117 (⟨rfl, rfl, _, rfl, Or.inr (Or.inr ⟨by omega, by omega, Or.inl ⟨rfl, fun i h0 h1 => NF i h0 (by omega)⟩⟩)⟩) (by omega) (by omega)
              · skip
                refine z_iloadn C 1 dX11_reach_52 rfl rfl ?_
                refine z_if_lt (t := 69) C dX11_reach_53 (by decide) (by omega) (fun c9 => ?_) (fun c9 => ?_)
                · skip
                  refine z_iloadn C 2 dX11_reach_69 rfl rfl ?_
                  refine z_if_lt (t := 88) C dX11_reach_70 (by decide) (by omega) (fun c10 => ?_) (fun c10 => ?_)
                  · skip
                    refine z_iloadn C 3 dX11_reach_88 rfl rfl ?_
                    refine z_if_lt (t := 107) C dX11_reach_89 (by decide) (by omega) (fun c11 => ?_) (fun c11 => ?_)
                    · skip
                      refine z_iload C 4 dX11_reach_107 rfl ?_
                      rw [hQ]
                      exact z_iret C hrt dX11_reach_109 (⟨rfl, rfl, _, rfl, Or.inr (Or.inr ⟨by omega, by omega, Or.inr ⟨by omega, by omega, NF⟩⟩)⟩) (by omega) (by omega)
                    · skip
                      refine z_aloadn C 0 dX11_reach_92 rfl rfl ?_
                      refine z_get C 0 (by decide) rfl rfl z_it11 13 (by decide) rfl fl_11_41 rfl dX11_reach_93 ?_
                      refine z_iconst C dX11_reach_96 ?_
                      refine z_iload C 4 dX11_reach_97 rfl ?_
                      refine z_imul C dX11_reach_99 ?_
                      refine z_iconst C dX11_reach_100 ?_
                      refine z_iadd C dX11_reach_101 ?_
                      refine z_iald C 10 (by decide) rfl (by decide) (by omega) (by omega) dX11_reach_102 ?_
                      have rx12 := Ha_places (((3 * i4) + 2) : Int).toNat
                      generalize ex12 : a_places (((3 * i4) + 2) : Int).toNat = x12 at rx12 ⊢
                      refine z_iloadn C 3 dX11_reach_103 rfl rfl ?_
                      refine z_icmp_ne (t := 110) C dX11_reach_104 (by decide) (by omega) (by omega) (fun c13 => ?_) (fun c13 => ?_)
                      · skip
                        refine z_iinc (L' := [(4, z_v (i4 + 1)), (0, .ref (ad 0)), (1, z_v a), (2, z_v b), (3, z_v c0)]) C 4 dX11_reach_110 rfl (by decide) rfl ?_
                        refine z_goto (t := 43) C dX11_reach_113 (by decide) ?_
                        refine z_loc (L' := [(0, .ref (ad 0)), (1, z_v a), (2, z_v b), (3, z_v c0), (4, z_v (i4 + 1))]) [1, 2, 3, 4, 0] rfl ?_
                        exact ih43 (i4 + 1) (z_snoc NF (by omega)) (by omega) (by omega)
                      · skip
                        refine z_iload C 4 dX11_reach_107 rfl ?_
                        rw [hQ]
                        exact z_iret C hrt dX11_reach_109 (⟨rfl, rfl, _, rfl, Or.inr (Or.inr ⟨by omega, by omega, Or.inr ⟨by omega, by omega, NF⟩⟩)⟩) (by omega) (by omega)
                  · skip
                    refine z_aloadn C 0 dX11_reach_73 rfl rfl ?_
                    refine z_get C 0 (by decide) rfl rfl z_it11 13 (by decide) rfl fl_11_41 rfl dX11_reach_74 ?_
                    refine z_iconst C dX11_reach_77 ?_
                    refine z_iload C 4 dX11_reach_78 rfl ?_
                    refine z_imul C dX11_reach_80 ?_
                    refine z_iconst C dX11_reach_81 ?_
                    refine z_iadd C dX11_reach_82 ?_
                    refine z_iald C 10 (by decide) rfl (by decide) (by omega) (by omega) dX11_reach_83 ?_
                    have rx14 := Ha_places (((3 * i4) + 1) : Int).toNat
                    generalize ex14 : a_places (((3 * i4) + 1) : Int).toNat = x14 at rx14 ⊢
                    refine z_iloadn C 2 dX11_reach_84 rfl rfl ?_
                    refine z_icmp_ne (t := 110) C dX11_reach_85 (by decide) (by omega) (by omega) (fun c15 => ?_) (fun c15 => ?_)
                    · skip
                      refine z_iinc (L' := [(4, z_v (i4 + 1)), (0, .ref (ad 0)), (1, z_v a), (2, z_v b), (3, z_v c0)]) C 4 dX11_reach_110 rfl (by decide) rfl ?_
                      refine z_goto (t := 43) C dX11_reach_113 (by decide) ?_
                      refine z_loc (L' := [(0, .ref (ad 0)), (1, z_v a), (2, z_v b), (3, z_v c0), (4, z_v (i4 + 1))]) [1, 2, 3, 4, 0] rfl ?_
                      exact ih43 (i4 + 1) (z_snoc NF (by omega)) (by omega) (by omega)
                    · skip
                      refine z_iloadn C 3 dX11_reach_88 rfl rfl ?_
                      refine z_if_lt (t := 107) C dX11_reach_89 (by decide) (by omega) (fun c16 => ?_) (fun c16 => ?_)
                      · skip
                        refine z_iload C 4 dX11_reach_107 rfl ?_
                        rw [hQ]
                        exact z_iret C hrt dX11_reach_109 (⟨rfl, rfl, _, rfl, Or.inr (Or.inr ⟨by omega, by omega, Or.inr ⟨by omega, by omega, NF⟩⟩)⟩) (by omega) (by omega)
                      · skip
                        refine z_aloadn C 0 dX11_reach_92 rfl rfl ?_
                        refine z_get C 0 (by decide) rfl rfl z_it11 13 (by decide) rfl fl_11_41 rfl dX11_reach_93 ?_
                        refine z_iconst C dX11_reach_96 ?_
                        refine z_iload C 4 dX11_reach_97 rfl ?_
                        refine z_imul C dX11_reach_99 ?_
                        refine z_iconst C dX11_reach_100 ?_
                        refine z_iadd C dX11_reach_101 ?_
                        refine z_iald C 10 (by decide) rfl (by decide) (by omega) (by omega) dX11_reach_102 ?_
                        have rx17 := Ha_places (((3 * i4) + 2) : Int).toNat
                        generalize ex17 : a_places (((3 * i4) + 2) : Int).toNat = x17 at rx17 ⊢
                        refine z_iloadn C 3 dX11_reach_103 rfl rfl ?_
                        refine z_icmp_ne (t := 110) C dX11_reach_104 (by decide) (by omega) (by omega) (fun c18 => ?_) (fun c18 => ?_)
                        · skip
                          refine z_iinc (L' := [(4, z_v (i4 + 1)), (0, .ref (ad 0)), (1, z_v a), (2, z_v b), (3, z_v c0)]) C 4 dX11_reach_110 rfl (by decide) rfl ?_
                          refine z_goto (t := 43) C dX11_reach_113 (by decide) ?_
                          refine z_loc (L' := [(0, .ref (ad 0)), (1, z_v a), (2, z_v b), (3, z_v c0), (4, z_v (i4 + 1))]) [1, 2, 3, 4, 0] rfl ?_
                          exact ih43 (i4 + 1) (z_snoc NF (by omega)) (by omega) (by omega)
                        · skip
                          refine z_iload C 4 dX11_reach_107 rfl ?_
                          rw [hQ]
                          exact z_iret C hrt dX11_reach_109 (⟨rfl, rfl, _, rfl, Or.inr (Or.inr ⟨by omega, by omega, Or.inr ⟨by omega, by omega, NF⟩⟩)⟩) (by omega) (by omega)
                · skip
                  refine z_aloadn C 0 dX11_reach_56 rfl rfl ?_
                  refine z_get C 0 (by decide) rfl rfl z_it11 13 (by decide) rfl fl_11_41 rfl dX11_reach_57 ?_
                  refine z_iconst C dX11_reach_60 ?_
                  refine z_iload C 4 dX11_reach_61 rfl ?_
                  refine z_imul C dX11_reach_63 ?_
                  refine z_iald C 10 (by decide) rfl (by decide) (by omega) (by omega) dX11_reach_64 ?_
                  have rx19 := Ha_places ((3 * i4) : Int).toNat
                  generalize ex19 : a_places ((3 * i4) : Int).toNat = x19 at rx19 ⊢
                  refine z_iloadn C 1 dX11_reach_65 rfl rfl ?_
                  refine z_icmp_ne (t := 110) C dX11_reach_66 (by decide) (by omega) (by omega) (fun c20 => ?_) (fun c20 => ?_)
                  · skip
                    refine z_iinc (L' := [(4, z_v (i4 + 1)), (0, .ref (ad 0)), (1, z_v a), (2, z_v b), (3, z_v c0)]) C 4 dX11_reach_110 rfl (by decide) rfl ?_
                    refine z_goto (t := 43) C dX11_reach_113 (by decide) ?_
                    refine z_loc (L' := [(0, .ref (ad 0)), (1, z_v a), (2, z_v b), (3, z_v c0), (4, z_v (i4 + 1))]) [1, 2, 3, 4, 0] rfl ?_
                    exact ih43 (i4 + 1) (z_snoc NF (by omega)) (by omega) (by omega)
                  · skip
                    refine z_iloadn C 2 dX11_reach_69 rfl rfl ?_
                    refine z_if_lt (t := 88) C dX11_reach_70 (by decide) (by omega) (fun c21 => ?_) (fun c21 => ?_)
                    · skip
                      refine z_iloadn C 3 dX11_reach_88 rfl rfl ?_
                      refine z_if_lt (t := 107) C dX11_reach_89 (by decide) (by omega) (fun c22 => ?_) (fun c22 => ?_)
                      · skip
                        refine z_iload C 4 dX11_reach_107 rfl ?_
                        rw [hQ]
                        exact z_iret C hrt dX11_reach_109 (⟨rfl, rfl, _, rfl, Or.inr (Or.inr ⟨by omega, by omega, Or.inr ⟨by omega, by omega, NF⟩⟩)⟩) (by omega) (by omega)
                      · skip
                        refine z_aloadn C 0 dX11_reach_92 rfl rfl ?_
                        refine z_get C 0 (by decide) rfl rfl z_it11 13 (by decide) rfl fl_11_41 rfl dX11_reach_93 ?_
                        refine z_iconst C dX11_reach_96 ?_
                        refine z_iload C 4 dX11_reach_97 rfl ?_
                        refine z_imul C dX11_reach_99 ?_
                        refine z_iconst C dX11_reach_100 ?_
                        refine z_iadd C dX11_reach_101 ?_
                        refine z_iald C 10 (by decide) rfl (by decide) (by omega) (by omega) dX11_reach_102 ?_
                        have rx23 := Ha_places (((3 * i4) + 2) : Int).toNat
                        generalize ex23 : a_places (((3 * i4) + 2) : Int).toNat = x23 at rx23 ⊢
                        refine z_iloadn C 3 dX11_reach_103 rfl rfl ?_
                        refine z_icmp_ne (t := 110) C dX11_reach_104 (by decide) (by omega) (by omega) (fun c24 => ?_) (fun c24 => ?_)
                        · skip
                          refine z_iinc (L' := [(4, z_v (i4 + 1)), (0, .ref (ad 0)), (1, z_v a), (2, z_v b), (3, z_v c0)]) C 4 dX11_reach_110 rfl (by decide) rfl ?_
                          refine z_goto (t := 43) C dX11_reach_113 (by decide) ?_
                          refine z_loc (L' := [(0, .ref (ad 0)), (1, z_v a), (2, z_v b), (3, z_v c0), (4, z_v (i4 + 1))]) [1, 2, 3, 4, 0] rfl ?_
                          exact ih43 (i4 + 1) (z_snoc NF (by omega)) (by omega) (by omega)
                        · skip
                          refine z_iload C 4 dX11_reach_107 rfl ?_
                          rw [hQ]
                          exact z_iret C hrt dX11_reach_109 (⟨rfl, rfl, _, rfl, Or.inr (Or.inr ⟨by omega, by omega, Or.inr ⟨by omega, by omega, NF⟩⟩)⟩) (by omega) (by omega)
                    · skip
                      refine z_aloadn C 0 dX11_reach_73 rfl rfl ?_
                      refine z_get C 0 (by decide) rfl rfl z_it11 13 (by decide) rfl fl_11_41 rfl dX11_reach_74 ?_
                      refine z_iconst C dX11_reach_77 ?_
                      refine z_iload C 4 dX11_reach_78 rfl ?_
                      refine z_imul C dX11_reach_80 ?_
                      refine z_iconst C dX11_reach_81 ?_
                      refine z_iadd C dX11_reach_82 ?_
                      refine z_iald C 10 (by decide) rfl (by decide) (by omega) (by omega) dX11_reach_83 ?_
                      have rx25 := Ha_places (((3 * i4) + 1) : Int).toNat
                      generalize ex25 : a_places (((3 * i4) + 1) : Int).toNat = x25 at rx25 ⊢
                      refine z_iloadn C 2 dX11_reach_84 rfl rfl ?_
                      refine z_icmp_ne (t := 110) C dX11_reach_85 (by decide) (by omega) (by omega) (fun c26 => ?_) (fun c26 => ?_)
                      · skip
                        refine z_iinc (L' := [(4, z_v (i4 + 1)), (0, .ref (ad 0)), (1, z_v a), (2, z_v b), (3, z_v c0)]) C 4 dX11_reach_110 rfl (by decide) rfl ?_
                        refine z_goto (t := 43) C dX11_reach_113 (by decide) ?_
                        refine z_loc (L' := [(0, .ref (ad 0)), (1, z_v a), (2, z_v b), (3, z_v c0), (4, z_v (i4 + 1))]) [1, 2, 3, 4, 0] rfl ?_
                        exact ih43 (i4 + 1) (z_snoc NF (by omega)) (by omega) (by omega)
                      · skip
                        refine z_iloadn C 3 dX11_reach_88 rfl rfl ?_
                        refine z_if_lt (t := 107) C dX11_reach_89 (by decide) (by omega) (fun c27 => ?_) (fun c27 => ?_)
                        · skip
                          refine z_iload C 4 dX11_reach_107 rfl ?_
                          rw [hQ]
                          exact z_iret C hrt dX11_reach_109 (⟨rfl, rfl, _, rfl, Or.inr (Or.inr ⟨by omega, by omega, Or.inr ⟨by omega, by omega, NF⟩⟩)⟩) (by omega) (by omega)
                        · skip
                          refine z_aloadn C 0 dX11_reach_92 rfl rfl ?_
                          refine z_get C 0 (by decide) rfl rfl z_it11 13 (by decide) rfl fl_11_41 rfl dX11_reach_93 ?_
                          refine z_iconst C dX11_reach_96 ?_
                          refine z_iload C 4 dX11_reach_97 rfl ?_
                          refine z_imul C dX11_reach_99 ?_
                          refine z_iconst C dX11_reach_100 ?_
                          refine z_iadd C dX11_reach_101 ?_
                          refine z_iald C 10 (by decide) rfl (by decide) (by omega) (by omega) dX11_reach_102 ?_
                          have rx28 := Ha_places (((3 * i4) + 2) : Int).toNat
                          generalize ex28 : a_places (((3 * i4) + 2) : Int).toNat = x28 at rx28 ⊢
                          refine z_iloadn C 3 dX11_reach_103 rfl rfl ?_
                          refine z_icmp_ne (t := 110) C dX11_reach_104 (by decide) (by omega) (by omega) (fun c29 => ?_) (fun c29 => ?_)
                          · skip
                            refine z_iinc (L' := [(4, z_v (i4 + 1)), (0, .ref (ad 0)), (1, z_v a), (2, z_v b), (3, z_v c0)]) C 4 dX11_reach_110 rfl (by decide) rfl ?_
                            refine z_goto (t := 43) C dX11_reach_113 (by decide) ?_
                            refine z_loc (L' := [(0, .ref (ad 0)), (1, z_v a), (2, z_v b), (3, z_v c0), (4, z_v (i4 + 1))]) [1, 2, 3, 4, 0] rfl ?_
                            exact ih43 (i4 + 1) (z_snoc NF (by omega)) (by omega) (by omega)
                          · skip
                            refine z_iload C 4 dX11_reach_107 rfl ?_
                            rw [hQ]
                            exact z_iret C hrt dX11_reach_109 (⟨rfl, rfl, _, rfl, Or.inr (Or.inr ⟨by omega, by omega, Or.inr ⟨by omega, by omega, NF⟩⟩)⟩) (by omega) (by omega)
          refine z_loc (L' := [(0, .ref (ad 0)), (1, z_v a), (2, z_v b), (3, z_v c0), (4, z_v 0)]) [1, 2, 3, 4, 0] rfl ?_
          exact (L43 (((s_states : Int) - 0).toNat + 1)) 0 (z_vac) (by omega) (Nat.lt_succ_self _)
        · skip
          refine z_bipush C dX11_reach_37 (by decide) ?_
          rw [hQ]
          exact z_iret C hrt dX11_reach_39 (⟨rfl, rfl, _, rfl, Or.inr (Or.inl ⟨by omega, by omega, rfl⟩)⟩) (by omega) (by omega)
  · skip
    refine z_bipush C dX11_reach_7 (by decide) ?_
    rw [hQ]
    exact z_iret C hrt dX11_reach_9 (⟨rfl, rfl, _, rfl, Or.inl ⟨by omega, rfl⟩⟩) (by omega) (by omega)
set_option maxRecDepth 20000 in
theorem cx_X11_holds (l : Launch) {D : va_G} {A : Nat → Prop} {ad : Nat → Nat} {ks : z_Ks} {s_edges s_isNeeded s_explored s_states s_isMoved s_runs s_runTime s_runMoves : Int} {w_h : Int64} {a_machine a_from a_to a_channel a_resets a_guards a_guardOf a_limits a_limitOf a_places a_zones a_parent a_moveE a_moveF a_moves a_z a_ahead a_at a_amounts a_way a_moments a_runAt a_runClock : Nat → Int} {Y : Nat → Option va_E} (i0 : Int) (Ha_zones : (∀ j, z_rg (a_zones j))) (Ha_amounts : (∀ j, 0 ≤ a_amounts j ∧ a_amounts j ≤ 1064000)) (hi : 0 ≤ i0 ∧ i0 ≤ 119) (hzr : ∀ k, k < 16 → -40000 ≤ a_zones (16 * i0.toNat + k) ∧ a_zones (16 * i0.toNat + k) ≤ 100000) : z_Met l yX11_holds cX11_holds 7 (some .boolean) 0 0 0 0 D A 24 ad ks [.ref (ad 0), z_v i0] (z_zm ad ks s_edges s_isNeeded s_explored s_states s_isMoved s_runs s_runTime s_runMoves w_h a_machine a_from a_to a_channel a_resets a_guards a_guardOf a_limits a_limitOf a_places a_zones a_parent a_moveE a_moveF a_moves a_z a_ahead a_at a_amounts a_way a_moments a_runAt a_runClock) Y (fun r S' Y' => S' = (z_zm ad ks s_edges s_isNeeded s_explored s_states s_isMoved s_runs s_runTime s_runMoves w_h a_machine a_from a_to a_channel a_resets a_guards a_guardOf a_limits a_limitOf a_places a_zones a_parent a_moveE a_moveF a_moves a_z a_ahead a_at a_amounts a_way a_moments a_runAt a_runClock) ∧ Y = Y' ∧ ∃ z : Int, r = some (z_v z) ∧ (z = 1 ∧ (z_ho a_zones i0 a_amounts) ∨ z = 0 ∧ ¬ (z_ho a_zones i0 a_amounts))) := by
  refine z_start2 (by decide) (Nat.le_of_ble_eq_true rfl) ?_
  intro p e R s m args below meth c Q C hRf hRc hRs hRl hQ hrt hnm
  refine z_loc (L' := [(0, .ref (ad 0)), (1, z_v i0)]) [0, 1] rfl ?_
  refine z_iconst C dX11_holds_0 ?_
  refine z_istoren (L' := [(2, z_v 1), (0, .ref (ad 0)), (1, z_v i0)]) C dX11_holds_1 rfl (by decide) rfl ?_
  refine z_iconst C dX11_holds_2 ?_
  refine z_istoren (L' := [(3, z_v 0), (2, z_v 1), (0, .ref (ad 0)), (1, z_v i0)]) C dX11_holds_3 rfl (by decide) rfl ?_
  have L4 : ∀ (n : Nat), ∀ (i2 : Int) (i3 : Int), (z_K3 i2 (∀ x : Int, 0 ≤ x → x < i3 → ∀ y : Int, 0 ≤ y → y < 4 → z_hb (a_amounts x.toNat - a_amounts y.toNat) (a_zones (16 * i0 + 4 * x + y).toNat)) (z_ho a_zones i0 a_amounts)) → (0 ≤ i3 ∧ i3 ≤ 4) → (i2 = 0 ∨ i2 = 1) → ((4 : Int) - i3).toNat < n → z_V p l e R s m args below meth c Q D A 24 ad 7 (z_zm ad ks s_edges s_isNeeded s_explored s_states s_isMoved s_runs s_runTime s_runMoves w_h a_machine a_from a_to a_channel a_resets a_guards a_guardOf a_limits a_limitOf a_places a_zones a_parent a_moveE a_moveF a_moves a_z a_ahead a_at a_amounts a_way a_moments a_runAt a_runClock) Y 0 0 4 [(0, .ref (ad 0)), (1, z_v i0), (2, z_v i2), (3, z_v i3)] [] := by
    intro n
    induction n with
    | zero => intro i2 i3 K I3 B2 hm; exact absurd hm (Nat.not_lt_zero _)
    | succ n ih4 =>
      intro i2 i3 K I3 B2 hm
      refine z_iloadn C 3 dX11_holds_4 rfl rfl ?_
      refine z_iconst C dX11_holds_5 ?_
      refine z_icmp_ge (t := 107) C dX11_holds_6 (by decide) (by omega) (by omega) (fun c1 => ?_) (fun c1 => ?_)
      · skip
        refine z_iloadn C 2 dX11_holds_107 rfl rfl ?_
        rw [hQ]
        exact z_zret C hrt (by omega) dX11_holds_108 (⟨rfl, rfl, _, rfl, K.fin (fun a x y x0 x1 y0 y1 => a x x0 (by omega) y y0 y1)⟩) (by omega) (by omega)
      · skip
        refine z_iconst C dX11_holds_9 ?_
        refine z_istore (L' := [(4, z_v 0), (0, .ref (ad 0)), (1, z_v i0), (2, z_v i2), (3, z_v i3)]) C dX11_holds_10 (by decide) rfl ?_
        have L12 : ∀ (n : Nat), ∀ (i2 : Int) (i4 : Int), (z_K3 i2 ((∀ x : Int, 0 ≤ x → x < i3 → ∀ y : Int, 0 ≤ y → y < 4 → z_hb (a_amounts x.toNat - a_amounts y.toNat) (a_zones (16 * i0 + 4 * x + y).toNat)) ∧ (∀ y : Int, 0 ≤ y → y < i4 → z_hb (a_amounts (i3 : Int).toNat - a_amounts y.toNat) (a_zones (16 * i0 + 4 * i3 + y).toNat))) (z_ho a_zones i0 a_amounts)) → (0 ≤ i4 ∧ i4 ≤ 4) → (i2 = 0 ∨ i2 = 1) → ((4 : Int) - i4).toNat < n → z_V p l e R s m args below meth c Q D A 24 ad 7 (z_zm ad ks s_edges s_isNeeded s_explored s_states s_isMoved s_runs s_runTime s_runMoves w_h a_machine a_from a_to a_channel a_resets a_guards a_guardOf a_limits a_limitOf a_places a_zones a_parent a_moveE a_moveF a_moves a_z a_ahead a_at a_amounts a_way a_moments a_runAt a_runClock) Y 0 0 12 [(0, .ref (ad 0)), (1, z_v i0), (2, z_v i2), (3, z_v i3), (4, z_v i4)] [] := by
          intro n
          induction n with
          | zero => intro i2 i4 K I4 B2 hm; exact absurd hm (Nat.not_lt_zero _)
          | succ n ih12 =>
            intro i2 i4 K I4 B2 hm
            refine z_iload C 4 dX11_holds_12 rfl ?_
            refine z_iconst C dX11_holds_14 ?_
            refine z_icmp_ge (t := 101) C dX11_holds_15 (by decide) (by omega) (by omega) (fun c2 => ?_) (fun c2 => ?_)
            · skip
              refine z_iinc (L' := [(3, z_v (i3 + 1)), (0, .ref (ad 0)), (1, z_v i0), (2, z_v i2), (4, z_v i4)]) C 3 dX11_holds_101 rfl (by decide) rfl ?_
              refine z_goto (t := 4) C dX11_holds_104 (by decide) ?_
              refine z_loc (L' := [(0, .ref (ad 0)), (1, z_v i0), (2, z_v i2), (3, z_v (i3 + 1))]) [1, 2, 3, 0] rfl ?_
              exact ih4 i2 (i3 + 1) (K.mono (fun a => z_snoc a.1 (fun y h0 h1 => a.2 y h0 (by omega)))) (by omega) (by omega) (by omega)
            · skip
              refine z_aloadn C 0 dX11_holds_18 rfl rfl ?_
              refine z_get C 0 (by decide) rfl rfl z_it11 14 (by decide) rfl fl_11_44 rfl dX11_holds_19 ?_
              refine z_bipush C dX11_holds_22 (by decide) ?_
              refine z_iloadn C 1 dX11_holds_24 rfl rfl ?_
              refine z_imul C dX11_holds_25 ?_
              refine z_iconst C dX11_holds_26 ?_
              refine z_iloadn C 3 dX11_holds_27 rfl rfl ?_
              refine z_imul C dX11_holds_28 ?_
              refine z_iadd C dX11_holds_29 ?_
              refine z_iload C 4 dX11_holds_30 rfl ?_
              refine z_iadd C dX11_holds_32 ?_
              refine z_iald C 11 (by decide) rfl (by decide) (by omega) (by omega) dX11_holds_33 ?_
              have rx3 := Ha_zones ((((16 * i0) + (4 * i3)) + i4) : Int).toNat
              generalize ex3 : a_zones ((((16 * i0) + (4 * i3)) + i4) : Int).toNat = x3 at rx3 ⊢
              have lx3 := hzr (4 * i3 + i4 : Int).toNat (by omega)
              rw [show 16 * i0.toNat + (4 * i3 + i4 : Int).toNat = (16 * i0 + 4 * i3 + i4 : Int).toNat by omega] at lx3
              refine z_istore (L' := [(5, z_v x3), (0, .ref (ad 0)), (1, z_v i0), (2, z_v i2), (3, z_v i3), (4, z_v i4)]) C dX11_holds_34 (by decide) rfl ?_
              refine z_aloadn C 1 dX11_holds_36 rfl rfl ?_
              refine z_get C 0 (by decide) rfl rfl z_it11 22 (by decide) rfl fl_11_68 rfl dX11_holds_37 ?_
              refine z_iloadn C 4 dX11_holds_40 rfl rfl ?_
              refine z_iald C 19 (by decide) rfl (by decide) (by omega) (by omega) dX11_holds_41 ?_
              have rx4 := Ha_amounts (i3 : Int).toNat
              generalize ex4 : a_amounts (i3 : Int).toNat = x4 at rx4 ⊢
              refine z_aloadn C 1 dX11_holds_42 rfl rfl ?_
              refine z_get C 0 (by decide) rfl rfl z_it11 22 (by decide) rfl fl_11_68 rfl dX11_holds_43 ?_
              refine z_iload C 5 dX11_holds_46 rfl ?_
              refine z_iald C 19 (by decide) rfl (by decide) (by omega) (by omega) dX11_holds_48 ?_
              have rx5 := Ha_amounts (i4 : Int).toNat
              generalize ex5 : a_amounts (i4 : Int).toNat = x5 at rx5 ⊢
              refine z_isub C dX11_holds_49 ?_
              refine z_bipush C dX11_holds_50 (by decide) ?_
              refine z_iload C 0 dX11_holds_52 rfl ?_
              refine z_iconst C dX11_holds_54 ?_
              obtain ⟨b6, hb6, rb6⟩ := z_bits (z_i x3 >>> (z_i 1 &&& 31))
              refine z_ishr C hb6 dX11_holds_55 ?_
              have qb6 := z_bitsE hb6 rb6
              have hs55 : b6 = x3 / 2 := by rw [← qb6]; exact zo_shr (by omega)
              refine z_imul C dX11_holds_56 ?_
              refine z_isub C dX11_holds_57 ?_
              refine z_istore (L' := [(6, z_v ((x4 - x5) - (64 * b6))), (5, z_v x3), (0, .ref (ad 0)), (1, z_v i0), (2, z_v i2), (3, z_v i3), (4, z_v i4)]) C dX11_holds_58 (by decide) rfl ?_
              refine z_iloadn C 4 dX11_holds_60 rfl rfl ?_
              refine z_if_eq (t := 93) C dX11_holds_61 (by decide) (by omega) (fun c7 => ?_) (fun c7 => ?_)
              · skip
                refine z_iconst C dX11_holds_93 ?_
                refine z_istoren (L' := [(2, z_v 0), (6, z_v ((x4 - x5) - (64 * b6))), (5, z_v x3), (0, .ref (ad 0)), (1, z_v i0), (3, z_v i3), (4, z_v i4)]) C dX11_holds_94 rfl (by decide) rfl ?_
                refine z_iinc (L' := [(4, z_v (i4 + 1)), (2, z_v 0), (6, z_v ((x4 - x5) - (64 * b6))), (5, z_v x3), (0, .ref (ad 0)), (1, z_v i0), (3, z_v i3)]) C 6 dX11_holds_95 rfl (by decide) rfl ?_
                refine z_goto (t := 12) C dX11_holds_98 (by decide) ?_
                refine z_loc (L' := [(0, .ref (ad 0)), (1, z_v i0), (2, z_v 0), (3, z_v i3), (4, z_v (i4 + 1))]) [4, 5, 1, 6, 0] rfl ?_
                exact ih12 0 (i4 + 1) (by first | exact K.one (by omega) (fun a => ⟨a.1, z_snoc a.2 (by omega)⟩) | exact K.zero (Or.inl (by omega)) | exact K.zero (Or.inr (fun L => absurd (L i3 i4 (by omega) (by omega) (by omega) (by omega)) (by omega)))) (by omega) (by omega) (by omega)
              · skip
                refine z_iload C 1 dX11_holds_64 rfl ?_
                refine z_ldc (n := 100000) C kc_11_113 (by decide) dX11_holds_66 ?_
                refine z_icmp_eq (t := 89) C dX11_holds_68 (by decide) (by omega) (by omega) (fun c8 => ?_) (fun c8 => ?_)
                · skip
                  refine z_iconst C dX11_holds_89 ?_
                  refine z_goto (t := 94) C dX11_holds_90 (by decide) ?_
                  refine z_istoren (L' := [(2, z_v 1), (6, z_v ((x4 - x5) - (64 * b6))), (5, z_v x3), (0, .ref (ad 0)), (1, z_v i0), (3, z_v i3), (4, z_v i4)]) C dX11_holds_94 rfl (by decide) rfl ?_
                  refine z_iinc (L' := [(4, z_v (i4 + 1)), (2, z_v 1), (6, z_v ((x4 - x5) - (64 * b6))), (5, z_v x3), (0, .ref (ad 0)), (1, z_v i0), (3, z_v i3)]) C 6 dX11_holds_95 rfl (by decide) rfl ?_
                  refine z_goto (t := 12) C dX11_holds_98 (by decide) ?_
                  refine z_loc (L' := [(0, .ref (ad 0)), (1, z_v i0), (2, z_v 1), (3, z_v i3), (4, z_v (i4 + 1))]) [4, 5, 1, 6, 0] rfl ?_
                  exact ih12 1 (i4 + 1) (by first | exact K.one (by omega) (fun a => ⟨a.1, z_snoc a.2 (by omega)⟩) | exact K.zero (Or.inl (by omega)) | exact K.zero (Or.inr (fun L => absurd (L i3 i4 (by omega) (by omega) (by omega) (by omega)) (by omega)))) (by omega) (by omega) (by omega)
                · skip
                  refine z_iload C 0 dX11_holds_71 rfl ?_
                  refine z_if_lt (t := 89) C dX11_holds_73 (by decide) (by omega) (fun c9 => ?_) (fun c9 => ?_)
                  · skip
                    refine z_iconst C dX11_holds_89 ?_
                    refine z_goto (t := 94) C dX11_holds_90 (by decide) ?_
                    refine z_istoren (L' := [(2, z_v 1), (6, z_v ((x4 - x5) - (64 * b6))), (5, z_v x3), (0, .ref (ad 0)), (1, z_v i0), (3, z_v i3), (4, z_v i4)]) C dX11_holds_94 rfl (by decide) rfl ?_
                    refine z_iinc (L' := [(4, z_v (i4 + 1)), (2, z_v 1), (6, z_v ((x4 - x5) - (64 * b6))), (5, z_v x3), (0, .ref (ad 0)), (1, z_v i0), (3, z_v i3)]) C 6 dX11_holds_95 rfl (by decide) rfl ?_
                    refine z_goto (t := 12) C dX11_holds_98 (by decide) ?_
                    refine z_loc (L' := [(0, .ref (ad 0)), (1, z_v i0), (2, z_v 1), (3, z_v i3), (4, z_v (i4 + 1))]) [4, 5, 1, 6, 0] rfl ?_
                    exact ih12 1 (i4 + 1) (by first | exact K.one (by omega) (fun a => ⟨a.1, z_snoc a.2 (by omega)⟩) | exact K.zero (Or.inl (by omega)) | exact K.zero (Or.inr (fun L => absurd (L i3 i4 (by omega) (by omega) (by omega) (by omega)) (by omega)))) (by omega) (by omega) (by omega)
                  · skip
                    refine z_iload C 0 dX11_holds_76 rfl ?_
                    refine z_if_ne (t := 93) C dX11_holds_78 (by decide) (by omega) (fun c10 => ?_) (fun c10 => ?_)
                    · skip
                      refine z_iconst C dX11_holds_93 ?_
                      refine z_istoren (L' := [(2, z_v 0), (6, z_v ((x4 - x5) - (64 * b6))), (5, z_v x3), (0, .ref (ad 0)), (1, z_v i0), (3, z_v i3), (4, z_v i4)]) C dX11_holds_94 rfl (by decide) rfl ?_
                      refine z_iinc (L' := [(4, z_v (i4 + 1)), (2, z_v 0), (6, z_v ((x4 - x5) - (64 * b6))), (5, z_v x3), (0, .ref (ad 0)), (1, z_v i0), (3, z_v i3)]) C 6 dX11_holds_95 rfl (by decide) rfl ?_
                      refine z_goto (t := 12) C dX11_holds_98 (by decide) ?_
                      refine z_loc (L' := [(0, .ref (ad 0)), (1, z_v i0), (2, z_v 0), (3, z_v i3), (4, z_v (i4 + 1))]) [4, 5, 1, 6, 0] rfl ?_
                      exact ih12 0 (i4 + 1) (by first | exact K.one (by omega) (fun a => ⟨a.1, z_snoc a.2 (by omega)⟩) | exact K.zero (Or.inl (by omega)) | exact K.zero (Or.inr (fun L => absurd (L i3 i4 (by omega) (by omega) (by omega) (by omega)) (by omega)))) (by omega) (by omega) (by omega)
                    · skip
                      refine z_iload C 1 dX11_holds_81 rfl ?_
                      refine z_iconst C dX11_holds_83 ?_
                      obtain ⟨b11, hb11, rb11⟩ := z_bits (z_i x3 &&& z_i 1)
                      refine z_iand C hb11 dX11_holds_84 ?_
                      have qb11 := z_bitsE hb11 rb11
                      have hs84 : b11 = x3 % 2 := by rw [← qb11]; exact zo_and1 (by omega)
                      refine z_iconst C dX11_holds_85 ?_
                      refine z_icmp_ne (t := 93) C dX11_holds_86 (by decide) (by omega) (by omega) (fun c12 => ?_) (fun c12 => ?_)
                      · skip
                        refine z_iconst C dX11_holds_93 ?_
                        refine z_istoren (L' := [(2, z_v 0), (6, z_v ((x4 - x5) - (64 * b6))), (5, z_v x3), (0, .ref (ad 0)), (1, z_v i0), (3, z_v i3), (4, z_v i4)]) C dX11_holds_94 rfl (by decide) rfl ?_
                        refine z_iinc (L' := [(4, z_v (i4 + 1)), (2, z_v 0), (6, z_v ((x4 - x5) - (64 * b6))), (5, z_v x3), (0, .ref (ad 0)), (1, z_v i0), (3, z_v i3)]) C 6 dX11_holds_95 rfl (by decide) rfl ?_
                        refine z_goto (t := 12) C dX11_holds_98 (by decide) ?_
                        refine z_loc (L' := [(0, .ref (ad 0)), (1, z_v i0), (2, z_v 0), (3, z_v i3), (4, z_v (i4 + 1))]) [4, 5, 1, 6, 0] rfl ?_
                        exact ih12 0 (i4 + 1) (by first | exact K.one (by omega) (fun a => ⟨a.1, z_snoc a.2 (by omega)⟩) | exact K.zero (Or.inl (by omega)) | exact K.zero (Or.inr (fun L => absurd (L i3 i4 (by omega) (by omega) (by omega) (by omega)) (by omega)))) (by omega) (by omega) (by omega)
                      · skip
                        refine z_iconst C dX11_holds_89 ?_
                        refine z_goto (t := 94) C dX11_holds_90 (by decide) ?_
                        refine z_istoren (L' := [(2, z_v 1), (6, z_v ((x4 - x5) - (64 * b6))), (5, z_v x3), (0, .ref (ad 0)), (1, z_v i0), (3, z_v i3), (4, z_v i4)]) C dX11_holds_94 rfl (by decide) rfl ?_
                        refine z_iinc (L' := [(4, z_v (i4 + 1)), (2, z_v 1), (6, z_v ((x4 - x5) - (64 * b6))), (5, z_v x3), (0, .ref (ad 0)), (1, z_v i0), (3, z_v i3)]) C 6 dX11_holds_95 rfl (by decide) rfl ?_
                        refine z_goto (t := 12) C dX11_holds_98 (by decide) ?_
                        refine z_loc (L' := [(0, .ref (ad 0)), (1, z_v i0), (2, z_v 1), (3, z_v i3), (4, z_v (i4 + 1))]) [4, 5, 1, 6, 0] rfl ?_
                        exact ih12 1 (i4 + 1) (by first | exact K.one (by omega) (fun a => ⟨a.1, z_snoc a.2 (by omega)⟩) | exact K.zero (Or.inl (by omega)) | exact K.zero (Or.inr (fun L => absurd (L i3 i4 (by omega) (by omega) (by omega) (by omega)) (by omega)))) (by omega) (by omega) (by omega)
        refine z_loc (L' := [(0, .ref (ad 0)), (1, z_v i0), (2, z_v i2), (3, z_v i3), (4, z_v 0)]) [1, 2, 3, 4, 0] rfl ?_
        exact (L12 (((4 : Int) - 0).toNat + 1)) i2 0 (K.mono (fun a => ⟨a, z_vac⟩)) (by omega) (by omega) (Nat.lt_succ_self _)
  refine z_loc (L' := [(0, .ref (ad 0)), (1, z_v i0), (2, z_v 1), (3, z_v 0)]) [2, 3, 1, 0] rfl ?_
  exact (L4 (((4 : Int) - 0).toNat + 1)) 1 0 (z_K3.ini (fun x h0 h1 => absurd h1 (by omega))) (by omega) (by omega) (Nat.lt_succ_self _)
set_option maxRecDepth 20000 in
theorem cx_X11_moveCount (l : Launch) {D : va_G} {A : Nat → Prop} {ad : Nat → Nat} {ks : z_Ks} {s_edges s_isNeeded s_explored s_states s_isMoved s_runs s_runTime s_runMoves : Int} {w_h : Int64} {a_machine a_from a_to a_channel a_resets a_guards a_guardOf a_limits a_limitOf a_places a_zones a_parent a_moveE a_moveF a_moves a_z a_ahead a_at a_amounts a_way a_moments a_runAt a_runClock : Nat → Int} {Y : Nat → Option va_E} {mf ms : Nat → Int} {mc : Int} (Hs_edges : (0 ≤ s_edges ∧ s_edges ≤ 20)) (Ha_channel : (∀ j, -4 ≤ a_channel j ∧ a_channel j ≤ 4)) (Ha_machine : (∀ j, 0 ≤ a_machine j ∧ a_machine j ≤ 2)) (HML : z_ml s_edges mc mf ms a_machine a_channel) (hmc : 0 ≤ mc ∧ mc ≤ 400) : z_Met l yX11_moveCount cX11_moveCount 4 (some .int) 1 22 0 0 D A 24 ad ks [.ref (ad 0)] (z_zm ad ks s_edges s_isNeeded s_explored s_states s_isMoved s_runs s_runTime s_runMoves w_h a_machine a_from a_to a_channel a_resets a_guards a_guardOf a_limits a_limitOf a_places a_zones a_parent a_moveE a_moveF a_moves a_z a_ahead a_at a_amounts a_way a_moments a_runAt a_runClock) Y (fun r S' Y' => S' = (z_zm ad ks s_edges s_isNeeded s_explored s_states s_isMoved s_runs s_runTime s_runMoves w_h a_machine a_from a_to a_channel a_resets a_guards a_guardOf a_limits a_limitOf a_places a_zones a_parent a_moveE a_moveF a_moves a_z a_ahead a_at a_amounts a_way a_moments a_runAt a_runClock) ∧ Y = Y' ∧ ∃ z : Int, r = some (z_v z) ∧ (z = mc)) := by
  refine z_start2 (by decide) (Nat.le_of_ble_eq_true rfl) ?_
  intro p e R s m args below meth c Q C hRf hRc hRs hRl hQ hrt hnm
  refine z_loc (L' := [(0, .ref (ad 0))]) [0] rfl ?_
  refine z_iconst C dX11_moveCount_0 ?_
  refine z_istoren (L' := [(1, z_v 0), (0, .ref (ad 0))]) C dX11_moveCount_1 rfl (by decide) rfl ?_
  refine z_iconst C dX11_moveCount_2 ?_
  refine z_istoren (L' := [(2, z_v 0), (1, z_v 0), (0, .ref (ad 0))]) C dX11_moveCount_3 rfl (by decide) rfl ?_
  have L4 : ∀ (n : Nat), ∀ (i1 : Int) (i2 : Int), (zo_pos mc mf ms i1 i2 (-1)) → (0 ≤ i2 ∧ i2 ≤ 20) → ((20 : Int) - i2).toNat < n → z_V p l e R s m args below meth c Q D A 24 ad 4 (z_zm ad ks s_edges s_isNeeded s_explored s_states s_isMoved s_runs s_runTime s_runMoves w_h a_machine a_from a_to a_channel a_resets a_guards a_guardOf a_limits a_limitOf a_places a_zones a_parent a_moveE a_moveF a_moves a_z a_ahead a_at a_amounts a_way a_moments a_runAt a_runClock) Y 0 0 4 [(0, .ref (ad 0)), (1, z_v i1), (2, z_v i2)] [] := by
    intro n
    induction n with
    | zero => intro i1 i2 KP I2 hm; exact absurd hm (Nat.not_lt_zero _)
    | succ n ih4 =>
      intro i1 i2 KP I2 hm
      refine z_iloadn C 2 dX11_moveCount_4 rfl rfl ?_
      refine z_aloadn C 0 dX11_moveCount_5 rfl rfl ?_
      refine z_get C 0 (by decide) rfl rfl z_it11 0 (by decide) rfl fl_11_90 rfl dX11_moveCount_6 ?_
      refine z_icmp_ge (t := 51) C dX11_moveCount_9 (by decide) (by omega) (by omega) (fun c1 => ?_) (fun c1 => ?_)
      · skip
        refine z_iloadn C 1 dX11_moveCount_51 rfl rfl ?_
        rw [hQ]
        exact z_iret C hrt dX11_moveCount_52 (⟨rfl, rfl, _, rfl, zo_pos.all HML KP (by omega)⟩) (by omega) (by omega)
      · skip
        refine z_iconst C dX11_moveCount_12 ?_
        refine z_istoren (L' := [(3, z_v (-1)), (0, .ref (ad 0)), (1, z_v i1), (2, z_v i2)]) C dX11_moveCount_13 rfl (by decide) rfl ?_
        have L14 : ∀ (n : Nat), ∀ (i1 : Int) (i3 : Int), (zo_pos mc mf ms i1 i2 i3) → (-1 ≤ i3 ∧ i3 ≤ 20) → ((20 : Int) - i3).toNat < n → z_V p l e R s m args below meth c Q D A 24 ad 4 (z_zm ad ks s_edges s_isNeeded s_explored s_states s_isMoved s_runs s_runTime s_runMoves w_h a_machine a_from a_to a_channel a_resets a_guards a_guardOf a_limits a_limitOf a_places a_zones a_parent a_moveE a_moveF a_moves a_z a_ahead a_at a_amounts a_way a_moments a_runAt a_runClock) Y 0 0 14 [(0, .ref (ad 0)), (1, z_v i1), (2, z_v i2), (3, z_v i3)] [] := by
          intro n
          induction n with
          | zero => intro i1 i3 KP I3 hm; exact absurd hm (Nat.not_lt_zero _)
          | succ n ih14 =>
            intro i1 i3 KP I3 hm
            refine z_iloadn C 3 dX11_moveCount_14 rfl rfl ?_
            refine z_aloadn C 0 dX11_moveCount_15 rfl rfl ?_
            refine z_get C 0 (by decide) rfl rfl z_it11 0 (by decide) rfl fl_11_90 rfl dX11_moveCount_16 ?_
            refine z_icmp_ge (t := 45) C dX11_moveCount_19 (by decide) (by omega) (by omega) (fun c2 => ?_) (fun c2 => ?_)
            · skip
              refine z_iinc (L' := [(2, z_v (i2 + 1)), (0, .ref (ad 0)), (1, z_v i1), (3, z_v i3)]) C 2 dX11_moveCount_45 rfl (by decide) rfl ?_
              refine z_goto (t := 4) C dX11_moveCount_48 (by decide) ?_
              refine z_loc (L' := [(0, .ref (ad 0)), (1, z_v i1), (2, z_v (i2 + 1))]) [1, 2, 0] rfl ?_
              exact ih4 i1 (i2 + 1) (zo_pos.row HML KP (by omega)) (by omega) (by omega)
            · skip
              refine z_iloadn C 1 dX11_moveCount_22 rfl rfl ?_
              refine z_aloadn C 0 dX11_moveCount_23 rfl rfl ?_
              refine z_iloadn C 2 dX11_moveCount_24 rfl rfl ?_
              refine z_iloadn C 3 dX11_moveCount_25 rfl rfl ?_
              refine z_callV C (cx_X11_isMove l i2 i3 Ha_channel Ha_machine (by omega) (by omega)) mv_11_155 (z_atS 0 11 (by decide) rfl rfl rfl) pd_X11_isMove ⟨by omega, by omega⟩ ⟨by omega, by omega⟩ rfl (Nat.le_of_ble_eq_true rfl) dX11_moveCount_26 ?_
              rintro _ _ _ ⟨rfl, rfl, z5, rfl, hz5⟩
              have hM := hz5
              refine z_if_eq (t := 36) C dX11_moveCount_29 (by decide) (by omega) (fun c6 => ?_) (fun c6 => ?_)
              · skip
                refine z_iconst C dX11_moveCount_36 ?_
                refine z_iadd C dX11_moveCount_37 ?_
                refine z_istoren (L' := [(1, z_v (i1 + 0)), (0, .ref (ad 0)), (2, z_v i2), (3, z_v i3)]) C dX11_moveCount_38 rfl (by decide) rfl ?_
                refine z_iinc (L' := [(3, z_v (i3 + 1)), (1, z_v (i1 + 0)), (0, .ref (ad 0)), (2, z_v i2)]) C 3 dX11_moveCount_39 rfl (by decide) rfl ?_
                refine z_goto (t := 14) C dX11_moveCount_42 (by decide) ?_
                refine z_loc (L' := [(0, .ref (ad 0)), (1, z_v (i1 + 0)), (2, z_v i2), (3, z_v (i3 + 1))]) [2, 1, 3, 0] rfl ?_
                exact ih14 (i1 + 0) (i3 + 1) (by first | exact (zo_pos.yes HML KP (by omega) (z_isz1 hM (by omega))).2.2.2 | (rw [Int.add_zero]; exact zo_pos.no HML KP (z_isz0 hM (by omega)))) (by omega) (by omega)
              · skip
                refine z_iconst C dX11_moveCount_32 ?_
                refine z_goto (t := 37) C dX11_moveCount_33 (by decide) ?_
                refine z_iadd C dX11_moveCount_37 ?_
                refine z_istoren (L' := [(1, z_v (i1 + 1)), (0, .ref (ad 0)), (2, z_v i2), (3, z_v i3)]) C dX11_moveCount_38 rfl (by decide) rfl ?_
                refine z_iinc (L' := [(3, z_v (i3 + 1)), (1, z_v (i1 + 1)), (0, .ref (ad 0)), (2, z_v i2)]) C 3 dX11_moveCount_39 rfl (by decide) rfl ?_
                refine z_goto (t := 14) C dX11_moveCount_42 (by decide) ?_
                refine z_loc (L' := [(0, .ref (ad 0)), (1, z_v (i1 + 1)), (2, z_v i2), (3, z_v (i3 + 1))]) [2, 1, 3, 0] rfl ?_
                exact ih14 (i1 + 1) (i3 + 1) (by first | exact (zo_pos.yes HML KP (by omega) (z_isz1 hM (by omega))).2.2.2 | (rw [Int.add_zero]; exact zo_pos.no HML KP (z_isz0 hM (by omega)))) (by omega) (by omega)
        refine z_loc (L' := [(0, .ref (ad 0)), (1, z_v i1), (2, z_v i2), (3, z_v (-1))]) [1, 2, 3, 0] rfl ?_
        exact (L14 (((20 : Int) - (-1)).toNat + 1)) i1 (-1) (KP) (by omega) (Nat.lt_succ_self _)
  refine z_loc (L' := [(0, .ref (ad 0)), (1, z_v 0), (2, z_v 0)]) [2, 1, 0] rfl ?_
  exact (L4 (((20 : Int) - 0).toNat + 1)) 0 0 (zo_pos.ini HML (by omega)) (by omega) (Nat.lt_succ_self _)
set_option maxRecDepth 20000 in
theorem cx_X11_has (l : Launch) {D : va_G} {A : Nat → Prop} {ad : Nat → Nat} {ks : z_Ks} {s_edges s_isNeeded s_explored s_states s_isMoved s_runs s_runTime s_runMoves : Int} {w_h : Int64} {a_machine a_from a_to a_channel a_resets a_guards a_guardOf a_limits a_limitOf a_places a_zones a_parent a_moveE a_moveF a_moves a_z a_ahead a_at a_amounts a_way a_moments a_runAt a_runClock : Nat → Int} {Y : Nat → Option va_E} (i0 a b c0 : Int) (Hs_isNeeded : (s_isNeeded = 0 ∨ s_isNeeded = 1)) (Hs_states : (0 ≤ s_states ∧ s_states ≤ 120)) (Ha_zones : (∀ j, z_rg (a_zones j))) (Ha_amounts : (∀ j, 0 ≤ a_amounts j ∧ a_amounts j ≤ 1064000)) (hi : z_rg i0) (ha : z_rg a) (hb : z_rg b) (hc : z_rg c0) (hsz : s_isNeeded = 0 → ∀ i : Nat, (i : Int) < s_states → ∀ k, k < 16 → -40000 ≤ a_zones (16 * i + k) ∧ a_zones (16 * i + k) ≤ 100000) : z_Met l yX11_has cX11_has 5 (some .int) 2 43 0 0 D A 24 ad ks [.ref (ad 0), z_v i0, z_v a, z_v b, z_v c0] (z_zm ad ks s_edges s_isNeeded s_explored s_states s_isMoved s_runs s_runTime s_runMoves w_h a_machine a_from a_to a_channel a_resets a_guards a_guardOf a_limits a_limitOf a_places a_zones a_parent a_moveE a_moveF a_moves a_z a_ahead a_at a_amounts a_way a_moments a_runAt a_runClock) Y (fun r S' Y' => ∃ na_amounts : Nat → Int, S' = (z_zm ad ks s_edges s_isNeeded s_explored s_states s_isMoved s_runs s_runTime s_runMoves w_h a_machine a_from a_to a_channel a_resets a_guards a_guardOf a_limits a_limitOf a_places a_zones a_parent a_moveE a_moveF a_moves a_z a_ahead a_at na_amounts a_way a_moments a_runAt a_runClock) ∧ Y = Y' ∧ (∀ j, 0 ≤ na_amounts j ∧ na_amounts j ≤ 1064000) ∧ ∃ z : Int, r = some (z_v z) ∧ (z_hsA i0 a b c0 s_isNeeded s_states (z_ho a_zones i0 (fun x => if x = 0 then 0 else if x = 1 then a else if x = 2 then b else c0)) z)) := by
  refine z_start2 (by decide) (Nat.le_of_ble_eq_true rfl) ?_
  intro p e R s m args below meth c Q C hRf hRc hRs hRl hQ hrt hnm
  refine z_loc (L' := [(0, .ref (ad 0)), (1, z_v i0), (2, z_v a), (3, z_v b), (4, z_v c0)]) [0, 1, 2, 3, 4] rfl ?_
  refine z_aloadn C 0 dX11_has_0 rfl rfl ?_
  refine z_get C 0 (by decide) rfl rfl z_it11 10 (by decide) rfl fl_11_37 rfl dX11_has_1 ?_
  refine z_if_eq (t := 10) C dX11_has_4 (by decide) (by omega) (fun c1 => ?_) (fun c1 => ?_)
  · skip
    refine z_aloadn C 0 dX11_has_10 rfl rfl ?_
    refine z_iloadn C 1 dX11_has_11 rfl rfl ?_
    refine z_callV C (cm_X11_isState l i0 (by omega) (by omega)) mv_11_165 (z_atS 0 11 (by decide) rfl rfl rfl) pd_X11_isState ⟨by omega, by omega⟩ ⟨by omega, by omega⟩ rfl (Nat.le_of_ble_eq_true rfl) dX11_has_12 ?_
    rintro _ _ _ ⟨rfl, rfl, z2, rfl, hz2⟩
    refine z_if_ne (t := 21) C dX11_has_15 (by decide) (by omega) (fun c3 => ?_) (fun c3 => ?_)
    · skip
      refine z_iloadn C 2 dX11_has_21 rfl rfl ?_
      refine z_iconst C dX11_has_22 ?_
      refine z_ldc (n := 1000000) C kc_11_173 (by decide) dX11_has_23 ?_
      refine z_callS C (cm_X11_in l a 0 1000000 (by omega) (by omega) (by omega)) mv_11_86 pd_X11_in ⟨by omega, by omega⟩ ⟨by omega, by omega⟩ rfl (Nat.le_of_ble_eq_true rfl) dX11_has_25 ?_
      rintro _ _ _ ⟨rfl, rfl, z4, rfl, hz4⟩
      refine z_if_eq (t := 52) C dX11_has_28 (by decide) (by omega) (fun c5 => ?_) (fun c5 => ?_)
      · skip
        refine z_bipush C dX11_has_52 (by decide) ?_
        rw [hQ]
        exact z_iret C hrt dX11_has_54 (⟨a_amounts, rfl, rfl, Ha_amounts, _, rfl, Or.inr (Or.inr (Or.inl ⟨by omega, by omega, rfl⟩))⟩) (by omega) (by omega)
      · skip
        refine z_iloadn C 3 dX11_has_31 rfl rfl ?_
        refine z_iconst C dX11_has_32 ?_
        refine z_ldc (n := 1000000) C kc_11_173 (by decide) dX11_has_33 ?_
        refine z_callS C (cm_X11_in l b 0 1000000 (by omega) (by omega) (by omega)) mv_11_86 pd_X11_in ⟨by omega, by omega⟩ ⟨by omega, by omega⟩ rfl (Nat.le_of_ble_eq_true rfl) dX11_has_35 ?_
        rintro _ _ _ ⟨rfl, rfl, z6, rfl, hz6⟩
        refine z_if_eq (t := 52) C dX11_has_38 (by decide) (by omega) (fun c7 => ?_) (fun c7 => ?_)
        · skip
          refine z_bipush C dX11_has_52 (by decide) ?_
          rw [hQ]
          exact z_iret C hrt dX11_has_54 (⟨a_amounts, rfl, rfl, Ha_amounts, _, rfl, Or.inr (Or.inr (Or.inl ⟨by omega, by omega, rfl⟩))⟩) (by omega) (by omega)
        · skip
          refine z_iload C 4 dX11_has_41 rfl ?_
          refine z_iconst C dX11_has_43 ?_
          refine z_ldc (n := 1000000) C kc_11_173 (by decide) dX11_has_44 ?_
          refine z_callS C (cm_X11_in l c0 0 1000000 (by omega) (by omega) (by omega)) mv_11_86 pd_X11_in ⟨by omega, by omega⟩ ⟨by omega, by omega⟩ rfl (Nat.le_of_ble_eq_true rfl) dX11_has_46 ?_
          rintro _ _ _ ⟨rfl, rfl, z8, rfl, hz8⟩
          refine z_if_ne (t := 55) C dX11_has_49 (by decide) (by omega) (fun c9 => ?_) (fun c9 => ?_)
          · skip
            refine z_aloadn C 0 dX11_has_55 rfl rfl ?_
            refine z_get C 0 (by decide) rfl rfl z_it11 22 (by decide) rfl fl_11_68 rfl dX11_has_56 ?_
            refine z_iconst C dX11_has_59 ?_
            refine z_iconst C dX11_has_60 ?_
            refine z_iast C 19 (by decide) rfl (by decide) (by omega) (by omega) dX11_has_61 ?_
            refine z_ext (S' := (z_zm ad ks s_edges s_isNeeded s_explored s_states s_isMoved s_runs s_runTime s_runMoves w_h a_machine a_from a_to a_channel a_resets a_guards a_guardOf a_limits a_limitOf a_places a_zones a_parent a_moveE a_moveF a_moves a_z a_ahead a_at (va_up a_amounts (0 : Int).toNat 0) a_way a_moments a_runAt a_runClock)) upM_a_amounts ?_
            have h10 : ∀ j, 0 ≤ (va_up a_amounts (0 : Int).toNat 0) j ∧ (va_up a_amounts (0 : Int).toNat 0) j ≤ 1064000 := z_upP (P := fun j v => 0 ≤ v ∧ v ≤ 1064000) Ha_amounts (by omega)
            refine z_aloadn C 0 dX11_has_62 rfl rfl ?_
            refine z_get C 0 (by decide) rfl rfl z_it11 22 (by decide) rfl fl_11_68 rfl dX11_has_63 ?_
            refine z_iconst C dX11_has_66 ?_
            refine z_iloadn C 2 dX11_has_67 rfl rfl ?_
            refine z_iast C 19 (by decide) rfl (by decide) (by omega) (by omega) dX11_has_68 ?_
            refine z_ext (S' := (z_zm ad ks s_edges s_isNeeded s_explored s_states s_isMoved s_runs s_runTime s_runMoves w_h a_machine a_from a_to a_channel a_resets a_guards a_guardOf a_limits a_limitOf a_places a_zones a_parent a_moveE a_moveF a_moves a_z a_ahead a_at (va_up (va_up a_amounts (0 : Int).toNat 0) (1 : Int).toNat a) a_way a_moments a_runAt a_runClock)) upM_a_amounts ?_
            have h11 : ∀ j, 0 ≤ (va_up (va_up a_amounts (0 : Int).toNat 0) (1 : Int).toNat a) j ∧ (va_up (va_up a_amounts (0 : Int).toNat 0) (1 : Int).toNat a) j ≤ 1064000 := z_upP (P := fun j v => 0 ≤ v ∧ v ≤ 1064000) h10 (by omega)
            refine z_aloadn C 0 dX11_has_69 rfl rfl ?_
            refine z_get C 0 (by decide) rfl rfl z_it11 22 (by decide) rfl fl_11_68 rfl dX11_has_70 ?_
            refine z_iconst C dX11_has_73 ?_
            refine z_iloadn C 3 dX11_has_74 rfl rfl ?_
            refine z_iast C 19 (by decide) rfl (by decide) (by omega) (by omega) dX11_has_75 ?_
            refine z_ext (S' := (z_zm ad ks s_edges s_isNeeded s_explored s_states s_isMoved s_runs s_runTime s_runMoves w_h a_machine a_from a_to a_channel a_resets a_guards a_guardOf a_limits a_limitOf a_places a_zones a_parent a_moveE a_moveF a_moves a_z a_ahead a_at (va_up (va_up (va_up a_amounts (0 : Int).toNat 0) (1 : Int).toNat a) (2 : Int).toNat b) a_way a_moments a_runAt a_runClock)) upM_a_amounts ?_
            have h12 : ∀ j, 0 ≤ (va_up (va_up (va_up a_amounts (0 : Int).toNat 0) (1 : Int).toNat a) (2 : Int).toNat b) j ∧ (va_up (va_up (va_up a_amounts (0 : Int).toNat 0) (1 : Int).toNat a) (2 : Int).toNat b) j ≤ 1064000 := z_upP (P := fun j v => 0 ≤ v ∧ v ≤ 1064000) h11 (by omega)
            refine z_aloadn C 0 dX11_has_76 rfl rfl ?_
            refine z_get C 0 (by decide) rfl rfl z_it11 22 (by decide) rfl fl_11_68 rfl dX11_has_77 ?_
            refine z_iconst C dX11_has_80 ?_
            refine z_iload C 4 dX11_has_81 rfl ?_
            refine z_iast C 19 (by decide) rfl (by decide) (by omega) (by omega) dX11_has_83 ?_
            refine z_ext (S' := (z_zm ad ks s_edges s_isNeeded s_explored s_states s_isMoved s_runs s_runTime s_runMoves w_h a_machine a_from a_to a_channel a_resets a_guards a_guardOf a_limits a_limitOf a_places a_zones a_parent a_moveE a_moveF a_moves a_z a_ahead a_at (va_up (va_up (va_up (va_up a_amounts (0 : Int).toNat 0) (1 : Int).toNat a) (2 : Int).toNat b) (3 : Int).toNat c0) a_way a_moments a_runAt a_runClock)) upM_a_amounts ?_
            have h13 : ∀ j, 0 ≤ (va_up (va_up (va_up (va_up a_amounts (0 : Int).toNat 0) (1 : Int).toNat a) (2 : Int).toNat b) (3 : Int).toNat c0) j ∧ (va_up (va_up (va_up (va_up a_amounts (0 : Int).toNat 0) (1 : Int).toNat a) (2 : Int).toNat b) (3 : Int).toNat c0) j ≤ 1064000 := z_upP (P := fun j v => 0 ≤ v ∧ v ≤ 1064000) h12 (by omega)
            refine z_aloadn C 0 dX11_has_84 rfl rfl ?_
            refine z_iloadn C 1 dX11_has_85 rfl rfl ?_
            refine z_callV C (cx_X11_holds l i0 Ha_zones h13 (by omega) (hsz (by omega) i0.toNat (by omega))) mv_11_174 (z_atS 0 11 (by decide) rfl rfl rfl) pd_X11_holds ⟨by omega, by omega⟩ ⟨by omega, by omega⟩ rfl (Nat.le_of_ble_eq_true rfl) dX11_has_86 ?_
            rintro _ _ _ ⟨rfl, rfl, z16, rfl, hz16⟩
            have hho := z_isz_iff hz16 (z_ho.iff (by omega) (fun _ _ => rfl) (am' := (fun x => if x = 0 then 0 else if x = 1 then a else if x = 2 then b else c0)) (z_as4 rfl rfl rfl rfl))
            refine z_if_eq (t := 96) C dX11_has_89 (by decide) (by omega) (fun c17 => ?_) (fun c17 => ?_)
            · skip
              refine z_iconst C dX11_has_96 ?_
              rw [hQ]
              exact z_iret C hrt dX11_has_97 (⟨(va_up (va_up (va_up (va_up a_amounts (0 : Int).toNat 0) (1 : Int).toNat a) (2 : Int).toNat b) (3 : Int).toNat c0), rfl, rfl, h13, _, rfl, Or.inr (Or.inr (Or.inr ⟨by omega, by omega, by first | exact Or.inl ⟨rfl, z_isz1 hho (by omega)⟩ | exact Or.inr ⟨rfl, z_isz0 hho (by omega)⟩⟩))⟩) (by omega) (by omega)
            · skip
              refine z_iconst C dX11_has_92 ?_
              refine z_goto (t := 97) C dX11_has_93 (by decide) ?_
              rw [hQ]
              exact z_iret C hrt dX11_has_97 (⟨(va_up (va_up (va_up (va_up a_amounts (0 : Int).toNat 0) (1 : Int).toNat a) (2 : Int).toNat b) (3 : Int).toNat c0), rfl, rfl, h13, _, rfl, Or.inr (Or.inr (Or.inr ⟨by omega, by omega, by first | exact Or.inl ⟨rfl, z_isz1 hho (by omega)⟩ | exact Or.inr ⟨rfl, z_isz0 hho (by omega)⟩⟩))⟩) (by omega) (by omega)
          · skip
            refine z_bipush C dX11_has_52 (by decide) ?_
            rw [hQ]
            exact z_iret C hrt dX11_has_54 (⟨a_amounts, rfl, rfl, Ha_amounts, _, rfl, Or.inr (Or.inr (Or.inl ⟨by omega, by omega, rfl⟩))⟩) (by omega) (by omega)
    · skip
      refine z_bipush C dX11_has_18 (by decide) ?_
      rw [hQ]
      exact z_iret C hrt dX11_has_20 (⟨a_amounts, rfl, rfl, Ha_amounts, _, rfl, Or.inr (Or.inl ⟨by omega, by omega, rfl⟩)⟩) (by omega) (by omega)
  · skip
    refine z_bipush C dX11_has_7 (by decide) ?_
    rw [hQ]
    exact z_iret C hrt dX11_has_9 (⟨a_amounts, rfl, rfl, Ha_amounts, _, rfl, Or.inl ⟨by omega, rfl⟩⟩) (by omega) (by omega)
set_option maxRecDepth 20000 in
theorem cx_X11_here (l : Launch) {D : va_G} {A : Nat → Prop} {ad : Nat → Nat} {ks : z_Ks} {s_edges s_isNeeded s_explored s_states s_isMoved s_runs s_runTime s_runMoves : Int} {w_h : Int64} {a_machine a_from a_to a_channel a_resets a_guards a_guardOf a_limits a_limitOf a_places a_zones a_parent a_moveE a_moveF a_moves a_z a_ahead a_at a_amounts a_way a_moments a_runAt a_runClock : Nat → Int} {Y : Nat → Option va_E} (Ha_at : (∀ j, 0 ≤ a_at j ∧ a_at j ≤ 5)) (Ha_amounts : (∀ j, 0 ≤ a_amounts j ∧ a_amounts j ≤ 1064000)) (Ha_runAt : (∀ j, 0 ≤ a_runAt j ∧ a_runAt j ≤ 5)) (Ha_runClock : (∀ j, 0 ≤ a_runClock j ∧ a_runClock j ≤ 1000000)) (Hs_runs : (s_runs = 0 ∨ s_runs = 1)) (Hs_isNeeded : (s_isNeeded = 0 ∨ s_isNeeded = 1)) (Hs_states : (0 ≤ s_states ∧ s_states ≤ 120)) (Ha_places : (∀ j, 0 ≤ a_places j ∧ a_places j ≤ 5)) (Ha_zones : (∀ j, z_rg (a_zones j))) (hsz : s_isNeeded = 0 → ∀ i : Nat, (i : Int) < s_states → ∀ k, k < 16 → -40000 ≤ a_zones (16 * i + k) ∧ a_zones (16 * i + k) ≤ 100000) : z_Met l yX11_here cX11_here 4 (some .int) 1 26 0 0 D A 24 ad ks [.ref (ad 0)] (z_zm ad ks s_edges s_isNeeded s_explored s_states s_isMoved s_runs s_runTime s_runMoves w_h a_machine a_from a_to a_channel a_resets a_guards a_guardOf a_limits a_limitOf a_places a_zones a_parent a_moveE a_moveF a_moves a_z a_ahead a_at a_amounts a_way a_moments a_runAt a_runClock) Y (fun r S' Y' => ∃ na_at : Nat → Int, ∃ na_amounts : Nat → Int, S' = (z_zm ad ks s_edges s_isNeeded s_explored s_states s_isMoved s_runs s_runTime s_runMoves w_h a_machine a_from a_to a_channel a_resets a_guards a_guardOf a_limits a_limitOf a_places a_zones a_parent a_moveE a_moveF a_moves a_z a_ahead na_at na_amounts a_way a_moments a_runAt a_runClock) ∧ Y = Y' ∧ (∀ j, 0 ≤ na_at j ∧ na_at j ≤ 5) ∧ (∀ j, 0 ≤ na_amounts j ∧ na_amounts j ≤ 1064000) ∧ ∃ z : Int, r = some (z_v z) ∧ (((s_runs = 0 ∨ s_isNeeded ≠ 0) ∧ z = -103) ∨ ((s_runs = 1 ∧ s_isNeeded = 0) ∧ z_fst (fun i => (∀ m : Int, 0 ≤ m → m < 3 → a_places (3 * i + m).toNat = a_runAt m.toNat) ∧ z_ho a_zones i a_runClock) s_states z))) := by
  refine z_start2 (by decide) (Nat.le_of_ble_eq_true rfl) ?_
  intro p e R s m args below meth c Q C hRf hRc hRs hRl hQ hrt hnm
  refine z_loc (L' := [(0, .ref (ad 0))]) [0] rfl ?_
  refine z_aloadn C 0 dX11_here_0 rfl rfl ?_
  refine z_get C 0 (by decide) rfl rfl z_it11 26 (by decide) rfl fl_11_83 rfl dX11_here_1 ?_
  refine z_if_eq (t := 14) C dX11_here_4 (by decide) (by omega) (fun c1 => ?_) (fun c1 => ?_)
  · skip
    refine z_bipush C dX11_here_14 (by decide) ?_
    rw [hQ]
    exact z_iret C hrt dX11_here_16 (⟨a_at, a_amounts, rfl, rfl, Ha_at, Ha_amounts, _, rfl, Or.inl ⟨by omega, rfl⟩⟩) (by omega) (by omega)
  · skip
    refine z_aloadn C 0 dX11_here_7 rfl rfl ?_
    refine z_get C 0 (by decide) rfl rfl z_it11 10 (by decide) rfl fl_11_37 rfl dX11_here_8 ?_
    refine z_if_eq (t := 17) C dX11_here_11 (by decide) (by omega) (fun c2 => ?_) (fun c2 => ?_)
    · skip
      refine z_aloadn C 0 dX11_here_17 rfl rfl ?_
      refine z_callV C (cx_X11_look l Ha_at Ha_amounts Ha_runAt Ha_runClock) mv_11_219 (z_atS 0 11 (by decide) rfl rfl rfl) pd_X11_look ⟨by omega, by omega⟩ ⟨by omega, by omega⟩ rfl (Nat.le_of_ble_eq_true rfl) dX11_here_18 ?_
      rintro _ _ _ ⟨n3, n4, rfl, rfl, h7, h8, q18_0, q18_1, rfl⟩
      refine z_iconst C dX11_here_21 ?_
      refine z_istoren (L' := [(1, z_v 0), (0, .ref (ad 0))]) C dX11_here_22 rfl (by decide) rfl ?_
      have L23 : ∀ (n : Nat), ∀ (i1 : Int), (∀ i : Int, 0 ≤ i → i < i1 → ¬ ((∀ m : Int, 0 ≤ m → m < 3 → a_places (3 * i + m).toNat = a_runAt m.toNat) ∧ z_ho a_zones i a_runClock)) → (0 ≤ i1 ∧ i1 ≤ s_states) → ((s_states : Int) - i1).toNat < n → z_V p l e R s m args below meth c Q D A 24 ad 4 (z_zm ad ks s_edges s_isNeeded s_explored s_states s_isMoved s_runs s_runTime s_runMoves w_h a_machine a_from a_to a_channel a_resets a_guards a_guardOf a_limits a_limitOf a_places a_zones a_parent a_moveE a_moveF a_moves a_z a_ahead n3 n4 a_way a_moments a_runAt a_runClock) Y 0 0 23 [(0, .ref (ad 0)), (1, z_v i1)] [] := by
        intro n
        induction n with
        | zero => intro i1 NF I1 hm; exact absurd hm (Nat.not_lt_zero _)
        | succ n ih23 =>
          intro i1 NF I1 hm
          refine z_iloadn C 1 dX11_here_23 rfl rfl ?_
          refine z_aloadn C 0 dX11_here_24 rfl rfl ?_
          refine z_get C 0 (by decide) rfl rfl z_it11 12 (by decide) rfl fl_11_94 rfl dX11_here_25 ?_
          refine z_icmp_ge (t := 95) C dX11_here_28 (by decide) (by omega) (by omega) (fun c9 => ?_) (fun c9 => ?_)
          · skip
            refine z_iconst C dX11_here_95 ?_
            rw [hQ]
            exact z_iret C hrt dX11_here_96 (⟨n3, n4, rfl, rfl, h7, h8, _, rfl, Or.inr ⟨by omega, Or.inl ⟨rfl, fun i h0 h1 => NF i h0 (by omega)⟩⟩⟩) (by omega) (by omega)
          · skip
            refine z_iconst C dX11_here_31 ?_
            refine z_istoren (L' := [(2, z_v 1), (0, .ref (ad 0)), (1, z_v i1)]) C dX11_here_32 rfl (by decide) rfl ?_
            refine z_iconst C dX11_here_33 ?_
            refine z_istoren (L' := [(3, z_v 0), (2, z_v 1), (0, .ref (ad 0)), (1, z_v i1)]) C dX11_here_34 rfl (by decide) rfl ?_
            have L35 : ∀ (n : Nat), ∀ (i2 : Int) (i3 : Int), (z_K3 i2 (∀ m : Int, 0 ≤ m → m < i3 → a_places (3 * i1 + m).toNat = a_runAt m.toNat) (∀ m : Int, 0 ≤ m → m < 3 → a_places (3 * i1 + m).toNat = a_runAt m.toNat)) → (0 ≤ i3 ∧ i3 ≤ 3) → (i2 = 0 ∨ i2 = 1) → ((3 : Int) - i3).toNat < n → z_V p l e R s m args below meth c Q D A 24 ad 4 (z_zm ad ks s_edges s_isNeeded s_explored s_states s_isMoved s_runs s_runTime s_runMoves w_h a_machine a_from a_to a_channel a_resets a_guards a_guardOf a_limits a_limitOf a_places a_zones a_parent a_moveE a_moveF a_moves a_z a_ahead n3 n4 a_way a_moments a_runAt a_runClock) Y 0 0 35 [(0, .ref (ad 0)), (1, z_v i1), (2, z_v i2), (3, z_v i3)] [] := by
              intro n
              induction n with
              | zero => intro i2 i3 K I3 B2 hm; exact absurd hm (Nat.not_lt_zero _)
              | succ n ih35 =>
                intro i2 i3 K I3 B2 hm
                refine z_iloadn C 3 dX11_here_35 rfl rfl ?_
                refine z_iconst C dX11_here_36 ?_
                refine z_icmp_ge (t := 75) C dX11_here_37 (by decide) (by omega) (by omega) (fun c10 => ?_) (fun c10 => ?_)
                · skip
                  refine z_iloadn C 2 dX11_here_75 rfl rfl ?_
                  refine z_if_eq (t := 89) C dX11_here_76 (by decide) (by omega) (fun c11 => ?_) (fun c11 => ?_)
                  · skip
                    refine z_iinc (L' := [(1, z_v (i1 + 1)), (0, .ref (ad 0)), (2, z_v i2), (3, z_v i3)]) C 1 dX11_here_89 rfl (by decide) rfl ?_
                    refine z_goto (t := 23) C dX11_here_92 (by decide) ?_
                    refine z_loc (L' := [(0, .ref (ad 0)), (1, z_v (i1 + 1))]) [1, 0] rfl ?_
                    exact ih23 (i1 + 1) (by first | exact z_snoc NF (fun q => z_isz0 hho (by omega) q.2) | exact z_snoc NF (fun q => z_isz0 (K.fin (fun a => fun m h0 h1 => a m h0 (by omega))) (by omega) q.1)) (by omega) (by omega)
                  · skip
                    refine z_aloadn C 0 dX11_here_79 rfl rfl ?_
                    refine z_iloadn C 1 dX11_here_80 rfl rfl ?_
                    refine z_callV C (cx_X11_holds l i1 Ha_zones h8 (by omega) (hsz (by omega) (i1 : Int).toNat (by omega))) mv_11_174 (z_atS 0 11 (by decide) rfl rfl rfl) pd_X11_holds ⟨by omega, by omega⟩ ⟨by omega, by omega⟩ rfl (Nat.le_of_ble_eq_true rfl) dX11_here_81 ?_
                    rintro _ _ _ ⟨rfl, rfl, z14, rfl, hz14⟩
                    have hho := z_isz_iff hz14 (z_ho.iff (by omega) (fun _ _ => rfl) q18_1)
                    refine z_if_eq (t := 89) C dX11_here_84 (by decide) (by omega) (fun c15 => ?_) (fun c15 => ?_)
                    · skip
                      refine z_iinc (L' := [(1, z_v (i1 + 1)), (0, .ref (ad 0)), (2, z_v i2), (3, z_v i3)]) C 1 dX11_here_89 rfl (by decide) rfl ?_
                      refine z_goto (t := 23) C dX11_here_92 (by decide) ?_
                      refine z_loc (L' := [(0, .ref (ad 0)), (1, z_v (i1 + 1))]) [1, 0] rfl ?_
                      exact ih23 (i1 + 1) (by first | exact z_snoc NF (fun q => z_isz0 hho (by omega) q.2) | exact z_snoc NF (fun q => z_isz0 (K.fin (fun a => fun m h0 h1 => a m h0 (by omega))) (by omega) q.1)) (by omega) (by omega)
                    · skip
                      refine z_iloadn C 1 dX11_here_87 rfl rfl ?_
                      rw [hQ]
                      exact z_iret C hrt dX11_here_88 (⟨n3, n4, rfl, rfl, h7, h8, _, rfl, Or.inr ⟨by omega, Or.inr ⟨by omega, ⟨z_isz1 (K.fin (fun a => fun m h0 h1 => a m h0 (by omega))) (by omega), z_isz1 hho (by omega)⟩, NF⟩⟩⟩) (by omega) (by omega)
                · skip
                  refine z_iloadn C 2 dX11_here_40 rfl rfl ?_
                  refine z_if_eq (t := 67) C dX11_here_41 (by decide) (by omega) (fun c16 => ?_) (fun c16 => ?_)
                  · skip
                    refine z_iconst C dX11_here_67 ?_
                    refine z_istoren (L' := [(2, z_v 0), (0, .ref (ad 0)), (1, z_v i1), (3, z_v i3)]) C dX11_here_68 rfl (by decide) rfl ?_
                    refine z_iinc (L' := [(3, z_v (i3 + 1)), (2, z_v 0), (0, .ref (ad 0)), (1, z_v i1)]) C 3 dX11_here_69 rfl (by decide) rfl ?_
                    refine z_goto (t := 35) C dX11_here_72 (by decide) ?_
                    refine z_loc (L' := [(0, .ref (ad 0)), (1, z_v i1), (2, z_v 0), (3, z_v (i3 + 1))]) [2, 3, 1, 0] rfl ?_
                    exact ih35 0 (i3 + 1) (by have hq := q18_0 (i3 : Int).toNat (by omega); first | exact K.one (by omega) (fun a => z_snoc a (by omega)) | exact K.zero (Or.inl (by omega)) | exact K.zero (Or.inr (fun L => absurd (L i3 (by omega) (by omega)) (by omega)))) (by omega) (by omega) (by omega)
                  · skip
                    refine z_aloadn C 0 dX11_here_44 rfl rfl ?_
                    refine z_get C 0 (by decide) rfl rfl z_it11 13 (by decide) rfl fl_11_41 rfl dX11_here_45 ?_
                    refine z_iconst C dX11_here_48 ?_
                    refine z_iloadn C 1 dX11_here_49 rfl rfl ?_
                    refine z_imul C dX11_here_50 ?_
                    refine z_iloadn C 3 dX11_here_51 rfl rfl ?_
                    refine z_iadd C dX11_here_52 ?_
                    refine z_iald C 10 (by decide) rfl (by decide) (by omega) (by omega) dX11_here_53 ?_
                    have rx17 := Ha_places (((3 * i1) + i3) : Int).toNat
                    generalize ex17 : a_places (((3 * i1) + i3) : Int).toNat = x17 at rx17 ⊢
                    refine z_aloadn C 0 dX11_here_54 rfl rfl ?_
                    refine z_get C 0 (by decide) rfl rfl z_it11 21 (by decide) rfl fl_11_65 rfl dX11_here_55 ?_
                    refine z_iloadn C 3 dX11_here_58 rfl rfl ?_
                    refine z_iald C 18 (by decide) rfl (by decide) (by omega) (by omega) dX11_here_59 ?_
                    have rx18 := h7 (i3 : Int).toNat
                    generalize ex18 : n3 (i3 : Int).toNat = x18 at rx18 ⊢
                    refine z_icmp_ne (t := 67) C dX11_here_60 (by decide) (by omega) (by omega) (fun c19 => ?_) (fun c19 => ?_)
                    · skip
                      refine z_iconst C dX11_here_67 ?_
                      refine z_istoren (L' := [(2, z_v 0), (0, .ref (ad 0)), (1, z_v i1), (3, z_v i3)]) C dX11_here_68 rfl (by decide) rfl ?_
                      refine z_iinc (L' := [(3, z_v (i3 + 1)), (2, z_v 0), (0, .ref (ad 0)), (1, z_v i1)]) C 3 dX11_here_69 rfl (by decide) rfl ?_
                      refine z_goto (t := 35) C dX11_here_72 (by decide) ?_
                      refine z_loc (L' := [(0, .ref (ad 0)), (1, z_v i1), (2, z_v 0), (3, z_v (i3 + 1))]) [2, 3, 1, 0] rfl ?_
                      exact ih35 0 (i3 + 1) (by have hq := q18_0 (i3 : Int).toNat (by omega); first | exact K.one (by omega) (fun a => z_snoc a (by omega)) | exact K.zero (Or.inl (by omega)) | exact K.zero (Or.inr (fun L => absurd (L i3 (by omega) (by omega)) (by omega)))) (by omega) (by omega) (by omega)
                    · skip
                      refine z_iconst C dX11_here_63 ?_
                      refine z_goto (t := 68) C dX11_here_64 (by decide) ?_
                      refine z_istoren (L' := [(2, z_v 1), (0, .ref (ad 0)), (1, z_v i1), (3, z_v i3)]) C dX11_here_68 rfl (by decide) rfl ?_
                      refine z_iinc (L' := [(3, z_v (i3 + 1)), (2, z_v 1), (0, .ref (ad 0)), (1, z_v i1)]) C 3 dX11_here_69 rfl (by decide) rfl ?_
                      refine z_goto (t := 35) C dX11_here_72 (by decide) ?_
                      refine z_loc (L' := [(0, .ref (ad 0)), (1, z_v i1), (2, z_v 1), (3, z_v (i3 + 1))]) [2, 3, 1, 0] rfl ?_
                      exact ih35 1 (i3 + 1) (by have hq := q18_0 (i3 : Int).toNat (by omega); first | exact K.one (by omega) (fun a => z_snoc a (by omega)) | exact K.zero (Or.inl (by omega)) | exact K.zero (Or.inr (fun L => absurd (L i3 (by omega) (by omega)) (by omega)))) (by omega) (by omega) (by omega)
            refine z_loc (L' := [(0, .ref (ad 0)), (1, z_v i1), (2, z_v 1), (3, z_v 0)]) [2, 3, 1, 0] rfl ?_
            exact (L35 (((3 : Int) - 0).toNat + 1)) 1 0 (z_K3.ini z_vac) (by omega) (by omega) (Nat.lt_succ_self _)
      refine z_loc (L' := [(0, .ref (ad 0)), (1, z_v 0)]) [1, 0] rfl ?_
      exact (L23 (((s_states : Int) - 0).toNat + 1)) 0 (z_vac) (by omega) (Nat.lt_succ_self _)
    · skip
      refine z_bipush C dX11_here_14 (by decide) ?_
      rw [hQ]
      exact z_iret C hrt dX11_here_16 (⟨a_at, a_amounts, rfl, rfl, Ha_at, Ha_amounts, _, rfl, Or.inl ⟨by omega, rfl⟩⟩) (by omega) (by omega)
set_option maxRecDepth 20000 in
theorem cx_X11_count (l : Launch) {D : va_G} {A : Nat → Prop} {ad : Nat → Nat} {ks : z_Ks} {s_edges s_isNeeded s_explored s_states s_isMoved s_runs s_runTime s_runMoves : Int} {w_h : Int64} {a_machine a_from a_to a_channel a_resets a_guards a_guardOf a_limits a_limitOf a_places a_zones a_parent a_moveE a_moveF a_moves a_z a_ahead a_at a_amounts a_way a_moments a_runAt a_runClock : Nat → Int} {Y : Nat → Option va_E} {mf ms : Nat → Int} {mc : Int} (wh : Int) (Hs_edges : (0 ≤ s_edges ∧ s_edges ≤ 20)) (Hs_isNeeded : (s_isNeeded = 0 ∨ s_isNeeded = 1)) (Ha_channel : (∀ j, -4 ≤ a_channel j ∧ a_channel j ≤ 4)) (Ha_machine : (∀ j, 0 ≤ a_machine j ∧ a_machine j ≤ 2)) (Ha_limits : (∀ j, 0 ≤ a_limits j ∧ a_limits j ≤ 2)) (Ha_guards : (∀ j, 0 ≤ a_guards j ∧ a_guards j ≤ 2)) (hw : z_rg wh) (HML : z_ml s_edges mc mf ms a_machine a_channel) (hmc : 0 ≤ mc ∧ mc ≤ 400) : z_Met l yX11_count cX11_count 4 (some .int) 2 45 0 0 D A 24 ad ks [.ref (ad 0), z_v wh] (z_zm ad ks s_edges s_isNeeded s_explored s_states s_isMoved s_runs s_runTime s_runMoves w_h a_machine a_from a_to a_channel a_resets a_guards a_guardOf a_limits a_limitOf a_places a_zones a_parent a_moveE a_moveF a_moves a_z a_ahead a_at a_amounts a_way a_moments a_runAt a_runClock) Y (fun r S' Y' => S' = (z_zm ad ks s_edges s_isNeeded s_explored s_states s_isMoved s_runs s_runTime s_runMoves w_h a_machine a_from a_to a_channel a_resets a_guards a_guardOf a_limits a_limitOf a_places a_zones a_parent a_moveE a_moveF a_moves a_z a_ahead a_at a_amounts a_way a_moments a_runAt a_runClock) ∧ Y = Y' ∧ ∃ z : Int, r = some (z_v z) ∧ (z = z_ctA wh s_edges (z_su a_limits 18) (z_su a_guards s_edges.toNat) s_states mc s_isNeeded s_explored)) := by
  refine z_start2 (by decide) (Nat.le_of_ble_eq_true rfl) ?_
  intro p e R s m args below meth c Q C hRf hRc hRs hRl hQ hrt hnm
  refine z_loc (L' := [(0, .ref (ad 0)), (1, z_v wh)]) [0, 1] rfl ?_
  refine z_iconst C dX11_count_0 ?_
  refine z_istoren (L' := [(2, z_v 0), (0, .ref (ad 0)), (1, z_v wh)]) C dX11_count_1 rfl (by decide) rfl ?_
  refine z_iloadn C 2 dX11_count_2 rfl rfl ?_
  rcases (show (wh < 0 ∨ 6 < wh) ∨ wh = 0 ∨ wh = 1 ∨ wh = 2 ∨ wh = 3 ∨ wh = 4 ∨ wh = 5 ∨ wh = 6 by omega) with w1 | w1 | w1 | w1 | w1 | w1 | w1 | w1
  · refine z_tabOut (t := 129) C dX11_count_3 (by omega) w1 (by decide) ?_
    refine z_bipush C dX11_count_129 (by decide) ?_
    rw [hQ]
    exact z_iret C hrt dX11_count_131 (⟨rfl, rfl, _, rfl, by unfold z_ctA; split <;> (try split) <;> (try split) <;> (try split) <;> (try split) <;> (try split) <;> (try split) <;> (try split) <;> omega⟩) (by omega) (by omega)
  · refine z_tabIn (o := 41) (t := 44) C wh dX11_count_3 (by omega) (by omega) (by omega) (by rw [w1]; rfl) (by decide) ?_
    refine z_aloadn C 1 dX11_count_44 rfl rfl ?_
    refine z_get C 0 (by decide) rfl rfl z_it11 0 (by decide) rfl fl_11_90 rfl dX11_count_45 ?_
    rw [hQ]
    exact z_iret C hrt dX11_count_48 (⟨rfl, rfl, _, rfl, by unfold z_ctA; split <;> (try split) <;> (try split) <;> (try split) <;> (try split) <;> (try split) <;> (try split) <;> (try split) <;> omega⟩) (by omega) (by omega)
  · refine z_tabIn (o := 46) (t := 49) C wh dX11_count_3 (by omega) (by omega) (by omega) (by rw [w1]; rfl) (by decide) ?_
    refine z_iconst C dX11_count_49 ?_
    refine z_istoren (L' := [(3, z_v 0), (2, z_v 0), (0, .ref (ad 0)), (1, z_v wh)]) C dX11_count_50 rfl (by decide) rfl ?_
    have L51 : ∀ (n : Nat), ∀ (i2 : Int) (i3 : Int), (i2 = z_su a_limits (i3 : Int).toNat) → (0 ≤ i3 ∧ i3 ≤ 18) → ((18 : Int) - i3).toNat < n → z_V p l e R s m args below meth c Q D A 24 ad 4 (z_zm ad ks s_edges s_isNeeded s_explored s_states s_isMoved s_runs s_runTime s_runMoves w_h a_machine a_from a_to a_channel a_resets a_guards a_guardOf a_limits a_limitOf a_places a_zones a_parent a_moveE a_moveF a_moves a_z a_ahead a_at a_amounts a_way a_moments a_runAt a_runClock) Y 0 0 51 [(0, .ref (ad 0)), (2, z_v i2), (3, z_v i3)] [] := by
      intro n
      induction n with
      | zero => intro i2 i3 SU I3 hm; exact absurd hm (Nat.not_lt_zero _)
      | succ n ih51 =>
        intro i2 i3 SU I3 hm
        refine z_iloadn C 2 dX11_count_51 rfl rfl ?_
        refine z_bipush C dX11_count_52 (by decide) ?_
        refine z_icmp_ge (t := 72) C dX11_count_54 (by decide) (by omega) (by omega) (fun c2 => ?_) (fun c2 => ?_)
        · skip
          refine z_iloadn C 1 dX11_count_72 rfl rfl ?_
          rw [hQ]
          exact z_iret C hrt dX11_count_73 (⟨rfl, rfl, _, rfl, by rw [SU, show (i3 : Int).toNat = 18 by omega]; unfold z_ctA; split <;> (try split) <;> omega⟩) (by omega) (by omega)
        · skip
          refine z_iloadn C 1 dX11_count_57 rfl rfl ?_
          refine z_aloadn C 0 dX11_count_58 rfl rfl ?_
          refine z_get C 0 (by decide) rfl rfl z_it11 8 (by decide) rfl fl_11_31 rfl dX11_count_59 ?_
          refine z_iloadn C 2 dX11_count_62 rfl rfl ?_
          refine z_iald C 8 (by decide) rfl (by decide) (by omega) (by omega) dX11_count_63 ?_
          have rx3 := Ha_limits (i3 : Int).toNat
          generalize ex3 : a_limits (i3 : Int).toNat = x3 at rx3 ⊢
          refine z_iadd C dX11_count_64 ?_
          refine z_istoren (L' := [(2, z_v (i2 + x3)), (0, .ref (ad 0)), (3, z_v i3)]) C dX11_count_65 rfl (by decide) rfl ?_
          refine z_iinc (L' := [(3, z_v (i3 + 1)), (2, z_v (i2 + x3)), (0, .ref (ad 0))]) C 2 dX11_count_66 rfl (by decide) rfl ?_
          refine z_goto (t := 51) C dX11_count_69 (by decide) ?_
          refine z_loc (L' := [(0, .ref (ad 0)), (2, z_v (i2 + x3)), (3, z_v (i3 + 1))]) [2, 1, 0] rfl ?_
          exact ih51 (i2 + x3) (i3 + 1) (z_su_I SU (by omega) (by assumption)) (by omega) (by omega)
    refine z_loc (L' := [(0, .ref (ad 0)), (2, z_v 0), (3, z_v 0)]) [2, 1, 0] rfl ?_
    exact (L51 (((18 : Int) - 0).toNat + 1)) 0 0 (rfl) (by omega) (Nat.lt_succ_self _)
  · refine z_tabIn (o := 71) (t := 74) C wh dX11_count_3 (by omega) (by omega) (by omega) (by rw [w1]; rfl) (by decide) ?_
    refine z_iconst C dX11_count_74 ?_
    refine z_istoren (L' := [(3, z_v 0), (2, z_v 0), (0, .ref (ad 0)), (1, z_v wh)]) C dX11_count_75 rfl (by decide) rfl ?_
    have L76 : ∀ (n : Nat), ∀ (i2 : Int) (i3 : Int), (i2 = z_su a_guards (i3 : Int).toNat) → (0 ≤ i3 ∧ i3 ≤ s_edges) → ((s_edges : Int) - i3).toNat < n → z_V p l e R s m args below meth c Q D A 24 ad 4 (z_zm ad ks s_edges s_isNeeded s_explored s_states s_isMoved s_runs s_runTime s_runMoves w_h a_machine a_from a_to a_channel a_resets a_guards a_guardOf a_limits a_limitOf a_places a_zones a_parent a_moveE a_moveF a_moves a_z a_ahead a_at a_amounts a_way a_moments a_runAt a_runClock) Y 0 0 76 [(0, .ref (ad 0)), (2, z_v i2), (3, z_v i3)] [] := by
      intro n
      induction n with
      | zero => intro i2 i3 SU I3 hm; exact absurd hm (Nat.not_lt_zero _)
      | succ n ih76 =>
        intro i2 i3 SU I3 hm
        refine z_iloadn C 2 dX11_count_76 rfl rfl ?_
        refine z_aloadn C 0 dX11_count_77 rfl rfl ?_
        refine z_get C 0 (by decide) rfl rfl z_it11 0 (by decide) rfl fl_11_90 rfl dX11_count_78 ?_
        refine z_icmp_ge (t := 99) C dX11_count_81 (by decide) (by omega) (by omega) (fun c4 => ?_) (fun c4 => ?_)
        · skip
          refine z_iloadn C 1 dX11_count_99 rfl rfl ?_
          rw [hQ]
          exact z_iret C hrt dX11_count_100 (⟨rfl, rfl, _, rfl, by rw [SU, show (i3 : Int).toNat = s_edges.toNat by omega]; unfold z_ctA; split <;> (try split) <;> (try split) <;> omega⟩) (by omega) (by omega)
        · skip
          refine z_iloadn C 1 dX11_count_84 rfl rfl ?_
          refine z_aloadn C 0 dX11_count_85 rfl rfl ?_
          refine z_get C 0 (by decide) rfl rfl z_it11 6 (by decide) rfl fl_11_25 rfl dX11_count_86 ?_
          refine z_iloadn C 2 dX11_count_89 rfl rfl ?_
          refine z_iald C 6 (by decide) rfl (by decide) (by omega) (by omega) dX11_count_90 ?_
          have rx5 := Ha_guards (i3 : Int).toNat
          generalize ex5 : a_guards (i3 : Int).toNat = x5 at rx5 ⊢
          refine z_iadd C dX11_count_91 ?_
          refine z_istoren (L' := [(2, z_v (i2 + x5)), (0, .ref (ad 0)), (3, z_v i3)]) C dX11_count_92 rfl (by decide) rfl ?_
          refine z_iinc (L' := [(3, z_v (i3 + 1)), (2, z_v (i2 + x5)), (0, .ref (ad 0))]) C 2 dX11_count_93 rfl (by decide) rfl ?_
          refine z_goto (t := 76) C dX11_count_96 (by decide) ?_
          refine z_loc (L' := [(0, .ref (ad 0)), (2, z_v (i2 + x5)), (3, z_v (i3 + 1))]) [2, 1, 0] rfl ?_
          exact ih76 (i2 + x5) (i3 + 1) (z_su_I SU (by omega) (by assumption)) (by omega) (by omega)
    refine z_loc (L' := [(0, .ref (ad 0)), (2, z_v 0), (3, z_v 0)]) [2, 1, 0] rfl ?_
    exact (L76 (((s_edges : Int) - 0).toNat + 1)) 0 0 (rfl) (by omega) (Nat.lt_succ_self _)
  · refine z_tabIn (o := 98) (t := 101) C wh dX11_count_3 (by omega) (by omega) (by omega) (by rw [w1]; rfl) (by decide) ?_
    refine z_aloadn C 1 dX11_count_101 rfl rfl ?_
    refine z_get C 0 (by decide) rfl rfl z_it11 12 (by decide) rfl fl_11_94 rfl dX11_count_102 ?_
    rw [hQ]
    exact z_iret C hrt dX11_count_105 (⟨rfl, rfl, _, rfl, by unfold z_ctA; split <;> (try split) <;> (try split) <;> (try split) <;> (try split) <;> (try split) <;> (try split) <;> (try split) <;> omega⟩) (by omega) (by omega)
  · refine z_tabIn (o := 103) (t := 106) C wh dX11_count_3 (by omega) (by omega) (by omega) (by rw [w1]; rfl) (by decide) ?_
    refine z_aloadn C 1 dX11_count_106 rfl rfl ?_
    refine z_callV C (cx_X11_moveCount l (by omega) Ha_channel Ha_machine (by omega) (by omega)) mv_11_228 (z_atS 0 11 (by decide) rfl rfl rfl) pd_X11_moveCount ⟨by omega, by omega⟩ ⟨by omega, by omega⟩ rfl (Nat.le_of_ble_eq_true rfl) dX11_count_107 ?_
    rintro _ _ _ ⟨rfl, rfl, z8, rfl, hz8⟩
    rw [hQ]
    exact z_iret C hrt dX11_count_110 (⟨rfl, rfl, _, rfl, by unfold z_ctA; split <;> (try split) <;> (try split) <;> (try split) <;> (try split) <;> (try split) <;> (try split) <;> (try split) <;> omega⟩) (by omega) (by omega)
  · refine z_tabIn (o := 108) (t := 111) C wh dX11_count_3 (by omega) (by omega) (by omega) (by rw [w1]; rfl) (by decide) ?_
    refine z_aloadn C 1 dX11_count_111 rfl rfl ?_
    refine z_get C 0 (by decide) rfl rfl z_it11 10 (by decide) rfl fl_11_37 rfl dX11_count_112 ?_
    refine z_if_eq (t := 122) C dX11_count_115 (by decide) (by omega) (fun c9 => ?_) (fun c9 => ?_)
    · skip
      refine z_iconst C dX11_count_122 ?_
      rw [hQ]
      exact z_iret C hrt dX11_count_123 (⟨rfl, rfl, _, rfl, by unfold z_ctA; split <;> (try split) <;> (try split) <;> (try split) <;> (try split) <;> (try split) <;> (try split) <;> (try split) <;> omega⟩) (by omega) (by omega)
    · skip
      refine z_iconst C dX11_count_118 ?_
      refine z_goto (t := 123) C dX11_count_119 (by decide) ?_
      rw [hQ]
      exact z_iret C hrt dX11_count_123 (⟨rfl, rfl, _, rfl, by unfold z_ctA; split <;> (try split) <;> (try split) <;> (try split) <;> (try split) <;> (try split) <;> (try split) <;> (try split) <;> omega⟩) (by omega) (by omega)
  · refine z_tabIn (o := 121) (t := 124) C wh dX11_count_3 (by omega) (by omega) (by omega) (by rw [w1]; rfl) (by decide) ?_
    refine z_aloadn C 1 dX11_count_124 rfl rfl ?_
    refine z_get C 0 (by decide) rfl rfl z_it11 11 (by decide) rfl fl_11_149 rfl dX11_count_125 ?_
    rw [hQ]
    exact z_iret C hrt dX11_count_128 (⟨rfl, rfl, _, rfl, by unfold z_ctA; split <;> (try split) <;> (try split) <;> (try split) <;> (try split) <;> (try split) <;> (try split) <;> (try split) <;> omega⟩) (by omega) (by omega)
