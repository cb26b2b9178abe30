theorem z_hw {n M : Int} {par mv me wy : Nat → Int} (hch : z_ch n par mv me) {K : Int} (h : ∀ k : Nat, (k : Int) ≤ K → 0 ≤ wy k ∧ wy k < n ∧ mv (wy k).toNat = k) (hM : M ≤ K) : ∀ k : Nat, 1 ≤ k → (k : Int) ≤ M → 0 ≤ me (wy k).toNat := by
  intro k h1 h2
  obtain ⟨a1, a2, a3⟩ := h k (by omega)
  exact (hch (wy k).toNat (by omega) (by omega)).2.2.2
set_option maxRecDepth 20000 in
theorem cm_X11_run (l : Launch) {D : va_G} {A : Nat → Prop} {ad : Nat → Nat} {ks : z_Ks} {s_edges s_isNeeded s_explored s_states s_isMoved s_runs s_runTime s_runMoves : Int} {w_h : Int64} {a_machine a_from a_to a_channel a_resets a_guards a_guardOf a_limits a_limitOf a_places a_zones a_parent a_moveE a_moveF a_moves a_z a_ahead a_at a_amounts a_way a_moments a_runAt a_runClock : Nat → Int} {Y : Nat → Option va_E} (wh : Int) (Hs_runs : (s_runs = 0 ∨ s_runs = 1)) (hw : z_rg wh) : z_Met l yX11_run cX11_run 2 (some .int) 1 22 0 0 D A 24 ad ks [.ref (ad 0), z_v wh] (z_zm ad ks s_edges s_isNeeded s_explored s_states s_isMoved s_runs s_runTime s_runMoves w_h a_machine a_from a_to a_channel a_resets a_guards a_guardOf a_limits a_limitOf a_places a_zones a_parent a_moveE a_moveF a_moves a_z a_ahead a_at a_amounts a_way a_moments a_runAt a_runClock) Y (fun r S' Y' => S' = (z_zm ad ks s_edges s_isNeeded s_explored s_states s_isMoved s_runs s_runTime s_runMoves w_h a_machine a_from a_to a_channel a_resets a_guards a_guardOf a_limits a_limitOf a_places a_zones a_parent a_moveE a_moveF a_moves a_z a_ahead a_at a_amounts a_way a_moments a_runAt a_runClock) ∧ Y = Y' ∧ ∃ z : Int, r = some (z_v z) ∧ (True)) := by
  refine z_start2 (by decide) (Nat.le_of_ble_eq_true rfl) ?_
  intro p e R s m args below meth c Q C hRf hRc hRs hRl hQ hrt hnm
  refine z_loc (L' := [(0, .ref (ad 0)), (1, z_v wh)]) [0, 1] rfl ?_
  refine z_aloadn C 0 dX11_run_0 rfl rfl ?_
  refine z_get C 0 (by decide) rfl rfl z_it11 26 (by decide) rfl fl_11_83 rfl dX11_run_1 ?_
  refine z_if_ne (t := 10) C dX11_run_4 (by decide) (by omega) (fun c1 => ?_) (fun c1 => ?_)
  · skip
    refine z_iloadn C 1 dX11_run_10 rfl rfl ?_
    refine z_iconst C dX11_run_11 ?_
    refine z_bipush C dX11_run_12 (by decide) ?_
    refine z_callS C (cm_X11_in l wh 0 8 (by omega) (by omega) (by omega)) mv_11_86 pd_X11_in ⟨by omega, by omega⟩ ⟨by omega, by omega⟩ rfl (Nat.le_of_ble_eq_true rfl) dX11_run_14 ?_
    rintro _ _ _ ⟨rfl, rfl, z2, rfl, hz2⟩
    refine z_if_eq (t := 25) C dX11_run_17 (by decide) (by omega) (fun c3 => ?_) (fun c3 => ?_)
    · skip
      refine z_bipush C dX11_run_25 (by decide) ?_
      rw [hQ]
      exact z_iret C hrt dX11_run_27 (⟨rfl, rfl, _, rfl, trivial⟩) (by omega) (by omega)
    · skip
      refine z_iloadn C 1 dX11_run_20 rfl rfl ?_
      refine z_iconst C dX11_run_21 ?_
      refine z_icmp_ne (t := 28) C dX11_run_22 (by decide) (by omega) (by omega) (fun c4 => ?_) (fun c4 => ?_)
      · skip
        refine z_iloadn C 1 dX11_run_28 rfl rfl ?_
        refine z_iconst C dX11_run_29 ?_
        refine z_icmp_ge (t := 42) C dX11_run_30 (by decide) (by omega) (by omega) (fun c5 => ?_) (fun c5 => ?_)
        · skip
          refine z_iloadn C 1 dX11_run_42 rfl rfl ?_
          refine z_bipush C dX11_run_43 (by decide) ?_
          refine z_icmp_ge (t := 59) C dX11_run_45 (by decide) (by omega) (by omega) (fun c6 => ?_) (fun c6 => ?_)
          · skip
            refine z_iloadn C 1 dX11_run_59 rfl rfl ?_
            refine z_bipush C dX11_run_60 (by decide) ?_
            refine z_icmp_ne (t := 72) C dX11_run_62 (by decide) (by omega) (by omega) (fun c7 => ?_) (fun c7 => ?_)
            · skip
              refine z_aloadn C 0 dX11_run_72 rfl rfl ?_
              refine z_get C 0 (by decide) rfl rfl z_it11 30 (by decide) rfl fl_11_215 rfl dX11_run_73 ?_
              rw [hQ]
              exact z_iret C hrt dX11_run_76 (⟨rfl, rfl, _, rfl, trivial⟩) (by omega) (by omega)
            · skip
              refine z_aloadn C 0 dX11_run_65 rfl rfl ?_
              refine z_get C 0 (by decide) rfl rfl z_it11 29 (by decide) rfl fl_11_212 rfl dX11_run_66 ?_
              refine z_goto (t := 76) C dX11_run_69 (by decide) ?_
              rw [hQ]
              exact z_iret C hrt dX11_run_76 (⟨rfl, rfl, _, rfl, trivial⟩) (by omega) (by omega)
          · skip
            refine z_aloadn C 0 dX11_run_48 rfl rfl ?_
            refine z_get C 0 (by decide) rfl rfl z_it11 28 (by decide) rfl fl_11_80 rfl dX11_run_49 ?_
            refine z_iloadn C 1 dX11_run_52 rfl rfl ?_
            refine z_iconst C dX11_run_53 ?_
            refine z_isub C dX11_run_54 ?_
            refine z_iald C 23 (by decide) rfl (by decide) (by omega) (by omega) dX11_run_55 ?_
            refine z_goto (t := 76) C dX11_run_56 (by decide) ?_
            rw [hQ]
            exact z_iret C hrt dX11_run_76 (⟨rfl, rfl, _, rfl, trivial⟩) (by omega) (by omega)
        · skip
          refine z_aloadn C 0 dX11_run_33 rfl rfl ?_
          refine z_get C 0 (by decide) rfl rfl z_it11 27 (by decide) rfl fl_11_77 rfl dX11_run_34 ?_
          refine z_iloadn C 1 dX11_run_37 rfl rfl ?_
          refine z_iald C 22 (by decide) rfl (by decide) (by omega) (by omega) dX11_run_38 ?_
          refine z_goto (t := 76) C dX11_run_39 (by decide) ?_
          rw [hQ]
          exact z_iret C hrt dX11_run_76 (⟨rfl, rfl, _, rfl, trivial⟩) (by omega) (by omega)
      · skip
        refine z_bipush C dX11_run_25 (by decide) ?_
        rw [hQ]
        exact z_iret C hrt dX11_run_27 (⟨rfl, rfl, _, rfl, trivial⟩) (by omega) (by omega)
  · skip
    refine z_bipush C dX11_run_7 (by decide) ?_
    rw [hQ]
    exact z_iret C hrt dX11_run_9 (⟨rfl, rfl, _, rfl, trivial⟩) (by omega) (by omega)
set_option maxRecDepth 20000 in
theorem cm_X11_about (l : Launch) {D : va_G} {A : Nat → Prop} {ad : Nat → Nat} {ks : z_Ks} {s_edges s_isNeeded s_explored s_states s_isMoved s_runs s_runTime s_runMoves : Int} {w_h : Int64} {a_machine a_from a_to a_channel a_resets a_guards a_guardOf a_limits a_limitOf a_places a_zones a_parent a_moveE a_moveF a_moves a_z a_ahead a_at a_amounts a_way a_moments a_runAt a_runClock : Nat → Int} {Y : Nat → Option va_E} (e0 wh : Int) (Hs_edges : (0 ≤ s_edges ∧ s_edges ≤ 20)) (he : z_rg e0) (hw : z_rg wh) : z_Met l yX11_about cX11_about 3 (some .int) 2 43 0 0 D A 24 ad ks [.ref (ad 0), z_v e0, z_v wh] (z_zm ad ks s_edges s_isNeeded s_explored s_states s_isMoved s_runs s_runTime s_runMoves w_h a_machine a_from a_to a_channel a_resets a_guards a_guardOf a_limits a_limitOf a_places a_zones a_parent a_moveE a_moveF a_moves a_z a_ahead a_at a_amounts a_way a_moments a_runAt a_runClock) Y (fun r S' Y' => S' = (z_zm ad ks s_edges s_isNeeded s_explored s_states s_isMoved s_runs s_runTime s_runMoves w_h a_machine a_from a_to a_channel a_resets a_guards a_guardOf a_limits a_limitOf a_places a_zones a_parent a_moveE a_moveF a_moves a_z a_ahead a_at a_amounts a_way a_moments a_runAt a_runClock) ∧ Y = Y' ∧ ∃ z : Int, r = some (z_v z) ∧ (True)) := by
  refine z_start2 (by decide) (Nat.le_of_ble_eq_true rfl) ?_
  intro p e R s m args below meth c Q C hRf hRc hRs hRl hQ hrt hnm
  refine z_loc (L' := [(0, .ref (ad 0)), (1, z_v e0), (2, z_v wh)]) [0, 1, 2] rfl ?_
  refine z_aloadn C 0 dX11_about_0 rfl rfl ?_
  refine z_iloadn C 1 dX11_about_1 rfl rfl ?_
  refine z_callV C (cm_X11_isEdge l e0 (by omega) (by omega)) mv_11_107 (z_atS 0 11 (by decide) rfl rfl rfl) pd_X11_isEdge ⟨by omega, by omega⟩ ⟨by omega, by omega⟩ rfl (Nat.le_of_ble_eq_true rfl) dX11_about_2 ?_
  rintro _ _ _ ⟨rfl, rfl, z1, rfl, hz1⟩
  refine z_if_ne (t := 11) C dX11_about_5 (by decide) (by omega) (fun c2 => ?_) (fun c2 => ?_)
  · skip
    refine z_iloadn C 2 dX11_about_11 rfl rfl ?_
    rcases (show (wh < 0 ∨ 5 < wh) ∨ wh = 0 ∨ wh = 1 ∨ wh = 2 ∨ wh = 3 ∨ wh = 4 ∨ wh = 5 by omega) with w3 | w3 | w3 | w3 | w3 | w3 | w3
    · refine z_tabOut (t := 94) C dX11_about_12 (by omega) w3 (by decide) ?_
      refine z_bipush C dX11_about_94 (by decide) ?_
      rw [hQ]
      exact z_iret C hrt dX11_about_96 (⟨rfl, rfl, _, rfl, trivial⟩) (by omega) (by omega)
    · refine z_tabIn (o := 40) (t := 52) C wh dX11_about_12 (by omega) (by omega) (by omega) (by rw [w3]; rfl) (by decide) ?_
      refine z_aloadn C 0 dX11_about_52 rfl rfl ?_
      refine z_get C 0 (by decide) rfl rfl z_it11 1 (by decide) rfl fl_11_7 rfl dX11_about_53 ?_
      refine z_iloadn C 1 dX11_about_56 rfl rfl ?_
      refine z_iald C 1 (by decide) rfl (by decide) (by omega) (by omega) dX11_about_57 ?_
      rw [hQ]
      exact z_iret C hrt dX11_about_58 (⟨rfl, rfl, _, rfl, trivial⟩) (by omega) (by omega)
    · refine z_tabIn (o := 47) (t := 59) C wh dX11_about_12 (by omega) (by omega) (by omega) (by rw [w3]; rfl) (by decide) ?_
      refine z_aloadn C 0 dX11_about_59 rfl rfl ?_
      refine z_get C 0 (by decide) rfl rfl z_it11 2 (by decide) rfl fl_11_13 rfl dX11_about_60 ?_
      refine z_iloadn C 1 dX11_about_63 rfl rfl ?_
      refine z_iald C 2 (by decide) rfl (by decide) (by omega) (by omega) dX11_about_64 ?_
      rw [hQ]
      exact z_iret C hrt dX11_about_65 (⟨rfl, rfl, _, rfl, trivial⟩) (by omega) (by omega)
    · refine z_tabIn (o := 54) (t := 66) C wh dX11_about_12 (by omega) (by omega) (by omega) (by rw [w3]; rfl) (by decide) ?_
      refine z_aloadn C 0 dX11_about_66 rfl rfl ?_
      refine z_get C 0 (by decide) rfl rfl z_it11 3 (by decide) rfl fl_11_16 rfl dX11_about_67 ?_
      refine z_iloadn C 1 dX11_about_70 rfl rfl ?_
      refine z_iald C 3 (by decide) rfl (by decide) (by omega) (by omega) dX11_about_71 ?_
      rw [hQ]
      exact z_iret C hrt dX11_about_72 (⟨rfl, rfl, _, rfl, trivial⟩) (by omega) (by omega)
    · refine z_tabIn (o := 61) (t := 73) C wh dX11_about_12 (by omega) (by omega) (by omega) (by rw [w3]; rfl) (by decide) ?_
      refine z_aloadn C 0 dX11_about_73 rfl rfl ?_
      refine z_get C 0 (by decide) rfl rfl z_it11 4 (by decide) rfl fl_11_19 rfl dX11_about_74 ?_
      refine z_iloadn C 1 dX11_about_77 rfl rfl ?_
      refine z_iald C 4 (by decide) rfl (by decide) (by omega) (by omega) dX11_about_78 ?_
      rw [hQ]
      exact z_iret C hrt dX11_about_79 (⟨rfl, rfl, _, rfl, trivial⟩) (by omega) (by omega)
    · refine z_tabIn (o := 68) (t := 80) C wh dX11_about_12 (by omega) (by omega) (by omega) (by rw [w3]; rfl) (by decide) ?_
      refine z_aloadn C 0 dX11_about_80 rfl rfl ?_
      refine z_get C 0 (by decide) rfl rfl z_it11 5 (by decide) rfl fl_11_22 rfl dX11_about_81 ?_
      refine z_iloadn C 1 dX11_about_84 rfl rfl ?_
      refine z_iald C 5 (by decide) rfl (by decide) (by omega) (by omega) dX11_about_85 ?_
      rw [hQ]
      exact z_iret C hrt dX11_about_86 (⟨rfl, rfl, _, rfl, trivial⟩) (by omega) (by omega)
    · refine z_tabIn (o := 75) (t := 87) C wh dX11_about_12 (by omega) (by omega) (by omega) (by rw [w3]; rfl) (by decide) ?_
      refine z_aloadn C 0 dX11_about_87 rfl rfl ?_
      refine z_get C 0 (by decide) rfl rfl z_it11 6 (by decide) rfl fl_11_25 rfl dX11_about_88 ?_
      refine z_iloadn C 1 dX11_about_91 rfl rfl ?_
      refine z_iald C 6 (by decide) rfl (by decide) (by omega) (by omega) dX11_about_92 ?_
      rw [hQ]
      exact z_iret C hrt dX11_about_93 (⟨rfl, rfl, _, rfl, trivial⟩) (by omega) (by omega)
  · skip
    refine z_bipush C dX11_about_8 (by decide) ?_
    rw [hQ]
    exact z_iret C hrt dX11_about_10 (⟨rfl, rfl, _, rfl, trivial⟩) (by omega) (by omega)
set_option maxRecDepth 20000 in
theorem cm_X11_mix (l : Launch) {D : va_G} {A : Nat → Prop} {ad : Nat → Nat} {ks : z_Ks} {s_edges s_isNeeded s_explored s_states s_isMoved s_runs s_runTime s_runMoves : Int} {w_h : Int64} {a_machine a_from a_to a_channel a_resets a_guards a_guardOf a_limits a_limitOf a_places a_zones a_parent a_moveE a_moveF a_moves a_z a_ahead a_at a_amounts a_way a_moments a_runAt a_runClock : Nat → Int} {Y : Nat → Option va_E} (v : Int64) : z_Met l yX11_mix cX11_mix 3 none 0 0 0 0 D A 24 ad ks [.ref (ad 0), .long v] (z_zm ad ks s_edges s_isNeeded s_explored s_states s_isMoved s_runs s_runTime s_runMoves w_h a_machine a_from a_to a_channel a_resets a_guards a_guardOf a_limits a_limitOf a_places a_zones a_parent a_moveE a_moveF a_moves a_z a_ahead a_at a_amounts a_way a_moments a_runAt a_runClock) Y (fun r S' Y' => ∃ nw_h : Int64, S' = (z_zm ad ks s_edges s_isNeeded s_explored s_states s_isMoved s_runs s_runTime s_runMoves nw_h a_machine a_from a_to a_channel a_resets a_guards a_guardOf a_limits a_limitOf a_places a_zones a_parent a_moveE a_moveF a_moves a_z a_ahead a_at a_amounts a_way a_moments a_runAt a_runClock) ∧ Y = Y' ∧ r = none) := by
  refine z_start2 (by decide) (Nat.le_of_ble_eq_true rfl) ?_
  intro p e R s m args below meth c Q C hRf hRc hRs hRl hQ hrt hnm
  refine z_loc (L' := [(0, .ref (ad 0)), (1, .long v)]) [0, 1] rfl ?_
  refine z_aloadn C 0 dX11_mix_0 rfl rfl ?_
  refine z_ldc2 C kl_11_232 dX11_mix_1 ?_
  refine z_aloadn C 0 dX11_mix_4 rfl rfl ?_
  refine z_get C 0 (by decide) rfl rfl z_it11 31 (by decide) rfl fl_11_234 rfl dX11_mix_5 ?_
  refine z_lmul C dX11_mix_8 ?_
  refine z_lloadn C 1 dX11_mix_9 rfl rfl ?_
  refine z_ladd C dX11_mix_10 ?_
  refine z_put C 0 (by decide) rfl rfl z_it11 tyX11 tyX11_ok nmX11 31 (by decide) rfl (Or.inl rfl) fl_11_234 z_pfJ rfl rfl (Nat.le_of_ble_eq_true rfl) dX11_mix_11 ?_
  refine z_ext (S' := (z_zm ad ks s_edges s_isNeeded s_explored s_states s_isMoved s_runs s_runTime s_runMoves (((31 : Int64) * w_h) + v) a_machine a_from a_to a_channel a_resets a_guards a_guardOf a_limits a_limitOf a_places a_zones a_parent a_moveE a_moveF a_moves a_z a_ahead a_at a_amounts a_way a_moments a_runAt a_runClock)) upM_w_h ?_
  rw [hQ]
  exact z_vret C hrt dX11_mix_14 (⟨(((31 : Int64) * w_h) + v), rfl, rfl, rfl⟩) (by omega) (by omega)
set_option maxRecDepth 20000 in
theorem cm_X11_digest (l : Launch) {D : va_G} {A : Nat → Prop} {ad : Nat → Nat} {ks : z_Ks} {s_edges s_isNeeded s_explored s_states s_isMoved s_runs s_runTime s_runMoves : Int} {w_h : Int64} {a_machine a_from a_to a_channel a_resets a_guards a_guardOf a_limits a_limitOf a_places a_zones a_parent a_moveE a_moveF a_moves a_z a_ahead a_at a_amounts a_way a_moments a_runAt a_runClock : Nat → Int} {Y : Nat → Option va_E} (Hs_edges : (0 ≤ s_edges ∧ s_edges ≤ 20)) (Hs_isNeeded : (s_isNeeded = 0 ∨ s_isNeeded = 1)) (Hs_states : (0 ≤ s_states ∧ s_states ≤ 120)) (Hs_runs : (s_runs = 0 ∨ s_runs = 1)) (Ha_guards : (∀ j, 0 ≤ a_guards j ∧ a_guards j ≤ 2)) (Ha_guardOf : (∀ j, (j % 3 = 0 → a_guardOf j ≤ 3) ∧ 0 ≤ a_guardOf j ∧ a_guardOf j ≤ 1000)) (Ha_limits : (∀ j, 0 ≤ a_limits j ∧ a_limits j ≤ 2)) (Ha_limitOf : (∀ j, (j % 3 = 0 → a_limitOf j ≤ 3) ∧ 0 ≤ a_limitOf j ∧ a_limitOf j ≤ 1000)) : z_Met l yX11_digest cX11_digest 3 (some .long) 3 65 0 0 D A 24 ad ks [.ref (ad 0)] (z_zm ad ks s_edges s_isNeeded s_explored s_states s_isMoved s_runs s_runTime s_runMoves w_h a_machine a_from a_to a_channel a_resets a_guards a_guardOf a_limits a_limitOf a_places a_zones a_parent a_moveE a_moveF a_moves a_z a_ahead a_at a_amounts a_way a_moments a_runAt a_runClock) Y (fun r S' Y' => ∃ nw_h : Int64, S' = (z_zm ad ks s_edges s_isNeeded s_explored s_states s_isMoved s_runs s_runTime s_runMoves nw_h a_machine a_from a_to a_channel a_resets a_guards a_guardOf a_limits a_limitOf a_places a_zones a_parent a_moveE a_moveF a_moves a_z a_ahead a_at a_amounts a_way a_moments a_runAt a_runClock) ∧ Y = Y' ∧ ∃ z : Int64, r = some (.long z)) := by
  refine z_start2 (by decide) (Nat.le_of_ble_eq_true rfl) ?_
  intro p e R s m args below meth c Q C hRf hRc hRs hRl hQ hrt hnm
  refine z_loc (L' := [(0, .ref (ad 0))]) [0] rfl ?_
  refine z_aloadn C 0 dX11_digest_0 rfl rfl ?_
  refine z_ldc2 C kl_11_238 dX11_digest_1 ?_
  refine z_put C 0 (by decide) rfl rfl z_it11 tyX11 tyX11_ok nmX11 31 (by decide) rfl (Or.inl rfl) fl_11_234 z_pfJ rfl rfl (Nat.le_of_ble_eq_true rfl) dX11_digest_4 ?_
  refine z_ext (S' := (z_zm ad ks s_edges s_isNeeded s_explored s_states s_isMoved s_runs s_runTime s_runMoves (71 : Int64) a_machine a_from a_to a_channel a_resets a_guards a_guardOf a_limits a_limitOf a_places a_zones a_parent a_moveE a_moveF a_moves a_z a_ahead a_at a_amounts a_way a_moments a_runAt a_runClock)) upM_w_h ?_
  refine z_iconst C dX11_digest_7 ?_
  refine z_istoren (L' := [(1, z_v 0), (0, .ref (ad 0))]) C dX11_digest_8 rfl (by decide) rfl ?_
  have L9 : ∀ (n : Nat), ∀ (i1 : Int) (fw_h : Int64), (0 ≤ i1 ∧ i1 ≤ 20) → ((20 : Int) - i1).toNat < n → z_V p l e R s m args below meth c Q D A 24 ad 3 (z_zm ad ks s_edges s_isNeeded s_explored s_states s_isMoved s_runs s_runTime s_runMoves fw_h a_machine a_from a_to a_channel a_resets a_guards a_guardOf a_limits a_limitOf a_places a_zones a_parent a_moveE a_moveF a_moves a_z a_ahead a_at a_amounts a_way a_moments a_runAt a_runClock) Y 0 0 9 [(0, .ref (ad 0)), (1, z_v i1)] [] := by
    intro n
    induction n with
    | zero => intro i1 fw_h I1 hm; exact absurd hm (Nat.not_lt_zero _)
    | succ n ih9 =>
      intro i1 fw_h I1 hm
      refine z_iloadn C 1 dX11_digest_9 rfl rfl ?_
      refine z_aloadn C 0 dX11_digest_10 rfl rfl ?_
      refine z_get C 0 (by decide) rfl rfl z_it11 0 (by decide) rfl fl_11_90 rfl dX11_digest_11 ?_
      refine z_icmp_ge (t := 84) C dX11_digest_14 (by decide) (by omega) (by omega) (fun c1 => ?_) (fun c1 => ?_)
      · skip
        refine z_iconst C dX11_digest_84 ?_
        refine z_istoren (L' := [(1, z_v 0), (0, .ref (ad 0))]) C dX11_digest_85 rfl (by decide) rfl ?_
        have L86 : ∀ (n : Nat), ∀ (i1 : Int) (fw_h : Int64), (0 ≤ i1 ∧ i1 ≤ 18) → ((18 : Int) - i1).toNat < n → z_V p l e R s m args below meth c Q D A 24 ad 3 (z_zm ad ks s_edges s_isNeeded s_explored s_states s_isMoved s_runs s_runTime s_runMoves fw_h a_machine a_from a_to a_channel a_resets a_guards a_guardOf a_limits a_limitOf a_places a_zones a_parent a_moveE a_moveF a_moves a_z a_ahead a_at a_amounts a_way a_moments a_runAt a_runClock) Y 0 0 86 [(0, .ref (ad 0)), (1, z_v i1)] [] := by
          intro n
          induction n with
          | zero => intro i1 fw_h I1 hm; exact absurd hm (Nat.not_lt_zero _)
          | succ n ih86 =>
            intro i1 fw_h I1 hm
            refine z_iloadn C 1 dX11_digest_86 rfl rfl ?_
            refine z_bipush C dX11_digest_87 (by decide) ?_
            refine z_icmp_ge (t := 145) C dX11_digest_89 (by decide) (by omega) (by omega) (fun c2 => ?_) (fun c2 => ?_)
            · skip
              refine z_iconst C dX11_digest_145 ?_
              refine z_istoren (L' := [(1, z_v 0), (0, .ref (ad 0))]) C dX11_digest_146 rfl (by decide) rfl ?_
              have L147 : ∀ (n : Nat), ∀ (i1 : Int) (fw_h : Int64), (0 ≤ i1 ∧ i1 ≤ 120) → ((120 : Int) - i1).toNat < n → z_V p l e R s m args below meth c Q D A 24 ad 3 (z_zm ad ks s_edges s_isNeeded s_explored s_states s_isMoved s_runs s_runTime s_runMoves fw_h a_machine a_from a_to a_channel a_resets a_guards a_guardOf a_limits a_limitOf a_places a_zones a_parent a_moveE a_moveF a_moves a_z a_ahead a_at a_amounts a_way a_moments a_runAt a_runClock) Y 0 0 147 [(0, .ref (ad 0)), (1, z_v i1)] [] := by
                intro n
                induction n with
                | zero => intro i1 fw_h I1 hm; exact absurd hm (Nat.not_lt_zero _)
                | succ n ih147 =>
                  intro i1 fw_h I1 hm
                  refine z_aloadn C 0 dX11_digest_147 rfl rfl ?_
                  refine z_get C 0 (by decide) rfl rfl z_it11 10 (by decide) rfl fl_11_37 rfl dX11_digest_148 ?_
                  refine z_if_ne (t := 223) C dX11_digest_151 (by decide) (by omega) (fun c3 => ?_) (fun c3 => ?_)
                  · skip
                    refine z_aloadn C 0 dX11_digest_223 rfl rfl ?_
                    refine z_aloadn C 0 dX11_digest_224 rfl rfl ?_
                    refine z_get C 0 (by decide) rfl rfl z_it11 26 (by decide) rfl fl_11_83 rfl dX11_digest_225 ?_
                    refine z_if_eq (t := 235) C dX11_digest_228 (by decide) (by omega) (fun c4 => ?_) (fun c4 => ?_)
                    · skip
                      refine z_lconst (w := 0) C dX11_digest_235 (by decide) ?_
                      refine z_callV C (cm_X11_mix l (0 : Int64)) mv_11_243 (z_atS 0 11 (by decide) rfl rfl rfl) pd_X11_mix ⟨by omega, by omega⟩ ⟨by omega, by omega⟩ rfl (Nat.le_of_ble_eq_true rfl) dX11_digest_236 ?_
                      rintro _ _ _ ⟨n5, rfl, rfl, rfl⟩
                      refine z_iconst C dX11_digest_239 ?_
                      refine z_istoren (L' := [(1, z_v 0), (0, .ref (ad 0))]) C dX11_digest_240 rfl (by decide) rfl ?_
                      have L241 : ∀ (n : Nat), ∀ (i1 : Int) (fw_h : Int64), (0 ≤ i1 ∧ i1 ≤ 9) → ((9 : Int) - i1).toNat < n → z_V p l e R s m args below meth c Q D A 24 ad 3 (z_zm ad ks s_edges s_isNeeded s_explored s_states s_isMoved s_runs s_runTime s_runMoves fw_h a_machine a_from a_to a_channel a_resets a_guards a_guardOf a_limits a_limitOf a_places a_zones a_parent a_moveE a_moveF a_moves a_z a_ahead a_at a_amounts a_way a_moments a_runAt a_runClock) Y 0 0 241 [(0, .ref (ad 0)), (1, z_v i1)] [] := by
                        intro n
                        induction n with
                        | zero => intro i1 fw_h I1 hm; exact absurd hm (Nat.not_lt_zero _)
                        | succ n ih241 =>
                          intro i1 fw_h I1 hm
                          refine z_aloadn C 0 dX11_digest_241 rfl rfl ?_
                          refine z_get C 0 (by decide) rfl rfl z_it11 26 (by decide) rfl fl_11_83 rfl dX11_digest_242 ?_
                          refine z_if_eq (t := 275) C dX11_digest_245 (by decide) (by omega) (fun c8 => ?_) (fun c8 => ?_)
                          · skip
                            refine z_aloadn C 0 dX11_digest_275 rfl rfl ?_
                            refine z_get C 0 (by decide) rfl rfl z_it11 31 (by decide) rfl fl_11_234 rfl dX11_digest_276 ?_
                            rw [hQ]
                            exact z_lret C hrt dX11_digest_279 (⟨fw_h, rfl, rfl, _, rfl⟩) (by omega) (by omega)
                          · skip
                            refine z_iloadn C 1 dX11_digest_248 rfl rfl ?_
                            refine z_bipush C dX11_digest_249 (by decide) ?_
                            refine z_icmp_ge (t := 275) C dX11_digest_251 (by decide) (by omega) (by omega) (fun c9 => ?_) (fun c9 => ?_)
                            · skip
                              refine z_aloadn C 0 dX11_digest_275 rfl rfl ?_
                              refine z_get C 0 (by decide) rfl rfl z_it11 31 (by decide) rfl fl_11_234 rfl dX11_digest_276 ?_
                              rw [hQ]
                              exact z_lret C hrt dX11_digest_279 (⟨fw_h, rfl, rfl, _, rfl⟩) (by omega) (by omega)
                            · skip
                              refine z_iloadn C 1 dX11_digest_254 rfl rfl ?_
                              refine z_iconst C dX11_digest_255 ?_
                              refine z_icmp_eq (t := 269) C dX11_digest_256 (by decide) (by omega) (by omega) (fun c10 => ?_) (fun c10 => ?_)
                              · skip
                                refine z_iinc (L' := [(1, z_v (i1 + 1)), (0, .ref (ad 0))]) C 1 dX11_digest_269 rfl (by decide) rfl ?_
                                refine z_goto (t := 241) C dX11_digest_272 (by decide) ?_
                                refine z_loc (L' := [(0, .ref (ad 0)), (1, z_v (i1 + 1))]) [1, 0] rfl ?_
                                exact ih241 (i1 + 1) fw_h (by omega) (by omega)
                              · skip
                                refine z_aloadn C 0 dX11_digest_259 rfl rfl ?_
                                refine z_aloadn C 0 dX11_digest_260 rfl rfl ?_
                                refine z_iloadn C 1 dX11_digest_261 rfl rfl ?_
                                refine z_callV C (cm_X11_run l i1 (by omega) (by omega)) mv_11_247 (z_atS 0 11 (by decide) rfl rfl rfl) pd_X11_run ⟨by omega, by omega⟩ ⟨by omega, by omega⟩ rfl (Nat.le_of_ble_eq_true rfl) dX11_digest_262 ?_
                                rintro _ _ _ ⟨rfl, rfl, z13, rfl, hz13⟩
                                refine z_i2l C dX11_digest_265 ?_
                                refine z_callV C (cm_X11_mix l ((z_i z13).toInt64)) mv_11_243 (z_atS 0 11 (by decide) rfl rfl rfl) pd_X11_mix ⟨by omega, by omega⟩ ⟨by omega, by omega⟩ rfl (Nat.le_of_ble_eq_true rfl) dX11_digest_266 ?_
                                rintro _ _ _ ⟨n14, rfl, rfl, rfl⟩
                                refine z_iinc (L' := [(1, z_v (i1 + 1)), (0, .ref (ad 0))]) C 1 dX11_digest_269 rfl (by decide) rfl ?_
                                refine z_goto (t := 241) C dX11_digest_272 (by decide) ?_
                                refine z_loc (L' := [(0, .ref (ad 0)), (1, z_v (i1 + 1))]) [1, 0] rfl ?_
                                exact ih241 (i1 + 1) n14 (by omega) (by omega)
                      refine z_loc (L' := [(0, .ref (ad 0)), (1, z_v 0)]) [1, 0] rfl ?_
                      exact (L241 (((9 : Int) - 0).toNat + 1)) 0 n5 (by omega) (Nat.lt_succ_self _)
                    · skip
                      refine z_lconst (w := 1) C dX11_digest_231 (by decide) ?_
                      refine z_goto (t := 236) C dX11_digest_232 (by decide) ?_
                      refine z_callV C (cm_X11_mix l (1 : Int64)) mv_11_243 (z_atS 0 11 (by decide) rfl rfl rfl) pd_X11_mix ⟨by omega, by omega⟩ ⟨by omega, by omega⟩ rfl (Nat.le_of_ble_eq_true rfl) dX11_digest_236 ?_
                      rintro _ _ _ ⟨n17, rfl, rfl, rfl⟩
                      refine z_iconst C dX11_digest_239 ?_
                      refine z_istoren (L' := [(1, z_v 0), (0, .ref (ad 0))]) C dX11_digest_240 rfl (by decide) rfl ?_
                      have L241 : ∀ (n : Nat), ∀ (i1 : Int) (fw_h : Int64), (0 ≤ i1 ∧ i1 ≤ 9) → ((9 : Int) - i1).toNat < n → z_V p l e R s m args below meth c Q D A 24 ad 3 (z_zm ad ks s_edges s_isNeeded s_explored s_states s_isMoved s_runs s_runTime s_runMoves fw_h a_machine a_from a_to a_channel a_resets a_guards a_guardOf a_limits a_limitOf a_places a_zones a_parent a_moveE a_moveF a_moves a_z a_ahead a_at a_amounts a_way a_moments a_runAt a_runClock) Y 0 0 241 [(0, .ref (ad 0)), (1, z_v i1)] [] := by
                        intro n
                        induction n with
                        | zero => intro i1 fw_h I1 hm; exact absurd hm (Nat.not_lt_zero _)
                        | succ n ih241 =>
                          intro i1 fw_h I1 hm
                          refine z_aloadn C 0 dX11_digest_241 rfl rfl ?_
                          refine z_get C 0 (by decide) rfl rfl z_it11 26 (by decide) rfl fl_11_83 rfl dX11_digest_242 ?_
                          refine z_if_eq (t := 275) C dX11_digest_245 (by decide) (by omega) (fun c20 => ?_) (fun c20 => ?_)
                          · skip
                            refine z_aloadn C 0 dX11_digest_275 rfl rfl ?_
                            refine z_get C 0 (by decide) rfl rfl z_it11 31 (by decide) rfl fl_11_234 rfl dX11_digest_276 ?_
                            rw [hQ]
                            exact z_lret C hrt dX11_digest_279 (⟨fw_h, rfl, rfl, _, rfl⟩) (by omega) (by omega)
                          · skip
                            refine z_iloadn C 1 dX11_digest_248 rfl rfl ?_
                            refine z_bipush C dX11_digest_249 (by decide) ?_
                            refine z_icmp_ge (t := 275) C dX11_digest_251 (by decide) (by omega) (by omega) (fun c21 => ?_) (fun c21 => ?_)
                            · skip
                              refine z_aloadn C 0 dX11_digest_275 rfl rfl ?_
                              refine z_get C 0 (by decide) rfl rfl z_it11 31 (by decide) rfl fl_11_234 rfl dX11_digest_276 ?_
                              rw [hQ]
                              exact z_lret C hrt dX11_digest_279 (⟨fw_h, rfl, rfl, _, rfl⟩) (by omega) (by omega)
                            · skip
                              refine z_iloadn C 1 dX11_digest_254 rfl rfl ?_
                              refine z_iconst C dX11_digest_255 ?_
                              refine z_icmp_eq (t := 269) C dX11_digest_256 (by decide) (by omega) (by omega) (fun c22 => ?_) (fun c22 => ?_)
                              · skip
                                refine z_iinc (L' := [(1, z_v (i1 + 1)), (0, .ref (ad 0))]) C 1 dX11_digest_269 rfl (by decide) rfl ?_
                                refine z_goto (t := 241) C dX11_digest_272 (by decide) ?_
                                refine z_loc (L' := [(0, .ref (ad 0)), (1, z_v (i1 + 1))]) [1, 0] rfl ?_
                                exact ih241 (i1 + 1) fw_h (by omega) (by omega)
                              · skip
                                refine z_aloadn C 0 dX11_digest_259 rfl rfl ?_
                                refine z_aloadn C 0 dX11_digest_260 rfl rfl ?_
                                refine z_iloadn C 1 dX11_digest_261 rfl rfl ?_
                                refine z_callV C (cm_X11_run l i1 (by omega) (by omega)) mv_11_247 (z_atS 0 11 (by decide) rfl rfl rfl) pd_X11_run ⟨by omega, by omega⟩ ⟨by omega, by omega⟩ rfl (Nat.le_of_ble_eq_true rfl) dX11_digest_262 ?_
                                rintro _ _ _ ⟨rfl, rfl, z25, rfl, hz25⟩
                                refine z_i2l C dX11_digest_265 ?_
                                refine z_callV C (cm_X11_mix l ((z_i z25).toInt64)) mv_11_243 (z_atS 0 11 (by decide) rfl rfl rfl) pd_X11_mix ⟨by omega, by omega⟩ ⟨by omega, by omega⟩ rfl (Nat.le_of_ble_eq_true rfl) dX11_digest_266 ?_
                                rintro _ _ _ ⟨n26, rfl, rfl, rfl⟩
                                refine z_iinc (L' := [(1, z_v (i1 + 1)), (0, .ref (ad 0))]) C 1 dX11_digest_269 rfl (by decide) rfl ?_
                                refine z_goto (t := 241) C dX11_digest_272 (by decide) ?_
                                refine z_loc (L' := [(0, .ref (ad 0)), (1, z_v (i1 + 1))]) [1, 0] rfl ?_
                                exact ih241 (i1 + 1) n26 (by omega) (by omega)
                      refine z_loc (L' := [(0, .ref (ad 0)), (1, z_v 0)]) [1, 0] rfl ?_
                      exact (L241 (((9 : Int) - 0).toNat + 1)) 0 n17 (by omega) (Nat.lt_succ_self _)
                  · skip
                    refine z_iloadn C 1 dX11_digest_154 rfl rfl ?_
                    refine z_aloadn C 0 dX11_digest_155 rfl rfl ?_
                    refine z_get C 0 (by decide) rfl rfl z_it11 12 (by decide) rfl fl_11_94 rfl dX11_digest_156 ?_
                    refine z_icmp_ge (t := 223) C dX11_digest_159 (by decide) (by omega) (by omega) (fun c29 => ?_) (fun c29 => ?_)
                    · skip
                      refine z_aloadn C 0 dX11_digest_223 rfl rfl ?_
                      refine z_aloadn C 0 dX11_digest_224 rfl rfl ?_
                      refine z_get C 0 (by decide) rfl rfl z_it11 26 (by decide) rfl fl_11_83 rfl dX11_digest_225 ?_
                      refine z_if_eq (t := 235) C dX11_digest_228 (by decide) (by omega) (fun c30 => ?_) (fun c30 => ?_)
                      · skip
                        refine z_lconst (w := 0) C dX11_digest_235 (by decide) ?_
                        refine z_callV C (cm_X11_mix l (0 : Int64)) mv_11_243 (z_atS 0 11 (by decide) rfl rfl rfl) pd_X11_mix ⟨by omega, by omega⟩ ⟨by omega, by omega⟩ rfl (Nat.le_of_ble_eq_true rfl) dX11_digest_236 ?_
                        rintro _ _ _ ⟨n31, rfl, rfl, rfl⟩
                        refine z_iconst C dX11_digest_239 ?_
                        refine z_istoren (L' := [(1, z_v 0), (0, .ref (ad 0))]) C dX11_digest_240 rfl (by decide) rfl ?_
                        have L241 : ∀ (n : Nat), ∀ (i1 : Int) (fw_h : Int64), (0 ≤ i1 ∧ i1 ≤ 9) → ((9 : Int) - i1).toNat < n → z_V p l e R s m args below meth c Q D A 24 ad 3 (z_zm ad ks s_edges s_isNeeded s_explored s_states s_isMoved s_runs s_runTime s_runMoves fw_h a_machine a_from a_to a_channel a_resets a_guards a_guardOf a_limits a_limitOf a_places a_zones a_parent a_moveE a_moveF a_moves a_z a_ahead a_at a_amounts a_way a_moments a_runAt a_runClock) Y 0 0 241 [(0, .ref (ad 0)), (1, z_v i1)] [] := by
                          intro n
                          induction n with
                          | zero => intro i1 fw_h I1 hm; exact absurd hm (Nat.not_lt_zero _)
                          | succ n ih241 =>
                            intro i1 fw_h I1 hm
                            refine z_aloadn C 0 dX11_digest_241 rfl rfl ?_
                            refine z_get C 0 (by decide) rfl rfl z_it11 26 (by decide) rfl fl_11_83 rfl dX11_digest_242 ?_
                            refine z_if_eq (t := 275) C dX11_digest_245 (by decide) (by omega) (fun c34 => ?_) (fun c34 => ?_)
                            · skip
                              refine z_aloadn C 0 dX11_digest_275 rfl rfl ?_
                              refine z_get C 0 (by decide) rfl rfl z_it11 31 (by decide) rfl fl_11_234 rfl dX11_digest_276 ?_
                              rw [hQ]
                              exact z_lret C hrt dX11_digest_279 (⟨fw_h, rfl, rfl, _, rfl⟩) (by omega) (by omega)
                            · skip
                              refine z_iloadn C 1 dX11_digest_248 rfl rfl ?_
                              refine z_bipush C dX11_digest_249 (by decide) ?_
                              refine z_icmp_ge (t := 275) C dX11_digest_251 (by decide) (by omega) (by omega) (fun c35 => ?_) (fun c35 => ?_)
                              · skip
                                refine z_aloadn C 0 dX11_digest_275 rfl rfl ?_
                                refine z_get C 0 (by decide) rfl rfl z_it11 31 (by decide) rfl fl_11_234 rfl dX11_digest_276 ?_
                                rw [hQ]
                                exact z_lret C hrt dX11_digest_279 (⟨fw_h, rfl, rfl, _, rfl⟩) (by omega) (by omega)
                              · skip
                                refine z_iloadn C 1 dX11_digest_254 rfl rfl ?_
                                refine z_iconst C dX11_digest_255 ?_
                                refine z_icmp_eq (t := 269) C dX11_digest_256 (by decide) (by omega) (by omega) (fun c36 => ?_) (fun c36 => ?_)
                                · skip
                                  refine z_iinc (L' := [(1, z_v (i1 + 1)), (0, .ref (ad 0))]) C 1 dX11_digest_269 rfl (by decide) rfl ?_
                                  refine z_goto (t := 241) C dX11_digest_272 (by decide) ?_
                                  refine z_loc (L' := [(0, .ref (ad 0)), (1, z_v (i1 + 1))]) [1, 0] rfl ?_
                                  exact ih241 (i1 + 1) fw_h (by omega) (by omega)
                                · skip
                                  refine z_aloadn C 0 dX11_digest_259 rfl rfl ?_
                                  refine z_aloadn C 0 dX11_digest_260 rfl rfl ?_
                                  refine z_iloadn C 1 dX11_digest_261 rfl rfl ?_
                                  refine z_callV C (cm_X11_run l i1 (by omega) (by omega)) mv_11_247 (z_atS 0 11 (by decide) rfl rfl rfl) pd_X11_run ⟨by omega, by omega⟩ ⟨by omega, by omega⟩ rfl (Nat.le_of_ble_eq_true rfl) dX11_digest_262 ?_
                                  rintro _ _ _ ⟨rfl, rfl, z39, rfl, hz39⟩
                                  refine z_i2l C dX11_digest_265 ?_
                                  refine z_callV C (cm_X11_mix l ((z_i z39).toInt64)) mv_11_243 (z_atS 0 11 (by decide) rfl rfl rfl) pd_X11_mix ⟨by omega, by omega⟩ ⟨by omega, by omega⟩ rfl (Nat.le_of_ble_eq_true rfl) dX11_digest_266 ?_
                                  rintro _ _ _ ⟨n40, rfl, rfl, rfl⟩
                                  refine z_iinc (L' := [(1, z_v (i1 + 1)), (0, .ref (ad 0))]) C 1 dX11_digest_269 rfl (by decide) rfl ?_
                                  refine z_goto (t := 241) C dX11_digest_272 (by decide) ?_
                                  refine z_loc (L' := [(0, .ref (ad 0)), (1, z_v (i1 + 1))]) [1, 0] rfl ?_
                                  exact ih241 (i1 + 1) n40 (by omega) (by omega)
                        refine z_loc (L' := [(0, .ref (ad 0)), (1, z_v 0)]) [1, 0] rfl ?_
                        exact (L241 (((9 : Int) - 0).toNat + 1)) 0 n31 (by omega) (Nat.lt_succ_self _)
                      · skip
                        refine z_lconst (w := 1) C dX11_digest_231 (by decide) ?_
                        refine z_goto (t := 236) C dX11_digest_232 (by decide) ?_
                        refine z_callV C (cm_X11_mix l (1 : Int64)) mv_11_243 (z_atS 0 11 (by decide) rfl rfl rfl) pd_X11_mix ⟨by omega, by omega⟩ ⟨by omega, by omega⟩ rfl (Nat.le_of_ble_eq_true rfl) dX11_digest_236 ?_
                        rintro _ _ _ ⟨n43, rfl, rfl, rfl⟩
                        refine z_iconst C dX11_digest_239 ?_
                        refine z_istoren (L' := [(1, z_v 0), (0, .ref (ad 0))]) C dX11_digest_240 rfl (by decide) rfl ?_
                        have L241 : ∀ (n : Nat), ∀ (i1 : Int) (fw_h : Int64), (0 ≤ i1 ∧ i1 ≤ 9) → ((9 : Int) - i1).toNat < n → z_V p l e R s m args below meth c Q D A 24 ad 3 (z_zm ad ks s_edges s_isNeeded s_explored s_states s_isMoved s_runs s_runTime s_runMoves fw_h a_machine a_from a_to a_channel a_resets a_guards a_guardOf a_limits a_limitOf a_places a_zones a_parent a_moveE a_moveF a_moves a_z a_ahead a_at a_amounts a_way a_moments a_runAt a_runClock) Y 0 0 241 [(0, .ref (ad 0)), (1, z_v i1)] [] := by
                          intro n
                          induction n with
                          | zero => intro i1 fw_h I1 hm; exact absurd hm (Nat.not_lt_zero _)
                          | succ n ih241 =>
                            intro i1 fw_h I1 hm
                            refine z_aloadn C 0 dX11_digest_241 rfl rfl ?_
                            refine z_get C 0 (by decide) rfl rfl z_it11 26 (by decide) rfl fl_11_83 rfl dX11_digest_242 ?_
                            refine z_if_eq (t := 275) C dX11_digest_245 (by decide) (by omega) (fun c46 => ?_) (fun c46 => ?_)
                            · skip
                              refine z_aloadn C 0 dX11_digest_275 rfl rfl ?_
                              refine z_get C 0 (by decide) rfl rfl z_it11 31 (by decide) rfl fl_11_234 rfl dX11_digest_276 ?_
                              rw [hQ]
                              exact z_lret C hrt dX11_digest_279 (⟨fw_h, rfl, rfl, _, rfl⟩) (by omega) (by omega)
                            · skip
                              refine z_iloadn C 1 dX11_digest_248 rfl rfl ?_
                              refine z_bipush C dX11_digest_249 (by decide) ?_
                              refine z_icmp_ge (t := 275) C dX11_digest_251 (by decide) (by omega) (by omega) (fun c47 => ?_) (fun c47 => ?_)
                              · skip
                                refine z_aloadn C 0 dX11_digest_275 rfl rfl ?_
                                refine z_get C 0 (by decide) rfl rfl z_it11 31 (by decide) rfl fl_11_234 rfl dX11_digest_276 ?_
                                rw [hQ]
                                exact z_lret C hrt dX11_digest_279 (⟨fw_h, rfl, rfl, _, rfl⟩) (by omega) (by omega)
                              · skip
                                refine z_iloadn C 1 dX11_digest_254 rfl rfl ?_
                                refine z_iconst C dX11_digest_255 ?_
                                refine z_icmp_eq (t := 269) C dX11_digest_256 (by decide) (by omega) (by omega) (fun c48 => ?_) (fun c48 => ?_)
                                · skip
                                  refine z_iinc (L' := [(1, z_v (i1 + 1)), (0, .ref (ad 0))]) C 1 dX11_digest_269 rfl (by decide) rfl ?_
                                  refine z_goto (t := 241) C dX11_digest_272 (by decide) ?_
                                  refine z_loc (L' := [(0, .ref (ad 0)), (1, z_v (i1 + 1))]) [1, 0] rfl ?_
                                  exact ih241 (i1 + 1) fw_h (by omega) (by omega)
                                · skip
                                  refine z_aloadn C 0 dX11_digest_259 rfl rfl ?_
                                  refine z_aloadn C 0 dX11_digest_260 rfl rfl ?_
                                  refine z_iloadn C 1 dX11_digest_261 rfl rfl ?_
                                  refine z_callV C (cm_X11_run l i1 (by omega) (by omega)) mv_11_247 (z_atS 0 11 (by decide) rfl rfl rfl) pd_X11_run ⟨by omega, by omega⟩ ⟨by omega, by omega⟩ rfl (Nat.le_of_ble_eq_true rfl) dX11_digest_262 ?_
                                  rintro _ _ _ ⟨rfl, rfl, z51, rfl, hz51⟩
                                  refine z_i2l C dX11_digest_265 ?_
                                  refine z_callV C (cm_X11_mix l ((z_i z51).toInt64)) mv_11_243 (z_atS 0 11 (by decide) rfl rfl rfl) pd_X11_mix ⟨by omega, by omega⟩ ⟨by omega, by omega⟩ rfl (Nat.le_of_ble_eq_true rfl) dX11_digest_266 ?_
                                  rintro _ _ _ ⟨n52, rfl, rfl, rfl⟩
                                  refine z_iinc (L' := [(1, z_v (i1 + 1)), (0, .ref (ad 0))]) C 1 dX11_digest_269 rfl (by decide) rfl ?_
                                  refine z_goto (t := 241) C dX11_digest_272 (by decide) ?_
                                  refine z_loc (L' := [(0, .ref (ad 0)), (1, z_v (i1 + 1))]) [1, 0] rfl ?_
                                  exact ih241 (i1 + 1) n52 (by omega) (by omega)
                        refine z_loc (L' := [(0, .ref (ad 0)), (1, z_v 0)]) [1, 0] rfl ?_
                        exact (L241 (((9 : Int) - 0).toNat + 1)) 0 n43 (by omega) (Nat.lt_succ_self _)
                    · skip
                      refine z_iconst C dX11_digest_162 ?_
                      refine z_istoren (L' := [(2, z_v 0), (0, .ref (ad 0)), (1, z_v i1)]) C dX11_digest_163 rfl (by decide) rfl ?_
                      have L164 : ∀ (n : Nat), ∀ (i2 : Int) (fw_h : Int64), (0 ≤ i2 ∧ i2 ≤ 7) → ((7 : Int) - i2).toNat < n → z_V p l e R s m args below meth c Q D A 24 ad 3 (z_zm ad ks s_edges s_isNeeded s_explored s_states s_isMoved s_runs s_runTime s_runMoves fw_h a_machine a_from a_to a_channel a_resets a_guards a_guardOf a_limits a_limitOf a_places a_zones a_parent a_moveE a_moveF a_moves a_z a_ahead a_at a_amounts a_way a_moments a_runAt a_runClock) Y 0 0 164 [(0, .ref (ad 0)), (1, z_v i1), (2, z_v i2)] [] := by
                        intro n
                        induction n with
                        | zero => intro i2 fw_h I2 hm; exact absurd hm (Nat.not_lt_zero _)
                        | succ n ih164 =>
                          intro i2 fw_h I2 hm
                          refine z_iloadn C 2 dX11_digest_164 rfl rfl ?_
                          refine z_bipush C dX11_digest_165 (by decide) ?_
                          refine z_icmp_ge (t := 187) C dX11_digest_167 (by decide) (by omega) (by omega) (fun c55 => ?_) (fun c55 => ?_)
                          · skip
                            refine z_iconst C dX11_digest_187 ?_
                            refine z_istoren (L' := [(2, z_v 0), (0, .ref (ad 0)), (1, z_v i1)]) C dX11_digest_188 rfl (by decide) rfl ?_
                            have L189 : ∀ (n : Nat), ∀ (i2 : Int) (fw_h : Int64), (0 ≤ i2 ∧ i2 ≤ 16) → ((16 : Int) - i2).toNat < n → z_V p l e R s m args below meth c Q D A 24 ad 3 (z_zm ad ks s_edges s_isNeeded s_explored s_states s_isMoved s_runs s_runTime s_runMoves fw_h a_machine a_from a_to a_channel a_resets a_guards a_guardOf a_limits a_limitOf a_places a_zones a_parent a_moveE a_moveF a_moves a_z a_ahead a_at a_amounts a_way a_moments a_runAt a_runClock) Y 0 0 189 [(0, .ref (ad 0)), (1, z_v i1), (2, z_v i2)] [] := by
                              intro n
                              induction n with
                              | zero => intro i2 fw_h I2 hm; exact absurd hm (Nat.not_lt_zero _)
                              | succ n ih189 =>
                                intro i2 fw_h I2 hm
                                refine z_iloadn C 2 dX11_digest_189 rfl rfl ?_
                                refine z_bipush C dX11_digest_190 (by decide) ?_
                                refine z_icmp_ge (t := 217) C dX11_digest_192 (by decide) (by omega) (by omega) (fun c56 => ?_) (fun c56 => ?_)
                                · skip
                                  refine z_iinc (L' := [(1, z_v (i1 + 1)), (0, .ref (ad 0)), (2, z_v i2)]) C 1 dX11_digest_217 rfl (by decide) rfl ?_
                                  refine z_goto (t := 147) C dX11_digest_220 (by decide) ?_
                                  refine z_loc (L' := [(0, .ref (ad 0)), (1, z_v (i1 + 1))]) [1, 0] rfl ?_
                                  exact ih147 (i1 + 1) fw_h (by omega) (by omega)
                                · skip
                                  refine z_aloadn C 0 dX11_digest_195 rfl rfl ?_
                                  refine z_aloadn C 0 dX11_digest_196 rfl rfl ?_
                                  refine z_get C 0 (by decide) rfl rfl z_it11 14 (by decide) rfl fl_11_44 rfl dX11_digest_197 ?_
                                  refine z_bipush C dX11_digest_200 (by decide) ?_
                                  refine z_iloadn C 1 dX11_digest_202 rfl rfl ?_
                                  refine z_imul C dX11_digest_203 ?_
                                  refine z_iloadn C 2 dX11_digest_204 rfl rfl ?_
                                  refine z_iadd C dX11_digest_205 ?_
                                  refine z_iald C 11 (by decide) rfl (by decide) (by omega) (by omega) dX11_digest_206 ?_
                                  refine z_i2l C dX11_digest_207 ?_
                                  refine z_callV C (cm_X11_mix l ((z_i (a_zones (((16 * i1) + i2) : Int).toNat)).toInt64)) mv_11_243 (z_atS 0 11 (by decide) rfl rfl rfl) pd_X11_mix ⟨by omega, by omega⟩ ⟨by omega, by omega⟩ rfl (Nat.le_of_ble_eq_true rfl) dX11_digest_208 ?_
                                  rintro _ _ _ ⟨n57, rfl, rfl, rfl⟩
                                  refine z_iinc (L' := [(2, z_v (i2 + 1)), (0, .ref (ad 0)), (1, z_v i1)]) C 2 dX11_digest_211 rfl (by decide) rfl ?_
                                  refine z_goto (t := 189) C dX11_digest_214 (by decide) ?_
                                  refine z_loc (L' := [(0, .ref (ad 0)), (1, z_v i1), (2, z_v (i2 + 1))]) [1, 2, 0] rfl ?_
                                  exact ih189 (i2 + 1) n57 (by omega) (by omega)
                            refine z_loc (L' := [(0, .ref (ad 0)), (1, z_v i1), (2, z_v 0)]) [1, 2, 0] rfl ?_
                            exact (L189 (((16 : Int) - 0).toNat + 1)) 0 fw_h (by omega) (Nat.lt_succ_self _)
                          · skip
                            refine z_aloadn C 0 dX11_digest_170 rfl rfl ?_
                            refine z_aloadn C 0 dX11_digest_171 rfl rfl ?_
                            refine z_iloadn C 1 dX11_digest_172 rfl rfl ?_
                            refine z_iloadn C 2 dX11_digest_173 rfl rfl ?_
                            refine z_callV C (cm_X11_tells l i1 i2 (by omega) (by omega)) mv_11_168 (z_atS 0 11 (by decide) rfl rfl rfl) pd_X11_tells ⟨by omega, by omega⟩ ⟨by omega, by omega⟩ rfl (Nat.le_of_ble_eq_true rfl) dX11_digest_174 ?_
                            rintro _ _ _ ⟨rfl, rfl, z62, rfl, hz62⟩
                            refine z_i2l C dX11_digest_177 ?_
                            refine z_callV C (cm_X11_mix l ((z_i z62).toInt64)) mv_11_243 (z_atS 0 11 (by decide) rfl rfl rfl) pd_X11_mix ⟨by omega, by omega⟩ ⟨by omega, by omega⟩ rfl (Nat.le_of_ble_eq_true rfl) dX11_digest_178 ?_
                            rintro _ _ _ ⟨n63, rfl, rfl, rfl⟩
                            refine z_iinc (L' := [(2, z_v (i2 + 1)), (0, .ref (ad 0)), (1, z_v i1)]) C 2 dX11_digest_181 rfl (by decide) rfl ?_
                            refine z_goto (t := 164) C dX11_digest_184 (by decide) ?_
                            refine z_loc (L' := [(0, .ref (ad 0)), (1, z_v i1), (2, z_v (i2 + 1))]) [1, 2, 0] rfl ?_
                            exact ih164 (i2 + 1) n63 (by omega) (by omega)
                      refine z_loc (L' := [(0, .ref (ad 0)), (1, z_v i1), (2, z_v 0)]) [1, 2, 0] rfl ?_
                      exact (L164 (((7 : Int) - 0).toNat + 1)) 0 fw_h (by omega) (Nat.lt_succ_self _)
              refine z_loc (L' := [(0, .ref (ad 0)), (1, z_v 0)]) [1, 0] rfl ?_
              exact (L147 (((120 : Int) - 0).toNat + 1)) 0 fw_h (by omega) (Nat.lt_succ_self _)
            · skip
              refine z_aloadn C 0 dX11_digest_92 rfl rfl ?_
              refine z_aloadn C 0 dX11_digest_93 rfl rfl ?_
              refine z_get C 0 (by decide) rfl rfl z_it11 8 (by decide) rfl fl_11_31 rfl dX11_digest_94 ?_
              refine z_iloadn C 1 dX11_digest_97 rfl rfl ?_
              refine z_iald C 8 (by decide) rfl (by decide) (by omega) (by omega) dX11_digest_98 ?_
              have rx66 := Ha_limits (i1 : Int).toNat
              generalize ex66 : a_limits (i1 : Int).toNat = x66 at rx66 ⊢
              refine z_i2l C dX11_digest_99 ?_
              refine z_callV C (cm_X11_mix l ((z_i x66).toInt64)) mv_11_243 (z_atS 0 11 (by decide) rfl rfl rfl) pd_X11_mix ⟨by omega, by omega⟩ ⟨by omega, by omega⟩ rfl (Nat.le_of_ble_eq_true rfl) dX11_digest_100 ?_
              rintro _ _ _ ⟨n67, rfl, rfl, rfl⟩
              refine z_iconst C dX11_digest_103 ?_
              refine z_istoren (L' := [(2, z_v 0), (0, .ref (ad 0)), (1, z_v i1)]) C dX11_digest_104 rfl (by decide) rfl ?_
              have L105 : ∀ (n : Nat), ∀ (i2 : Int) (fw_h : Int64), (0 ≤ i2 ∧ i2 ≤ 6) → ((6 : Int) - i2).toNat < n → z_V p l e R s m args below meth c Q D A 24 ad 3 (z_zm ad ks s_edges s_isNeeded s_explored s_states s_isMoved s_runs s_runTime s_runMoves fw_h a_machine a_from a_to a_channel a_resets a_guards a_guardOf a_limits a_limitOf a_places a_zones a_parent a_moveE a_moveF a_moves a_z a_ahead a_at a_amounts a_way a_moments a_runAt a_runClock) Y 0 0 105 [(0, .ref (ad 0)), (1, z_v i1), (2, z_v i2)] [] := by
                intro n
                induction n with
                | zero => intro i2 fw_h I2 hm; exact absurd hm (Nat.not_lt_zero _)
                | succ n ih105 =>
                  intro i2 fw_h I2 hm
                  refine z_iloadn C 2 dX11_digest_105 rfl rfl ?_
                  refine z_iconst C dX11_digest_106 ?_
                  refine z_aloadn C 0 dX11_digest_107 rfl rfl ?_
                  refine z_get C 0 (by decide) rfl rfl z_it11 8 (by decide) rfl fl_11_31 rfl dX11_digest_108 ?_
                  refine z_iloadn C 1 dX11_digest_111 rfl rfl ?_
                  refine z_iald C 8 (by decide) rfl (by decide) (by omega) (by omega) dX11_digest_112 ?_
                  have rx70 := Ha_limits (i1 : Int).toNat
                  generalize ex70 : a_limits (i1 : Int).toNat = x70 at rx70 ⊢
                  refine z_imul C dX11_digest_113 ?_
                  refine z_icmp_ge (t := 139) C dX11_digest_114 (by decide) (by omega) (by omega) (fun c71 => ?_) (fun c71 => ?_)
                  · skip
                    refine z_iinc (L' := [(1, z_v (i1 + 1)), (0, .ref (ad 0)), (2, z_v i2)]) C 1 dX11_digest_139 rfl (by decide) rfl ?_
                    refine z_goto (t := 86) C dX11_digest_142 (by decide) ?_
                    refine z_loc (L' := [(0, .ref (ad 0)), (1, z_v (i1 + 1))]) [1, 0] rfl ?_
                    exact ih86 (i1 + 1) fw_h (by omega) (by omega)
                  · skip
                    refine z_aloadn C 0 dX11_digest_117 rfl rfl ?_
                    refine z_aloadn C 0 dX11_digest_118 rfl rfl ?_
                    refine z_get C 0 (by decide) rfl rfl z_it11 9 (by decide) rfl fl_11_34 rfl dX11_digest_119 ?_
                    refine z_bipush C dX11_digest_122 (by decide) ?_
                    refine z_iloadn C 1 dX11_digest_124 rfl rfl ?_
                    refine z_imul C dX11_digest_125 ?_
                    refine z_iloadn C 2 dX11_digest_126 rfl rfl ?_
                    refine z_iadd C dX11_digest_127 ?_
                    refine z_iald C 9 (by decide) rfl (by decide) (by omega) (by omega) dX11_digest_128 ?_
                    have rx72 := Ha_limitOf (((6 * i1) + i2) : Int).toNat
                    generalize ex72 : a_limitOf (((6 * i1) + i2) : Int).toNat = x72 at rx72 ⊢
                    refine z_i2l C dX11_digest_129 ?_
                    refine z_callV C (cm_X11_mix l ((z_i x72).toInt64)) mv_11_243 (z_atS 0 11 (by decide) rfl rfl rfl) pd_X11_mix ⟨by omega, by omega⟩ ⟨by omega, by omega⟩ rfl (Nat.le_of_ble_eq_true rfl) dX11_digest_130 ?_
                    rintro _ _ _ ⟨n73, rfl, rfl, rfl⟩
                    refine z_iinc (L' := [(2, z_v (i2 + 1)), (0, .ref (ad 0)), (1, z_v i1)]) C 2 dX11_digest_133 rfl (by decide) rfl ?_
                    refine z_goto (t := 105) C dX11_digest_136 (by decide) ?_
                    refine z_loc (L' := [(0, .ref (ad 0)), (1, z_v i1), (2, z_v (i2 + 1))]) [1, 2, 0] rfl ?_
                    exact ih105 (i2 + 1) n73 (by omega) (by omega)
              refine z_loc (L' := [(0, .ref (ad 0)), (1, z_v i1), (2, z_v 0)]) [1, 2, 0] rfl ?_
              exact (L105 (((6 : Int) - 0).toNat + 1)) 0 n67 (by omega) (Nat.lt_succ_self _)
        refine z_loc (L' := [(0, .ref (ad 0)), (1, z_v 0)]) [1, 0] rfl ?_
        exact (L86 (((18 : Int) - 0).toNat + 1)) 0 fw_h (by omega) (Nat.lt_succ_self _)
      · skip
        refine z_iconst C dX11_digest_17 ?_
        refine z_istoren (L' := [(2, z_v 0), (0, .ref (ad 0)), (1, z_v i1)]) C dX11_digest_18 rfl (by decide) rfl ?_
        have L19 : ∀ (n : Nat), ∀ (i2 : Int) (fw_h : Int64), (0 ≤ i2 ∧ i2 ≤ 6) → ((6 : Int) - i2).toNat < n → z_V p l e R s m args below meth c Q D A 24 ad 3 (z_zm ad ks s_edges s_isNeeded s_explored s_states s_isMoved s_runs s_runTime s_runMoves fw_h a_machine a_from a_to a_channel a_resets a_guards a_guardOf a_limits a_limitOf a_places a_zones a_parent a_moveE a_moveF a_moves a_z a_ahead a_at a_amounts a_way a_moments a_runAt a_runClock) Y 0 0 19 [(0, .ref (ad 0)), (1, z_v i1), (2, z_v i2)] [] := by
          intro n
          induction n with
          | zero => intro i2 fw_h I2 hm; exact absurd hm (Nat.not_lt_zero _)
          | succ n ih19 =>
            intro i2 fw_h I2 hm
            refine z_iloadn C 2 dX11_digest_19 rfl rfl ?_
            refine z_bipush C dX11_digest_20 (by decide) ?_
            refine z_icmp_ge (t := 42) C dX11_digest_22 (by decide) (by omega) (by omega) (fun c76 => ?_) (fun c76 => ?_)
            · skip
              refine z_iconst C dX11_digest_42 ?_
              refine z_istoren (L' := [(2, z_v 0), (0, .ref (ad 0)), (1, z_v i1)]) C dX11_digest_43 rfl (by decide) rfl ?_
              have L44 : ∀ (n : Nat), ∀ (i2 : Int) (fw_h : Int64), (0 ≤ i2 ∧ i2 ≤ 6) → ((6 : Int) - i2).toNat < n → z_V p l e R s m args below meth c Q D A 24 ad 3 (z_zm ad ks s_edges s_isNeeded s_explored s_states s_isMoved s_runs s_runTime s_runMoves fw_h a_machine a_from a_to a_channel a_resets a_guards a_guardOf a_limits a_limitOf a_places a_zones a_parent a_moveE a_moveF a_moves a_z a_ahead a_at a_amounts a_way a_moments a_runAt a_runClock) Y 0 0 44 [(0, .ref (ad 0)), (1, z_v i1), (2, z_v i2)] [] := by
                intro n
                induction n with
                | zero => intro i2 fw_h I2 hm; exact absurd hm (Nat.not_lt_zero _)
                | succ n ih44 =>
                  intro i2 fw_h I2 hm
                  refine z_iloadn C 2 dX11_digest_44 rfl rfl ?_
                  refine z_iconst C dX11_digest_45 ?_
                  refine z_aloadn C 0 dX11_digest_46 rfl rfl ?_
                  refine z_get C 0 (by decide) rfl rfl z_it11 6 (by decide) rfl fl_11_25 rfl dX11_digest_47 ?_
                  refine z_iloadn C 1 dX11_digest_50 rfl rfl ?_
                  refine z_iald C 6 (by decide) rfl (by decide) (by omega) (by omega) dX11_digest_51 ?_
                  have rx77 := Ha_guards (i1 : Int).toNat
                  generalize ex77 : a_guards (i1 : Int).toNat = x77 at rx77 ⊢
                  refine z_imul C dX11_digest_52 ?_
                  refine z_icmp_ge (t := 78) C dX11_digest_53 (by decide) (by omega) (by omega) (fun c78 => ?_) (fun c78 => ?_)
                  · skip
                    refine z_iinc (L' := [(1, z_v (i1 + 1)), (0, .ref (ad 0)), (2, z_v i2)]) C 1 dX11_digest_78 rfl (by decide) rfl ?_
                    refine z_goto (t := 9) C dX11_digest_81 (by decide) ?_
                    refine z_loc (L' := [(0, .ref (ad 0)), (1, z_v (i1 + 1))]) [1, 0] rfl ?_
                    exact ih9 (i1 + 1) fw_h (by omega) (by omega)
                  · skip
                    refine z_aloadn C 0 dX11_digest_56 rfl rfl ?_
                    refine z_aloadn C 0 dX11_digest_57 rfl rfl ?_
                    refine z_get C 0 (by decide) rfl rfl z_it11 7 (by decide) rfl fl_11_28 rfl dX11_digest_58 ?_
                    refine z_bipush C dX11_digest_61 (by decide) ?_
                    refine z_iloadn C 1 dX11_digest_63 rfl rfl ?_
                    refine z_imul C dX11_digest_64 ?_
                    refine z_iloadn C 2 dX11_digest_65 rfl rfl ?_
                    refine z_iadd C dX11_digest_66 ?_
                    refine z_iald C 7 (by decide) rfl (by decide) (by omega) (by omega) dX11_digest_67 ?_
                    have rx79 := Ha_guardOf (((6 * i1) + i2) : Int).toNat
                    generalize ex79 : a_guardOf (((6 * i1) + i2) : Int).toNat = x79 at rx79 ⊢
                    refine z_i2l C dX11_digest_68 ?_
                    refine z_callV C (cm_X11_mix l ((z_i x79).toInt64)) mv_11_243 (z_atS 0 11 (by decide) rfl rfl rfl) pd_X11_mix ⟨by omega, by omega⟩ ⟨by omega, by omega⟩ rfl (Nat.le_of_ble_eq_true rfl) dX11_digest_69 ?_
                    rintro _ _ _ ⟨n80, rfl, rfl, rfl⟩
                    refine z_iinc (L' := [(2, z_v (i2 + 1)), (0, .ref (ad 0)), (1, z_v i1)]) C 2 dX11_digest_72 rfl (by decide) rfl ?_
                    refine z_goto (t := 44) C dX11_digest_75 (by decide) ?_
                    refine z_loc (L' := [(0, .ref (ad 0)), (1, z_v i1), (2, z_v (i2 + 1))]) [1, 2, 0] rfl ?_
                    exact ih44 (i2 + 1) n80 (by omega) (by omega)
              refine z_loc (L' := [(0, .ref (ad 0)), (1, z_v i1), (2, z_v 0)]) [1, 2, 0] rfl ?_
              exact (L44 (((6 : Int) - 0).toNat + 1)) 0 fw_h (by omega) (Nat.lt_succ_self _)
            · skip
              refine z_aloadn C 0 dX11_digest_25 rfl rfl ?_
              refine z_aloadn C 0 dX11_digest_26 rfl rfl ?_
              refine z_iloadn C 1 dX11_digest_27 rfl rfl ?_
              refine z_iloadn C 2 dX11_digest_28 rfl rfl ?_
              refine z_callV C (cm_X11_about l i1 i2 (by omega) (by omega) (by omega)) mv_11_240 (z_atS 0 11 (by decide) rfl rfl rfl) pd_X11_about ⟨by omega, by omega⟩ ⟨by omega, by omega⟩ rfl (Nat.le_of_ble_eq_true rfl) dX11_digest_29 ?_
              rintro _ _ _ ⟨rfl, rfl, z85, rfl, hz85⟩
              refine z_i2l C dX11_digest_32 ?_
              refine z_callV C (cm_X11_mix l ((z_i z85).toInt64)) mv_11_243 (z_atS 0 11 (by decide) rfl rfl rfl) pd_X11_mix ⟨by omega, by omega⟩ ⟨by omega, by omega⟩ rfl (Nat.le_of_ble_eq_true rfl) dX11_digest_33 ?_
              rintro _ _ _ ⟨n86, rfl, rfl, rfl⟩
              refine z_iinc (L' := [(2, z_v (i2 + 1)), (0, .ref (ad 0)), (1, z_v i1)]) C 2 dX11_digest_36 rfl (by decide) rfl ?_
              refine z_goto (t := 19) C dX11_digest_39 (by decide) ?_
              refine z_loc (L' := [(0, .ref (ad 0)), (1, z_v i1), (2, z_v (i2 + 1))]) [1, 2, 0] rfl ?_
              exact ih19 (i2 + 1) n86 (by omega) (by omega)
        refine z_loc (L' := [(0, .ref (ad 0)), (1, z_v i1), (2, z_v 0)]) [1, 2, 0] rfl ?_
        exact (L19 (((6 : Int) - 0).toNat + 1)) 0 fw_h (by omega) (Nat.lt_succ_self _)
  refine z_loc (L' := [(0, .ref (ad 0)), (1, z_v 0)]) [1, 0] rfl ?_
  exact (L9 (((20 : Int) - 0).toNat + 1)) 0 (71 : Int64) (by omega) (Nat.lt_succ_self _)
