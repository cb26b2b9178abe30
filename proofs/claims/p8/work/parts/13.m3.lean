set_option maxRecDepth 20000 in
theorem cm_X11_keepLimits (l : Launch) {D : va_G} {A : Nat → Prop} {ad : Nat → Nat} {ks : z_Ks} {s_edges s_isNeeded s_explored s_states s_isMoved s_runs s_runTime s_runMoves : Int} {w_h : Int64} {a_machine a_from a_to a_channel a_resets a_guards a_guardOf a_limits a_limitOf a_places a_zones a_parent a_moveE a_moveF a_moves a_z a_ahead a_at a_amounts a_way a_moments a_runAt a_runClock : Nat → Int} {Y : Nat → Option va_E} (Ha_at : (∀ j, 0 ≤ a_at j ∧ a_at j ≤ 5)) (Ha_limits : (∀ j, 0 ≤ a_limits j ∧ a_limits j ≤ 2)) (Ha_limitOf : (∀ j, (j % 3 = 0 → a_limitOf j ≤ 3) ∧ 0 ≤ a_limitOf j ∧ a_limitOf j ≤ 1000)) (Ha_z : (∀ j, z_rg (a_z j))) : z_Met l yX11_keepLimits cX11_keepLimits 5 (some .boolean) 2 46 0 0 D A 24 ad ks [.ref (ad 0)] (z_zm ad ks s_edges s_isNeeded s_explored s_states s_isMoved s_runs s_runTime s_runMoves w_h a_machine a_from a_to a_channel a_resets a_guards a_guardOf a_limits a_limitOf a_places a_zones a_parent a_moveE a_moveF a_moves a_z a_ahead a_at a_amounts a_way a_moments a_runAt a_runClock) Y (fun r S' Y' => ∃ na_z : Nat → Int, S' = (z_zm ad ks s_edges s_isNeeded s_explored s_states s_isMoved s_runs s_runTime s_runMoves w_h a_machine a_from a_to a_channel a_resets a_guards a_guardOf a_limits a_limitOf a_places a_zones a_parent a_moveE a_moveF a_moves na_z a_ahead a_at a_amounts a_way a_moments a_runAt a_runClock) ∧ Y = Y' ∧ (∀ j, z_rg (na_z j)) ∧ ∃ z : Int, r = some (z_v z) ∧ (z = 0 ∨ z = 1)) := by
  refine z_start2 (by decide) (Nat.le_of_ble_eq_true rfl) ?_
  intro p e R s m args below meth c Q C hRf hRc hRs hRl hQ hrt hnm
  refine z_loc (L' := [(0, .ref (ad 0))]) [0] rfl ?_
  refine z_iconst C dX11_keepLimits_0 ?_
  refine z_istoren (L' := [(1, z_v 0), (0, .ref (ad 0))]) C dX11_keepLimits_1 rfl (by decide) rfl ?_
  have L2 : ∀ (n : Nat), ∀ (i1 : Int) (fa_z : Nat → Int), ((∀ j, z_rg (fa_z j))) → (0 ≤ i1 ∧ i1 ≤ 3) → ((3 : Int) - i1).toNat < n → z_V p l e R s m args below meth c Q D A 24 ad 5 (z_zm ad ks s_edges s_isNeeded s_explored s_states s_isMoved s_runs s_runTime s_runMoves w_h a_machine a_from a_to a_channel a_resets a_guards a_guardOf a_limits a_limitOf a_places a_zones a_parent a_moveE a_moveF a_moves fa_z a_ahead a_at a_amounts a_way a_moments a_runAt a_runClock) Y 0 0 2 [(0, .ref (ad 0)), (1, z_v i1)] [] := by
    intro n
    induction n with
    | zero => intro i1 fa_z Hfa_z I1 hm; exact absurd hm (Nat.not_lt_zero _)
    | succ n ih2 =>
      intro i1 fa_z Hfa_z I1 hm
      refine z_iloadn C 1 dX11_keepLimits_2 rfl rfl ?_
      refine z_iconst C dX11_keepLimits_3 ?_
      refine z_icmp_ge (t := 82) C dX11_keepLimits_4 (by decide) (by omega) (by omega) (fun c1 => ?_) (fun c1 => ?_)
      · skip
        refine z_aloadn C 0 dX11_keepLimits_82 rfl rfl ?_
        refine z_callV C (cm_X11_close l Hfa_z) mv_11_125 (z_atS 0 11 (by decide) rfl rfl rfl) pd_X11_close ⟨by omega, by omega⟩ ⟨by omega, by omega⟩ rfl (Nat.le_of_ble_eq_true rfl) dX11_keepLimits_83 ?_
        rintro _ _ _ ⟨n2, rfl, rfl, h5, z6, rfl, hz6⟩
        rw [hQ]
        exact z_zret C hrt (by omega) dX11_keepLimits_86 (⟨n2, rfl, rfl, h5, _, rfl, by omega⟩) (by omega) (by omega)
      · skip
        refine z_bipush C dX11_keepLimits_7 (by decide) ?_
        refine z_iloadn C 1 dX11_keepLimits_9 rfl rfl ?_
        refine z_imul C dX11_keepLimits_10 ?_
        refine z_aloadn C 0 dX11_keepLimits_11 rfl rfl ?_
        refine z_get C 0 (by decide) rfl rfl z_it11 21 (by decide) rfl fl_11_65 rfl dX11_keepLimits_12 ?_
        refine z_iloadn C 1 dX11_keepLimits_15 rfl rfl ?_
        refine z_iald C 18 (by decide) rfl (by decide) (by omega) (by omega) dX11_keepLimits_16 ?_
        have rx7 := Ha_at (i1 : Int).toNat
        generalize ex7 : a_at (i1 : Int).toNat = x7 at rx7 ⊢
        refine z_iadd C dX11_keepLimits_17 ?_
        refine z_istoren (L' := [(2, z_v ((6 * i1) + x7)), (0, .ref (ad 0)), (1, z_v i1)]) C dX11_keepLimits_18 rfl (by decide) rfl ?_
        refine z_iconst C dX11_keepLimits_19 ?_
        refine z_istoren (L' := [(3, z_v 0), (2, z_v ((6 * i1) + x7)), (0, .ref (ad 0)), (1, z_v i1)]) C dX11_keepLimits_20 rfl (by decide) rfl ?_
        have L21 : ∀ (n : Nat), ∀ (i3 : Int) (fa_z : Nat → Int), ((∀ j, z_rg (fa_z j))) → (0 ≤ i3 ∧ i3 ≤ 2) → ((2 : Int) - i3).toNat < n → z_V p l e R s m args below meth c Q D A 24 ad 5 (z_zm ad ks s_edges s_isNeeded s_explored s_states s_isMoved s_runs s_runTime s_runMoves w_h a_machine a_from a_to a_channel a_resets a_guards a_guardOf a_limits a_limitOf a_places a_zones a_parent a_moveE a_moveF a_moves fa_z a_ahead a_at a_amounts a_way a_moments a_runAt a_runClock) Y 0 0 21 [(0, .ref (ad 0)), (1, z_v i1), (2, z_v ((6 * i1) + x7)), (3, z_v i3)] [] := by
          intro n
          induction n with
          | zero => intro i3 fa_z Hfa_z I3 hm; exact absurd hm (Nat.not_lt_zero _)
          | succ n ih21 =>
            intro i3 fa_z Hfa_z I3 hm
            refine z_iloadn C 3 dX11_keepLimits_21 rfl rfl ?_
            refine z_aloadn C 0 dX11_keepLimits_22 rfl rfl ?_
            refine z_get C 0 (by decide) rfl rfl z_it11 8 (by decide) rfl fl_11_31 rfl dX11_keepLimits_23 ?_
            refine z_iloadn C 2 dX11_keepLimits_26 rfl rfl ?_
            refine z_iald C 8 (by decide) rfl (by decide) (by omega) (by omega) dX11_keepLimits_27 ?_
            have rx8 := Ha_limits (((6 * i1) + x7) : Int).toNat
            generalize ex8 : a_limits (((6 * i1) + x7) : Int).toNat = x8 at rx8 ⊢
            refine z_icmp_ge (t := 76) C dX11_keepLimits_28 (by decide) (by omega) (by omega) (fun c9 => ?_) (fun c9 => ?_)
            · skip
              refine z_iinc (L' := [(1, z_v (i1 + 1)), (0, .ref (ad 0)), (2, z_v ((6 * i1) + x7)), (3, z_v i3)]) C 1 dX11_keepLimits_76 rfl (by decide) rfl ?_
              refine z_goto (t := 2) C dX11_keepLimits_79 (by decide) ?_
              refine z_loc (L' := [(0, .ref (ad 0)), (1, z_v (i1 + 1))]) [1, 0] rfl ?_
              exact ih2 (i1 + 1) fa_z Hfa_z (by omega) (by omega)
            · skip
              refine z_bipush C dX11_keepLimits_31 (by decide) ?_
              refine z_iloadn C 2 dX11_keepLimits_33 rfl rfl ?_
              refine z_imul C dX11_keepLimits_34 ?_
              refine z_iconst C dX11_keepLimits_35 ?_
              refine z_iloadn C 3 dX11_keepLimits_36 rfl rfl ?_
              refine z_imul C dX11_keepLimits_37 ?_
              refine z_iadd C dX11_keepLimits_38 ?_
              refine z_istore (L' := [(4, z_v ((6 * ((6 * i1) + x7)) + (3 * i3))), (0, .ref (ad 0)), (1, z_v i1), (2, z_v ((6 * i1) + x7)), (3, z_v i3)]) C dX11_keepLimits_39 (by decide) rfl ?_
              refine z_aloadn C 1 dX11_keepLimits_41 rfl rfl ?_
              refine z_aloadn C 1 dX11_keepLimits_42 rfl rfl ?_
              refine z_get C 0 (by decide) rfl rfl z_it11 9 (by decide) rfl fl_11_34 rfl dX11_keepLimits_43 ?_
              refine z_iload C 0 dX11_keepLimits_46 rfl ?_
              refine z_iald C 9 (by decide) rfl (by decide) (by omega) (by omega) dX11_keepLimits_48 ?_
              have rx10 := Ha_limitOf (((6 * ((6 * i1) + x7)) + (3 * i3)) : Int).toNat
              generalize ex10 : a_limitOf (((6 * ((6 * i1) + x7)) + (3 * i3)) : Int).toNat = x10 at rx10 ⊢
              refine z_aloadn C 1 dX11_keepLimits_49 rfl rfl ?_
              refine z_get C 0 (by decide) rfl rfl z_it11 9 (by decide) rfl fl_11_34 rfl dX11_keepLimits_50 ?_
              refine z_iload C 0 dX11_keepLimits_53 rfl ?_
              refine z_iconst C dX11_keepLimits_55 ?_
              refine z_iadd C dX11_keepLimits_56 ?_
              refine z_iald C 9 (by decide) rfl (by decide) (by omega) (by omega) dX11_keepLimits_57 ?_
              have rx11 := Ha_limitOf ((((6 * ((6 * i1) + x7)) + (3 * i3)) + 1) : Int).toNat
              generalize ex11 : a_limitOf ((((6 * ((6 * i1) + x7)) + (3 * i3)) + 1) : Int).toNat = x11 at rx11 ⊢
              refine z_aloadn C 1 dX11_keepLimits_58 rfl rfl ?_
              refine z_get C 0 (by decide) rfl rfl z_it11 9 (by decide) rfl fl_11_34 rfl dX11_keepLimits_59 ?_
              refine z_iload C 0 dX11_keepLimits_62 rfl ?_
              refine z_iconst C dX11_keepLimits_64 ?_
              refine z_iadd C dX11_keepLimits_65 ?_
              refine z_iald C 9 (by decide) rfl (by decide) (by omega) (by omega) dX11_keepLimits_66 ?_
              have rx12 := Ha_limitOf ((((6 * ((6 * i1) + x7)) + (3 * i3)) + 2) : Int).toNat
              generalize ex12 : a_limitOf ((((6 * ((6 * i1) + x7)) + (3 * i3)) + 2) : Int).toNat = x12 at rx12 ⊢
              refine z_callV C (cm_X11_test l x10 x11 x12 Hfa_z (by omega) (by omega) (by omega)) mv_11_122 (z_atS 0 11 (by decide) rfl rfl rfl) pd_X11_test ⟨by omega, by omega⟩ ⟨by omega, by omega⟩ rfl (Nat.le_of_ble_eq_true rfl) dX11_keepLimits_67 ?_
              rintro _ _ _ ⟨n13, rfl, rfl, h16, rfl⟩
              refine z_iinc (L' := [(3, z_v (i3 + 1)), (4, z_v ((6 * ((6 * i1) + x7)) + (3 * i3))), (0, .ref (ad 0)), (1, z_v i1), (2, z_v ((6 * i1) + x7))]) C 4 dX11_keepLimits_70 rfl (by decide) rfl ?_
              refine z_goto (t := 21) C dX11_keepLimits_73 (by decide) ?_
              refine z_loc (L' := [(0, .ref (ad 0)), (1, z_v i1), (2, z_v ((6 * i1) + x7)), (3, z_v (i3 + 1))]) [2, 3, 4, 0] rfl ?_
              exact ih21 (i3 + 1) n13 h16 (by omega) (by omega)
        refine z_loc (L' := [(0, .ref (ad 0)), (1, z_v i1), (2, z_v ((6 * i1) + x7)), (3, z_v 0)]) [2, 3, 1, 0] rfl ?_
        exact (L21 (((2 : Int) - 0).toNat + 1)) 0 fa_z Hfa_z (by omega) (Nat.lt_succ_self _)
  refine z_loc (L' := [(0, .ref (ad 0)), (1, z_v 0)]) [1, 0] rfl ?_
  exact (L2 (((3 : Int) - 0).toNat + 1)) 0 a_z Ha_z (by omega) (Nat.lt_succ_self _)
set_option maxRecDepth 20000 in
theorem cm_X11_keepGuards (l : Launch) {D : va_G} {A : Nat → Prop} {ad : Nat → Nat} {ks : z_Ks} {s_edges s_isNeeded s_explored s_states s_isMoved s_runs s_runTime s_runMoves : Int} {w_h : Int64} {a_machine a_from a_to a_channel a_resets a_guards a_guardOf a_limits a_limitOf a_places a_zones a_parent a_moveE a_moveF a_moves a_z a_ahead a_at a_amounts a_way a_moments a_runAt a_runClock : Nat → Int} {Y : Nat → Option va_E} (e0 : Int) (Ha_guards : (∀ j, 0 ≤ a_guards j ∧ a_guards j ≤ 2)) (Ha_guardOf : (∀ j, (j % 3 = 0 → a_guardOf j ≤ 3) ∧ 0 ≤ a_guardOf j ∧ a_guardOf j ≤ 1000)) (Ha_z : (∀ j, z_rg (a_z j))) (he : 0 ≤ e0 ∧ e0 ≤ 19) : z_Met l yX11_keepGuards cX11_keepGuards 4 (some .boolean) 2 46 0 0 D A 24 ad ks [.ref (ad 0), z_v e0] (z_zm ad ks s_edges s_isNeeded s_explored s_states s_isMoved s_runs s_runTime s_runMoves w_h a_machine a_from a_to a_channel a_resets a_guards a_guardOf a_limits a_limitOf a_places a_zones a_parent a_moveE a_moveF a_moves a_z a_ahead a_at a_amounts a_way a_moments a_runAt a_runClock) Y (fun r S' Y' => ∃ na_z : Nat → Int, S' = (z_zm ad ks s_edges s_isNeeded s_explored s_states s_isMoved s_runs s_runTime s_runMoves w_h a_machine a_from a_to a_channel a_resets a_guards a_guardOf a_limits a_limitOf a_places a_zones a_parent a_moveE a_moveF a_moves na_z a_ahead a_at a_amounts a_way a_moments a_runAt a_runClock) ∧ Y = Y' ∧ (∀ j, z_rg (na_z j)) ∧ ∃ z : Int, r = some (z_v z) ∧ (z = 0 ∨ z = 1)) := by
  refine z_start2 (by decide) (Nat.le_of_ble_eq_true rfl) ?_
  intro p e R s m args below meth c Q C hRf hRc hRs hRl hQ hrt hnm
  refine z_loc (L' := [(0, .ref (ad 0)), (1, z_v e0)]) [0, 1] rfl ?_
  refine z_iconst C dX11_keepGuards_0 ?_
  refine z_istoren (L' := [(2, z_v 0), (0, .ref (ad 0)), (1, z_v e0)]) C dX11_keepGuards_1 rfl (by decide) rfl ?_
  have L2 : ∀ (n : Nat), ∀ (i2 : Int) (fa_z : Nat → Int), ((∀ j, z_rg (fa_z j))) → (0 ≤ i2 ∧ i2 ≤ 2) → ((2 : Int) - i2).toNat < n → z_V p l e R s m args below meth c Q D A 24 ad 4 (z_zm ad ks s_edges s_isNeeded s_explored s_states s_isMoved s_runs s_runTime s_runMoves w_h a_machine a_from a_to a_channel a_resets a_guards a_guardOf a_limits a_limitOf a_places a_zones a_parent a_moveE a_moveF a_moves fa_z a_ahead a_at a_amounts a_way a_moments a_runAt a_runClock) Y 0 0 2 [(0, .ref (ad 0)), (1, z_v e0), (2, z_v i2)] [] := by
    intro n
    induction n with
    | zero => intro i2 fa_z Hfa_z I2 hm; exact absurd hm (Nat.not_lt_zero _)
    | succ n ih2 =>
      intro i2 fa_z Hfa_z I2 hm
      refine z_iloadn C 2 dX11_keepGuards_2 rfl rfl ?_
      refine z_aloadn C 0 dX11_keepGuards_3 rfl rfl ?_
      refine z_get C 0 (by decide) rfl rfl z_it11 6 (by decide) rfl fl_11_25 rfl dX11_keepGuards_4 ?_
      refine z_iloadn C 1 dX11_keepGuards_7 rfl rfl ?_
      refine z_iald C 6 (by decide) rfl (by decide) (by omega) (by omega) dX11_keepGuards_8 ?_
      have rx1 := Ha_guards (e0 : Int).toNat
      generalize ex1 : a_guards (e0 : Int).toNat = x1 at rx1 ⊢
      refine z_icmp_ge (t := 53) C dX11_keepGuards_9 (by decide) (by omega) (by omega) (fun c2 => ?_) (fun c2 => ?_)
      · skip
        refine z_aloadn C 0 dX11_keepGuards_53 rfl rfl ?_
        refine z_callV C (cm_X11_close l Hfa_z) mv_11_125 (z_atS 0 11 (by decide) rfl rfl rfl) pd_X11_close ⟨by omega, by omega⟩ ⟨by omega, by omega⟩ rfl (Nat.le_of_ble_eq_true rfl) dX11_keepGuards_54 ?_
        rintro _ _ _ ⟨n3, rfl, rfl, h6, z7, rfl, hz7⟩
        rw [hQ]
        exact z_zret C hrt (by omega) dX11_keepGuards_57 (⟨n3, rfl, rfl, h6, _, rfl, by omega⟩) (by omega) (by omega)
      · skip
        refine z_bipush C dX11_keepGuards_12 (by decide) ?_
        refine z_iloadn C 1 dX11_keepGuards_14 rfl rfl ?_
        refine z_imul C dX11_keepGuards_15 ?_
        refine z_iconst C dX11_keepGuards_16 ?_
        refine z_iloadn C 2 dX11_keepGuards_17 rfl rfl ?_
        refine z_imul C dX11_keepGuards_18 ?_
        refine z_iadd C dX11_keepGuards_19 ?_
        refine z_istoren (L' := [(3, z_v ((6 * e0) + (3 * i2))), (0, .ref (ad 0)), (1, z_v e0), (2, z_v i2)]) C dX11_keepGuards_20 rfl (by decide) rfl ?_
        refine z_aloadn C 1 dX11_keepGuards_21 rfl rfl ?_
        refine z_aloadn C 1 dX11_keepGuards_22 rfl rfl ?_
        refine z_get C 0 (by decide) rfl rfl z_it11 7 (by decide) rfl fl_11_28 rfl dX11_keepGuards_23 ?_
        refine z_iloadn C 0 dX11_keepGuards_26 rfl rfl ?_
        refine z_iald C 7 (by decide) rfl (by decide) (by omega) (by omega) dX11_keepGuards_27 ?_
        have rx8 := Ha_guardOf (((6 * e0) + (3 * i2)) : Int).toNat
        generalize ex8 : a_guardOf (((6 * e0) + (3 * i2)) : Int).toNat = x8 at rx8 ⊢
        refine z_aloadn C 1 dX11_keepGuards_28 rfl rfl ?_
        refine z_get C 0 (by decide) rfl rfl z_it11 7 (by decide) rfl fl_11_28 rfl dX11_keepGuards_29 ?_
        refine z_iloadn C 0 dX11_keepGuards_32 rfl rfl ?_
        refine z_iconst C dX11_keepGuards_33 ?_
        refine z_iadd C dX11_keepGuards_34 ?_
        refine z_iald C 7 (by decide) rfl (by decide) (by omega) (by omega) dX11_keepGuards_35 ?_
        have rx9 := Ha_guardOf ((((6 * e0) + (3 * i2)) + 1) : Int).toNat
        generalize ex9 : a_guardOf ((((6 * e0) + (3 * i2)) + 1) : Int).toNat = x9 at rx9 ⊢
        refine z_aloadn C 1 dX11_keepGuards_36 rfl rfl ?_
        refine z_get C 0 (by decide) rfl rfl z_it11 7 (by decide) rfl fl_11_28 rfl dX11_keepGuards_37 ?_
        refine z_iloadn C 0 dX11_keepGuards_40 rfl rfl ?_
        refine z_iconst C dX11_keepGuards_41 ?_
        refine z_iadd C dX11_keepGuards_42 ?_
        refine z_iald C 7 (by decide) rfl (by decide) (by omega) (by omega) dX11_keepGuards_43 ?_
        have rx10 := Ha_guardOf ((((6 * e0) + (3 * i2)) + 2) : Int).toNat
        generalize ex10 : a_guardOf ((((6 * e0) + (3 * i2)) + 2) : Int).toNat = x10 at rx10 ⊢
        refine z_callV C (cm_X11_test l x8 x9 x10 Hfa_z (by omega) (by omega) (by omega)) mv_11_122 (z_atS 0 11 (by decide) rfl rfl rfl) pd_X11_test ⟨by omega, by omega⟩ ⟨by omega, by omega⟩ rfl (Nat.le_of_ble_eq_true rfl) dX11_keepGuards_44 ?_
        rintro _ _ _ ⟨n11, rfl, rfl, h14, rfl⟩
        refine z_iinc (L' := [(2, z_v (i2 + 1)), (3, z_v ((6 * e0) + (3 * i2))), (0, .ref (ad 0)), (1, z_v e0)]) C 3 dX11_keepGuards_47 rfl (by decide) rfl ?_
        refine z_goto (t := 2) C dX11_keepGuards_50 (by decide) ?_
        refine z_loc (L' := [(0, .ref (ad 0)), (1, z_v e0), (2, z_v (i2 + 1))]) [2, 3, 0] rfl ?_
        exact ih2 (i2 + 1) n11 h14 (by omega) (by omega)
  refine z_loc (L' := [(0, .ref (ad 0)), (1, z_v e0), (2, z_v 0)]) [1, 2, 0] rfl ?_
  exact (L2 (((2 : Int) - 0).toNat + 1)) 0 a_z Ha_z (by omega) (Nat.lt_succ_self _)
set_option maxRecDepth 20000 in
theorem cm_X11_set (l : Launch) {D : va_G} {A : Nat → Prop} {ad : Nat → Nat} {ks : z_Ks} {s_edges s_isNeeded s_explored s_states s_isMoved s_runs s_runTime s_runMoves : Int} {w_h : Int64} {a_machine a_from a_to a_channel a_resets a_guards a_guardOf a_limits a_limitOf a_places a_zones a_parent a_moveE a_moveF a_moves a_z a_ahead a_at a_amounts a_way a_moments a_runAt a_runClock : Nat → Int} {Y : Nat → Option va_E} (se : Int) (Ha_z : (∀ j, z_rg (a_z j))) (hs : z_rg se) : z_Met l yX11_set cX11_set 4 none 0 0 0 0 D A 24 ad ks [.ref (ad 0), z_v se] (z_zm ad ks s_edges s_isNeeded s_explored s_states s_isMoved s_runs s_runTime s_runMoves w_h a_machine a_from a_to a_channel a_resets a_guards a_guardOf a_limits a_limitOf a_places a_zones a_parent a_moveE a_moveF a_moves a_z a_ahead a_at a_amounts a_way a_moments a_runAt a_runClock) Y (fun r S' Y' => ∃ na_z : Nat → Int, S' = (z_zm ad ks s_edges s_isNeeded s_explored s_states s_isMoved s_runs s_runTime s_runMoves w_h a_machine a_from a_to a_channel a_resets a_guards a_guardOf a_limits a_limitOf a_places a_zones a_parent a_moveE a_moveF a_moves na_z a_ahead a_at a_amounts a_way a_moments a_runAt a_runClock) ∧ Y = Y' ∧ (∀ j, z_rg (na_z j)) ∧ r = none) := by
  refine z_start2 (by decide) (Nat.le_of_ble_eq_true rfl) ?_
  intro p e R s m args below meth c Q C hRf hRc hRs hRl hQ hrt hnm
  refine z_loc (L' := [(0, .ref (ad 0)), (1, z_v se)]) [0, 1] rfl ?_
  refine z_iconst C dX11_set_0 ?_
  refine z_istoren (L' := [(2, z_v 1), (0, .ref (ad 0)), (1, z_v se)]) C dX11_set_1 rfl (by decide) rfl ?_
  have L2 : ∀ (n : Nat), ∀ (i2 : Int) (fa_z : Nat → Int), ((∀ j, z_rg (fa_z j))) → (1 ≤ i2 ∧ i2 ≤ 4) → ((4 : Int) - i2).toNat < n → z_V p l e R s m args below meth c Q D A 24 ad 4 (z_zm ad ks s_edges s_isNeeded s_explored s_states s_isMoved s_runs s_runTime s_runMoves w_h a_machine a_from a_to a_channel a_resets a_guards a_guardOf a_limits a_limitOf a_places a_zones a_parent a_moveE a_moveF a_moves fa_z a_ahead a_at a_amounts a_way a_moments a_runAt a_runClock) Y 0 0 2 [(0, .ref (ad 0)), (1, z_v se), (2, z_v i2)] [] := by
    intro n
    induction n with
    | zero => intro i2 fa_z Hfa_z I2 hm; exact absurd hm (Nat.not_lt_zero _)
    | succ n ih2 =>
      intro i2 fa_z Hfa_z I2 hm
      refine z_iloadn C 2 dX11_set_2 rfl rfl ?_
      refine z_iconst C dX11_set_3 ?_
      refine z_icmp_ge (t := 78) C dX11_set_4 (by decide) (by omega) (by omega) (fun c1 => ?_) (fun c1 => ?_)
      · skip
        rw [hQ]
        exact z_vret C hrt dX11_set_78 (⟨fa_z, rfl, rfl, Hfa_z, rfl⟩) (by omega) (by omega)
      · skip
        refine z_iloadn C 1 dX11_set_7 rfl rfl ?_
        refine z_iloadn C 2 dX11_set_8 rfl rfl ?_
        obtain ⟨b2, hb2, rb2⟩ := z_bits (z_i se >>> (z_i i2 &&& 31))
        refine z_ishr C hb2 dX11_set_9 ?_
        have qb2 := z_bitsE hb2 rb2
        refine z_iconst C dX11_set_10 ?_
        obtain ⟨b3, hb3, rb3⟩ := z_bits (z_i b2 &&& z_i 1)
        refine z_iand C hb3 dX11_set_11 ?_
        have qb3 := z_bitsE hb3 rb3
        refine z_iconst C dX11_set_12 ?_
        refine z_icmp_ne (t := 72) C dX11_set_13 (by decide) (by omega) (by omega) (fun c4 => ?_) (fun c4 => ?_)
        · skip
          refine z_iinc (L' := [(2, z_v (i2 + 1)), (0, .ref (ad 0)), (1, z_v se)]) C 2 dX11_set_72 rfl (by decide) rfl ?_
          refine z_goto (t := 2) C dX11_set_75 (by decide) ?_
          refine z_loc (L' := [(0, .ref (ad 0)), (1, z_v se), (2, z_v (i2 + 1))]) [1, 2, 0] rfl ?_
          exact ih2 (i2 + 1) fa_z Hfa_z (by omega) (by omega)
        · skip
          refine z_iconst C dX11_set_16 ?_
          refine z_istoren (L' := [(3, z_v 0), (0, .ref (ad 0)), (1, z_v se), (2, z_v i2)]) C dX11_set_17 rfl (by decide) rfl ?_
          have L18 : ∀ (n : Nat), ∀ (i3 : Int) (fa_z : Nat → Int), ((∀ j, z_rg (fa_z j))) → (0 ≤ i3 ∧ i3 ≤ 4) → ((4 : Int) - i3).toNat < n → z_V p l e R s m args below meth c Q D A 24 ad 4 (z_zm ad ks s_edges s_isNeeded s_explored s_states s_isMoved s_runs s_runTime s_runMoves w_h a_machine a_from a_to a_channel a_resets a_guards a_guardOf a_limits a_limitOf a_places a_zones a_parent a_moveE a_moveF a_moves fa_z a_ahead a_at a_amounts a_way a_moments a_runAt a_runClock) Y 0 0 18 [(0, .ref (ad 0)), (1, z_v se), (2, z_v i2), (3, z_v i3)] [] := by
            intro n
            induction n with
            | zero => intro i3 fa_z Hfa_z I3 hm; exact absurd hm (Nat.not_lt_zero _)
            | succ n ih18 =>
              intro i3 fa_z Hfa_z I3 hm
              refine z_iloadn C 3 dX11_set_18 rfl rfl ?_
              refine z_iconst C dX11_set_19 ?_
              refine z_icmp_ge (t := 63) C dX11_set_20 (by decide) (by omega) (by omega) (fun c5 => ?_) (fun c5 => ?_)
              · skip
                refine z_aloadn C 0 dX11_set_63 rfl rfl ?_
                refine z_get C 0 (by decide) rfl rfl z_it11 19 (by decide) rfl fl_11_59 rfl dX11_set_64 ?_
                refine z_iconst C dX11_set_67 ?_
                refine z_iloadn C 2 dX11_set_68 rfl rfl ?_
                refine z_imul C dX11_set_69 ?_
                refine z_iconst C dX11_set_70 ?_
                refine z_iast C 16 (by decide) rfl (by decide) (by omega) (by omega) dX11_set_71 ?_
                refine z_ext (S' := (z_zm ad ks s_edges s_isNeeded s_explored s_states s_isMoved s_runs s_runTime s_runMoves w_h a_machine a_from a_to a_channel a_resets a_guards a_guardOf a_limits a_limitOf a_places a_zones a_parent a_moveE a_moveF a_moves (va_up fa_z ((5 * i2) : Int).toNat 1) a_ahead a_at a_amounts a_way a_moments a_runAt a_runClock)) upM_a_z ?_
                have h6 : ∀ j, z_rg ((va_up fa_z ((5 * i2) : Int).toNat 1) j) := z_upP (P := fun j v => z_rg (v)) Hfa_z (by omega)
                generalize (va_up fa_z ((5 * i2) : Int).toNat 1) = f7 at h6 ⊢
                refine z_iinc (L' := [(2, z_v (i2 + 1)), (0, .ref (ad 0)), (1, z_v se), (3, z_v i3)]) C 2 dX11_set_72 rfl (by decide) rfl ?_
                refine z_goto (t := 2) C dX11_set_75 (by decide) ?_
                refine z_loc (L' := [(0, .ref (ad 0)), (1, z_v se), (2, z_v (i2 + 1))]) [1, 2, 0] rfl ?_
                exact ih2 (i2 + 1) f7 h6 (by omega) (by omega)
              · skip
                refine z_aloadn C 0 dX11_set_23 rfl rfl ?_
                refine z_get C 0 (by decide) rfl rfl z_it11 19 (by decide) rfl fl_11_59 rfl dX11_set_24 ?_
                refine z_iconst C dX11_set_27 ?_
                refine z_iloadn C 2 dX11_set_28 rfl rfl ?_
                refine z_imul C dX11_set_29 ?_
                refine z_iloadn C 3 dX11_set_30 rfl rfl ?_
                refine z_iadd C dX11_set_31 ?_
                refine z_aloadn C 0 dX11_set_32 rfl rfl ?_
                refine z_get C 0 (by decide) rfl rfl z_it11 19 (by decide) rfl fl_11_59 rfl dX11_set_33 ?_
                refine z_iloadn C 3 dX11_set_36 rfl rfl ?_
                refine z_iald C 16 (by decide) rfl (by decide) (by omega) (by omega) dX11_set_37 ?_
                have rx8 := Hfa_z (i3 : Int).toNat
                generalize ex8 : fa_z (i3 : Int).toNat = x8 at rx8 ⊢
                refine z_iast C 16 (by decide) rfl (by decide) (by omega) (by omega) dX11_set_38 ?_
                refine z_ext (S' := (z_zm ad ks s_edges s_isNeeded s_explored s_states s_isMoved s_runs s_runTime s_runMoves w_h a_machine a_from a_to a_channel a_resets a_guards a_guardOf a_limits a_limitOf a_places a_zones a_parent a_moveE a_moveF a_moves (va_up fa_z (((4 * i2) + i3) : Int).toNat x8) a_ahead a_at a_amounts a_way a_moments a_runAt a_runClock)) upM_a_z ?_
                have h9 : ∀ j, z_rg ((va_up fa_z (((4 * i2) + i3) : Int).toNat x8) j) := z_upP (P := fun j v => z_rg (v)) Hfa_z (by omega)
                generalize (va_up fa_z (((4 * i2) + i3) : Int).toNat x8) = f10 at h9 ⊢
                refine z_aloadn C 0 dX11_set_39 rfl rfl ?_
                refine z_get C 0 (by decide) rfl rfl z_it11 19 (by decide) rfl fl_11_59 rfl dX11_set_40 ?_
                refine z_iconst C dX11_set_43 ?_
                refine z_iloadn C 3 dX11_set_44 rfl rfl ?_
                refine z_imul C dX11_set_45 ?_
                refine z_iloadn C 2 dX11_set_46 rfl rfl ?_
                refine z_iadd C dX11_set_47 ?_
                refine z_aloadn C 0 dX11_set_48 rfl rfl ?_
                refine z_get C 0 (by decide) rfl rfl z_it11 19 (by decide) rfl fl_11_59 rfl dX11_set_49 ?_
                refine z_iconst C dX11_set_52 ?_
                refine z_iloadn C 3 dX11_set_53 rfl rfl ?_
                refine z_imul C dX11_set_54 ?_
                refine z_iald C 16 (by decide) rfl (by decide) (by omega) (by omega) dX11_set_55 ?_
                have rx11 := h9 ((4 * i3) : Int).toNat
                generalize ex11 : f10 ((4 * i3) : Int).toNat = x11 at rx11 ⊢
                refine z_iast C 16 (by decide) rfl (by decide) (by omega) (by omega) dX11_set_56 ?_
                refine z_ext (S' := (z_zm ad ks s_edges s_isNeeded s_explored s_states s_isMoved s_runs s_runTime s_runMoves w_h a_machine a_from a_to a_channel a_resets a_guards a_guardOf a_limits a_limitOf a_places a_zones a_parent a_moveE a_moveF a_moves (va_up f10 (((4 * i3) + i2) : Int).toNat x11) a_ahead a_at a_amounts a_way a_moments a_runAt a_runClock)) upM_a_z ?_
                have h12 : ∀ j, z_rg ((va_up f10 (((4 * i3) + i2) : Int).toNat x11) j) := z_upP (P := fun j v => z_rg (v)) h9 (by omega)
                generalize (va_up f10 (((4 * i3) + i2) : Int).toNat x11) = f13 at h12 ⊢
                refine z_iinc (L' := [(3, z_v (i3 + 1)), (0, .ref (ad 0)), (1, z_v se), (2, z_v i2)]) C 3 dX11_set_57 rfl (by decide) rfl ?_
                refine z_goto (t := 18) C dX11_set_60 (by decide) ?_
                refine z_loc (L' := [(0, .ref (ad 0)), (1, z_v se), (2, z_v i2), (3, z_v (i3 + 1))]) [1, 2, 3, 0] rfl ?_
                exact ih18 (i3 + 1) f13 h12 (by omega) (by omega)
          refine z_loc (L' := [(0, .ref (ad 0)), (1, z_v se), (2, z_v i2), (3, z_v 0)]) [1, 2, 3, 0] rfl ?_
          exact (L18 (((4 : Int) - 0).toNat + 1)) 0 fa_z Hfa_z (by omega) (Nat.lt_succ_self _)
  refine z_loc (L' := [(0, .ref (ad 0)), (1, z_v se), (2, z_v 1)]) [1, 2, 0] rfl ?_
  exact (L2 (((4 : Int) - 1).toNat + 1)) 1 a_z Ha_z (by omega) (Nat.lt_succ_self _)
set_option maxRecDepth 20000 in
theorem cm_X11_greatestOf (l : Launch) {D : va_G} {A : Nat → Prop} {ad : Nat → Nat} {ks : z_Ks} {s_edges s_isNeeded s_explored s_states s_isMoved s_runs s_runTime s_runMoves : Int} {w_h : Int64} {a_machine a_from a_to a_channel a_resets a_guards a_guardOf a_limits a_limitOf a_places a_zones a_parent a_moveE a_moveF a_moves a_z a_ahead a_at a_amounts a_way a_moments a_runAt a_runClock : Nat → Int} {Y : Nat → Option va_E} (x : Int) (Hs_edges : (0 ≤ s_edges ∧ s_edges ≤ 20)) (Ha_guards : (∀ j, 0 ≤ a_guards j ∧ a_guards j ≤ 2)) (Ha_guardOf : (∀ j, (j % 3 = 0 → a_guardOf j ≤ 3) ∧ 0 ≤ a_guardOf j ∧ a_guardOf j ≤ 1000)) (Ha_limits : (∀ j, 0 ≤ a_limits j ∧ a_limits j ≤ 2)) (Ha_limitOf : (∀ j, (j % 3 = 0 → a_limitOf j ≤ 3) ∧ 0 ≤ a_limitOf j ∧ a_limitOf j ≤ 1000)) (hx : z_rg x) : z_Met l yX11_greatestOf cX11_greatestOf 6 (some .int) 0 0 0 0 D A 24 ad ks [.ref (ad 0), z_v x] (z_zm ad ks s_edges s_isNeeded s_explored s_states s_isMoved s_runs s_runTime s_runMoves w_h a_machine a_from a_to a_channel a_resets a_guards a_guardOf a_limits a_limitOf a_places a_zones a_parent a_moveE a_moveF a_moves a_z a_ahead a_at a_amounts a_way a_moments a_runAt a_runClock) Y (fun r S' Y' => S' = (z_zm ad ks s_edges s_isNeeded s_explored s_states s_isMoved s_runs s_runTime s_runMoves w_h a_machine a_from a_to a_channel a_resets a_guards a_guardOf a_limits a_limitOf a_places a_zones a_parent a_moveE a_moveF a_moves a_z a_ahead a_at a_amounts a_way a_moments a_runAt a_runClock) ∧ Y = Y' ∧ ∃ z : Int, r = some (z_v z) ∧ (0 ≤ z ∧ z ≤ 1000)) := by
  refine z_start2 (by decide) (Nat.le_of_ble_eq_true rfl) ?_
  intro p e R s m args below meth c Q C hRf hRc hRs hRl hQ hrt hnm
  refine z_loc (L' := [(0, .ref (ad 0)), (1, z_v x)]) [0, 1] rfl ?_
  refine z_iconst C dX11_greatestOf_0 ?_
  refine z_istoren (L' := [(2, z_v 0), (0, .ref (ad 0)), (1, z_v x)]) C dX11_greatestOf_1 rfl (by decide) rfl ?_
  refine z_iconst C dX11_greatestOf_2 ?_
  refine z_istoren (L' := [(3, z_v 0), (2, z_v 0), (0, .ref (ad 0)), (1, z_v x)]) C dX11_greatestOf_3 rfl (by decide) rfl ?_
  have L4 : ∀ (n : Nat), ∀ (i2 : Int) (i3 : Int), (0 ≤ i3 ∧ i3 ≤ 20) → (0 ≤ i2 ∧ i2 ≤ 1000) → ((20 : Int) - i3).toNat < n → z_V p l e R s m args below meth c Q D A 24 ad 6 (z_zm ad ks s_edges s_isNeeded s_explored s_states s_isMoved s_runs s_runTime s_runMoves w_h a_machine a_from a_to a_channel a_resets a_guards a_guardOf a_limits a_limitOf a_places a_zones a_parent a_moveE a_moveF a_moves a_z a_ahead a_at a_amounts a_way a_moments a_runAt a_runClock) Y 0 0 4 [(0, .ref (ad 0)), (1, z_v x), (2, z_v i2), (3, z_v i3)] [] := by
    intro n
    induction n with
    | zero => intro i2 i3 I3 I2 hm; exact absurd hm (Nat.not_lt_zero _)
    | succ n ih4 =>
      intro i2 i3 I3 I2 hm
      refine z_iloadn C 3 dX11_greatestOf_4 rfl rfl ?_
      refine z_aloadn C 0 dX11_greatestOf_5 rfl rfl ?_
      refine z_get C 0 (by decide) rfl rfl z_it11 0 (by decide) rfl fl_11_90 rfl dX11_greatestOf_6 ?_
      refine z_icmp_ge (t := 87) C dX11_greatestOf_9 (by decide) (by omega) (by omega) (fun c1 => ?_) (fun c1 => ?_)
      · skip
        refine z_iconst C dX11_greatestOf_87 ?_
        refine z_istoren (L' := [(3, z_v 0), (0, .ref (ad 0)), (1, z_v x), (2, z_v i2)]) C dX11_greatestOf_88 rfl (by decide) rfl ?_
        have L89 : ∀ (n : Nat), ∀ (i2 : Int) (i3 : Int), (0 ≤ i3 ∧ i3 ≤ 18) → (0 ≤ i2 ∧ i2 ≤ 1000) → ((18 : Int) - i3).toNat < n → z_V p l e R s m args below meth c Q D A 24 ad 6 (z_zm ad ks s_edges s_isNeeded s_explored s_states s_isMoved s_runs s_runTime s_runMoves w_h a_machine a_from a_to a_channel a_resets a_guards a_guardOf a_limits a_limitOf a_places a_zones a_parent a_moveE a_moveF a_moves a_z a_ahead a_at a_amounts a_way a_moments a_runAt a_runClock) Y 0 0 89 [(0, .ref (ad 0)), (1, z_v x), (2, z_v i2), (3, z_v i3)] [] := by
          intro n
          induction n with
          | zero => intro i2 i3 I3 I2 hm; exact absurd hm (Nat.not_lt_zero _)
          | succ n ih89 =>
            intro i2 i3 I3 I2 hm
            refine z_iloadn C 3 dX11_greatestOf_89 rfl rfl ?_
            refine z_bipush C dX11_greatestOf_90 (by decide) ?_
            refine z_icmp_ge (t := 170) C dX11_greatestOf_92 (by decide) (by omega) (by omega) (fun c2 => ?_) (fun c2 => ?_)
            · skip
              refine z_iloadn C 2 dX11_greatestOf_170 rfl rfl ?_
              rw [hQ]
              exact z_iret C hrt dX11_greatestOf_171 (⟨rfl, rfl, _, rfl, by omega⟩) (by omega) (by omega)
            · skip
              refine z_iconst C dX11_greatestOf_95 ?_
              refine z_istore (L' := [(4, z_v 0), (0, .ref (ad 0)), (1, z_v x), (2, z_v i2), (3, z_v i3)]) C dX11_greatestOf_96 (by decide) rfl ?_
              have L98 : ∀ (n : Nat), ∀ (i2 : Int) (i4 : Int), (0 ≤ i4 ∧ i4 ≤ 2) → (0 ≤ i2 ∧ i2 ≤ 1000) → ((2 : Int) - i4).toNat < n → z_V p l e R s m args below meth c Q D A 24 ad 6 (z_zm ad ks s_edges s_isNeeded s_explored s_states s_isMoved s_runs s_runTime s_runMoves w_h a_machine a_from a_to a_channel a_resets a_guards a_guardOf a_limits a_limitOf a_places a_zones a_parent a_moveE a_moveF a_moves a_z a_ahead a_at a_amounts a_way a_moments a_runAt a_runClock) Y 0 0 98 [(0, .ref (ad 0)), (1, z_v x), (2, z_v i2), (3, z_v i3), (4, z_v i4)] [] := by
                intro n
                induction n with
                | zero => intro i2 i4 I4 I2 hm; exact absurd hm (Nat.not_lt_zero _)
                | succ n ih98 =>
                  intro i2 i4 I4 I2 hm
                  refine z_iload C 4 dX11_greatestOf_98 rfl ?_
                  refine z_aloadn C 0 dX11_greatestOf_100 rfl rfl ?_
                  refine z_get C 0 (by decide) rfl rfl z_it11 8 (by decide) rfl fl_11_31 rfl dX11_greatestOf_101 ?_
                  refine z_iloadn C 3 dX11_greatestOf_104 rfl rfl ?_
                  refine z_iald C 8 (by decide) rfl (by decide) (by omega) (by omega) dX11_greatestOf_105 ?_
                  have rx3 := Ha_limits (i3 : Int).toNat
                  generalize ex3 : a_limits (i3 : Int).toNat = x3 at rx3 ⊢
                  refine z_icmp_ge (t := 164) C dX11_greatestOf_106 (by decide) (by omega) (by omega) (fun c4 => ?_) (fun c4 => ?_)
                  · skip
                    refine z_iinc (L' := [(3, z_v (i3 + 1)), (0, .ref (ad 0)), (1, z_v x), (2, z_v i2), (4, z_v i4)]) C 3 dX11_greatestOf_164 rfl (by decide) rfl ?_
                    refine z_goto (t := 89) C dX11_greatestOf_167 (by decide) ?_
                    refine z_loc (L' := [(0, .ref (ad 0)), (1, z_v x), (2, z_v i2), (3, z_v (i3 + 1))]) [1, 2, 3, 0] rfl ?_
                    exact ih89 i2 (i3 + 1) (by omega) (by omega) (by omega)
                  · skip
                    refine z_bipush C dX11_greatestOf_109 (by decide) ?_
                    refine z_iloadn C 3 dX11_greatestOf_111 rfl rfl ?_
                    refine z_imul C dX11_greatestOf_112 ?_
                    refine z_iconst C dX11_greatestOf_113 ?_
                    refine z_iload C 4 dX11_greatestOf_114 rfl ?_
                    refine z_imul C dX11_greatestOf_116 ?_
                    refine z_iadd C dX11_greatestOf_117 ?_
                    refine z_istore (L' := [(5, z_v ((6 * i3) + (3 * i4))), (0, .ref (ad 0)), (1, z_v x), (2, z_v i2), (3, z_v i3), (4, z_v i4)]) C dX11_greatestOf_118 (by decide) rfl ?_
                    refine z_aloadn C 1 dX11_greatestOf_120 rfl rfl ?_
                    refine z_get C 0 (by decide) rfl rfl z_it11 9 (by decide) rfl fl_11_34 rfl dX11_greatestOf_121 ?_
                    refine z_iload C 0 dX11_greatestOf_124 rfl ?_
                    refine z_iald C 9 (by decide) rfl (by decide) (by omega) (by omega) dX11_greatestOf_126 ?_
                    have rx5 := Ha_limitOf (((6 * i3) + (3 * i4)) : Int).toNat
                    generalize ex5 : a_limitOf (((6 * i3) + (3 * i4)) : Int).toNat = x5 at rx5 ⊢
                    refine z_iloadn C 2 dX11_greatestOf_127 rfl rfl ?_
                    refine z_icmp_ne (t := 156) C dX11_greatestOf_128 (by decide) (by omega) (by omega) (fun c6 => ?_) (fun c6 => ?_)
                    · skip
                      refine z_iloadn C 3 dX11_greatestOf_156 rfl rfl ?_
                      refine z_istoren (L' := [(2, z_v i2), (5, z_v ((6 * i3) + (3 * i4))), (0, .ref (ad 0)), (1, z_v x), (3, z_v i3), (4, z_v i4)]) C dX11_greatestOf_157 rfl (by decide) rfl ?_
                      refine z_iinc (L' := [(4, z_v (i4 + 1)), (2, z_v i2), (5, z_v ((6 * i3) + (3 * i4))), (0, .ref (ad 0)), (1, z_v x), (3, z_v i3)]) C 5 dX11_greatestOf_158 rfl (by decide) rfl ?_
                      refine z_goto (t := 98) C dX11_greatestOf_161 (by decide) ?_
                      refine z_loc (L' := [(0, .ref (ad 0)), (1, z_v x), (2, z_v i2), (3, z_v i3), (4, z_v (i4 + 1))]) [3, 4, 1, 5, 0] rfl ?_
                      exact ih98 i2 (i4 + 1) (by omega) (by omega) (by omega)
                    · skip
                      refine z_aloadn C 1 dX11_greatestOf_131 rfl rfl ?_
                      refine z_get C 0 (by decide) rfl rfl z_it11 9 (by decide) rfl fl_11_34 rfl dX11_greatestOf_132 ?_
                      refine z_iload C 0 dX11_greatestOf_135 rfl ?_
                      refine z_iconst C dX11_greatestOf_137 ?_
                      refine z_iadd C dX11_greatestOf_138 ?_
                      refine z_iald C 9 (by decide) rfl (by decide) (by omega) (by omega) dX11_greatestOf_139 ?_
                      have rx7 := Ha_limitOf ((((6 * i3) + (3 * i4)) + 2) : Int).toNat
                      generalize ex7 : a_limitOf ((((6 * i3) + (3 * i4)) + 2) : Int).toNat = x7 at rx7 ⊢
                      refine z_iloadn C 3 dX11_greatestOf_140 rfl rfl ?_
                      refine z_icmp_le (t := 156) C dX11_greatestOf_141 (by decide) (by omega) (by omega) (fun c8 => ?_) (fun c8 => ?_)
                      · skip
                        refine z_iloadn C 3 dX11_greatestOf_156 rfl rfl ?_
                        refine z_istoren (L' := [(2, z_v i2), (5, z_v ((6 * i3) + (3 * i4))), (0, .ref (ad 0)), (1, z_v x), (3, z_v i3), (4, z_v i4)]) C dX11_greatestOf_157 rfl (by decide) rfl ?_
                        refine z_iinc (L' := [(4, z_v (i4 + 1)), (2, z_v i2), (5, z_v ((6 * i3) + (3 * i4))), (0, .ref (ad 0)), (1, z_v x), (3, z_v i3)]) C 5 dX11_greatestOf_158 rfl (by decide) rfl ?_
                        refine z_goto (t := 98) C dX11_greatestOf_161 (by decide) ?_
                        refine z_loc (L' := [(0, .ref (ad 0)), (1, z_v x), (2, z_v i2), (3, z_v i3), (4, z_v (i4 + 1))]) [3, 4, 1, 5, 0] rfl ?_
                        exact ih98 i2 (i4 + 1) (by omega) (by omega) (by omega)
                      · skip
                        refine z_aloadn C 1 dX11_greatestOf_144 rfl rfl ?_
                        refine z_get C 0 (by decide) rfl rfl z_it11 9 (by decide) rfl fl_11_34 rfl dX11_greatestOf_145 ?_
                        refine z_iload C 0 dX11_greatestOf_148 rfl ?_
                        refine z_iconst C dX11_greatestOf_150 ?_
                        refine z_iadd C dX11_greatestOf_151 ?_
                        refine z_iald C 9 (by decide) rfl (by decide) (by omega) (by omega) dX11_greatestOf_152 ?_
                        rw [ex7]
                        refine z_goto (t := 157) C dX11_greatestOf_153 (by decide) ?_
                        refine z_istoren (L' := [(2, z_v x7), (5, z_v ((6 * i3) + (3 * i4))), (0, .ref (ad 0)), (1, z_v x), (3, z_v i3), (4, z_v i4)]) C dX11_greatestOf_157 rfl (by decide) rfl ?_
                        refine z_iinc (L' := [(4, z_v (i4 + 1)), (2, z_v x7), (5, z_v ((6 * i3) + (3 * i4))), (0, .ref (ad 0)), (1, z_v x), (3, z_v i3)]) C 5 dX11_greatestOf_158 rfl (by decide) rfl ?_
                        refine z_goto (t := 98) C dX11_greatestOf_161 (by decide) ?_
                        refine z_loc (L' := [(0, .ref (ad 0)), (1, z_v x), (2, z_v x7), (3, z_v i3), (4, z_v (i4 + 1))]) [3, 4, 1, 5, 0] rfl ?_
                        exact ih98 x7 (i4 + 1) (by omega) (by omega) (by omega)
              refine z_loc (L' := [(0, .ref (ad 0)), (1, z_v x), (2, z_v i2), (3, z_v i3), (4, z_v 0)]) [1, 2, 3, 4, 0] rfl ?_
              exact (L98 (((2 : Int) - 0).toNat + 1)) i2 0 (by omega) (by omega) (Nat.lt_succ_self _)
        refine z_loc (L' := [(0, .ref (ad 0)), (1, z_v x), (2, z_v i2), (3, z_v 0)]) [1, 2, 3, 0] rfl ?_
        exact (L89 (((18 : Int) - 0).toNat + 1)) i2 0 (by omega) (by omega) (Nat.lt_succ_self _)
      · skip
        refine z_iconst C dX11_greatestOf_12 ?_
        refine z_istore (L' := [(4, z_v 0), (0, .ref (ad 0)), (1, z_v x), (2, z_v i2), (3, z_v i3)]) C dX11_greatestOf_13 (by decide) rfl ?_
        have L15 : ∀ (n : Nat), ∀ (i2 : Int) (i4 : Int), (0 ≤ i4 ∧ i4 ≤ 2) → (0 ≤ i2 ∧ i2 ≤ 1000) → ((2 : Int) - i4).toNat < n → z_V p l e R s m args below meth c Q D A 24 ad 6 (z_zm ad ks s_edges s_isNeeded s_explored s_states s_isMoved s_runs s_runTime s_runMoves w_h a_machine a_from a_to a_channel a_resets a_guards a_guardOf a_limits a_limitOf a_places a_zones a_parent a_moveE a_moveF a_moves a_z a_ahead a_at a_amounts a_way a_moments a_runAt a_runClock) Y 0 0 15 [(0, .ref (ad 0)), (1, z_v x), (2, z_v i2), (3, z_v i3), (4, z_v i4)] [] := by
          intro n
          induction n with
          | zero => intro i2 i4 I4 I2 hm; exact absurd hm (Nat.not_lt_zero _)
          | succ n ih15 =>
            intro i2 i4 I4 I2 hm
            refine z_iload C 4 dX11_greatestOf_15 rfl ?_
            refine z_aloadn C 0 dX11_greatestOf_17 rfl rfl ?_
            refine z_get C 0 (by decide) rfl rfl z_it11 6 (by decide) rfl fl_11_25 rfl dX11_greatestOf_18 ?_
            refine z_iloadn C 3 dX11_greatestOf_21 rfl rfl ?_
            refine z_iald C 6 (by decide) rfl (by decide) (by omega) (by omega) dX11_greatestOf_22 ?_
            have rx9 := Ha_guards (i3 : Int).toNat
            generalize ex9 : a_guards (i3 : Int).toNat = x9 at rx9 ⊢
            refine z_icmp_ge (t := 81) C dX11_greatestOf_23 (by decide) (by omega) (by omega) (fun c10 => ?_) (fun c10 => ?_)
            · skip
              refine z_iinc (L' := [(3, z_v (i3 + 1)), (0, .ref (ad 0)), (1, z_v x), (2, z_v i2), (4, z_v i4)]) C 3 dX11_greatestOf_81 rfl (by decide) rfl ?_
              refine z_goto (t := 4) C dX11_greatestOf_84 (by decide) ?_
              refine z_loc (L' := [(0, .ref (ad 0)), (1, z_v x), (2, z_v i2), (3, z_v (i3 + 1))]) [1, 2, 3, 0] rfl ?_
              exact ih4 i2 (i3 + 1) (by omega) (by omega) (by omega)
            · skip
              refine z_bipush C dX11_greatestOf_26 (by decide) ?_
              refine z_iloadn C 3 dX11_greatestOf_28 rfl rfl ?_
              refine z_imul C dX11_greatestOf_29 ?_
              refine z_iconst C dX11_greatestOf_30 ?_
              refine z_iload C 4 dX11_greatestOf_31 rfl ?_
              refine z_imul C dX11_greatestOf_33 ?_
              refine z_iadd C dX11_greatestOf_34 ?_
              refine z_istore (L' := [(5, z_v ((6 * i3) + (3 * i4))), (0, .ref (ad 0)), (1, z_v x), (2, z_v i2), (3, z_v i3), (4, z_v i4)]) C dX11_greatestOf_35 (by decide) rfl ?_
              refine z_aloadn C 1 dX11_greatestOf_37 rfl rfl ?_
              refine z_get C 0 (by decide) rfl rfl z_it11 7 (by decide) rfl fl_11_28 rfl dX11_greatestOf_38 ?_
              refine z_iload C 0 dX11_greatestOf_41 rfl ?_
              refine z_iald C 7 (by decide) rfl (by decide) (by omega) (by omega) dX11_greatestOf_43 ?_
              have rx11 := Ha_guardOf (((6 * i3) + (3 * i4)) : Int).toNat
              generalize ex11 : a_guardOf (((6 * i3) + (3 * i4)) : Int).toNat = x11 at rx11 ⊢
              refine z_iloadn C 2 dX11_greatestOf_44 rfl rfl ?_
              refine z_icmp_ne (t := 73) C dX11_greatestOf_45 (by decide) (by omega) (by omega) (fun c12 => ?_) (fun c12 => ?_)
              · skip
                refine z_iloadn C 3 dX11_greatestOf_73 rfl rfl ?_
                refine z_istoren (L' := [(2, z_v i2), (5, z_v ((6 * i3) + (3 * i4))), (0, .ref (ad 0)), (1, z_v x), (3, z_v i3), (4, z_v i4)]) C dX11_greatestOf_74 rfl (by decide) rfl ?_
                refine z_iinc (L' := [(4, z_v (i4 + 1)), (2, z_v i2), (5, z_v ((6 * i3) + (3 * i4))), (0, .ref (ad 0)), (1, z_v x), (3, z_v i3)]) C 5 dX11_greatestOf_75 rfl (by decide) rfl ?_
                refine z_goto (t := 15) C dX11_greatestOf_78 (by decide) ?_
                refine z_loc (L' := [(0, .ref (ad 0)), (1, z_v x), (2, z_v i2), (3, z_v i3), (4, z_v (i4 + 1))]) [3, 4, 1, 5, 0] rfl ?_
                exact ih15 i2 (i4 + 1) (by omega) (by omega) (by omega)
              · skip
                refine z_aloadn C 1 dX11_greatestOf_48 rfl rfl ?_
                refine z_get C 0 (by decide) rfl rfl z_it11 7 (by decide) rfl fl_11_28 rfl dX11_greatestOf_49 ?_
                refine z_iload C 0 dX11_greatestOf_52 rfl ?_
                refine z_iconst C dX11_greatestOf_54 ?_
                refine z_iadd C dX11_greatestOf_55 ?_
                refine z_iald C 7 (by decide) rfl (by decide) (by omega) (by omega) dX11_greatestOf_56 ?_
                have rx13 := Ha_guardOf ((((6 * i3) + (3 * i4)) + 2) : Int).toNat
                generalize ex13 : a_guardOf ((((6 * i3) + (3 * i4)) + 2) : Int).toNat = x13 at rx13 ⊢
                refine z_iloadn C 3 dX11_greatestOf_57 rfl rfl ?_
                refine z_icmp_le (t := 73) C dX11_greatestOf_58 (by decide) (by omega) (by omega) (fun c14 => ?_) (fun c14 => ?_)
                · skip
                  refine z_iloadn C 3 dX11_greatestOf_73 rfl rfl ?_
                  refine z_istoren (L' := [(2, z_v i2), (5, z_v ((6 * i3) + (3 * i4))), (0, .ref (ad 0)), (1, z_v x), (3, z_v i3), (4, z_v i4)]) C dX11_greatestOf_74 rfl (by decide) rfl ?_
                  refine z_iinc (L' := [(4, z_v (i4 + 1)), (2, z_v i2), (5, z_v ((6 * i3) + (3 * i4))), (0, .ref (ad 0)), (1, z_v x), (3, z_v i3)]) C 5 dX11_greatestOf_75 rfl (by decide) rfl ?_
                  refine z_goto (t := 15) C dX11_greatestOf_78 (by decide) ?_
                  refine z_loc (L' := [(0, .ref (ad 0)), (1, z_v x), (2, z_v i2), (3, z_v i3), (4, z_v (i4 + 1))]) [3, 4, 1, 5, 0] rfl ?_
                  exact ih15 i2 (i4 + 1) (by omega) (by omega) (by omega)
                · skip
                  refine z_aloadn C 1 dX11_greatestOf_61 rfl rfl ?_
                  refine z_get C 0 (by decide) rfl rfl z_it11 7 (by decide) rfl fl_11_28 rfl dX11_greatestOf_62 ?_
                  refine z_iload C 0 dX11_greatestOf_65 rfl ?_
                  refine z_iconst C dX11_greatestOf_67 ?_
                  refine z_iadd C dX11_greatestOf_68 ?_
                  refine z_iald C 7 (by decide) rfl (by decide) (by omega) (by omega) dX11_greatestOf_69 ?_
                  rw [ex13]
                  refine z_goto (t := 74) C dX11_greatestOf_70 (by decide) ?_
                  refine z_istoren (L' := [(2, z_v x13), (5, z_v ((6 * i3) + (3 * i4))), (0, .ref (ad 0)), (1, z_v x), (3, z_v i3), (4, z_v i4)]) C dX11_greatestOf_74 rfl (by decide) rfl ?_
                  refine z_iinc (L' := [(4, z_v (i4 + 1)), (2, z_v x13), (5, z_v ((6 * i3) + (3 * i4))), (0, .ref (ad 0)), (1, z_v x), (3, z_v i3)]) C 5 dX11_greatestOf_75 rfl (by decide) rfl ?_
                  refine z_goto (t := 15) C dX11_greatestOf_78 (by decide) ?_
                  refine z_loc (L' := [(0, .ref (ad 0)), (1, z_v x), (2, z_v x13), (3, z_v i3), (4, z_v (i4 + 1))]) [3, 4, 1, 5, 0] rfl ?_
                  exact ih15 x13 (i4 + 1) (by omega) (by omega) (by omega)
        refine z_loc (L' := [(0, .ref (ad 0)), (1, z_v x), (2, z_v i2), (3, z_v i3), (4, z_v 0)]) [1, 2, 3, 4, 0] rfl ?_
        exact (L15 (((2 : Int) - 0).toNat + 1)) i2 0 (by omega) (by omega) (Nat.lt_succ_self _)
  refine z_loc (L' := [(0, .ref (ad 0)), (1, z_v x), (2, z_v 0), (3, z_v 0)]) [2, 3, 1, 0] rfl ?_
  exact (L4 (((20 : Int) - 0).toNat + 1)) 0 0 (by omega) (by omega) (Nat.lt_succ_self _)
set_option maxRecDepth 20000 in
theorem cm_X11_widen (l : Launch) {D : va_G} {A : Nat → Prop} {ad : Nat → Nat} {ks : z_Ks} {s_edges s_isNeeded s_explored s_states s_isMoved s_runs s_runTime s_runMoves : Int} {w_h : Int64} {a_machine a_from a_to a_channel a_resets a_guards a_guardOf a_limits a_limitOf a_places a_zones a_parent a_moveE a_moveF a_moves a_z a_ahead a_at a_amounts a_way a_moments a_runAt a_runClock : Nat → Int} {Y : Nat → Option va_E} (Hs_edges : (0 ≤ s_edges ∧ s_edges ≤ 20)) (Ha_z : (∀ j, z_rg (a_z j))) (Ha_ahead : (∀ j, z_rg (a_ahead j))) (Ha_guards : (∀ j, 0 ≤ a_guards j ∧ a_guards j ≤ 2)) (Ha_guardOf : (∀ j, (j % 3 = 0 → a_guardOf j ≤ 3) ∧ 0 ≤ a_guardOf j ∧ a_guardOf j ≤ 1000)) (Ha_limits : (∀ j, 0 ≤ a_limits j ∧ a_limits j ≤ 2)) (Ha_limitOf : (∀ j, (j % 3 = 0 → a_limitOf j ≤ 3) ∧ 0 ≤ a_limitOf j ∧ a_limitOf j ≤ 1000)) : z_Met l yX11_widen cX11_widen 6 (some .boolean) 2 45 0 0 D A 24 ad ks [.ref (ad 0)] (z_zm ad ks s_edges s_isNeeded s_explored s_states s_isMoved s_runs s_runTime s_runMoves w_h a_machine a_from a_to a_channel a_resets a_guards a_guardOf a_limits a_limitOf a_places a_zones a_parent a_moveE a_moveF a_moves a_z a_ahead a_at a_amounts a_way a_moments a_runAt a_runClock) Y (fun r S' Y' => ∃ na_z : Nat → Int, ∃ na_ahead : Nat → Int, S' = (z_zm ad ks s_edges s_isNeeded s_explored s_states s_isMoved s_runs s_runTime s_runMoves w_h a_machine a_from a_to a_channel a_resets a_guards a_guardOf a_limits a_limitOf a_places a_zones a_parent a_moveE a_moveF a_moves na_z na_ahead a_at a_amounts a_way a_moments a_runAt a_runClock) ∧ Y = Y' ∧ (∀ j, z_rg (na_z j)) ∧ (∀ j, z_rg (na_ahead j)) ∧ ∃ z : Int, r = some (z_v z) ∧ (z = 0 ∨ z = 1)) := by
  refine z_start2 (by decide) (Nat.le_of_ble_eq_true rfl) ?_
  intro p e R s m args below meth c Q C hRf hRc hRs hRl hQ hrt hnm
  refine z_loc (L' := [(0, .ref (ad 0))]) [0] rfl ?_
  refine z_iconst C dX11_widen_0 ?_
  refine z_istoren (L' := [(1, z_v 0), (0, .ref (ad 0))]) C dX11_widen_1 rfl (by decide) rfl ?_
  have L2 : ∀ (n : Nat), ∀ (i1 : Int) (fa_z : Nat → Int) (fa_ahead : Nat → Int), ((∀ j, z_rg (fa_z j))) → ((∀ j, z_rg (fa_ahead j))) → (0 ≤ i1 ∧ i1 ≤ 16) → ((16 : Int) - i1).toNat < n → z_V p l e R s m args below meth c Q D A 24 ad 6 (z_zm ad ks s_edges s_isNeeded s_explored s_states s_isMoved s_runs s_runTime s_runMoves w_h a_machine a_from a_to a_channel a_resets a_guards a_guardOf a_limits a_limitOf a_places a_zones a_parent a_moveE a_moveF a_moves fa_z fa_ahead a_at a_amounts a_way a_moments a_runAt a_runClock) Y 0 0 2 [(0, .ref (ad 0)), (1, z_v i1)] [] := by
    intro n
    induction n with
    | zero => intro i1 fa_z fa_ahead Hfa_z Hfa_ahead I1 hm; exact absurd hm (Nat.not_lt_zero _)
    | succ n ih2 =>
      intro i1 fa_z fa_ahead Hfa_z Hfa_ahead I1 hm
      refine z_iloadn C 1 dX11_widen_2 rfl rfl ?_
      refine z_bipush C dX11_widen_3 (by decide) ?_
      refine z_icmp_ge (t := 26) C dX11_widen_5 (by decide) (by omega) (by omega) (fun c1 => ?_) (fun c1 => ?_)
      · skip
        refine z_iconst C dX11_widen_26 ?_
        refine z_istoren (L' := [(1, z_v 1), (0, .ref (ad 0))]) C dX11_widen_27 rfl (by decide) rfl ?_
        have L28 : ∀ (n : Nat), ∀ (i1 : Int) (fa_z : Nat → Int) (fa_ahead : Nat → Int), ((∀ j, z_rg (fa_z j))) → ((∀ j, z_rg (fa_ahead j))) → (1 ≤ i1 ∧ i1 ≤ 4) → ((4 : Int) - i1).toNat < n → z_V p l e R s m args below meth c Q D A 24 ad 6 (z_zm ad ks s_edges s_isNeeded s_explored s_states s_isMoved s_runs s_runTime s_runMoves w_h a_machine a_from a_to a_channel a_resets a_guards a_guardOf a_limits a_limitOf a_places a_zones a_parent a_moveE a_moveF a_moves fa_z fa_ahead a_at a_amounts a_way a_moments a_runAt a_runClock) Y 0 0 28 [(0, .ref (ad 0)), (1, z_v i1)] [] := by
          intro n
          induction n with
          | zero => intro i1 fa_z fa_ahead Hfa_z Hfa_ahead I1 hm; exact absurd hm (Nat.not_lt_zero _)
          | succ n ih28 =>
            intro i1 fa_z fa_ahead Hfa_z Hfa_ahead I1 hm
            refine z_iloadn C 1 dX11_widen_28 rfl rfl ?_
            refine z_iconst C dX11_widen_29 ?_
            refine z_icmp_ge (t := 144) C dX11_widen_30 (by decide) (by omega) (by omega) (fun c2 => ?_) (fun c2 => ?_)
            · skip
              refine z_aloadn C 0 dX11_widen_144 rfl rfl ?_
              refine z_callV C (cm_X11_close l Hfa_z) mv_11_125 (z_atS 0 11 (by decide) rfl rfl rfl) pd_X11_close ⟨by omega, by omega⟩ ⟨by omega, by omega⟩ rfl (Nat.le_of_ble_eq_true rfl) dX11_widen_145 ?_
              rintro _ _ _ ⟨n3, rfl, rfl, h6, z7, rfl, hz7⟩
              rw [hQ]
              exact z_zret C hrt (by omega) dX11_widen_148 (⟨n3, fa_ahead, rfl, rfl, h6, Hfa_ahead, _, rfl, by omega⟩) (by omega) (by omega)
            · skip
              refine z_aloadn C 0 dX11_widen_33 rfl rfl ?_
              refine z_iloadn C 1 dX11_widen_34 rfl rfl ?_
              refine z_callV C (cm_X11_greatestOf l i1 (by omega) Ha_guards Ha_guardOf Ha_limits Ha_limitOf (by omega)) mv_11_129 (z_atS 0 11 (by decide) rfl rfl rfl) pd_X11_greatestOf ⟨by omega, by omega⟩ ⟨by omega, by omega⟩ rfl (Nat.le_of_ble_eq_true rfl) dX11_widen_35 ?_
              rintro _ _ _ ⟨rfl, rfl, z10, rfl, hz10⟩
              refine z_istoren (L' := [(2, z_v z10), (0, .ref (ad 0)), (1, z_v i1)]) C dX11_widen_38 rfl (by decide) rfl ?_
              refine z_iconst C dX11_widen_39 ?_
              refine z_istoren (L' := [(3, z_v 0), (2, z_v z10), (0, .ref (ad 0)), (1, z_v i1)]) C dX11_widen_40 rfl (by decide) rfl ?_
              have L41 : ∀ (n : Nat), ∀ (i3 : Int) (fa_z : Nat → Int) (fa_ahead : Nat → Int), ((∀ j, z_rg (fa_z j))) → ((∀ j, z_rg (fa_ahead j))) → (0 ≤ i3 ∧ i3 ≤ 4) → ((4 : Int) - i3).toNat < n → z_V p l e R s m args below meth c Q D A 24 ad 6 (z_zm ad ks s_edges s_isNeeded s_explored s_states s_isMoved s_runs s_runTime s_runMoves w_h a_machine a_from a_to a_channel a_resets a_guards a_guardOf a_limits a_limitOf a_places a_zones a_parent a_moveE a_moveF a_moves fa_z fa_ahead a_at a_amounts a_way a_moments a_runAt a_runClock) Y 0 0 41 [(0, .ref (ad 0)), (1, z_v i1), (2, z_v z10), (3, z_v i3)] [] := by
                intro n
                induction n with
                | zero => intro i3 fa_z fa_ahead Hfa_z Hfa_ahead I3 hm; exact absurd hm (Nat.not_lt_zero _)
                | succ n ih41 =>
                  intro i3 fa_z fa_ahead Hfa_z Hfa_ahead I3 hm
                  refine z_iloadn C 3 dX11_widen_41 rfl rfl ?_
                  refine z_iconst C dX11_widen_42 ?_
                  refine z_icmp_ge (t := 138) C dX11_widen_43 (by decide) (by omega) (by omega) (fun c11 => ?_) (fun c11 => ?_)
                  · skip
                    refine z_iinc (L' := [(1, z_v (i1 + 1)), (0, .ref (ad 0)), (2, z_v z10), (3, z_v i3)]) C 1 dX11_widen_138 rfl (by decide) rfl ?_
                    refine z_goto (t := 28) C dX11_widen_141 (by decide) ?_
                    refine z_loc (L' := [(0, .ref (ad 0)), (1, z_v (i1 + 1))]) [1, 0] rfl ?_
                    exact ih28 (i1 + 1) fa_z fa_ahead Hfa_z Hfa_ahead (by omega) (by omega)
                  · skip
                    refine z_iloadn C 3 dX11_widen_46 rfl rfl ?_
                    refine z_iloadn C 1 dX11_widen_47 rfl rfl ?_
                    refine z_icmp_eq (t := 132) C dX11_widen_48 (by decide) (by omega) (by omega) (fun c12 => ?_) (fun c12 => ?_)
                    · skip
                      refine z_iinc (L' := [(3, z_v (i3 + 1)), (0, .ref (ad 0)), (1, z_v i1), (2, z_v z10)]) C 3 dX11_widen_132 rfl (by decide) rfl ?_
                      refine z_goto (t := 41) C dX11_widen_135 (by decide) ?_
                      refine z_loc (L' := [(0, .ref (ad 0)), (1, z_v i1), (2, z_v z10), (3, z_v (i3 + 1))]) [1, 2, 3, 0] rfl ?_
                      exact ih41 (i3 + 1) fa_z fa_ahead Hfa_z Hfa_ahead (by omega) (by omega)
                    · skip
                      refine z_aloadn C 0 dX11_widen_51 rfl rfl ?_
                      refine z_get C 0 (by decide) rfl rfl z_it11 20 (by decide) rfl fl_11_62 rfl dX11_widen_52 ?_
                      refine z_iconst C dX11_widen_55 ?_
                      refine z_iloadn C 1 dX11_widen_56 rfl rfl ?_
                      refine z_imul C dX11_widen_57 ?_
                      refine z_iloadn C 3 dX11_widen_58 rfl rfl ?_
                      refine z_iadd C dX11_widen_59 ?_
                      refine z_iald C 17 (by decide) rfl (by decide) (by omega) (by omega) dX11_widen_60 ?_
                      have rx13 := Hfa_ahead (((4 * i1) + i3) : Int).toNat
                      generalize ex13 : fa_ahead (((4 * i1) + i3) : Int).toNat = x13 at rx13 ⊢
                      refine z_istore (L' := [(4, z_v x13), (0, .ref (ad 0)), (1, z_v i1), (2, z_v z10), (3, z_v i3)]) C dX11_widen_61 (by decide) rfl ?_
                      refine z_iload C 0 dX11_widen_63 rfl ?_
                      refine z_ldc (n := 100000) C kc_11_113 (by decide) dX11_widen_65 ?_
                      refine z_icmp_eq (t := 90) C dX11_widen_67 (by decide) (by omega) (by omega) (fun c14 => ?_) (fun c14 => ?_)
                      · skip
                        refine z_aloadn C 1 dX11_widen_90 rfl rfl ?_
                        refine z_get C 0 (by decide) rfl rfl z_it11 20 (by decide) rfl fl_11_62 rfl dX11_widen_91 ?_
                        refine z_iconst C dX11_widen_94 ?_
                        refine z_iloadn C 4 dX11_widen_95 rfl rfl ?_
                        refine z_imul C dX11_widen_96 ?_
                        refine z_iloadn C 2 dX11_widen_97 rfl rfl ?_
                        refine z_iadd C dX11_widen_98 ?_
                        refine z_iald C 17 (by decide) rfl (by decide) (by omega) (by omega) dX11_widen_99 ?_
                        have rx15 := Hfa_ahead (((4 * i3) + i1) : Int).toNat
                        generalize ex15 : fa_ahead (((4 * i3) + i1) : Int).toNat = x15 at rx15 ⊢
                        refine z_istore (L' := [(5, z_v x15), (4, z_v x13), (0, .ref (ad 0)), (1, z_v i1), (2, z_v z10), (3, z_v i3)]) C dX11_widen_100 (by decide) rfl ?_
                        refine z_iload C 0 dX11_widen_102 rfl ?_
                        refine z_ldc (n := 100000) C kc_11_113 (by decide) dX11_widen_104 ?_
                        refine z_icmp_eq (t := 132) C dX11_widen_106 (by decide) (by omega) (by omega) (fun c16 => ?_) (fun c16 => ?_)
                        · skip
                          refine z_iinc (L' := [(3, z_v (i3 + 1)), (5, z_v x15), (4, z_v x13), (0, .ref (ad 0)), (1, z_v i1), (2, z_v z10)]) C 5 dX11_widen_132 rfl (by decide) rfl ?_
                          refine z_goto (t := 41) C dX11_widen_135 (by decide) ?_
                          refine z_loc (L' := [(0, .ref (ad 0)), (1, z_v i1), (2, z_v z10), (3, z_v (i3 + 1))]) [3, 4, 5, 0] rfl ?_
                          exact ih41 (i3 + 1) fa_z fa_ahead Hfa_z Hfa_ahead (by omega) (by omega)
                        · skip
                          refine z_iload C 0 dX11_widen_109 rfl ?_
                          refine z_iconst C dX11_widen_111 ?_
                          obtain ⟨b17, hb17, rb17⟩ := z_bits (z_i x15 >>> (z_i 1 &&& 31))
                          refine z_ishr C hb17 dX11_widen_112 ?_
                          have qb17 := z_bitsE hb17 rb17
                          refine z_iloadn C 4 dX11_widen_113 rfl rfl ?_
                          refine z_ineg C dX11_widen_114 ?_
                          refine z_icmp_ge (t := 132) C dX11_widen_115 (by decide) (by omega) (by omega) (fun c18 => ?_) (fun c18 => ?_)
                          · skip
                            refine z_iinc (L' := [(3, z_v (i3 + 1)), (5, z_v x15), (4, z_v x13), (0, .ref (ad 0)), (1, z_v i1), (2, z_v z10)]) C 5 dX11_widen_132 rfl (by decide) rfl ?_
                            refine z_goto (t := 41) C dX11_widen_135 (by decide) ?_
                            refine z_loc (L' := [(0, .ref (ad 0)), (1, z_v i1), (2, z_v z10), (3, z_v (i3 + 1))]) [3, 4, 5, 0] rfl ?_
                            exact ih41 (i3 + 1) fa_z fa_ahead Hfa_z Hfa_ahead (by omega) (by omega)
                          · skip
                            refine z_aloadn C 2 dX11_widen_118 rfl rfl ?_
                            refine z_get C 0 (by decide) rfl rfl z_it11 19 (by decide) rfl fl_11_59 rfl dX11_widen_119 ?_
                            refine z_iconst C dX11_widen_122 ?_
                            refine z_iloadn C 5 dX11_widen_123 rfl rfl ?_
                            refine z_imul C dX11_widen_124 ?_
                            refine z_iloadn C 3 dX11_widen_125 rfl rfl ?_
                            refine z_iadd C dX11_widen_126 ?_
                            refine z_bipush C dX11_widen_127 (by decide) ?_
                            refine z_iloadn C 4 dX11_widen_129 rfl rfl ?_
                            refine z_imul C dX11_widen_130 ?_
                            refine z_iast C 16 (by decide) rfl (by decide) (by omega) (by omega) dX11_widen_131 ?_
                            refine z_ext (S' := (z_zm ad ks s_edges s_isNeeded s_explored s_states s_isMoved s_runs s_runTime s_runMoves w_h a_machine a_from a_to a_channel a_resets a_guards a_guardOf a_limits a_limitOf a_places a_zones a_parent a_moveE a_moveF a_moves (va_up fa_z (((4 * i3) + i1) : Int).toNat ((-2) * z10)) fa_ahead a_at a_amounts a_way a_moments a_runAt a_runClock)) upM_a_z ?_
                            have h19 : ∀ j, z_rg ((va_up fa_z (((4 * i3) + i1) : Int).toNat ((-2) * z10)) j) := z_upP (P := fun j v => z_rg (v)) Hfa_z (by omega)
                            generalize (va_up fa_z (((4 * i3) + i1) : Int).toNat ((-2) * z10)) = f20 at h19 ⊢
                            refine z_iinc (L' := [(3, z_v (i3 + 1)), (5, z_v x15), (4, z_v x13), (0, .ref (ad 0)), (1, z_v i1), (2, z_v z10)]) C 5 dX11_widen_132 rfl (by decide) rfl ?_
                            refine z_goto (t := 41) C dX11_widen_135 (by decide) ?_
                            refine z_loc (L' := [(0, .ref (ad 0)), (1, z_v i1), (2, z_v z10), (3, z_v (i3 + 1))]) [3, 4, 5, 0] rfl ?_
                            exact ih41 (i3 + 1) f20 fa_ahead h19 Hfa_ahead (by omega) (by omega)
                      · skip
                        refine z_iload C 0 dX11_widen_70 rfl ?_
                        refine z_iconst C dX11_widen_72 ?_
                        obtain ⟨b21, hb21, rb21⟩ := z_bits (z_i x13 >>> (z_i 1 &&& 31))
                        refine z_ishr C hb21 dX11_widen_73 ?_
                        have qb21 := z_bitsE hb21 rb21
                        refine z_iloadn C 3 dX11_widen_74 rfl rfl ?_
                        refine z_icmp_le (t := 90) C dX11_widen_75 (by decide) (by omega) (by omega) (fun c22 => ?_) (fun c22 => ?_)
                        · skip
                          refine z_aloadn C 1 dX11_widen_90 rfl rfl ?_
                          refine z_get C 0 (by decide) rfl rfl z_it11 20 (by decide) rfl fl_11_62 rfl dX11_widen_91 ?_
                          refine z_iconst C dX11_widen_94 ?_
                          refine z_iloadn C 4 dX11_widen_95 rfl rfl ?_
                          refine z_imul C dX11_widen_96 ?_
                          refine z_iloadn C 2 dX11_widen_97 rfl rfl ?_
                          refine z_iadd C dX11_widen_98 ?_
                          refine z_iald C 17 (by decide) rfl (by decide) (by omega) (by omega) dX11_widen_99 ?_
                          have rx23 := Hfa_ahead (((4 * i3) + i1) : Int).toNat
                          generalize ex23 : fa_ahead (((4 * i3) + i1) : Int).toNat = x23 at rx23 ⊢
                          refine z_istore (L' := [(5, z_v x23), (4, z_v x13), (0, .ref (ad 0)), (1, z_v i1), (2, z_v z10), (3, z_v i3)]) C dX11_widen_100 (by decide) rfl ?_
                          refine z_iload C 0 dX11_widen_102 rfl ?_
                          refine z_ldc (n := 100000) C kc_11_113 (by decide) dX11_widen_104 ?_
                          refine z_icmp_eq (t := 132) C dX11_widen_106 (by decide) (by omega) (by omega) (fun c24 => ?_) (fun c24 => ?_)
                          · skip
                            refine z_iinc (L' := [(3, z_v (i3 + 1)), (5, z_v x23), (4, z_v x13), (0, .ref (ad 0)), (1, z_v i1), (2, z_v z10)]) C 5 dX11_widen_132 rfl (by decide) rfl ?_
                            refine z_goto (t := 41) C dX11_widen_135 (by decide) ?_
                            refine z_loc (L' := [(0, .ref (ad 0)), (1, z_v i1), (2, z_v z10), (3, z_v (i3 + 1))]) [3, 4, 5, 0] rfl ?_
                            exact ih41 (i3 + 1) fa_z fa_ahead Hfa_z Hfa_ahead (by omega) (by omega)
                          · skip
                            refine z_iload C 0 dX11_widen_109 rfl ?_
                            refine z_iconst C dX11_widen_111 ?_
                            obtain ⟨b25, hb25, rb25⟩ := z_bits (z_i x23 >>> (z_i 1 &&& 31))
                            refine z_ishr C hb25 dX11_widen_112 ?_
                            have qb25 := z_bitsE hb25 rb25
                            refine z_iloadn C 4 dX11_widen_113 rfl rfl ?_
                            refine z_ineg C dX11_widen_114 ?_
                            refine z_icmp_ge (t := 132) C dX11_widen_115 (by decide) (by omega) (by omega) (fun c26 => ?_) (fun c26 => ?_)
                            · skip
                              refine z_iinc (L' := [(3, z_v (i3 + 1)), (5, z_v x23), (4, z_v x13), (0, .ref (ad 0)), (1, z_v i1), (2, z_v z10)]) C 5 dX11_widen_132 rfl (by decide) rfl ?_
                              refine z_goto (t := 41) C dX11_widen_135 (by decide) ?_
                              refine z_loc (L' := [(0, .ref (ad 0)), (1, z_v i1), (2, z_v z10), (3, z_v (i3 + 1))]) [3, 4, 5, 0] rfl ?_
                              exact ih41 (i3 + 1) fa_z fa_ahead Hfa_z Hfa_ahead (by omega) (by omega)
                            · skip
                              refine z_aloadn C 2 dX11_widen_118 rfl rfl ?_
                              refine z_get C 0 (by decide) rfl rfl z_it11 19 (by decide) rfl fl_11_59 rfl dX11_widen_119 ?_
                              refine z_iconst C dX11_widen_122 ?_
                              refine z_iloadn C 5 dX11_widen_123 rfl rfl ?_
                              refine z_imul C dX11_widen_124 ?_
                              refine z_iloadn C 3 dX11_widen_125 rfl rfl ?_
                              refine z_iadd C dX11_widen_126 ?_
                              refine z_bipush C dX11_widen_127 (by decide) ?_
                              refine z_iloadn C 4 dX11_widen_129 rfl rfl ?_
                              refine z_imul C dX11_widen_130 ?_
                              refine z_iast C 16 (by decide) rfl (by decide) (by omega) (by omega) dX11_widen_131 ?_
                              refine z_ext (S' := (z_zm ad ks s_edges s_isNeeded s_explored s_states s_isMoved s_runs s_runTime s_runMoves w_h a_machine a_from a_to a_channel a_resets a_guards a_guardOf a_limits a_limitOf a_places a_zones a_parent a_moveE a_moveF a_moves (va_up fa_z (((4 * i3) + i1) : Int).toNat ((-2) * z10)) fa_ahead a_at a_amounts a_way a_moments a_runAt a_runClock)) upM_a_z ?_
                              have h27 : ∀ j, z_rg ((va_up fa_z (((4 * i3) + i1) : Int).toNat ((-2) * z10)) j) := z_upP (P := fun j v => z_rg (v)) Hfa_z (by omega)
                              generalize (va_up fa_z (((4 * i3) + i1) : Int).toNat ((-2) * z10)) = f28 at h27 ⊢
                              refine z_iinc (L' := [(3, z_v (i3 + 1)), (5, z_v x23), (4, z_v x13), (0, .ref (ad 0)), (1, z_v i1), (2, z_v z10)]) C 5 dX11_widen_132 rfl (by decide) rfl ?_
                              refine z_goto (t := 41) C dX11_widen_135 (by decide) ?_
                              refine z_loc (L' := [(0, .ref (ad 0)), (1, z_v i1), (2, z_v z10), (3, z_v (i3 + 1))]) [3, 4, 5, 0] rfl ?_
                              exact ih41 (i3 + 1) f28 fa_ahead h27 Hfa_ahead (by omega) (by omega)
                        · skip
                          refine z_aloadn C 1 dX11_widen_78 rfl rfl ?_
                          refine z_get C 0 (by decide) rfl rfl z_it11 19 (by decide) rfl fl_11_59 rfl dX11_widen_79 ?_
                          refine z_iconst C dX11_widen_82 ?_
                          refine z_iloadn C 2 dX11_widen_83 rfl rfl ?_
                          refine z_imul C dX11_widen_84 ?_
                          refine z_iloadn C 4 dX11_widen_85 rfl rfl ?_
                          refine z_iadd C dX11_widen_86 ?_
                          refine z_ldc (n := 100000) C kc_11_113 (by decide) dX11_widen_87 ?_
                          refine z_iast C 16 (by decide) rfl (by decide) (by omega) (by omega) dX11_widen_89 ?_
                          refine z_ext (S' := (z_zm ad ks s_edges s_isNeeded s_explored s_states s_isMoved s_runs s_runTime s_runMoves w_h a_machine a_from a_to a_channel a_resets a_guards a_guardOf a_limits a_limitOf a_places a_zones a_parent a_moveE a_moveF a_moves (va_up fa_z (((4 * i1) + i3) : Int).toNat 100000) fa_ahead a_at a_amounts a_way a_moments a_runAt a_runClock)) upM_a_z ?_
                          have h29 : ∀ j, z_rg ((va_up fa_z (((4 * i1) + i3) : Int).toNat 100000) j) := z_upP (P := fun j v => z_rg (v)) Hfa_z (by omega)
                          generalize (va_up fa_z (((4 * i1) + i3) : Int).toNat 100000) = f30 at h29 ⊢
                          refine z_aloadn C 1 dX11_widen_90 rfl rfl ?_
                          refine z_get C 0 (by decide) rfl rfl z_it11 20 (by decide) rfl fl_11_62 rfl dX11_widen_91 ?_
                          refine z_iconst C dX11_widen_94 ?_
                          refine z_iloadn C 4 dX11_widen_95 rfl rfl ?_
                          refine z_imul C dX11_widen_96 ?_
                          refine z_iloadn C 2 dX11_widen_97 rfl rfl ?_
                          refine z_iadd C dX11_widen_98 ?_
                          refine z_iald C 17 (by decide) rfl (by decide) (by omega) (by omega) dX11_widen_99 ?_
                          have rx31 := Hfa_ahead (((4 * i3) + i1) : Int).toNat
                          generalize ex31 : fa_ahead (((4 * i3) + i1) : Int).toNat = x31 at rx31 ⊢
                          refine z_istore (L' := [(5, z_v x31), (4, z_v x13), (0, .ref (ad 0)), (1, z_v i1), (2, z_v z10), (3, z_v i3)]) C dX11_widen_100 (by decide) rfl ?_
                          refine z_iload C 0 dX11_widen_102 rfl ?_
                          refine z_ldc (n := 100000) C kc_11_113 (by decide) dX11_widen_104 ?_
                          refine z_icmp_eq (t := 132) C dX11_widen_106 (by decide) (by omega) (by omega) (fun c32 => ?_) (fun c32 => ?_)
                          · skip
                            refine z_iinc (L' := [(3, z_v (i3 + 1)), (5, z_v x31), (4, z_v x13), (0, .ref (ad 0)), (1, z_v i1), (2, z_v z10)]) C 5 dX11_widen_132 rfl (by decide) rfl ?_
                            refine z_goto (t := 41) C dX11_widen_135 (by decide) ?_
                            refine z_loc (L' := [(0, .ref (ad 0)), (1, z_v i1), (2, z_v z10), (3, z_v (i3 + 1))]) [3, 4, 5, 0] rfl ?_
                            exact ih41 (i3 + 1) f30 fa_ahead h29 Hfa_ahead (by omega) (by omega)
                          · skip
                            refine z_iload C 0 dX11_widen_109 rfl ?_
                            refine z_iconst C dX11_widen_111 ?_
                            obtain ⟨b33, hb33, rb33⟩ := z_bits (z_i x31 >>> (z_i 1 &&& 31))
                            refine z_ishr C hb33 dX11_widen_112 ?_
                            have qb33 := z_bitsE hb33 rb33
                            refine z_iloadn C 4 dX11_widen_113 rfl rfl ?_
                            refine z_ineg C dX11_widen_114 ?_
                            refine z_icmp_ge (t := 132) C dX11_widen_115 (by decide) (by omega) (by omega) (fun c34 => ?_) (fun c34 => ?_)
                            · skip
                              refine z_iinc (L' := [(3, z_v (i3 + 1)), (5, z_v x31), (4, z_v x13), (0, .ref (ad 0)), (1, z_v i1), (2, z_v z10)]) C 5 dX11_widen_132 rfl (by decide) rfl ?_
                              refine z_goto (t := 41) C dX11_widen_135 (by decide) ?_
                              refine z_loc (L' := [(0, .ref (ad 0)), (1, z_v i1), (2, z_v z10), (3, z_v (i3 + 1))]) [3, 4, 5, 0] rfl ?_
                              exact ih41 (i3 + 1) f30 fa_ahead h29 Hfa_ahead (by omega) (by omega)
                            · skip
                              refine z_aloadn C 2 dX11_widen_118 rfl rfl ?_
                              refine z_get C 0 (by decide) rfl rfl z_it11 19 (by decide) rfl fl_11_59 rfl dX11_widen_119 ?_
                              refine z_iconst C dX11_widen_122 ?_
                              refine z_iloadn C 5 dX11_widen_123 rfl rfl ?_
                              refine z_imul C dX11_widen_124 ?_
                              refine z_iloadn C 3 dX11_widen_125 rfl rfl ?_
                              refine z_iadd C dX11_widen_126 ?_
                              refine z_bipush C dX11_widen_127 (by decide) ?_
                              refine z_iloadn C 4 dX11_widen_129 rfl rfl ?_
                              refine z_imul C dX11_widen_130 ?_
                              refine z_iast C 16 (by decide) rfl (by decide) (by omega) (by omega) dX11_widen_131 ?_
                              refine z_ext (S' := (z_zm ad ks s_edges s_isNeeded s_explored s_states s_isMoved s_runs s_runTime s_runMoves w_h a_machine a_from a_to a_channel a_resets a_guards a_guardOf a_limits a_limitOf a_places a_zones a_parent a_moveE a_moveF a_moves (va_up f30 (((4 * i3) + i1) : Int).toNat ((-2) * z10)) fa_ahead a_at a_amounts a_way a_moments a_runAt a_runClock)) upM_a_z ?_
                              have h35 : ∀ j, z_rg ((va_up f30 (((4 * i3) + i1) : Int).toNat ((-2) * z10)) j) := z_upP (P := fun j v => z_rg (v)) h29 (by omega)
                              generalize (va_up f30 (((4 * i3) + i1) : Int).toNat ((-2) * z10)) = f36 at h35 ⊢
                              refine z_iinc (L' := [(3, z_v (i3 + 1)), (5, z_v x31), (4, z_v x13), (0, .ref (ad 0)), (1, z_v i1), (2, z_v z10)]) C 5 dX11_widen_132 rfl (by decide) rfl ?_
                              refine z_goto (t := 41) C dX11_widen_135 (by decide) ?_
                              refine z_loc (L' := [(0, .ref (ad 0)), (1, z_v i1), (2, z_v z10), (3, z_v (i3 + 1))]) [3, 4, 5, 0] rfl ?_
                              exact ih41 (i3 + 1) f36 fa_ahead h35 Hfa_ahead (by omega) (by omega)
              refine z_loc (L' := [(0, .ref (ad 0)), (1, z_v i1), (2, z_v z10), (3, z_v 0)]) [2, 3, 1, 0] rfl ?_
              exact (L41 (((4 : Int) - 0).toNat + 1)) 0 fa_z fa_ahead Hfa_z Hfa_ahead (by omega) (Nat.lt_succ_self _)
        refine z_loc (L' := [(0, .ref (ad 0)), (1, z_v 1)]) [1, 0] rfl ?_
        exact (L28 (((4 : Int) - 1).toNat + 1)) 1 fa_z fa_ahead Hfa_z Hfa_ahead (by omega) (Nat.lt_succ_self _)
      · skip
        refine z_aloadn C 0 dX11_widen_8 rfl rfl ?_
        refine z_get C 0 (by decide) rfl rfl z_it11 20 (by decide) rfl fl_11_62 rfl dX11_widen_9 ?_
        refine z_iloadn C 1 dX11_widen_12 rfl rfl ?_
        refine z_aloadn C 0 dX11_widen_13 rfl rfl ?_
        refine z_get C 0 (by decide) rfl rfl z_it11 19 (by decide) rfl fl_11_59 rfl dX11_widen_14 ?_
        refine z_iloadn C 1 dX11_widen_17 rfl rfl ?_
        refine z_iald C 16 (by decide) rfl (by decide) (by omega) (by omega) dX11_widen_18 ?_
        have rx37 := Hfa_z (i1 : Int).toNat
        generalize ex37 : fa_z (i1 : Int).toNat = x37 at rx37 ⊢
        refine z_iast C 17 (by decide) rfl (by decide) (by omega) (by omega) dX11_widen_19 ?_
        refine z_ext (S' := (z_zm ad ks s_edges s_isNeeded s_explored s_states s_isMoved s_runs s_runTime s_runMoves w_h a_machine a_from a_to a_channel a_resets a_guards a_guardOf a_limits a_limitOf a_places a_zones a_parent a_moveE a_moveF a_moves fa_z (va_up fa_ahead (i1 : Int).toNat x37) a_at a_amounts a_way a_moments a_runAt a_runClock)) upM_a_ahead ?_
        have h38 : ∀ j, z_rg ((va_up fa_ahead (i1 : Int).toNat x37) j) := z_upP (P := fun j v => z_rg (v)) Hfa_ahead (by omega)
        generalize (va_up fa_ahead (i1 : Int).toNat x37) = f39 at h38 ⊢
        refine z_iinc (L' := [(1, z_v (i1 + 1)), (0, .ref (ad 0))]) C 1 dX11_widen_20 rfl (by decide) rfl ?_
        refine z_goto (t := 2) C dX11_widen_23 (by decide) ?_
        refine z_loc (L' := [(0, .ref (ad 0)), (1, z_v (i1 + 1))]) [1, 0] rfl ?_
        exact ih2 (i1 + 1) fa_z f39 Hfa_z h38 (by omega) (by omega)
  refine z_loc (L' := [(0, .ref (ad 0)), (1, z_v 0)]) [1, 0] rfl ?_
  exact (L2 (((16 : Int) - 0).toNat + 1)) 0 a_z a_ahead Ha_z Ha_ahead (by omega) (Nat.lt_succ_self _)
set_option maxRecDepth 20000 in
theorem cm_X11_later (l : Launch) {D : va_G} {A : Nat → Prop} {ad : Nat → Nat} {ks : z_Ks} {s_edges s_isNeeded s_explored s_states s_isMoved s_runs s_runTime s_runMoves : Int} {w_h : Int64} {a_machine a_from a_to a_channel a_resets a_guards a_guardOf a_limits a_limitOf a_places a_zones a_parent a_moveE a_moveF a_moves a_z a_ahead a_at a_amounts a_way a_moments a_runAt a_runClock : Nat → Int} {Y : Nat → Option va_E} (Hs_edges : (0 ≤ s_edges ∧ s_edges ≤ 20)) (Ha_z : (∀ j, z_rg (a_z j))) (Ha_ahead : (∀ j, z_rg (a_ahead j))) (Ha_at : (∀ j, 0 ≤ a_at j ∧ a_at j ≤ 5)) (Ha_guards : (∀ j, 0 ≤ a_guards j ∧ a_guards j ≤ 2)) (Ha_guardOf : (∀ j, (j % 3 = 0 → a_guardOf j ≤ 3) ∧ 0 ≤ a_guardOf j ∧ a_guardOf j ≤ 1000)) (Ha_limits : (∀ j, 0 ≤ a_limits j ∧ a_limits j ≤ 2)) (Ha_limitOf : (∀ j, (j % 3 = 0 → a_limitOf j ≤ 3) ∧ 0 ≤ a_limitOf j ∧ a_limitOf j ≤ 1000)) : z_Met l yX11_later cX11_later 2 (some .boolean) 3 70 0 0 D A 24 ad ks [.ref (ad 0)] (z_zm ad ks s_edges s_isNeeded s_explored s_states s_isMoved s_runs s_runTime s_runMoves w_h a_machine a_from a_to a_channel a_resets a_guards a_guardOf a_limits a_limitOf a_places a_zones a_parent a_moveE a_moveF a_moves a_z a_ahead a_at a_amounts a_way a_moments a_runAt a_runClock) Y (fun r S' Y' => ∃ na_z : Nat → Int, ∃ na_ahead : Nat → Int, S' = (z_zm ad ks s_edges s_isNeeded s_explored s_states s_isMoved s_runs s_runTime s_runMoves w_h a_machine a_from a_to a_channel a_resets a_guards a_guardOf a_limits a_limitOf a_places a_zones a_parent a_moveE a_moveF a_moves na_z na_ahead a_at a_amounts a_way a_moments a_runAt a_runClock) ∧ Y = Y' ∧ (∀ j, z_rg (na_z j)) ∧ (∀ j, z_rg (na_ahead j)) ∧ ∃ z : Int, r = some (z_v z) ∧ (z = 0 ∨ z = 1)) := by
  refine z_start2 (by decide) (Nat.le_of_ble_eq_true rfl) ?_
  intro p e R s m args below meth c Q C hRf hRc hRs hRl hQ hrt hnm
  refine z_loc (L' := [(0, .ref (ad 0))]) [0] rfl ?_
  refine z_iconst C dX11_later_0 ?_
  refine z_istoren (L' := [(1, z_v 1), (0, .ref (ad 0))]) C dX11_later_1 rfl (by decide) rfl ?_
  have L2 : ∀ (n : Nat), ∀ (i1 : Int) (fa_z : Nat → Int) (fa_ahead : Nat → Int), ((∀ j, z_rg (fa_z j))) → ((∀ j, z_rg (fa_ahead j))) → (1 ≤ i1 ∧ i1 ≤ 4) → ((4 : Int) - i1).toNat < n → z_V p l e R s m args below meth c Q D A 24 ad 2 (z_zm ad ks s_edges s_isNeeded s_explored s_states s_isMoved s_runs s_runTime s_runMoves w_h a_machine a_from a_to a_channel a_resets a_guards a_guardOf a_limits a_limitOf a_places a_zones a_parent a_moveE a_moveF a_moves fa_z fa_ahead a_at a_amounts a_way a_moments a_runAt a_runClock) Y 0 0 2 [(0, .ref (ad 0)), (1, z_v i1)] [] := by
    intro n
    induction n with
    | zero => intro i1 fa_z fa_ahead Hfa_z Hfa_ahead I1 hm; exact absurd hm (Nat.not_lt_zero _)
    | succ n ih2 =>
      intro i1 fa_z fa_ahead Hfa_z Hfa_ahead I1 hm
      refine z_iloadn C 1 dX11_later_2 rfl rfl ?_
      refine z_iconst C dX11_later_3 ?_
      refine z_icmp_ge (t := 23) C dX11_later_4 (by decide) (by omega) (by omega) (fun c1 => ?_) (fun c1 => ?_)
      · skip
        refine z_aloadn C 0 dX11_later_23 rfl rfl ?_
        refine z_callV C (cm_X11_keepLimits l Ha_at Ha_limits Ha_limitOf Hfa_z) mv_11_133 (z_atS 0 11 (by decide) rfl rfl rfl) pd_X11_keepLimits ⟨by omega, by omega⟩ ⟨by omega, by omega⟩ rfl (Nat.le_of_ble_eq_true rfl) dX11_later_24 ?_
        rintro _ _ _ ⟨n2, rfl, rfl, h5, z6, rfl, hz6⟩
        refine z_if_eq (t := 41) C dX11_later_27 (by decide) (by omega) (fun c7 => ?_) (fun c7 => ?_)
        · skip
          refine z_iconst C dX11_later_41 ?_
          rw [hQ]
          exact z_zret C hrt (by omega) dX11_later_42 (⟨n2, fa_ahead, rfl, rfl, h5, Hfa_ahead, _, rfl, by omega⟩) (by omega) (by omega)
        · skip
          refine z_aloadn C 0 dX11_later_30 rfl rfl ?_
          refine z_callV C (cm_X11_widen l (by omega) h5 Hfa_ahead Ha_guards Ha_guardOf Ha_limits Ha_limitOf) mv_11_136 (z_atS 0 11 (by decide) rfl rfl rfl) pd_X11_widen ⟨by omega, by omega⟩ ⟨by omega, by omega⟩ rfl (Nat.le_of_ble_eq_true rfl) dX11_later_31 ?_
          rintro _ _ _ ⟨n8, n9, rfl, rfl, h12, h13, z14, rfl, hz14⟩
          refine z_if_eq (t := 41) C dX11_later_34 (by decide) (by omega) (fun c15 => ?_) (fun c15 => ?_)
          · skip
            refine z_iconst C dX11_later_41 ?_
            rw [hQ]
            exact z_zret C hrt (by omega) dX11_later_42 (⟨n8, n9, rfl, rfl, h12, h13, _, rfl, by omega⟩) (by omega) (by omega)
          · skip
            refine z_iconst C dX11_later_37 ?_
            refine z_goto (t := 42) C dX11_later_38 (by decide) ?_
            rw [hQ]
            exact z_zret C hrt (by omega) dX11_later_42 (⟨n8, n9, rfl, rfl, h12, h13, _, rfl, by omega⟩) (by omega) (by omega)
      · skip
        refine z_aloadn C 0 dX11_later_7 rfl rfl ?_
        refine z_get C 0 (by decide) rfl rfl z_it11 19 (by decide) rfl fl_11_59 rfl dX11_later_8 ?_
        refine z_iconst C dX11_later_11 ?_
        refine z_iloadn C 1 dX11_later_12 rfl rfl ?_
        refine z_imul C dX11_later_13 ?_
        refine z_ldc (n := 100000) C kc_11_113 (by decide) dX11_later_14 ?_
        refine z_iast C 16 (by decide) rfl (by decide) (by omega) (by omega) dX11_later_16 ?_
        refine z_ext (S' := (z_zm ad ks s_edges s_isNeeded s_explored s_states s_isMoved s_runs s_runTime s_runMoves w_h a_machine a_from a_to a_channel a_resets a_guards a_guardOf a_limits a_limitOf a_places a_zones a_parent a_moveE a_moveF a_moves (va_up fa_z ((4 * i1) : Int).toNat 100000) fa_ahead a_at a_amounts a_way a_moments a_runAt a_runClock)) upM_a_z ?_
        have h16 : ∀ j, z_rg ((va_up fa_z ((4 * i1) : Int).toNat 100000) j) := z_upP (P := fun j v => z_rg (v)) Hfa_z (by omega)
        generalize (va_up fa_z ((4 * i1) : Int).toNat 100000) = f17 at h16 ⊢
        refine z_iinc (L' := [(1, z_v (i1 + 1)), (0, .ref (ad 0))]) C 1 dX11_later_17 rfl (by decide) rfl ?_
        refine z_goto (t := 2) C dX11_later_20 (by decide) ?_
        refine z_loc (L' := [(0, .ref (ad 0)), (1, z_v (i1 + 1))]) [1, 0] rfl ?_
        exact ih2 (i1 + 1) f17 fa_ahead h16 Hfa_ahead (by omega) (by omega)
  refine z_loc (L' := [(0, .ref (ad 0)), (1, z_v 1)]) [1, 0] rfl ?_
  exact (L2 (((4 : Int) - 1).toNat + 1)) 1 a_z a_ahead Ha_z Ha_ahead (by omega) (Nat.lt_succ_self _)
set_option maxRecDepth 20000 in
theorem cm_X11_isMove (l : Launch) {D : va_G} {A : Nat → Prop} {ad : Nat → Nat} {ks : z_Ks} {s_edges s_isNeeded s_explored s_states s_isMoved s_runs s_runTime s_runMoves : Int} {w_h : Int64} {a_machine a_from a_to a_channel a_resets a_guards a_guardOf a_limits a_limitOf a_places a_zones a_parent a_moveE a_moveF a_moves a_z a_ahead a_at a_amounts a_way a_moments a_runAt a_runClock : Nat → Int} {Y : Nat → Option va_E} (e0 f0 : Int) (Ha_channel : (∀ j, -4 ≤ a_channel j ∧ a_channel j ≤ 4)) (Ha_machine : (∀ j, 0 ≤ a_machine j ∧ a_machine j ≤ 2)) (he : 0 ≤ e0 ∧ e0 ≤ 19) (hf : -1 ≤ f0 ∧ f0 ≤ 19) : z_Met l yX11_isMove cX11_isMove 3 (some .boolean) 0 0 0 0 D A 24 ad ks [.ref (ad 0), z_v e0, z_v f0] (z_zm ad ks s_edges s_isNeeded s_explored s_states s_isMoved s_runs s_runTime s_runMoves w_h a_machine a_from a_to a_channel a_resets a_guards a_guardOf a_limits a_limitOf a_places a_zones a_parent a_moveE a_moveF a_moves a_z a_ahead a_at a_amounts a_way a_moments a_runAt a_runClock) Y (fun r S' Y' => S' = (z_zm ad ks s_edges s_isNeeded s_explored s_states s_isMoved s_runs s_runTime s_runMoves w_h a_machine a_from a_to a_channel a_resets a_guards a_guardOf a_limits a_limitOf a_places a_zones a_parent a_moveE a_moveF a_moves a_z a_ahead a_at a_amounts a_way a_moments a_runAt a_runClock) ∧ Y = Y' ∧ ∃ z : Int, r = some (z_v z) ∧ (z = 0 ∨ z = 1)) := by
  refine z_start2 (by decide) (Nat.le_of_ble_eq_true rfl) ?_
  intro p e R s m args below meth c Q C hRf hRc hRs hRl hQ hrt hnm
  refine z_loc (L' := [(0, .ref (ad 0)), (1, z_v e0), (2, z_v f0)]) [0, 1, 2] rfl ?_
  refine z_iloadn C 2 dX11_isMove_0 rfl rfl ?_
  refine z_iconst C dX11_isMove_1 ?_
  refine z_icmp_ne (t := 22) C dX11_isMove_2 (by decide) (by omega) (by omega) (fun c1 => ?_) (fun c1 => ?_)
  · skip
    refine z_aloadn C 0 dX11_isMove_22 rfl rfl ?_
    refine z_get C 0 (by decide) rfl rfl z_it11 4 (by decide) rfl fl_11_19 rfl dX11_isMove_23 ?_
    refine z_iloadn C 1 dX11_isMove_26 rfl rfl ?_
    refine z_iald C 4 (by decide) rfl (by decide) (by omega) (by omega) dX11_isMove_27 ?_
    have rx2 := Ha_channel (e0 : Int).toNat
    generalize ex2 : a_channel (e0 : Int).toNat = x2 at rx2 ⊢
    refine z_if_le (t := 66) C dX11_isMove_28 (by decide) (by omega) (fun c3 => ?_) (fun c3 => ?_)
    · skip
      refine z_iconst C dX11_isMove_66 ?_
      rw [hQ]
      exact z_zret C hrt (by omega) dX11_isMove_67 (⟨rfl, rfl, _, rfl, by omega⟩) (by omega) (by omega)
    · skip
      refine z_aloadn C 0 dX11_isMove_31 rfl rfl ?_
      refine z_get C 0 (by decide) rfl rfl z_it11 4 (by decide) rfl fl_11_19 rfl dX11_isMove_32 ?_
      refine z_iloadn C 2 dX11_isMove_35 rfl rfl ?_
      refine z_iald C 4 (by decide) rfl (by decide) (by omega) (by omega) dX11_isMove_36 ?_
      have rx4 := Ha_channel (f0 : Int).toNat
      generalize ex4 : a_channel (f0 : Int).toNat = x4 at rx4 ⊢
      refine z_aloadn C 0 dX11_isMove_37 rfl rfl ?_
      refine z_get C 0 (by decide) rfl rfl z_it11 4 (by decide) rfl fl_11_19 rfl dX11_isMove_38 ?_
      refine z_iloadn C 1 dX11_isMove_41 rfl rfl ?_
      refine z_iald C 4 (by decide) rfl (by decide) (by omega) (by omega) dX11_isMove_42 ?_
      rw [ex2]
      refine z_ineg C dX11_isMove_43 ?_
      refine z_icmp_ne (t := 66) C dX11_isMove_44 (by decide) (by omega) (by omega) (fun c5 => ?_) (fun c5 => ?_)
      · skip
        refine z_iconst C dX11_isMove_66 ?_
        rw [hQ]
        exact z_zret C hrt (by omega) dX11_isMove_67 (⟨rfl, rfl, _, rfl, by omega⟩) (by omega) (by omega)
      · skip
        refine z_aloadn C 0 dX11_isMove_47 rfl rfl ?_
        refine z_get C 0 (by decide) rfl rfl z_it11 1 (by decide) rfl fl_11_7 rfl dX11_isMove_48 ?_
        refine z_iloadn C 1 dX11_isMove_51 rfl rfl ?_
        refine z_iald C 1 (by decide) rfl (by decide) (by omega) (by omega) dX11_isMove_52 ?_
        have rx6 := Ha_machine (e0 : Int).toNat
        generalize ex6 : a_machine (e0 : Int).toNat = x6 at rx6 ⊢
        refine z_aloadn C 0 dX11_isMove_53 rfl rfl ?_
        refine z_get C 0 (by decide) rfl rfl z_it11 1 (by decide) rfl fl_11_7 rfl dX11_isMove_54 ?_
        refine z_iloadn C 2 dX11_isMove_57 rfl rfl ?_
        refine z_iald C 1 (by decide) rfl (by decide) (by omega) (by omega) dX11_isMove_58 ?_
        have rx7 := Ha_machine (f0 : Int).toNat
        generalize ex7 : a_machine (f0 : Int).toNat = x7 at rx7 ⊢
        refine z_icmp_eq (t := 66) C dX11_isMove_59 (by decide) (by omega) (by omega) (fun c8 => ?_) (fun c8 => ?_)
        · skip
          refine z_iconst C dX11_isMove_66 ?_
          rw [hQ]
          exact z_zret C hrt (by omega) dX11_isMove_67 (⟨rfl, rfl, _, rfl, by omega⟩) (by omega) (by omega)
        · skip
          refine z_iconst C dX11_isMove_62 ?_
          refine z_goto (t := 67) C dX11_isMove_63 (by decide) ?_
          rw [hQ]
          exact z_zret C hrt (by omega) dX11_isMove_67 (⟨rfl, rfl, _, rfl, by omega⟩) (by omega) (by omega)
  · skip
    refine z_aloadn C 0 dX11_isMove_5 rfl rfl ?_
    refine z_get C 0 (by decide) rfl rfl z_it11 4 (by decide) rfl fl_11_19 rfl dX11_isMove_6 ?_
    refine z_iloadn C 1 dX11_isMove_9 rfl rfl ?_
    refine z_iald C 4 (by decide) rfl (by decide) (by omega) (by omega) dX11_isMove_10 ?_
    have rx9 := Ha_channel (e0 : Int).toNat
    generalize ex9 : a_channel (e0 : Int).toNat = x9 at rx9 ⊢
    refine z_if_ne (t := 18) C dX11_isMove_11 (by decide) (by omega) (fun c10 => ?_) (fun c10 => ?_)
    · skip
      refine z_iconst C dX11_isMove_18 ?_
      refine z_goto (t := 67) C dX11_isMove_19 (by decide) ?_
      rw [hQ]
      exact z_zret C hrt (by omega) dX11_isMove_67 (⟨rfl, rfl, _, rfl, by omega⟩) (by omega) (by omega)
    · skip
      refine z_iconst C dX11_isMove_14 ?_
      refine z_goto (t := 67) C dX11_isMove_15 (by decide) ?_
      rw [hQ]
      exact z_zret C hrt (by omega) dX11_isMove_67 (⟨rfl, rfl, _, rfl, by omega⟩) (by omega) (by omega)
set_option maxRecDepth 20000 in
theorem cm_X11_isMet (l : Launch) {D : va_G} {A : Nat → Prop} {ad : Nat → Nat} {ks : z_Ks} {s_edges s_isNeeded s_explored s_states s_isMoved s_runs s_runTime s_runMoves : Int} {w_h : Int64} {a_machine a_from a_to a_channel a_resets a_guards a_guardOf a_limits a_limitOf a_places a_zones a_parent a_moveE a_moveF a_moves a_z a_ahead a_at a_amounts a_way a_moments a_runAt a_runClock : Nat → Int} {Y : Nat → Option va_E} (Hs_states : (0 ≤ s_states ∧ s_states ≤ 120)) (Ha_places : (∀ j, 0 ≤ a_places j ∧ a_places j ≤ 5)) (Ha_at : (∀ j, 0 ≤ a_at j ∧ a_at j ≤ 5)) (Ha_z : (∀ j, z_rg (a_z j))) (Ha_zones : (∀ j, z_rg (a_zones j))) : z_Met l yX11_isMet cX11_isMet 4 (some .boolean) 0 0 0 0 D A 24 ad ks [.ref (ad 0)] (z_zm ad ks s_edges s_isNeeded s_explored s_states s_isMoved s_runs s_runTime s_runMoves w_h a_machine a_from a_to a_channel a_resets a_guards a_guardOf a_limits a_limitOf a_places a_zones a_parent a_moveE a_moveF a_moves a_z a_ahead a_at a_amounts a_way a_moments a_runAt a_runClock) Y (fun r S' Y' => S' = (z_zm ad ks s_edges s_isNeeded s_explored s_states s_isMoved s_runs s_runTime s_runMoves w_h a_machine a_from a_to a_channel a_resets a_guards a_guardOf a_limits a_limitOf a_places a_zones a_parent a_moveE a_moveF a_moves a_z a_ahead a_at a_amounts a_way a_moments a_runAt a_runClock) ∧ Y = Y' ∧ ∃ z : Int, r = some (z_v z) ∧ (z = 0 ∨ z = 1)) := by
  refine z_start2 (by decide) (Nat.le_of_ble_eq_true rfl) ?_
  intro p e R s m args below meth c Q C hRf hRc hRs hRl hQ hrt hnm
  refine z_loc (L' := [(0, .ref (ad 0))]) [0] rfl ?_
  refine z_iconst C dX11_isMet_0 ?_
  refine z_istoren (L' := [(1, z_v 0), (0, .ref (ad 0))]) C dX11_isMet_1 rfl (by decide) rfl ?_
  have L2 : ∀ (n : Nat), ∀ (i1 : Int), (0 ≤ i1 ∧ i1 ≤ 120) → ((120 : Int) - i1).toNat < n → z_V p l e R s m args below meth c Q D A 24 ad 4 (z_zm ad ks s_edges s_isNeeded s_explored s_states s_isMoved s_runs s_runTime s_runMoves w_h a_machine a_from a_to a_channel a_resets a_guards a_guardOf a_limits a_limitOf a_places a_zones a_parent a_moveE a_moveF a_moves a_z a_ahead a_at a_amounts a_way a_moments a_runAt a_runClock) Y 0 0 2 [(0, .ref (ad 0)), (1, z_v i1)] [] := by
    intro n
    induction n with
    | zero => intro i1 I1 hm; exact absurd hm (Nat.not_lt_zero _)
    | succ n ih2 =>
      intro i1 I1 hm
      refine z_iloadn C 1 dX11_isMet_2 rfl rfl ?_
      refine z_aloadn C 0 dX11_isMet_3 rfl rfl ?_
      refine z_get C 0 (by decide) rfl rfl z_it11 12 (by decide) rfl fl_11_94 rfl dX11_isMet_4 ?_
      refine z_icmp_ge (t := 110) C dX11_isMet_7 (by decide) (by omega) (by omega) (fun c1 => ?_) (fun c1 => ?_)
      · skip
        refine z_iconst C dX11_isMet_110 ?_
        rw [hQ]
        exact z_zret C hrt (by omega) dX11_isMet_111 (⟨rfl, rfl, _, rfl, by omega⟩) (by omega) (by omega)
      · skip
        refine z_iconst C dX11_isMet_10 ?_
        refine z_istoren (L' := [(2, z_v 1), (0, .ref (ad 0)), (1, z_v i1)]) C dX11_isMet_11 rfl (by decide) rfl ?_
        refine z_iconst C dX11_isMet_12 ?_
        refine z_istoren (L' := [(3, z_v 0), (2, z_v 1), (0, .ref (ad 0)), (1, z_v i1)]) C dX11_isMet_13 rfl (by decide) rfl ?_
        have L14 : ∀ (n : Nat), ∀ (i2 : Int) (i3 : Int), (0 ≤ i3 ∧ i3 ≤ 3) → (i2 = 0 ∨ i2 = 1) → ((3 : Int) - i3).toNat < n → z_V p l e R s m args below meth c Q D A 24 ad 4 (z_zm ad ks s_edges s_isNeeded s_explored s_states s_isMoved s_runs s_runTime s_runMoves w_h a_machine a_from a_to a_channel a_resets a_guards a_guardOf a_limits a_limitOf a_places a_zones a_parent a_moveE a_moveF a_moves a_z a_ahead a_at a_amounts a_way a_moments a_runAt a_runClock) Y 0 0 14 [(0, .ref (ad 0)), (1, z_v i1), (2, z_v i2), (3, z_v i3)] [] := by
          intro n
          induction n with
          | zero => intro i2 i3 I3 B2 hm; exact absurd hm (Nat.not_lt_zero _)
          | succ n ih14 =>
            intro i2 i3 I3 B2 hm
            refine z_iloadn C 3 dX11_isMet_14 rfl rfl ?_
            refine z_iconst C dX11_isMet_15 ?_
            refine z_icmp_ge (t := 54) C dX11_isMet_16 (by decide) (by omega) (by omega) (fun c2 => ?_) (fun c2 => ?_)
            · skip
              refine z_iconst C dX11_isMet_54 ?_
              refine z_istoren (L' := [(3, z_v 0), (0, .ref (ad 0)), (1, z_v i1), (2, z_v i2)]) C dX11_isMet_55 rfl (by decide) rfl ?_
              have L56 : ∀ (n : Nat), ∀ (i2 : Int) (i3 : Int), (0 ≤ i3 ∧ i3 ≤ 16) → (i2 = 0 ∨ i2 = 1) → ((16 : Int) - i3).toNat < n → z_V p l e R s m args below meth c Q D A 24 ad 4 (z_zm ad ks s_edges s_isNeeded s_explored s_states s_isMoved s_runs s_runTime s_runMoves w_h a_machine a_from a_to a_channel a_resets a_guards a_guardOf a_limits a_limitOf a_places a_zones a_parent a_moveE a_moveF a_moves a_z a_ahead a_at a_amounts a_way a_moments a_runAt a_runClock) Y 0 0 56 [(0, .ref (ad 0)), (1, z_v i1), (2, z_v i2), (3, z_v i3)] [] := by
                intro n
                induction n with
                | zero => intro i2 i3 I3 B2 hm; exact absurd hm (Nat.not_lt_zero _)
                | succ n ih56 =>
                  intro i2 i3 I3 B2 hm
                  refine z_iloadn C 3 dX11_isMet_56 rfl rfl ?_
                  refine z_bipush C dX11_isMet_57 (by decide) ?_
                  refine z_icmp_ge (t := 98) C dX11_isMet_59 (by decide) (by omega) (by omega) (fun c3 => ?_) (fun c3 => ?_)
                  · skip
                    refine z_iloadn C 2 dX11_isMet_98 rfl rfl ?_
                    refine z_if_eq (t := 104) C dX11_isMet_99 (by decide) (by omega) (fun c4 => ?_) (fun c4 => ?_)
                    · skip
                      refine z_iinc (L' := [(1, z_v (i1 + 1)), (0, .ref (ad 0)), (2, z_v i2), (3, z_v i3)]) C 1 dX11_isMet_104 rfl (by decide) rfl ?_
                      refine z_goto (t := 2) C dX11_isMet_107 (by decide) ?_
                      refine z_loc (L' := [(0, .ref (ad 0)), (1, z_v (i1 + 1))]) [1, 0] rfl ?_
                      exact ih2 (i1 + 1) (by omega) (by omega)
                    · skip
                      refine z_iconst C dX11_isMet_102 ?_
                      rw [hQ]
                      exact z_zret C hrt (by omega) dX11_isMet_103 (⟨rfl, rfl, _, rfl, by omega⟩) (by omega) (by omega)
                  · skip
                    refine z_iloadn C 2 dX11_isMet_62 rfl rfl ?_
                    refine z_if_eq (t := 90) C dX11_isMet_63 (by decide) (by omega) (fun c5 => ?_) (fun c5 => ?_)
                    · skip
                      refine z_iconst C dX11_isMet_90 ?_
                      refine z_istoren (L' := [(2, z_v 0), (0, .ref (ad 0)), (1, z_v i1), (3, z_v i3)]) C dX11_isMet_91 rfl (by decide) rfl ?_
                      refine z_iinc (L' := [(3, z_v (i3 + 1)), (2, z_v 0), (0, .ref (ad 0)), (1, z_v i1)]) C 3 dX11_isMet_92 rfl (by decide) rfl ?_
                      refine z_goto (t := 56) C dX11_isMet_95 (by decide) ?_
                      refine z_loc (L' := [(0, .ref (ad 0)), (1, z_v i1), (2, z_v 0), (3, z_v (i3 + 1))]) [2, 3, 1, 0] rfl ?_
                      exact ih56 0 (i3 + 1) (by omega) (by omega) (by omega)
                    · skip
                      refine z_aloadn C 0 dX11_isMet_66 rfl rfl ?_
                      refine z_get C 0 (by decide) rfl rfl z_it11 19 (by decide) rfl fl_11_59 rfl dX11_isMet_67 ?_
                      refine z_iloadn C 3 dX11_isMet_70 rfl rfl ?_
                      refine z_iald C 16 (by decide) rfl (by decide) (by omega) (by omega) dX11_isMet_71 ?_
                      have rx6 := Ha_z (i3 : Int).toNat
                      generalize ex6 : a_z (i3 : Int).toNat = x6 at rx6 ⊢
                      refine z_aloadn C 0 dX11_isMet_72 rfl rfl ?_
                      refine z_get C 0 (by decide) rfl rfl z_it11 14 (by decide) rfl fl_11_44 rfl dX11_isMet_73 ?_
                      refine z_bipush C dX11_isMet_76 (by decide) ?_
                      refine z_iloadn C 1 dX11_isMet_78 rfl rfl ?_
                      refine z_imul C dX11_isMet_79 ?_
                      refine z_iloadn C 3 dX11_isMet_80 rfl rfl ?_
                      refine z_iadd C dX11_isMet_81 ?_
                      refine z_iald C 11 (by decide) rfl (by decide) (by omega) (by omega) dX11_isMet_82 ?_
                      have rx7 := Ha_zones (((16 * i1) + i3) : Int).toNat
                      generalize ex7 : a_zones (((16 * i1) + i3) : Int).toNat = x7 at rx7 ⊢
                      refine z_icmp_gt (t := 90) C dX11_isMet_83 (by decide) (by omega) (by omega) (fun c8 => ?_) (fun c8 => ?_)
                      · skip
                        refine z_iconst C dX11_isMet_90 ?_
                        refine z_istoren (L' := [(2, z_v 0), (0, .ref (ad 0)), (1, z_v i1), (3, z_v i3)]) C dX11_isMet_91 rfl (by decide) rfl ?_
                        refine z_iinc (L' := [(3, z_v (i3 + 1)), (2, z_v 0), (0, .ref (ad 0)), (1, z_v i1)]) C 3 dX11_isMet_92 rfl (by decide) rfl ?_
                        refine z_goto (t := 56) C dX11_isMet_95 (by decide) ?_
                        refine z_loc (L' := [(0, .ref (ad 0)), (1, z_v i1), (2, z_v 0), (3, z_v (i3 + 1))]) [2, 3, 1, 0] rfl ?_
                        exact ih56 0 (i3 + 1) (by omega) (by omega) (by omega)
                      · skip
                        refine z_iconst C dX11_isMet_86 ?_
                        refine z_goto (t := 91) C dX11_isMet_87 (by decide) ?_
                        refine z_istoren (L' := [(2, z_v 1), (0, .ref (ad 0)), (1, z_v i1), (3, z_v i3)]) C dX11_isMet_91 rfl (by decide) rfl ?_
                        refine z_iinc (L' := [(3, z_v (i3 + 1)), (2, z_v 1), (0, .ref (ad 0)), (1, z_v i1)]) C 3 dX11_isMet_92 rfl (by decide) rfl ?_
                        refine z_goto (t := 56) C dX11_isMet_95 (by decide) ?_
                        refine z_loc (L' := [(0, .ref (ad 0)), (1, z_v i1), (2, z_v 1), (3, z_v (i3 + 1))]) [2, 3, 1, 0] rfl ?_
                        exact ih56 1 (i3 + 1) (by omega) (by omega) (by omega)
              refine z_loc (L' := [(0, .ref (ad 0)), (1, z_v i1), (2, z_v i2), (3, z_v 0)]) [1, 2, 3, 0] rfl ?_
              exact (L56 (((16 : Int) - 0).toNat + 1)) i2 0 (by omega) (by omega) (Nat.lt_succ_self _)
            · skip
              refine z_iloadn C 2 dX11_isMet_19 rfl rfl ?_
              refine z_if_eq (t := 46) C dX11_isMet_20 (by decide) (by omega) (fun c9 => ?_) (fun c9 => ?_)
              · skip
                refine z_iconst C dX11_isMet_46 ?_
                refine z_istoren (L' := [(2, z_v 0), (0, .ref (ad 0)), (1, z_v i1), (3, z_v i3)]) C dX11_isMet_47 rfl (by decide) rfl ?_
                refine z_iinc (L' := [(3, z_v (i3 + 1)), (2, z_v 0), (0, .ref (ad 0)), (1, z_v i1)]) C 3 dX11_isMet_48 rfl (by decide) rfl ?_
                refine z_goto (t := 14) C dX11_isMet_51 (by decide) ?_
                refine z_loc (L' := [(0, .ref (ad 0)), (1, z_v i1), (2, z_v 0), (3, z_v (i3 + 1))]) [2, 3, 1, 0] rfl ?_
                exact ih14 0 (i3 + 1) (by omega) (by omega) (by omega)
              · skip
                refine z_aloadn C 0 dX11_isMet_23 rfl rfl ?_
                refine z_get C 0 (by decide) rfl rfl z_it11 13 (by decide) rfl fl_11_41 rfl dX11_isMet_24 ?_
                refine z_iconst C dX11_isMet_27 ?_
                refine z_iloadn C 1 dX11_isMet_28 rfl rfl ?_
                refine z_imul C dX11_isMet_29 ?_
                refine z_iloadn C 3 dX11_isMet_30 rfl rfl ?_
                refine z_iadd C dX11_isMet_31 ?_
                refine z_iald C 10 (by decide) rfl (by decide) (by omega) (by omega) dX11_isMet_32 ?_
                have rx10 := Ha_places (((3 * i1) + i3) : Int).toNat
                generalize ex10 : a_places (((3 * i1) + i3) : Int).toNat = x10 at rx10 ⊢
                refine z_aloadn C 0 dX11_isMet_33 rfl rfl ?_
                refine z_get C 0 (by decide) rfl rfl z_it11 21 (by decide) rfl fl_11_65 rfl dX11_isMet_34 ?_
                refine z_iloadn C 3 dX11_isMet_37 rfl rfl ?_
                refine z_iald C 18 (by decide) rfl (by decide) (by omega) (by omega) dX11_isMet_38 ?_
                have rx11 := Ha_at (i3 : Int).toNat
                generalize ex11 : a_at (i3 : Int).toNat = x11 at rx11 ⊢
                refine z_icmp_ne (t := 46) C dX11_isMet_39 (by decide) (by omega) (by omega) (fun c12 => ?_) (fun c12 => ?_)
                · skip
                  refine z_iconst C dX11_isMet_46 ?_
                  refine z_istoren (L' := [(2, z_v 0), (0, .ref (ad 0)), (1, z_v i1), (3, z_v i3)]) C dX11_isMet_47 rfl (by decide) rfl ?_
                  refine z_iinc (L' := [(3, z_v (i3 + 1)), (2, z_v 0), (0, .ref (ad 0)), (1, z_v i1)]) C 3 dX11_isMet_48 rfl (by decide) rfl ?_
                  refine z_goto (t := 14) C dX11_isMet_51 (by decide) ?_
                  refine z_loc (L' := [(0, .ref (ad 0)), (1, z_v i1), (2, z_v 0), (3, z_v (i3 + 1))]) [2, 3, 1, 0] rfl ?_
                  exact ih14 0 (i3 + 1) (by omega) (by omega) (by omega)
                · skip
                  refine z_iconst C dX11_isMet_42 ?_
                  refine z_goto (t := 47) C dX11_isMet_43 (by decide) ?_
                  refine z_istoren (L' := [(2, z_v 1), (0, .ref (ad 0)), (1, z_v i1), (3, z_v i3)]) C dX11_isMet_47 rfl (by decide) rfl ?_
                  refine z_iinc (L' := [(3, z_v (i3 + 1)), (2, z_v 1), (0, .ref (ad 0)), (1, z_v i1)]) C 3 dX11_isMet_48 rfl (by decide) rfl ?_
                  refine z_goto (t := 14) C dX11_isMet_51 (by decide) ?_
                  refine z_loc (L' := [(0, .ref (ad 0)), (1, z_v i1), (2, z_v 1), (3, z_v (i3 + 1))]) [2, 3, 1, 0] rfl ?_
                  exact ih14 1 (i3 + 1) (by omega) (by omega) (by omega)
        refine z_loc (L' := [(0, .ref (ad 0)), (1, z_v i1), (2, z_v 1), (3, z_v 0)]) [2, 3, 1, 0] rfl ?_
        exact (L14 (((3 : Int) - 0).toNat + 1)) 1 0 (by omega) (by omega) (Nat.lt_succ_self _)
  refine z_loc (L' := [(0, .ref (ad 0)), (1, z_v 0)]) [1, 0] rfl ?_
  exact (L2 (((120 : Int) - 0).toNat + 1)) 0 (by omega) (Nat.lt_succ_self _)
