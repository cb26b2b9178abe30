theorem z_hw {n M : Int} {par mv me wy : Nat → Int} (hch : z_ch n par mv me) {K : Int} (h : ∀ k : Nat, (k : Int) ≤ K → 0 ≤ wy k ∧ wy k < n ∧ mv (wy k).toNat = k) (hM : M ≤ K) : ∀ k : Nat, 1 ≤ k → (k : Int) ≤ M → 0 ≤ me (wy k).toNat := by
  intro k h1 h2
  obtain ⟨a1, a2, a3⟩ := h k (by omega)
  exact (hch (wy k).toNat (by omega) (by omega)).2.2.2
set_option maxRecDepth 20000 in
theorem cm_X11_moment (l : Launch) {D : va_G} {A : Nat → Prop} {ad : Nat → Nat} {ks : z_Ks} {s_edges s_isNeeded s_explored s_states s_isMoved s_runs s_runTime s_runMoves : Int} {w_h : Int64} {a_machine a_from a_to a_channel a_resets a_guards a_guardOf a_limits a_limitOf a_places a_zones a_parent a_moveE a_moveF a_moves a_z a_ahead a_at a_amounts a_way a_moments a_runAt a_runClock : Nat → Int} {Y : Nat → Option va_E} (i0 k0 : Int) (Ha_resets : (∀ j, z_rg (a_resets j))) (Ha_moveE : (∀ j, -1 ≤ a_moveE j ∧ a_moveE j ≤ 19)) (Ha_moveF : (∀ j, -1 ≤ a_moveF j ∧ a_moveF j ≤ 19)) (Ha_way : (∀ j, 0 ≤ a_way j ∧ a_way j ≤ 119)) (Ha_guards : (∀ j, 0 ≤ a_guards j ∧ a_guards j ≤ 2)) (Ha_guardOf : (∀ j, (j % 3 = 0 → a_guardOf j ≤ 3) ∧ 0 ≤ a_guardOf j ∧ a_guardOf j ≤ 1000)) (Ha_limits : (∀ j, 0 ≤ a_limits j ∧ a_limits j ≤ 2)) (Ha_limitOf : (∀ j, (j % 3 = 0 → a_limitOf j ≤ 3) ∧ 0 ≤ a_limitOf j ∧ a_limitOf j ≤ 1000)) (Ha_places : (∀ j, 0 ≤ a_places j ∧ a_places j ≤ 5)) (Hs_isMoved : (s_isMoved = 0 ∨ s_isMoved = 1)) (Ha_moments : (∀ j, z_rg (a_moments j))) (Hs_isNeeded : (s_isNeeded = 0 ∨ s_isNeeded = 1)) (Hs_states : (0 ≤ s_states ∧ s_states ≤ 120)) (Ha_parent : (∀ j, -1 ≤ a_parent j ∧ a_parent j ≤ 119)) (Ha_moves : (∀ j, 0 ≤ a_moves j ∧ a_moves j ≤ 40)) (hi : z_rg i0) (hk : z_rg k0) (hch : z_ch s_states a_parent a_moves a_moveE) : z_Met l yX11_moment cX11_moment 3 (some .int) 4 97 0 0 D A 24 ad ks [.ref (ad 0), z_v i0, z_v k0] (z_zm ad ks s_edges s_isNeeded s_explored s_states s_isMoved s_runs s_runTime s_runMoves w_h a_machine a_from a_to a_channel a_resets a_guards a_guardOf a_limits a_limitOf a_places a_zones a_parent a_moveE a_moveF a_moves a_z a_ahead a_at a_amounts a_way a_moments a_runAt a_runClock) Y (fun r S' Y' => ∃ na_way : Nat → Int, ∃ ns_isMoved : Int, ∃ na_moments : Nat → Int, S' = (z_zm ad ks s_edges s_isNeeded s_explored s_states ns_isMoved s_runs s_runTime s_runMoves w_h a_machine a_from a_to a_channel a_resets a_guards a_guardOf a_limits a_limitOf a_places a_zones a_parent a_moveE a_moveF a_moves a_z a_ahead a_at a_amounts na_way na_moments a_runAt a_runClock) ∧ Y = Y' ∧ (∀ j, 0 ≤ na_way j ∧ na_way j ≤ 119) ∧ (ns_isMoved = 0 ∨ ns_isMoved = 1) ∧ (∀ j, z_rg (na_moments j)) ∧ ∃ z : Int, r = some (z_v z) ∧ (True)) := by
  refine z_start2 (by decide) (Nat.le_of_ble_eq_true rfl) ?_
  intro p e R s m args below meth c Q C hRf hRc hRs hRl hQ hrt hnm
  refine z_loc (L' := [(0, .ref (ad 0)), (1, z_v i0), (2, z_v k0)]) [0, 1, 2] rfl ?_
  refine z_aloadn C 0 dX11_moment_0 rfl rfl ?_
  refine z_get C 0 (by decide) rfl rfl z_it11 10 (by decide) rfl fl_11_37 rfl dX11_moment_1 ?_
  refine z_if_eq (t := 10) C dX11_moment_4 (by decide) (by omega) (fun c1 => ?_) (fun c1 => ?_)
  · skip
    refine z_aloadn C 0 dX11_moment_10 rfl rfl ?_
    refine z_iloadn C 1 dX11_moment_11 rfl rfl ?_
    refine z_callV C (cm_X11_isState l i0 (by omega) (by omega)) mv_11_165 (z_atS 0 11 (by decide) rfl rfl rfl) pd_X11_isState ⟨by omega, by omega⟩ ⟨by omega, by omega⟩ rfl (Nat.le_of_ble_eq_true rfl) dX11_moment_12 ?_
    rintro _ _ _ ⟨rfl, rfl, z2, rfl, hz2⟩
    refine z_if_eq (t := 34) C dX11_moment_15 (by decide) (by omega) (fun c3 => ?_) (fun c3 => ?_)
    · skip
      refine z_bipush C dX11_moment_34 (by decide) ?_
      rw [hQ]
      exact z_iret C hrt dX11_moment_36 (⟨a_way, s_isMoved, a_moments, rfl, rfl, Ha_way, by omega, Ha_moments, _, rfl, trivial⟩) (by omega) (by omega)
    · skip
      refine z_iloadn C 2 dX11_moment_18 rfl rfl ?_
      refine z_iconst C dX11_moment_19 ?_
      refine z_aloadn C 0 dX11_moment_20 rfl rfl ?_
      refine z_get C 0 (by decide) rfl rfl z_it11 18 (by decide) rfl fl_11_56 rfl dX11_moment_21 ?_
      refine z_iloadn C 1 dX11_moment_24 rfl rfl ?_
      refine z_iald C 15 (by decide) rfl (by decide) (by omega) (by omega) dX11_moment_25 ?_
      have rx4 := Ha_moves (i0 : Int).toNat
      generalize ex4 : a_moves (i0 : Int).toNat = x4 at rx4 ⊢
      refine z_iconst C dX11_moment_26 ?_
      refine z_isub C dX11_moment_27 ?_
      refine z_callS C (cm_X11_in l k0 0 (x4 - 1) (by omega) (by omega) (by omega)) mv_11_86 pd_X11_in ⟨by omega, by omega⟩ ⟨by omega, by omega⟩ rfl (Nat.le_of_ble_eq_true rfl) dX11_moment_28 ?_
      rintro _ _ _ ⟨rfl, rfl, z5, rfl, hz5⟩
      refine z_if_ne (t := 37) C dX11_moment_31 (by decide) (by omega) (fun c6 => ?_) (fun c6 => ?_)
      · skip
        refine z_aloadn C 0 dX11_moment_37 rfl rfl ?_
        refine z_aloadn C 0 dX11_moment_38 rfl rfl ?_
        refine z_iloadn C 1 dX11_moment_39 rfl rfl ?_
        refine z_callV C (cm_X11_layOut l i0 (by omega) Ha_parent Ha_moves Ha_way (by omega) hch) mv_11_177 (z_atS 0 11 (by decide) rfl rfl rfl) pd_X11_layOut ⟨by omega, by omega⟩ ⟨by omega, by omega⟩ rfl (Nat.le_of_ble_eq_true rfl) dX11_moment_40 ?_
        rintro _ _ _ ⟨n7, rfl, rfl, h10, q40_0, z11, rfl, hz11⟩
        refine z_callV C (cm_X11_timeAll l z11 Ha_resets Ha_moveE Ha_moveF h10 Ha_guards Ha_guardOf Ha_limits Ha_limitOf Ha_places (by omega) Ha_moments (by omega) (z_hw hch q40_0 (by omega))) mv_11_200 (z_atS 0 11 (by decide) rfl rfl rfl) pd_X11_timeAll ⟨by omega, by omega⟩ ⟨by omega, by omega⟩ rfl (Nat.le_of_ble_eq_true rfl) dX11_moment_43 ?_
        rintro _ _ _ ⟨n12, n13, rfl, rfl, h16, h17, rfl⟩
        refine z_aloadn C 0 dX11_moment_46 rfl rfl ?_
        refine z_get C 0 (by decide) rfl rfl z_it11 24 (by decide) rfl fl_11_74 rfl dX11_moment_47 ?_
        refine z_iloadn C 2 dX11_moment_50 rfl rfl ?_
        refine z_iconst C dX11_moment_51 ?_
        refine z_iadd C dX11_moment_52 ?_
        refine z_iald C 21 (by decide) rfl (by decide) (by omega) (by omega) dX11_moment_53 ?_
        have rx18 := h17 ((k0 + 1) : Int).toNat
        generalize ex18 : n13 ((k0 + 1) : Int).toNat = x18 at rx18 ⊢
        rw [hQ]
        exact z_iret C hrt dX11_moment_54 (⟨n7, n12, n13, rfl, rfl, h10, by omega, h17, _, rfl, trivial⟩) (by omega) (by omega)
      · skip
        refine z_bipush C dX11_moment_34 (by decide) ?_
        rw [hQ]
        exact z_iret C hrt dX11_moment_36 (⟨a_way, s_isMoved, a_moments, rfl, rfl, Ha_way, by omega, Ha_moments, _, rfl, trivial⟩) (by omega) (by omega)
  · skip
    refine z_bipush C dX11_moment_7 (by decide) ?_
    rw [hQ]
    exact z_iret C hrt dX11_moment_9 (⟨a_way, s_isMoved, a_moments, rfl, rfl, Ha_way, by omega, Ha_moments, _, rfl, trivial⟩) (by omega) (by omega)
set_option maxRecDepth 20000 in
theorem cm_X11_passes (l : Launch) {D : va_G} {A : Nat → Prop} {ad : Nat → Nat} {ks : z_Ks} {N : Nat} {S : Nat → va_E} {Y : Nat → Option va_E} (a so c0 : Int) (ha : z_rg a) (hs : z_rg so) (hc : 0 ≤ c0 ∧ c0 ≤ 1000) : z_Met l yX11_passes cX11_passes 4 (some .boolean) 0 0 0 0 D A N ad ks [z_v a, z_v so, z_v c0] S Y (fun r S' Y' => S' = S ∧ Y = Y' ∧ ∃ z : Int, r = some (z_v z) ∧ (z = 0 ∨ z = 1)) := by
  refine z_start2 (by decide) (Nat.le_of_ble_eq_true rfl) ?_
  intro p e R s m args below meth c Q C hRf hRc hRs hRl hQ hrt hnm
  refine z_loc (L' := [(0, z_v a), (1, z_v so), (2, z_v c0)]) [0, 1, 2] rfl ?_
  refine z_iloadn C 0 dX11_passes_0 rfl rfl ?_
  refine z_bipush C dX11_passes_1 (by decide) ?_
  refine z_iloadn C 2 dX11_passes_3 rfl rfl ?_
  refine z_imul C dX11_passes_4 ?_
  refine z_isub C dX11_passes_5 ?_
  refine z_nrm (fun n1 rn1 en1 => ?_)
  refine z_istoren (L' := [(3, z_v n1), (0, z_v a), (1, z_v so), (2, z_v c0)]) C dX11_passes_6 rfl (by decide) rfl ?_
  refine z_iloadn C 2 dX11_passes_7 rfl rfl ?_
  refine z_if_ne (t := 23) C dX11_passes_8 (by decide) (by omega) (fun c2 => ?_) (fun c2 => ?_)
  · skip
    refine z_iloadn C 2 dX11_passes_23 rfl rfl ?_
    refine z_iconst C dX11_passes_24 ?_
    refine z_icmp_ne (t := 40) C dX11_passes_25 (by decide) (by omega) (by omega) (fun c3 => ?_) (fun c3 => ?_)
    · skip
      refine z_iloadn C 2 dX11_passes_40 rfl rfl ?_
      refine z_iconst C dX11_passes_41 ?_
      refine z_icmp_ne (t := 57) C dX11_passes_42 (by decide) (by omega) (by omega) (fun c4 => ?_) (fun c4 => ?_)
      · skip
        refine z_iloadn C 2 dX11_passes_57 rfl rfl ?_
        refine z_iconst C dX11_passes_58 ?_
        refine z_icmp_ne (t := 74) C dX11_passes_59 (by decide) (by omega) (by omega) (fun c5 => ?_) (fun c5 => ?_)
        · skip
          refine z_iloadn C 0 dX11_passes_74 rfl rfl ?_
          refine z_if_le (t := 82) C dX11_passes_75 (by decide) (by omega) (fun c6 => ?_) (fun c6 => ?_)
          · skip
            refine z_iconst C dX11_passes_82 ?_
            rw [hQ]
            exact z_zret C hrt (by omega) dX11_passes_83 (⟨rfl, rfl, _, rfl, by omega⟩) (by omega) (by omega)
          · skip
            refine z_iconst C dX11_passes_78 ?_
            refine z_goto (t := 83) C dX11_passes_79 (by decide) ?_
            rw [hQ]
            exact z_zret C hrt (by omega) dX11_passes_83 (⟨rfl, rfl, _, rfl, by omega⟩) (by omega) (by omega)
        · skip
          refine z_iloadn C 0 dX11_passes_62 rfl rfl ?_
          refine z_if_lt (t := 70) C dX11_passes_63 (by decide) (by omega) (fun c7 => ?_) (fun c7 => ?_)
          · skip
            refine z_iconst C dX11_passes_70 ?_
            refine z_goto (t := 83) C dX11_passes_71 (by decide) ?_
            rw [hQ]
            exact z_zret C hrt (by omega) dX11_passes_83 (⟨rfl, rfl, _, rfl, by omega⟩) (by omega) (by omega)
          · skip
            refine z_iconst C dX11_passes_66 ?_
            refine z_goto (t := 83) C dX11_passes_67 (by decide) ?_
            rw [hQ]
            exact z_zret C hrt (by omega) dX11_passes_83 (⟨rfl, rfl, _, rfl, by omega⟩) (by omega) (by omega)
      · skip
        refine z_iloadn C 0 dX11_passes_45 rfl rfl ?_
        refine z_if_ne (t := 53) C dX11_passes_46 (by decide) (by omega) (fun c8 => ?_) (fun c8 => ?_)
        · skip
          refine z_iconst C dX11_passes_53 ?_
          refine z_goto (t := 83) C dX11_passes_54 (by decide) ?_
          rw [hQ]
          exact z_zret C hrt (by omega) dX11_passes_83 (⟨rfl, rfl, _, rfl, by omega⟩) (by omega) (by omega)
        · skip
          refine z_iconst C dX11_passes_49 ?_
          refine z_goto (t := 83) C dX11_passes_50 (by decide) ?_
          rw [hQ]
          exact z_zret C hrt (by omega) dX11_passes_83 (⟨rfl, rfl, _, rfl, by omega⟩) (by omega) (by omega)
    · skip
      refine z_iloadn C 0 dX11_passes_28 rfl rfl ?_
      refine z_if_gt (t := 36) C dX11_passes_29 (by decide) (by omega) (fun c9 => ?_) (fun c9 => ?_)
      · skip
        refine z_iconst C dX11_passes_36 ?_
        refine z_goto (t := 83) C dX11_passes_37 (by decide) ?_
        rw [hQ]
        exact z_zret C hrt (by omega) dX11_passes_83 (⟨rfl, rfl, _, rfl, by omega⟩) (by omega) (by omega)
      · skip
        refine z_iconst C dX11_passes_32 ?_
        refine z_goto (t := 83) C dX11_passes_33 (by decide) ?_
        rw [hQ]
        exact z_zret C hrt (by omega) dX11_passes_83 (⟨rfl, rfl, _, rfl, by omega⟩) (by omega) (by omega)
  · skip
    refine z_iloadn C 0 dX11_passes_11 rfl rfl ?_
    refine z_if_ge (t := 19) C dX11_passes_12 (by decide) (by omega) (fun c10 => ?_) (fun c10 => ?_)
    · skip
      refine z_iconst C dX11_passes_19 ?_
      refine z_goto (t := 83) C dX11_passes_20 (by decide) ?_
      rw [hQ]
      exact z_zret C hrt (by omega) dX11_passes_83 (⟨rfl, rfl, _, rfl, by omega⟩) (by omega) (by omega)
    · skip
      refine z_iconst C dX11_passes_15 ?_
      refine z_goto (t := 83) C dX11_passes_16 (by decide) ?_
      rw [hQ]
      exact z_zret C hrt (by omega) dX11_passes_83 (⟨rfl, rfl, _, rfl, by omega⟩) (by omega) (by omega)
set_option maxRecDepth 20000 in
theorem cm_X11_areKept (l : Launch) {D : va_G} {A : Nat → Prop} {ad : Nat → Nat} {ks : z_Ks} {s_edges s_isNeeded s_explored s_states s_isMoved s_runs s_runTime s_runMoves : Int} {w_h : Int64} {a_machine a_from a_to a_channel a_resets a_guards a_guardOf a_limits a_limitOf a_places a_zones a_parent a_moveE a_moveF a_moves a_z a_ahead a_at a_amounts a_way a_moments a_runAt a_runClock : Nat → Int} {Y : Nat → Option va_E} (Ha_at : (∀ j, 0 ≤ a_at j ∧ a_at j ≤ 5)) (Ha_limits : (∀ j, 0 ≤ a_limits j ∧ a_limits j ≤ 2)) (Ha_limitOf : (∀ j, (j % 3 = 0 → a_limitOf j ≤ 3) ∧ 0 ≤ a_limitOf j ∧ a_limitOf j ≤ 1000)) (Ha_amounts : (∀ j, 0 ≤ a_amounts j ∧ a_amounts j ≤ 1064000)) : z_Met l yX11_areKept cX11_areKept 6 (some .boolean) 1 23 0 0 D A 24 ad ks [.ref (ad 0)] (z_zm ad ks s_edges s_isNeeded s_explored s_states s_isMoved s_runs s_runTime s_runMoves w_h a_machine a_from a_to a_channel a_resets a_guards a_guardOf a_limits a_limitOf a_places a_zones a_parent a_moveE a_moveF a_moves a_z a_ahead a_at a_amounts a_way a_moments a_runAt a_runClock) Y (fun r S' Y' => S' = (z_zm ad ks s_edges s_isNeeded s_explored s_states s_isMoved s_runs s_runTime s_runMoves w_h a_machine a_from a_to a_channel a_resets a_guards a_guardOf a_limits a_limitOf a_places a_zones a_parent a_moveE a_moveF a_moves a_z a_ahead a_at a_amounts a_way a_moments a_runAt a_runClock) ∧ Y = Y' ∧ ∃ z : Int, r = some (z_v z) ∧ (z = 0 ∨ z = 1)) := by
  refine z_start2 (by decide) (Nat.le_of_ble_eq_true rfl) ?_
  intro p e R s m args below meth c Q C hRf hRc hRs hRl hQ hrt hnm
  refine z_loc (L' := [(0, .ref (ad 0))]) [0] rfl ?_
  refine z_iconst C dX11_areKept_0 ?_
  refine z_istoren (L' := [(1, z_v 1), (0, .ref (ad 0))]) C dX11_areKept_1 rfl (by decide) rfl ?_
  refine z_iconst C dX11_areKept_2 ?_
  refine z_istoren (L' := [(2, z_v 0), (1, z_v 1), (0, .ref (ad 0))]) C dX11_areKept_3 rfl (by decide) rfl ?_
  have L4 : ∀ (n : Nat), ∀ (i1 : Int) (i2 : Int), (0 ≤ i2 ∧ i2 ≤ 3) → (i1 = 0 ∨ i1 = 1) → ((3 : Int) - i2).toNat < n → z_V p l e R s m args below meth c Q D A 24 ad 6 (z_zm ad ks s_edges s_isNeeded s_explored s_states s_isMoved s_runs s_runTime s_runMoves w_h a_machine a_from a_to a_channel a_resets a_guards a_guardOf a_limits a_limitOf a_places a_zones a_parent a_moveE a_moveF a_moves a_z a_ahead a_at a_amounts a_way a_moments a_runAt a_runClock) Y 0 0 4 [(0, .ref (ad 0)), (1, z_v i1), (2, z_v i2)] [] := by
    intro n
    induction n with
    | zero => intro i1 i2 I2 B1 hm; exact absurd hm (Nat.not_lt_zero _)
    | succ n ih4 =>
      intro i1 i2 I2 B1 hm
      refine z_iloadn C 2 dX11_areKept_4 rfl rfl ?_
      refine z_iconst C dX11_areKept_5 ?_
      refine z_icmp_ge (t := 104) C dX11_areKept_6 (by decide) (by omega) (by omega) (fun c1 => ?_) (fun c1 => ?_)
      · skip
        refine z_iloadn C 1 dX11_areKept_104 rfl rfl ?_
        rw [hQ]
        exact z_zret C hrt (by omega) dX11_areKept_105 (⟨rfl, rfl, _, rfl, by omega⟩) (by omega) (by omega)
      · skip
        refine z_bipush C dX11_areKept_9 (by decide) ?_
        refine z_iloadn C 2 dX11_areKept_11 rfl rfl ?_
        refine z_imul C dX11_areKept_12 ?_
        refine z_aloadn C 0 dX11_areKept_13 rfl rfl ?_
        refine z_get C 0 (by decide) rfl rfl z_it11 21 (by decide) rfl fl_11_65 rfl dX11_areKept_14 ?_
        refine z_iloadn C 2 dX11_areKept_17 rfl rfl ?_
        refine z_iald C 18 (by decide) rfl (by decide) (by omega) (by omega) dX11_areKept_18 ?_
        have rx2 := Ha_at (i2 : Int).toNat
        generalize ex2 : a_at (i2 : Int).toNat = x2 at rx2 ⊢
        refine z_iadd C dX11_areKept_19 ?_
        refine z_istoren (L' := [(3, z_v ((6 * i2) + x2)), (0, .ref (ad 0)), (1, z_v i1), (2, z_v i2)]) C dX11_areKept_20 rfl (by decide) rfl ?_
        refine z_iconst C dX11_areKept_21 ?_
        refine z_istore (L' := [(4, z_v 0), (3, z_v ((6 * i2) + x2)), (0, .ref (ad 0)), (1, z_v i1), (2, z_v i2)]) C dX11_areKept_22 (by decide) rfl ?_
        have L24 : ∀ (n : Nat), ∀ (i1 : Int) (i4 : Int), (0 ≤ i4 ∧ i4 ≤ 2) → (i1 = 0 ∨ i1 = 1) → ((2 : Int) - i4).toNat < n → z_V p l e R s m args below meth c Q D A 24 ad 6 (z_zm ad ks s_edges s_isNeeded s_explored s_states s_isMoved s_runs s_runTime s_runMoves w_h a_machine a_from a_to a_channel a_resets a_guards a_guardOf a_limits a_limitOf a_places a_zones a_parent a_moveE a_moveF a_moves a_z a_ahead a_at a_amounts a_way a_moments a_runAt a_runClock) Y 0 0 24 [(0, .ref (ad 0)), (1, z_v i1), (2, z_v i2), (3, z_v ((6 * i2) + x2)), (4, z_v i4)] [] := by
          intro n
          induction n with
          | zero => intro i1 i4 I4 B1 hm; exact absurd hm (Nat.not_lt_zero _)
          | succ n ih24 =>
            intro i1 i4 I4 B1 hm
            refine z_iload C 4 dX11_areKept_24 rfl ?_
            refine z_aloadn C 0 dX11_areKept_26 rfl rfl ?_
            refine z_get C 0 (by decide) rfl rfl z_it11 8 (by decide) rfl fl_11_31 rfl dX11_areKept_27 ?_
            refine z_iloadn C 3 dX11_areKept_30 rfl rfl ?_
            refine z_iald C 8 (by decide) rfl (by decide) (by omega) (by omega) dX11_areKept_31 ?_
            have rx3 := Ha_limits (((6 * i2) + x2) : Int).toNat
            generalize ex3 : a_limits (((6 * i2) + x2) : Int).toNat = x3 at rx3 ⊢
            refine z_icmp_ge (t := 98) C dX11_areKept_32 (by decide) (by omega) (by omega) (fun c4 => ?_) (fun c4 => ?_)
            · skip
              refine z_iinc (L' := [(2, z_v (i2 + 1)), (0, .ref (ad 0)), (1, z_v i1), (3, z_v ((6 * i2) + x2)), (4, z_v i4)]) C 2 dX11_areKept_98 rfl (by decide) rfl ?_
              refine z_goto (t := 4) C dX11_areKept_101 (by decide) ?_
              refine z_loc (L' := [(0, .ref (ad 0)), (1, z_v i1), (2, z_v (i2 + 1))]) [1, 2, 0] rfl ?_
              exact ih4 i1 (i2 + 1) (by omega) (by omega) (by omega)
            · skip
              refine z_bipush C dX11_areKept_35 (by decide) ?_
              refine z_iloadn C 3 dX11_areKept_37 rfl rfl ?_
              refine z_imul C dX11_areKept_38 ?_
              refine z_iconst C dX11_areKept_39 ?_
              refine z_iload C 4 dX11_areKept_40 rfl ?_
              refine z_imul C dX11_areKept_42 ?_
              refine z_iadd C dX11_areKept_43 ?_
              refine z_istore (L' := [(5, z_v ((6 * ((6 * i2) + x2)) + (3 * i4))), (0, .ref (ad 0)), (1, z_v i1), (2, z_v i2), (3, z_v ((6 * i2) + x2)), (4, z_v i4)]) C dX11_areKept_44 (by decide) rfl ?_
              refine z_iloadn C 2 dX11_areKept_46 rfl rfl ?_
              refine z_if_eq (t := 90) C dX11_areKept_47 (by decide) (by omega) (fun c5 => ?_) (fun c5 => ?_)
              · skip
                refine z_iconst C dX11_areKept_90 ?_
                refine z_istoren (L' := [(1, z_v 0), (5, z_v ((6 * ((6 * i2) + x2)) + (3 * i4))), (0, .ref (ad 0)), (2, z_v i2), (3, z_v ((6 * i2) + x2)), (4, z_v i4)]) C dX11_areKept_91 rfl (by decide) rfl ?_
                refine z_iinc (L' := [(4, z_v (i4 + 1)), (1, z_v 0), (5, z_v ((6 * ((6 * i2) + x2)) + (3 * i4))), (0, .ref (ad 0)), (2, z_v i2), (3, z_v ((6 * i2) + x2))]) C 5 dX11_areKept_92 rfl (by decide) rfl ?_
                refine z_goto (t := 24) C dX11_areKept_95 (by decide) ?_
                refine z_loc (L' := [(0, .ref (ad 0)), (1, z_v 0), (2, z_v i2), (3, z_v ((6 * i2) + x2)), (4, z_v (i4 + 1))]) [3, 1, 4, 5, 0] rfl ?_
                exact ih24 0 (i4 + 1) (by omega) (by omega) (by omega)
              · skip
                refine z_aloadn C 1 dX11_areKept_50 rfl rfl ?_
                refine z_get C 0 (by decide) rfl rfl z_it11 22 (by decide) rfl fl_11_68 rfl dX11_areKept_51 ?_
                refine z_aloadn C 1 dX11_areKept_54 rfl rfl ?_
                refine z_get C 0 (by decide) rfl rfl z_it11 9 (by decide) rfl fl_11_34 rfl dX11_areKept_55 ?_
                refine z_iload C 0 dX11_areKept_58 rfl ?_
                refine z_iald C 9 (by decide) rfl (by decide) (by omega) (by omega) dX11_areKept_60 ?_
                have rx6 := Ha_limitOf (((6 * ((6 * i2) + x2)) + (3 * i4)) : Int).toNat
                generalize ex6 : a_limitOf (((6 * ((6 * i2) + x2)) + (3 * i4)) : Int).toNat = x6 at rx6 ⊢
                refine z_iald C 19 (by decide) rfl (by decide) (by omega) (by omega) dX11_areKept_61 ?_
                have rx7 := Ha_amounts (x6 : Int).toNat
                generalize ex7 : a_amounts (x6 : Int).toNat = x7 at rx7 ⊢
                refine z_aloadn C 1 dX11_areKept_62 rfl rfl ?_
                refine z_get C 0 (by decide) rfl rfl z_it11 9 (by decide) rfl fl_11_34 rfl dX11_areKept_63 ?_
                refine z_iload C 0 dX11_areKept_66 rfl ?_
                refine z_iconst C dX11_areKept_68 ?_
                refine z_iadd C dX11_areKept_69 ?_
                refine z_iald C 9 (by decide) rfl (by decide) (by omega) (by omega) dX11_areKept_70 ?_
                have rx8 := Ha_limitOf ((((6 * ((6 * i2) + x2)) + (3 * i4)) + 1) : Int).toNat
                generalize ex8 : a_limitOf ((((6 * ((6 * i2) + x2)) + (3 * i4)) + 1) : Int).toNat = x8 at rx8 ⊢
                refine z_aloadn C 1 dX11_areKept_71 rfl rfl ?_
                refine z_get C 0 (by decide) rfl rfl z_it11 9 (by decide) rfl fl_11_34 rfl dX11_areKept_72 ?_
                refine z_iload C 0 dX11_areKept_75 rfl ?_
                refine z_iconst C dX11_areKept_77 ?_
                refine z_iadd C dX11_areKept_78 ?_
                refine z_iald C 9 (by decide) rfl (by decide) (by omega) (by omega) dX11_areKept_79 ?_
                have rx9 := Ha_limitOf ((((6 * ((6 * i2) + x2)) + (3 * i4)) + 2) : Int).toNat
                generalize ex9 : a_limitOf ((((6 * ((6 * i2) + x2)) + (3 * i4)) + 2) : Int).toNat = x9 at rx9 ⊢
                refine z_callS C (cm_X11_passes l x7 x8 x9 (by omega) (by omega) (by omega)) mv_11_203 pd_X11_passes ⟨by omega, by omega⟩ ⟨by omega, by omega⟩ rfl (Nat.le_of_ble_eq_true rfl) dX11_areKept_80 ?_
                rintro _ _ _ ⟨rfl, rfl, z12, rfl, hz12⟩
                refine z_if_eq (t := 90) C dX11_areKept_83 (by decide) (by omega) (fun c13 => ?_) (fun c13 => ?_)
                · skip
                  refine z_iconst C dX11_areKept_90 ?_
                  refine z_istoren (L' := [(1, z_v 0), (5, z_v ((6 * ((6 * i2) + x2)) + (3 * i4))), (0, .ref (ad 0)), (2, z_v i2), (3, z_v ((6 * i2) + x2)), (4, z_v i4)]) C dX11_areKept_91 rfl (by decide) rfl ?_
                  refine z_iinc (L' := [(4, z_v (i4 + 1)), (1, z_v 0), (5, z_v ((6 * ((6 * i2) + x2)) + (3 * i4))), (0, .ref (ad 0)), (2, z_v i2), (3, z_v ((6 * i2) + x2))]) C 5 dX11_areKept_92 rfl (by decide) rfl ?_
                  refine z_goto (t := 24) C dX11_areKept_95 (by decide) ?_
                  refine z_loc (L' := [(0, .ref (ad 0)), (1, z_v 0), (2, z_v i2), (3, z_v ((6 * i2) + x2)), (4, z_v (i4 + 1))]) [3, 1, 4, 5, 0] rfl ?_
                  exact ih24 0 (i4 + 1) (by omega) (by omega) (by omega)
                · skip
                  refine z_iconst C dX11_areKept_86 ?_
                  refine z_goto (t := 91) C dX11_areKept_87 (by decide) ?_
                  refine z_istoren (L' := [(1, z_v 1), (5, z_v ((6 * ((6 * i2) + x2)) + (3 * i4))), (0, .ref (ad 0)), (2, z_v i2), (3, z_v ((6 * i2) + x2)), (4, z_v i4)]) C dX11_areKept_91 rfl (by decide) rfl ?_
                  refine z_iinc (L' := [(4, z_v (i4 + 1)), (1, z_v 1), (5, z_v ((6 * ((6 * i2) + x2)) + (3 * i4))), (0, .ref (ad 0)), (2, z_v i2), (3, z_v ((6 * i2) + x2))]) C 5 dX11_areKept_92 rfl (by decide) rfl ?_
                  refine z_goto (t := 24) C dX11_areKept_95 (by decide) ?_
                  refine z_loc (L' := [(0, .ref (ad 0)), (1, z_v 1), (2, z_v i2), (3, z_v ((6 * i2) + x2)), (4, z_v (i4 + 1))]) [3, 1, 4, 5, 0] rfl ?_
                  exact ih24 1 (i4 + 1) (by omega) (by omega) (by omega)
        refine z_loc (L' := [(0, .ref (ad 0)), (1, z_v i1), (2, z_v i2), (3, z_v ((6 * i2) + x2)), (4, z_v 0)]) [2, 3, 4, 1, 0] rfl ?_
        exact (L24 (((2 : Int) - 0).toNat + 1)) i1 0 (by omega) (by omega) (Nat.lt_succ_self _)
  refine z_loc (L' := [(0, .ref (ad 0)), (1, z_v 1), (2, z_v 0)]) [2, 1, 0] rfl ?_
  exact (L4 (((3 : Int) - 0).toNat + 1)) 1 0 (by omega) (by omega) (Nat.lt_succ_self _)
set_option maxRecDepth 20000 in
theorem cm_X11_look (l : Launch) {D : va_G} {A : Nat → Prop} {ad : Nat → Nat} {ks : z_Ks} {s_edges s_isNeeded s_explored s_states s_isMoved s_runs s_runTime s_runMoves : Int} {w_h : Int64} {a_machine a_from a_to a_channel a_resets a_guards a_guardOf a_limits a_limitOf a_places a_zones a_parent a_moveE a_moveF a_moves a_z a_ahead a_at a_amounts a_way a_moments a_runAt a_runClock : Nat → Int} {Y : Nat → Option va_E} (Ha_at : (∀ j, 0 ≤ a_at j ∧ a_at j ≤ 5)) (Ha_amounts : (∀ j, 0 ≤ a_amounts j ∧ a_amounts j ≤ 1064000)) (Ha_runAt : (∀ j, 0 ≤ a_runAt j ∧ a_runAt j ≤ 5)) (Ha_runClock : (∀ j, 0 ≤ a_runClock j ∧ a_runClock j ≤ 1000000)) : z_Met l yX11_look cX11_look 2 none 0 0 0 0 D A 24 ad ks [.ref (ad 0)] (z_zm ad ks s_edges s_isNeeded s_explored s_states s_isMoved s_runs s_runTime s_runMoves w_h a_machine a_from a_to a_channel a_resets a_guards a_guardOf a_limits a_limitOf a_places a_zones a_parent a_moveE a_moveF a_moves a_z a_ahead a_at a_amounts a_way a_moments a_runAt a_runClock) Y (fun r S' Y' => ∃ na_at : Nat → Int, ∃ na_amounts : Nat → Int, S' = (z_zm ad ks s_edges s_isNeeded s_explored s_states s_isMoved s_runs s_runTime s_runMoves w_h a_machine a_from a_to a_channel a_resets a_guards a_guardOf a_limits a_limitOf a_places a_zones a_parent a_moveE a_moveF a_moves a_z a_ahead na_at na_amounts a_way a_moments a_runAt a_runClock) ∧ Y = Y' ∧ (∀ j, 0 ≤ na_at j ∧ na_at j ≤ 5) ∧ (∀ j, 0 ≤ na_amounts j ∧ na_amounts j ≤ 1064000) ∧ r = none) := by
  refine z_start2 (by decide) (Nat.le_of_ble_eq_true rfl) ?_
  intro p e R s m args below meth c Q C hRf hRc hRs hRl hQ hrt hnm
  refine z_loc (L' := [(0, .ref (ad 0))]) [0] rfl ?_
  refine z_iconst C dX11_look_0 ?_
  refine z_istoren (L' := [(1, z_v 0), (0, .ref (ad 0))]) C dX11_look_1 rfl (by decide) rfl ?_
  have L2 : ∀ (n : Nat), ∀ (i1 : Int) (fa_at : Nat → Int) (fa_amounts : Nat → Int), ((∀ j, 0 ≤ fa_at j ∧ fa_at j ≤ 5)) → ((∀ j, 0 ≤ fa_amounts j ∧ fa_amounts j ≤ 1064000)) → (0 ≤ i1 ∧ i1 ≤ 3) → ((3 : Int) - i1).toNat < n → z_V p l e R s m args below meth c Q D A 24 ad 2 (z_zm ad ks s_edges s_isNeeded s_explored s_states s_isMoved s_runs s_runTime s_runMoves w_h a_machine a_from a_to a_channel a_resets a_guards a_guardOf a_limits a_limitOf a_places a_zones a_parent a_moveE a_moveF a_moves a_z a_ahead fa_at fa_amounts a_way a_moments a_runAt a_runClock) Y 0 0 2 [(0, .ref (ad 0)), (1, z_v i1)] [] := by
    intro n
    induction n with
    | zero => intro i1 fa_at fa_amounts Hfa_at Hfa_amounts I1 hm; exact absurd hm (Nat.not_lt_zero _)
    | succ n ih2 =>
      intro i1 fa_at fa_amounts Hfa_at Hfa_amounts I1 hm
      refine z_iloadn C 1 dX11_look_2 rfl rfl ?_
      refine z_iconst C dX11_look_3 ?_
      refine z_icmp_ge (t := 25) C dX11_look_4 (by decide) (by omega) (by omega) (fun c1 => ?_) (fun c1 => ?_)
      · skip
        refine z_iconst C dX11_look_25 ?_
        refine z_istoren (L' := [(1, z_v 0), (0, .ref (ad 0))]) C dX11_look_26 rfl (by decide) rfl ?_
        have L27 : ∀ (n : Nat), ∀ (i1 : Int) (fa_at : Nat → Int) (fa_amounts : Nat → Int), ((∀ j, 0 ≤ fa_at j ∧ fa_at j ≤ 5)) → ((∀ j, 0 ≤ fa_amounts j ∧ fa_amounts j ≤ 1064000)) → (0 ≤ i1 ∧ i1 ≤ 4) → ((4 : Int) - i1).toNat < n → z_V p l e R s m args below meth c Q D A 24 ad 2 (z_zm ad ks s_edges s_isNeeded s_explored s_states s_isMoved s_runs s_runTime s_runMoves w_h a_machine a_from a_to a_channel a_resets a_guards a_guardOf a_limits a_limitOf a_places a_zones a_parent a_moveE a_moveF a_moves a_z a_ahead fa_at fa_amounts a_way a_moments a_runAt a_runClock) Y 0 0 27 [(0, .ref (ad 0)), (1, z_v i1)] [] := by
          intro n
          induction n with
          | zero => intro i1 fa_at fa_amounts Hfa_at Hfa_amounts I1 hm; exact absurd hm (Nat.not_lt_zero _)
          | succ n ih27 =>
            intro i1 fa_at fa_amounts Hfa_at Hfa_amounts I1 hm
            refine z_iloadn C 1 dX11_look_27 rfl rfl ?_
            refine z_iconst C dX11_look_28 ?_
            refine z_icmp_ge (t := 50) C dX11_look_29 (by decide) (by omega) (by omega) (fun c2 => ?_) (fun c2 => ?_)
            · skip
              rw [hQ]
              exact z_vret C hrt dX11_look_50 (⟨fa_at, fa_amounts, rfl, rfl, Hfa_at, Hfa_amounts, rfl⟩) (by omega) (by omega)
            · skip
              refine z_aloadn C 0 dX11_look_32 rfl rfl ?_
              refine z_get C 0 (by decide) rfl rfl z_it11 22 (by decide) rfl fl_11_68 rfl dX11_look_33 ?_
              refine z_iloadn C 1 dX11_look_36 rfl rfl ?_
              refine z_aloadn C 0 dX11_look_37 rfl rfl ?_
              refine z_get C 0 (by decide) rfl rfl z_it11 28 (by decide) rfl fl_11_80 rfl dX11_look_38 ?_
              refine z_iloadn C 1 dX11_look_41 rfl rfl ?_
              refine z_iald C 23 (by decide) rfl (by decide) (by omega) (by omega) dX11_look_42 ?_
              have rx3 := Ha_runClock (i1 : Int).toNat
              generalize ex3 : a_runClock (i1 : Int).toNat = x3 at rx3 ⊢
              refine z_iast C 19 (by decide) rfl (by decide) (by omega) (by omega) dX11_look_43 ?_
              refine z_ext (S' := (z_zm ad ks s_edges s_isNeeded s_explored s_states s_isMoved s_runs s_runTime s_runMoves w_h a_machine a_from a_to a_channel a_resets a_guards a_guardOf a_limits a_limitOf a_places a_zones a_parent a_moveE a_moveF a_moves a_z a_ahead fa_at (va_up fa_amounts (i1 : Int).toNat x3) a_way a_moments a_runAt a_runClock)) upM_a_amounts ?_
              have h4 : ∀ j, 0 ≤ (va_up fa_amounts (i1 : Int).toNat x3) j ∧ (va_up fa_amounts (i1 : Int).toNat x3) j ≤ 1064000 := z_upP (P := fun j v => 0 ≤ v ∧ v ≤ 1064000) Hfa_amounts (by omega)
              generalize (va_up fa_amounts (i1 : Int).toNat x3) = f5 at h4 ⊢
              refine z_iinc (L' := [(1, z_v (i1 + 1)), (0, .ref (ad 0))]) C 1 dX11_look_44 rfl (by decide) rfl ?_
              refine z_goto (t := 27) C dX11_look_47 (by decide) ?_
              refine z_loc (L' := [(0, .ref (ad 0)), (1, z_v (i1 + 1))]) [1, 0] rfl ?_
              exact ih27 (i1 + 1) fa_at f5 Hfa_at h4 (by omega) (by omega)
        refine z_loc (L' := [(0, .ref (ad 0)), (1, z_v 0)]) [1, 0] rfl ?_
        exact (L27 (((4 : Int) - 0).toNat + 1)) 0 fa_at fa_amounts Hfa_at Hfa_amounts (by omega) (Nat.lt_succ_self _)
      · skip
        refine z_aloadn C 0 dX11_look_7 rfl rfl ?_
        refine z_get C 0 (by decide) rfl rfl z_it11 21 (by decide) rfl fl_11_65 rfl dX11_look_8 ?_
        refine z_iloadn C 1 dX11_look_11 rfl rfl ?_
        refine z_aloadn C 0 dX11_look_12 rfl rfl ?_
        refine z_get C 0 (by decide) rfl rfl z_it11 27 (by decide) rfl fl_11_77 rfl dX11_look_13 ?_
        refine z_iloadn C 1 dX11_look_16 rfl rfl ?_
        refine z_iald C 22 (by decide) rfl (by decide) (by omega) (by omega) dX11_look_17 ?_
        have rx6 := Ha_runAt (i1 : Int).toNat
        generalize ex6 : a_runAt (i1 : Int).toNat = x6 at rx6 ⊢
        refine z_iast C 18 (by decide) rfl (by decide) (by omega) (by omega) dX11_look_18 ?_
        refine z_ext (S' := (z_zm ad ks s_edges s_isNeeded s_explored s_states s_isMoved s_runs s_runTime s_runMoves w_h a_machine a_from a_to a_channel a_resets a_guards a_guardOf a_limits a_limitOf a_places a_zones a_parent a_moveE a_moveF a_moves a_z a_ahead (va_up fa_at (i1 : Int).toNat x6) fa_amounts a_way a_moments a_runAt a_runClock)) upM_a_at ?_
        have h7 : ∀ j, 0 ≤ (va_up fa_at (i1 : Int).toNat x6) j ∧ (va_up fa_at (i1 : Int).toNat x6) j ≤ 5 := z_upP (P := fun j v => 0 ≤ v ∧ v ≤ 5) Hfa_at (by omega)
        generalize (va_up fa_at (i1 : Int).toNat x6) = f8 at h7 ⊢
        refine z_iinc (L' := [(1, z_v (i1 + 1)), (0, .ref (ad 0))]) C 1 dX11_look_19 rfl (by decide) rfl ?_
        refine z_goto (t := 2) C dX11_look_22 (by decide) ?_
        refine z_loc (L' := [(0, .ref (ad 0)), (1, z_v (i1 + 1))]) [1, 0] rfl ?_
        exact ih2 (i1 + 1) f8 fa_amounts h7 Hfa_amounts (by omega) (by omega)
  refine z_loc (L' := [(0, .ref (ad 0)), (1, z_v 0)]) [1, 0] rfl ?_
  exact (L2 (((3 : Int) - 0).toNat + 1)) 0 a_at a_amounts Ha_at Ha_amounts (by omega) (Nat.lt_succ_self _)
set_option maxRecDepth 20000 in
theorem cm_X11_isOpen (l : Launch) {D : va_G} {A : Nat → Prop} {ad : Nat → Nat} {ks : z_Ks} {s_edges s_isNeeded s_explored s_states s_isMoved s_runs s_runTime s_runMoves : Int} {w_h : Int64} {a_machine a_from a_to a_channel a_resets a_guards a_guardOf a_limits a_limitOf a_places a_zones a_parent a_moveE a_moveF a_moves a_z a_ahead a_at a_amounts a_way a_moments a_runAt a_runClock : Nat → Int} {Y : Nat → Option va_E} (e0 : Int) (Ha_at : (∀ j, 0 ≤ a_at j ∧ a_at j ≤ 5)) (Ha_machine : (∀ j, 0 ≤ a_machine j ∧ a_machine j ≤ 2)) (Ha_from : (∀ j, 0 ≤ a_from j ∧ a_from j ≤ 5)) (Ha_guards : (∀ j, 0 ≤ a_guards j ∧ a_guards j ≤ 2)) (Ha_guardOf : (∀ j, (j % 3 = 0 → a_guardOf j ≤ 3) ∧ 0 ≤ a_guardOf j ∧ a_guardOf j ≤ 1000)) (Ha_amounts : (∀ j, 0 ≤ a_amounts j ∧ a_amounts j ≤ 1064000)) (he : 0 ≤ e0 ∧ e0 ≤ 19) : z_Met l yX11_isOpen cX11_isOpen 5 (some .boolean) 1 23 0 0 D A 24 ad ks [.ref (ad 0), z_v e0] (z_zm ad ks s_edges s_isNeeded s_explored s_states s_isMoved s_runs s_runTime s_runMoves w_h a_machine a_from a_to a_channel a_resets a_guards a_guardOf a_limits a_limitOf a_places a_zones a_parent a_moveE a_moveF a_moves a_z a_ahead a_at a_amounts a_way a_moments a_runAt a_runClock) Y (fun r S' Y' => S' = (z_zm ad ks s_edges s_isNeeded s_explored s_states s_isMoved s_runs s_runTime s_runMoves w_h a_machine a_from a_to a_channel a_resets a_guards a_guardOf a_limits a_limitOf a_places a_zones a_parent a_moveE a_moveF a_moves a_z a_ahead a_at a_amounts a_way a_moments a_runAt a_runClock) ∧ Y = Y' ∧ ∃ z : Int, r = some (z_v z) ∧ (z = 0 ∨ z = 1)) := by
  refine z_start2 (by decide) (Nat.le_of_ble_eq_true rfl) ?_
  intro p e R s m args below meth c Q C hRf hRc hRs hRl hQ hrt hnm
  refine z_loc (L' := [(0, .ref (ad 0)), (1, z_v e0)]) [0, 1] rfl ?_
  refine z_aloadn C 0 dX11_isOpen_0 rfl rfl ?_
  refine z_get C 0 (by decide) rfl rfl z_it11 21 (by decide) rfl fl_11_65 rfl dX11_isOpen_1 ?_
  refine z_aloadn C 0 dX11_isOpen_4 rfl rfl ?_
  refine z_get C 0 (by decide) rfl rfl z_it11 1 (by decide) rfl fl_11_7 rfl dX11_isOpen_5 ?_
  refine z_iloadn C 1 dX11_isOpen_8 rfl rfl ?_
  refine z_iald C 1 (by decide) rfl (by decide) (by omega) (by omega) dX11_isOpen_9 ?_
  have rx1 := Ha_machine (e0 : Int).toNat
  generalize ex1 : a_machine (e0 : Int).toNat = x1 at rx1 ⊢
  refine z_iald C 18 (by decide) rfl (by decide) (by omega) (by omega) dX11_isOpen_10 ?_
  have rx2 := Ha_at (x1 : Int).toNat
  generalize ex2 : a_at (x1 : Int).toNat = x2 at rx2 ⊢
  refine z_aloadn C 0 dX11_isOpen_11 rfl rfl ?_
  refine z_get C 0 (by decide) rfl rfl z_it11 2 (by decide) rfl fl_11_13 rfl dX11_isOpen_12 ?_
  refine z_iloadn C 1 dX11_isOpen_15 rfl rfl ?_
  refine z_iald C 2 (by decide) rfl (by decide) (by omega) (by omega) dX11_isOpen_16 ?_
  have rx3 := Ha_from (e0 : Int).toNat
  generalize ex3 : a_from (e0 : Int).toNat = x3 at rx3 ⊢
  refine z_icmp_ne (t := 24) C dX11_isOpen_17 (by decide) (by omega) (by omega) (fun c4 => ?_) (fun c4 => ?_)
  · skip
    refine z_iconst C dX11_isOpen_24 ?_
    refine z_istoren (L' := [(2, z_v 0), (0, .ref (ad 0)), (1, z_v e0)]) C dX11_isOpen_25 rfl (by decide) rfl ?_
    refine z_iconst C dX11_isOpen_26 ?_
    refine z_istoren (L' := [(3, z_v 0), (2, z_v 0), (0, .ref (ad 0)), (1, z_v e0)]) C dX11_isOpen_27 rfl (by decide) rfl ?_
    have L28 : ∀ (n : Nat), ∀ (i2 : Int) (i3 : Int), (0 ≤ i3 ∧ i3 ≤ 2) → (i2 = 0 ∨ i2 = 1) → ((2 : Int) - i3).toNat < n → z_V p l e R s m args below meth c Q D A 24 ad 5 (z_zm ad ks s_edges s_isNeeded s_explored s_states s_isMoved s_runs s_runTime s_runMoves w_h a_machine a_from a_to a_channel a_resets a_guards a_guardOf a_limits a_limitOf a_places a_zones a_parent a_moveE a_moveF a_moves a_z a_ahead a_at a_amounts a_way a_moments a_runAt a_runClock) Y 0 0 28 [(0, .ref (ad 0)), (1, z_v e0), (2, z_v i2), (3, z_v i3)] [] := by
      intro n
      induction n with
      | zero => intro i2 i3 I3 B2 hm; exact absurd hm (Nat.not_lt_zero _)
      | succ n ih28 =>
        intro i2 i3 I3 B2 hm
        refine z_iloadn C 3 dX11_isOpen_28 rfl rfl ?_
        refine z_aloadn C 0 dX11_isOpen_29 rfl rfl ?_
        refine z_get C 0 (by decide) rfl rfl z_it11 6 (by decide) rfl fl_11_25 rfl dX11_isOpen_30 ?_
        refine z_iloadn C 1 dX11_isOpen_33 rfl rfl ?_
        refine z_iald C 6 (by decide) rfl (by decide) (by omega) (by omega) dX11_isOpen_34 ?_
        have rx5 := Ha_guards (e0 : Int).toNat
        generalize ex5 : a_guards (e0 : Int).toNat = x5 at rx5 ⊢
        refine z_icmp_ge (t := 100) C dX11_isOpen_35 (by decide) (by omega) (by omega) (fun c6 => ?_) (fun c6 => ?_)
        · skip
          refine z_iloadn C 2 dX11_isOpen_100 rfl rfl ?_
          rw [hQ]
          exact z_zret C hrt (by omega) dX11_isOpen_101 (⟨rfl, rfl, _, rfl, by omega⟩) (by omega) (by omega)
        · skip
          refine z_bipush C dX11_isOpen_38 (by decide) ?_
          refine z_iloadn C 1 dX11_isOpen_40 rfl rfl ?_
          refine z_imul C dX11_isOpen_41 ?_
          refine z_iconst C dX11_isOpen_42 ?_
          refine z_iloadn C 3 dX11_isOpen_43 rfl rfl ?_
          refine z_imul C dX11_isOpen_44 ?_
          refine z_iadd C dX11_isOpen_45 ?_
          refine z_istore (L' := [(4, z_v ((6 * e0) + (3 * i3))), (0, .ref (ad 0)), (1, z_v e0), (2, z_v i2), (3, z_v i3)]) C dX11_isOpen_46 (by decide) rfl ?_
          refine z_iloadn C 3 dX11_isOpen_48 rfl rfl ?_
          refine z_if_eq (t := 92) C dX11_isOpen_49 (by decide) (by omega) (fun c7 => ?_) (fun c7 => ?_)
          · skip
            refine z_iconst C dX11_isOpen_92 ?_
            refine z_istoren (L' := [(2, z_v 0), (4, z_v ((6 * e0) + (3 * i3))), (0, .ref (ad 0)), (1, z_v e0), (3, z_v i3)]) C dX11_isOpen_93 rfl (by decide) rfl ?_
            refine z_iinc (L' := [(3, z_v (i3 + 1)), (2, z_v 0), (4, z_v ((6 * e0) + (3 * i3))), (0, .ref (ad 0)), (1, z_v e0)]) C 4 dX11_isOpen_94 rfl (by decide) rfl ?_
            refine z_goto (t := 28) C dX11_isOpen_97 (by decide) ?_
            refine z_loc (L' := [(0, .ref (ad 0)), (1, z_v e0), (2, z_v 0), (3, z_v (i3 + 1))]) [3, 4, 1, 0] rfl ?_
            exact ih28 0 (i3 + 1) (by omega) (by omega) (by omega)
          · skip
            refine z_aloadn C 1 dX11_isOpen_52 rfl rfl ?_
            refine z_get C 0 (by decide) rfl rfl z_it11 22 (by decide) rfl fl_11_68 rfl dX11_isOpen_53 ?_
            refine z_aloadn C 1 dX11_isOpen_56 rfl rfl ?_
            refine z_get C 0 (by decide) rfl rfl z_it11 7 (by decide) rfl fl_11_28 rfl dX11_isOpen_57 ?_
            refine z_iload C 0 dX11_isOpen_60 rfl ?_
            refine z_iald C 7 (by decide) rfl (by decide) (by omega) (by omega) dX11_isOpen_62 ?_
            have rx8 := Ha_guardOf (((6 * e0) + (3 * i3)) : Int).toNat
            generalize ex8 : a_guardOf (((6 * e0) + (3 * i3)) : Int).toNat = x8 at rx8 ⊢
            refine z_iald C 19 (by decide) rfl (by decide) (by omega) (by omega) dX11_isOpen_63 ?_
            have rx9 := Ha_amounts (x8 : Int).toNat
            generalize ex9 : a_amounts (x8 : Int).toNat = x9 at rx9 ⊢
            refine z_aloadn C 1 dX11_isOpen_64 rfl rfl ?_
            refine z_get C 0 (by decide) rfl rfl z_it11 7 (by decide) rfl fl_11_28 rfl dX11_isOpen_65 ?_
            refine z_iload C 0 dX11_isOpen_68 rfl ?_
            refine z_iconst C dX11_isOpen_70 ?_
            refine z_iadd C dX11_isOpen_71 ?_
            refine z_iald C 7 (by decide) rfl (by decide) (by omega) (by omega) dX11_isOpen_72 ?_
            have rx10 := Ha_guardOf ((((6 * e0) + (3 * i3)) + 1) : Int).toNat
            generalize ex10 : a_guardOf ((((6 * e0) + (3 * i3)) + 1) : Int).toNat = x10 at rx10 ⊢
            refine z_aloadn C 1 dX11_isOpen_73 rfl rfl ?_
            refine z_get C 0 (by decide) rfl rfl z_it11 7 (by decide) rfl fl_11_28 rfl dX11_isOpen_74 ?_
            refine z_iload C 0 dX11_isOpen_77 rfl ?_
            refine z_iconst C dX11_isOpen_79 ?_
            refine z_iadd C dX11_isOpen_80 ?_
            refine z_iald C 7 (by decide) rfl (by decide) (by omega) (by omega) dX11_isOpen_81 ?_
            have rx11 := Ha_guardOf ((((6 * e0) + (3 * i3)) + 2) : Int).toNat
            generalize ex11 : a_guardOf ((((6 * e0) + (3 * i3)) + 2) : Int).toNat = x11 at rx11 ⊢
            refine z_callS C (cm_X11_passes l x9 x10 x11 (by omega) (by omega) (by omega)) mv_11_203 pd_X11_passes ⟨by omega, by omega⟩ ⟨by omega, by omega⟩ rfl (Nat.le_of_ble_eq_true rfl) dX11_isOpen_82 ?_
            rintro _ _ _ ⟨rfl, rfl, z14, rfl, hz14⟩
            refine z_if_eq (t := 92) C dX11_isOpen_85 (by decide) (by omega) (fun c15 => ?_) (fun c15 => ?_)
            · skip
              refine z_iconst C dX11_isOpen_92 ?_
              refine z_istoren (L' := [(2, z_v 0), (4, z_v ((6 * e0) + (3 * i3))), (0, .ref (ad 0)), (1, z_v e0), (3, z_v i3)]) C dX11_isOpen_93 rfl (by decide) rfl ?_
              refine z_iinc (L' := [(3, z_v (i3 + 1)), (2, z_v 0), (4, z_v ((6 * e0) + (3 * i3))), (0, .ref (ad 0)), (1, z_v e0)]) C 4 dX11_isOpen_94 rfl (by decide) rfl ?_
              refine z_goto (t := 28) C dX11_isOpen_97 (by decide) ?_
              refine z_loc (L' := [(0, .ref (ad 0)), (1, z_v e0), (2, z_v 0), (3, z_v (i3 + 1))]) [3, 4, 1, 0] rfl ?_
              exact ih28 0 (i3 + 1) (by omega) (by omega) (by omega)
            · skip
              refine z_iconst C dX11_isOpen_88 ?_
              refine z_goto (t := 93) C dX11_isOpen_89 (by decide) ?_
              refine z_istoren (L' := [(2, z_v 1), (4, z_v ((6 * e0) + (3 * i3))), (0, .ref (ad 0)), (1, z_v e0), (3, z_v i3)]) C dX11_isOpen_93 rfl (by decide) rfl ?_
              refine z_iinc (L' := [(3, z_v (i3 + 1)), (2, z_v 1), (4, z_v ((6 * e0) + (3 * i3))), (0, .ref (ad 0)), (1, z_v e0)]) C 4 dX11_isOpen_94 rfl (by decide) rfl ?_
              refine z_goto (t := 28) C dX11_isOpen_97 (by decide) ?_
              refine z_loc (L' := [(0, .ref (ad 0)), (1, z_v e0), (2, z_v 1), (3, z_v (i3 + 1))]) [3, 4, 1, 0] rfl ?_
              exact ih28 1 (i3 + 1) (by omega) (by omega) (by omega)
    refine z_loc (L' := [(0, .ref (ad 0)), (1, z_v e0), (2, z_v 0), (3, z_v 0)]) [2, 3, 1, 0] rfl ?_
    exact (L28 (((2 : Int) - 0).toNat + 1)) 0 0 (by omega) (by omega) (Nat.lt_succ_self _)
  · skip
    refine z_iconst C dX11_isOpen_20 ?_
    refine z_goto (t := 25) C dX11_isOpen_21 (by decide) ?_
    refine z_istoren (L' := [(2, z_v 1), (0, .ref (ad 0)), (1, z_v e0)]) C dX11_isOpen_25 rfl (by decide) rfl ?_
    refine z_iconst C dX11_isOpen_26 ?_
    refine z_istoren (L' := [(3, z_v 0), (2, z_v 1), (0, .ref (ad 0)), (1, z_v e0)]) C dX11_isOpen_27 rfl (by decide) rfl ?_
    have L28 : ∀ (n : Nat), ∀ (i2 : Int) (i3 : Int), (0 ≤ i3 ∧ i3 ≤ 2) → (i2 = 0 ∨ i2 = 1) → ((2 : Int) - i3).toNat < n → z_V p l e R s m args below meth c Q D A 24 ad 5 (z_zm ad ks s_edges s_isNeeded s_explored s_states s_isMoved s_runs s_runTime s_runMoves w_h a_machine a_from a_to a_channel a_resets a_guards a_guardOf a_limits a_limitOf a_places a_zones a_parent a_moveE a_moveF a_moves a_z a_ahead a_at a_amounts a_way a_moments a_runAt a_runClock) Y 0 0 28 [(0, .ref (ad 0)), (1, z_v e0), (2, z_v i2), (3, z_v i3)] [] := by
      intro n
      induction n with
      | zero => intro i2 i3 I3 B2 hm; exact absurd hm (Nat.not_lt_zero _)
      | succ n ih28 =>
        intro i2 i3 I3 B2 hm
        refine z_iloadn C 3 dX11_isOpen_28 rfl rfl ?_
        refine z_aloadn C 0 dX11_isOpen_29 rfl rfl ?_
        refine z_get C 0 (by decide) rfl rfl z_it11 6 (by decide) rfl fl_11_25 rfl dX11_isOpen_30 ?_
        refine z_iloadn C 1 dX11_isOpen_33 rfl rfl ?_
        refine z_iald C 6 (by decide) rfl (by decide) (by omega) (by omega) dX11_isOpen_34 ?_
        have rx16 := Ha_guards (e0 : Int).toNat
        generalize ex16 : a_guards (e0 : Int).toNat = x16 at rx16 ⊢
        refine z_icmp_ge (t := 100) C dX11_isOpen_35 (by decide) (by omega) (by omega) (fun c17 => ?_) (fun c17 => ?_)
        · skip
          refine z_iloadn C 2 dX11_isOpen_100 rfl rfl ?_
          rw [hQ]
          exact z_zret C hrt (by omega) dX11_isOpen_101 (⟨rfl, rfl, _, rfl, by omega⟩) (by omega) (by omega)
        · skip
          refine z_bipush C dX11_isOpen_38 (by decide) ?_
          refine z_iloadn C 1 dX11_isOpen_40 rfl rfl ?_
          refine z_imul C dX11_isOpen_41 ?_
          refine z_iconst C dX11_isOpen_42 ?_
          refine z_iloadn C 3 dX11_isOpen_43 rfl rfl ?_
          refine z_imul C dX11_isOpen_44 ?_
          refine z_iadd C dX11_isOpen_45 ?_
          refine z_istore (L' := [(4, z_v ((6 * e0) + (3 * i3))), (0, .ref (ad 0)), (1, z_v e0), (2, z_v i2), (3, z_v i3)]) C dX11_isOpen_46 (by decide) rfl ?_
          refine z_iloadn C 3 dX11_isOpen_48 rfl rfl ?_
          refine z_if_eq (t := 92) C dX11_isOpen_49 (by decide) (by omega) (fun c18 => ?_) (fun c18 => ?_)
          · skip
            refine z_iconst C dX11_isOpen_92 ?_
            refine z_istoren (L' := [(2, z_v 0), (4, z_v ((6 * e0) + (3 * i3))), (0, .ref (ad 0)), (1, z_v e0), (3, z_v i3)]) C dX11_isOpen_93 rfl (by decide) rfl ?_
            refine z_iinc (L' := [(3, z_v (i3 + 1)), (2, z_v 0), (4, z_v ((6 * e0) + (3 * i3))), (0, .ref (ad 0)), (1, z_v e0)]) C 4 dX11_isOpen_94 rfl (by decide) rfl ?_
            refine z_goto (t := 28) C dX11_isOpen_97 (by decide) ?_
            refine z_loc (L' := [(0, .ref (ad 0)), (1, z_v e0), (2, z_v 0), (3, z_v (i3 + 1))]) [3, 4, 1, 0] rfl ?_
            exact ih28 0 (i3 + 1) (by omega) (by omega) (by omega)
          · skip
            refine z_aloadn C 1 dX11_isOpen_52 rfl rfl ?_
            refine z_get C 0 (by decide) rfl rfl z_it11 22 (by decide) rfl fl_11_68 rfl dX11_isOpen_53 ?_
            refine z_aloadn C 1 dX11_isOpen_56 rfl rfl ?_
            refine z_get C 0 (by decide) rfl rfl z_it11 7 (by decide) rfl fl_11_28 rfl dX11_isOpen_57 ?_
            refine z_iload C 0 dX11_isOpen_60 rfl ?_
            refine z_iald C 7 (by decide) rfl (by decide) (by omega) (by omega) dX11_isOpen_62 ?_
            have rx19 := Ha_guardOf (((6 * e0) + (3 * i3)) : Int).toNat
            generalize ex19 : a_guardOf (((6 * e0) + (3 * i3)) : Int).toNat = x19 at rx19 ⊢
            refine z_iald C 19 (by decide) rfl (by decide) (by omega) (by omega) dX11_isOpen_63 ?_
            have rx20 := Ha_amounts (x19 : Int).toNat
            generalize ex20 : a_amounts (x19 : Int).toNat = x20 at rx20 ⊢
            refine z_aloadn C 1 dX11_isOpen_64 rfl rfl ?_
            refine z_get C 0 (by decide) rfl rfl z_it11 7 (by decide) rfl fl_11_28 rfl dX11_isOpen_65 ?_
            refine z_iload C 0 dX11_isOpen_68 rfl ?_
            refine z_iconst C dX11_isOpen_70 ?_
            refine z_iadd C dX11_isOpen_71 ?_
            refine z_iald C 7 (by decide) rfl (by decide) (by omega) (by omega) dX11_isOpen_72 ?_
            have rx21 := Ha_guardOf ((((6 * e0) + (3 * i3)) + 1) : Int).toNat
            generalize ex21 : a_guardOf ((((6 * e0) + (3 * i3)) + 1) : Int).toNat = x21 at rx21 ⊢
            refine z_aloadn C 1 dX11_isOpen_73 rfl rfl ?_
            refine z_get C 0 (by decide) rfl rfl z_it11 7 (by decide) rfl fl_11_28 rfl dX11_isOpen_74 ?_
            refine z_iload C 0 dX11_isOpen_77 rfl ?_
            refine z_iconst C dX11_isOpen_79 ?_
            refine z_iadd C dX11_isOpen_80 ?_
            refine z_iald C 7 (by decide) rfl (by decide) (by omega) (by omega) dX11_isOpen_81 ?_
            have rx22 := Ha_guardOf ((((6 * e0) + (3 * i3)) + 2) : Int).toNat
            generalize ex22 : a_guardOf ((((6 * e0) + (3 * i3)) + 2) : Int).toNat = x22 at rx22 ⊢
            refine z_callS C (cm_X11_passes l x20 x21 x22 (by omega) (by omega) (by omega)) mv_11_203 pd_X11_passes ⟨by omega, by omega⟩ ⟨by omega, by omega⟩ rfl (Nat.le_of_ble_eq_true rfl) dX11_isOpen_82 ?_
            rintro _ _ _ ⟨rfl, rfl, z25, rfl, hz25⟩
            refine z_if_eq (t := 92) C dX11_isOpen_85 (by decide) (by omega) (fun c26 => ?_) (fun c26 => ?_)
            · skip
              refine z_iconst C dX11_isOpen_92 ?_
              refine z_istoren (L' := [(2, z_v 0), (4, z_v ((6 * e0) + (3 * i3))), (0, .ref (ad 0)), (1, z_v e0), (3, z_v i3)]) C dX11_isOpen_93 rfl (by decide) rfl ?_
              refine z_iinc (L' := [(3, z_v (i3 + 1)), (2, z_v 0), (4, z_v ((6 * e0) + (3 * i3))), (0, .ref (ad 0)), (1, z_v e0)]) C 4 dX11_isOpen_94 rfl (by decide) rfl ?_
              refine z_goto (t := 28) C dX11_isOpen_97 (by decide) ?_
              refine z_loc (L' := [(0, .ref (ad 0)), (1, z_v e0), (2, z_v 0), (3, z_v (i3 + 1))]) [3, 4, 1, 0] rfl ?_
              exact ih28 0 (i3 + 1) (by omega) (by omega) (by omega)
            · skip
              refine z_iconst C dX11_isOpen_88 ?_
              refine z_goto (t := 93) C dX11_isOpen_89 (by decide) ?_
              refine z_istoren (L' := [(2, z_v 1), (4, z_v ((6 * e0) + (3 * i3))), (0, .ref (ad 0)), (1, z_v e0), (3, z_v i3)]) C dX11_isOpen_93 rfl (by decide) rfl ?_
              refine z_iinc (L' := [(3, z_v (i3 + 1)), (2, z_v 1), (4, z_v ((6 * e0) + (3 * i3))), (0, .ref (ad 0)), (1, z_v e0)]) C 4 dX11_isOpen_94 rfl (by decide) rfl ?_
              refine z_goto (t := 28) C dX11_isOpen_97 (by decide) ?_
              refine z_loc (L' := [(0, .ref (ad 0)), (1, z_v e0), (2, z_v 1), (3, z_v (i3 + 1))]) [3, 4, 1, 0] rfl ?_
              exact ih28 1 (i3 + 1) (by omega) (by omega) (by omega)
    refine z_loc (L' := [(0, .ref (ad 0)), (1, z_v e0), (2, z_v 1), (3, z_v 0)]) [2, 3, 1, 0] rfl ?_
    exact (L28 (((2 : Int) - 0).toNat + 1)) 1 0 (by omega) (by omega) (Nat.lt_succ_self _)
set_option maxRecDepth 20000 in
theorem cm_X11_go (l : Launch) {D : va_G} {A : Nat → Prop} {ad : Nat → Nat} {ks : z_Ks} {s_edges s_isNeeded s_explored s_states s_isMoved s_runs s_runTime s_runMoves : Int} {w_h : Int64} {a_machine a_from a_to a_channel a_resets a_guards a_guardOf a_limits a_limitOf a_places a_zones a_parent a_moveE a_moveF a_moves a_z a_ahead a_at a_amounts a_way a_moments a_runAt a_runClock : Nat → Int} {Y : Nat → Option va_E} (e0 : Int) (Ha_at : (∀ j, 0 ≤ a_at j ∧ a_at j ≤ 5)) (Ha_machine : (∀ j, 0 ≤ a_machine j ∧ a_machine j ≤ 2)) (Ha_to : (∀ j, 0 ≤ a_to j ∧ a_to j ≤ 5)) (Ha_resets : (∀ j, z_rg (a_resets j))) (Ha_amounts : (∀ j, 0 ≤ a_amounts j ∧ a_amounts j ≤ 1064000)) (he : 0 ≤ e0 ∧ e0 ≤ 19) : z_Met l yX11_go cX11_go 3 none 0 0 0 0 D A 24 ad ks [.ref (ad 0), z_v e0] (z_zm ad ks s_edges s_isNeeded s_explored s_states s_isMoved s_runs s_runTime s_runMoves w_h a_machine a_from a_to a_channel a_resets a_guards a_guardOf a_limits a_limitOf a_places a_zones a_parent a_moveE a_moveF a_moves a_z a_ahead a_at a_amounts a_way a_moments a_runAt a_runClock) Y (fun r S' Y' => ∃ na_at : Nat → Int, ∃ na_amounts : Nat → Int, S' = (z_zm ad ks s_edges s_isNeeded s_explored s_states s_isMoved s_runs s_runTime s_runMoves w_h a_machine a_from a_to a_channel a_resets a_guards a_guardOf a_limits a_limitOf a_places a_zones a_parent a_moveE a_moveF a_moves a_z a_ahead na_at na_amounts a_way a_moments a_runAt a_runClock) ∧ Y = Y' ∧ (∀ j, 0 ≤ na_at j ∧ na_at j ≤ 5) ∧ (∀ j, 0 ≤ na_amounts j ∧ na_amounts j ≤ 1064000) ∧ r = none) := by
  refine z_start2 (by decide) (Nat.le_of_ble_eq_true rfl) ?_
  intro p e R s m args below meth c Q C hRf hRc hRs hRl hQ hrt hnm
  refine z_loc (L' := [(0, .ref (ad 0)), (1, z_v e0)]) [0, 1] rfl ?_
  refine z_aloadn C 0 dX11_go_0 rfl rfl ?_
  refine z_get C 0 (by decide) rfl rfl z_it11 21 (by decide) rfl fl_11_65 rfl dX11_go_1 ?_
  refine z_aloadn C 0 dX11_go_4 rfl rfl ?_
  refine z_get C 0 (by decide) rfl rfl z_it11 1 (by decide) rfl fl_11_7 rfl dX11_go_5 ?_
  refine z_iloadn C 1 dX11_go_8 rfl rfl ?_
  refine z_iald C 1 (by decide) rfl (by decide) (by omega) (by omega) dX11_go_9 ?_
  have rx1 := Ha_machine (e0 : Int).toNat
  generalize ex1 : a_machine (e0 : Int).toNat = x1 at rx1 ⊢
  refine z_aloadn C 0 dX11_go_10 rfl rfl ?_
  refine z_get C 0 (by decide) rfl rfl z_it11 3 (by decide) rfl fl_11_16 rfl dX11_go_11 ?_
  refine z_iloadn C 1 dX11_go_14 rfl rfl ?_
  refine z_iald C 3 (by decide) rfl (by decide) (by omega) (by omega) dX11_go_15 ?_
  have rx2 := Ha_to (e0 : Int).toNat
  generalize ex2 : a_to (e0 : Int).toNat = x2 at rx2 ⊢
  refine z_iast C 18 (by decide) rfl (by decide) (by omega) (by omega) dX11_go_16 ?_
  refine z_ext (S' := (z_zm ad ks s_edges s_isNeeded s_explored s_states s_isMoved s_runs s_runTime s_runMoves w_h a_machine a_from a_to a_channel a_resets a_guards a_guardOf a_limits a_limitOf a_places a_zones a_parent a_moveE a_moveF a_moves a_z a_ahead (va_up a_at (x1 : Int).toNat x2) a_amounts a_way a_moments a_runAt a_runClock)) upM_a_at ?_
  have h3 : ∀ j, 0 ≤ (va_up a_at (x1 : Int).toNat x2) j ∧ (va_up a_at (x1 : Int).toNat x2) j ≤ 5 := z_upP (P := fun j v => 0 ≤ v ∧ v ≤ 5) Ha_at (by omega)
  generalize (va_up a_at (x1 : Int).toNat x2) = f4 at h3 ⊢
  refine z_iconst C dX11_go_17 ?_
  refine z_istoren (L' := [(2, z_v 1), (0, .ref (ad 0)), (1, z_v e0)]) C dX11_go_18 rfl (by decide) rfl ?_
  have L19 : ∀ (n : Nat), ∀ (i2 : Int) (fa_at : Nat → Int) (fa_amounts : Nat → Int), ((∀ j, 0 ≤ fa_at j ∧ fa_at j ≤ 5)) → ((∀ j, 0 ≤ fa_amounts j ∧ fa_amounts j ≤ 1064000)) → (1 ≤ i2 ∧ i2 ≤ 4) → ((4 : Int) - i2).toNat < n → z_V p l e R s m args below meth c Q D A 24 ad 3 (z_zm ad ks s_edges s_isNeeded s_explored s_states s_isMoved s_runs s_runTime s_runMoves w_h a_machine a_from a_to a_channel a_resets a_guards a_guardOf a_limits a_limitOf a_places a_zones a_parent a_moveE a_moveF a_moves a_z a_ahead fa_at fa_amounts a_way a_moments a_runAt a_runClock) Y 0 0 19 [(0, .ref (ad 0)), (1, z_v e0), (2, z_v i2)] [] := by
    intro n
    induction n with
    | zero => intro i2 fa_at fa_amounts Hfa_at Hfa_amounts I2 hm; exact absurd hm (Nat.not_lt_zero _)
    | succ n ih19 =>
      intro i2 fa_at fa_amounts Hfa_at Hfa_amounts I2 hm
      refine z_iloadn C 2 dX11_go_19 rfl rfl ?_
      refine z_iconst C dX11_go_20 ?_
      refine z_icmp_ge (t := 60) C dX11_go_21 (by decide) (by omega) (by omega) (fun c5 => ?_) (fun c5 => ?_)
      · skip
        rw [hQ]
        exact z_vret C hrt dX11_go_60 (⟨fa_at, fa_amounts, rfl, rfl, Hfa_at, Hfa_amounts, rfl⟩) (by omega) (by omega)
      · skip
        refine z_aloadn C 0 dX11_go_24 rfl rfl ?_
        refine z_get C 0 (by decide) rfl rfl z_it11 22 (by decide) rfl fl_11_68 rfl dX11_go_25 ?_
        refine z_iloadn C 2 dX11_go_28 rfl rfl ?_
        refine z_aloadn C 0 dX11_go_29 rfl rfl ?_
        refine z_get C 0 (by decide) rfl rfl z_it11 5 (by decide) rfl fl_11_22 rfl dX11_go_30 ?_
        refine z_iloadn C 1 dX11_go_33 rfl rfl ?_
        refine z_iald C 5 (by decide) rfl (by decide) (by omega) (by omega) dX11_go_34 ?_
        have rx6 := Ha_resets (e0 : Int).toNat
        generalize ex6 : a_resets (e0 : Int).toNat = x6 at rx6 ⊢
        refine z_iloadn C 2 dX11_go_35 rfl rfl ?_
        obtain ⟨b7, hb7, rb7⟩ := z_bits (z_i x6 >>> (z_i i2 &&& 31))
        refine z_ishr C hb7 dX11_go_36 ?_
        have qb7 := z_bitsE hb7 rb7
        refine z_iconst C dX11_go_37 ?_
        obtain ⟨b8, hb8, rb8⟩ := z_bits (z_i b7 &&& z_i 1)
        refine z_iand C hb8 dX11_go_38 ?_
        have qb8 := z_bitsE hb8 rb8
        refine z_iconst C dX11_go_39 ?_
        refine z_icmp_ne (t := 47) C dX11_go_40 (by decide) (by omega) (by omega) (fun c9 => ?_) (fun c9 => ?_)
        · skip
          refine z_aloadn C 0 dX11_go_47 rfl rfl ?_
          refine z_get C 0 (by decide) rfl rfl z_it11 22 (by decide) rfl fl_11_68 rfl dX11_go_48 ?_
          refine z_iloadn C 2 dX11_go_51 rfl rfl ?_
          refine z_iald C 19 (by decide) rfl (by decide) (by omega) (by omega) dX11_go_52 ?_
          have rx10 := Hfa_amounts (i2 : Int).toNat
          generalize ex10 : fa_amounts (i2 : Int).toNat = x10 at rx10 ⊢
          refine z_iast C 19 (by decide) rfl (by decide) (by omega) (by omega) dX11_go_53 ?_
          refine z_ext (S' := (z_zm ad ks s_edges s_isNeeded s_explored s_states s_isMoved s_runs s_runTime s_runMoves w_h a_machine a_from a_to a_channel a_resets a_guards a_guardOf a_limits a_limitOf a_places a_zones a_parent a_moveE a_moveF a_moves a_z a_ahead fa_at (va_up fa_amounts (i2 : Int).toNat x10) a_way a_moments a_runAt a_runClock)) upM_a_amounts ?_
          have h11 : ∀ j, 0 ≤ (va_up fa_amounts (i2 : Int).toNat x10) j ∧ (va_up fa_amounts (i2 : Int).toNat x10) j ≤ 1064000 := z_upP (P := fun j v => 0 ≤ v ∧ v ≤ 1064000) Hfa_amounts (by omega)
          generalize (va_up fa_amounts (i2 : Int).toNat x10) = f12 at h11 ⊢
          refine z_iinc (L' := [(2, z_v (i2 + 1)), (0, .ref (ad 0)), (1, z_v e0)]) C 2 dX11_go_54 rfl (by decide) rfl ?_
          refine z_goto (t := 19) C dX11_go_57 (by decide) ?_
          refine z_loc (L' := [(0, .ref (ad 0)), (1, z_v e0), (2, z_v (i2 + 1))]) [1, 2, 0] rfl ?_
          exact ih19 (i2 + 1) fa_at f12 Hfa_at h11 (by omega) (by omega)
        · skip
          refine z_iconst C dX11_go_43 ?_
          refine z_goto (t := 53) C dX11_go_44 (by decide) ?_
          refine z_iast C 19 (by decide) rfl (by decide) (by omega) (by omega) dX11_go_53 ?_
          refine z_ext (S' := (z_zm ad ks s_edges s_isNeeded s_explored s_states s_isMoved s_runs s_runTime s_runMoves w_h a_machine a_from a_to a_channel a_resets a_guards a_guardOf a_limits a_limitOf a_places a_zones a_parent a_moveE a_moveF a_moves a_z a_ahead fa_at (va_up fa_amounts (i2 : Int).toNat 0) a_way a_moments a_runAt a_runClock)) upM_a_amounts ?_
          have h13 : ∀ j, 0 ≤ (va_up fa_amounts (i2 : Int).toNat 0) j ∧ (va_up fa_amounts (i2 : Int).toNat 0) j ≤ 1064000 := z_upP (P := fun j v => 0 ≤ v ∧ v ≤ 1064000) Hfa_amounts (by omega)
          generalize (va_up fa_amounts (i2 : Int).toNat 0) = f14 at h13 ⊢
          refine z_iinc (L' := [(2, z_v (i2 + 1)), (0, .ref (ad 0)), (1, z_v e0)]) C 2 dX11_go_54 rfl (by decide) rfl ?_
          refine z_goto (t := 19) C dX11_go_57 (by decide) ?_
          refine z_loc (L' := [(0, .ref (ad 0)), (1, z_v e0), (2, z_v (i2 + 1))]) [1, 2, 0] rfl ?_
          exact ih19 (i2 + 1) fa_at f14 Hfa_at h13 (by omega) (by omega)
  refine z_loc (L' := [(0, .ref (ad 0)), (1, z_v e0), (2, z_v 1)]) [1, 2, 0] rfl ?_
  exact (L19 (((4 : Int) - 1).toNat + 1)) 1 f4 a_amounts h3 Ha_amounts (by omega) (Nat.lt_succ_self _)
set_option maxRecDepth 20000 in
theorem cm_X11_run (l : Launch) {D : va_G} {A : Nat → Prop} {ad : Nat → Nat} {ks : z_Ks} {s_edges s_isNeeded s_explored s_states s_isMoved s_runs s_runTime s_runMoves : Int} {w_h : Int64} {a_machine a_from a_to a_channel a_resets a_guards a_guardOf a_limits a_limitOf a_places a_zones a_parent a_moveE a_moveF a_moves a_z a_ahead a_at a_amounts a_way a_moments a_runAt a_runClock : Nat → Int} {Y : Nat → Option va_E} (wh : Int) (Hs_runs : (s_runs = 0 ∨ s_runs = 1)) (hw : z_rg wh) : z_Met l yX11_run cX11_run 2 (some .int) 1 22 0 0 D A 24 ad ks [.ref (ad 0), z_v wh] (z_zm ad ks s_edges s_isNeeded s_explored s_states s_isMoved s_runs s_runTime s_runMoves w_h a_machine a_from a_to a_channel a_resets a_guards a_guardOf a_limits a_limitOf a_places a_zones a_parent a_moveE a_moveF a_moves a_z a_ahead a_at a_amounts a_way a_moments a_runAt a_runClock) Y (fun r S' Y' => S' = (z_zm ad ks s_edges s_isNeeded s_explored s_states s_isMoved s_runs s_runTime s_runMoves w_h a_machine a_from a_to a_channel a_resets a_guards a_guardOf a_limits a_limitOf a_places a_zones a_parent a_moveE a_moveF a_moves a_z a_ahead a_at a_amounts a_way a_moments a_runAt a_runClock) ∧ Y = Y' ∧ ∃ z : Int, r = some (z_v z) ∧ (True)) := by
  refine z_start2 (by decide) (Nat.le_of_ble_eq_true rfl) ?_
  intro p e R s m args below meth c Q C hRf hRc hRs hRl hQ hrt hnm
  refine z_loc (L' := [(0, .ref (ad 0)), (1, z_v wh)]) [0, 1] rfl ?_
  refine z_aloadn C 0 dX11_run_0 rfl rfl ?_
  refine z_get C 0 (by decide) rfl rfl z_it11 26 (by decide) rfl fl_11_83 rfl dX11_run_1 ?_
  refine z_if_ne (t := 10) C dX11_run_4 (by decide) (by omega) (fun c1 => ?_) (fun c1 => ?_)
  · skip
    refine z_iloadn C 1 dX11_run_10 rfl rfl ?_
    refine z_iconst C dX11_run_11 ?_
    refine z_bipush C dX11_run_12 (by decide) ?_
    refine z_callS C (cm_X11_in l wh 0 8 (by omega) (by omega) (by omega)) mv_11_86 pd_X11_in ⟨by omega, by omega⟩ ⟨by omega, by omega⟩ rfl (Nat.le_of_ble_eq_true rfl) dX11_run_14 ?_
    rintro _ _ _ ⟨rfl, rfl, z2, rfl, hz2⟩
    refine z_if_eq (t := 25) C dX11_run_17 (by decide) (by omega) (fun c3 => ?_) (fun c3 => ?_)
    · skip
      refine z_bipush C dX11_run_25 (by decide) ?_
      rw [hQ]
      exact z_iret C hrt dX11_run_27 (⟨rfl, rfl, _, rfl, trivial⟩) (by omega) (by omega)
    · skip
      refine z_iloadn C 1 dX11_run_20 rfl rfl ?_
      refine z_iconst C dX11_run_21 ?_
      refine z_icmp_ne (t := 28) C dX11_run_22 (by decide) (by omega) (by omega) (fun c4 => ?_) (fun c4 => ?_)
      · skip
        refine z_iloadn C 1 dX11_run_28 rfl rfl ?_
        refine z_iconst C dX11_run_29 ?_
        refine z_icmp_ge (t := 42) C dX11_run_30 (by decide) (by omega) (by omega) (fun c5 => ?_) (fun c5 => ?_)
        · skip
          refine z_iloadn C 1 dX11_run_42 rfl rfl ?_
          refine z_bipush C dX11_run_43 (by decide) ?_
          refine z_icmp_ge (t := 59) C dX11_run_45 (by decide) (by omega) (by omega) (fun c6 => ?_) (fun c6 => ?_)
          · skip
            refine z_iloadn C 1 dX11_run_59 rfl rfl ?_
            refine z_bipush C dX11_run_60 (by decide) ?_
            refine z_icmp_ne (t := 72) C dX11_run_62 (by decide) (by omega) (by omega) (fun c7 => ?_) (fun c7 => ?_)
            · skip
              refine z_aloadn C 0 dX11_run_72 rfl rfl ?_
              refine z_get C 0 (by decide) rfl rfl z_it11 30 (by decide) rfl fl_11_215 rfl dX11_run_73 ?_
              rw [hQ]
              exact z_iret C hrt dX11_run_76 (⟨rfl, rfl, _, rfl, trivial⟩) (by omega) (by omega)
            · skip
              refine z_aloadn C 0 dX11_run_65 rfl rfl ?_
              refine z_get C 0 (by decide) rfl rfl z_it11 29 (by decide) rfl fl_11_212 rfl dX11_run_66 ?_
              refine z_goto (t := 76) C dX11_run_69 (by decide) ?_
              rw [hQ]
              exact z_iret C hrt dX11_run_76 (⟨rfl, rfl, _, rfl, trivial⟩) (by omega) (by omega)
          · skip
            refine z_aloadn C 0 dX11_run_48 rfl rfl ?_
            refine z_get C 0 (by decide) rfl rfl z_it11 28 (by decide) rfl fl_11_80 rfl dX11_run_49 ?_
            refine z_iloadn C 1 dX11_run_52 rfl rfl ?_
            refine z_iconst C dX11_run_53 ?_
            refine z_isub C dX11_run_54 ?_
            refine z_iald C 23 (by decide) rfl (by decide) (by omega) (by omega) dX11_run_55 ?_
            refine z_goto (t := 76) C dX11_run_56 (by decide) ?_
            rw [hQ]
            exact z_iret C hrt dX11_run_76 (⟨rfl, rfl, _, rfl, trivial⟩) (by omega) (by omega)
        · skip
          refine z_aloadn C 0 dX11_run_33 rfl rfl ?_
          refine z_get C 0 (by decide) rfl rfl z_it11 27 (by decide) rfl fl_11_77 rfl dX11_run_34 ?_
          refine z_iloadn C 1 dX11_run_37 rfl rfl ?_
          refine z_iald C 22 (by decide) rfl (by decide) (by omega) (by omega) dX11_run_38 ?_
          refine z_goto (t := 76) C dX11_run_39 (by decide) ?_
          rw [hQ]
          exact z_iret C hrt dX11_run_76 (⟨rfl, rfl, _, rfl, trivial⟩) (by omega) (by omega)
      · skip
        refine z_bipush C dX11_run_25 (by decide) ?_
        rw [hQ]
        exact z_iret C hrt dX11_run_27 (⟨rfl, rfl, _, rfl, trivial⟩) (by omega) (by omega)
  · skip
    refine z_bipush C dX11_run_7 (by decide) ?_
    rw [hQ]
    exact z_iret C hrt dX11_run_9 (⟨rfl, rfl, _, rfl, trivial⟩) (by omega) (by omega)
set_option maxRecDepth 20000 in
theorem cm_X11_here (l : Launch) {D : va_G} {A : Nat → Prop} {ad : Nat → Nat} {ks : z_Ks} {s_edges s_isNeeded s_explored s_states s_isMoved s_runs s_runTime s_runMoves : Int} {w_h : Int64} {a_machine a_from a_to a_channel a_resets a_guards a_guardOf a_limits a_limitOf a_places a_zones a_parent a_moveE a_moveF a_moves a_z a_ahead a_at a_amounts a_way a_moments a_runAt a_runClock : Nat → Int} {Y : Nat → Option va_E} (Ha_at : (∀ j, 0 ≤ a_at j ∧ a_at j ≤ 5)) (Ha_amounts : (∀ j, 0 ≤ a_amounts j ∧ a_amounts j ≤ 1064000)) (Ha_runAt : (∀ j, 0 ≤ a_runAt j ∧ a_runAt j ≤ 5)) (Ha_runClock : (∀ j, 0 ≤ a_runClock j ∧ a_runClock j ≤ 1000000)) (Hs_runs : (s_runs = 0 ∨ s_runs = 1)) (Hs_isNeeded : (s_isNeeded = 0 ∨ s_isNeeded = 1)) (Hs_states : (0 ≤ s_states ∧ s_states ≤ 120)) (Ha_places : (∀ j, 0 ≤ a_places j ∧ a_places j ≤ 5)) (Ha_zones : (∀ j, z_rg (a_zones j))) : z_Met l yX11_here cX11_here 4 (some .int) 1 26 0 0 D A 24 ad ks [.ref (ad 0)] (z_zm ad ks s_edges s_isNeeded s_explored s_states s_isMoved s_runs s_runTime s_runMoves w_h a_machine a_from a_to a_channel a_resets a_guards a_guardOf a_limits a_limitOf a_places a_zones a_parent a_moveE a_moveF a_moves a_z a_ahead a_at a_amounts a_way a_moments a_runAt a_runClock) Y (fun r S' Y' => ∃ na_at : Nat → Int, ∃ na_amounts : Nat → Int, S' = (z_zm ad ks s_edges s_isNeeded s_explored s_states s_isMoved s_runs s_runTime s_runMoves w_h a_machine a_from a_to a_channel a_resets a_guards a_guardOf a_limits a_limitOf a_places a_zones a_parent a_moveE a_moveF a_moves a_z a_ahead na_at na_amounts a_way a_moments a_runAt a_runClock) ∧ Y = Y' ∧ (∀ j, 0 ≤ na_at j ∧ na_at j ≤ 5) ∧ (∀ j, 0 ≤ na_amounts j ∧ na_amounts j ≤ 1064000) ∧ ∃ z : Int, r = some (z_v z) ∧ (True)) := by
  refine z_start2 (by decide) (Nat.le_of_ble_eq_true rfl) ?_
  intro p e R s m args below meth c Q C hRf hRc hRs hRl hQ hrt hnm
  refine z_loc (L' := [(0, .ref (ad 0))]) [0] rfl ?_
  refine z_aloadn C 0 dX11_here_0 rfl rfl ?_
  refine z_get C 0 (by decide) rfl rfl z_it11 26 (by decide) rfl fl_11_83 rfl dX11_here_1 ?_
  refine z_if_eq (t := 14) C dX11_here_4 (by decide) (by omega) (fun c1 => ?_) (fun c1 => ?_)
  · skip
    refine z_bipush C dX11_here_14 (by decide) ?_
    rw [hQ]
    exact z_iret C hrt dX11_here_16 (⟨a_at, a_amounts, rfl, rfl, Ha_at, Ha_amounts, _, rfl, trivial⟩) (by omega) (by omega)
  · skip
    refine z_aloadn C 0 dX11_here_7 rfl rfl ?_
    refine z_get C 0 (by decide) rfl rfl z_it11 10 (by decide) rfl fl_11_37 rfl dX11_here_8 ?_
    refine z_if_eq (t := 17) C dX11_here_11 (by decide) (by omega) (fun c2 => ?_) (fun c2 => ?_)
    · skip
      refine z_aloadn C 0 dX11_here_17 rfl rfl ?_
      refine z_callV C (cm_X11_look l Ha_at Ha_amounts Ha_runAt Ha_runClock) mv_11_219 (z_atS 0 11 (by decide) rfl rfl rfl) pd_X11_look ⟨by omega, by omega⟩ ⟨by omega, by omega⟩ rfl (Nat.le_of_ble_eq_true rfl) dX11_here_18 ?_
      rintro _ _ _ ⟨n3, n4, rfl, rfl, h7, h8, rfl⟩
      refine z_iconst C dX11_here_21 ?_
      refine z_istoren (L' := [(1, z_v 0), (0, .ref (ad 0))]) C dX11_here_22 rfl (by decide) rfl ?_
      have L23 : ∀ (n : Nat), ∀ (i1 : Int) (fa_at : Nat → Int) (fa_amounts : Nat → Int), ((∀ j, 0 ≤ fa_at j ∧ fa_at j ≤ 5)) → ((∀ j, 0 ≤ fa_amounts j ∧ fa_amounts j ≤ 1064000)) → (0 ≤ i1 ∧ i1 ≤ 120) → ((120 : Int) - i1).toNat < n → z_V p l e R s m args below meth c Q D A 24 ad 4 (z_zm ad ks s_edges s_isNeeded s_explored s_states s_isMoved s_runs s_runTime s_runMoves w_h a_machine a_from a_to a_channel a_resets a_guards a_guardOf a_limits a_limitOf a_places a_zones a_parent a_moveE a_moveF a_moves a_z a_ahead fa_at fa_amounts a_way a_moments a_runAt a_runClock) Y 0 0 23 [(0, .ref (ad 0)), (1, z_v i1)] [] := by
        intro n
        induction n with
        | zero => intro i1 fa_at fa_amounts Hfa_at Hfa_amounts I1 hm; exact absurd hm (Nat.not_lt_zero _)
        | succ n ih23 =>
          intro i1 fa_at fa_amounts Hfa_at Hfa_amounts I1 hm
          refine z_iloadn C 1 dX11_here_23 rfl rfl ?_
          refine z_aloadn C 0 dX11_here_24 rfl rfl ?_
          refine z_get C 0 (by decide) rfl rfl z_it11 12 (by decide) rfl fl_11_94 rfl dX11_here_25 ?_
          refine z_icmp_ge (t := 95) C dX11_here_28 (by decide) (by omega) (by omega) (fun c9 => ?_) (fun c9 => ?_)
          · skip
            refine z_iconst C dX11_here_95 ?_
            rw [hQ]
            exact z_iret C hrt dX11_here_96 (⟨fa_at, fa_amounts, rfl, rfl, Hfa_at, Hfa_amounts, _, rfl, trivial⟩) (by omega) (by omega)
          · skip
            refine z_iconst C dX11_here_31 ?_
            refine z_istoren (L' := [(2, z_v 1), (0, .ref (ad 0)), (1, z_v i1)]) C dX11_here_32 rfl (by decide) rfl ?_
            refine z_iconst C dX11_here_33 ?_
            refine z_istoren (L' := [(3, z_v 0), (2, z_v 1), (0, .ref (ad 0)), (1, z_v i1)]) C dX11_here_34 rfl (by decide) rfl ?_
            have L35 : ∀ (n : Nat), ∀ (i2 : Int) (i3 : Int) (fa_at : Nat → Int) (fa_amounts : Nat → Int), ((∀ j, 0 ≤ fa_at j ∧ fa_at j ≤ 5)) → ((∀ j, 0 ≤ fa_amounts j ∧ fa_amounts j ≤ 1064000)) → (0 ≤ i3 ∧ i3 ≤ 3) → (i2 = 0 ∨ i2 = 1) → ((3 : Int) - i3).toNat < n → z_V p l e R s m args below meth c Q D A 24 ad 4 (z_zm ad ks s_edges s_isNeeded s_explored s_states s_isMoved s_runs s_runTime s_runMoves w_h a_machine a_from a_to a_channel a_resets a_guards a_guardOf a_limits a_limitOf a_places a_zones a_parent a_moveE a_moveF a_moves a_z a_ahead fa_at fa_amounts a_way a_moments a_runAt a_runClock) Y 0 0 35 [(0, .ref (ad 0)), (1, z_v i1), (2, z_v i2), (3, z_v i3)] [] := by
              intro n
              induction n with
              | zero => intro i2 i3 fa_at fa_amounts Hfa_at Hfa_amounts I3 B2 hm; exact absurd hm (Nat.not_lt_zero _)
              | succ n ih35 =>
                intro i2 i3 fa_at fa_amounts Hfa_at Hfa_amounts I3 B2 hm
                refine z_iloadn C 3 dX11_here_35 rfl rfl ?_
                refine z_iconst C dX11_here_36 ?_
                refine z_icmp_ge (t := 75) C dX11_here_37 (by decide) (by omega) (by omega) (fun c10 => ?_) (fun c10 => ?_)
                · skip
                  refine z_iloadn C 2 dX11_here_75 rfl rfl ?_
                  refine z_if_eq (t := 89) C dX11_here_76 (by decide) (by omega) (fun c11 => ?_) (fun c11 => ?_)
                  · skip
                    refine z_iinc (L' := [(1, z_v (i1 + 1)), (0, .ref (ad 0)), (2, z_v i2), (3, z_v i3)]) C 1 dX11_here_89 rfl (by decide) rfl ?_
                    refine z_goto (t := 23) C dX11_here_92 (by decide) ?_
                    refine z_loc (L' := [(0, .ref (ad 0)), (1, z_v (i1 + 1))]) [1, 0] rfl ?_
                    exact ih23 (i1 + 1) fa_at fa_amounts Hfa_at Hfa_amounts (by omega) (by omega)
                  · skip
                    refine z_aloadn C 0 dX11_here_79 rfl rfl ?_
                    refine z_iloadn C 1 dX11_here_80 rfl rfl ?_
                    refine z_callV C (cm_X11_holds l i1 Ha_zones Hfa_amounts (by omega)) mv_11_174 (z_atS 0 11 (by decide) rfl rfl rfl) pd_X11_holds ⟨by omega, by omega⟩ ⟨by omega, by omega⟩ rfl (Nat.le_of_ble_eq_true rfl) dX11_here_81 ?_
                    rintro _ _ _ ⟨rfl, rfl, z14, rfl, hz14⟩
                    refine z_if_eq (t := 89) C dX11_here_84 (by decide) (by omega) (fun c15 => ?_) (fun c15 => ?_)
                    · skip
                      refine z_iinc (L' := [(1, z_v (i1 + 1)), (0, .ref (ad 0)), (2, z_v i2), (3, z_v i3)]) C 1 dX11_here_89 rfl (by decide) rfl ?_
                      refine z_goto (t := 23) C dX11_here_92 (by decide) ?_
                      refine z_loc (L' := [(0, .ref (ad 0)), (1, z_v (i1 + 1))]) [1, 0] rfl ?_
                      exact ih23 (i1 + 1) fa_at fa_amounts Hfa_at Hfa_amounts (by omega) (by omega)
                    · skip
                      refine z_iloadn C 1 dX11_here_87 rfl rfl ?_
                      rw [hQ]
                      exact z_iret C hrt dX11_here_88 (⟨fa_at, fa_amounts, rfl, rfl, Hfa_at, Hfa_amounts, _, rfl, trivial⟩) (by omega) (by omega)
                · skip
                  refine z_iloadn C 2 dX11_here_40 rfl rfl ?_
                  refine z_if_eq (t := 67) C dX11_here_41 (by decide) (by omega) (fun c16 => ?_) (fun c16 => ?_)
                  · skip
                    refine z_iconst C dX11_here_67 ?_
                    refine z_istoren (L' := [(2, z_v 0), (0, .ref (ad 0)), (1, z_v i1), (3, z_v i3)]) C dX11_here_68 rfl (by decide) rfl ?_
                    refine z_iinc (L' := [(3, z_v (i3 + 1)), (2, z_v 0), (0, .ref (ad 0)), (1, z_v i1)]) C 3 dX11_here_69 rfl (by decide) rfl ?_
                    refine z_goto (t := 35) C dX11_here_72 (by decide) ?_
                    refine z_loc (L' := [(0, .ref (ad 0)), (1, z_v i1), (2, z_v 0), (3, z_v (i3 + 1))]) [2, 3, 1, 0] rfl ?_
                    exact ih35 0 (i3 + 1) fa_at fa_amounts Hfa_at Hfa_amounts (by omega) (by omega) (by omega)
                  · skip
                    refine z_aloadn C 0 dX11_here_44 rfl rfl ?_
                    refine z_get C 0 (by decide) rfl rfl z_it11 13 (by decide) rfl fl_11_41 rfl dX11_here_45 ?_
                    refine z_iconst C dX11_here_48 ?_
                    refine z_iloadn C 1 dX11_here_49 rfl rfl ?_
                    refine z_imul C dX11_here_50 ?_
                    refine z_iloadn C 3 dX11_here_51 rfl rfl ?_
                    refine z_iadd C dX11_here_52 ?_
                    refine z_iald C 10 (by decide) rfl (by decide) (by omega) (by omega) dX11_here_53 ?_
                    have rx17 := Ha_places (((3 * i1) + i3) : Int).toNat
                    generalize ex17 : a_places (((3 * i1) + i3) : Int).toNat = x17 at rx17 ⊢
                    refine z_aloadn C 0 dX11_here_54 rfl rfl ?_
                    refine z_get C 0 (by decide) rfl rfl z_it11 21 (by decide) rfl fl_11_65 rfl dX11_here_55 ?_
                    refine z_iloadn C 3 dX11_here_58 rfl rfl ?_
                    refine z_iald C 18 (by decide) rfl (by decide) (by omega) (by omega) dX11_here_59 ?_
                    have rx18 := Hfa_at (i3 : Int).toNat
                    generalize ex18 : fa_at (i3 : Int).toNat = x18 at rx18 ⊢
                    refine z_icmp_ne (t := 67) C dX11_here_60 (by decide) (by omega) (by omega) (fun c19 => ?_) (fun c19 => ?_)
                    · skip
                      refine z_iconst C dX11_here_67 ?_
                      refine z_istoren (L' := [(2, z_v 0), (0, .ref (ad 0)), (1, z_v i1), (3, z_v i3)]) C dX11_here_68 rfl (by decide) rfl ?_
                      refine z_iinc (L' := [(3, z_v (i3 + 1)), (2, z_v 0), (0, .ref (ad 0)), (1, z_v i1)]) C 3 dX11_here_69 rfl (by decide) rfl ?_
                      refine z_goto (t := 35) C dX11_here_72 (by decide) ?_
                      refine z_loc (L' := [(0, .ref (ad 0)), (1, z_v i1), (2, z_v 0), (3, z_v (i3 + 1))]) [2, 3, 1, 0] rfl ?_
                      exact ih35 0 (i3 + 1) fa_at fa_amounts Hfa_at Hfa_amounts (by omega) (by omega) (by omega)
                    · skip
                      refine z_iconst C dX11_here_63 ?_
                      refine z_goto (t := 68) C dX11_here_64 (by decide) ?_
                      refine z_istoren (L' := [(2, z_v 1), (0, .ref (ad 0)), (1, z_v i1), (3, z_v i3)]) C dX11_here_68 rfl (by decide) rfl ?_
                      refine z_iinc (L' := [(3, z_v (i3 + 1)), (2, z_v 1), (0, .ref (ad 0)), (1, z_v i1)]) C 3 dX11_here_69 rfl (by decide) rfl ?_
                      refine z_goto (t := 35) C dX11_here_72 (by decide) ?_
                      refine z_loc (L' := [(0, .ref (ad 0)), (1, z_v i1), (2, z_v 1), (3, z_v (i3 + 1))]) [2, 3, 1, 0] rfl ?_
                      exact ih35 1 (i3 + 1) fa_at fa_amounts Hfa_at Hfa_amounts (by omega) (by omega) (by omega)
            refine z_loc (L' := [(0, .ref (ad 0)), (1, z_v i1), (2, z_v 1), (3, z_v 0)]) [2, 3, 1, 0] rfl ?_
            exact (L35 (((3 : Int) - 0).toNat + 1)) 1 0 fa_at fa_amounts Hfa_at Hfa_amounts (by omega) (by omega) (Nat.lt_succ_self _)
      refine z_loc (L' := [(0, .ref (ad 0)), (1, z_v 0)]) [1, 0] rfl ?_
      exact (L23 (((120 : Int) - 0).toNat + 1)) 0 n3 n4 h7 h8 (by omega) (Nat.lt_succ_self _)
    · skip
      refine z_bipush C dX11_here_14 (by decide) ?_
      rw [hQ]
      exact z_iret C hrt dX11_here_16 (⟨a_at, a_amounts, rfl, rfl, Ha_at, Ha_amounts, _, rfl, trivial⟩) (by omega) (by omega)
set_option maxRecDepth 20000 in
theorem cm_X11_about (l : Launch) {D : va_G} {A : Nat → Prop} {ad : Nat → Nat} {ks : z_Ks} {s_edges s_isNeeded s_explored s_states s_isMoved s_runs s_runTime s_runMoves : Int} {w_h : Int64} {a_machine a_from a_to a_channel a_resets a_guards a_guardOf a_limits a_limitOf a_places a_zones a_parent a_moveE a_moveF a_moves a_z a_ahead a_at a_amounts a_way a_moments a_runAt a_runClock : Nat → Int} {Y : Nat → Option va_E} (e0 wh : Int) (Hs_edges : (0 ≤ s_edges ∧ s_edges ≤ 20)) (he : z_rg e0) (hw : z_rg wh) : z_Met l yX11_about cX11_about 3 (some .int) 2 43 0 0 D A 24 ad ks [.ref (ad 0), z_v e0, z_v wh] (z_zm ad ks s_edges s_isNeeded s_explored s_states s_isMoved s_runs s_runTime s_runMoves w_h a_machine a_from a_to a_channel a_resets a_guards a_guardOf a_limits a_limitOf a_places a_zones a_parent a_moveE a_moveF a_moves a_z a_ahead a_at a_amounts a_way a_moments a_runAt a_runClock) Y (fun r S' Y' => S' = (z_zm ad ks s_edges s_isNeeded s_explored s_states s_isMoved s_runs s_runTime s_runMoves w_h a_machine a_from a_to a_channel a_resets a_guards a_guardOf a_limits a_limitOf a_places a_zones a_parent a_moveE a_moveF a_moves a_z a_ahead a_at a_amounts a_way a_moments a_runAt a_runClock) ∧ Y = Y' ∧ ∃ z : Int, r = some (z_v z) ∧ (True)) := by
  refine z_start2 (by decide) (Nat.le_of_ble_eq_true rfl) ?_
  intro p e R s m args below meth c Q C hRf hRc hRs hRl hQ hrt hnm
  refine z_loc (L' := [(0, .ref (ad 0)), (1, z_v e0), (2, z_v wh)]) [0, 1, 2] rfl ?_
  refine z_aloadn C 0 dX11_about_0 rfl rfl ?_
  refine z_iloadn C 1 dX11_about_1 rfl rfl ?_
  refine z_callV C (cm_X11_isEdge l e0 (by omega) (by omega)) mv_11_107 (z_atS 0 11 (by decide) rfl rfl rfl) pd_X11_isEdge ⟨by omega, by omega⟩ ⟨by omega, by omega⟩ rfl (Nat.le_of_ble_eq_true rfl) dX11_about_2 ?_
  rintro _ _ _ ⟨rfl, rfl, z1, rfl, hz1⟩
  refine z_if_ne (t := 11) C dX11_about_5 (by decide) (by omega) (fun c2 => ?_) (fun c2 => ?_)
  · skip
    refine z_iloadn C 2 dX11_about_11 rfl rfl ?_
    rcases (show (wh < 0 ∨ 5 < wh) ∨ wh = 0 ∨ wh = 1 ∨ wh = 2 ∨ wh = 3 ∨ wh = 4 ∨ wh = 5 by omega) with w3 | w3 | w3 | w3 | w3 | w3 | w3
    · refine z_tabOut (t := 94) C dX11_about_12 (by omega) w3 (by decide) ?_
      refine z_bipush C dX11_about_94 (by decide) ?_
      rw [hQ]
      exact z_iret C hrt dX11_about_96 (⟨rfl, rfl, _, rfl, trivial⟩) (by omega) (by omega)
    · refine z_tabIn (o := 40) (t := 52) C wh dX11_about_12 (by omega) (by omega) (by omega) (by rw [w3]; rfl) (by decide) ?_
      refine z_aloadn C 0 dX11_about_52 rfl rfl ?_
      refine z_get C 0 (by decide) rfl rfl z_it11 1 (by decide) rfl fl_11_7 rfl dX11_about_53 ?_
      refine z_iloadn C 1 dX11_about_56 rfl rfl ?_
      refine z_iald C 1 (by decide) rfl (by decide) (by omega) (by omega) dX11_about_57 ?_
      rw [hQ]
      exact z_iret C hrt dX11_about_58 (⟨rfl, rfl, _, rfl, trivial⟩) (by omega) (by omega)
    · refine z_tabIn (o := 47) (t := 59) C wh dX11_about_12 (by omega) (by omega) (by omega) (by rw [w3]; rfl) (by decide) ?_
      refine z_aloadn C 0 dX11_about_59 rfl rfl ?_
      refine z_get C 0 (by decide) rfl rfl z_it11 2 (by decide) rfl fl_11_13 rfl dX11_about_60 ?_
      refine z_iloadn C 1 dX11_about_63 rfl rfl ?_
      refine z_iald C 2 (by decide) rfl (by decide) (by omega) (by omega) dX11_about_64 ?_
      rw [hQ]
      exact z_iret C hrt dX11_about_65 (⟨rfl, rfl, _, rfl, trivial⟩) (by omega) (by omega)
    · refine z_tabIn (o := 54) (t := 66) C wh dX11_about_12 (by omega) (by omega) (by omega) (by rw [w3]; rfl) (by decide) ?_
      refine z_aloadn C 0 dX11_about_66 rfl rfl ?_
      refine z_get C 0 (by decide) rfl rfl z_it11 3 (by decide) rfl fl_11_16 rfl dX11_about_67 ?_
      refine z_iloadn C 1 dX11_about_70 rfl rfl ?_
      refine z_iald C 3 (by decide) rfl (by decide) (by omega) (by omega) dX11_about_71 ?_
      rw [hQ]
      exact z_iret C hrt dX11_about_72 (⟨rfl, rfl, _, rfl, trivial⟩) (by omega) (by omega)
    · refine z_tabIn (o := 61) (t := 73) C wh dX11_about_12 (by omega) (by omega) (by omega) (by rw [w3]; rfl) (by decide) ?_
      refine z_aloadn C 0 dX11_about_73 rfl rfl ?_
      refine z_get C 0 (by decide) rfl rfl z_it11 4 (by decide) rfl fl_11_19 rfl dX11_about_74 ?_
      refine z_iloadn C 1 dX11_about_77 rfl rfl ?_
      refine z_iald C 4 (by decide) rfl (by decide) (by omega) (by omega) dX11_about_78 ?_
      rw [hQ]
      exact z_iret C hrt dX11_about_79 (⟨rfl, rfl, _, rfl, trivial⟩) (by omega) (by omega)
    · refine z_tabIn (o := 68) (t := 80) C wh dX11_about_12 (by omega) (by omega) (by omega) (by rw [w3]; rfl) (by decide) ?_
      refine z_aloadn C 0 dX11_about_80 rfl rfl ?_
      refine z_get C 0 (by decide) rfl rfl z_it11 5 (by decide) rfl fl_11_22 rfl dX11_about_81 ?_
      refine z_iloadn C 1 dX11_about_84 rfl rfl ?_
      refine z_iald C 5 (by decide) rfl (by decide) (by omega) (by omega) dX11_about_85 ?_
      rw [hQ]
      exact z_iret C hrt dX11_about_86 (⟨rfl, rfl, _, rfl, trivial⟩) (by omega) (by omega)
    · refine z_tabIn (o := 75) (t := 87) C wh dX11_about_12 (by omega) (by omega) (by omega) (by rw [w3]; rfl) (by decide) ?_
      refine z_aloadn C 0 dX11_about_87 rfl rfl ?_
      refine z_get C 0 (by decide) rfl rfl z_it11 6 (by decide) rfl fl_11_25 rfl dX11_about_88 ?_
      refine z_iloadn C 1 dX11_about_91 rfl rfl ?_
      refine z_iald C 6 (by decide) rfl (by decide) (by omega) (by omega) dX11_about_92 ?_
      rw [hQ]
      exact z_iret C hrt dX11_about_93 (⟨rfl, rfl, _, rfl, trivial⟩) (by omega) (by omega)
  · skip
    refine z_bipush C dX11_about_8 (by decide) ?_
    rw [hQ]
    exact z_iret C hrt dX11_about_10 (⟨rfl, rfl, _, rfl, trivial⟩) (by omega) (by omega)
set_option maxRecDepth 20000 in
theorem cm_X11_moveCount (l : Launch) {D : va_G} {A : Nat → Prop} {ad : Nat → Nat} {ks : z_Ks} {s_edges s_isNeeded s_explored s_states s_isMoved s_runs s_runTime s_runMoves : Int} {w_h : Int64} {a_machine a_from a_to a_channel a_resets a_guards a_guardOf a_limits a_limitOf a_places a_zones a_parent a_moveE a_moveF a_moves a_z a_ahead a_at a_amounts a_way a_moments a_runAt a_runClock : Nat → Int} {Y : Nat → Option va_E} (Hs_edges : (0 ≤ s_edges ∧ s_edges ≤ 20)) (Ha_channel : (∀ j, -4 ≤ a_channel j ∧ a_channel j ≤ 4)) (Ha_machine : (∀ j, 0 ≤ a_machine j ∧ a_machine j ≤ 2)) : z_Met l yX11_moveCount cX11_moveCount 4 (some .int) 1 22 0 0 D A 24 ad ks [.ref (ad 0)] (z_zm ad ks s_edges s_isNeeded s_explored s_states s_isMoved s_runs s_runTime s_runMoves w_h a_machine a_from a_to a_channel a_resets a_guards a_guardOf a_limits a_limitOf a_places a_zones a_parent a_moveE a_moveF a_moves a_z a_ahead a_at a_amounts a_way a_moments a_runAt a_runClock) Y (fun r S' Y' => S' = (z_zm ad ks s_edges s_isNeeded s_explored s_states s_isMoved s_runs s_runTime s_runMoves w_h a_machine a_from a_to a_channel a_resets a_guards a_guardOf a_limits a_limitOf a_places a_zones a_parent a_moveE a_moveF a_moves a_z a_ahead a_at a_amounts a_way a_moments a_runAt a_runClock) ∧ Y = Y' ∧ ∃ z : Int, r = some (z_v z) ∧ (True)) := by
  refine z_start2 (by decide) (Nat.le_of_ble_eq_true rfl) ?_
  intro p e R s m args below meth c Q C hRf hRc hRs hRl hQ hrt hnm
  refine z_loc (L' := [(0, .ref (ad 0))]) [0] rfl ?_
  refine z_iconst C dX11_moveCount_0 ?_
  refine z_istoren (L' := [(1, z_v 0), (0, .ref (ad 0))]) C dX11_moveCount_1 rfl (by decide) rfl ?_
  refine z_iconst C dX11_moveCount_2 ?_
  refine z_istoren (L' := [(2, z_v 0), (1, z_v 0), (0, .ref (ad 0))]) C dX11_moveCount_3 rfl (by decide) rfl ?_
  have L4 : ∀ (n : Nat), ∀ (i1 : Int) (i2 : Int), (0 ≤ i2 ∧ i2 ≤ 20) → ((20 : Int) - i2).toNat < n → z_V p l e R s m args below meth c Q D A 24 ad 4 (z_zm ad ks s_edges s_isNeeded s_explored s_states s_isMoved s_runs s_runTime s_runMoves w_h a_machine a_from a_to a_channel a_resets a_guards a_guardOf a_limits a_limitOf a_places a_zones a_parent a_moveE a_moveF a_moves a_z a_ahead a_at a_amounts a_way a_moments a_runAt a_runClock) Y 0 0 4 [(0, .ref (ad 0)), (1, z_v i1), (2, z_v i2)] [] := by
    intro n
    induction n with
    | zero => intro i1 i2 I2 hm; exact absurd hm (Nat.not_lt_zero _)
    | succ n ih4 =>
      intro i1 i2 I2 hm
      refine z_iloadn C 2 dX11_moveCount_4 rfl rfl ?_
      refine z_aloadn C 0 dX11_moveCount_5 rfl rfl ?_
      refine z_get C 0 (by decide) rfl rfl z_it11 0 (by decide) rfl fl_11_90 rfl dX11_moveCount_6 ?_
      refine z_icmp_ge (t := 51) C dX11_moveCount_9 (by decide) (by omega) (by omega) (fun c1 => ?_) (fun c1 => ?_)
      · skip
        refine z_iloadn C 1 dX11_moveCount_51 rfl rfl ?_
        rw [hQ]
        exact z_iret C hrt dX11_moveCount_52 (⟨rfl, rfl, _, rfl, trivial⟩) (by omega) (by omega)
      · skip
        refine z_iconst C dX11_moveCount_12 ?_
        refine z_istoren (L' := [(3, z_v (-1)), (0, .ref (ad 0)), (1, z_v i1), (2, z_v i2)]) C dX11_moveCount_13 rfl (by decide) rfl ?_
        have L14 : ∀ (n : Nat), ∀ (i1 : Int) (i3 : Int), (-1 ≤ i3 ∧ i3 ≤ 20) → ((20 : Int) - i3).toNat < n → z_V p l e R s m args below meth c Q D A 24 ad 4 (z_zm ad ks s_edges s_isNeeded s_explored s_states s_isMoved s_runs s_runTime s_runMoves w_h a_machine a_from a_to a_channel a_resets a_guards a_guardOf a_limits a_limitOf a_places a_zones a_parent a_moveE a_moveF a_moves a_z a_ahead a_at a_amounts a_way a_moments a_runAt a_runClock) Y 0 0 14 [(0, .ref (ad 0)), (1, z_v i1), (2, z_v i2), (3, z_v i3)] [] := by
          intro n
          induction n with
          | zero => intro i1 i3 I3 hm; exact absurd hm (Nat.not_lt_zero _)
          | succ n ih14 =>
            intro i1 i3 I3 hm
            refine z_iloadn C 3 dX11_moveCount_14 rfl rfl ?_
            refine z_aloadn C 0 dX11_moveCount_15 rfl rfl ?_
            refine z_get C 0 (by decide) rfl rfl z_it11 0 (by decide) rfl fl_11_90 rfl dX11_moveCount_16 ?_
            refine z_icmp_ge (t := 45) C dX11_moveCount_19 (by decide) (by omega) (by omega) (fun c2 => ?_) (fun c2 => ?_)
            · skip
              refine z_iinc (L' := [(2, z_v (i2 + 1)), (0, .ref (ad 0)), (1, z_v i1), (3, z_v i3)]) C 2 dX11_moveCount_45 rfl (by decide) rfl ?_
              refine z_goto (t := 4) C dX11_moveCount_48 (by decide) ?_
              refine z_loc (L' := [(0, .ref (ad 0)), (1, z_v i1), (2, z_v (i2 + 1))]) [1, 2, 0] rfl ?_
              exact ih4 i1 (i2 + 1) (by omega) (by omega)
            · skip
              refine z_iloadn C 1 dX11_moveCount_22 rfl rfl ?_
              refine z_aloadn C 0 dX11_moveCount_23 rfl rfl ?_
              refine z_iloadn C 2 dX11_moveCount_24 rfl rfl ?_
              refine z_iloadn C 3 dX11_moveCount_25 rfl rfl ?_
              refine z_callV C (cm_X11_isMove l i2 i3 Ha_channel Ha_machine (by omega) (by omega)) mv_11_155 (z_atS 0 11 (by decide) rfl rfl rfl) pd_X11_isMove ⟨by omega, by omega⟩ ⟨by omega, by omega⟩ rfl (Nat.le_of_ble_eq_true rfl) dX11_moveCount_26 ?_
              rintro _ _ _ ⟨rfl, rfl, z5, rfl, hz5⟩
              refine z_if_eq (t := 36) C dX11_moveCount_29 (by decide) (by omega) (fun c6 => ?_) (fun c6 => ?_)
              · skip
                refine z_iconst C dX11_moveCount_36 ?_
                refine z_iadd C dX11_moveCount_37 ?_
                refine z_istoren (L' := [(1, z_v (i1 + 0)), (0, .ref (ad 0)), (2, z_v i2), (3, z_v i3)]) C dX11_moveCount_38 rfl (by decide) rfl ?_
                refine z_iinc (L' := [(3, z_v (i3 + 1)), (1, z_v (i1 + 0)), (0, .ref (ad 0)), (2, z_v i2)]) C 3 dX11_moveCount_39 rfl (by decide) rfl ?_
                refine z_goto (t := 14) C dX11_moveCount_42 (by decide) ?_
                refine z_loc (L' := [(0, .ref (ad 0)), (1, z_v (i1 + 0)), (2, z_v i2), (3, z_v (i3 + 1))]) [2, 1, 3, 0] rfl ?_
                exact ih14 (i1 + 0) (i3 + 1) (by omega) (by omega)
              · skip
                refine z_iconst C dX11_moveCount_32 ?_
                refine z_goto (t := 37) C dX11_moveCount_33 (by decide) ?_
                refine z_iadd C dX11_moveCount_37 ?_
                refine z_istoren (L' := [(1, z_v (i1 + 1)), (0, .ref (ad 0)), (2, z_v i2), (3, z_v i3)]) C dX11_moveCount_38 rfl (by decide) rfl ?_
                refine z_iinc (L' := [(3, z_v (i3 + 1)), (1, z_v (i1 + 1)), (0, .ref (ad 0)), (2, z_v i2)]) C 3 dX11_moveCount_39 rfl (by decide) rfl ?_
                refine z_goto (t := 14) C dX11_moveCount_42 (by decide) ?_
                refine z_loc (L' := [(0, .ref (ad 0)), (1, z_v (i1 + 1)), (2, z_v i2), (3, z_v (i3 + 1))]) [2, 1, 3, 0] rfl ?_
                exact ih14 (i1 + 1) (i3 + 1) (by omega) (by omega)
        refine z_loc (L' := [(0, .ref (ad 0)), (1, z_v i1), (2, z_v i2), (3, z_v (-1))]) [1, 2, 3, 0] rfl ?_
        exact (L14 (((20 : Int) - (-1)).toNat + 1)) i1 (-1) (by omega) (Nat.lt_succ_self _)
  refine z_loc (L' := [(0, .ref (ad 0)), (1, z_v 0), (2, z_v 0)]) [2, 1, 0] rfl ?_
  exact (L4 (((20 : Int) - 0).toNat + 1)) 0 0 (by omega) (Nat.lt_succ_self _)
set_option maxRecDepth 20000 in
theorem cm_X11_count (l : Launch) {D : va_G} {A : Nat → Prop} {ad : Nat → Nat} {ks : z_Ks} {s_edges s_isNeeded s_explored s_states s_isMoved s_runs s_runTime s_runMoves : Int} {w_h : Int64} {a_machine a_from a_to a_channel a_resets a_guards a_guardOf a_limits a_limitOf a_places a_zones a_parent a_moveE a_moveF a_moves a_z a_ahead a_at a_amounts a_way a_moments a_runAt a_runClock : Nat → Int} {Y : Nat → Option va_E} (wh : Int) (Hs_edges : (0 ≤ s_edges ∧ s_edges ≤ 20)) (Hs_isNeeded : (s_isNeeded = 0 ∨ s_isNeeded = 1)) (Ha_channel : (∀ j, -4 ≤ a_channel j ∧ a_channel j ≤ 4)) (Ha_machine : (∀ j, 0 ≤ a_machine j ∧ a_machine j ≤ 2)) (Ha_limits : (∀ j, 0 ≤ a_limits j ∧ a_limits j ≤ 2)) (Ha_guards : (∀ j, 0 ≤ a_guards j ∧ a_guards j ≤ 2)) (hw : z_rg wh) : z_Met l yX11_count cX11_count 4 (some .int) 2 45 0 0 D A 24 ad ks [.ref (ad 0), z_v wh] (z_zm ad ks s_edges s_isNeeded s_explored s_states s_isMoved s_runs s_runTime s_runMoves w_h a_machine a_from a_to a_channel a_resets a_guards a_guardOf a_limits a_limitOf a_places a_zones a_parent a_moveE a_moveF a_moves a_z a_ahead a_at a_amounts a_way a_moments a_runAt a_runClock) Y (fun r S' Y' => S' = (z_zm ad ks s_edges s_isNeeded s_explored s_states s_isMoved s_runs s_runTime s_runMoves w_h a_machine a_from a_to a_channel a_resets a_guards a_guardOf a_limits a_limitOf a_places a_zones a_parent a_moveE a_moveF a_moves a_z a_ahead a_at a_amounts a_way a_moments a_runAt a_runClock) ∧ Y = Y' ∧ ∃ z : Int, r = some (z_v z) ∧ (True)) := by
  refine z_start2 (by decide) (Nat.le_of_ble_eq_true rfl) ?_
  intro p e R s m args below meth c Q C hRf hRc hRs hRl hQ hrt hnm
  refine z_loc (L' := [(0, .ref (ad 0)), (1, z_v wh)]) [0, 1] rfl ?_
  refine z_iconst C dX11_count_0 ?_
  refine z_istoren (L' := [(2, z_v 0), (0, .ref (ad 0)), (1, z_v wh)]) C dX11_count_1 rfl (by decide) rfl ?_
  refine z_iloadn C 2 dX11_count_2 rfl rfl ?_
  rcases (show (wh < 0 ∨ 6 < wh) ∨ wh = 0 ∨ wh = 1 ∨ wh = 2 ∨ wh = 3 ∨ wh = 4 ∨ wh = 5 ∨ wh = 6 by omega) with w1 | w1 | w1 | w1 | w1 | w1 | w1 | w1
  · refine z_tabOut (t := 129) C dX11_count_3 (by omega) w1 (by decide) ?_
    refine z_bipush C dX11_count_129 (by decide) ?_
    rw [hQ]
    exact z_iret C hrt dX11_count_131 (⟨rfl, rfl, _, rfl, trivial⟩) (by omega) (by omega)
  · refine z_tabIn (o := 41) (t := 44) C wh dX11_count_3 (by omega) (by omega) (by omega) (by rw [w1]; rfl) (by decide) ?_
    refine z_aloadn C 1 dX11_count_44 rfl rfl ?_
    refine z_get C 0 (by decide) rfl rfl z_it11 0 (by decide) rfl fl_11_90 rfl dX11_count_45 ?_
    rw [hQ]
    exact z_iret C hrt dX11_count_48 (⟨rfl, rfl, _, rfl, trivial⟩) (by omega) (by omega)
  · refine z_tabIn (o := 46) (t := 49) C wh dX11_count_3 (by omega) (by omega) (by omega) (by rw [w1]; rfl) (by decide) ?_
    refine z_iconst C dX11_count_49 ?_
    refine z_istoren (L' := [(3, z_v 0), (2, z_v 0), (0, .ref (ad 0)), (1, z_v wh)]) C dX11_count_50 rfl (by decide) rfl ?_
    have L51 : ∀ (n : Nat), ∀ (i2 : Int) (i3 : Int), (0 ≤ i3 ∧ i3 ≤ 18) → ((18 : Int) - i3).toNat < n → z_V p l e R s m args below meth c Q D A 24 ad 4 (z_zm ad ks s_edges s_isNeeded s_explored s_states s_isMoved s_runs s_runTime s_runMoves w_h a_machine a_from a_to a_channel a_resets a_guards a_guardOf a_limits a_limitOf a_places a_zones a_parent a_moveE a_moveF a_moves a_z a_ahead a_at a_amounts a_way a_moments a_runAt a_runClock) Y 0 0 51 [(0, .ref (ad 0)), (2, z_v i2), (3, z_v i3)] [] := by
      intro n
      induction n with
      | zero => intro i2 i3 I3 hm; exact absurd hm (Nat.not_lt_zero _)
      | succ n ih51 =>
        intro i2 i3 I3 hm
        refine z_iloadn C 2 dX11_count_51 rfl rfl ?_
        refine z_bipush C dX11_count_52 (by decide) ?_
        refine z_icmp_ge (t := 72) C dX11_count_54 (by decide) (by omega) (by omega) (fun c2 => ?_) (fun c2 => ?_)
        · skip
          refine z_iloadn C 1 dX11_count_72 rfl rfl ?_
          rw [hQ]
          exact z_iret C hrt dX11_count_73 (⟨rfl, rfl, _, rfl, trivial⟩) (by omega) (by omega)
        · skip
          refine z_iloadn C 1 dX11_count_57 rfl rfl ?_
          refine z_aloadn C 0 dX11_count_58 rfl rfl ?_
          refine z_get C 0 (by decide) rfl rfl z_it11 8 (by decide) rfl fl_11_31 rfl dX11_count_59 ?_
          refine z_iloadn C 2 dX11_count_62 rfl rfl ?_
          refine z_iald C 8 (by decide) rfl (by decide) (by omega) (by omega) dX11_count_63 ?_
          have rx3 := Ha_limits (i3 : Int).toNat
          generalize ex3 : a_limits (i3 : Int).toNat = x3 at rx3 ⊢
          refine z_iadd C dX11_count_64 ?_
          refine z_istoren (L' := [(2, z_v (i2 + x3)), (0, .ref (ad 0)), (3, z_v i3)]) C dX11_count_65 rfl (by decide) rfl ?_
          refine z_iinc (L' := [(3, z_v (i3 + 1)), (2, z_v (i2 + x3)), (0, .ref (ad 0))]) C 2 dX11_count_66 rfl (by decide) rfl ?_
          refine z_goto (t := 51) C dX11_count_69 (by decide) ?_
          refine z_loc (L' := [(0, .ref (ad 0)), (2, z_v (i2 + x3)), (3, z_v (i3 + 1))]) [2, 1, 0] rfl ?_
          exact ih51 (i2 + x3) (i3 + 1) (by omega) (by omega)
    refine z_loc (L' := [(0, .ref (ad 0)), (2, z_v 0), (3, z_v 0)]) [2, 1, 0] rfl ?_
    exact (L51 (((18 : Int) - 0).toNat + 1)) 0 0 (by omega) (Nat.lt_succ_self _)
  · refine z_tabIn (o := 71) (t := 74) C wh dX11_count_3 (by omega) (by omega) (by omega) (by rw [w1]; rfl) (by decide) ?_
    refine z_iconst C dX11_count_74 ?_
    refine z_istoren (L' := [(3, z_v 0), (2, z_v 0), (0, .ref (ad 0)), (1, z_v wh)]) C dX11_count_75 rfl (by decide) rfl ?_
    have L76 : ∀ (n : Nat), ∀ (i2 : Int) (i3 : Int), (0 ≤ i3 ∧ i3 ≤ 20) → ((20 : Int) - i3).toNat < n → z_V p l e R s m args below meth c Q D A 24 ad 4 (z_zm ad ks s_edges s_isNeeded s_explored s_states s_isMoved s_runs s_runTime s_runMoves w_h a_machine a_from a_to a_channel a_resets a_guards a_guardOf a_limits a_limitOf a_places a_zones a_parent a_moveE a_moveF a_moves a_z a_ahead a_at a_amounts a_way a_moments a_runAt a_runClock) Y 0 0 76 [(0, .ref (ad 0)), (2, z_v i2), (3, z_v i3)] [] := by
      intro n
      induction n with
      | zero => intro i2 i3 I3 hm; exact absurd hm (Nat.not_lt_zero _)
      | succ n ih76 =>
        intro i2 i3 I3 hm
        refine z_iloadn C 2 dX11_count_76 rfl rfl ?_
        refine z_aloadn C 0 dX11_count_77 rfl rfl ?_
        refine z_get C 0 (by decide) rfl rfl z_it11 0 (by decide) rfl fl_11_90 rfl dX11_count_78 ?_
        refine z_icmp_ge (t := 99) C dX11_count_81 (by decide) (by omega) (by omega) (fun c4 => ?_) (fun c4 => ?_)
        · skip
          refine z_iloadn C 1 dX11_count_99 rfl rfl ?_
          rw [hQ]
          exact z_iret C hrt dX11_count_100 (⟨rfl, rfl, _, rfl, trivial⟩) (by omega) (by omega)
        · skip
          refine z_iloadn C 1 dX11_count_84 rfl rfl ?_
          refine z_aloadn C 0 dX11_count_85 rfl rfl ?_
          refine z_get C 0 (by decide) rfl rfl z_it11 6 (by decide) rfl fl_11_25 rfl dX11_count_86 ?_
          refine z_iloadn C 2 dX11_count_89 rfl rfl ?_
          refine z_iald C 6 (by decide) rfl (by decide) (by omega) (by omega) dX11_count_90 ?_
          have rx5 := Ha_guards (i3 : Int).toNat
          generalize ex5 : a_guards (i3 : Int).toNat = x5 at rx5 ⊢
          refine z_iadd C dX11_count_91 ?_
          refine z_istoren (L' := [(2, z_v (i2 + x5)), (0, .ref (ad 0)), (3, z_v i3)]) C dX11_count_92 rfl (by decide) rfl ?_
          refine z_iinc (L' := [(3, z_v (i3 + 1)), (2, z_v (i2 + x5)), (0, .ref (ad 0))]) C 2 dX11_count_93 rfl (by decide) rfl ?_
          refine z_goto (t := 76) C dX11_count_96 (by decide) ?_
          refine z_loc (L' := [(0, .ref (ad 0)), (2, z_v (i2 + x5)), (3, z_v (i3 + 1))]) [2, 1, 0] rfl ?_
          exact ih76 (i2 + x5) (i3 + 1) (by omega) (by omega)
    refine z_loc (L' := [(0, .ref (ad 0)), (2, z_v 0), (3, z_v 0)]) [2, 1, 0] rfl ?_
    exact (L76 (((20 : Int) - 0).toNat + 1)) 0 0 (by omega) (Nat.lt_succ_self _)
  · refine z_tabIn (o := 98) (t := 101) C wh dX11_count_3 (by omega) (by omega) (by omega) (by rw [w1]; rfl) (by decide) ?_
    refine z_aloadn C 1 dX11_count_101 rfl rfl ?_
    refine z_get C 0 (by decide) rfl rfl z_it11 12 (by decide) rfl fl_11_94 rfl dX11_count_102 ?_
    rw [hQ]
    exact z_iret C hrt dX11_count_105 (⟨rfl, rfl, _, rfl, trivial⟩) (by omega) (by omega)
  · refine z_tabIn (o := 103) (t := 106) C wh dX11_count_3 (by omega) (by omega) (by omega) (by rw [w1]; rfl) (by decide) ?_
    refine z_aloadn C 1 dX11_count_106 rfl rfl ?_
    refine z_callV C (cm_X11_moveCount l (by omega) Ha_channel Ha_machine) mv_11_228 (z_atS 0 11 (by decide) rfl rfl rfl) pd_X11_moveCount ⟨by omega, by omega⟩ ⟨by omega, by omega⟩ rfl (Nat.le_of_ble_eq_true rfl) dX11_count_107 ?_
    rintro _ _ _ ⟨rfl, rfl, z8, rfl, hz8⟩
    rw [hQ]
    exact z_iret C hrt dX11_count_110 (⟨rfl, rfl, _, rfl, trivial⟩) (by omega) (by omega)
  · refine z_tabIn (o := 108) (t := 111) C wh dX11_count_3 (by omega) (by omega) (by omega) (by rw [w1]; rfl) (by decide) ?_
    refine z_aloadn C 1 dX11_count_111 rfl rfl ?_
    refine z_get C 0 (by decide) rfl rfl z_it11 10 (by decide) rfl fl_11_37 rfl dX11_count_112 ?_
    refine z_if_eq (t := 122) C dX11_count_115 (by decide) (by omega) (fun c9 => ?_) (fun c9 => ?_)
    · skip
      refine z_iconst C dX11_count_122 ?_
      rw [hQ]
      exact z_iret C hrt dX11_count_123 (⟨rfl, rfl, _, rfl, trivial⟩) (by omega) (by omega)
    · skip
      refine z_iconst C dX11_count_118 ?_
      refine z_goto (t := 123) C dX11_count_119 (by decide) ?_
      rw [hQ]
      exact z_iret C hrt dX11_count_123 (⟨rfl, rfl, _, rfl, trivial⟩) (by omega) (by omega)
  · refine z_tabIn (o := 121) (t := 124) C wh dX11_count_3 (by omega) (by omega) (by omega) (by rw [w1]; rfl) (by decide) ?_
    refine z_aloadn C 1 dX11_count_124 rfl rfl ?_
    refine z_get C 0 (by decide) rfl rfl z_it11 11 (by decide) rfl fl_11_149 rfl dX11_count_125 ?_
    rw [hQ]
    exact z_iret C hrt dX11_count_128 (⟨rfl, rfl, _, rfl, trivial⟩) (by omega) (by omega)
set_option maxRecDepth 20000 in
theorem cm_X11_mix (l : Launch) {D : va_G} {A : Nat → Prop} {ad : Nat → Nat} {ks : z_Ks} {s_edges s_isNeeded s_explored s_states s_isMoved s_runs s_runTime s_runMoves : Int} {w_h : Int64} {a_machine a_from a_to a_channel a_resets a_guards a_guardOf a_limits a_limitOf a_places a_zones a_parent a_moveE a_moveF a_moves a_z a_ahead a_at a_amounts a_way a_moments a_runAt a_runClock : Nat → Int} {Y : Nat → Option va_E} (v : Int64) : z_Met l yX11_mix cX11_mix 3 none 0 0 0 0 D A 24 ad ks [.ref (ad 0), .long v] (z_zm ad ks s_edges s_isNeeded s_explored s_states s_isMoved s_runs s_runTime s_runMoves w_h a_machine a_from a_to a_channel a_resets a_guards a_guardOf a_limits a_limitOf a_places a_zones a_parent a_moveE a_moveF a_moves a_z a_ahead a_at a_amounts a_way a_moments a_runAt a_runClock) Y (fun r S' Y' => ∃ nw_h : Int64, S' = (z_zm ad ks s_edges s_isNeeded s_explored s_states s_isMoved s_runs s_runTime s_runMoves nw_h a_machine a_from a_to a_channel a_resets a_guards a_guardOf a_limits a_limitOf a_places a_zones a_parent a_moveE a_moveF a_moves a_z a_ahead a_at a_amounts a_way a_moments a_runAt a_runClock) ∧ Y = Y' ∧ r = none) := by
  refine z_start2 (by decide) (Nat.le_of_ble_eq_true rfl) ?_
  intro p e R s m args below meth c Q C hRf hRc hRs hRl hQ hrt hnm
  refine z_loc (L' := [(0, .ref (ad 0)), (1, .long v)]) [0, 1] rfl ?_
  refine z_aloadn C 0 dX11_mix_0 rfl rfl ?_
  refine z_ldc2 C kl_11_232 dX11_mix_1 ?_
  refine z_aloadn C 0 dX11_mix_4 rfl rfl ?_
  refine z_get C 0 (by decide) rfl rfl z_it11 31 (by decide) rfl fl_11_234 rfl dX11_mix_5 ?_
  refine z_lmul C dX11_mix_8 ?_
  refine z_lloadn C 1 dX11_mix_9 rfl rfl ?_
  refine z_ladd C dX11_mix_10 ?_
  refine z_put C 0 (by decide) rfl rfl z_it11 tyX11 tyX11_ok nmX11 31 (by decide) rfl (Or.inl rfl) fl_11_234 z_pfJ rfl rfl (Nat.le_of_ble_eq_true rfl) dX11_mix_11 ?_
  refine z_ext (S' := (z_zm ad ks s_edges s_isNeeded s_explored s_states s_isMoved s_runs s_runTime s_runMoves (((31 : Int64) * w_h) + v) a_machine a_from a_to a_channel a_resets a_guards a_guardOf a_limits a_limitOf a_places a_zones a_parent a_moveE a_moveF a_moves a_z a_ahead a_at a_amounts a_way a_moments a_runAt a_runClock)) upM_w_h ?_
  rw [hQ]
  exact z_vret C hrt dX11_mix_14 (⟨(((31 : Int64) * w_h) + v), rfl, rfl, rfl⟩) (by omega) (by omega)
set_option maxRecDepth 20000 in
theorem cm_X11_digest (l : Launch) {D : va_G} {A : Nat → Prop} {ad : Nat → Nat} {ks : z_Ks} {s_edges s_isNeeded s_explored s_states s_isMoved s_runs s_runTime s_runMoves : Int} {w_h : Int64} {a_machine a_from a_to a_channel a_resets a_guards a_guardOf a_limits a_limitOf a_places a_zones a_parent a_moveE a_moveF a_moves a_z a_ahead a_at a_amounts a_way a_moments a_runAt a_runClock : Nat → Int} {Y : Nat → Option va_E} (Hs_edges : (0 ≤ s_edges ∧ s_edges ≤ 20)) (Hs_isNeeded : (s_isNeeded = 0 ∨ s_isNeeded = 1)) (Hs_states : (0 ≤ s_states ∧ s_states ≤ 120)) (Hs_runs : (s_runs = 0 ∨ s_runs = 1)) (Ha_guards : (∀ j, 0 ≤ a_guards j ∧ a_guards j ≤ 2)) (Ha_guardOf : (∀ j, (j % 3 = 0 → a_guardOf j ≤ 3) ∧ 0 ≤ a_guardOf j ∧ a_guardOf j ≤ 1000)) (Ha_limits : (∀ j, 0 ≤ a_limits j ∧ a_limits j ≤ 2)) (Ha_limitOf : (∀ j, (j % 3 = 0 → a_limitOf j ≤ 3) ∧ 0 ≤ a_limitOf j ∧ a_limitOf j ≤ 1000)) : z_Met l yX11_digest cX11_digest 3 (some .long) 3 65 0 0 D A 24 ad ks [.ref (ad 0)] (z_zm ad ks s_edges s_isNeeded s_explored s_states s_isMoved s_runs s_runTime s_runMoves w_h a_machine a_from a_to a_channel a_resets a_guards a_guardOf a_limits a_limitOf a_places a_zones a_parent a_moveE a_moveF a_moves a_z a_ahead a_at a_amounts a_way a_moments a_runAt a_runClock) Y (fun r S' Y' => ∃ nw_h : Int64, S' = (z_zm ad ks s_edges s_isNeeded s_explored s_states s_isMoved s_runs s_runTime s_runMoves nw_h a_machine a_from a_to a_channel a_resets a_guards a_guardOf a_limits a_limitOf a_places a_zones a_parent a_moveE a_moveF a_moves a_z a_ahead a_at a_amounts a_way a_moments a_runAt a_runClock) ∧ Y = Y' ∧ ∃ z : Int64, r = some (.long z)) := by
  refine z_start2 (by decide) (Nat.le_of_ble_eq_true rfl) ?_
  intro p e R s m args below meth c Q C hRf hRc hRs hRl hQ hrt hnm
  refine z_loc (L' := [(0, .ref (ad 0))]) [0] rfl ?_
  refine z_aloadn C 0 dX11_digest_0 rfl rfl ?_
  refine z_ldc2 C kl_11_238 dX11_digest_1 ?_
  refine z_put C 0 (by decide) rfl rfl z_it11 tyX11 tyX11_ok nmX11 31 (by decide) rfl (Or.inl rfl) fl_11_234 z_pfJ rfl rfl (Nat.le_of_ble_eq_true rfl) dX11_digest_4 ?_
  refine z_ext (S' := (z_zm ad ks s_edges s_isNeeded s_explored s_states s_isMoved s_runs s_runTime s_runMoves (71 : Int64) a_machine a_from a_to a_channel a_resets a_guards a_guardOf a_limits a_limitOf a_places a_zones a_parent a_moveE a_moveF a_moves a_z a_ahead a_at a_amounts a_way a_moments a_runAt a_runClock)) upM_w_h ?_
  refine z_iconst C dX11_digest_7 ?_
  refine z_istoren (L' := [(1, z_v 0), (0, .ref (ad 0))]) C dX11_digest_8 rfl (by decide) rfl ?_
  have L9 : ∀ (n : Nat), ∀ (i1 : Int) (fw_h : Int64), (0 ≤ i1 ∧ i1 ≤ 20) → ((20 : Int) - i1).toNat < n → z_V p l e R s m args below meth c Q D A 24 ad 3 (z_zm ad ks s_edges s_isNeeded s_explored s_states s_isMoved s_runs s_runTime s_runMoves fw_h a_machine a_from a_to a_channel a_resets a_guards a_guardOf a_limits a_limitOf a_places a_zones a_parent a_moveE a_moveF a_moves a_z a_ahead a_at a_amounts a_way a_moments a_runAt a_runClock) Y 0 0 9 [(0, .ref (ad 0)), (1, z_v i1)] [] := by
    intro n
    induction n with
    | zero => intro i1 fw_h I1 hm; exact absurd hm (Nat.not_lt_zero _)
    | succ n ih9 =>
      intro i1 fw_h I1 hm
      refine z_iloadn C 1 dX11_digest_9 rfl rfl ?_
      refine z_aloadn C 0 dX11_digest_10 rfl rfl ?_
      refine z_get C 0 (by decide) rfl rfl z_it11 0 (by decide) rfl fl_11_90 rfl dX11_digest_11 ?_
      refine z_icmp_ge (t := 84) C dX11_digest_14 (by decide) (by omega) (by omega) (fun c1 => ?_) (fun c1 => ?_)
      · skip
        refine z_iconst C dX11_digest_84 ?_
        refine z_istoren (L' := [(1, z_v 0), (0, .ref (ad 0))]) C dX11_digest_85 rfl (by decide) rfl ?_
        have L86 : ∀ (n : Nat), ∀ (i1 : Int) (fw_h : Int64), (0 ≤ i1 ∧ i1 ≤ 18) → ((18 : Int) - i1).toNat < n → z_V p l e R s m args below meth c Q D A 24 ad 3 (z_zm ad ks s_edges s_isNeeded s_explored s_states s_isMoved s_runs s_runTime s_runMoves fw_h a_machine a_from a_to a_channel a_resets a_guards a_guardOf a_limits a_limitOf a_places a_zones a_parent a_moveE a_moveF a_moves a_z a_ahead a_at a_amounts a_way a_moments a_runAt a_runClock) Y 0 0 86 [(0, .ref (ad 0)), (1, z_v i1)] [] := by
          intro n
          induction n with
          | zero => intro i1 fw_h I1 hm; exact absurd hm (Nat.not_lt_zero _)
          | succ n ih86 =>
            intro i1 fw_h I1 hm
            refine z_iloadn C 1 dX11_digest_86 rfl rfl ?_
            refine z_bipush C dX11_digest_87 (by decide) ?_
            refine z_icmp_ge (t := 145) C dX11_digest_89 (by decide) (by omega) (by omega) (fun c2 => ?_) (fun c2 => ?_)
            · skip
              refine z_iconst C dX11_digest_145 ?_
              refine z_istoren (L' := [(1, z_v 0), (0, .ref (ad 0))]) C dX11_digest_146 rfl (by decide) rfl ?_
              have L147 : ∀ (n : Nat), ∀ (i1 : Int) (fw_h : Int64), (0 ≤ i1 ∧ i1 ≤ 120) → ((120 : Int) - i1).toNat < n → z_V p l e R s m args below meth c Q D A 24 ad 3 (z_zm ad ks s_edges s_isNeeded s_explored s_states s_isMoved s_runs s_runTime s_runMoves fw_h a_machine a_from a_to a_channel a_resets a_guards a_guardOf a_limits a_limitOf a_places a_zones a_parent a_moveE a_moveF a_moves a_z a_ahead a_at a_amounts a_way a_moments a_runAt a_runClock) Y 0 0 147 [(0, .ref (ad 0)), (1, z_v i1)] [] := by
                intro n
                induction n with
                | zero => intro i1 fw_h I1 hm; exact absurd hm (Nat.not_lt_zero _)
                | succ n ih147 =>
                  intro i1 fw_h I1 hm
                  refine z_aloadn C 0 dX11_digest_147 rfl rfl ?_
                  refine z_get C 0 (by decide) rfl rfl z_it11 10 (by decide) rfl fl_11_37 rfl dX11_digest_148 ?_
                  refine z_if_ne (t := 223) C dX11_digest_151 (by decide) (by omega) (fun c3 => ?_) (fun c3 => ?_)
                  · skip
                    refine z_aloadn C 0 dX11_digest_223 rfl rfl ?_
                    refine z_aloadn C 0 dX11_digest_224 rfl rfl ?_
                    refine z_get C 0 (by decide) rfl rfl z_it11 26 (by decide) rfl fl_11_83 rfl dX11_digest_225 ?_
                    refine z_if_eq (t := 235) C dX11_digest_228 (by decide) (by omega) (fun c4 => ?_) (fun c4 => ?_)
                    · skip
                      refine z_lconst (w := 0) C dX11_digest_235 (by decide) ?_
                      refine z_callV C (cm_X11_mix l (0 : Int64)) mv_11_243 (z_atS 0 11 (by decide) rfl rfl rfl) pd_X11_mix ⟨by omega, by omega⟩ ⟨by omega, by omega⟩ rfl (Nat.le_of_ble_eq_true rfl) dX11_digest_236 ?_
                      rintro _ _ _ ⟨n5, rfl, rfl, rfl⟩
                      refine z_iconst C dX11_digest_239 ?_
                      refine z_istoren (L' := [(1, z_v 0), (0, .ref (ad 0))]) C dX11_digest_240 rfl (by decide) rfl ?_
                      have L241 : ∀ (n : Nat), ∀ (i1 : Int) (fw_h : Int64), (0 ≤ i1 ∧ i1 ≤ 9) → ((9 : Int) - i1).toNat < n → z_V p l e R s m args below meth c Q D A 24 ad 3 (z_zm ad ks s_edges s_isNeeded s_explored s_states s_isMoved s_runs s_runTime s_runMoves fw_h a_machine a_from a_to a_channel a_resets a_guards a_guardOf a_limits a_limitOf a_places a_zones a_parent a_moveE a_moveF a_moves a_z a_ahead a_at a_amounts a_way a_moments a_runAt a_runClock) Y 0 0 241 [(0, .ref (ad 0)), (1, z_v i1)] [] := by
                        intro n
                        induction n with
                        | zero => intro i1 fw_h I1 hm; exact absurd hm (Nat.not_lt_zero _)
                        | succ n ih241 =>
                          intro i1 fw_h I1 hm
                          refine z_aloadn C 0 dX11_digest_241 rfl rfl ?_
                          refine z_get C 0 (by decide) rfl rfl z_it11 26 (by decide) rfl fl_11_83 rfl dX11_digest_242 ?_
                          refine z_if_eq (t := 275) C dX11_digest_245 (by decide) (by omega) (fun c8 => ?_) (fun c8 => ?_)
                          · skip
                            refine z_aloadn C 0 dX11_digest_275 rfl rfl ?_
                            refine z_get C 0 (by decide) rfl rfl z_it11 31 (by decide) rfl fl_11_234 rfl dX11_digest_276 ?_
                            rw [hQ]
                            exact z_lret C hrt dX11_digest_279 (⟨fw_h, rfl, rfl, _, rfl⟩) (by omega) (by omega)
                          · skip
                            refine z_iloadn C 1 dX11_digest_248 rfl rfl ?_
                            refine z_bipush C dX11_digest_249 (by decide) ?_
                            refine z_icmp_ge (t := 275) C dX11_digest_251 (by decide) (by omega) (by omega) (fun c9 => ?_) (fun c9 => ?_)
                            · skip
                              refine z_aloadn C 0 dX11_digest_275 rfl rfl ?_
                              refine z_get C 0 (by decide) rfl rfl z_it11 31 (by decide) rfl fl_11_234 rfl dX11_digest_276 ?_
                              rw [hQ]
                              exact z_lret C hrt dX11_digest_279 (⟨fw_h, rfl, rfl, _, rfl⟩) (by omega) (by omega)
                            · skip
                              refine z_iloadn C 1 dX11_digest_254 rfl rfl ?_
                              refine z_iconst C dX11_digest_255 ?_
                              refine z_icmp_eq (t := 269) C dX11_digest_256 (by decide) (by omega) (by omega) (fun c10 => ?_) (fun c10 => ?_)
                              · skip
                                refine z_iinc (L' := [(1, z_v (i1 + 1)), (0, .ref (ad 0))]) C 1 dX11_digest_269 rfl (by decide) rfl ?_
                                refine z_goto (t := 241) C dX11_digest_272 (by decide) ?_
                                refine z_loc (L' := [(0, .ref (ad 0)), (1, z_v (i1 + 1))]) [1, 0] rfl ?_
                                exact ih241 (i1 + 1) fw_h (by omega) (by omega)
                              · skip
                                refine z_aloadn C 0 dX11_digest_259 rfl rfl ?_
                                refine z_aloadn C 0 dX11_digest_260 rfl rfl ?_
                                refine z_iloadn C 1 dX11_digest_261 rfl rfl ?_
                                refine z_callV C (cm_X11_run l i1 (by omega) (by omega)) mv_11_247 (z_atS 0 11 (by decide) rfl rfl rfl) pd_X11_run ⟨by omega, by omega⟩ ⟨by omega, by omega⟩ rfl (Nat.le_of_ble_eq_true rfl) dX11_digest_262 ?_
                                rintro _ _ _ ⟨rfl, rfl, z13, rfl, hz13⟩
                                refine z_i2l C dX11_digest_265 ?_
                                refine z_callV C (cm_X11_mix l ((z_i z13).toInt64)) mv_11_243 (z_atS 0 11 (by decide) rfl rfl rfl) pd_X11_mix ⟨by omega, by omega⟩ ⟨by omega, by omega⟩ rfl (Nat.le_of_ble_eq_true rfl) dX11_digest_266 ?_
                                rintro _ _ _ ⟨n14, rfl, rfl, rfl⟩
                                refine z_iinc (L' := [(1, z_v (i1 + 1)), (0, .ref (ad 0))]) C 1 dX11_digest_269 rfl (by decide) rfl ?_
                                refine z_goto (t := 241) C dX11_digest_272 (by decide) ?_
                                refine z_loc (L' := [(0, .ref (ad 0)), (1, z_v (i1 + 1))]) [1, 0] rfl ?_
                                exact ih241 (i1 + 1) n14 (by omega) (by omega)
                      refine z_loc (L' := [(0, .ref (ad 0)), (1, z_v 0)]) [1, 0] rfl ?_
                      exact (L241 (((9 : Int) - 0).toNat + 1)) 0 n5 (by omega) (Nat.lt_succ_self _)
                    · skip
                      refine z_lconst (w := 1) C dX11_digest_231 (by decide) ?_
                      refine z_goto (t := 236) C dX11_digest_232 (by decide) ?_
                      refine z_callV C (cm_X11_mix l (1 : Int64)) mv_11_243 (z_atS 0 11 (by decide) rfl rfl rfl) pd_X11_mix ⟨by omega, by omega⟩ ⟨by omega, by omega⟩ rfl (Nat.le_of_ble_eq_true rfl) dX11_digest_236 ?_
                      rintro _ _ _ ⟨n17, rfl, rfl, rfl⟩
                      refine z_iconst C dX11_digest_239 ?_
                      refine z_istoren (L' := [(1, z_v 0), (0, .ref (ad 0))]) C dX11_digest_240 rfl (by decide) rfl ?_
                      have L241 : ∀ (n : Nat), ∀ (i1 : Int) (fw_h : Int64), (0 ≤ i1 ∧ i1 ≤ 9) → ((9 : Int) - i1).toNat < n → z_V p l e R s m args below meth c Q D A 24 ad 3 (z_zm ad ks s_edges s_isNeeded s_explored s_states s_isMoved s_runs s_runTime s_runMoves fw_h a_machine a_from a_to a_channel a_resets a_guards a_guardOf a_limits a_limitOf a_places a_zones a_parent a_moveE a_moveF a_moves a_z a_ahead a_at a_amounts a_way a_moments a_runAt a_runClock) Y 0 0 241 [(0, .ref (ad 0)), (1, z_v i1)] [] := by
                        intro n
                        induction n with
                        | zero => intro i1 fw_h I1 hm; exact absurd hm (Nat.not_lt_zero _)
                        | succ n ih241 =>
                          intro i1 fw_h I1 hm
                          refine z_aloadn C 0 dX11_digest_241 rfl rfl ?_
                          refine z_get C 0 (by decide) rfl rfl z_it11 26 (by decide) rfl fl_11_83 rfl dX11_digest_242 ?_
                          refine z_if_eq (t := 275) C dX11_digest_245 (by decide) (by omega) (fun c20 => ?_) (fun c20 => ?_)
                          · skip
                            refine z_aloadn C 0 dX11_digest_275 rfl rfl ?_
                            refine z_get C 0 (by decide) rfl rfl z_it11 31 (by decide) rfl fl_11_234 rfl dX11_digest_276 ?_
                            rw [hQ]
                            exact z_lret C hrt dX11_digest_279 (⟨fw_h, rfl, rfl, _, rfl⟩) (by omega) (by omega)
                          · skip
                            refine z_iloadn C 1 dX11_digest_248 rfl rfl ?_
                            refine z_bipush C dX11_digest_249 (by decide) ?_
                            refine z_icmp_ge (t := 275) C dX11_digest_251 (by decide) (by omega) (by omega) (fun c21 => ?_) (fun c21 => ?_)
                            · skip
                              refine z_aloadn C 0 dX11_digest_275 rfl rfl ?_
                              refine z_get C 0 (by decide) rfl rfl z_it11 31 (by decide) rfl fl_11_234 rfl dX11_digest_276 ?_
                              rw [hQ]
                              exact z_lret C hrt dX11_digest_279 (⟨fw_h, rfl, rfl, _, rfl⟩) (by omega) (by omega)
                            · skip
                              refine z_iloadn C 1 dX11_digest_254 rfl rfl ?_
                              refine z_iconst C dX11_digest_255 ?_
                              refine z_icmp_eq (t := 269) C dX11_digest_256 (by decide) (by omega) (by omega) (fun c22 => ?_) (fun c22 => ?_)
                              · skip
                                refine z_iinc (L' := [(1, z_v (i1 + 1)), (0, .ref (ad 0))]) C 1 dX11_digest_269 rfl (by decide) rfl ?_
                                refine z_goto (t := 241) C dX11_digest_272 (by decide) ?_
                                refine z_loc (L' := [(0, .ref (ad 0)), (1, z_v (i1 + 1))]) [1, 0] rfl ?_
                                exact ih241 (i1 + 1) fw_h (by omega) (by omega)
                              · skip
                                refine z_aloadn C 0 dX11_digest_259 rfl rfl ?_
                                refine z_aloadn C 0 dX11_digest_260 rfl rfl ?_
                                refine z_iloadn C 1 dX11_digest_261 rfl rfl ?_
                                refine z_callV C (cm_X11_run l i1 (by omega) (by omega)) mv_11_247 (z_atS 0 11 (by decide) rfl rfl rfl) pd_X11_run ⟨by omega, by omega⟩ ⟨by omega, by omega⟩ rfl (Nat.le_of_ble_eq_true rfl) dX11_digest_262 ?_
                                rintro _ _ _ ⟨rfl, rfl, z25, rfl, hz25⟩
                                refine z_i2l C dX11_digest_265 ?_
                                refine z_callV C (cm_X11_mix l ((z_i z25).toInt64)) mv_11_243 (z_atS 0 11 (by decide) rfl rfl rfl) pd_X11_mix ⟨by omega, by omega⟩ ⟨by omega, by omega⟩ rfl (Nat.le_of_ble_eq_true rfl) dX11_digest_266 ?_
                                rintro _ _ _ ⟨n26, rfl, rfl, rfl⟩
                                refine z_iinc (L' := [(1, z_v (i1 + 1)), (0, .ref (ad 0))]) C 1 dX11_digest_269 rfl (by decide) rfl ?_
                                refine z_goto (t := 241) C dX11_digest_272 (by decide) ?_
                                refine z_loc (L' := [(0, .ref (ad 0)), (1, z_v (i1 + 1))]) [1, 0] rfl ?_
                                exact ih241 (i1 + 1) n26 (by omega) (by omega)
                      refine z_loc (L' := [(0, .ref (ad 0)), (1, z_v 0)]) [1, 0] rfl ?_
                      exact (L241 (((9 : Int) - 0).toNat + 1)) 0 n17 (by omega) (Nat.lt_succ_self _)
                  · skip
                    refine z_iloadn C 1 dX11_digest_154 rfl rfl ?_
                    refine z_aloadn C 0 dX11_digest_155 rfl rfl ?_
                    refine z_get C 0 (by decide) rfl rfl z_it11 12 (by decide) rfl fl_11_94 rfl dX11_digest_156 ?_
                    refine z_icmp_ge (t := 223) C dX11_digest_159 (by decide) (by omega) (by omega) (fun c29 => ?_) (fun c29 => ?_)
                    · skip
                      refine z_aloadn C 0 dX11_digest_223 rfl rfl ?_
                      refine z_aloadn C 0 dX11_digest_224 rfl rfl ?_
                      refine z_get C 0 (by decide) rfl rfl z_it11 26 (by decide) rfl fl_11_83 rfl dX11_digest_225 ?_
                      refine z_if_eq (t := 235) C dX11_digest_228 (by decide) (by omega) (fun c30 => ?_) (fun c30 => ?_)
                      · skip
                        refine z_lconst (w := 0) C dX11_digest_235 (by decide) ?_
                        refine z_callV C (cm_X11_mix l (0 : Int64)) mv_11_243 (z_atS 0 11 (by decide) rfl rfl rfl) pd_X11_mix ⟨by omega, by omega⟩ ⟨by omega, by omega⟩ rfl (Nat.le_of_ble_eq_true rfl) dX11_digest_236 ?_
                        rintro _ _ _ ⟨n31, rfl, rfl, rfl⟩
                        refine z_iconst C dX11_digest_239 ?_
                        refine z_istoren (L' := [(1, z_v 0), (0, .ref (ad 0))]) C dX11_digest_240 rfl (by decide) rfl ?_
                        have L241 : ∀ (n : Nat), ∀ (i1 : Int) (fw_h : Int64), (0 ≤ i1 ∧ i1 ≤ 9) → ((9 : Int) - i1).toNat < n → z_V p l e R s m args below meth c Q D A 24 ad 3 (z_zm ad ks s_edges s_isNeeded s_explored s_states s_isMoved s_runs s_runTime s_runMoves fw_h a_machine a_from a_to a_channel a_resets a_guards a_guardOf a_limits a_limitOf a_places a_zones a_parent a_moveE a_moveF a_moves a_z a_ahead a_at a_amounts a_way a_moments a_runAt a_runClock) Y 0 0 241 [(0, .ref (ad 0)), (1, z_v i1)] [] := by
                          intro n
                          induction n with
                          | zero => intro i1 fw_h I1 hm; exact absurd hm (Nat.not_lt_zero _)
                          | succ n ih241 =>
                            intro i1 fw_h I1 hm
                            refine z_aloadn C 0 dX11_digest_241 rfl rfl ?_
                            refine z_get C 0 (by decide) rfl rfl z_it11 26 (by decide) rfl fl_11_83 rfl dX11_digest_242 ?_
                            refine z_if_eq (t := 275) C dX11_digest_245 (by decide) (by omega) (fun c34 => ?_) (fun c34 => ?_)
                            · skip
                              refine z_aloadn C 0 dX11_digest_275 rfl rfl ?_
                              refine z_get C 0 (by decide) rfl rfl z_it11 31 (by decide) rfl fl_11_234 rfl dX11_digest_276 ?_
                              rw [hQ]
                              exact z_lret C hrt dX11_digest_279 (⟨fw_h, rfl, rfl, _, rfl⟩) (by omega) (by omega)
                            · skip
                              refine z_iloadn C 1 dX11_digest_248 rfl rfl ?_
                              refine z_bipush C dX11_digest_249 (by decide) ?_
                              refine z_icmp_ge (t := 275) C dX11_digest_251 (by decide) (by omega) (by omega) (fun c35 => ?_) (fun c35 => ?_)
                              · skip
                                refine z_aloadn C 0 dX11_digest_275 rfl rfl ?_
                                refine z_get C 0 (by decide) rfl rfl z_it11 31 (by decide) rfl fl_11_234 rfl dX11_digest_276 ?_
                                rw [hQ]
                                exact z_lret C hrt dX11_digest_279 (⟨fw_h, rfl, rfl, _, rfl⟩) (by omega) (by omega)
                              · skip
                                refine z_iloadn C 1 dX11_digest_254 rfl rfl ?_
                                refine z_iconst C dX11_digest_255 ?_
                                refine z_icmp_eq (t := 269) C dX11_digest_256 (by decide) (by omega) (by omega) (fun c36 => ?_) (fun c36 => ?_)
                                · skip
                                  refine z_iinc (L' := [(1, z_v (i1 + 1)), (0, .ref (ad 0))]) C 1 dX11_digest_269 rfl (by decide) rfl ?_
                                  refine z_goto (t := 241) C dX11_digest_272 (by decide) ?_
                                  refine z_loc (L' := [(0, .ref (ad 0)), (1, z_v (i1 + 1))]) [1, 0] rfl ?_
                                  exact ih241 (i1 + 1) fw_h (by omega) (by omega)
                                · skip
                                  refine z_aloadn C 0 dX11_digest_259 rfl rfl ?_
                                  refine z_aloadn C 0 dX11_digest_260 rfl rfl ?_
                                  refine z_iloadn C 1 dX11_digest_261 rfl rfl ?_
                                  refine z_callV C (cm_X11_run l i1 (by omega) (by omega)) mv_11_247 (z_atS 0 11 (by decide) rfl rfl rfl) pd_X11_run ⟨by omega, by omega⟩ ⟨by omega, by omega⟩ rfl (Nat.le_of_ble_eq_true rfl) dX11_digest_262 ?_
                                  rintro _ _ _ ⟨rfl, rfl, z39, rfl, hz39⟩
                                  refine z_i2l C dX11_digest_265 ?_
                                  refine z_callV C (cm_X11_mix l ((z_i z39).toInt64)) mv_11_243 (z_atS 0 11 (by decide) rfl rfl rfl) pd_X11_mix ⟨by omega, by omega⟩ ⟨by omega, by omega⟩ rfl (Nat.le_of_ble_eq_true rfl) dX11_digest_266 ?_
                                  rintro _ _ _ ⟨n40, rfl, rfl, rfl⟩
                                  refine z_iinc (L' := [(1, z_v (i1 + 1)), (0, .ref (ad 0))]) C 1 dX11_digest_269 rfl (by decide) rfl ?_
                                  refine z_goto (t := 241) C dX11_digest_272 (by decide) ?_
                                  refine z_loc (L' := [(0, .ref (ad 0)), (1, z_v (i1 + 1))]) [1, 0] rfl ?_
                                  exact ih241 (i1 + 1) n40 (by omega) (by omega)
                        refine z_loc (L' := [(0, .ref (ad 0)), (1, z_v 0)]) [1, 0] rfl ?_
                        exact (L241 (((9 : Int) - 0).toNat + 1)) 0 n31 (by omega) (Nat.lt_succ_self _)
                      · skip
                        refine z_lconst (w := 1) C dX11_digest_231 (by decide) ?_
                        refine z_goto (t := 236) C dX11_digest_232 (by decide) ?_
                        refine z_callV C (cm_X11_mix l (1 : Int64)) mv_11_243 (z_atS 0 11 (by decide) rfl rfl rfl) pd_X11_mix ⟨by omega, by omega⟩ ⟨by omega, by omega⟩ rfl (Nat.le_of_ble_eq_true rfl) dX11_digest_236 ?_
                        rintro _ _ _ ⟨n43, rfl, rfl, rfl⟩
                        refine z_iconst C dX11_digest_239 ?_
                        refine z_istoren (L' := [(1, z_v 0), (0, .ref (ad 0))]) C dX11_digest_240 rfl (by decide) rfl ?_
                        have L241 : ∀ (n : Nat), ∀ (i1 : Int) (fw_h : Int64), (0 ≤ i1 ∧ i1 ≤ 9) → ((9 : Int) - i1).toNat < n → z_V p l e R s m args below meth c Q D A 24 ad 3 (z_zm ad ks s_edges s_isNeeded s_explored s_states s_isMoved s_runs s_runTime s_runMoves fw_h a_machine a_from a_to a_channel a_resets a_guards a_guardOf a_limits a_limitOf a_places a_zones a_parent a_moveE a_moveF a_moves a_z a_ahead a_at a_amounts a_way a_moments a_runAt a_runClock) Y 0 0 241 [(0, .ref (ad 0)), (1, z_v i1)] [] := by
                          intro n
                          induction n with
                          | zero => intro i1 fw_h I1 hm; exact absurd hm (Nat.not_lt_zero _)
                          | succ n ih241 =>
                            intro i1 fw_h I1 hm
                            refine z_aloadn C 0 dX11_digest_241 rfl rfl ?_
                            refine z_get C 0 (by decide) rfl rfl z_it11 26 (by decide) rfl fl_11_83 rfl dX11_digest_242 ?_
                            refine z_if_eq (t := 275) C dX11_digest_245 (by decide) (by omega) (fun c46 => ?_) (fun c46 => ?_)
                            · skip
                              refine z_aloadn C 0 dX11_digest_275 rfl rfl ?_
                              refine z_get C 0 (by decide) rfl rfl z_it11 31 (by decide) rfl fl_11_234 rfl dX11_digest_276 ?_
                              rw [hQ]
                              exact z_lret C hrt dX11_digest_279 (⟨fw_h, rfl, rfl, _, rfl⟩) (by omega) (by omega)
                            · skip
                              refine z_iloadn C 1 dX11_digest_248 rfl rfl ?_
                              refine z_bipush C dX11_digest_249 (by decide) ?_
                              refine z_icmp_ge (t := 275) C dX11_digest_251 (by decide) (by omega) (by omega) (fun c47 => ?_) (fun c47 => ?_)
                              · skip
                                refine z_aloadn C 0 dX11_digest_275 rfl rfl ?_
                                refine z_get C 0 (by decide) rfl rfl z_it11 31 (by decide) rfl fl_11_234 rfl dX11_digest_276 ?_
                                rw [hQ]
                                exact z_lret C hrt dX11_digest_279 (⟨fw_h, rfl, rfl, _, rfl⟩) (by omega) (by omega)
                              · skip
                                refine z_iloadn C 1 dX11_digest_254 rfl rfl ?_
                                refine z_iconst C dX11_digest_255 ?_
                                refine z_icmp_eq (t := 269) C dX11_digest_256 (by decide) (by omega) (by omega) (fun c48 => ?_) (fun c48 => ?_)
                                · skip
                                  refine z_iinc (L' := [(1, z_v (i1 + 1)), (0, .ref (ad 0))]) C 1 dX11_digest_269 rfl (by decide) rfl ?_
                                  refine z_goto (t := 241) C dX11_digest_272 (by decide) ?_
                                  refine z_loc (L' := [(0, .ref (ad 0)), (1, z_v (i1 + 1))]) [1, 0] rfl ?_
                                  exact ih241 (i1 + 1) fw_h (by omega) (by omega)
                                · skip
                                  refine z_aloadn C 0 dX11_digest_259 rfl rfl ?_
                                  refine z_aloadn C 0 dX11_digest_260 rfl rfl ?_
                                  refine z_iloadn C 1 dX11_digest_261 rfl rfl ?_
                                  refine z_callV C (cm_X11_run l i1 (by omega) (by omega)) mv_11_247 (z_atS 0 11 (by decide) rfl rfl rfl) pd_X11_run ⟨by omega, by omega⟩ ⟨by omega, by omega⟩ rfl (Nat.le_of_ble_eq_true rfl) dX11_digest_262 ?_
                                  rintro _ _ _ ⟨rfl, rfl, z51, rfl, hz51⟩
                                  refine z_i2l C dX11_digest_265 ?_
                                  refine z_callV C (cm_X11_mix l ((z_i z51).toInt64)) mv_11_243 (z_atS 0 11 (by decide) rfl rfl rfl) pd_X11_mix ⟨by omega, by omega⟩ ⟨by omega, by omega⟩ rfl (Nat.le_of_ble_eq_true rfl) dX11_digest_266 ?_
                                  rintro _ _ _ ⟨n52, rfl, rfl, rfl⟩
                                  refine z_iinc (L' := [(1, z_v (i1 + 1)), (0, .ref (ad 0))]) C 1 dX11_digest_269 rfl (by decide) rfl ?_
                                  refine z_goto (t := 241) C dX11_digest_272 (by decide) ?_
                                  refine z_loc (L' := [(0, .ref (ad 0)), (1, z_v (i1 + 1))]) [1, 0] rfl ?_
                                  exact ih241 (i1 + 1) n52 (by omega) (by omega)
                        refine z_loc (L' := [(0, .ref (ad 0)), (1, z_v 0)]) [1, 0] rfl ?_
                        exact (L241 (((9 : Int) - 0).toNat + 1)) 0 n43 (by omega) (Nat.lt_succ_self _)
                    · skip
                      refine z_iconst C dX11_digest_162 ?_
                      refine z_istoren (L' := [(2, z_v 0), (0, .ref (ad 0)), (1, z_v i1)]) C dX11_digest_163 rfl (by decide) rfl ?_
                      have L164 : ∀ (n : Nat), ∀ (i2 : Int) (fw_h : Int64), (0 ≤ i2 ∧ i2 ≤ 7) → ((7 : Int) - i2).toNat < n → z_V p l e R s m args below meth c Q D A 24 ad 3 (z_zm ad ks s_edges s_isNeeded s_explored s_states s_isMoved s_runs s_runTime s_runMoves fw_h a_machine a_from a_to a_channel a_resets a_guards a_guardOf a_limits a_limitOf a_places a_zones a_parent a_moveE a_moveF a_moves a_z a_ahead a_at a_amounts a_way a_moments a_runAt a_runClock) Y 0 0 164 [(0, .ref (ad 0)), (1, z_v i1), (2, z_v i2)] [] := by
                        intro n
                        induction n with
                        | zero => intro i2 fw_h I2 hm; exact absurd hm (Nat.not_lt_zero _)
                        | succ n ih164 =>
                          intro i2 fw_h I2 hm
                          refine z_iloadn C 2 dX11_digest_164 rfl rfl ?_
                          refine z_bipush C dX11_digest_165 (by decide) ?_
                          refine z_icmp_ge (t := 187) C dX11_digest_167 (by decide) (by omega) (by omega) (fun c55 => ?_) (fun c55 => ?_)
                          · skip
                            refine z_iconst C dX11_digest_187 ?_
                            refine z_istoren (L' := [(2, z_v 0), (0, .ref (ad 0)), (1, z_v i1)]) C dX11_digest_188 rfl (by decide) rfl ?_
                            have L189 : ∀ (n : Nat), ∀ (i2 : Int) (fw_h : Int64), (0 ≤ i2 ∧ i2 ≤ 16) → ((16 : Int) - i2).toNat < n → z_V p l e R s m args below meth c Q D A 24 ad 3 (z_zm ad ks s_edges s_isNeeded s_explored s_states s_isMoved s_runs s_runTime s_runMoves fw_h a_machine a_from a_to a_channel a_resets a_guards a_guardOf a_limits a_limitOf a_places a_zones a_parent a_moveE a_moveF a_moves a_z a_ahead a_at a_amounts a_way a_moments a_runAt a_runClock) Y 0 0 189 [(0, .ref (ad 0)), (1, z_v i1), (2, z_v i2)] [] := by
                              intro n
                              induction n with
                              | zero => intro i2 fw_h I2 hm; exact absurd hm (Nat.not_lt_zero _)
                              | succ n ih189 =>
                                intro i2 fw_h I2 hm
                                refine z_iloadn C 2 dX11_digest_189 rfl rfl ?_
                                refine z_bipush C dX11_digest_190 (by decide) ?_
                                refine z_icmp_ge (t := 217) C dX11_digest_192 (by decide) (by omega) (by omega) (fun c56 => ?_) (fun c56 => ?_)
                                · skip
                                  refine z_iinc (L' := [(1, z_v (i1 + 1)), (0, .ref (ad 0)), (2, z_v i2)]) C 1 dX11_digest_217 rfl (by decide) rfl ?_
                                  refine z_goto (t := 147) C dX11_digest_220 (by decide) ?_
                                  refine z_loc (L' := [(0, .ref (ad 0)), (1, z_v (i1 + 1))]) [1, 0] rfl ?_
                                  exact ih147 (i1 + 1) fw_h (by omega) (by omega)
                                · skip
                                  refine z_aloadn C 0 dX11_digest_195 rfl rfl ?_
                                  refine z_aloadn C 0 dX11_digest_196 rfl rfl ?_
                                  refine z_get C 0 (by decide) rfl rfl z_it11 14 (by decide) rfl fl_11_44 rfl dX11_digest_197 ?_
                                  refine z_bipush C dX11_digest_200 (by decide) ?_
                                  refine z_iloadn C 1 dX11_digest_202 rfl rfl ?_
                                  refine z_imul C dX11_digest_203 ?_
                                  refine z_iloadn C 2 dX11_digest_204 rfl rfl ?_
                                  refine z_iadd C dX11_digest_205 ?_
                                  refine z_iald C 11 (by decide) rfl (by decide) (by omega) (by omega) dX11_digest_206 ?_
                                  refine z_i2l C dX11_digest_207 ?_
                                  refine z_callV C (cm_X11_mix l ((z_i (a_zones (((16 * i1) + i2) : Int).toNat)).toInt64)) mv_11_243 (z_atS 0 11 (by decide) rfl rfl rfl) pd_X11_mix ⟨by omega, by omega⟩ ⟨by omega, by omega⟩ rfl (Nat.le_of_ble_eq_true rfl) dX11_digest_208 ?_
                                  rintro _ _ _ ⟨n57, rfl, rfl, rfl⟩
                                  refine z_iinc (L' := [(2, z_v (i2 + 1)), (0, .ref (ad 0)), (1, z_v i1)]) C 2 dX11_digest_211 rfl (by decide) rfl ?_
                                  refine z_goto (t := 189) C dX11_digest_214 (by decide) ?_
                                  refine z_loc (L' := [(0, .ref (ad 0)), (1, z_v i1), (2, z_v (i2 + 1))]) [1, 2, 0] rfl ?_
                                  exact ih189 (i2 + 1) n57 (by omega) (by omega)
                            refine z_loc (L' := [(0, .ref (ad 0)), (1, z_v i1), (2, z_v 0)]) [1, 2, 0] rfl ?_
                            exact (L189 (((16 : Int) - 0).toNat + 1)) 0 fw_h (by omega) (Nat.lt_succ_self _)
                          · skip
                            refine z_aloadn C 0 dX11_digest_170 rfl rfl ?_
                            refine z_aloadn C 0 dX11_digest_171 rfl rfl ?_
                            refine z_iloadn C 1 dX11_digest_172 rfl rfl ?_
                            refine z_iloadn C 2 dX11_digest_173 rfl rfl ?_
                            refine z_callV C (cm_X11_tells l i1 i2 (by omega) (by omega)) mv_11_168 (z_atS 0 11 (by decide) rfl rfl rfl) pd_X11_tells ⟨by omega, by omega⟩ ⟨by omega, by omega⟩ rfl (Nat.le_of_ble_eq_true rfl) dX11_digest_174 ?_
                            rintro _ _ _ ⟨rfl, rfl, z62, rfl, hz62⟩
                            refine z_i2l C dX11_digest_177 ?_
                            refine z_callV C (cm_X11_mix l ((z_i z62).toInt64)) mv_11_243 (z_atS 0 11 (by decide) rfl rfl rfl) pd_X11_mix ⟨by omega, by omega⟩ ⟨by omega, by omega⟩ rfl (Nat.le_of_ble_eq_true rfl) dX11_digest_178 ?_
                            rintro _ _ _ ⟨n63, rfl, rfl, rfl⟩
                            refine z_iinc (L' := [(2, z_v (i2 + 1)), (0, .ref (ad 0)), (1, z_v i1)]) C 2 dX11_digest_181 rfl (by decide) rfl ?_
                            refine z_goto (t := 164) C dX11_digest_184 (by decide) ?_
                            refine z_loc (L' := [(0, .ref (ad 0)), (1, z_v i1), (2, z_v (i2 + 1))]) [1, 2, 0] rfl ?_
                            exact ih164 (i2 + 1) n63 (by omega) (by omega)
                      refine z_loc (L' := [(0, .ref (ad 0)), (1, z_v i1), (2, z_v 0)]) [1, 2, 0] rfl ?_
                      exact (L164 (((7 : Int) - 0).toNat + 1)) 0 fw_h (by omega) (Nat.lt_succ_self _)
              refine z_loc (L' := [(0, .ref (ad 0)), (1, z_v 0)]) [1, 0] rfl ?_
              exact (L147 (((120 : Int) - 0).toNat + 1)) 0 fw_h (by omega) (Nat.lt_succ_self _)
            · skip
              refine z_aloadn C 0 dX11_digest_92 rfl rfl ?_
              refine z_aloadn C 0 dX11_digest_93 rfl rfl ?_
              refine z_get C 0 (by decide) rfl rfl z_it11 8 (by decide) rfl fl_11_31 rfl dX11_digest_94 ?_
              refine z_iloadn C 1 dX11_digest_97 rfl rfl ?_
              refine z_iald C 8 (by decide) rfl (by decide) (by omega) (by omega) dX11_digest_98 ?_
              have rx66 := Ha_limits (i1 : Int).toNat
              generalize ex66 : a_limits (i1 : Int).toNat = x66 at rx66 ⊢
              refine z_i2l C dX11_digest_99 ?_
              refine z_callV C (cm_X11_mix l ((z_i x66).toInt64)) mv_11_243 (z_atS 0 11 (by decide) rfl rfl rfl) pd_X11_mix ⟨by omega, by omega⟩ ⟨by omega, by omega⟩ rfl (Nat.le_of_ble_eq_true rfl) dX11_digest_100 ?_
              rintro _ _ _ ⟨n67, rfl, rfl, rfl⟩
              refine z_iconst C dX11_digest_103 ?_
              refine z_istoren (L' := [(2, z_v 0), (0, .ref (ad 0)), (1, z_v i1)]) C dX11_digest_104 rfl (by decide) rfl ?_
              have L105 : ∀ (n : Nat), ∀ (i2 : Int) (fw_h : Int64), (0 ≤ i2 ∧ i2 ≤ 6) → ((6 : Int) - i2).toNat < n → z_V p l e R s m args below meth c Q D A 24 ad 3 (z_zm ad ks s_edges s_isNeeded s_explored s_states s_isMoved s_runs s_runTime s_runMoves fw_h a_machine a_from a_to a_channel a_resets a_guards a_guardOf a_limits a_limitOf a_places a_zones a_parent a_moveE a_moveF a_moves a_z a_ahead a_at a_amounts a_way a_moments a_runAt a_runClock) Y 0 0 105 [(0, .ref (ad 0)), (1, z_v i1), (2, z_v i2)] [] := by
                intro n
                induction n with
                | zero => intro i2 fw_h I2 hm; exact absurd hm (Nat.not_lt_zero _)
                | succ n ih105 =>
                  intro i2 fw_h I2 hm
                  refine z_iloadn C 2 dX11_digest_105 rfl rfl ?_
                  refine z_iconst C dX11_digest_106 ?_
                  refine z_aloadn C 0 dX11_digest_107 rfl rfl ?_
                  refine z_get C 0 (by decide) rfl rfl z_it11 8 (by decide) rfl fl_11_31 rfl dX11_digest_108 ?_
                  refine z_iloadn C 1 dX11_digest_111 rfl rfl ?_
                  refine z_iald C 8 (by decide) rfl (by decide) (by omega) (by omega) dX11_digest_112 ?_
                  have rx70 := Ha_limits (i1 : Int).toNat
                  generalize ex70 : a_limits (i1 : Int).toNat = x70 at rx70 ⊢
                  refine z_imul C dX11_digest_113 ?_
                  refine z_icmp_ge (t := 139) C dX11_digest_114 (by decide) (by omega) (by omega) (fun c71 => ?_) (fun c71 => ?_)
                  · skip
                    refine z_iinc (L' := [(1, z_v (i1 + 1)), (0, .ref (ad 0)), (2, z_v i2)]) C 1 dX11_digest_139 rfl (by decide) rfl ?_
                    refine z_goto (t := 86) C dX11_digest_142 (by decide) ?_
                    refine z_loc (L' := [(0, .ref (ad 0)), (1, z_v (i1 + 1))]) [1, 0] rfl ?_
                    exact ih86 (i1 + 1) fw_h (by omega) (by omega)
                  · skip
                    refine z_aloadn C 0 dX11_digest_117 rfl rfl ?_
                    refine z_aloadn C 0 dX11_digest_118 rfl rfl ?_
                    refine z_get C 0 (by decide) rfl rfl z_it11 9 (by decide) rfl fl_11_34 rfl dX11_digest_119 ?_
                    refine z_bipush C dX11_digest_122 (by decide) ?_
                    refine z_iloadn C 1 dX11_digest_124 rfl rfl ?_
                    refine z_imul C dX11_digest_125 ?_
                    refine z_iloadn C 2 dX11_digest_126 rfl rfl ?_
                    refine z_iadd C dX11_digest_127 ?_
                    refine z_iald C 9 (by decide) rfl (by decide) (by omega) (by omega) dX11_digest_128 ?_
                    have rx72 := Ha_limitOf (((6 * i1) + i2) : Int).toNat
                    generalize ex72 : a_limitOf (((6 * i1) + i2) : Int).toNat = x72 at rx72 ⊢
                    refine z_i2l C dX11_digest_129 ?_
                    refine z_callV C (cm_X11_mix l ((z_i x72).toInt64)) mv_11_243 (z_atS 0 11 (by decide) rfl rfl rfl) pd_X11_mix ⟨by omega, by omega⟩ ⟨by omega, by omega⟩ rfl (Nat.le_of_ble_eq_true rfl) dX11_digest_130 ?_
                    rintro _ _ _ ⟨n73, rfl, rfl, rfl⟩
                    refine z_iinc (L' := [(2, z_v (i2 + 1)), (0, .ref (ad 0)), (1, z_v i1)]) C 2 dX11_digest_133 rfl (by decide) rfl ?_
                    refine z_goto (t := 105) C dX11_digest_136 (by decide) ?_
                    refine z_loc (L' := [(0, .ref (ad 0)), (1, z_v i1), (2, z_v (i2 + 1))]) [1, 2, 0] rfl ?_
                    exact ih105 (i2 + 1) n73 (by omega) (by omega)
              refine z_loc (L' := [(0, .ref (ad 0)), (1, z_v i1), (2, z_v 0)]) [1, 2, 0] rfl ?_
              exact (L105 (((6 : Int) - 0).toNat + 1)) 0 n67 (by omega) (Nat.lt_succ_self _)
        refine z_loc (L' := [(0, .ref (ad 0)), (1, z_v 0)]) [1, 0] rfl ?_
        exact (L86 (((18 : Int) - 0).toNat + 1)) 0 fw_h (by omega) (Nat.lt_succ_self _)
      · skip
        refine z_iconst C dX11_digest_17 ?_
        refine z_istoren (L' := [(2, z_v 0), (0, .ref (ad 0)), (1, z_v i1)]) C dX11_digest_18 rfl (by decide) rfl ?_
        have L19 : ∀ (n : Nat), ∀ (i2 : Int) (fw_h : Int64), (0 ≤ i2 ∧ i2 ≤ 6) → ((6 : Int) - i2).toNat < n → z_V p l e R s m args below meth c Q D A 24 ad 3 (z_zm ad ks s_edges s_isNeeded s_explored s_states s_isMoved s_runs s_runTime s_runMoves fw_h a_machine a_from a_to a_channel a_resets a_guards a_guardOf a_limits a_limitOf a_places a_zones a_parent a_moveE a_moveF a_moves a_z a_ahead a_at a_amounts a_way a_moments a_runAt a_runClock) Y 0 0 19 [(0, .ref (ad 0)), (1, z_v i1), (2, z_v i2)] [] := by
          intro n
          induction n with
          | zero => intro i2 fw_h I2 hm; exact absurd hm (Nat.not_lt_zero _)
          | succ n ih19 =>
            intro i2 fw_h I2 hm
            refine z_iloadn C 2 dX11_digest_19 rfl rfl ?_
            refine z_bipush C dX11_digest_20 (by decide) ?_
            refine z_icmp_ge (t := 42) C dX11_digest_22 (by decide) (by omega) (by omega) (fun c76 => ?_) (fun c76 => ?_)
            · skip
              refine z_iconst C dX11_digest_42 ?_
              refine z_istoren (L' := [(2, z_v 0), (0, .ref (ad 0)), (1, z_v i1)]) C dX11_digest_43 rfl (by decide) rfl ?_
              have L44 : ∀ (n : Nat), ∀ (i2 : Int) (fw_h : Int64), (0 ≤ i2 ∧ i2 ≤ 6) → ((6 : Int) - i2).toNat < n → z_V p l e R s m args below meth c Q D A 24 ad 3 (z_zm ad ks s_edges s_isNeeded s_explored s_states s_isMoved s_runs s_runTime s_runMoves fw_h a_machine a_from a_to a_channel a_resets a_guards a_guardOf a_limits a_limitOf a_places a_zones a_parent a_moveE a_moveF a_moves a_z a_ahead a_at a_amounts a_way a_moments a_runAt a_runClock) Y 0 0 44 [(0, .ref (ad 0)), (1, z_v i1), (2, z_v i2)] [] := by
                intro n
                induction n with
                | zero => intro i2 fw_h I2 hm; exact absurd hm (Nat.not_lt_zero _)
                | succ n ih44 =>
                  intro i2 fw_h I2 hm
                  refine z_iloadn C 2 dX11_digest_44 rfl rfl ?_
                  refine z_iconst C dX11_digest_45 ?_
                  refine z_aloadn C 0 dX11_digest_46 rfl rfl ?_
                  refine z_get C 0 (by decide) rfl rfl z_it11 6 (by decide) rfl fl_11_25 rfl dX11_digest_47 ?_
                  refine z_iloadn C 1 dX11_digest_50 rfl rfl ?_
                  refine z_iald C 6 (by decide) rfl (by decide) (by omega) (by omega) dX11_digest_51 ?_
                  have rx77 := Ha_guards (i1 : Int).toNat
                  generalize ex77 : a_guards (i1 : Int).toNat = x77 at rx77 ⊢
                  refine z_imul C dX11_digest_52 ?_
                  refine z_icmp_ge (t := 78) C dX11_digest_53 (by decide) (by omega) (by omega) (fun c78 => ?_) (fun c78 => ?_)
                  · skip
                    refine z_iinc (L' := [(1, z_v (i1 + 1)), (0, .ref (ad 0)), (2, z_v i2)]) C 1 dX11_digest_78 rfl (by decide) rfl ?_
                    refine z_goto (t := 9) C dX11_digest_81 (by decide) ?_
                    refine z_loc (L' := [(0, .ref (ad 0)), (1, z_v (i1 + 1))]) [1, 0] rfl ?_
                    exact ih9 (i1 + 1) fw_h (by omega) (by omega)
                  · skip
                    refine z_aloadn C 0 dX11_digest_56 rfl rfl ?_
                    refine z_aloadn C 0 dX11_digest_57 rfl rfl ?_
                    refine z_get C 0 (by decide) rfl rfl z_it11 7 (by decide) rfl fl_11_28 rfl dX11_digest_58 ?_
                    refine z_bipush C dX11_digest_61 (by decide) ?_
                    refine z_iloadn C 1 dX11_digest_63 rfl rfl ?_
                    refine z_imul C dX11_digest_64 ?_
                    refine z_iloadn C 2 dX11_digest_65 rfl rfl ?_
                    refine z_iadd C dX11_digest_66 ?_
                    refine z_iald C 7 (by decide) rfl (by decide) (by omega) (by omega) dX11_digest_67 ?_
                    have rx79 := Ha_guardOf (((6 * i1) + i2) : Int).toNat
                    generalize ex79 : a_guardOf (((6 * i1) + i2) : Int).toNat = x79 at rx79 ⊢
                    refine z_i2l C dX11_digest_68 ?_
                    refine z_callV C (cm_X11_mix l ((z_i x79).toInt64)) mv_11_243 (z_atS 0 11 (by decide) rfl rfl rfl) pd_X11_mix ⟨by omega, by omega⟩ ⟨by omega, by omega⟩ rfl (Nat.le_of_ble_eq_true rfl) dX11_digest_69 ?_
                    rintro _ _ _ ⟨n80, rfl, rfl, rfl⟩
                    refine z_iinc (L' := [(2, z_v (i2 + 1)), (0, .ref (ad 0)), (1, z_v i1)]) C 2 dX11_digest_72 rfl (by decide) rfl ?_
                    refine z_goto (t := 44) C dX11_digest_75 (by decide) ?_
                    refine z_loc (L' := [(0, .ref (ad 0)), (1, z_v i1), (2, z_v (i2 + 1))]) [1, 2, 0] rfl ?_
                    exact ih44 (i2 + 1) n80 (by omega) (by omega)
              refine z_loc (L' := [(0, .ref (ad 0)), (1, z_v i1), (2, z_v 0)]) [1, 2, 0] rfl ?_
              exact (L44 (((6 : Int) - 0).toNat + 1)) 0 fw_h (by omega) (Nat.lt_succ_self _)
            · skip
              refine z_aloadn C 0 dX11_digest_25 rfl rfl ?_
              refine z_aloadn C 0 dX11_digest_26 rfl rfl ?_
              refine z_iloadn C 1 dX11_digest_27 rfl rfl ?_
              refine z_iloadn C 2 dX11_digest_28 rfl rfl ?_
              refine z_callV C (cm_X11_about l i1 i2 (by omega) (by omega) (by omega)) mv_11_240 (z_atS 0 11 (by decide) rfl rfl rfl) pd_X11_about ⟨by omega, by omega⟩ ⟨by omega, by omega⟩ rfl (Nat.le_of_ble_eq_true rfl) dX11_digest_29 ?_
              rintro _ _ _ ⟨rfl, rfl, z85, rfl, hz85⟩
              refine z_i2l C dX11_digest_32 ?_
              refine z_callV C (cm_X11_mix l ((z_i z85).toInt64)) mv_11_243 (z_atS 0 11 (by decide) rfl rfl rfl) pd_X11_mix ⟨by omega, by omega⟩ ⟨by omega, by omega⟩ rfl (Nat.le_of_ble_eq_true rfl) dX11_digest_33 ?_
              rintro _ _ _ ⟨n86, rfl, rfl, rfl⟩
              refine z_iinc (L' := [(2, z_v (i2 + 1)), (0, .ref (ad 0)), (1, z_v i1)]) C 2 dX11_digest_36 rfl (by decide) rfl ?_
              refine z_goto (t := 19) C dX11_digest_39 (by decide) ?_
              refine z_loc (L' := [(0, .ref (ad 0)), (1, z_v i1), (2, z_v (i2 + 1))]) [1, 2, 0] rfl ?_
              exact ih19 (i2 + 1) n86 (by omega) (by omega)
        refine z_loc (L' := [(0, .ref (ad 0)), (1, z_v i1), (2, z_v 0)]) [1, 2, 0] rfl ?_
        exact (L19 (((6 : Int) - 0).toNat + 1)) 0 fw_h (by omega) (Nat.lt_succ_self _)
  refine z_loc (L' := [(0, .ref (ad 0)), (1, z_v 0)]) [1, 0] rfl ?_
  exact (L9 (((20 : Int) - 0).toNat + 1)) 0 (71 : Int64) (by omega) (Nat.lt_succ_self _)
