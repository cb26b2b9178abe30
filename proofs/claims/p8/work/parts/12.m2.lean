theorem z_nrm {p : Program} {l : Launch} {e : Env} {R : Room} {s : State} {m : MethodId} {args : Array Value} {below : List Frame} {meth : Method} {c : Code} {Q : State → Prop} {D : va_G} {A : Nat → Prop} {N : Nat} {ad : Nat → Nat} {nL : Nat} {S : Nat → va_E} {Y : Nat → Option va_E} {cells slots pc : Nat} {L : List (Nat × Value)} {st : List Value} {x : Int} (k : ∀ z, z_rg z → z_i x = z_i z → z_V p l e R s m args below meth c Q D A N ad nL S Y cells slots pc L (z_v z :: st)) : z_V p l e R s m args below meth c Q D A N ad nL S Y cells slots pc L (z_v x :: st) := by
  obtain ⟨z, h1, h2⟩ := z_norm x
  rw [show z_v x = z_v z from congrArg Value.int h2]
  exact k z h1 h2
theorem z_bitsE {x : Int32} {z : Int} (h : x = z_i z) (r : z_rg z) : x.toInt = z := by rw [h, z_to r]
set_option maxRecDepth 20000 in
theorem cm_X11_sum (l : Launch) {D : va_G} {A : Nat → Prop} {ad : Nat → Nat} {ks : z_Ks} {N : Nat} {S : Nat → va_E} {Y : Nat → Option va_E} (a b : Int) (ha : z_rg a) (hb : z_rg b) : z_Met l yX11_sum cX11_sum 2 (some .int) 0 0 0 0 D A N ad ks [z_v a, z_v b] S Y (fun r S' Y' => S' = S ∧ Y = Y' ∧ ∃ z : Int, r = some (z_v z) ∧ (z_rg z)) := by
  refine z_start2 (by decide) (Nat.le_of_ble_eq_true rfl) ?_
  intro p e R s m args below meth c Q C hRf hRc hRs hRl hQ hrt hnm
  refine z_loc (L' := [(0, z_v a), (1, z_v b)]) [0, 1] rfl ?_
  refine z_iloadn C 0 dX11_sum_0 rfl rfl ?_
  refine z_ldc (n := 100000) C kc_11_113 (by decide) dX11_sum_1 ?_
  refine z_icmp_eq (t := 12) C dX11_sum_3 (by decide) (by omega) (by omega) (fun c1 => ?_) (fun c1 => ?_)
  · skip
    refine z_ldc (n := 100000) C kc_11_113 (by decide) dX11_sum_12 ?_
    rw [hQ]
    exact z_iret C hrt dX11_sum_14 (⟨rfl, rfl, _, rfl, by omega⟩) (by omega) (by omega)
  · skip
    refine z_iloadn C 1 dX11_sum_6 rfl rfl ?_
    refine z_ldc (n := 100000) C kc_11_113 (by decide) dX11_sum_7 ?_
    refine z_icmp_ne (t := 15) C dX11_sum_9 (by decide) (by omega) (by omega) (fun c2 => ?_) (fun c2 => ?_)
    · skip
      refine z_iconst C dX11_sum_15 ?_
      refine z_iloadn C 0 dX11_sum_16 rfl rfl ?_
      refine z_iconst C dX11_sum_17 ?_
      obtain ⟨b3, hb3, rb3⟩ := z_bits (z_i a >>> (z_i 1 &&& 31))
      refine z_ishr C hb3 dX11_sum_18 ?_
      have qb3 := z_bitsE hb3 rb3
      refine z_iloadn C 1 dX11_sum_19 rfl rfl ?_
      refine z_iconst C dX11_sum_20 ?_
      obtain ⟨b4, hb4, rb4⟩ := z_bits (z_i b >>> (z_i 1 &&& 31))
      refine z_ishr C hb4 dX11_sum_21 ?_
      have qb4 := z_bitsE hb4 rb4
      refine z_iadd C dX11_sum_22 ?_
      refine z_imul C dX11_sum_23 ?_
      refine z_iloadn C 0 dX11_sum_24 rfl rfl ?_
      refine z_iloadn C 1 dX11_sum_25 rfl rfl ?_
      obtain ⟨b5, hb5, rb5⟩ := z_bits (z_i a &&& z_i b)
      refine z_iand C hb5 dX11_sum_26 ?_
      have qb5 := z_bitsE hb5 rb5
      refine z_iconst C dX11_sum_27 ?_
      obtain ⟨b6, hb6, rb6⟩ := z_bits (z_i b5 &&& z_i 1)
      refine z_iand C hb6 dX11_sum_28 ?_
      have qb6 := z_bitsE hb6 rb6
      refine z_iadd C dX11_sum_29 ?_
      refine z_nrm (fun n1 rn1 en1 => ?_)
      rw [hQ]
      exact z_iret C hrt dX11_sum_30 (⟨rfl, rfl, _, rfl, by omega⟩) (by omega) (by omega)
    · skip
      refine z_ldc (n := 100000) C kc_11_113 (by decide) dX11_sum_12 ?_
      rw [hQ]
      exact z_iret C hrt dX11_sum_14 (⟨rfl, rfl, _, rfl, by omega⟩) (by omega) (by omega)
set_option maxRecDepth 20000 in
theorem cm_X11_close (l : Launch) {D : va_G} {A : Nat → Prop} {ad : Nat → Nat} {ks : z_Ks} {s_edges s_isNeeded s_explored s_states s_isMoved s_runs s_runTime s_runMoves : Int} {w_h : Int64} {a_machine a_from a_to a_channel a_resets a_guards a_guardOf a_limits a_limitOf a_places a_zones a_parent a_moveE a_moveF a_moves a_z a_ahead a_at a_amounts a_way a_moments a_runAt a_runClock : Nat → Int} {Y : Nat → Option va_E} (Ha_z : (∀ j, z_rg (a_z j))) : z_Met l yX11_close cX11_close 5 (some .boolean) 1 21 0 0 D A 24 ad ks [.ref (ad 0)] (z_zm ad ks s_edges s_isNeeded s_explored s_states s_isMoved s_runs s_runTime s_runMoves w_h a_machine a_from a_to a_channel a_resets a_guards a_guardOf a_limits a_limitOf a_places a_zones a_parent a_moveE a_moveF a_moves a_z a_ahead a_at a_amounts a_way a_moments a_runAt a_runClock) Y (fun r S' Y' => ∃ na_z : Nat → Int, S' = (z_zm ad ks s_edges s_isNeeded s_explored s_states s_isMoved s_runs s_runTime s_runMoves w_h a_machine a_from a_to a_channel a_resets a_guards a_guardOf a_limits a_limitOf a_places a_zones a_parent a_moveE a_moveF a_moves na_z a_ahead a_at a_amounts a_way a_moments a_runAt a_runClock) ∧ Y = Y' ∧ (∀ j, z_rg (na_z j)) ∧ ∃ z : Int, r = some (z_v z) ∧ (z = 0 ∨ z = 1)) := by
  refine z_start2 (by decide) (Nat.le_of_ble_eq_true rfl) ?_
  intro p e R s m args below meth c Q C hRf hRc hRs hRl hQ hrt hnm
  refine z_loc (L' := [(0, .ref (ad 0))]) [0] rfl ?_
  refine z_iconst C dX11_close_0 ?_
  refine z_istoren (L' := [(1, z_v 0), (0, .ref (ad 0))]) C dX11_close_1 rfl (by decide) rfl ?_
  have L2 : ∀ (n : Nat), ∀ (i1 : Int) (fa_z : Nat → Int), ((∀ j, z_rg (fa_z j))) → (0 ≤ i1 ∧ i1 ≤ 4) → ((4 : Int) - i1).toNat < n → z_V p l e R s m args below meth c Q D A 24 ad 5 (z_zm ad ks s_edges s_isNeeded s_explored s_states s_isMoved s_runs s_runTime s_runMoves w_h a_machine a_from a_to a_channel a_resets a_guards a_guardOf a_limits a_limitOf a_places a_zones a_parent a_moveE a_moveF a_moves fa_z a_ahead a_at a_amounts a_way a_moments a_runAt a_runClock) Y 0 0 2 [(0, .ref (ad 0)), (1, z_v i1)] [] := by
    intro n
    induction n with
    | zero => intro i1 fa_z Hfa_z I1 hm; exact absurd hm (Nat.not_lt_zero _)
    | succ n ih2 =>
      intro i1 fa_z Hfa_z I1 hm
      refine z_iloadn C 1 dX11_close_2 rfl rfl ?_
      refine z_iconst C dX11_close_3 ?_
      refine z_icmp_ge (t := 104) C dX11_close_4 (by decide) (by omega) (by omega) (fun c1 => ?_) (fun c1 => ?_)
      · skip
        refine z_iconst C dX11_close_104 ?_
        refine z_istoren (L' := [(1, z_v 1), (0, .ref (ad 0))]) C dX11_close_105 rfl (by decide) rfl ?_
        refine z_iconst C dX11_close_106 ?_
        refine z_istoren (L' := [(2, z_v 0), (1, z_v 1), (0, .ref (ad 0))]) C dX11_close_107 rfl (by decide) rfl ?_
        have L108 : ∀ (n : Nat), ∀ (i1 : Int) (i2 : Int) (fa_z : Nat → Int), ((∀ j, z_rg (fa_z j))) → (0 ≤ i2 ∧ i2 ≤ 4) → (i1 = 0 ∨ i1 = 1) → ((4 : Int) - i2).toNat < n → z_V p l e R s m args below meth c Q D A 24 ad 5 (z_zm ad ks s_edges s_isNeeded s_explored s_states s_isMoved s_runs s_runTime s_runMoves w_h a_machine a_from a_to a_channel a_resets a_guards a_guardOf a_limits a_limitOf a_places a_zones a_parent a_moveE a_moveF a_moves fa_z a_ahead a_at a_amounts a_way a_moments a_runAt a_runClock) Y 0 0 108 [(0, .ref (ad 0)), (1, z_v i1), (2, z_v i2)] [] := by
          intro n
          induction n with
          | zero => intro i1 i2 fa_z Hfa_z I2 B1 hm; exact absurd hm (Nat.not_lt_zero _)
          | succ n ih108 =>
            intro i1 i2 fa_z Hfa_z I2 B1 hm
            refine z_iloadn C 2 dX11_close_108 rfl rfl ?_
            refine z_iconst C dX11_close_109 ?_
            refine z_icmp_ge (t := 141) C dX11_close_110 (by decide) (by omega) (by omega) (fun c2 => ?_) (fun c2 => ?_)
            · skip
              refine z_iloadn C 1 dX11_close_141 rfl rfl ?_
              rw [hQ]
              exact z_zret C hrt (by omega) dX11_close_142 (⟨fa_z, rfl, rfl, Hfa_z, _, rfl, by omega⟩) (by omega) (by omega)
            · skip
              refine z_iloadn C 1 dX11_close_113 rfl rfl ?_
              refine z_if_eq (t := 133) C dX11_close_114 (by decide) (by omega) (fun c3 => ?_) (fun c3 => ?_)
              · skip
                refine z_iconst C dX11_close_133 ?_
                refine z_istoren (L' := [(1, z_v 0), (0, .ref (ad 0)), (2, z_v i2)]) C dX11_close_134 rfl (by decide) rfl ?_
                refine z_iinc (L' := [(2, z_v (i2 + 1)), (1, z_v 0), (0, .ref (ad 0))]) C 2 dX11_close_135 rfl (by decide) rfl ?_
                refine z_goto (t := 108) C dX11_close_138 (by decide) ?_
                refine z_loc (L' := [(0, .ref (ad 0)), (1, z_v 0), (2, z_v (i2 + 1))]) [2, 1, 0] rfl ?_
                exact ih108 0 (i2 + 1) fa_z Hfa_z (by omega) (by omega) (by omega)
              · skip
                refine z_aloadn C 0 dX11_close_117 rfl rfl ?_
                refine z_get C 0 (by decide) rfl rfl z_it11 19 (by decide) rfl fl_11_59 rfl dX11_close_118 ?_
                refine z_iconst C dX11_close_121 ?_
                refine z_iloadn C 2 dX11_close_122 rfl rfl ?_
                refine z_imul C dX11_close_123 ?_
                refine z_iald C 16 (by decide) rfl (by decide) (by omega) (by omega) dX11_close_124 ?_
                have rx4 := Hfa_z ((5 * i2) : Int).toNat
                generalize ex4 : fa_z ((5 * i2) : Int).toNat = x4 at rx4 ⊢
                refine z_iconst C dX11_close_125 ?_
                refine z_icmp_ne (t := 133) C dX11_close_126 (by decide) (by omega) (by omega) (fun c5 => ?_) (fun c5 => ?_)
                · skip
                  refine z_iconst C dX11_close_133 ?_
                  refine z_istoren (L' := [(1, z_v 0), (0, .ref (ad 0)), (2, z_v i2)]) C dX11_close_134 rfl (by decide) rfl ?_
                  refine z_iinc (L' := [(2, z_v (i2 + 1)), (1, z_v 0), (0, .ref (ad 0))]) C 2 dX11_close_135 rfl (by decide) rfl ?_
                  refine z_goto (t := 108) C dX11_close_138 (by decide) ?_
                  refine z_loc (L' := [(0, .ref (ad 0)), (1, z_v 0), (2, z_v (i2 + 1))]) [2, 1, 0] rfl ?_
                  exact ih108 0 (i2 + 1) fa_z Hfa_z (by omega) (by omega) (by omega)
                · skip
                  refine z_iconst C dX11_close_129 ?_
                  refine z_goto (t := 134) C dX11_close_130 (by decide) ?_
                  refine z_istoren (L' := [(1, z_v 1), (0, .ref (ad 0)), (2, z_v i2)]) C dX11_close_134 rfl (by decide) rfl ?_
                  refine z_iinc (L' := [(2, z_v (i2 + 1)), (1, z_v 1), (0, .ref (ad 0))]) C 2 dX11_close_135 rfl (by decide) rfl ?_
                  refine z_goto (t := 108) C dX11_close_138 (by decide) ?_
                  refine z_loc (L' := [(0, .ref (ad 0)), (1, z_v 1), (2, z_v (i2 + 1))]) [2, 1, 0] rfl ?_
                  exact ih108 1 (i2 + 1) fa_z Hfa_z (by omega) (by omega) (by omega)
        refine z_loc (L' := [(0, .ref (ad 0)), (1, z_v 1), (2, z_v 0)]) [2, 1, 0] rfl ?_
        exact (L108 (((4 : Int) - 0).toNat + 1)) 1 0 fa_z Hfa_z (by omega) (by omega) (Nat.lt_succ_self _)
      · skip
        refine z_iconst C dX11_close_7 ?_
        refine z_istoren (L' := [(2, z_v 0), (0, .ref (ad 0)), (1, z_v i1)]) C dX11_close_8 rfl (by decide) rfl ?_
        have L9 : ∀ (n : Nat), ∀ (i2 : Int) (fa_z : Nat → Int), ((∀ j, z_rg (fa_z j))) → (0 ≤ i2 ∧ i2 ≤ 4) → ((4 : Int) - i2).toNat < n → z_V p l e R s m args below meth c Q D A 24 ad 5 (z_zm ad ks s_edges s_isNeeded s_explored s_states s_isMoved s_runs s_runTime s_runMoves w_h a_machine a_from a_to a_channel a_resets a_guards a_guardOf a_limits a_limitOf a_places a_zones a_parent a_moveE a_moveF a_moves fa_z a_ahead a_at a_amounts a_way a_moments a_runAt a_runClock) Y 0 0 9 [(0, .ref (ad 0)), (1, z_v i1), (2, z_v i2)] [] := by
          intro n
          induction n with
          | zero => intro i2 fa_z Hfa_z I2 hm; exact absurd hm (Nat.not_lt_zero _)
          | succ n ih9 =>
            intro i2 fa_z Hfa_z I2 hm
            refine z_iloadn C 2 dX11_close_9 rfl rfl ?_
            refine z_iconst C dX11_close_10 ?_
            refine z_icmp_ge (t := 98) C dX11_close_11 (by decide) (by omega) (by omega) (fun c6 => ?_) (fun c6 => ?_)
            · skip
              refine z_iinc (L' := [(1, z_v (i1 + 1)), (0, .ref (ad 0)), (2, z_v i2)]) C 1 dX11_close_98 rfl (by decide) rfl ?_
              refine z_goto (t := 2) C dX11_close_101 (by decide) ?_
              refine z_loc (L' := [(0, .ref (ad 0)), (1, z_v (i1 + 1))]) [1, 0] rfl ?_
              exact ih2 (i1 + 1) fa_z Hfa_z (by omega) (by omega)
            · skip
              refine z_iconst C dX11_close_14 ?_
              refine z_istoren (L' := [(3, z_v 0), (0, .ref (ad 0)), (1, z_v i1), (2, z_v i2)]) C dX11_close_15 rfl (by decide) rfl ?_
              have L16 : ∀ (n : Nat), ∀ (i3 : Int) (fa_z : Nat → Int), ((∀ j, z_rg (fa_z j))) → (0 ≤ i3 ∧ i3 ≤ 4) → ((4 : Int) - i3).toNat < n → z_V p l e R s m args below meth c Q D A 24 ad 5 (z_zm ad ks s_edges s_isNeeded s_explored s_states s_isMoved s_runs s_runTime s_runMoves w_h a_machine a_from a_to a_channel a_resets a_guards a_guardOf a_limits a_limitOf a_places a_zones a_parent a_moveE a_moveF a_moves fa_z a_ahead a_at a_amounts a_way a_moments a_runAt a_runClock) Y 0 0 16 [(0, .ref (ad 0)), (1, z_v i1), (2, z_v i2), (3, z_v i3)] [] := by
                intro n
                induction n with
                | zero => intro i3 fa_z Hfa_z I3 hm; exact absurd hm (Nat.not_lt_zero _)
                | succ n ih16 =>
                  intro i3 fa_z Hfa_z I3 hm
                  refine z_iloadn C 3 dX11_close_16 rfl rfl ?_
                  refine z_iconst C dX11_close_17 ?_
                  refine z_icmp_ge (t := 92) C dX11_close_18 (by decide) (by omega) (by omega) (fun c7 => ?_) (fun c7 => ?_)
                  · skip
                    refine z_iinc (L' := [(2, z_v (i2 + 1)), (0, .ref (ad 0)), (1, z_v i1), (3, z_v i3)]) C 2 dX11_close_92 rfl (by decide) rfl ?_
                    refine z_goto (t := 9) C dX11_close_95 (by decide) ?_
                    refine z_loc (L' := [(0, .ref (ad 0)), (1, z_v i1), (2, z_v (i2 + 1))]) [1, 2, 0] rfl ?_
                    exact ih9 (i2 + 1) fa_z Hfa_z (by omega) (by omega)
                  · skip
                    refine z_aloadn C 0 dX11_close_21 rfl rfl ?_
                    refine z_get C 0 (by decide) rfl rfl z_it11 19 (by decide) rfl fl_11_59 rfl dX11_close_22 ?_
                    refine z_iconst C dX11_close_25 ?_
                    refine z_iloadn C 2 dX11_close_26 rfl rfl ?_
                    refine z_imul C dX11_close_27 ?_
                    refine z_iloadn C 1 dX11_close_28 rfl rfl ?_
                    refine z_iadd C dX11_close_29 ?_
                    refine z_iald C 16 (by decide) rfl (by decide) (by omega) (by omega) dX11_close_30 ?_
                    have rx8 := Hfa_z (((4 * i2) + i1) : Int).toNat
                    generalize ex8 : fa_z (((4 * i2) + i1) : Int).toNat = x8 at rx8 ⊢
                    refine z_aloadn C 0 dX11_close_31 rfl rfl ?_
                    refine z_get C 0 (by decide) rfl rfl z_it11 19 (by decide) rfl fl_11_59 rfl dX11_close_32 ?_
                    refine z_iconst C dX11_close_35 ?_
                    refine z_iloadn C 1 dX11_close_36 rfl rfl ?_
                    refine z_imul C dX11_close_37 ?_
                    refine z_iloadn C 3 dX11_close_38 rfl rfl ?_
                    refine z_iadd C dX11_close_39 ?_
                    refine z_iald C 16 (by decide) rfl (by decide) (by omega) (by omega) dX11_close_40 ?_
                    have rx9 := Hfa_z (((4 * i1) + i3) : Int).toNat
                    generalize ex9 : fa_z (((4 * i1) + i3) : Int).toNat = x9 at rx9 ⊢
                    refine z_callS C (cm_X11_sum l x8 x9 (by omega) (by omega)) mv_11_114 pd_X11_sum ⟨by omega, by omega⟩ ⟨by omega, by omega⟩ rfl (Nat.le_of_ble_eq_true rfl) dX11_close_41 ?_
                    rintro _ _ _ ⟨rfl, rfl, z12, rfl, hz12⟩
                    refine z_istore (L' := [(4, z_v z12), (0, .ref (ad 0)), (1, z_v i1), (2, z_v i2), (3, z_v i3)]) C dX11_close_44 (by decide) rfl ?_
                    refine z_aloadn C 1 dX11_close_46 rfl rfl ?_
                    refine z_get C 0 (by decide) rfl rfl z_it11 19 (by decide) rfl fl_11_59 rfl dX11_close_47 ?_
                    refine z_iconst C dX11_close_50 ?_
                    refine z_iloadn C 3 dX11_close_51 rfl rfl ?_
                    refine z_imul C dX11_close_52 ?_
                    refine z_iloadn C 4 dX11_close_53 rfl rfl ?_
                    refine z_iadd C dX11_close_54 ?_
                    refine z_iload C 0 dX11_close_55 rfl ?_
                    refine z_aloadn C 1 dX11_close_57 rfl rfl ?_
                    refine z_get C 0 (by decide) rfl rfl z_it11 19 (by decide) rfl fl_11_59 rfl dX11_close_58 ?_
                    refine z_iconst C dX11_close_61 ?_
                    refine z_iloadn C 3 dX11_close_62 rfl rfl ?_
                    refine z_imul C dX11_close_63 ?_
                    refine z_iloadn C 4 dX11_close_64 rfl rfl ?_
                    refine z_iadd C dX11_close_65 ?_
                    refine z_iald C 16 (by decide) rfl (by decide) (by omega) (by omega) dX11_close_66 ?_
                    have rx13 := Hfa_z (((4 * i2) + i3) : Int).toNat
                    generalize ex13 : fa_z (((4 * i2) + i3) : Int).toNat = x13 at rx13 ⊢
                    refine z_icmp_ge (t := 75) C dX11_close_67 (by decide) (by omega) (by omega) (fun c14 => ?_) (fun c14 => ?_)
                    · skip
                      refine z_aloadn C 1 dX11_close_75 rfl rfl ?_
                      refine z_get C 0 (by decide) rfl rfl z_it11 19 (by decide) rfl fl_11_59 rfl dX11_close_76 ?_
                      refine z_iconst C dX11_close_79 ?_
                      refine z_iloadn C 3 dX11_close_80 rfl rfl ?_
                      refine z_imul C dX11_close_81 ?_
                      refine z_iloadn C 4 dX11_close_82 rfl rfl ?_
                      refine z_iadd C dX11_close_83 ?_
                      refine z_iald C 16 (by decide) rfl (by decide) (by omega) (by omega) dX11_close_84 ?_
                      rw [ex13]
                      refine z_iast C 16 (by decide) rfl (by decide) (by omega) (by omega) dX11_close_85 ?_
                      refine z_ext (S' := (z_zm ad ks s_edges s_isNeeded s_explored s_states s_isMoved s_runs s_runTime s_runMoves w_h a_machine a_from a_to a_channel a_resets a_guards a_guardOf a_limits a_limitOf a_places a_zones a_parent a_moveE a_moveF a_moves (va_up fa_z (((4 * i2) + i3) : Int).toNat x13) a_ahead a_at a_amounts a_way a_moments a_runAt a_runClock)) upM_a_z ?_
                      have h15 : ∀ j, z_rg ((va_up fa_z (((4 * i2) + i3) : Int).toNat x13) j) := z_upP (P := fun j v => z_rg (v)) Hfa_z (by omega)
                      generalize (va_up fa_z (((4 * i2) + i3) : Int).toNat x13) = f16 at h15 ⊢
                      refine z_iinc (L' := [(3, z_v (i3 + 1)), (4, z_v z12), (0, .ref (ad 0)), (1, z_v i1), (2, z_v i2)]) C 4 dX11_close_86 rfl (by decide) rfl ?_
                      refine z_goto (t := 16) C dX11_close_89 (by decide) ?_
                      refine z_loc (L' := [(0, .ref (ad 0)), (1, z_v i1), (2, z_v i2), (3, z_v (i3 + 1))]) [2, 3, 4, 0] rfl ?_
                      exact ih16 (i3 + 1) f16 h15 (by omega) (by omega)
                    · skip
                      refine z_iload C 0 dX11_close_70 rfl ?_
                      refine z_goto (t := 85) C dX11_close_72 (by decide) ?_
                      refine z_iast C 16 (by decide) rfl (by decide) (by omega) (by omega) dX11_close_85 ?_
                      refine z_ext (S' := (z_zm ad ks s_edges s_isNeeded s_explored s_states s_isMoved s_runs s_runTime s_runMoves w_h a_machine a_from a_to a_channel a_resets a_guards a_guardOf a_limits a_limitOf a_places a_zones a_parent a_moveE a_moveF a_moves (va_up fa_z (((4 * i2) + i3) : Int).toNat z12) a_ahead a_at a_amounts a_way a_moments a_runAt a_runClock)) upM_a_z ?_
                      have h17 : ∀ j, z_rg ((va_up fa_z (((4 * i2) + i3) : Int).toNat z12) j) := z_upP (P := fun j v => z_rg (v)) Hfa_z (by omega)
                      generalize (va_up fa_z (((4 * i2) + i3) : Int).toNat z12) = f18 at h17 ⊢
                      refine z_iinc (L' := [(3, z_v (i3 + 1)), (4, z_v z12), (0, .ref (ad 0)), (1, z_v i1), (2, z_v i2)]) C 4 dX11_close_86 rfl (by decide) rfl ?_
                      refine z_goto (t := 16) C dX11_close_89 (by decide) ?_
                      refine z_loc (L' := [(0, .ref (ad 0)), (1, z_v i1), (2, z_v i2), (3, z_v (i3 + 1))]) [2, 3, 4, 0] rfl ?_
                      exact ih16 (i3 + 1) f18 h17 (by omega) (by omega)
              refine z_loc (L' := [(0, .ref (ad 0)), (1, z_v i1), (2, z_v i2), (3, z_v 0)]) [1, 2, 3, 0] rfl ?_
              exact (L16 (((4 : Int) - 0).toNat + 1)) 0 fa_z Hfa_z (by omega) (Nat.lt_succ_self _)
        refine z_loc (L' := [(0, .ref (ad 0)), (1, z_v i1), (2, z_v 0)]) [1, 2, 0] rfl ?_
        exact (L9 (((4 : Int) - 0).toNat + 1)) 0 fa_z Hfa_z (by omega) (Nat.lt_succ_self _)
  refine z_loc (L' := [(0, .ref (ad 0)), (1, z_v 0)]) [1, 0] rfl ?_
  exact (L2 (((4 : Int) - 0).toNat + 1)) 0 a_z Ha_z (by omega) (Nat.lt_succ_self _)
set_option maxRecDepth 20000 in
theorem cm_X11_bind (l : Launch) {D : va_G} {A : Nat → Prop} {ad : Nat → Nat} {ks : z_Ks} {s_edges s_isNeeded s_explored s_states s_isMoved s_runs s_runTime s_runMoves : Int} {w_h : Int64} {a_machine a_from a_to a_channel a_resets a_guards a_guardOf a_limits a_limitOf a_places a_zones a_parent a_moveE a_moveF a_moves a_z a_ahead a_at a_amounts a_way a_moments a_runAt a_runClock : Nat → Int} {Y : Nat → Option va_E} (x y b : Int) (Ha_z : (∀ j, z_rg (a_z j))) (hx : 0 ≤ x ∧ x ≤ 3) (hy : 0 ≤ y ∧ y ≤ 3) (hb : z_rg b) : z_Met l yX11_bind cX11_bind 4 none 0 0 0 0 D A 24 ad ks [.ref (ad 0), z_v x, z_v y, z_v b] (z_zm ad ks s_edges s_isNeeded s_explored s_states s_isMoved s_runs s_runTime s_runMoves w_h a_machine a_from a_to a_channel a_resets a_guards a_guardOf a_limits a_limitOf a_places a_zones a_parent a_moveE a_moveF a_moves a_z a_ahead a_at a_amounts a_way a_moments a_runAt a_runClock) Y (fun r S' Y' => ∃ na_z : Nat → Int, S' = (z_zm ad ks s_edges s_isNeeded s_explored s_states s_isMoved s_runs s_runTime s_runMoves w_h a_machine a_from a_to a_channel a_resets a_guards a_guardOf a_limits a_limitOf a_places a_zones a_parent a_moveE a_moveF a_moves na_z a_ahead a_at a_amounts a_way a_moments a_runAt a_runClock) ∧ Y = Y' ∧ (∀ j, z_rg (na_z j)) ∧ r = none) := by
  refine z_start2 (by decide) (Nat.le_of_ble_eq_true rfl) ?_
  intro p e R s m args below meth c Q C hRf hRc hRs hRl hQ hrt hnm
  refine z_loc (L' := [(0, .ref (ad 0)), (1, z_v x), (2, z_v y), (3, z_v b)]) [0, 1, 2, 3] rfl ?_
  refine z_aloadn C 0 dX11_bind_0 rfl rfl ?_
  refine z_get C 0 (by decide) rfl rfl z_it11 19 (by decide) rfl fl_11_59 rfl dX11_bind_1 ?_
  refine z_iconst C dX11_bind_4 ?_
  refine z_iloadn C 1 dX11_bind_5 rfl rfl ?_
  refine z_imul C dX11_bind_6 ?_
  refine z_iloadn C 2 dX11_bind_7 rfl rfl ?_
  refine z_iadd C dX11_bind_8 ?_
  refine z_iloadn C 3 dX11_bind_9 rfl rfl ?_
  refine z_aloadn C 0 dX11_bind_10 rfl rfl ?_
  refine z_get C 0 (by decide) rfl rfl z_it11 19 (by decide) rfl fl_11_59 rfl dX11_bind_11 ?_
  refine z_iconst C dX11_bind_14 ?_
  refine z_iloadn C 1 dX11_bind_15 rfl rfl ?_
  refine z_imul C dX11_bind_16 ?_
  refine z_iloadn C 2 dX11_bind_17 rfl rfl ?_
  refine z_iadd C dX11_bind_18 ?_
  refine z_iald C 16 (by decide) rfl (by decide) (by omega) (by omega) dX11_bind_19 ?_
  have rx1 := Ha_z (((4 * x) + y) : Int).toNat
  generalize ex1 : a_z (((4 * x) + y) : Int).toNat = x1 at rx1 ⊢
  refine z_icmp_ge (t := 27) C dX11_bind_20 (by decide) (by omega) (by omega) (fun c2 => ?_) (fun c2 => ?_)
  · skip
    refine z_aloadn C 0 dX11_bind_27 rfl rfl ?_
    refine z_get C 0 (by decide) rfl rfl z_it11 19 (by decide) rfl fl_11_59 rfl dX11_bind_28 ?_
    refine z_iconst C dX11_bind_31 ?_
    refine z_iloadn C 1 dX11_bind_32 rfl rfl ?_
    refine z_imul C dX11_bind_33 ?_
    refine z_iloadn C 2 dX11_bind_34 rfl rfl ?_
    refine z_iadd C dX11_bind_35 ?_
    refine z_iald C 16 (by decide) rfl (by decide) (by omega) (by omega) dX11_bind_36 ?_
    rw [ex1]
    refine z_iast C 16 (by decide) rfl (by decide) (by omega) (by omega) dX11_bind_37 ?_
    refine z_ext (S' := (z_zm ad ks s_edges s_isNeeded s_explored s_states s_isMoved s_runs s_runTime s_runMoves w_h a_machine a_from a_to a_channel a_resets a_guards a_guardOf a_limits a_limitOf a_places a_zones a_parent a_moveE a_moveF a_moves (va_up a_z (((4 * x) + y) : Int).toNat x1) a_ahead a_at a_amounts a_way a_moments a_runAt a_runClock)) upM_a_z ?_
    have h3 : ∀ j, z_rg ((va_up a_z (((4 * x) + y) : Int).toNat x1) j) := z_upP (P := fun j v => z_rg (v)) Ha_z (by omega)
    generalize (va_up a_z (((4 * x) + y) : Int).toNat x1) = f4 at h3 ⊢
    rw [hQ]
    exact z_vret C hrt dX11_bind_38 (⟨f4, rfl, rfl, h3, rfl⟩) (by omega) (by omega)
  · skip
    refine z_iloadn C 3 dX11_bind_23 rfl rfl ?_
    refine z_goto (t := 37) C dX11_bind_24 (by decide) ?_
    refine z_iast C 16 (by decide) rfl (by decide) (by omega) (by omega) dX11_bind_37 ?_
    refine z_ext (S' := (z_zm ad ks s_edges s_isNeeded s_explored s_states s_isMoved s_runs s_runTime s_runMoves w_h a_machine a_from a_to a_channel a_resets a_guards a_guardOf a_limits a_limitOf a_places a_zones a_parent a_moveE a_moveF a_moves (va_up a_z (((4 * x) + y) : Int).toNat b) a_ahead a_at a_amounts a_way a_moments a_runAt a_runClock)) upM_a_z ?_
    have h5 : ∀ j, z_rg ((va_up a_z (((4 * x) + y) : Int).toNat b) j) := z_upP (P := fun j v => z_rg (v)) Ha_z (by omega)
    generalize (va_up a_z (((4 * x) + y) : Int).toNat b) = f6 at h5 ⊢
    rw [hQ]
    exact z_vret C hrt dX11_bind_38 (⟨f6, rfl, rfl, h5, rfl⟩) (by omega) (by omega)
set_option maxRecDepth 20000 in
theorem cm_X11_test (l : Launch) {D : va_G} {A : Nat → Prop} {ad : Nat → Nat} {ks : z_Ks} {s_edges s_isNeeded s_explored s_states s_isMoved s_runs s_runTime s_runMoves : Int} {w_h : Int64} {a_machine a_from a_to a_channel a_resets a_guards a_guardOf a_limits a_limitOf a_places a_zones a_parent a_moveE a_moveF a_moves a_z a_ahead a_at a_amounts a_way a_moments a_runAt a_runClock : Nat → Int} {Y : Nat → Option va_E} (x so c0 : Int) (Ha_z : (∀ j, z_rg (a_z j))) (hx : 0 ≤ x ∧ x ≤ 3) (hs : z_rg so) (hc : 0 ≤ c0 ∧ c0 ≤ 1000) : z_Met l yX11_test cX11_test 4 none 1 23 0 0 D A 24 ad ks [.ref (ad 0), z_v x, z_v so, z_v c0] (z_zm ad ks s_edges s_isNeeded s_explored s_states s_isMoved s_runs s_runTime s_runMoves w_h a_machine a_from a_to a_channel a_resets a_guards a_guardOf a_limits a_limitOf a_places a_zones a_parent a_moveE a_moveF a_moves a_z a_ahead a_at a_amounts a_way a_moments a_runAt a_runClock) Y (fun r S' Y' => ∃ na_z : Nat → Int, S' = (z_zm ad ks s_edges s_isNeeded s_explored s_states s_isMoved s_runs s_runTime s_runMoves w_h a_machine a_from a_to a_channel a_resets a_guards a_guardOf a_limits a_limitOf a_places a_zones a_parent a_moveE a_moveF a_moves na_z a_ahead a_at a_amounts a_way a_moments a_runAt a_runClock) ∧ Y = Y' ∧ (∀ j, z_rg (na_z j)) ∧ r = none) := by
  refine z_start2 (by decide) (Nat.le_of_ble_eq_true rfl) ?_
  intro p e R s m args below meth c Q C hRf hRc hRs hRl hQ hrt hnm
  refine z_loc (L' := [(0, .ref (ad 0)), (1, z_v x), (2, z_v so), (3, z_v c0)]) [0, 1, 2, 3] rfl ?_
  refine z_iloadn C 2 dX11_test_0 rfl rfl ?_
  refine z_iconst C dX11_test_1 ?_
  refine z_icmp_ge (t := 24) C dX11_test_2 (by decide) (by omega) (by omega) (fun c1 => ?_) (fun c1 => ?_)
  · skip
    refine z_iloadn C 2 dX11_test_24 rfl rfl ?_
    refine z_iconst C dX11_test_25 ?_
    refine z_icmp_le (t := 50) C dX11_test_26 (by decide) (by omega) (by omega) (fun c2 => ?_) (fun c2 => ?_)
    · skip
      rw [hQ]
      exact z_vret C hrt dX11_test_50 (⟨a_z, rfl, rfl, Ha_z, rfl⟩) (by omega) (by omega)
    · skip
      refine z_aloadn C 0 dX11_test_29 rfl rfl ?_
      refine z_iconst C dX11_test_30 ?_
      refine z_iloadn C 1 dX11_test_31 rfl rfl ?_
      refine z_bipush C dX11_test_32 (by decide) ?_
      refine z_iloadn C 3 dX11_test_34 rfl rfl ?_
      refine z_imul C dX11_test_35 ?_
      refine z_iloadn C 2 dX11_test_36 rfl rfl ?_
      refine z_iconst C dX11_test_37 ?_
      refine z_icmp_ne (t := 45) C dX11_test_38 (by decide) (by omega) (by omega) (fun c3 => ?_) (fun c3 => ?_)
      · skip
        refine z_iconst C dX11_test_45 ?_
        refine z_iadd C dX11_test_46 ?_
        refine z_callV C (cm_X11_bind l 0 x (((-2) * c0) + 1) Ha_z (by omega) (by omega) (by omega)) mv_11_118 (z_atS 0 11 (by decide) rfl rfl rfl) pd_X11_bind ⟨by omega, by omega⟩ ⟨by omega, by omega⟩ rfl (Nat.le_of_ble_eq_true rfl) dX11_test_47 ?_
        rintro _ _ _ ⟨n4, rfl, rfl, h7, rfl⟩
        rw [hQ]
        exact z_vret C hrt dX11_test_50 (⟨n4, rfl, rfl, h7, rfl⟩) (by omega) (by omega)
      · skip
        refine z_iconst C dX11_test_41 ?_
        refine z_goto (t := 46) C dX11_test_42 (by decide) ?_
        refine z_iadd C dX11_test_46 ?_
        refine z_callV C (cm_X11_bind l 0 x (((-2) * c0) + 0) Ha_z (by omega) (by omega) (by omega)) mv_11_118 (z_atS 0 11 (by decide) rfl rfl rfl) pd_X11_bind ⟨by omega, by omega⟩ ⟨by omega, by omega⟩ rfl (Nat.le_of_ble_eq_true rfl) dX11_test_47 ?_
        rintro _ _ _ ⟨n8, rfl, rfl, h11, rfl⟩
        rw [hQ]
        exact z_vret C hrt dX11_test_50 (⟨n8, rfl, rfl, h11, rfl⟩) (by omega) (by omega)
  · skip
    refine z_aloadn C 0 dX11_test_5 rfl rfl ?_
    refine z_iloadn C 1 dX11_test_6 rfl rfl ?_
    refine z_iconst C dX11_test_7 ?_
    refine z_iconst C dX11_test_8 ?_
    refine z_iloadn C 3 dX11_test_9 rfl rfl ?_
    refine z_imul C dX11_test_10 ?_
    refine z_iloadn C 2 dX11_test_11 rfl rfl ?_
    refine z_if_ne (t := 19) C dX11_test_12 (by decide) (by omega) (fun c12 => ?_) (fun c12 => ?_)
    · skip
      refine z_iconst C dX11_test_19 ?_
      refine z_iadd C dX11_test_20 ?_
      refine z_callV C (cm_X11_bind l x 0 ((2 * c0) + 1) Ha_z (by omega) (by omega) (by omega)) mv_11_118 (z_atS 0 11 (by decide) rfl rfl rfl) pd_X11_bind ⟨by omega, by omega⟩ ⟨by omega, by omega⟩ rfl (Nat.le_of_ble_eq_true rfl) dX11_test_21 ?_
      rintro _ _ _ ⟨n13, rfl, rfl, h16, rfl⟩
      refine z_iloadn C 2 dX11_test_24 rfl rfl ?_
      refine z_iconst C dX11_test_25 ?_
      refine z_icmp_le (t := 50) C dX11_test_26 (by decide) (by omega) (by omega) (fun c17 => ?_) (fun c17 => ?_)
      · skip
        rw [hQ]
        exact z_vret C hrt dX11_test_50 (⟨n13, rfl, rfl, h16, rfl⟩) (by omega) (by omega)
      · skip
        refine z_aloadn C 0 dX11_test_29 rfl rfl ?_
        refine z_iconst C dX11_test_30 ?_
        refine z_iloadn C 1 dX11_test_31 rfl rfl ?_
        refine z_bipush C dX11_test_32 (by decide) ?_
        refine z_iloadn C 3 dX11_test_34 rfl rfl ?_
        refine z_imul C dX11_test_35 ?_
        refine z_iloadn C 2 dX11_test_36 rfl rfl ?_
        refine z_iconst C dX11_test_37 ?_
        refine z_icmp_ne (t := 45) C dX11_test_38 (by decide) (by omega) (by omega) (fun c18 => ?_) (fun c18 => ?_)
        · skip
          refine z_iconst C dX11_test_45 ?_
          refine z_iadd C dX11_test_46 ?_
          refine z_callV C (cm_X11_bind l 0 x (((-2) * c0) + 1) h16 (by omega) (by omega) (by omega)) mv_11_118 (z_atS 0 11 (by decide) rfl rfl rfl) pd_X11_bind ⟨by omega, by omega⟩ ⟨by omega, by omega⟩ rfl (Nat.le_of_ble_eq_true rfl) dX11_test_47 ?_
          rintro _ _ _ ⟨n19, rfl, rfl, h22, rfl⟩
          rw [hQ]
          exact z_vret C hrt dX11_test_50 (⟨n19, rfl, rfl, h22, rfl⟩) (by omega) (by omega)
        · skip
          refine z_iconst C dX11_test_41 ?_
          refine z_goto (t := 46) C dX11_test_42 (by decide) ?_
          refine z_iadd C dX11_test_46 ?_
          refine z_callV C (cm_X11_bind l 0 x (((-2) * c0) + 0) h16 (by omega) (by omega) (by omega)) mv_11_118 (z_atS 0 11 (by decide) rfl rfl rfl) pd_X11_bind ⟨by omega, by omega⟩ ⟨by omega, by omega⟩ rfl (Nat.le_of_ble_eq_true rfl) dX11_test_47 ?_
          rintro _ _ _ ⟨n23, rfl, rfl, h26, rfl⟩
          rw [hQ]
          exact z_vret C hrt dX11_test_50 (⟨n23, rfl, rfl, h26, rfl⟩) (by omega) (by omega)
    · skip
      refine z_iconst C dX11_test_15 ?_
      refine z_goto (t := 20) C dX11_test_16 (by decide) ?_
      refine z_iadd C dX11_test_20 ?_
      refine z_callV C (cm_X11_bind l x 0 ((2 * c0) + 0) Ha_z (by omega) (by omega) (by omega)) mv_11_118 (z_atS 0 11 (by decide) rfl rfl rfl) pd_X11_bind ⟨by omega, by omega⟩ ⟨by omega, by omega⟩ rfl (Nat.le_of_ble_eq_true rfl) dX11_test_21 ?_
      rintro _ _ _ ⟨n27, rfl, rfl, h30, rfl⟩
      refine z_iloadn C 2 dX11_test_24 rfl rfl ?_
      refine z_iconst C dX11_test_25 ?_
      refine z_icmp_le (t := 50) C dX11_test_26 (by decide) (by omega) (by omega) (fun c31 => ?_) (fun c31 => ?_)
      · skip
        rw [hQ]
        exact z_vret C hrt dX11_test_50 (⟨n27, rfl, rfl, h30, rfl⟩) (by omega) (by omega)
      · skip
        refine z_aloadn C 0 dX11_test_29 rfl rfl ?_
        refine z_iconst C dX11_test_30 ?_
        refine z_iloadn C 1 dX11_test_31 rfl rfl ?_
        refine z_bipush C dX11_test_32 (by decide) ?_
        refine z_iloadn C 3 dX11_test_34 rfl rfl ?_
        refine z_imul C dX11_test_35 ?_
        refine z_iloadn C 2 dX11_test_36 rfl rfl ?_
        refine z_iconst C dX11_test_37 ?_
        refine z_icmp_ne (t := 45) C dX11_test_38 (by decide) (by omega) (by omega) (fun c32 => ?_) (fun c32 => ?_)
        · skip
          refine z_iconst C dX11_test_45 ?_
          refine z_iadd C dX11_test_46 ?_
          refine z_callV C (cm_X11_bind l 0 x (((-2) * c0) + 1) h30 (by omega) (by omega) (by omega)) mv_11_118 (z_atS 0 11 (by decide) rfl rfl rfl) pd_X11_bind ⟨by omega, by omega⟩ ⟨by omega, by omega⟩ rfl (Nat.le_of_ble_eq_true rfl) dX11_test_47 ?_
          rintro _ _ _ ⟨n33, rfl, rfl, h36, rfl⟩
          rw [hQ]
          exact z_vret C hrt dX11_test_50 (⟨n33, rfl, rfl, h36, rfl⟩) (by omega) (by omega)
        · skip
          refine z_iconst C dX11_test_41 ?_
          refine z_goto (t := 46) C dX11_test_42 (by decide) ?_
          refine z_iadd C dX11_test_46 ?_
          refine z_callV C (cm_X11_bind l 0 x (((-2) * c0) + 0) h30 (by omega) (by omega) (by omega)) mv_11_118 (z_atS 0 11 (by decide) rfl rfl rfl) pd_X11_bind ⟨by omega, by omega⟩ ⟨by omega, by omega⟩ rfl (Nat.le_of_ble_eq_true rfl) dX11_test_47 ?_
          rintro _ _ _ ⟨n37, rfl, rfl, h40, rfl⟩
          rw [hQ]
          exact z_vret C hrt dX11_test_50 (⟨n37, rfl, rfl, h40, rfl⟩) (by omega) (by omega)
