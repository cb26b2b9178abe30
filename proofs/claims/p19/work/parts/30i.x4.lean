theorem z_goB1 {fa am : Nat → Int} {r i : Int} (FG : ∀ j : Nat, (j : Int) < i → fa j = if 1 ≤ j ∧ z_btv r j ≠ 0 then 0 else am j) (hi : 1 ≤ i) (hb : z_btv r i = 1) : ∀ j : Nat, (j : Int) < i + 1 → va_up fa i.toNat 0 j = if 1 ≤ j ∧ z_btv r j ≠ 0 then 0 else am j := by
  intro j hj
  by_cases he : j = i.toNat
  · subst he
    rw [z_upS, show ((i.toNat : Nat) : Int) = i by omega, if_pos ⟨by omega, by omega⟩]
  · simp only [va_up, if_neg he]
    exact FG j (by omega)
theorem z_goB0 {fa am : Nat → Int} {r i w v : Int} (FG : ∀ j : Nat, (j : Int) < i → fa j = if 1 ≤ j ∧ z_btv r j ≠ 0 then 0 else am j) (FH : ∀ j : Nat, i ≤ (j : Int) → fa j = am j) (hi : 1 ≤ i) (hb : z_btv r i = w) (hw : ¬ w = 1) (hv : fa i.toNat = v) : ∀ j : Nat, (j : Int) < i + 1 → va_up fa i.toNat v j = if 1 ≤ j ∧ z_btv r j ≠ 0 then 0 else am j := by
  intro j hj
  by_cases he : j = i.toNat
  · subst he
    have h01 := z_btv01 r i
    rw [z_upS, show ((i.toNat : Nat) : Int) = i by omega, if_neg (fun q => q.2 (by omega)), ← hv]
    exact FH _ (by omega)
  · simp only [va_up, if_neg he]
    exact FG j (by omega)
set_option maxRecDepth 20000 in
theorem cx_X11_greatestOf (l : Launch) {D : va_G} {A : Nat → Prop} {ad : Nat → Nat} {ks : z_Ks} {s_edges s_isNeeded s_explored s_states s_isMoved s_runs s_runTime s_runMoves : Int} {w_h : Int64} {a_machine a_from a_to a_channel a_resets a_guards a_guardOf a_limits a_limitOf a_places a_zones a_parent a_moveE a_moveF a_moves a_z a_ahead a_at a_amounts a_way a_moments a_runAt a_runClock : Nat → Int} {Y : Nat → Option va_E} (x : Int) (Hs_edges : (0 ≤ s_edges ∧ s_edges ≤ 20)) (Ha_guards : (∀ j, 0 ≤ a_guards j ∧ a_guards j ≤ 2)) (Ha_guardOf : (∀ j, (j % 3 = 0 → a_guardOf j ≤ 3) ∧ 0 ≤ a_guardOf j ∧ a_guardOf j ≤ 1000)) (Ha_limits : (∀ j, 0 ≤ a_limits j ∧ a_limits j ≤ 2)) (Ha_limitOf : (∀ j, (j % 3 = 0 → a_limitOf j ≤ 3) ∧ 0 ≤ a_limitOf j ∧ a_limitOf j ≤ 1000)) (hx : z_rg x) : z_Met l yX11_greatestOf cX11_greatestOf 6 (some .int) 0 0 0 0 D A 24 ad ks [.ref (ad 0), z_v x] (z_zm ad ks s_edges s_isNeeded s_explored s_states s_isMoved s_runs s_runTime s_runMoves w_h a_machine a_from a_to a_channel a_resets a_guards a_guardOf a_limits a_limitOf a_places a_zones a_parent a_moveE a_moveF a_moves a_z a_ahead a_at a_amounts a_way a_moments a_runAt a_runClock) Y (fun r S' Y' => S' = (z_zm ad ks s_edges s_isNeeded s_explored s_states s_isMoved s_runs s_runTime s_runMoves w_h a_machine a_from a_to a_channel a_resets a_guards a_guardOf a_limits a_limitOf a_places a_zones a_parent a_moveE a_moveF a_moves a_z a_ahead a_at a_amounts a_way a_moments a_runAt a_runClock) ∧ Y = Y' ∧ ∃ z : Int, r = some (z_v z) ∧ (0 ≤ z ∧ z ≤ 1000 ∧ z_gr x s_edges a_guards a_guardOf a_limits a_limitOf z)) := by
  refine z_start2 (by decide) (Nat.le_of_ble_eq_true rfl) ?_
  intro p e R s m args below meth c Q C hRf hRc hRs hRl hQ hrt hnm
  refine z_loc (L' := [(0, .ref (ad 0)), (1, z_v x)]) [0, 1] rfl ?_
  refine z_iconst C dX11_greatestOf_0 ?_
  refine z_istoren (L' := [(2, z_v 0), (0, .ref (ad 0)), (1, z_v x)]) C dX11_greatestOf_1 rfl (by decide) rfl ?_
  refine z_iconst C dX11_greatestOf_2 ?_
  refine z_istoren (L' := [(3, z_v 0), (2, z_v 0), (0, .ref (ad 0)), (1, z_v x)]) C dX11_greatestOf_3 rfl (by decide) rfl ?_
  have L4 : ∀ (n : Nat), ∀ (i2 : Int) (i3 : Int), (z_isMax (z_ge i3 a_guards a_guardOf x) i2) → (0 ≤ i3 ∧ i3 ≤ s_edges) → (0 ≤ i2 ∧ i2 ≤ 1000) → ((s_edges : Int) - i3).toNat < n → z_V p l e R s m args below meth c Q D A 24 ad 6 (z_zm ad ks s_edges s_isNeeded s_explored s_states s_isMoved s_runs s_runTime s_runMoves w_h a_machine a_from a_to a_channel a_resets a_guards a_guardOf a_limits a_limitOf a_places a_zones a_parent a_moveE a_moveF a_moves a_z a_ahead a_at a_amounts a_way a_moments a_runAt a_runClock) Y 0 0 4 [(0, .ref (ad 0)), (1, z_v x), (2, z_v i2), (3, z_v i3)] [] := by
    intro n
    induction n with
    | zero => intro i2 i3 MX I3 I2 hm; exact absurd hm (Nat.not_lt_zero _)
    | succ n ih4 =>
      intro i2 i3 MX I3 I2 hm
      refine z_iloadn C 3 dX11_greatestOf_4 rfl rfl ?_
      refine z_aloadn C 0 dX11_greatestOf_5 rfl rfl ?_
      refine z_get C 0 (by decide) rfl rfl z_it11 0 (by decide) rfl fl_11_90 rfl dX11_greatestOf_6 ?_
      refine z_icmp_ge (t := 87) C dX11_greatestOf_9 (by decide) (by omega) (by omega) (fun c1 => ?_) (fun c1 => ?_)
      · skip
        refine z_iconst C dX11_greatestOf_87 ?_
        refine z_istoren (L' := [(3, z_v 0), (0, .ref (ad 0)), (1, z_v x), (2, z_v i2)]) C dX11_greatestOf_88 rfl (by decide) rfl ?_
        have L89 : ∀ (n : Nat), ∀ (i2 : Int) (i3 : Int), (z_isMax (fun v => z_ge s_edges a_guards a_guardOf x v ∨ z_ge i3 a_limits a_limitOf x v) i2) → (0 ≤ i3 ∧ i3 ≤ 18) → (0 ≤ i2 ∧ i2 ≤ 1000) → ((18 : Int) - i3).toNat < n → z_V p l e R s m args below meth c Q D A 24 ad 6 (z_zm ad ks s_edges s_isNeeded s_explored s_states s_isMoved s_runs s_runTime s_runMoves w_h a_machine a_from a_to a_channel a_resets a_guards a_guardOf a_limits a_limitOf a_places a_zones a_parent a_moveE a_moveF a_moves a_z a_ahead a_at a_amounts a_way a_moments a_runAt a_runClock) Y 0 0 89 [(0, .ref (ad 0)), (1, z_v x), (2, z_v i2), (3, z_v i3)] [] := by
          intro n
          induction n with
          | zero => intro i2 i3 MX I3 I2 hm; exact absurd hm (Nat.not_lt_zero _)
          | succ n ih89 =>
            intro i2 i3 MX I3 I2 hm
            refine z_iloadn C 3 dX11_greatestOf_89 rfl rfl ?_
            refine z_bipush C dX11_greatestOf_90 (by decide) ?_
            refine z_icmp_ge (t := 170) C dX11_greatestOf_92 (by decide) (by omega) (by omega) (fun c2 => ?_) (fun c2 => ?_)
            · skip
              refine z_iloadn C 2 dX11_greatestOf_170 rfl rfl ?_
              rw [hQ]
              exact z_iret C hrt dX11_greatestOf_171 (⟨rfl, rfl, _, rfl, ⟨by omega, by omega, z_mx_f MX (by omega)⟩⟩) (by omega) (by omega)
            · skip
              refine z_iconst C dX11_greatestOf_95 ?_
              refine z_istore (L' := [(4, z_v 0), (0, .ref (ad 0)), (1, z_v x), (2, z_v i2), (3, z_v i3)]) C dX11_greatestOf_96 (by decide) rfl ?_
              have L98 : ∀ (n : Nat), ∀ (i2 : Int) (i4 : Int), (i4 ≤ a_limits (i3 : Int).toNat) → (z_isMax (fun v => (z_ge s_edges a_guards a_guardOf x v ∨ z_ge i3 a_limits a_limitOf x v) ∨ z_tn i4 a_limitOf (6 * i3) x v) i2) → (0 ≤ i4 ∧ i4 ≤ 2) → (0 ≤ i2 ∧ i2 ≤ 1000) → ((2 : Int) - i4).toNat < n → z_V p l e R s m args below meth c Q D A 24 ad 6 (z_zm ad ks s_edges s_isNeeded s_explored s_states s_isMoved s_runs s_runTime s_runMoves w_h a_machine a_from a_to a_channel a_resets a_guards a_guardOf a_limits a_limitOf a_places a_zones a_parent a_moveE a_moveF a_moves a_z a_ahead a_at a_amounts a_way a_moments a_runAt a_runClock) Y 0 0 98 [(0, .ref (ad 0)), (1, z_v x), (2, z_v i2), (3, z_v i3), (4, z_v i4)] [] := by
                intro n
                induction n with
                | zero => intro i2 i4 J4 MX I4 I2 hm; exact absurd hm (Nat.not_lt_zero _)
                | succ n ih98 =>
                  intro i2 i4 J4 MX I4 I2 hm
                  refine z_iload C 4 dX11_greatestOf_98 rfl ?_
                  refine z_aloadn C 0 dX11_greatestOf_100 rfl rfl ?_
                  refine z_get C 0 (by decide) rfl rfl z_it11 8 (by decide) rfl fl_11_31 rfl dX11_greatestOf_101 ?_
                  refine z_iloadn C 3 dX11_greatestOf_104 rfl rfl ?_
                  refine z_iald C 8 (by decide) rfl (by decide) (by omega) (by omega) dX11_greatestOf_105 ?_
                  have rx3 := Ha_limits (i3 : Int).toNat
                  generalize ex3 : a_limits (i3 : Int).toNat = x3 at rx3 ⊢
                  refine z_icmp_ge (t := 164) C dX11_greatestOf_106 (by decide) (by omega) (by omega) (fun c4 => ?_) (fun c4 => ?_)
                  · skip
                    refine z_iinc (L' := [(3, z_v (i3 + 1)), (0, .ref (ad 0)), (1, z_v x), (2, z_v i2), (4, z_v i4)]) C 3 dX11_greatestOf_164 rfl (by decide) rfl ?_
                    refine z_goto (t := 89) C dX11_greatestOf_167 (by decide) ?_
                    refine z_loc (L' := [(0, .ref (ad 0)), (1, z_v x), (2, z_v i2), (3, z_v (i3 + 1))]) [1, 2, 3, 0] rfl ?_
                    exact ih89 i2 (i3 + 1) (z_mx_l MX (by omega) (by omega)) (by omega) (by omega) (by omega)
                  · skip
                    refine z_bipush C dX11_greatestOf_109 (by decide) ?_
                    refine z_iloadn C 3 dX11_greatestOf_111 rfl rfl ?_
                    refine z_imul C dX11_greatestOf_112 ?_
                    refine z_iconst C dX11_greatestOf_113 ?_
                    refine z_iload C 4 dX11_greatestOf_114 rfl ?_
                    refine z_imul C dX11_greatestOf_116 ?_
                    refine z_iadd C dX11_greatestOf_117 ?_
                    refine z_istore (L' := [(5, z_v ((6 * i3) + (3 * i4))), (0, .ref (ad 0)), (1, z_v x), (2, z_v i2), (3, z_v i3), (4, z_v i4)]) C dX11_greatestOf_118 (by decide) rfl ?_
                    refine z_aloadn C 1 dX11_greatestOf_120 rfl rfl ?_
                    refine z_get C 0 (by decide) rfl rfl z_it11 9 (by decide) rfl fl_11_34 rfl dX11_greatestOf_121 ?_
                    refine z_iload C 0 dX11_greatestOf_124 rfl ?_
                    refine z_iald C 9 (by decide) rfl (by decide) (by omega) (by omega) dX11_greatestOf_126 ?_
                    have rx5 := Ha_limitOf (((6 * i3) + (3 * i4)) : Int).toNat
                    generalize ex5 : a_limitOf (((6 * i3) + (3 * i4)) : Int).toNat = x5 at rx5 ⊢
                    refine z_iloadn C 2 dX11_greatestOf_127 rfl rfl ?_
                    refine z_icmp_ne (t := 156) C dX11_greatestOf_128 (by decide) (by omega) (by omega) (fun c6 => ?_) (fun c6 => ?_)
                    · skip
                      refine z_iloadn C 3 dX11_greatestOf_156 rfl rfl ?_
                      refine z_istoren (L' := [(2, z_v i2), (5, z_v ((6 * i3) + (3 * i4))), (0, .ref (ad 0)), (1, z_v x), (3, z_v i3), (4, z_v i4)]) C dX11_greatestOf_157 rfl (by decide) rfl ?_
                      refine z_iinc (L' := [(4, z_v (i4 + 1)), (2, z_v i2), (5, z_v ((6 * i3) + (3 * i4))), (0, .ref (ad 0)), (1, z_v x), (3, z_v i3)]) C 5 dX11_greatestOf_158 rfl (by decide) rfl ?_
                      refine z_goto (t := 98) C dX11_greatestOf_161 (by decide) ?_
                      refine z_loc (L' := [(0, .ref (ad 0)), (1, z_v x), (2, z_v i2), (3, z_v i3), (4, z_v (i4 + 1))]) [3, 4, 1, 5, 0] rfl ?_
                      exact ih98 i2 (i4 + 1) (by omega) (by first | exact z_mx_in MX (by omega) (by omega) (by omega) (by omega) | exact z_mx_no MX (by omega) (fun h => by omega)) (by omega) (by omega) (by omega)
                    · skip
                      refine z_aloadn C 1 dX11_greatestOf_131 rfl rfl ?_
                      refine z_get C 0 (by decide) rfl rfl z_it11 9 (by decide) rfl fl_11_34 rfl dX11_greatestOf_132 ?_
                      refine z_iload C 0 dX11_greatestOf_135 rfl ?_
                      refine z_iconst C dX11_greatestOf_137 ?_
                      refine z_iadd C dX11_greatestOf_138 ?_
                      refine z_iald C 9 (by decide) rfl (by decide) (by omega) (by omega) dX11_greatestOf_139 ?_
                      have rx7 := Ha_limitOf ((((6 * i3) + (3 * i4)) + 2) : Int).toNat
                      generalize ex7 : a_limitOf ((((6 * i3) + (3 * i4)) + 2) : Int).toNat = x7 at rx7 ⊢
                      refine z_iloadn C 3 dX11_greatestOf_140 rfl rfl ?_
                      refine z_icmp_le (t := 156) C dX11_greatestOf_141 (by decide) (by omega) (by omega) (fun c8 => ?_) (fun c8 => ?_)
                      · skip
                        refine z_iloadn C 3 dX11_greatestOf_156 rfl rfl ?_
                        refine z_istoren (L' := [(2, z_v i2), (5, z_v ((6 * i3) + (3 * i4))), (0, .ref (ad 0)), (1, z_v x), (3, z_v i3), (4, z_v i4)]) C dX11_greatestOf_157 rfl (by decide) rfl ?_
                        refine z_iinc (L' := [(4, z_v (i4 + 1)), (2, z_v i2), (5, z_v ((6 * i3) + (3 * i4))), (0, .ref (ad 0)), (1, z_v x), (3, z_v i3)]) C 5 dX11_greatestOf_158 rfl (by decide) rfl ?_
                        refine z_goto (t := 98) C dX11_greatestOf_161 (by decide) ?_
                        refine z_loc (L' := [(0, .ref (ad 0)), (1, z_v x), (2, z_v i2), (3, z_v i3), (4, z_v (i4 + 1))]) [3, 4, 1, 5, 0] rfl ?_
                        exact ih98 i2 (i4 + 1) (by omega) (by first | exact z_mx_in MX (by omega) (by omega) (by omega) (by omega) | exact z_mx_no MX (by omega) (fun h => by omega)) (by omega) (by omega) (by omega)
                      · skip
                        refine z_aloadn C 1 dX11_greatestOf_144 rfl rfl ?_
                        refine z_get C 0 (by decide) rfl rfl z_it11 9 (by decide) rfl fl_11_34 rfl dX11_greatestOf_145 ?_
                        refine z_iload C 0 dX11_greatestOf_148 rfl ?_
                        refine z_iconst C dX11_greatestOf_150 ?_
                        refine z_iadd C dX11_greatestOf_151 ?_
                        refine z_iald C 9 (by decide) rfl (by decide) (by omega) (by omega) dX11_greatestOf_152 ?_
                        rw [ex7]
                        refine z_goto (t := 157) C dX11_greatestOf_153 (by decide) ?_
                        refine z_istoren (L' := [(2, z_v x7), (5, z_v ((6 * i3) + (3 * i4))), (0, .ref (ad 0)), (1, z_v x), (3, z_v i3), (4, z_v i4)]) C dX11_greatestOf_157 rfl (by decide) rfl ?_
                        refine z_iinc (L' := [(4, z_v (i4 + 1)), (2, z_v x7), (5, z_v ((6 * i3) + (3 * i4))), (0, .ref (ad 0)), (1, z_v x), (3, z_v i3)]) C 5 dX11_greatestOf_158 rfl (by decide) rfl ?_
                        refine z_goto (t := 98) C dX11_greatestOf_161 (by decide) ?_
                        refine z_loc (L' := [(0, .ref (ad 0)), (1, z_v x), (2, z_v x7), (3, z_v i3), (4, z_v (i4 + 1))]) [3, 4, 1, 5, 0] rfl ?_
                        exact ih98 x7 (i4 + 1) (by omega) (by first | exact z_mx_in MX (by omega) (by omega) (by omega) (by omega) | exact z_mx_no MX (by omega) (fun h => by omega)) (by omega) (by omega) (by omega)
              refine z_loc (L' := [(0, .ref (ad 0)), (1, z_v x), (2, z_v i2), (3, z_v i3), (4, z_v 0)]) [1, 2, 3, 4, 0] rfl ?_
              exact (L98 (((2 : Int) - 0).toNat + 1)) i2 0 (by have hj4 := Ha_limits (i3 : Int).toNat; omega) (z_mx_0 MX) (by omega) (by omega) (Nat.lt_succ_self _)
        refine z_loc (L' := [(0, .ref (ad 0)), (1, z_v x), (2, z_v i2), (3, z_v 0)]) [1, 2, 3, 0] rfl ?_
        exact (L89 (((18 : Int) - 0).toNat + 1)) i2 0 (z_mx_g MX (by omega)) (by omega) (by omega) (Nat.lt_succ_self _)
      · skip
        refine z_iconst C dX11_greatestOf_12 ?_
        refine z_istore (L' := [(4, z_v 0), (0, .ref (ad 0)), (1, z_v x), (2, z_v i2), (3, z_v i3)]) C dX11_greatestOf_13 (by decide) rfl ?_
        have L15 : ∀ (n : Nat), ∀ (i2 : Int) (i4 : Int), (i4 ≤ a_guards (i3 : Int).toNat) → (z_isMax (fun v => z_ge i3 a_guards a_guardOf x v ∨ z_tn i4 a_guardOf (6 * i3) x v) i2) → (0 ≤ i4 ∧ i4 ≤ 2) → (0 ≤ i2 ∧ i2 ≤ 1000) → ((2 : Int) - i4).toNat < n → z_V p l e R s m args below meth c Q D A 24 ad 6 (z_zm ad ks s_edges s_isNeeded s_explored s_states s_isMoved s_runs s_runTime s_runMoves w_h a_machine a_from a_to a_channel a_resets a_guards a_guardOf a_limits a_limitOf a_places a_zones a_parent a_moveE a_moveF a_moves a_z a_ahead a_at a_amounts a_way a_moments a_runAt a_runClock) Y 0 0 15 [(0, .ref (ad 0)), (1, z_v x), (2, z_v i2), (3, z_v i3), (4, z_v i4)] [] := by
          intro n
          induction n with
          | zero => intro i2 i4 J4 MX I4 I2 hm; exact absurd hm (Nat.not_lt_zero _)
          | succ n ih15 =>
            intro i2 i4 J4 MX I4 I2 hm
            refine z_iload C 4 dX11_greatestOf_15 rfl ?_
            refine z_aloadn C 0 dX11_greatestOf_17 rfl rfl ?_
            refine z_get C 0 (by decide) rfl rfl z_it11 6 (by decide) rfl fl_11_25 rfl dX11_greatestOf_18 ?_
            refine z_iloadn C 3 dX11_greatestOf_21 rfl rfl ?_
            refine z_iald C 6 (by decide) rfl (by decide) (by omega) (by omega) dX11_greatestOf_22 ?_
            have rx9 := Ha_guards (i3 : Int).toNat
            generalize ex9 : a_guards (i3 : Int).toNat = x9 at rx9 ⊢
            refine z_icmp_ge (t := 81) C dX11_greatestOf_23 (by decide) (by omega) (by omega) (fun c10 => ?_) (fun c10 => ?_)
            · skip
              refine z_iinc (L' := [(3, z_v (i3 + 1)), (0, .ref (ad 0)), (1, z_v x), (2, z_v i2), (4, z_v i4)]) C 3 dX11_greatestOf_81 rfl (by decide) rfl ?_
              refine z_goto (t := 4) C dX11_greatestOf_84 (by decide) ?_
              refine z_loc (L' := [(0, .ref (ad 0)), (1, z_v x), (2, z_v i2), (3, z_v (i3 + 1))]) [1, 2, 3, 0] rfl ?_
              exact ih4 i2 (i3 + 1) (z_mx_e MX (by omega) (by omega)) (by omega) (by omega) (by omega)
            · skip
              refine z_bipush C dX11_greatestOf_26 (by decide) ?_
              refine z_iloadn C 3 dX11_greatestOf_28 rfl rfl ?_
              refine z_imul C dX11_greatestOf_29 ?_
              refine z_iconst C dX11_greatestOf_30 ?_
              refine z_iload C 4 dX11_greatestOf_31 rfl ?_
              refine z_imul C dX11_greatestOf_33 ?_
              refine z_iadd C dX11_greatestOf_34 ?_
              refine z_istore (L' := [(5, z_v ((6 * i3) + (3 * i4))), (0, .ref (ad 0)), (1, z_v x), (2, z_v i2), (3, z_v i3), (4, z_v i4)]) C dX11_greatestOf_35 (by decide) rfl ?_
              refine z_aloadn C 1 dX11_greatestOf_37 rfl rfl ?_
              refine z_get C 0 (by decide) rfl rfl z_it11 7 (by decide) rfl fl_11_28 rfl dX11_greatestOf_38 ?_
              refine z_iload C 0 dX11_greatestOf_41 rfl ?_
              refine z_iald C 7 (by decide) rfl (by decide) (by omega) (by omega) dX11_greatestOf_43 ?_
              have rx11 := Ha_guardOf (((6 * i3) + (3 * i4)) : Int).toNat
              generalize ex11 : a_guardOf (((6 * i3) + (3 * i4)) : Int).toNat = x11 at rx11 ⊢
              refine z_iloadn C 2 dX11_greatestOf_44 rfl rfl ?_
              refine z_icmp_ne (t := 73) C dX11_greatestOf_45 (by decide) (by omega) (by omega) (fun c12 => ?_) (fun c12 => ?_)
              · skip
                refine z_iloadn C 3 dX11_greatestOf_73 rfl rfl ?_
                refine z_istoren (L' := [(2, z_v i2), (5, z_v ((6 * i3) + (3 * i4))), (0, .ref (ad 0)), (1, z_v x), (3, z_v i3), (4, z_v i4)]) C dX11_greatestOf_74 rfl (by decide) rfl ?_
                refine z_iinc (L' := [(4, z_v (i4 + 1)), (2, z_v i2), (5, z_v ((6 * i3) + (3 * i4))), (0, .ref (ad 0)), (1, z_v x), (3, z_v i3)]) C 5 dX11_greatestOf_75 rfl (by decide) rfl ?_
                refine z_goto (t := 15) C dX11_greatestOf_78 (by decide) ?_
                refine z_loc (L' := [(0, .ref (ad 0)), (1, z_v x), (2, z_v i2), (3, z_v i3), (4, z_v (i4 + 1))]) [3, 4, 1, 5, 0] rfl ?_
                exact ih15 i2 (i4 + 1) (by omega) (by first | exact z_mx_in MX (by omega) (by omega) (by omega) (by omega) | exact z_mx_no MX (by omega) (fun h => by omega)) (by omega) (by omega) (by omega)
              · skip
                refine z_aloadn C 1 dX11_greatestOf_48 rfl rfl ?_
                refine z_get C 0 (by decide) rfl rfl z_it11 7 (by decide) rfl fl_11_28 rfl dX11_greatestOf_49 ?_
                refine z_iload C 0 dX11_greatestOf_52 rfl ?_
                refine z_iconst C dX11_greatestOf_54 ?_
                refine z_iadd C dX11_greatestOf_55 ?_
                refine z_iald C 7 (by decide) rfl (by decide) (by omega) (by omega) dX11_greatestOf_56 ?_
                have rx13 := Ha_guardOf ((((6 * i3) + (3 * i4)) + 2) : Int).toNat
                generalize ex13 : a_guardOf ((((6 * i3) + (3 * i4)) + 2) : Int).toNat = x13 at rx13 ⊢
                refine z_iloadn C 3 dX11_greatestOf_57 rfl rfl ?_
                refine z_icmp_le (t := 73) C dX11_greatestOf_58 (by decide) (by omega) (by omega) (fun c14 => ?_) (fun c14 => ?_)
                · skip
                  refine z_iloadn C 3 dX11_greatestOf_73 rfl rfl ?_
                  refine z_istoren (L' := [(2, z_v i2), (5, z_v ((6 * i3) + (3 * i4))), (0, .ref (ad 0)), (1, z_v x), (3, z_v i3), (4, z_v i4)]) C dX11_greatestOf_74 rfl (by decide) rfl ?_
                  refine z_iinc (L' := [(4, z_v (i4 + 1)), (2, z_v i2), (5, z_v ((6 * i3) + (3 * i4))), (0, .ref (ad 0)), (1, z_v x), (3, z_v i3)]) C 5 dX11_greatestOf_75 rfl (by decide) rfl ?_
                  refine z_goto (t := 15) C dX11_greatestOf_78 (by decide) ?_
                  refine z_loc (L' := [(0, .ref (ad 0)), (1, z_v x), (2, z_v i2), (3, z_v i3), (4, z_v (i4 + 1))]) [3, 4, 1, 5, 0] rfl ?_
                  exact ih15 i2 (i4 + 1) (by omega) (by first | exact z_mx_in MX (by omega) (by omega) (by omega) (by omega) | exact z_mx_no MX (by omega) (fun h => by omega)) (by omega) (by omega) (by omega)
                · skip
                  refine z_aloadn C 1 dX11_greatestOf_61 rfl rfl ?_
                  refine z_get C 0 (by decide) rfl rfl z_it11 7 (by decide) rfl fl_11_28 rfl dX11_greatestOf_62 ?_
                  refine z_iload C 0 dX11_greatestOf_65 rfl ?_
                  refine z_iconst C dX11_greatestOf_67 ?_
                  refine z_iadd C dX11_greatestOf_68 ?_
                  refine z_iald C 7 (by decide) rfl (by decide) (by omega) (by omega) dX11_greatestOf_69 ?_
                  rw [ex13]
                  refine z_goto (t := 74) C dX11_greatestOf_70 (by decide) ?_
                  refine z_istoren (L' := [(2, z_v x13), (5, z_v ((6 * i3) + (3 * i4))), (0, .ref (ad 0)), (1, z_v x), (3, z_v i3), (4, z_v i4)]) C dX11_greatestOf_74 rfl (by decide) rfl ?_
                  refine z_iinc (L' := [(4, z_v (i4 + 1)), (2, z_v x13), (5, z_v ((6 * i3) + (3 * i4))), (0, .ref (ad 0)), (1, z_v x), (3, z_v i3)]) C 5 dX11_greatestOf_75 rfl (by decide) rfl ?_
                  refine z_goto (t := 15) C dX11_greatestOf_78 (by decide) ?_
                  refine z_loc (L' := [(0, .ref (ad 0)), (1, z_v x), (2, z_v x13), (3, z_v i3), (4, z_v (i4 + 1))]) [3, 4, 1, 5, 0] rfl ?_
                  exact ih15 x13 (i4 + 1) (by omega) (by first | exact z_mx_in MX (by omega) (by omega) (by omega) (by omega) | exact z_mx_no MX (by omega) (fun h => by omega)) (by omega) (by omega) (by omega)
        refine z_loc (L' := [(0, .ref (ad 0)), (1, z_v x), (2, z_v i2), (3, z_v i3), (4, z_v 0)]) [1, 2, 3, 4, 0] rfl ?_
        exact (L15 (((2 : Int) - 0).toNat + 1)) i2 0 (by have hj4 := Ha_guards (i3 : Int).toNat; omega) (z_mx_0 MX) (by omega) (by omega) (Nat.lt_succ_self _)
  refine z_loc (L' := [(0, .ref (ad 0)), (1, z_v x), (2, z_v 0), (3, z_v 0)]) [2, 3, 1, 0] rfl ?_
  exact (L4 (((s_edges : Int) - 0).toNat + 1)) 0 0 (z_isMax.emp (fun v => z_ge_0)) (by omega) (by omega) (Nat.lt_succ_self _)
set_option maxRecDepth 20000 in
theorem cx_X11_greatest (l : Launch) {D : va_G} {A : Nat → Prop} {ad : Nat → Nat} {ks : z_Ks} {s_edges s_isNeeded s_explored s_states s_isMoved s_runs s_runTime s_runMoves : Int} {w_h : Int64} {a_machine a_from a_to a_channel a_resets a_guards a_guardOf a_limits a_limitOf a_places a_zones a_parent a_moveE a_moveF a_moves a_z a_ahead a_at a_amounts a_way a_moments a_runAt a_runClock : Nat → Int} {Y : Nat → Option va_E} (x : Int) (Hs_edges : (0 ≤ s_edges ∧ s_edges ≤ 20)) (Ha_guards : (∀ j, 0 ≤ a_guards j ∧ a_guards j ≤ 2)) (Ha_guardOf : (∀ j, (j % 3 = 0 → a_guardOf j ≤ 3) ∧ 0 ≤ a_guardOf j ∧ a_guardOf j ≤ 1000)) (Ha_limits : (∀ j, 0 ≤ a_limits j ∧ a_limits j ≤ 2)) (Ha_limitOf : (∀ j, (j % 3 = 0 → a_limitOf j ≤ 3) ∧ 0 ≤ a_limitOf j ∧ a_limitOf j ≤ 1000)) (hx : z_rg x) : z_Met l yX11_greatest cX11_greatest 2 (some .int) 2 42 0 0 D A 24 ad ks [.ref (ad 0), z_v x] (z_zm ad ks s_edges s_isNeeded s_explored s_states s_isMoved s_runs s_runTime s_runMoves w_h a_machine a_from a_to a_channel a_resets a_guards a_guardOf a_limits a_limitOf a_places a_zones a_parent a_moveE a_moveF a_moves a_z a_ahead a_at a_amounts a_way a_moments a_runAt a_runClock) Y (fun r S' Y' => S' = (z_zm ad ks s_edges s_isNeeded s_explored s_states s_isMoved s_runs s_runTime s_runMoves w_h a_machine a_from a_to a_channel a_resets a_guards a_guardOf a_limits a_limitOf a_places a_zones a_parent a_moveE a_moveF a_moves a_z a_ahead a_at a_amounts a_way a_moments a_runAt a_runClock) ∧ Y = Y' ∧ ∃ z : Int, r = some (z_v z) ∧ ((1 ≤ x ∧ x ≤ 3) ∧ z_gr x s_edges a_guards a_guardOf a_limits a_limitOf z ∨ ¬ (1 ≤ x ∧ x ≤ 3) ∧ z = -101)) := by
  refine z_start2 (by decide) (Nat.le_of_ble_eq_true rfl) ?_
  intro p e R s m args below meth c Q C hRf hRc hRs hRl hQ hrt hnm
  refine z_loc (L' := [(0, .ref (ad 0)), (1, z_v x)]) [0, 1] rfl ?_
  refine z_iloadn C 1 dX11_greatest_0 rfl rfl ?_
  refine z_callS C (cm_X11_isClock l x (by omega)) mv_11_110 pd_X11_isClock ⟨by omega, by omega⟩ ⟨by omega, by omega⟩ rfl (Nat.le_of_ble_eq_true rfl) dX11_greatest_1 ?_
  rintro _ _ _ ⟨rfl, rfl, z1, rfl, hz1⟩
  refine z_if_eq (t := 15) C dX11_greatest_4 (by decide) (by omega) (fun c2 => ?_) (fun c2 => ?_)
  · skip
    refine z_bipush C dX11_greatest_15 (by decide) ?_
    rw [hQ]
    exact z_iret C hrt dX11_greatest_17 (⟨rfl, rfl, _, rfl, by first | exact Or.inl ⟨by omega, hgr⟩ | exact Or.inr ⟨by omega, rfl⟩⟩) (by omega) (by omega)
  · skip
    refine z_aloadn C 0 dX11_greatest_7 rfl rfl ?_
    refine z_iloadn C 1 dX11_greatest_8 rfl rfl ?_
    refine z_callV C (cx_X11_greatestOf l x (by omega) Ha_guards Ha_guardOf Ha_limits Ha_limitOf (by omega)) mv_11_129 (z_atS 0 11 (by decide) rfl rfl rfl) pd_X11_greatestOf ⟨by omega, by omega⟩ ⟨by omega, by omega⟩ rfl (Nat.le_of_ble_eq_true rfl) dX11_greatest_9 ?_
    rintro _ _ _ ⟨rfl, rfl, z5, rfl, hz5⟩
    have hgr := hz5.2.2
    refine z_goto (t := 17) C dX11_greatest_12 (by decide) ?_
    rw [hQ]
    exact z_iret C hrt dX11_greatest_17 (⟨rfl, rfl, _, rfl, by first | exact Or.inl ⟨by omega, hgr⟩ | exact Or.inr ⟨by omega, rfl⟩⟩) (by omega) (by omega)
set_option maxRecDepth 20000 in
theorem cx_X11_passes (l : Launch) {D : va_G} {A : Nat → Prop} {ad : Nat → Nat} {ks : z_Ks} {N : Nat} {S : Nat → va_E} {Y : Nat → Option va_E} (a so c0 : Int) (ha : 0 ≤ a ∧ a ≤ 2000000) (hs : 0 ≤ so ∧ so ≤ 1000) (hc : 0 ≤ c0 ∧ c0 ≤ 1000) : z_Met l yX11_passes cX11_passes 4 (some .boolean) 0 0 0 0 D A N ad ks [z_v a, z_v so, z_v c0] S Y (fun r S' Y' => S' = S ∧ Y = Y' ∧ ∃ z : Int, r = some (z_v z) ∧ (z = 1 ∧ (z_pass a so c0) ∨ z = 0 ∧ ¬ (z_pass a so c0))) := by
  refine z_start2 (by decide) (Nat.le_of_ble_eq_true rfl) ?_
  intro p e R s m args below meth c Q C hRf hRc hRs hRl hQ hrt hnm
  refine z_loc (L' := [(0, z_v a), (1, z_v so), (2, z_v c0)]) [0, 1, 2] rfl ?_
  refine z_iloadn C 0 dX11_passes_0 rfl rfl ?_
  refine z_bipush C dX11_passes_1 (by decide) ?_
  refine z_iloadn C 2 dX11_passes_3 rfl rfl ?_
  refine z_imul C dX11_passes_4 ?_
  refine z_isub C dX11_passes_5 ?_
  refine z_istoren (L' := [(3, z_v (a - (64 * c0))), (0, z_v a), (1, z_v so), (2, z_v c0)]) C dX11_passes_6 rfl (by decide) rfl ?_
  refine z_iloadn C 2 dX11_passes_7 rfl rfl ?_
  refine z_if_ne (t := 23) C dX11_passes_8 (by decide) (by omega) (fun c1 => ?_) (fun c1 => ?_)
  · skip
    refine z_iloadn C 2 dX11_passes_23 rfl rfl ?_
    refine z_iconst C dX11_passes_24 ?_
    refine z_icmp_ne (t := 40) C dX11_passes_25 (by decide) (by omega) (by omega) (fun c2 => ?_) (fun c2 => ?_)
    · skip
      refine z_iloadn C 2 dX11_passes_40 rfl rfl ?_
      refine z_iconst C dX11_passes_41 ?_
      refine z_icmp_ne (t := 57) C dX11_passes_42 (by decide) (by omega) (by omega) (fun c3 => ?_) (fun c3 => ?_)
      · skip
        refine z_iloadn C 2 dX11_passes_57 rfl rfl ?_
        refine z_iconst C dX11_passes_58 ?_
        refine z_icmp_ne (t := 74) C dX11_passes_59 (by decide) (by omega) (by omega) (fun c4 => ?_) (fun c4 => ?_)
        · skip
          refine z_iloadn C 0 dX11_passes_74 rfl rfl ?_
          refine z_if_le (t := 82) C dX11_passes_75 (by decide) (by omega) (fun c5 => ?_) (fun c5 => ?_)
          · skip
            refine z_iconst C dX11_passes_82 ?_
            rw [hQ]
            exact z_zret C hrt (by omega) dX11_passes_83 (⟨rfl, rfl, _, rfl, by omega⟩) (by omega) (by omega)
          · skip
            refine z_iconst C dX11_passes_78 ?_
            refine z_goto (t := 83) C dX11_passes_79 (by decide) ?_
            rw [hQ]
            exact z_zret C hrt (by omega) dX11_passes_83 (⟨rfl, rfl, _, rfl, by omega⟩) (by omega) (by omega)
        · skip
          refine z_iloadn C 0 dX11_passes_62 rfl rfl ?_
          refine z_if_lt (t := 70) C dX11_passes_63 (by decide) (by omega) (fun c6 => ?_) (fun c6 => ?_)
          · skip
            refine z_iconst C dX11_passes_70 ?_
            refine z_goto (t := 83) C dX11_passes_71 (by decide) ?_
            rw [hQ]
            exact z_zret C hrt (by omega) dX11_passes_83 (⟨rfl, rfl, _, rfl, by omega⟩) (by omega) (by omega)
          · skip
            refine z_iconst C dX11_passes_66 ?_
            refine z_goto (t := 83) C dX11_passes_67 (by decide) ?_
            rw [hQ]
            exact z_zret C hrt (by omega) dX11_passes_83 (⟨rfl, rfl, _, rfl, by omega⟩) (by omega) (by omega)
      · skip
        refine z_iloadn C 0 dX11_passes_45 rfl rfl ?_
        refine z_if_ne (t := 53) C dX11_passes_46 (by decide) (by omega) (fun c7 => ?_) (fun c7 => ?_)
        · skip
          refine z_iconst C dX11_passes_53 ?_
          refine z_goto (t := 83) C dX11_passes_54 (by decide) ?_
          rw [hQ]
          exact z_zret C hrt (by omega) dX11_passes_83 (⟨rfl, rfl, _, rfl, by omega⟩) (by omega) (by omega)
        · skip
          refine z_iconst C dX11_passes_49 ?_
          refine z_goto (t := 83) C dX11_passes_50 (by decide) ?_
          rw [hQ]
          exact z_zret C hrt (by omega) dX11_passes_83 (⟨rfl, rfl, _, rfl, by omega⟩) (by omega) (by omega)
    · skip
      refine z_iloadn C 0 dX11_passes_28 rfl rfl ?_
      refine z_if_gt (t := 36) C dX11_passes_29 (by decide) (by omega) (fun c8 => ?_) (fun c8 => ?_)
      · skip
        refine z_iconst C dX11_passes_36 ?_
        refine z_goto (t := 83) C dX11_passes_37 (by decide) ?_
        rw [hQ]
        exact z_zret C hrt (by omega) dX11_passes_83 (⟨rfl, rfl, _, rfl, by omega⟩) (by omega) (by omega)
      · skip
        refine z_iconst C dX11_passes_32 ?_
        refine z_goto (t := 83) C dX11_passes_33 (by decide) ?_
        rw [hQ]
        exact z_zret C hrt (by omega) dX11_passes_83 (⟨rfl, rfl, _, rfl, by omega⟩) (by omega) (by omega)
  · skip
    refine z_iloadn C 0 dX11_passes_11 rfl rfl ?_
    refine z_if_ge (t := 19) C dX11_passes_12 (by decide) (by omega) (fun c9 => ?_) (fun c9 => ?_)
    · skip
      refine z_iconst C dX11_passes_19 ?_
      refine z_goto (t := 83) C dX11_passes_20 (by decide) ?_
      rw [hQ]
      exact z_zret C hrt (by omega) dX11_passes_83 (⟨rfl, rfl, _, rfl, by omega⟩) (by omega) (by omega)
    · skip
      refine z_iconst C dX11_passes_15 ?_
      refine z_goto (t := 83) C dX11_passes_16 (by decide) ?_
      rw [hQ]
      exact z_zret C hrt (by omega) dX11_passes_83 (⟨rfl, rfl, _, rfl, by omega⟩) (by omega) (by omega)
set_option maxRecDepth 20000 in
theorem cx_X11_areKept (l : Launch) {D : va_G} {A : Nat → Prop} {ad : Nat → Nat} {ks : z_Ks} {s_edges s_isNeeded s_explored s_states s_isMoved s_runs s_runTime s_runMoves : Int} {w_h : Int64} {a_machine a_from a_to a_channel a_resets a_guards a_guardOf a_limits a_limitOf a_places a_zones a_parent a_moveE a_moveF a_moves a_z a_ahead a_at a_amounts a_way a_moments a_runAt a_runClock : Nat → Int} {Y : Nat → Option va_E} (Ha_at : (∀ j, 0 ≤ a_at j ∧ a_at j ≤ 5)) (Ha_limits : (∀ j, 0 ≤ a_limits j ∧ a_limits j ≤ 2)) (Ha_limitOf : (∀ j, (j % 3 = 0 → a_limitOf j ≤ 3) ∧ 0 ≤ a_limitOf j ∧ a_limitOf j ≤ 1000)) (Ha_amounts : (∀ j, 0 ≤ a_amounts j ∧ a_amounts j ≤ 1064000)) : z_Met l yX11_areKept cX11_areKept 6 (some .boolean) 1 23 0 0 D A 24 ad ks [.ref (ad 0)] (z_zm ad ks s_edges s_isNeeded s_explored s_states s_isMoved s_runs s_runTime s_runMoves w_h a_machine a_from a_to a_channel a_resets a_guards a_guardOf a_limits a_limitOf a_places a_zones a_parent a_moveE a_moveF a_moves a_z a_ahead a_at a_amounts a_way a_moments a_runAt a_runClock) Y (fun r S' Y' => S' = (z_zm ad ks s_edges s_isNeeded s_explored s_states s_isMoved s_runs s_runTime s_runMoves w_h a_machine a_from a_to a_channel a_resets a_guards a_guardOf a_limits a_limitOf a_places a_zones a_parent a_moveE a_moveF a_moves a_z a_ahead a_at a_amounts a_way a_moments a_runAt a_runClock) ∧ Y = Y' ∧ ∃ z : Int, r = some (z_v z) ∧ (z = 1 ∧ (z_lim a_limits a_limitOf a_at a_amounts) ∨ z = 0 ∧ ¬ (z_lim a_limits a_limitOf a_at a_amounts))) := by
  refine z_start2 (by decide) (Nat.le_of_ble_eq_true rfl) ?_
  intro p e R s m args below meth c Q C hRf hRc hRs hRl hQ hrt hnm
  refine z_loc (L' := [(0, .ref (ad 0))]) [0] rfl ?_
  refine z_iconst C dX11_areKept_0 ?_
  refine z_istoren (L' := [(1, z_v 1), (0, .ref (ad 0))]) C dX11_areKept_1 rfl (by decide) rfl ?_
  refine z_iconst C dX11_areKept_2 ?_
  refine z_istoren (L' := [(2, z_v 0), (1, z_v 1), (0, .ref (ad 0))]) C dX11_areKept_3 rfl (by decide) rfl ?_
  have L4 : ∀ (n : Nat), ∀ (i1 : Int) (i2 : Int), (z_K3 i1 (∀ m : Int, 0 ≤ m → m < i2 → z_alw (a_limits (6 * m + a_at m.toNat).toNat) a_limitOf (6 * (6 * m + a_at m.toNat)) a_amounts) (z_lim a_limits a_limitOf a_at a_amounts)) → (0 ≤ i2 ∧ i2 ≤ 3) → (i1 = 0 ∨ i1 = 1) → ((3 : Int) - i2).toNat < n → z_V p l e R s m args below meth c Q D A 24 ad 6 (z_zm ad ks s_edges s_isNeeded s_explored s_states s_isMoved s_runs s_runTime s_runMoves w_h a_machine a_from a_to a_channel a_resets a_guards a_guardOf a_limits a_limitOf a_places a_zones a_parent a_moveE a_moveF a_moves a_z a_ahead a_at a_amounts a_way a_moments a_runAt a_runClock) Y 0 0 4 [(0, .ref (ad 0)), (1, z_v i1), (2, z_v i2)] [] := by
    intro n
    induction n with
    | zero => intro i1 i2 K I2 B1 hm; exact absurd hm (Nat.not_lt_zero _)
    | succ n ih4 =>
      intro i1 i2 K I2 B1 hm
      refine z_iloadn C 2 dX11_areKept_4 rfl rfl ?_
      refine z_iconst C dX11_areKept_5 ?_
      refine z_icmp_ge (t := 104) C dX11_areKept_6 (by decide) (by omega) (by omega) (fun c1 => ?_) (fun c1 => ?_)
      · skip
        refine z_iloadn C 1 dX11_areKept_104 rfl rfl ?_
        rw [hQ]
        exact z_zret C hrt (by omega) dX11_areKept_105 (⟨rfl, rfl, _, rfl, K.fin (fun a m h0 h1 => a m h0 (by omega))⟩) (by omega) (by omega)
      · skip
        refine z_bipush C dX11_areKept_9 (by decide) ?_
        refine z_iloadn C 2 dX11_areKept_11 rfl rfl ?_
        refine z_imul C dX11_areKept_12 ?_
        refine z_aloadn C 0 dX11_areKept_13 rfl rfl ?_
        refine z_get C 0 (by decide) rfl rfl z_it11 21 (by decide) rfl fl_11_65 rfl dX11_areKept_14 ?_
        refine z_iloadn C 2 dX11_areKept_17 rfl rfl ?_
        refine z_iald C 18 (by decide) rfl (by decide) (by omega) (by omega) dX11_areKept_18 ?_
        have rx2 := Ha_at (i2 : Int).toNat
        generalize ex2 : a_at (i2 : Int).toNat = x2 at rx2 ⊢
        refine z_iadd C dX11_areKept_19 ?_
        refine z_istoren (L' := [(3, z_v ((6 * i2) + x2)), (0, .ref (ad 0)), (1, z_v i1), (2, z_v i2)]) C dX11_areKept_20 rfl (by decide) rfl ?_
        refine z_iconst C dX11_areKept_21 ?_
        refine z_istore (L' := [(4, z_v 0), (3, z_v ((6 * i2) + x2)), (0, .ref (ad 0)), (1, z_v i1), (2, z_v i2)]) C dX11_areKept_22 (by decide) rfl ?_
        have L24 : ∀ (n : Nat), ∀ (i1 : Int) (i4 : Int), (z_K3 i1 ((∀ m : Int, 0 ≤ m → m < i2 → z_alw (a_limits (6 * m + a_at m.toNat).toNat) a_limitOf (6 * (6 * m + a_at m.toNat)) a_amounts) ∧ ∀ j : Int, 0 ≤ j → j < i4 → z_pass (a_amounts (a_limitOf (6 * (6 * i2 + a_at (i2 : Int).toNat) + 3 * j).toNat).toNat) (a_limitOf (6 * (6 * i2 + a_at (i2 : Int).toNat) + 3 * j + 1).toNat) (a_limitOf (6 * (6 * i2 + a_at (i2 : Int).toNat) + 3 * j + 2).toNat)) (z_lim a_limits a_limitOf a_at a_amounts)) → (0 ≤ i4 ∧ i4 ≤ 2) → (i1 = 0 ∨ i1 = 1) → ((2 : Int) - i4).toNat < n → z_V p l e R s m args below meth c Q D A 24 ad 6 (z_zm ad ks s_edges s_isNeeded s_explored s_states s_isMoved s_runs s_runTime s_runMoves w_h a_machine a_from a_to a_channel a_resets a_guards a_guardOf a_limits a_limitOf a_places a_zones a_parent a_moveE a_moveF a_moves a_z a_ahead a_at a_amounts a_way a_moments a_runAt a_runClock) Y 0 0 24 [(0, .ref (ad 0)), (1, z_v i1), (2, z_v i2), (3, z_v ((6 * i2) + x2)), (4, z_v i4)] [] := by
          intro n
          induction n with
          | zero => intro i1 i4 K I4 B1 hm; exact absurd hm (Nat.not_lt_zero _)
          | succ n ih24 =>
            intro i1 i4 K I4 B1 hm
            refine z_iload C 4 dX11_areKept_24 rfl ?_
            refine z_aloadn C 0 dX11_areKept_26 rfl rfl ?_
            refine z_get C 0 (by decide) rfl rfl z_it11 8 (by decide) rfl fl_11_31 rfl dX11_areKept_27 ?_
            refine z_iloadn C 3 dX11_areKept_30 rfl rfl ?_
            refine z_iald C 8 (by decide) rfl (by decide) (by omega) (by omega) dX11_areKept_31 ?_
            have rx3 := Ha_limits (((6 * i2) + x2) : Int).toNat
            generalize ex3 : a_limits (((6 * i2) + x2) : Int).toNat = x3 at rx3 ⊢
            refine z_icmp_ge (t := 98) C dX11_areKept_32 (by decide) (by omega) (by omega) (fun c4 => ?_) (fun c4 => ?_)
            · skip
              refine z_iinc (L' := [(2, z_v (i2 + 1)), (0, .ref (ad 0)), (1, z_v i1), (3, z_v ((6 * i2) + x2)), (4, z_v i4)]) C 2 dX11_areKept_98 rfl (by decide) rfl ?_
              refine z_goto (t := 4) C dX11_areKept_101 (by decide) ?_
              refine z_loc (L' := [(0, .ref (ad 0)), (1, z_v i1), (2, z_v (i2 + 1))]) [1, 2, 0] rfl ?_
              exact ih4 i1 (i2 + 1) (by subst_vars; exact K.mono (fun a => z_snoc a.1 (fun j h0 h1 => a.2 j h0 (by omega)))) (by omega) (by omega) (by omega)
            · skip
              refine z_bipush C dX11_areKept_35 (by decide) ?_
              refine z_iloadn C 3 dX11_areKept_37 rfl rfl ?_
              refine z_imul C dX11_areKept_38 ?_
              refine z_iconst C dX11_areKept_39 ?_
              refine z_iload C 4 dX11_areKept_40 rfl ?_
              refine z_imul C dX11_areKept_42 ?_
              refine z_iadd C dX11_areKept_43 ?_
              refine z_istore (L' := [(5, z_v ((6 * ((6 * i2) + x2)) + (3 * i4))), (0, .ref (ad 0)), (1, z_v i1), (2, z_v i2), (3, z_v ((6 * i2) + x2)), (4, z_v i4)]) C dX11_areKept_44 (by decide) rfl ?_
              refine z_iloadn C 2 dX11_areKept_46 rfl rfl ?_
              refine z_if_eq (t := 90) C dX11_areKept_47 (by decide) (by omega) (fun c5 => ?_) (fun c5 => ?_)
              · skip
                refine z_iconst C dX11_areKept_90 ?_
                refine z_istoren (L' := [(1, z_v 0), (5, z_v ((6 * ((6 * i2) + x2)) + (3 * i4))), (0, .ref (ad 0)), (2, z_v i2), (3, z_v ((6 * i2) + x2)), (4, z_v i4)]) C dX11_areKept_91 rfl (by decide) rfl ?_
                refine z_iinc (L' := [(4, z_v (i4 + 1)), (1, z_v 0), (5, z_v ((6 * ((6 * i2) + x2)) + (3 * i4))), (0, .ref (ad 0)), (2, z_v i2), (3, z_v ((6 * i2) + x2))]) C 5 dX11_areKept_92 rfl (by decide) rfl ?_
                refine z_goto (t := 24) C dX11_areKept_95 (by decide) ?_
                refine z_loc (L' := [(0, .ref (ad 0)), (1, z_v 0), (2, z_v i2), (3, z_v ((6 * i2) + x2)), (4, z_v (i4 + 1))]) [3, 1, 4, 5, 0] rfl ?_
                exact ih24 0 (i4 + 1) (by subst_vars; first | exact K.one (by omega) (fun a => ⟨a.1, z_snoc a.2 (by omega)⟩) | exact K.zero (Or.inl (by omega)) | exact K.zero (Or.inr (fun L => absurd (L i2 (by omega) (by omega) i4 (by omega) (by omega)) (by omega)))) (by omega) (by omega) (by omega)
              · skip
                refine z_aloadn C 1 dX11_areKept_50 rfl rfl ?_
                refine z_get C 0 (by decide) rfl rfl z_it11 22 (by decide) rfl fl_11_68 rfl dX11_areKept_51 ?_
                refine z_aloadn C 1 dX11_areKept_54 rfl rfl ?_
                refine z_get C 0 (by decide) rfl rfl z_it11 9 (by decide) rfl fl_11_34 rfl dX11_areKept_55 ?_
                refine z_iload C 0 dX11_areKept_58 rfl ?_
                refine z_iald C 9 (by decide) rfl (by decide) (by omega) (by omega) dX11_areKept_60 ?_
                have rx6 := Ha_limitOf (((6 * ((6 * i2) + x2)) + (3 * i4)) : Int).toNat
                generalize ex6 : a_limitOf (((6 * ((6 * i2) + x2)) + (3 * i4)) : Int).toNat = x6 at rx6 ⊢
                refine z_iald C 19 (by decide) rfl (by decide) (by omega) (by omega) dX11_areKept_61 ?_
                have rx7 := Ha_amounts (x6 : Int).toNat
                generalize ex7 : a_amounts (x6 : Int).toNat = x7 at rx7 ⊢
                refine z_aloadn C 1 dX11_areKept_62 rfl rfl ?_
                refine z_get C 0 (by decide) rfl rfl z_it11 9 (by decide) rfl fl_11_34 rfl dX11_areKept_63 ?_
                refine z_iload C 0 dX11_areKept_66 rfl ?_
                refine z_iconst C dX11_areKept_68 ?_
                refine z_iadd C dX11_areKept_69 ?_
                refine z_iald C 9 (by decide) rfl (by decide) (by omega) (by omega) dX11_areKept_70 ?_
                have rx8 := Ha_limitOf ((((6 * ((6 * i2) + x2)) + (3 * i4)) + 1) : Int).toNat
                generalize ex8 : a_limitOf ((((6 * ((6 * i2) + x2)) + (3 * i4)) + 1) : Int).toNat = x8 at rx8 ⊢
                refine z_aloadn C 1 dX11_areKept_71 rfl rfl ?_
                refine z_get C 0 (by decide) rfl rfl z_it11 9 (by decide) rfl fl_11_34 rfl dX11_areKept_72 ?_
                refine z_iload C 0 dX11_areKept_75 rfl ?_
                refine z_iconst C dX11_areKept_77 ?_
                refine z_iadd C dX11_areKept_78 ?_
                refine z_iald C 9 (by decide) rfl (by decide) (by omega) (by omega) dX11_areKept_79 ?_
                have rx9 := Ha_limitOf ((((6 * ((6 * i2) + x2)) + (3 * i4)) + 2) : Int).toNat
                generalize ex9 : a_limitOf ((((6 * ((6 * i2) + x2)) + (3 * i4)) + 2) : Int).toNat = x9 at rx9 ⊢
                refine z_callS C (cx_X11_passes l x7 x8 x9 (by omega) (by omega) (by omega)) mv_11_203 pd_X11_passes ⟨by omega, by omega⟩ ⟨by omega, by omega⟩ rfl (Nat.le_of_ble_eq_true rfl) dX11_areKept_80 ?_
                rintro _ _ _ ⟨rfl, rfl, z12, rfl, hz12⟩
                refine z_if_eq (t := 90) C dX11_areKept_83 (by decide) (by omega) (fun c13 => ?_) (fun c13 => ?_)
                · skip
                  refine z_iconst C dX11_areKept_90 ?_
                  refine z_istoren (L' := [(1, z_v 0), (5, z_v ((6 * ((6 * i2) + x2)) + (3 * i4))), (0, .ref (ad 0)), (2, z_v i2), (3, z_v ((6 * i2) + x2)), (4, z_v i4)]) C dX11_areKept_91 rfl (by decide) rfl ?_
                  refine z_iinc (L' := [(4, z_v (i4 + 1)), (1, z_v 0), (5, z_v ((6 * ((6 * i2) + x2)) + (3 * i4))), (0, .ref (ad 0)), (2, z_v i2), (3, z_v ((6 * i2) + x2))]) C 5 dX11_areKept_92 rfl (by decide) rfl ?_
                  refine z_goto (t := 24) C dX11_areKept_95 (by decide) ?_
                  refine z_loc (L' := [(0, .ref (ad 0)), (1, z_v 0), (2, z_v i2), (3, z_v ((6 * i2) + x2)), (4, z_v (i4 + 1))]) [3, 1, 4, 5, 0] rfl ?_
                  exact ih24 0 (i4 + 1) (by subst_vars; first | exact K.one (by omega) (fun a => ⟨a.1, z_snoc a.2 (by omega)⟩) | exact K.zero (Or.inl (by omega)) | exact K.zero (Or.inr (fun L => absurd (L i2 (by omega) (by omega) i4 (by omega) (by omega)) (by omega)))) (by omega) (by omega) (by omega)
                · skip
                  refine z_iconst C dX11_areKept_86 ?_
                  refine z_goto (t := 91) C dX11_areKept_87 (by decide) ?_
                  refine z_istoren (L' := [(1, z_v 1), (5, z_v ((6 * ((6 * i2) + x2)) + (3 * i4))), (0, .ref (ad 0)), (2, z_v i2), (3, z_v ((6 * i2) + x2)), (4, z_v i4)]) C dX11_areKept_91 rfl (by decide) rfl ?_
                  refine z_iinc (L' := [(4, z_v (i4 + 1)), (1, z_v 1), (5, z_v ((6 * ((6 * i2) + x2)) + (3 * i4))), (0, .ref (ad 0)), (2, z_v i2), (3, z_v ((6 * i2) + x2))]) C 5 dX11_areKept_92 rfl (by decide) rfl ?_
                  refine z_goto (t := 24) C dX11_areKept_95 (by decide) ?_
                  refine z_loc (L' := [(0, .ref (ad 0)), (1, z_v 1), (2, z_v i2), (3, z_v ((6 * i2) + x2)), (4, z_v (i4 + 1))]) [3, 1, 4, 5, 0] rfl ?_
                  exact ih24 1 (i4 + 1) (by subst_vars; first | exact K.one (by omega) (fun a => ⟨a.1, z_snoc a.2 (by omega)⟩) | exact K.zero (Or.inl (by omega)) | exact K.zero (Or.inr (fun L => absurd (L i2 (by omega) (by omega) i4 (by omega) (by omega)) (by omega)))) (by omega) (by omega) (by omega)
        refine z_loc (L' := [(0, .ref (ad 0)), (1, z_v i1), (2, z_v i2), (3, z_v ((6 * i2) + x2)), (4, z_v 0)]) [2, 3, 4, 1, 0] rfl ?_
        exact (L24 (((2 : Int) - 0).toNat + 1)) i1 0 (K.mono (fun a => ⟨a, z_vac⟩)) (by omega) (by omega) (Nat.lt_succ_self _)
  refine z_loc (L' := [(0, .ref (ad 0)), (1, z_v 1), (2, z_v 0)]) [2, 1, 0] rfl ?_
  exact (L4 (((3 : Int) - 0).toNat + 1)) 1 0 (z_K3.ini z_vac) (by omega) (by omega) (Nat.lt_succ_self _)
set_option maxRecDepth 20000 in
theorem cx_X11_isOpen (l : Launch) {D : va_G} {A : Nat → Prop} {ad : Nat → Nat} {ks : z_Ks} {s_edges s_isNeeded s_explored s_states s_isMoved s_runs s_runTime s_runMoves : Int} {w_h : Int64} {a_machine a_from a_to a_channel a_resets a_guards a_guardOf a_limits a_limitOf a_places a_zones a_parent a_moveE a_moveF a_moves a_z a_ahead a_at a_amounts a_way a_moments a_runAt a_runClock : Nat → Int} {Y : Nat → Option va_E} (e0 : Int) (Ha_at : (∀ j, 0 ≤ a_at j ∧ a_at j ≤ 5)) (Ha_machine : (∀ j, 0 ≤ a_machine j ∧ a_machine j ≤ 2)) (Ha_from : (∀ j, 0 ≤ a_from j ∧ a_from j ≤ 5)) (Ha_guards : (∀ j, 0 ≤ a_guards j ∧ a_guards j ≤ 2)) (Ha_guardOf : (∀ j, (j % 3 = 0 → a_guardOf j ≤ 3) ∧ 0 ≤ a_guardOf j ∧ a_guardOf j ≤ 1000)) (Ha_amounts : (∀ j, 0 ≤ a_amounts j ∧ a_amounts j ≤ 1064000)) (he : 0 ≤ e0 ∧ e0 ≤ 19) : z_Met l yX11_isOpen cX11_isOpen 5 (some .boolean) 1 23 0 0 D A 24 ad ks [.ref (ad 0), z_v e0] (z_zm ad ks s_edges s_isNeeded s_explored s_states s_isMoved s_runs s_runTime s_runMoves w_h a_machine a_from a_to a_channel a_resets a_guards a_guardOf a_limits a_limitOf a_places a_zones a_parent a_moveE a_moveF a_moves a_z a_ahead a_at a_amounts a_way a_moments a_runAt a_runClock) Y (fun r S' Y' => S' = (z_zm ad ks s_edges s_isNeeded s_explored s_states s_isMoved s_runs s_runTime s_runMoves w_h a_machine a_from a_to a_channel a_resets a_guards a_guardOf a_limits a_limitOf a_places a_zones a_parent a_moveE a_moveF a_moves a_z a_ahead a_at a_amounts a_way a_moments a_runAt a_runClock) ∧ Y = Y' ∧ ∃ z : Int, r = some (z_v z) ∧ (z = 1 ∧ (z_opn e0 a_machine a_from a_guards a_guardOf a_at a_amounts) ∨ z = 0 ∧ ¬ (z_opn e0 a_machine a_from a_guards a_guardOf a_at a_amounts))) := by
  refine z_start2 (by decide) (Nat.le_of_ble_eq_true rfl) ?_
  intro p e R s m args below meth c Q C hRf hRc hRs hRl hQ hrt hnm
  refine z_loc (L' := [(0, .ref (ad 0)), (1, z_v e0)]) [0, 1] rfl ?_
  refine z_aloadn C 0 dX11_isOpen_0 rfl rfl ?_
  refine z_get C 0 (by decide) rfl rfl z_it11 21 (by decide) rfl fl_11_65 rfl dX11_isOpen_1 ?_
  refine z_aloadn C 0 dX11_isOpen_4 rfl rfl ?_
  refine z_get C 0 (by decide) rfl rfl z_it11 1 (by decide) rfl fl_11_7 rfl dX11_isOpen_5 ?_
  refine z_iloadn C 1 dX11_isOpen_8 rfl rfl ?_
  refine z_iald C 1 (by decide) rfl (by decide) (by omega) (by omega) dX11_isOpen_9 ?_
  have rx1 := Ha_machine (e0 : Int).toNat
  generalize ex1 : a_machine (e0 : Int).toNat = x1 at rx1 ⊢
  refine z_iald C 18 (by decide) rfl (by decide) (by omega) (by omega) dX11_isOpen_10 ?_
  have rx2 := Ha_at (x1 : Int).toNat
  generalize ex2 : a_at (x1 : Int).toNat = x2 at rx2 ⊢
  refine z_aloadn C 0 dX11_isOpen_11 rfl rfl ?_
  refine z_get C 0 (by decide) rfl rfl z_it11 2 (by decide) rfl fl_11_13 rfl dX11_isOpen_12 ?_
  refine z_iloadn C 1 dX11_isOpen_15 rfl rfl ?_
  refine z_iald C 2 (by decide) rfl (by decide) (by omega) (by omega) dX11_isOpen_16 ?_
  have rx3 := Ha_from (e0 : Int).toNat
  generalize ex3 : a_from (e0 : Int).toNat = x3 at rx3 ⊢
  refine z_icmp_ne (t := 24) C dX11_isOpen_17 (by decide) (by omega) (by omega) (fun c4 => ?_) (fun c4 => ?_)
  · skip
    refine z_iconst C dX11_isOpen_24 ?_
    refine z_istoren (L' := [(2, z_v 0), (0, .ref (ad 0)), (1, z_v e0)]) C dX11_isOpen_25 rfl (by decide) rfl ?_
    refine z_iconst C dX11_isOpen_26 ?_
    refine z_istoren (L' := [(3, z_v 0), (2, z_v 0), (0, .ref (ad 0)), (1, z_v e0)]) C dX11_isOpen_27 rfl (by decide) rfl ?_
    have L28 : ∀ (n : Nat), ∀ (i2 : Int) (i3 : Int), (z_K3 i2 (a_at (a_machine e0.toNat).toNat = a_from e0.toNat ∧ ∀ j : Int, 0 ≤ j → j < i3 → z_pass (a_amounts (a_guardOf (6 * e0 + 3 * j).toNat).toNat) (a_guardOf (6 * e0 + 3 * j + 1).toNat) (a_guardOf (6 * e0 + 3 * j + 2).toNat)) (z_opn e0 a_machine a_from a_guards a_guardOf a_at a_amounts)) → (0 ≤ i3 ∧ i3 ≤ 2) → (i2 = 0 ∨ i2 = 1) → ((2 : Int) - i3).toNat < n → z_V p l e R s m args below meth c Q D A 24 ad 5 (z_zm ad ks s_edges s_isNeeded s_explored s_states s_isMoved s_runs s_runTime s_runMoves w_h a_machine a_from a_to a_channel a_resets a_guards a_guardOf a_limits a_limitOf a_places a_zones a_parent a_moveE a_moveF a_moves a_z a_ahead a_at a_amounts a_way a_moments a_runAt a_runClock) Y 0 0 28 [(0, .ref (ad 0)), (1, z_v e0), (2, z_v i2), (3, z_v i3)] [] := by
      intro n
      induction n with
      | zero => intro i2 i3 K I3 B2 hm; exact absurd hm (Nat.not_lt_zero _)
      | succ n ih28 =>
        intro i2 i3 K I3 B2 hm
        refine z_iloadn C 3 dX11_isOpen_28 rfl rfl ?_
        refine z_aloadn C 0 dX11_isOpen_29 rfl rfl ?_
        refine z_get C 0 (by decide) rfl rfl z_it11 6 (by decide) rfl fl_11_25 rfl dX11_isOpen_30 ?_
        refine z_iloadn C 1 dX11_isOpen_33 rfl rfl ?_
        refine z_iald C 6 (by decide) rfl (by decide) (by omega) (by omega) dX11_isOpen_34 ?_
        have rx5 := Ha_guards (e0 : Int).toNat
        generalize ex5 : a_guards (e0 : Int).toNat = x5 at rx5 ⊢
        refine z_icmp_ge (t := 100) C dX11_isOpen_35 (by decide) (by omega) (by omega) (fun c6 => ?_) (fun c6 => ?_)
        · skip
          refine z_iloadn C 2 dX11_isOpen_100 rfl rfl ?_
          rw [hQ]
          exact z_zret C hrt (by omega) dX11_isOpen_101 (⟨rfl, rfl, _, rfl, by subst_vars; exact K.fin (fun a => ⟨a.1, fun j h0 h1 => a.2 j h0 (by omega)⟩)⟩) (by omega) (by omega)
        · skip
          refine z_bipush C dX11_isOpen_38 (by decide) ?_
          refine z_iloadn C 1 dX11_isOpen_40 rfl rfl ?_
          refine z_imul C dX11_isOpen_41 ?_
          refine z_iconst C dX11_isOpen_42 ?_
          refine z_iloadn C 3 dX11_isOpen_43 rfl rfl ?_
          refine z_imul C dX11_isOpen_44 ?_
          refine z_iadd C dX11_isOpen_45 ?_
          refine z_istore (L' := [(4, z_v ((6 * e0) + (3 * i3))), (0, .ref (ad 0)), (1, z_v e0), (2, z_v i2), (3, z_v i3)]) C dX11_isOpen_46 (by decide) rfl ?_
          refine z_iloadn C 3 dX11_isOpen_48 rfl rfl ?_
          refine z_if_eq (t := 92) C dX11_isOpen_49 (by decide) (by omega) (fun c7 => ?_) (fun c7 => ?_)
          · skip
            refine z_iconst C dX11_isOpen_92 ?_
            refine z_istoren (L' := [(2, z_v 0), (4, z_v ((6 * e0) + (3 * i3))), (0, .ref (ad 0)), (1, z_v e0), (3, z_v i3)]) C dX11_isOpen_93 rfl (by decide) rfl ?_
            refine z_iinc (L' := [(3, z_v (i3 + 1)), (2, z_v 0), (4, z_v ((6 * e0) + (3 * i3))), (0, .ref (ad 0)), (1, z_v e0)]) C 4 dX11_isOpen_94 rfl (by decide) rfl ?_
            refine z_goto (t := 28) C dX11_isOpen_97 (by decide) ?_
            refine z_loc (L' := [(0, .ref (ad 0)), (1, z_v e0), (2, z_v 0), (3, z_v (i3 + 1))]) [3, 4, 1, 0] rfl ?_
            exact ih28 0 (i3 + 1) (by subst_vars; first | exact K.one (by omega) (fun a => ⟨a.1, z_snoc a.2 (by omega)⟩) | exact K.zero (Or.inl (by omega)) | exact K.zero (Or.inr (fun L => absurd (L.2 i3 (by omega) (by omega)) (by omega)))) (by omega) (by omega) (by omega)
          · skip
            refine z_aloadn C 1 dX11_isOpen_52 rfl rfl ?_
            refine z_get C 0 (by decide) rfl rfl z_it11 22 (by decide) rfl fl_11_68 rfl dX11_isOpen_53 ?_
            refine z_aloadn C 1 dX11_isOpen_56 rfl rfl ?_
            refine z_get C 0 (by decide) rfl rfl z_it11 7 (by decide) rfl fl_11_28 rfl dX11_isOpen_57 ?_
            refine z_iload C 0 dX11_isOpen_60 rfl ?_
            refine z_iald C 7 (by decide) rfl (by decide) (by omega) (by omega) dX11_isOpen_62 ?_
            have rx8 := Ha_guardOf (((6 * e0) + (3 * i3)) : Int).toNat
            generalize ex8 : a_guardOf (((6 * e0) + (3 * i3)) : Int).toNat = x8 at rx8 ⊢
            refine z_iald C 19 (by decide) rfl (by decide) (by omega) (by omega) dX11_isOpen_63 ?_
            have rx9 := Ha_amounts (x8 : Int).toNat
            generalize ex9 : a_amounts (x8 : Int).toNat = x9 at rx9 ⊢
            refine z_aloadn C 1 dX11_isOpen_64 rfl rfl ?_
            refine z_get C 0 (by decide) rfl rfl z_it11 7 (by decide) rfl fl_11_28 rfl dX11_isOpen_65 ?_
            refine z_iload C 0 dX11_isOpen_68 rfl ?_
            refine z_iconst C dX11_isOpen_70 ?_
            refine z_iadd C dX11_isOpen_71 ?_
            refine z_iald C 7 (by decide) rfl (by decide) (by omega) (by omega) dX11_isOpen_72 ?_
            have rx10 := Ha_guardOf ((((6 * e0) + (3 * i3)) + 1) : Int).toNat
            generalize ex10 : a_guardOf ((((6 * e0) + (3 * i3)) + 1) : Int).toNat = x10 at rx10 ⊢
            refine z_aloadn C 1 dX11_isOpen_73 rfl rfl ?_
            refine z_get C 0 (by decide) rfl rfl z_it11 7 (by decide) rfl fl_11_28 rfl dX11_isOpen_74 ?_
            refine z_iload C 0 dX11_isOpen_77 rfl ?_
            refine z_iconst C dX11_isOpen_79 ?_
            refine z_iadd C dX11_isOpen_80 ?_
            refine z_iald C 7 (by decide) rfl (by decide) (by omega) (by omega) dX11_isOpen_81 ?_
            have rx11 := Ha_guardOf ((((6 * e0) + (3 * i3)) + 2) : Int).toNat
            generalize ex11 : a_guardOf ((((6 * e0) + (3 * i3)) + 2) : Int).toNat = x11 at rx11 ⊢
            refine z_callS C (cx_X11_passes l x9 x10 x11 (by omega) (by omega) (by omega)) mv_11_203 pd_X11_passes ⟨by omega, by omega⟩ ⟨by omega, by omega⟩ rfl (Nat.le_of_ble_eq_true rfl) dX11_isOpen_82 ?_
            rintro _ _ _ ⟨rfl, rfl, z14, rfl, hz14⟩
            refine z_if_eq (t := 92) C dX11_isOpen_85 (by decide) (by omega) (fun c15 => ?_) (fun c15 => ?_)
            · skip
              refine z_iconst C dX11_isOpen_92 ?_
              refine z_istoren (L' := [(2, z_v 0), (4, z_v ((6 * e0) + (3 * i3))), (0, .ref (ad 0)), (1, z_v e0), (3, z_v i3)]) C dX11_isOpen_93 rfl (by decide) rfl ?_
              refine z_iinc (L' := [(3, z_v (i3 + 1)), (2, z_v 0), (4, z_v ((6 * e0) + (3 * i3))), (0, .ref (ad 0)), (1, z_v e0)]) C 4 dX11_isOpen_94 rfl (by decide) rfl ?_
              refine z_goto (t := 28) C dX11_isOpen_97 (by decide) ?_
              refine z_loc (L' := [(0, .ref (ad 0)), (1, z_v e0), (2, z_v 0), (3, z_v (i3 + 1))]) [3, 4, 1, 0] rfl ?_
              exact ih28 0 (i3 + 1) (by subst_vars; first | exact K.one (by omega) (fun a => ⟨a.1, z_snoc a.2 (by omega)⟩) | exact K.zero (Or.inl (by omega)) | exact K.zero (Or.inr (fun L => absurd (L.2 i3 (by omega) (by omega)) (by omega)))) (by omega) (by omega) (by omega)
            · skip
              refine z_iconst C dX11_isOpen_88 ?_
              refine z_goto (t := 93) C dX11_isOpen_89 (by decide) ?_
              refine z_istoren (L' := [(2, z_v 1), (4, z_v ((6 * e0) + (3 * i3))), (0, .ref (ad 0)), (1, z_v e0), (3, z_v i3)]) C dX11_isOpen_93 rfl (by decide) rfl ?_
              refine z_iinc (L' := [(3, z_v (i3 + 1)), (2, z_v 1), (4, z_v ((6 * e0) + (3 * i3))), (0, .ref (ad 0)), (1, z_v e0)]) C 4 dX11_isOpen_94 rfl (by decide) rfl ?_
              refine z_goto (t := 28) C dX11_isOpen_97 (by decide) ?_
              refine z_loc (L' := [(0, .ref (ad 0)), (1, z_v e0), (2, z_v 1), (3, z_v (i3 + 1))]) [3, 4, 1, 0] rfl ?_
              exact ih28 1 (i3 + 1) (by subst_vars; first | exact K.one (by omega) (fun a => ⟨a.1, z_snoc a.2 (by omega)⟩) | exact K.zero (Or.inl (by omega)) | exact K.zero (Or.inr (fun L => absurd (L.2 i3 (by omega) (by omega)) (by omega)))) (by omega) (by omega) (by omega)
    refine z_loc (L' := [(0, .ref (ad 0)), (1, z_v e0), (2, z_v 0), (3, z_v 0)]) [2, 3, 1, 0] rfl ?_
    exact (L28 (((2 : Int) - 0).toNat + 1)) 0 0 (by subst_vars; first | exact z_K3.ini ⟨by omega, z_vac⟩ | exact Or.inr ⟨rfl, fun h => absurd h.1 (by omega)⟩) (by omega) (by omega) (Nat.lt_succ_self _)
  · skip
    refine z_iconst C dX11_isOpen_20 ?_
    refine z_goto (t := 25) C dX11_isOpen_21 (by decide) ?_
    refine z_istoren (L' := [(2, z_v 1), (0, .ref (ad 0)), (1, z_v e0)]) C dX11_isOpen_25 rfl (by decide) rfl ?_
    refine z_iconst C dX11_isOpen_26 ?_
    refine z_istoren (L' := [(3, z_v 0), (2, z_v 1), (0, .ref (ad 0)), (1, z_v e0)]) C dX11_isOpen_27 rfl (by decide) rfl ?_
    have L28 : ∀ (n : Nat), ∀ (i2 : Int) (i3 : Int), (z_K3 i2 (a_at (a_machine e0.toNat).toNat = a_from e0.toNat ∧ ∀ j : Int, 0 ≤ j → j < i3 → z_pass (a_amounts (a_guardOf (6 * e0 + 3 * j).toNat).toNat) (a_guardOf (6 * e0 + 3 * j + 1).toNat) (a_guardOf (6 * e0 + 3 * j + 2).toNat)) (z_opn e0 a_machine a_from a_guards a_guardOf a_at a_amounts)) → (0 ≤ i3 ∧ i3 ≤ 2) → (i2 = 0 ∨ i2 = 1) → ((2 : Int) - i3).toNat < n → z_V p l e R s m args below meth c Q D A 24 ad 5 (z_zm ad ks s_edges s_isNeeded s_explored s_states s_isMoved s_runs s_runTime s_runMoves w_h a_machine a_from a_to a_channel a_resets a_guards a_guardOf a_limits a_limitOf a_places a_zones a_parent a_moveE a_moveF a_moves a_z a_ahead a_at a_amounts a_way a_moments a_runAt a_runClock) Y 0 0 28 [(0, .ref (ad 0)), (1, z_v e0), (2, z_v i2), (3, z_v i3)] [] := by
      intro n
      induction n with
      | zero => intro i2 i3 K I3 B2 hm; exact absurd hm (Nat.not_lt_zero _)
      | succ n ih28 =>
        intro i2 i3 K I3 B2 hm
        refine z_iloadn C 3 dX11_isOpen_28 rfl rfl ?_
        refine z_aloadn C 0 dX11_isOpen_29 rfl rfl ?_
        refine z_get C 0 (by decide) rfl rfl z_it11 6 (by decide) rfl fl_11_25 rfl dX11_isOpen_30 ?_
        refine z_iloadn C 1 dX11_isOpen_33 rfl rfl ?_
        refine z_iald C 6 (by decide) rfl (by decide) (by omega) (by omega) dX11_isOpen_34 ?_
        have rx16 := Ha_guards (e0 : Int).toNat
        generalize ex16 : a_guards (e0 : Int).toNat = x16 at rx16 ⊢
        refine z_icmp_ge (t := 100) C dX11_isOpen_35 (by decide) (by omega) (by omega) (fun c17 => ?_) (fun c17 => ?_)
        · skip
          refine z_iloadn C 2 dX11_isOpen_100 rfl rfl ?_
          rw [hQ]
          exact z_zret C hrt (by omega) dX11_isOpen_101 (⟨rfl, rfl, _, rfl, by subst_vars; exact K.fin (fun a => ⟨a.1, fun j h0 h1 => a.2 j h0 (by omega)⟩)⟩) (by omega) (by omega)
        · skip
          refine z_bipush C dX11_isOpen_38 (by decide) ?_
          refine z_iloadn C 1 dX11_isOpen_40 rfl rfl ?_
          refine z_imul C dX11_isOpen_41 ?_
          refine z_iconst C dX11_isOpen_42 ?_
          refine z_iloadn C 3 dX11_isOpen_43 rfl rfl ?_
          refine z_imul C dX11_isOpen_44 ?_
          refine z_iadd C dX11_isOpen_45 ?_
          refine z_istore (L' := [(4, z_v ((6 * e0) + (3 * i3))), (0, .ref (ad 0)), (1, z_v e0), (2, z_v i2), (3, z_v i3)]) C dX11_isOpen_46 (by decide) rfl ?_
          refine z_iloadn C 3 dX11_isOpen_48 rfl rfl ?_
          refine z_if_eq (t := 92) C dX11_isOpen_49 (by decide) (by omega) (fun c18 => ?_) (fun c18 => ?_)
          · skip
            refine z_iconst C dX11_isOpen_92 ?_
            refine z_istoren (L' := [(2, z_v 0), (4, z_v ((6 * e0) + (3 * i3))), (0, .ref (ad 0)), (1, z_v e0), (3, z_v i3)]) C dX11_isOpen_93 rfl (by decide) rfl ?_
            refine z_iinc (L' := [(3, z_v (i3 + 1)), (2, z_v 0), (4, z_v ((6 * e0) + (3 * i3))), (0, .ref (ad 0)), (1, z_v e0)]) C 4 dX11_isOpen_94 rfl (by decide) rfl ?_
            refine z_goto (t := 28) C dX11_isOpen_97 (by decide) ?_
            refine z_loc (L' := [(0, .ref (ad 0)), (1, z_v e0), (2, z_v 0), (3, z_v (i3 + 1))]) [3, 4, 1, 0] rfl ?_
            exact ih28 0 (i3 + 1) (by subst_vars; first | exact K.one (by omega) (fun a => ⟨a.1, z_snoc a.2 (by omega)⟩) | exact K.zero (Or.inl (by omega)) | exact K.zero (Or.inr (fun L => absurd (L.2 i3 (by omega) (by omega)) (by omega)))) (by omega) (by omega) (by omega)
          · skip
            refine z_aloadn C 1 dX11_isOpen_52 rfl rfl ?_
            refine z_get C 0 (by decide) rfl rfl z_it11 22 (by decide) rfl fl_11_68 rfl dX11_isOpen_53 ?_
            refine z_aloadn C 1 dX11_isOpen_56 rfl rfl ?_
            refine z_get C 0 (by decide) rfl rfl z_it11 7 (by decide) rfl fl_11_28 rfl dX11_isOpen_57 ?_
            refine z_iload C 0 dX11_isOpen_60 rfl ?_
            refine z_iald C 7 (by decide) rfl (by decide) (by omega) (by omega) dX11_isOpen_62 ?_
            have rx19 := Ha_guardOf (((6 * e0) + (3 * i3)) : Int).toNat
            generalize ex19 : a_guardOf (((6 * e0) + (3 * i3)) : Int).toNat = x19 at rx19 ⊢
            refine z_iald C 19 (by decide) rfl (by decide) (by omega) (by omega) dX11_isOpen_63 ?_
            have rx20 := Ha_amounts (x19 : Int).toNat
            generalize ex20 : a_amounts (x19 : Int).toNat = x20 at rx20 ⊢
            refine z_aloadn C 1 dX11_isOpen_64 rfl rfl ?_
            refine z_get C 0 (by decide) rfl rfl z_it11 7 (by decide) rfl fl_11_28 rfl dX11_isOpen_65 ?_
            refine z_iload C 0 dX11_isOpen_68 rfl ?_
            refine z_iconst C dX11_isOpen_70 ?_
            refine z_iadd C dX11_isOpen_71 ?_
            refine z_iald C 7 (by decide) rfl (by decide) (by omega) (by omega) dX11_isOpen_72 ?_
            have rx21 := Ha_guardOf ((((6 * e0) + (3 * i3)) + 1) : Int).toNat
            generalize ex21 : a_guardOf ((((6 * e0) + (3 * i3)) + 1) : Int).toNat = x21 at rx21 ⊢
            refine z_aloadn C 1 dX11_isOpen_73 rfl rfl ?_
            refine z_get C 0 (by decide) rfl rfl z_it11 7 (by decide) rfl fl_11_28 rfl dX11_isOpen_74 ?_
            refine z_iload C 0 dX11_isOpen_77 rfl ?_
            refine z_iconst C dX11_isOpen_79 ?_
            refine z_iadd C dX11_isOpen_80 ?_
            refine z_iald C 7 (by decide) rfl (by decide) (by omega) (by omega) dX11_isOpen_81 ?_
            have rx22 := Ha_guardOf ((((6 * e0) + (3 * i3)) + 2) : Int).toNat
            generalize ex22 : a_guardOf ((((6 * e0) + (3 * i3)) + 2) : Int).toNat = x22 at rx22 ⊢
            refine z_callS C (cx_X11_passes l x20 x21 x22 (by omega) (by omega) (by omega)) mv_11_203 pd_X11_passes ⟨by omega, by omega⟩ ⟨by omega, by omega⟩ rfl (Nat.le_of_ble_eq_true rfl) dX11_isOpen_82 ?_
            rintro _ _ _ ⟨rfl, rfl, z25, rfl, hz25⟩
            refine z_if_eq (t := 92) C dX11_isOpen_85 (by decide) (by omega) (fun c26 => ?_) (fun c26 => ?_)
            · skip
              refine z_iconst C dX11_isOpen_92 ?_
              refine z_istoren (L' := [(2, z_v 0), (4, z_v ((6 * e0) + (3 * i3))), (0, .ref (ad 0)), (1, z_v e0), (3, z_v i3)]) C dX11_isOpen_93 rfl (by decide) rfl ?_
              refine z_iinc (L' := [(3, z_v (i3 + 1)), (2, z_v 0), (4, z_v ((6 * e0) + (3 * i3))), (0, .ref (ad 0)), (1, z_v e0)]) C 4 dX11_isOpen_94 rfl (by decide) rfl ?_
              refine z_goto (t := 28) C dX11_isOpen_97 (by decide) ?_
              refine z_loc (L' := [(0, .ref (ad 0)), (1, z_v e0), (2, z_v 0), (3, z_v (i3 + 1))]) [3, 4, 1, 0] rfl ?_
              exact ih28 0 (i3 + 1) (by subst_vars; first | exact K.one (by omega) (fun a => ⟨a.1, z_snoc a.2 (by omega)⟩) | exact K.zero (Or.inl (by omega)) | exact K.zero (Or.inr (fun L => absurd (L.2 i3 (by omega) (by omega)) (by omega)))) (by omega) (by omega) (by omega)
            · skip
              refine z_iconst C dX11_isOpen_88 ?_
              refine z_goto (t := 93) C dX11_isOpen_89 (by decide) ?_
              refine z_istoren (L' := [(2, z_v 1), (4, z_v ((6 * e0) + (3 * i3))), (0, .ref (ad 0)), (1, z_v e0), (3, z_v i3)]) C dX11_isOpen_93 rfl (by decide) rfl ?_
              refine z_iinc (L' := [(3, z_v (i3 + 1)), (2, z_v 1), (4, z_v ((6 * e0) + (3 * i3))), (0, .ref (ad 0)), (1, z_v e0)]) C 4 dX11_isOpen_94 rfl (by decide) rfl ?_
              refine z_goto (t := 28) C dX11_isOpen_97 (by decide) ?_
              refine z_loc (L' := [(0, .ref (ad 0)), (1, z_v e0), (2, z_v 1), (3, z_v (i3 + 1))]) [3, 4, 1, 0] rfl ?_
              exact ih28 1 (i3 + 1) (by subst_vars; first | exact K.one (by omega) (fun a => ⟨a.1, z_snoc a.2 (by omega)⟩) | exact K.zero (Or.inl (by omega)) | exact K.zero (Or.inr (fun L => absurd (L.2 i3 (by omega) (by omega)) (by omega)))) (by omega) (by omega) (by omega)
    refine z_loc (L' := [(0, .ref (ad 0)), (1, z_v e0), (2, z_v 1), (3, z_v 0)]) [2, 3, 1, 0] rfl ?_
    exact (L28 (((2 : Int) - 0).toNat + 1)) 1 0 (by subst_vars; first | exact z_K3.ini ⟨by omega, z_vac⟩ | exact Or.inr ⟨rfl, fun h => absurd h.1 (by omega)⟩) (by omega) (by omega) (Nat.lt_succ_self _)
set_option maxRecDepth 20000 in
theorem cx_X11_look (l : Launch) {D : va_G} {A : Nat → Prop} {ad : Nat → Nat} {ks : z_Ks} {s_edges s_isNeeded s_explored s_states s_isMoved s_runs s_runTime s_runMoves : Int} {w_h : Int64} {a_machine a_from a_to a_channel a_resets a_guards a_guardOf a_limits a_limitOf a_places a_zones a_parent a_moveE a_moveF a_moves a_z a_ahead a_at a_amounts a_way a_moments a_runAt a_runClock : Nat → Int} {Y : Nat → Option va_E} (Ha_at : (∀ j, 0 ≤ a_at j ∧ a_at j ≤ 5)) (Ha_amounts : (∀ j, 0 ≤ a_amounts j ∧ a_amounts j ≤ 1064000)) (Ha_runAt : (∀ j, 0 ≤ a_runAt j ∧ a_runAt j ≤ 5)) (Ha_runClock : (∀ j, 0 ≤ a_runClock j ∧ a_runClock j ≤ 1000000)) : z_Met l yX11_look cX11_look 2 none 0 0 0 0 D A 24 ad ks [.ref (ad 0)] (z_zm ad ks s_edges s_isNeeded s_explored s_states s_isMoved s_runs s_runTime s_runMoves w_h a_machine a_from a_to a_channel a_resets a_guards a_guardOf a_limits a_limitOf a_places a_zones a_parent a_moveE a_moveF a_moves a_z a_ahead a_at a_amounts a_way a_moments a_runAt a_runClock) Y (fun r S' Y' => ∃ na_at : Nat → Int, ∃ na_amounts : Nat → Int, S' = (z_zm ad ks s_edges s_isNeeded s_explored s_states s_isMoved s_runs s_runTime s_runMoves w_h a_machine a_from a_to a_channel a_resets a_guards a_guardOf a_limits a_limitOf a_places a_zones a_parent a_moveE a_moveF a_moves a_z a_ahead na_at na_amounts a_way a_moments a_runAt a_runClock) ∧ Y = Y' ∧ (∀ j, 0 ≤ na_at j ∧ na_at j ≤ 5) ∧ (∀ j, 0 ≤ na_amounts j ∧ na_amounts j ≤ 1064000) ∧ (∀ j : Nat, j < 3 → na_at j = a_runAt j) ∧ (∀ j : Nat, j < 4 → na_amounts j = a_runClock j) ∧ r = none) := by
  refine z_start2 (by decide) (Nat.le_of_ble_eq_true rfl) ?_
  intro p e R s m args below meth c Q C hRf hRc hRs hRl hQ hrt hnm
  refine z_loc (L' := [(0, .ref (ad 0))]) [0] rfl ?_
  refine z_iconst C dX11_look_0 ?_
  refine z_istoren (L' := [(1, z_v 0), (0, .ref (ad 0))]) C dX11_look_1 rfl (by decide) rfl ?_
  have L2 : ∀ (n : Nat), ∀ (i1 : Int) (fa_at : Nat → Int), ((∀ j, 0 ≤ fa_at j ∧ fa_at j ≤ 5)) → (∀ j : Nat, (j : Int) < i1 → fa_at j = a_runAt j) → (0 ≤ i1 ∧ i1 ≤ 3) → ((3 : Int) - i1).toNat < n → z_V p l e R s m args below meth c Q D A 24 ad 2 (z_zm ad ks s_edges s_isNeeded s_explored s_states s_isMoved s_runs s_runTime s_runMoves w_h a_machine a_from a_to a_channel a_resets a_guards a_guardOf a_limits a_limitOf a_places a_zones a_parent a_moveE a_moveF a_moves a_z a_ahead fa_at a_amounts a_way a_moments a_runAt a_runClock) Y 0 0 2 [(0, .ref (ad 0)), (1, z_v i1)] [] := by
    intro n
    induction n with
    | zero => intro i1 fa_at Hfa_at Fa_at I1 hm; exact absurd hm (Nat.not_lt_zero _)
    | succ n ih2 =>
      intro i1 fa_at Hfa_at Fa_at I1 hm
      refine z_iloadn C 1 dX11_look_2 rfl rfl ?_
      refine z_iconst C dX11_look_3 ?_
      refine z_icmp_ge (t := 25) C dX11_look_4 (by decide) (by omega) (by omega) (fun c1 => ?_) (fun c1 => ?_)
      · skip
        refine z_iconst C dX11_look_25 ?_
        refine z_istoren (L' := [(1, z_v 0), (0, .ref (ad 0))]) C dX11_look_26 rfl (by decide) rfl ?_
        have L27 : ∀ (n : Nat), ∀ (i1 : Int) (fa_amounts : Nat → Int), ((∀ j, 0 ≤ fa_amounts j ∧ fa_amounts j ≤ 1064000)) → (∀ j : Nat, (j : Int) < i1 → fa_amounts j = a_runClock j) → (0 ≤ i1 ∧ i1 ≤ 4) → ((4 : Int) - i1).toNat < n → z_V p l e R s m args below meth c Q D A 24 ad 2 (z_zm ad ks s_edges s_isNeeded s_explored s_states s_isMoved s_runs s_runTime s_runMoves w_h a_machine a_from a_to a_channel a_resets a_guards a_guardOf a_limits a_limitOf a_places a_zones a_parent a_moveE a_moveF a_moves a_z a_ahead fa_at fa_amounts a_way a_moments a_runAt a_runClock) Y 0 0 27 [(0, .ref (ad 0)), (1, z_v i1)] [] := by
          intro n
          induction n with
          | zero => intro i1 fa_amounts Hfa_amounts Fa_amounts I1 hm; exact absurd hm (Nat.not_lt_zero _)
          | succ n ih27 =>
            intro i1 fa_amounts Hfa_amounts Fa_amounts I1 hm
            refine z_iloadn C 1 dX11_look_27 rfl rfl ?_
            refine z_iconst C dX11_look_28 ?_
            refine z_icmp_ge (t := 50) C dX11_look_29 (by decide) (by omega) (by omega) (fun c2 => ?_) (fun c2 => ?_)
            · skip
              rw [hQ]
              exact z_vret C hrt dX11_look_50 (⟨fa_at, fa_amounts, rfl, rfl, Hfa_at, Hfa_amounts, fun j hj => Fa_at j (by omega), fun j hj => Fa_amounts j (by omega), rfl⟩) (by omega) (by omega)
            · skip
              refine z_aloadn C 0 dX11_look_32 rfl rfl ?_
              refine z_get C 0 (by decide) rfl rfl z_it11 22 (by decide) rfl fl_11_68 rfl dX11_look_33 ?_
              refine z_iloadn C 1 dX11_look_36 rfl rfl ?_
              refine z_aloadn C 0 dX11_look_37 rfl rfl ?_
              refine z_get C 0 (by decide) rfl rfl z_it11 28 (by decide) rfl fl_11_80 rfl dX11_look_38 ?_
              refine z_iloadn C 1 dX11_look_41 rfl rfl ?_
              refine z_iald C 23 (by decide) rfl (by decide) (by omega) (by omega) dX11_look_42 ?_
              have rx3 := Ha_runClock (i1 : Int).toNat
              generalize ex3 : a_runClock (i1 : Int).toNat = x3 at rx3 ⊢
              refine z_iast C 19 (by decide) rfl (by decide) (by omega) (by omega) dX11_look_43 ?_
              refine z_ext (S' := (z_zm ad ks s_edges s_isNeeded s_explored s_states s_isMoved s_runs s_runTime s_runMoves w_h a_machine a_from a_to a_channel a_resets a_guards a_guardOf a_limits a_limitOf a_places a_zones a_parent a_moveE a_moveF a_moves a_z a_ahead fa_at (va_up fa_amounts (i1 : Int).toNat x3) a_way a_moments a_runAt a_runClock)) upM_a_amounts ?_
              have h4 : ∀ j, 0 ≤ (va_up fa_amounts (i1 : Int).toNat x3) j ∧ (va_up fa_amounts (i1 : Int).toNat x3) j ≤ 1064000 := z_upP (P := fun j v => 0 ≤ v ∧ v ≤ 1064000) Hfa_amounts (by omega)
              refine z_iinc (L' := [(1, z_v (i1 + 1)), (0, .ref (ad 0))]) C 1 dX11_look_44 rfl (by decide) rfl ?_
              refine z_goto (t := 27) C dX11_look_47 (by decide) ?_
              refine z_loc (L' := [(0, .ref (ad 0)), (1, z_v (i1 + 1))]) [1, 0] rfl ?_
              exact ih27 (i1 + 1) (va_up fa_amounts (i1 : Int).toNat x3) h4 (by subst_vars; exact z_cp_add Fa_amounts (by omega)) (by omega) (by omega)
        refine z_loc (L' := [(0, .ref (ad 0)), (1, z_v 0)]) [1, 0] rfl ?_
        exact (L27 (((4 : Int) - 0).toNat + 1)) 0 a_amounts Ha_amounts (fun j hj => absurd hj (by omega)) (by omega) (Nat.lt_succ_self _)
      · skip
        refine z_aloadn C 0 dX11_look_7 rfl rfl ?_
        refine z_get C 0 (by decide) rfl rfl z_it11 21 (by decide) rfl fl_11_65 rfl dX11_look_8 ?_
        refine z_iloadn C 1 dX11_look_11 rfl rfl ?_
        refine z_aloadn C 0 dX11_look_12 rfl rfl ?_
        refine z_get C 0 (by decide) rfl rfl z_it11 27 (by decide) rfl fl_11_77 rfl dX11_look_13 ?_
        refine z_iloadn C 1 dX11_look_16 rfl rfl ?_
        refine z_iald C 22 (by decide) rfl (by decide) (by omega) (by omega) dX11_look_17 ?_
        have rx5 := Ha_runAt (i1 : Int).toNat
        generalize ex5 : a_runAt (i1 : Int).toNat = x5 at rx5 ⊢
        refine z_iast C 18 (by decide) rfl (by decide) (by omega) (by omega) dX11_look_18 ?_
        refine z_ext (S' := (z_zm ad ks s_edges s_isNeeded s_explored s_states s_isMoved s_runs s_runTime s_runMoves w_h a_machine a_from a_to a_channel a_resets a_guards a_guardOf a_limits a_limitOf a_places a_zones a_parent a_moveE a_moveF a_moves a_z a_ahead (va_up fa_at (i1 : Int).toNat x5) a_amounts a_way a_moments a_runAt a_runClock)) upM_a_at ?_
        have h6 : ∀ j, 0 ≤ (va_up fa_at (i1 : Int).toNat x5) j ∧ (va_up fa_at (i1 : Int).toNat x5) j ≤ 5 := z_upP (P := fun j v => 0 ≤ v ∧ v ≤ 5) Hfa_at (by omega)
        refine z_iinc (L' := [(1, z_v (i1 + 1)), (0, .ref (ad 0))]) C 1 dX11_look_19 rfl (by decide) rfl ?_
        refine z_goto (t := 2) C dX11_look_22 (by decide) ?_
        refine z_loc (L' := [(0, .ref (ad 0)), (1, z_v (i1 + 1))]) [1, 0] rfl ?_
        exact ih2 (i1 + 1) (va_up fa_at (i1 : Int).toNat x5) h6 (by subst_vars; exact z_cp_add Fa_at (by omega)) (by omega) (by omega)
  refine z_loc (L' := [(0, .ref (ad 0)), (1, z_v 0)]) [1, 0] rfl ?_
  exact (L2 (((3 : Int) - 0).toNat + 1)) 0 a_at Ha_at (fun j hj => absurd hj (by omega)) (by omega) (Nat.lt_succ_self _)
set_option maxRecDepth 20000 in
theorem cx_X11_become (l : Launch) {D : va_G} {A : Nat → Prop} {ad : Nat → Nat} {ks : z_Ks} {s_edges s_isNeeded s_explored s_states s_isMoved s_runs s_runTime s_runMoves : Int} {w_h : Int64} {a_machine a_from a_to a_channel a_resets a_guards a_guardOf a_limits a_limitOf a_places a_zones a_parent a_moveE a_moveF a_moves a_z a_ahead a_at a_amounts a_way a_moments a_runAt a_runClock : Nat → Int} {Y : Nat → Option va_E} (Ha_at : (∀ j, 0 ≤ a_at j ∧ a_at j ≤ 5)) (Ha_amounts : (∀ j, 0 ≤ a_amounts j ∧ a_amounts j ≤ 1064000)) (Ha_runAt : (∀ j, 0 ≤ a_runAt j ∧ a_runAt j ≤ 5)) (Ha_runClock : (∀ j, 0 ≤ a_runClock j ∧ a_runClock j ≤ 1000000)) (hb : ∀ j : Nat, j < 4 → a_amounts j ≤ 1000000) : z_Met l yX11_become cX11_become 2 none 0 0 0 0 D A 24 ad ks [.ref (ad 0)] (z_zm ad ks s_edges s_isNeeded s_explored s_states s_isMoved s_runs s_runTime s_runMoves w_h a_machine a_from a_to a_channel a_resets a_guards a_guardOf a_limits a_limitOf a_places a_zones a_parent a_moveE a_moveF a_moves a_z a_ahead a_at a_amounts a_way a_moments a_runAt a_runClock) Y (fun r S' Y' => ∃ na_runAt : Nat → Int, ∃ na_runClock : Nat → Int, S' = (z_zm ad ks s_edges s_isNeeded s_explored s_states s_isMoved s_runs s_runTime s_runMoves w_h a_machine a_from a_to a_channel a_resets a_guards a_guardOf a_limits a_limitOf a_places a_zones a_parent a_moveE a_moveF a_moves a_z a_ahead a_at a_amounts a_way a_moments na_runAt na_runClock) ∧ Y = Y' ∧ (∀ j, 0 ≤ na_runAt j ∧ na_runAt j ≤ 5) ∧ (∀ j, 0 ≤ na_runClock j ∧ na_runClock j ≤ 1000000) ∧ (∀ j : Nat, j < 3 → na_runAt j = a_at j) ∧ (∀ j : Nat, j < 4 → na_runClock j = a_amounts j) ∧ r = none) := by
  refine z_start2 (by decide) (Nat.le_of_ble_eq_true rfl) ?_
  intro p e R s m args below meth c Q C hRf hRc hRs hRl hQ hrt hnm
  refine z_loc (L' := [(0, .ref (ad 0))]) [0] rfl ?_
  refine z_iconst C dX11_become_0 ?_
  refine z_istoren (L' := [(1, z_v 0), (0, .ref (ad 0))]) C dX11_become_1 rfl (by decide) rfl ?_
  have L2 : ∀ (n : Nat), ∀ (i1 : Int) (fa_runAt : Nat → Int), ((∀ j, 0 ≤ fa_runAt j ∧ fa_runAt j ≤ 5)) → (∀ j : Nat, (j : Int) < i1 → fa_runAt j = a_at j) → (0 ≤ i1 ∧ i1 ≤ 3) → ((3 : Int) - i1).toNat < n → z_V p l e R s m args below meth c Q D A 24 ad 2 (z_zm ad ks s_edges s_isNeeded s_explored s_states s_isMoved s_runs s_runTime s_runMoves w_h a_machine a_from a_to a_channel a_resets a_guards a_guardOf a_limits a_limitOf a_places a_zones a_parent a_moveE a_moveF a_moves a_z a_ahead a_at a_amounts a_way a_moments fa_runAt a_runClock) Y 0 0 2 [(0, .ref (ad 0)), (1, z_v i1)] [] := by
    intro n
    induction n with
    | zero => intro i1 fa_runAt Hfa_runAt Fa_runAt I1 hm; exact absurd hm (Nat.not_lt_zero _)
    | succ n ih2 =>
      intro i1 fa_runAt Hfa_runAt Fa_runAt I1 hm
      refine z_iloadn C 1 dX11_become_2 rfl rfl ?_
      refine z_iconst C dX11_become_3 ?_
      refine z_icmp_ge (t := 25) C dX11_become_4 (by decide) (by omega) (by omega) (fun c1 => ?_) (fun c1 => ?_)
      · skip
        refine z_iconst C dX11_become_25 ?_
        refine z_istoren (L' := [(1, z_v 0), (0, .ref (ad 0))]) C dX11_become_26 rfl (by decide) rfl ?_
        have L27 : ∀ (n : Nat), ∀ (i1 : Int) (fa_runClock : Nat → Int), ((∀ j, 0 ≤ fa_runClock j ∧ fa_runClock j ≤ 1000000)) → (∀ j : Nat, (j : Int) < i1 → fa_runClock j = a_amounts j) → (0 ≤ i1 ∧ i1 ≤ 4) → ((4 : Int) - i1).toNat < n → z_V p l e R s m args below meth c Q D A 24 ad 2 (z_zm ad ks s_edges s_isNeeded s_explored s_states s_isMoved s_runs s_runTime s_runMoves w_h a_machine a_from a_to a_channel a_resets a_guards a_guardOf a_limits a_limitOf a_places a_zones a_parent a_moveE a_moveF a_moves a_z a_ahead a_at a_amounts a_way a_moments fa_runAt fa_runClock) Y 0 0 27 [(0, .ref (ad 0)), (1, z_v i1)] [] := by
          intro n
          induction n with
          | zero => intro i1 fa_runClock Hfa_runClock Fa_runClock I1 hm; exact absurd hm (Nat.not_lt_zero _)
          | succ n ih27 =>
            intro i1 fa_runClock Hfa_runClock Fa_runClock I1 hm
            refine z_iloadn C 1 dX11_become_27 rfl rfl ?_
            refine z_iconst C dX11_become_28 ?_
            refine z_icmp_ge (t := 50) C dX11_become_29 (by decide) (by omega) (by omega) (fun c2 => ?_) (fun c2 => ?_)
            · skip
              rw [hQ]
              exact z_vret C hrt dX11_become_50 (⟨fa_runAt, fa_runClock, rfl, rfl, Hfa_runAt, Hfa_runClock, fun j hj => Fa_runAt j (by omega), fun j hj => Fa_runClock j (by omega), rfl⟩) (by omega) (by omega)
            · skip
              refine z_aloadn C 0 dX11_become_32 rfl rfl ?_
              refine z_get C 0 (by decide) rfl rfl z_it11 28 (by decide) rfl fl_11_80 rfl dX11_become_33 ?_
              refine z_iloadn C 1 dX11_become_36 rfl rfl ?_
              refine z_aloadn C 0 dX11_become_37 rfl rfl ?_
              refine z_get C 0 (by decide) rfl rfl z_it11 22 (by decide) rfl fl_11_68 rfl dX11_become_38 ?_
              refine z_iloadn C 1 dX11_become_41 rfl rfl ?_
              refine z_iald C 19 (by decide) rfl (by decide) (by omega) (by omega) dX11_become_42 ?_
              have rx3 := Ha_amounts (i1 : Int).toNat
              generalize ex3 : a_amounts (i1 : Int).toNat = x3 at rx3 ⊢
              have hb43 := hb (i1 : Int).toNat (by omega)
              refine z_iast C 23 (by decide) rfl (by decide) (by omega) (by omega) dX11_become_43 ?_
              refine z_ext (S' := (z_zm ad ks s_edges s_isNeeded s_explored s_states s_isMoved s_runs s_runTime s_runMoves w_h a_machine a_from a_to a_channel a_resets a_guards a_guardOf a_limits a_limitOf a_places a_zones a_parent a_moveE a_moveF a_moves a_z a_ahead a_at a_amounts a_way a_moments fa_runAt (va_up fa_runClock (i1 : Int).toNat x3))) upM_a_runClock ?_
              have h4 : ∀ j, 0 ≤ (va_up fa_runClock (i1 : Int).toNat x3) j ∧ (va_up fa_runClock (i1 : Int).toNat x3) j ≤ 1000000 := z_upP (P := fun j v => 0 ≤ v ∧ v ≤ 1000000) Hfa_runClock (by omega)
              refine z_iinc (L' := [(1, z_v (i1 + 1)), (0, .ref (ad 0))]) C 1 dX11_become_44 rfl (by decide) rfl ?_
              refine z_goto (t := 27) C dX11_become_47 (by decide) ?_
              refine z_loc (L' := [(0, .ref (ad 0)), (1, z_v (i1 + 1))]) [1, 0] rfl ?_
              exact ih27 (i1 + 1) (va_up fa_runClock (i1 : Int).toNat x3) h4 (by subst_vars; exact z_cp_add Fa_runClock (by omega)) (by omega) (by omega)
        refine z_loc (L' := [(0, .ref (ad 0)), (1, z_v 0)]) [1, 0] rfl ?_
        exact (L27 (((4 : Int) - 0).toNat + 1)) 0 a_runClock Ha_runClock (fun j hj => absurd hj (by omega)) (by omega) (Nat.lt_succ_self _)
      · skip
        refine z_aloadn C 0 dX11_become_7 rfl rfl ?_
        refine z_get C 0 (by decide) rfl rfl z_it11 27 (by decide) rfl fl_11_77 rfl dX11_become_8 ?_
        refine z_iloadn C 1 dX11_become_11 rfl rfl ?_
        refine z_aloadn C 0 dX11_become_12 rfl rfl ?_
        refine z_get C 0 (by decide) rfl rfl z_it11 21 (by decide) rfl fl_11_65 rfl dX11_become_13 ?_
        refine z_iloadn C 1 dX11_become_16 rfl rfl ?_
        refine z_iald C 18 (by decide) rfl (by decide) (by omega) (by omega) dX11_become_17 ?_
        have rx5 := Ha_at (i1 : Int).toNat
        generalize ex5 : a_at (i1 : Int).toNat = x5 at rx5 ⊢
        refine z_iast C 22 (by decide) rfl (by decide) (by omega) (by omega) dX11_become_18 ?_
        refine z_ext (S' := (z_zm ad ks s_edges s_isNeeded s_explored s_states s_isMoved s_runs s_runTime s_runMoves w_h a_machine a_from a_to a_channel a_resets a_guards a_guardOf a_limits a_limitOf a_places a_zones a_parent a_moveE a_moveF a_moves a_z a_ahead a_at a_amounts a_way a_moments (va_up fa_runAt (i1 : Int).toNat x5) a_runClock)) upM_a_runAt ?_
        have h6 : ∀ j, 0 ≤ (va_up fa_runAt (i1 : Int).toNat x5) j ∧ (va_up fa_runAt (i1 : Int).toNat x5) j ≤ 5 := z_upP (P := fun j v => 0 ≤ v ∧ v ≤ 5) Hfa_runAt (by omega)
        refine z_iinc (L' := [(1, z_v (i1 + 1)), (0, .ref (ad 0))]) C 1 dX11_become_19 rfl (by decide) rfl ?_
        refine z_goto (t := 2) C dX11_become_22 (by decide) ?_
        refine z_loc (L' := [(0, .ref (ad 0)), (1, z_v (i1 + 1))]) [1, 0] rfl ?_
        exact ih2 (i1 + 1) (va_up fa_runAt (i1 : Int).toNat x5) h6 (by subst_vars; exact z_cp_add Fa_runAt (by omega)) (by omega) (by omega)
  refine z_loc (L' := [(0, .ref (ad 0)), (1, z_v 0)]) [1, 0] rfl ?_
  exact (L2 (((3 : Int) - 0).toNat + 1)) 0 a_runAt Ha_runAt (fun j hj => absurd hj (by omega)) (by omega) (Nat.lt_succ_self _)
set_option maxRecDepth 20000 in
theorem cx_X11_begin (l : Launch) {D : va_G} {A : Nat → Prop} {ad : Nat → Nat} {ks : z_Ks} {s_edges s_isNeeded s_explored s_states s_isMoved s_runs s_runTime s_runMoves : Int} {w_h : Int64} {a_machine a_from a_to a_channel a_resets a_guards a_guardOf a_limits a_limitOf a_places a_zones a_parent a_moveE a_moveF a_moves a_z a_ahead a_at a_amounts a_way a_moments a_runAt a_runClock : Nat → Int} {Y : Nat → Option va_E} (Ha_at : (∀ j, 0 ≤ a_at j ∧ a_at j ≤ 5)) (Ha_amounts : (∀ j, 0 ≤ a_amounts j ∧ a_amounts j ≤ 1064000)) (Ha_runAt : (∀ j, 0 ≤ a_runAt j ∧ a_runAt j ≤ 5)) (Ha_runClock : (∀ j, 0 ≤ a_runClock j ∧ a_runClock j ≤ 1000000)) (Ha_limits : (∀ j, 0 ≤ a_limits j ∧ a_limits j ≤ 2)) (Ha_limitOf : (∀ j, (j % 3 = 0 → a_limitOf j ≤ 3) ∧ 0 ≤ a_limitOf j ∧ a_limitOf j ≤ 1000)) (Hs_runs : (s_runs = 0 ∨ s_runs = 1)) : z_Met l yX11_begin cX11_begin 2 (some .int) 2 48 0 0 D A 24 ad ks [.ref (ad 0)] (z_zm ad ks s_edges s_isNeeded s_explored s_states s_isMoved s_runs s_runTime s_runMoves w_h a_machine a_from a_to a_channel a_resets a_guards a_guardOf a_limits a_limitOf a_places a_zones a_parent a_moveE a_moveF a_moves a_z a_ahead a_at a_amounts a_way a_moments a_runAt a_runClock) Y (fun r S' Y' => ∃ na_at : Nat → Int, ∃ na_amounts : Nat → Int, ∃ na_runAt : Nat → Int, ∃ na_runClock : Nat → Int, ∃ ns_runs : Int, S' = (z_zm ad ks s_edges s_isNeeded s_explored s_states s_isMoved ns_runs 0 0 w_h a_machine a_from a_to a_channel a_resets a_guards a_guardOf a_limits a_limitOf a_places a_zones a_parent a_moveE a_moveF a_moves a_z a_ahead na_at na_amounts a_way a_moments na_runAt na_runClock) ∧ Y = Y' ∧ (∀ j, 0 ≤ na_at j ∧ na_at j ≤ 5) ∧ (∀ j, 0 ≤ na_amounts j ∧ na_amounts j ≤ 1064000) ∧ (∀ j, 0 ≤ na_runAt j ∧ na_runAt j ≤ 5) ∧ (∀ j, 0 ≤ na_runClock j ∧ na_runClock j ≤ 1000000) ∧ (ns_runs = 0 ∨ ns_runs = 1) ∧ (∀ j : Nat, j < 3 → na_runAt j = 0) ∧ (∀ j : Nat, j < 4 → na_runClock j = 0) ∧ (ns_runs = 1 ∧ (z_lim a_limits a_limitOf (fun _ => 0) (fun _ => 0)) ∨ ns_runs = 0 ∧ ¬ (z_lim a_limits a_limitOf (fun _ => 0) (fun _ => 0))) ∧ ∃ z : Int, r = some (z_v z) ∧ (z = ns_runs)) := by
  refine z_start2 (by decide) (Nat.le_of_ble_eq_true rfl) ?_
  intro p e R s m args below meth c Q C hRf hRc hRs hRl hQ hrt hnm
  refine z_loc (L' := [(0, .ref (ad 0))]) [0] rfl ?_
  refine z_iconst C dX11_begin_0 ?_
  refine z_istoren (L' := [(1, z_v 0), (0, .ref (ad 0))]) C dX11_begin_1 rfl (by decide) rfl ?_
  have L2 : ∀ (n : Nat), ∀ (i1 : Int) (fa_at : Nat → Int), ((∀ j, 0 ≤ fa_at j ∧ fa_at j ≤ 5)) → (∀ j : Nat, (j : Int) < i1 → fa_at j = 0) → (0 ≤ i1 ∧ i1 ≤ 3) → ((3 : Int) - i1).toNat < n → z_V p l e R s m args below meth c Q D A 24 ad 2 (z_zm ad ks s_edges s_isNeeded s_explored s_states s_isMoved s_runs s_runTime s_runMoves w_h a_machine a_from a_to a_channel a_resets a_guards a_guardOf a_limits a_limitOf a_places a_zones a_parent a_moveE a_moveF a_moves a_z a_ahead fa_at a_amounts a_way a_moments a_runAt a_runClock) Y 0 0 2 [(0, .ref (ad 0)), (1, z_v i1)] [] := by
    intro n
    induction n with
    | zero => intro i1 fa_at Hfa_at Fa_at I1 hm; exact absurd hm (Nat.not_lt_zero _)
    | succ n ih2 =>
      intro i1 fa_at Hfa_at Fa_at I1 hm
      refine z_iloadn C 1 dX11_begin_2 rfl rfl ?_
      refine z_iconst C dX11_begin_3 ?_
      refine z_icmp_ge (t := 20) C dX11_begin_4 (by decide) (by omega) (by omega) (fun c1 => ?_) (fun c1 => ?_)
      · skip
        refine z_iconst C dX11_begin_20 ?_
        refine z_istoren (L' := [(1, z_v 0), (0, .ref (ad 0))]) C dX11_begin_21 rfl (by decide) rfl ?_
        have L22 : ∀ (n : Nat), ∀ (i1 : Int) (fa_amounts : Nat → Int), ((∀ j, 0 ≤ fa_amounts j ∧ fa_amounts j ≤ 1064000)) → (∀ j : Nat, (j : Int) < i1 → fa_amounts j = 0) → (0 ≤ i1 ∧ i1 ≤ 4) → ((4 : Int) - i1).toNat < n → z_V p l e R s m args below meth c Q D A 24 ad 2 (z_zm ad ks s_edges s_isNeeded s_explored s_states s_isMoved s_runs s_runTime s_runMoves w_h a_machine a_from a_to a_channel a_resets a_guards a_guardOf a_limits a_limitOf a_places a_zones a_parent a_moveE a_moveF a_moves a_z a_ahead fa_at fa_amounts a_way a_moments a_runAt a_runClock) Y 0 0 22 [(0, .ref (ad 0)), (1, z_v i1)] [] := by
          intro n
          induction n with
          | zero => intro i1 fa_amounts Hfa_amounts Fa_amounts I1 hm; exact absurd hm (Nat.not_lt_zero _)
          | succ n ih22 =>
            intro i1 fa_amounts Hfa_amounts Fa_amounts I1 hm
            refine z_iloadn C 1 dX11_begin_22 rfl rfl ?_
            refine z_iconst C dX11_begin_23 ?_
            refine z_icmp_ge (t := 40) C dX11_begin_24 (by decide) (by omega) (by omega) (fun c2 => ?_) (fun c2 => ?_)
            · skip
              refine z_aloadn C 0 dX11_begin_40 rfl rfl ?_
              refine z_aloadn C 0 dX11_begin_41 rfl rfl ?_
              refine z_callV C (cx_X11_areKept l Hfa_at Ha_limits Ha_limitOf Hfa_amounts) mv_11_206 (z_atS 0 11 (by decide) rfl rfl rfl) pd_X11_areKept ⟨by omega, by omega⟩ ⟨by omega, by omega⟩ rfl (Nat.le_of_ble_eq_true rfl) dX11_begin_42 ?_
              rintro _ _ _ ⟨rfl, rfl, z5, rfl, hz5⟩
              have hKp := hz5
              refine z_put C 0 (by decide) rfl rfl z_it11 tyX11 tyX11_ok nmX11 26 (by decide) rfl (Or.inl rfl) fl_11_83 z_pfZ (z_nbZ (by omega)).1 (z_nbZ (by omega)).2 (Nat.le_of_ble_eq_true rfl) dX11_begin_45 ?_
              refine z_ext (S' := (z_zm ad ks s_edges s_isNeeded s_explored s_states s_isMoved z5 s_runTime s_runMoves w_h a_machine a_from a_to a_channel a_resets a_guards a_guardOf a_limits a_limitOf a_places a_zones a_parent a_moveE a_moveF a_moves a_z a_ahead fa_at fa_amounts a_way a_moments a_runAt a_runClock)) upM_s_runs ?_
              refine z_aloadn C 0 dX11_begin_48 rfl rfl ?_
              refine z_callV C (cx_X11_become l Hfa_at Hfa_amounts Ha_runAt Ha_runClock (fun j hj => by have := Fa_amounts j (by omega); omega)) mv_11_209 (z_atS 0 11 (by decide) rfl rfl rfl) pd_X11_become ⟨by omega, by omega⟩ ⟨by omega, by omega⟩ rfl (Nat.le_of_ble_eq_true rfl) dX11_begin_49 ?_
              rintro _ _ _ ⟨n6, n7, rfl, rfl, h10, h11, q49_0, q49_1, rfl⟩
              refine z_aloadn C 0 dX11_begin_52 rfl rfl ?_
              refine z_iconst C dX11_begin_53 ?_
              refine z_put C 0 (by decide) rfl rfl z_it11 tyX11 tyX11_ok nmX11 29 (by decide) rfl (Or.inl rfl) fl_11_212 z_pfI rfl rfl (Nat.le_of_ble_eq_true rfl) dX11_begin_54 ?_
              refine z_ext (S' := (z_zm ad ks s_edges s_isNeeded s_explored s_states s_isMoved z5 0 s_runMoves w_h a_machine a_from a_to a_channel a_resets a_guards a_guardOf a_limits a_limitOf a_places a_zones a_parent a_moveE a_moveF a_moves a_z a_ahead fa_at fa_amounts a_way a_moments n6 n7)) upM_s_runTime ?_
              refine z_aloadn C 0 dX11_begin_57 rfl rfl ?_
              refine z_iconst C dX11_begin_58 ?_
              refine z_put C 0 (by decide) rfl rfl z_it11 tyX11 tyX11_ok nmX11 30 (by decide) rfl (Or.inl rfl) fl_11_215 z_pfI rfl rfl (Nat.le_of_ble_eq_true rfl) dX11_begin_59 ?_
              refine z_ext (S' := (z_zm ad ks s_edges s_isNeeded s_explored s_states s_isMoved z5 0 0 w_h a_machine a_from a_to a_channel a_resets a_guards a_guardOf a_limits a_limitOf a_places a_zones a_parent a_moveE a_moveF a_moves a_z a_ahead fa_at fa_amounts a_way a_moments n6 n7)) upM_s_runMoves ?_
              refine z_aloadn C 0 dX11_begin_62 rfl rfl ?_
              refine z_get C 0 (by decide) rfl rfl z_it11 26 (by decide) rfl fl_11_83 rfl dX11_begin_63 ?_
              refine z_if_eq (t := 73) C dX11_begin_66 (by decide) (by omega) (fun c12 => ?_) (fun c12 => ?_)
              · skip
                refine z_iconst C dX11_begin_73 ?_
                rw [hQ]
                exact z_iret C hrt dX11_begin_74 (⟨fa_at, fa_amounts, n6, n7, z5, rfl, rfl, Hfa_at, Hfa_amounts, h10, h11, by omega, fun j hj => (q49_0 j hj).trans (Fa_at j (by omega)), fun j hj => (q49_1 j hj).trans (Fa_amounts j (by omega)), z_isz_iff hKp (z_lim.iff (z_ckM Ha_limitOf) (fun j hj => by have := Hfa_at j; omega) (fun j hj => Fa_at j (by omega)) (fun x hx => Fa_amounts x (by omega))), _, rfl, by omega⟩) (by omega) (by omega)
              · skip
                refine z_iconst C dX11_begin_69 ?_
                refine z_goto (t := 74) C dX11_begin_70 (by decide) ?_
                rw [hQ]
                exact z_iret C hrt dX11_begin_74 (⟨fa_at, fa_amounts, n6, n7, z5, rfl, rfl, Hfa_at, Hfa_amounts, h10, h11, by omega, fun j hj => (q49_0 j hj).trans (Fa_at j (by omega)), fun j hj => (q49_1 j hj).trans (Fa_amounts j (by omega)), z_isz_iff hKp (z_lim.iff (z_ckM Ha_limitOf) (fun j hj => by have := Hfa_at j; omega) (fun j hj => Fa_at j (by omega)) (fun x hx => Fa_amounts x (by omega))), _, rfl, by omega⟩) (by omega) (by omega)
            · skip
              refine z_aloadn C 0 dX11_begin_27 rfl rfl ?_
              refine z_get C 0 (by decide) rfl rfl z_it11 22 (by decide) rfl fl_11_68 rfl dX11_begin_28 ?_
              refine z_iloadn C 1 dX11_begin_31 rfl rfl ?_
              refine z_iconst C dX11_begin_32 ?_
              refine z_iast C 19 (by decide) rfl (by decide) (by omega) (by omega) dX11_begin_33 ?_
              refine z_ext (S' := (z_zm ad ks s_edges s_isNeeded s_explored s_states s_isMoved s_runs s_runTime s_runMoves w_h a_machine a_from a_to a_channel a_resets a_guards a_guardOf a_limits a_limitOf a_places a_zones a_parent a_moveE a_moveF a_moves a_z a_ahead fa_at (va_up fa_amounts (i1 : Int).toNat 0) a_way a_moments a_runAt a_runClock)) upM_a_amounts ?_
              have h13 : ∀ j, 0 ≤ (va_up fa_amounts (i1 : Int).toNat 0) j ∧ (va_up fa_amounts (i1 : Int).toNat 0) j ≤ 1064000 := z_upP (P := fun j v => 0 ≤ v ∧ v ≤ 1064000) Hfa_amounts (by omega)
              refine z_iinc (L' := [(1, z_v (i1 + 1)), (0, .ref (ad 0))]) C 1 dX11_begin_34 rfl (by decide) rfl ?_
              refine z_goto (t := 22) C dX11_begin_37 (by decide) ?_
              refine z_loc (L' := [(0, .ref (ad 0)), (1, z_v (i1 + 1))]) [1, 0] rfl ?_
              exact ih22 (i1 + 1) (va_up fa_amounts (i1 : Int).toNat 0) h13 (z_fill_add Fa_amounts (by omega)) (by omega) (by omega)
        refine z_loc (L' := [(0, .ref (ad 0)), (1, z_v 0)]) [1, 0] rfl ?_
        exact (L22 (((4 : Int) - 0).toNat + 1)) 0 a_amounts Ha_amounts (fun j hj => absurd hj (by omega)) (by omega) (Nat.lt_succ_self _)
      · skip
        refine z_aloadn C 0 dX11_begin_7 rfl rfl ?_
        refine z_get C 0 (by decide) rfl rfl z_it11 21 (by decide) rfl fl_11_65 rfl dX11_begin_8 ?_
        refine z_iloadn C 1 dX11_begin_11 rfl rfl ?_
        refine z_iconst C dX11_begin_12 ?_
        refine z_iast C 18 (by decide) rfl (by decide) (by omega) (by omega) dX11_begin_13 ?_
        refine z_ext (S' := (z_zm ad ks s_edges s_isNeeded s_explored s_states s_isMoved s_runs s_runTime s_runMoves w_h a_machine a_from a_to a_channel a_resets a_guards a_guardOf a_limits a_limitOf a_places a_zones a_parent a_moveE a_moveF a_moves a_z a_ahead (va_up fa_at (i1 : Int).toNat 0) a_amounts a_way a_moments a_runAt a_runClock)) upM_a_at ?_
        have h14 : ∀ j, 0 ≤ (va_up fa_at (i1 : Int).toNat 0) j ∧ (va_up fa_at (i1 : Int).toNat 0) j ≤ 5 := z_upP (P := fun j v => 0 ≤ v ∧ v ≤ 5) Hfa_at (by omega)
        refine z_iinc (L' := [(1, z_v (i1 + 1)), (0, .ref (ad 0))]) C 1 dX11_begin_14 rfl (by decide) rfl ?_
        refine z_goto (t := 2) C dX11_begin_17 (by decide) ?_
        refine z_loc (L' := [(0, .ref (ad 0)), (1, z_v (i1 + 1))]) [1, 0] rfl ?_
        exact ih2 (i1 + 1) (va_up fa_at (i1 : Int).toNat 0) h14 (z_fill_add Fa_at (by omega)) (by omega) (by omega)
  refine z_loc (L' := [(0, .ref (ad 0)), (1, z_v 0)]) [1, 0] rfl ?_
  exact (L2 (((3 : Int) - 0).toNat + 1)) 0 a_at Ha_at (fun j hj => absurd hj (by omega)) (by omega) (Nat.lt_succ_self _)
set_option maxRecDepth 20000 in
theorem cx_X11_pass (l : Launch) {D : va_G} {A : Nat → Prop} {ad : Nat → Nat} {ks : z_Ks} {s_edges s_isNeeded s_explored s_states s_isMoved s_runs s_runTime s_runMoves : Int} {w_h : Int64} {a_machine a_from a_to a_channel a_resets a_guards a_guardOf a_limits a_limitOf a_places a_zones a_parent a_moveE a_moveF a_moves a_z a_ahead a_at a_amounts a_way a_moments a_runAt a_runClock : Nat → Int} {Y : Nat → Option va_E} (n0 : Int) (Ha_at : (∀ j, 0 ≤ a_at j ∧ a_at j ≤ 5)) (Ha_amounts : (∀ j, 0 ≤ a_amounts j ∧ a_amounts j ≤ 1064000)) (Ha_runAt : (∀ j, 0 ≤ a_runAt j ∧ a_runAt j ≤ 5)) (Ha_runClock : (∀ j, 0 ≤ a_runClock j ∧ a_runClock j ≤ 1000000)) (Ha_limits : (∀ j, 0 ≤ a_limits j ∧ a_limits j ≤ 2)) (Ha_limitOf : (∀ j, (j % 3 = 0 → a_limitOf j ≤ 3) ∧ 0 ≤ a_limitOf j ∧ a_limitOf j ≤ 1000)) (Hs_runs : (s_runs = 0 ∨ s_runs = 1)) (hn : z_rg n0) : z_Met l yX11_pass cX11_pass 4 (some .int) 2 48 0 0 D A 24 ad ks [.ref (ad 0), z_v n0] (z_zm ad ks s_edges s_isNeeded s_explored s_states s_isMoved s_runs s_runTime s_runMoves w_h a_machine a_from a_to a_channel a_resets a_guards a_guardOf a_limits a_limitOf a_places a_zones a_parent a_moveE a_moveF a_moves a_z a_ahead a_at a_amounts a_way a_moments a_runAt a_runClock) Y (fun r S' Y' => ∃ na_at : Nat → Int, ∃ na_amounts : Nat → Int, ∃ na_runAt : Nat → Int, ∃ na_runClock : Nat → Int, ∃ ns_runTime : Int, S' = (z_zm ad ks s_edges s_isNeeded s_explored s_states s_isMoved s_runs ns_runTime s_runMoves w_h a_machine a_from a_to a_channel a_resets a_guards a_guardOf a_limits a_limitOf a_places a_zones a_parent a_moveE a_moveF a_moves a_z a_ahead na_at na_amounts a_way a_moments na_runAt na_runClock) ∧ Y = Y' ∧ (∀ j, 0 ≤ na_at j ∧ na_at j ≤ 5) ∧ (∀ j, 0 ≤ na_amounts j ∧ na_amounts j ≤ 1064000) ∧ (∀ j, 0 ≤ na_runAt j ∧ na_runAt j ≤ 5) ∧ (∀ j, 0 ≤ na_runClock j ∧ na_runClock j ≤ 1000000) ∧ ∃ z : Int, r = some (z_v z) ∧ (z_psR n0 s_runs z (z_far a_runClock n0) (z_lim a_limits a_limitOf a_runAt (z_sh a_runClock n0)) ∧ (z = 1 → (∀ j : Nat, j < 3 → na_runAt j = a_runAt j) ∧ (∀ j : Nat, j < 4 → na_runClock j = z_sh a_runClock n0 j) ∧ ns_runTime = s_runTime + n0) ∧ (z ≠ 1 → na_runAt = a_runAt ∧ na_runClock = a_runClock ∧ ns_runTime = s_runTime))) := by
  refine z_start2 (by decide) (Nat.le_of_ble_eq_true rfl) ?_
  intro p e R s m args below meth c Q C hRf hRc hRs hRl hQ hrt hnm
  refine z_loc (L' := [(0, .ref (ad 0)), (1, z_v n0)]) [0, 1] rfl ?_
  refine z_iloadn C 1 dX11_pass_0 rfl rfl ?_
  refine z_iconst C dX11_pass_1 ?_
  refine z_ldc (n := 64000) C kc_11_218 (by decide) dX11_pass_2 ?_
  refine z_callS C (cm_X11_in l n0 1 64000 (by omega) (by omega) (by omega)) mv_11_86 pd_X11_in ⟨by omega, by omega⟩ ⟨by omega, by omega⟩ rfl (Nat.le_of_ble_eq_true rfl) dX11_pass_4 ?_
  rintro _ _ _ ⟨rfl, rfl, z1, rfl, hz1⟩
  refine z_if_ne (t := 13) C dX11_pass_7 (by decide) (by omega) (fun c2 => ?_) (fun c2 => ?_)
  · skip
    refine z_aloadn C 0 dX11_pass_13 rfl rfl ?_
    refine z_get C 0 (by decide) rfl rfl z_it11 26 (by decide) rfl fl_11_83 rfl dX11_pass_14 ?_
    refine z_if_ne (t := 23) C dX11_pass_17 (by decide) (by omega) (fun c3 => ?_) (fun c3 => ?_)
    · skip
      refine z_aloadn C 0 dX11_pass_23 rfl rfl ?_
      refine z_callV C (cx_X11_look l Ha_at Ha_amounts Ha_runAt Ha_runClock) mv_11_219 (z_atS 0 11 (by decide) rfl rfl rfl) pd_X11_look ⟨by omega, by omega⟩ ⟨by omega, by omega⟩ rfl (Nat.le_of_ble_eq_true rfl) dX11_pass_24 ?_
      rintro _ _ _ ⟨n4, n5, rfl, rfl, h8, h9, q24_0, q24_1, rfl⟩
      refine z_iconst C dX11_pass_27 ?_
      refine z_istoren (L' := [(2, z_v 0), (0, .ref (ad 0)), (1, z_v n0)]) C dX11_pass_28 rfl (by decide) rfl ?_
      refine z_iconst C dX11_pass_29 ?_
      refine z_istoren (L' := [(3, z_v 1), (2, z_v 0), (0, .ref (ad 0)), (1, z_v n0)]) C dX11_pass_30 rfl (by decide) rfl ?_
      have L31 : ∀ (n : Nat), ∀ (i2 : Int) (i3 : Int) (fa_amounts : Nat → Int), ((∀ j, 0 ≤ fa_amounts j ∧ fa_amounts j ≤ 1064000)) → (∀ j : Nat, 1 ≤ j → (j : Int) < i3 → fa_amounts j = a_runClock j + n0) → (∀ j : Nat, j < 4 → ((j : Int) < 1 ∨ i3 ≤ (j : Int)) → fa_amounts j = a_runClock j) → (i2 = 1 ∧ z_fr a_runClock n0 i3 ∨ i2 = 0 ∧ ¬ z_fr a_runClock n0 i3) → (1 ≤ i3 ∧ i3 ≤ 4) → (i2 = 0 ∨ i2 = 1) → ((4 : Int) - i3).toNat < n → z_V p l e R s m args below meth c Q D A 24 ad 4 (z_zm ad ks s_edges s_isNeeded s_explored s_states s_isMoved s_runs s_runTime s_runMoves w_h a_machine a_from a_to a_channel a_resets a_guards a_guardOf a_limits a_limitOf a_places a_zones a_parent a_moveE a_moveF a_moves a_z a_ahead n4 fa_amounts a_way a_moments a_runAt a_runClock) Y 0 0 31 [(0, .ref (ad 0)), (1, z_v n0), (2, z_v i2), (3, z_v i3)] [] := by
        intro n
        induction n with
        | zero => intro i2 i3 fa_amounts Hfa_amounts FB FC FF I3 B2 hm; exact absurd hm (Nat.not_lt_zero _)
        | succ n ih31 =>
          intro i2 i3 fa_amounts Hfa_amounts FB FC FF I3 B2 hm
          refine z_iloadn C 3 dX11_pass_31 rfl rfl ?_
          refine z_iconst C dX11_pass_32 ?_
          refine z_icmp_ge (t := 73) C dX11_pass_33 (by decide) (by omega) (by omega) (fun c10 => ?_) (fun c10 => ?_)
          · skip
            refine z_iloadn C 2 dX11_pass_73 rfl rfl ?_
            refine z_if_eq (t := 80) C dX11_pass_74 (by decide) (by omega) (fun c11 => ?_) (fun c11 => ?_)
            · skip
              refine z_aloadn C 0 dX11_pass_80 rfl rfl ?_
              have hnf : ¬ z_far a_runClock n0 := fun q => z_isz0 FF (by omega) ((z_fr_far (by omega)).mpr q)
              have hsh := z_ps_sh FB FC (by omega)
              have hsr := z_sh_rg (fun j hj => Ha_runClock j) (by omega) hnf
              refine z_callV C (cx_X11_areKept l h8 Ha_limits Ha_limitOf Hfa_amounts) mv_11_206 (z_atS 0 11 (by decide) rfl rfl rfl) pd_X11_areKept ⟨by omega, by omega⟩ ⟨by omega, by omega⟩ rfl (Nat.le_of_ble_eq_true rfl) dX11_pass_81 ?_
              rintro _ _ _ ⟨rfl, rfl, z14, rfl, hz14⟩
              have hKp := z_isz_iff hz14 (z_lim.iff (z_ckM Ha_limitOf) (fun j hj => by rw [q24_0 j hj]; exact Ha_runAt j) q24_0 hsh)
              refine z_if_ne (t := 89) C dX11_pass_84 (by decide) (by omega) (fun c15 => ?_) (fun c15 => ?_)
              · skip
                refine z_aloadn C 0 dX11_pass_89 rfl rfl ?_
                refine z_callV C (cx_X11_become l h8 Hfa_amounts Ha_runAt Ha_runClock (fun j hj => by rw [hsh j hj]; exact (hsr j hj).2)) mv_11_209 (z_atS 0 11 (by decide) rfl rfl rfl) pd_X11_become ⟨by omega, by omega⟩ ⟨by omega, by omega⟩ rfl (Nat.le_of_ble_eq_true rfl) dX11_pass_90 ?_
                rintro _ _ _ ⟨n16, n17, rfl, rfl, h20, h21, q90_0, q90_1, rfl⟩
                refine z_aloadn C 0 dX11_pass_93 rfl rfl ?_
                refine z_dup C dX11_pass_94 rfl ?_
                refine z_get C 0 (by decide) rfl rfl z_it11 29 (by decide) rfl fl_11_212 rfl dX11_pass_95 ?_
                refine z_iloadn C 1 dX11_pass_98 rfl rfl ?_
                refine z_iadd C dX11_pass_99 ?_
                refine z_put C 0 (by decide) rfl rfl z_it11 tyX11 tyX11_ok nmX11 29 (by decide) rfl (Or.inl rfl) fl_11_212 z_pfI rfl rfl (Nat.le_of_ble_eq_true rfl) dX11_pass_100 ?_
                refine z_ext (S' := (z_zm ad ks s_edges s_isNeeded s_explored s_states s_isMoved s_runs (s_runTime + n0) s_runMoves w_h a_machine a_from a_to a_channel a_resets a_guards a_guardOf a_limits a_limitOf a_places a_zones a_parent a_moveE a_moveF a_moves a_z a_ahead n4 fa_amounts a_way a_moments n16 n17)) upM_s_runTime ?_
                refine z_iconst C dX11_pass_103 ?_
                rw [hQ]
                exact z_iret C hrt dX11_pass_104 (⟨n4, fa_amounts, n16, n17, (s_runTime + n0), rfl, rfl, h8, Hfa_amounts, h20, h21, _, rfl, ⟨Or.inr (Or.inr (Or.inl ⟨by omega, by omega, hnf, z_isz1 hKp (by omega), rfl⟩)), fun _ => ⟨fun j hj => (q90_0 j hj).trans (q24_0 j hj), fun j hj => (q90_1 j hj).trans (hsh j hj), rfl⟩, fun h => absurd rfl h⟩⟩) (by omega) (by omega)
              · skip
                refine z_iconst C dX11_pass_87 ?_
                rw [hQ]
                exact z_iret C hrt dX11_pass_88 (⟨n4, fa_amounts, a_runAt, a_runClock, s_runTime, rfl, rfl, h8, Hfa_amounts, Ha_runAt, Ha_runClock, _, rfl, ⟨Or.inr (Or.inr (Or.inr ⟨by omega, by omega, hnf, z_isz0 hKp (by omega), rfl⟩)), fun h => absurd h (by decide), fun _ => ⟨rfl, rfl, rfl⟩⟩⟩) (by omega) (by omega)
            · skip
              refine z_bipush C dX11_pass_77 (by decide) ?_
              rw [hQ]
              exact z_iret C hrt dX11_pass_79 (⟨n4, fa_amounts, a_runAt, a_runClock, s_runTime, rfl, rfl, h8, Hfa_amounts, Ha_runAt, Ha_runClock, _, rfl, ⟨Or.inr (Or.inl ⟨by omega, Or.inr ((z_fr_far (by omega)).mp (z_isz1 FF (by omega))), rfl⟩), fun h => absurd h (by decide), fun _ => ⟨rfl, rfl, rfl⟩⟩⟩) (by omega) (by omega)
          · skip
            refine z_aloadn C 0 dX11_pass_36 rfl rfl ?_
            refine z_get C 0 (by decide) rfl rfl z_it11 22 (by decide) rfl fl_11_68 rfl dX11_pass_37 ?_
            refine z_iloadn C 3 dX11_pass_40 rfl rfl ?_
            refine z_dup2 C dX11_pass_41 rfl rfl ?_
            refine z_iald C 19 (by decide) rfl (by decide) (by omega) (by omega) dX11_pass_42 ?_
            have rx22 := Hfa_amounts (i3 : Int).toNat
            generalize ex22 : fa_amounts (i3 : Int).toNat = x22 at rx22 ⊢
            refine z_iloadn C 1 dX11_pass_43 rfl rfl ?_
            refine z_iadd C dX11_pass_44 ?_
            have hc45 := FC (i3 : Int).toNat (by omega) (by omega)
            have hr45 := Ha_runClock (i3 : Int).toNat
            refine z_iast C 19 (by decide) rfl (by decide) (by omega) (by omega) dX11_pass_45 ?_
            refine z_ext (S' := (z_zm ad ks s_edges s_isNeeded s_explored s_states s_isMoved s_runs s_runTime s_runMoves w_h a_machine a_from a_to a_channel a_resets a_guards a_guardOf a_limits a_limitOf a_places a_zones a_parent a_moveE a_moveF a_moves a_z a_ahead n4 (va_up fa_amounts (i3 : Int).toNat (x22 + n0)) a_way a_moments a_runAt a_runClock)) upM_a_amounts ?_
            have h23 : ∀ j, 0 ≤ (va_up fa_amounts (i3 : Int).toNat (x22 + n0)) j ∧ (va_up fa_amounts (i3 : Int).toNat (x22 + n0)) j ≤ 1064000 := z_upP (P := fun j v => 0 ≤ v ∧ v ≤ 1064000) Hfa_amounts (by omega)
            refine z_iloadn C 2 dX11_pass_46 rfl rfl ?_
            refine z_if_ne (t := 61) C dX11_pass_47 (by decide) (by omega) (fun c24 => ?_) (fun c24 => ?_)
            · skip
              refine z_iconst C dX11_pass_61 ?_
              refine z_goto (t := 66) C dX11_pass_62 (by decide) ?_
              refine z_istoren (L' := [(2, z_v 1), (0, .ref (ad 0)), (1, z_v n0), (3, z_v i3)]) C dX11_pass_66 rfl (by decide) rfl ?_
              refine z_iinc (L' := [(3, z_v (i3 + 1)), (2, z_v 1), (0, .ref (ad 0)), (1, z_v n0)]) C 3 dX11_pass_67 rfl (by decide) rfl ?_
              refine z_goto (t := 31) C dX11_pass_70 (by decide) ?_
              refine z_loc (L' := [(0, .ref (ad 0)), (1, z_v n0), (2, z_v 1), (3, z_v (i3 + 1))]) [2, 3, 1, 0] rfl ?_
              exact ih31 1 (i3 + 1) (va_up fa_amounts (i3 : Int).toNat (x22 + n0)) h23 (z_psB FB (by omega) (by omega)) (z_psC FC (by omega)) (by first | exact Or.inl ⟨rfl, z_fr_up (z_isz1 FF (by omega))⟩ | exact Or.inl ⟨rfl, z_fr_at (by omega) (by omega)⟩ | exact Or.inr ⟨rfl, z_fr_no (z_isz0 FF (by omega)) (by omega)⟩) (by omega) (by omega) (by omega)
            · skip
              refine z_aloadn C 0 dX11_pass_50 rfl rfl ?_
              refine z_get C 0 (by decide) rfl rfl z_it11 22 (by decide) rfl fl_11_68 rfl dX11_pass_51 ?_
              refine z_iloadn C 3 dX11_pass_54 rfl rfl ?_
              refine z_iald C 19 (by decide) rfl (by decide) (by omega) (by omega) dX11_pass_55 ?_
              rw [z_upS]
              refine z_ldc (n := 1000000) C kc_11_173 (by decide) dX11_pass_56 ?_
              refine z_icmp_le (t := 65) C dX11_pass_58 (by decide) (by omega) (by omega) (fun c25 => ?_) (fun c25 => ?_)
              · skip
                refine z_iconst C dX11_pass_65 ?_
                refine z_istoren (L' := [(2, z_v 0), (0, .ref (ad 0)), (1, z_v n0), (3, z_v i3)]) C dX11_pass_66 rfl (by decide) rfl ?_
                refine z_iinc (L' := [(3, z_v (i3 + 1)), (2, z_v 0), (0, .ref (ad 0)), (1, z_v n0)]) C 3 dX11_pass_67 rfl (by decide) rfl ?_
                refine z_goto (t := 31) C dX11_pass_70 (by decide) ?_
                refine z_loc (L' := [(0, .ref (ad 0)), (1, z_v n0), (2, z_v 0), (3, z_v (i3 + 1))]) [2, 3, 1, 0] rfl ?_
                exact ih31 0 (i3 + 1) (va_up fa_amounts (i3 : Int).toNat (x22 + n0)) h23 (z_psB FB (by omega) (by omega)) (z_psC FC (by omega)) (by first | exact Or.inl ⟨rfl, z_fr_up (z_isz1 FF (by omega))⟩ | exact Or.inl ⟨rfl, z_fr_at (by omega) (by omega)⟩ | exact Or.inr ⟨rfl, z_fr_no (z_isz0 FF (by omega)) (by omega)⟩) (by omega) (by omega) (by omega)
              · skip
                refine z_iconst C dX11_pass_61 ?_
                refine z_goto (t := 66) C dX11_pass_62 (by decide) ?_
                refine z_istoren (L' := [(2, z_v 1), (0, .ref (ad 0)), (1, z_v n0), (3, z_v i3)]) C dX11_pass_66 rfl (by decide) rfl ?_
                refine z_iinc (L' := [(3, z_v (i3 + 1)), (2, z_v 1), (0, .ref (ad 0)), (1, z_v n0)]) C 3 dX11_pass_67 rfl (by decide) rfl ?_
                refine z_goto (t := 31) C dX11_pass_70 (by decide) ?_
                refine z_loc (L' := [(0, .ref (ad 0)), (1, z_v n0), (2, z_v 1), (3, z_v (i3 + 1))]) [2, 3, 1, 0] rfl ?_
                exact ih31 1 (i3 + 1) (va_up fa_amounts (i3 : Int).toNat (x22 + n0)) h23 (z_psB FB (by omega) (by omega)) (z_psC FC (by omega)) (by first | exact Or.inl ⟨rfl, z_fr_up (z_isz1 FF (by omega))⟩ | exact Or.inl ⟨rfl, z_fr_at (by omega) (by omega)⟩ | exact Or.inr ⟨rfl, z_fr_no (z_isz0 FF (by omega)) (by omega)⟩) (by omega) (by omega) (by omega)
      refine z_loc (L' := [(0, .ref (ad 0)), (1, z_v n0), (2, z_v 0), (3, z_v 1)]) [2, 3, 1, 0] rfl ?_
      exact (L31 (((4 : Int) - 1).toNat + 1)) 0 1 n5 h9 (fun j h1 h2 => absurd h2 (by omega)) (fun j h1 h2 => q24_1 j h1) (Or.inr ⟨rfl, z_fr_0⟩) (by omega) (by omega) (Nat.lt_succ_self _)
    · skip
      refine z_bipush C dX11_pass_20 (by decide) ?_
      rw [hQ]
      exact z_iret C hrt dX11_pass_22 (⟨a_at, a_amounts, a_runAt, a_runClock, s_runTime, rfl, rfl, Ha_at, Ha_amounts, Ha_runAt, Ha_runClock, _, rfl, ⟨Or.inr (Or.inl ⟨by omega, Or.inl (by omega), rfl⟩), fun h => absurd h (by decide), fun _ => ⟨rfl, rfl, rfl⟩⟩⟩) (by omega) (by omega)
  · skip
    refine z_bipush C dX11_pass_10 (by decide) ?_
    rw [hQ]
    exact z_iret C hrt dX11_pass_12 (⟨a_at, a_amounts, a_runAt, a_runClock, s_runTime, rfl, rfl, Ha_at, Ha_amounts, Ha_runAt, Ha_runClock, _, rfl, ⟨Or.inl ⟨by omega, rfl⟩, fun h => absurd h (by decide), fun _ => ⟨rfl, rfl, rfl⟩⟩⟩) (by omega) (by omega)
set_option maxRecDepth 20000 in
theorem cx_X11_isMove (l : Launch) {D : va_G} {A : Nat → Prop} {ad : Nat → Nat} {ks : z_Ks} {s_edges s_isNeeded s_explored s_states s_isMoved s_runs s_runTime s_runMoves : Int} {w_h : Int64} {a_machine a_from a_to a_channel a_resets a_guards a_guardOf a_limits a_limitOf a_places a_zones a_parent a_moveE a_moveF a_moves a_z a_ahead a_at a_amounts a_way a_moments a_runAt a_runClock : Nat → Int} {Y : Nat → Option va_E} (e0 f0 : Int) (Ha_channel : (∀ j, -4 ≤ a_channel j ∧ a_channel j ≤ 4)) (Ha_machine : (∀ j, 0 ≤ a_machine j ∧ a_machine j ≤ 2)) (he : 0 ≤ e0 ∧ e0 ≤ 19) (hf : -1 ≤ f0 ∧ f0 ≤ 19) : z_Met l yX11_isMove cX11_isMove 3 (some .boolean) 0 0 0 0 D A 24 ad ks [.ref (ad 0), z_v e0, z_v f0] (z_zm ad ks s_edges s_isNeeded s_explored s_states s_isMoved s_runs s_runTime s_runMoves w_h a_machine a_from a_to a_channel a_resets a_guards a_guardOf a_limits a_limitOf a_places a_zones a_parent a_moveE a_moveF a_moves a_z a_ahead a_at a_amounts a_way a_moments a_runAt a_runClock) Y (fun r S' Y' => S' = (z_zm ad ks s_edges s_isNeeded s_explored s_states s_isMoved s_runs s_runTime s_runMoves w_h a_machine a_from a_to a_channel a_resets a_guards a_guardOf a_limits a_limitOf a_places a_zones a_parent a_moveE a_moveF a_moves a_z a_ahead a_at a_amounts a_way a_moments a_runAt a_runClock) ∧ Y = Y' ∧ ∃ z : Int, r = some (z_v z) ∧ (z = 1 ∧ (z_isM e0 f0 a_machine a_channel) ∨ z = 0 ∧ ¬ (z_isM e0 f0 a_machine a_channel))) := by
  refine z_start2 (by decide) (Nat.le_of_ble_eq_true rfl) ?_
  intro p e R s m args below meth c Q C hRf hRc hRs hRl hQ hrt hnm
  refine z_loc (L' := [(0, .ref (ad 0)), (1, z_v e0), (2, z_v f0)]) [0, 1, 2] rfl ?_
  refine z_iloadn C 2 dX11_isMove_0 rfl rfl ?_
  refine z_iconst C dX11_isMove_1 ?_
  refine z_icmp_ne (t := 22) C dX11_isMove_2 (by decide) (by omega) (by omega) (fun c1 => ?_) (fun c1 => ?_)
  · skip
    refine z_aloadn C 0 dX11_isMove_22 rfl rfl ?_
    refine z_get C 0 (by decide) rfl rfl z_it11 4 (by decide) rfl fl_11_19 rfl dX11_isMove_23 ?_
    refine z_iloadn C 1 dX11_isMove_26 rfl rfl ?_
    refine z_iald C 4 (by decide) rfl (by decide) (by omega) (by omega) dX11_isMove_27 ?_
    have rx2 := Ha_channel (e0 : Int).toNat
    generalize ex2 : a_channel (e0 : Int).toNat = x2 at rx2 ⊢
    refine z_if_le (t := 66) C dX11_isMove_28 (by decide) (by omega) (fun c3 => ?_) (fun c3 => ?_)
    · skip
      refine z_iconst C dX11_isMove_66 ?_
      rw [hQ]
      exact z_zret C hrt (by omega) dX11_isMove_67 (⟨rfl, rfl, _, rfl, by unfold z_isM; omega⟩) (by omega) (by omega)
    · skip
      refine z_aloadn C 0 dX11_isMove_31 rfl rfl ?_
      refine z_get C 0 (by decide) rfl rfl z_it11 4 (by decide) rfl fl_11_19 rfl dX11_isMove_32 ?_
      refine z_iloadn C 2 dX11_isMove_35 rfl rfl ?_
      refine z_iald C 4 (by decide) rfl (by decide) (by omega) (by omega) dX11_isMove_36 ?_
      have rx4 := Ha_channel (f0 : Int).toNat
      generalize ex4 : a_channel (f0 : Int).toNat = x4 at rx4 ⊢
      refine z_aloadn C 0 dX11_isMove_37 rfl rfl ?_
      refine z_get C 0 (by decide) rfl rfl z_it11 4 (by decide) rfl fl_11_19 rfl dX11_isMove_38 ?_
      refine z_iloadn C 1 dX11_isMove_41 rfl rfl ?_
      refine z_iald C 4 (by decide) rfl (by decide) (by omega) (by omega) dX11_isMove_42 ?_
      rw [ex2]
      refine z_ineg C dX11_isMove_43 ?_
      refine z_icmp_ne (t := 66) C dX11_isMove_44 (by decide) (by omega) (by omega) (fun c5 => ?_) (fun c5 => ?_)
      · skip
        refine z_iconst C dX11_isMove_66 ?_
        rw [hQ]
        exact z_zret C hrt (by omega) dX11_isMove_67 (⟨rfl, rfl, _, rfl, by unfold z_isM; omega⟩) (by omega) (by omega)
      · skip
        refine z_aloadn C 0 dX11_isMove_47 rfl rfl ?_
        refine z_get C 0 (by decide) rfl rfl z_it11 1 (by decide) rfl fl_11_7 rfl dX11_isMove_48 ?_
        refine z_iloadn C 1 dX11_isMove_51 rfl rfl ?_
        refine z_iald C 1 (by decide) rfl (by decide) (by omega) (by omega) dX11_isMove_52 ?_
        have rx6 := Ha_machine (e0 : Int).toNat
        generalize ex6 : a_machine (e0 : Int).toNat = x6 at rx6 ⊢
        refine z_aloadn C 0 dX11_isMove_53 rfl rfl ?_
        refine z_get C 0 (by decide) rfl rfl z_it11 1 (by decide) rfl fl_11_7 rfl dX11_isMove_54 ?_
        refine z_iloadn C 2 dX11_isMove_57 rfl rfl ?_
        refine z_iald C 1 (by decide) rfl (by decide) (by omega) (by omega) dX11_isMove_58 ?_
        have rx7 := Ha_machine (f0 : Int).toNat
        generalize ex7 : a_machine (f0 : Int).toNat = x7 at rx7 ⊢
        refine z_icmp_eq (t := 66) C dX11_isMove_59 (by decide) (by omega) (by omega) (fun c8 => ?_) (fun c8 => ?_)
        · skip
          refine z_iconst C dX11_isMove_66 ?_
          rw [hQ]
          exact z_zret C hrt (by omega) dX11_isMove_67 (⟨rfl, rfl, _, rfl, by unfold z_isM; omega⟩) (by omega) (by omega)
        · skip
          refine z_iconst C dX11_isMove_62 ?_
          refine z_goto (t := 67) C dX11_isMove_63 (by decide) ?_
          rw [hQ]
          exact z_zret C hrt (by omega) dX11_isMove_67 (⟨rfl, rfl, _, rfl, by unfold z_isM; omega⟩) (by omega) (by omega)
  · skip
    refine z_aloadn C 0 dX11_isMove_5 rfl rfl ?_
    refine z_get C 0 (by decide) rfl rfl z_it11 4 (by decide) rfl fl_11_19 rfl dX11_isMove_6 ?_
    refine z_iloadn C 1 dX11_isMove_9 rfl rfl ?_
    refine z_iald C 4 (by decide) rfl (by decide) (by omega) (by omega) dX11_isMove_10 ?_
    have rx9 := Ha_channel (e0 : Int).toNat
    generalize ex9 : a_channel (e0 : Int).toNat = x9 at rx9 ⊢
    refine z_if_ne (t := 18) C dX11_isMove_11 (by decide) (by omega) (fun c10 => ?_) (fun c10 => ?_)
    · skip
      refine z_iconst C dX11_isMove_18 ?_
      refine z_goto (t := 67) C dX11_isMove_19 (by decide) ?_
      rw [hQ]
      exact z_zret C hrt (by omega) dX11_isMove_67 (⟨rfl, rfl, _, rfl, by unfold z_isM; omega⟩) (by omega) (by omega)
    · skip
      refine z_iconst C dX11_isMove_14 ?_
      refine z_goto (t := 67) C dX11_isMove_15 (by decide) ?_
      rw [hQ]
      exact z_zret C hrt (by omega) dX11_isMove_67 (⟨rfl, rfl, _, rfl, by unfold z_isM; omega⟩) (by omega) (by omega)
set_option maxRecDepth 20000 in
theorem cx_X11_go (l : Launch) {D : va_G} {A : Nat → Prop} {ad : Nat → Nat} {ks : z_Ks} {s_edges s_isNeeded s_explored s_states s_isMoved s_runs s_runTime s_runMoves : Int} {w_h : Int64} {a_machine a_from a_to a_channel a_resets a_guards a_guardOf a_limits a_limitOf a_places a_zones a_parent a_moveE a_moveF a_moves a_z a_ahead a_at a_amounts a_way a_moments a_runAt a_runClock : Nat → Int} {Y : Nat → Option va_E} (e0 : Int) (Ha_at : (∀ j, 0 ≤ a_at j ∧ a_at j ≤ 5)) (Ha_machine : (∀ j, 0 ≤ a_machine j ∧ a_machine j ≤ 2)) (Ha_to : (∀ j, 0 ≤ a_to j ∧ a_to j ≤ 5)) (Ha_resets : (∀ j, z_rg (a_resets j))) (Ha_amounts : (∀ j, 0 ≤ a_amounts j ∧ a_amounts j ≤ 1064000)) (he : 0 ≤ e0 ∧ e0 ≤ 19) : z_Met l yX11_go cX11_go 3 none 0 0 0 0 D A 24 ad ks [.ref (ad 0), z_v e0] (z_zm ad ks s_edges s_isNeeded s_explored s_states s_isMoved s_runs s_runTime s_runMoves w_h a_machine a_from a_to a_channel a_resets a_guards a_guardOf a_limits a_limitOf a_places a_zones a_parent a_moveE a_moveF a_moves a_z a_ahead a_at a_amounts a_way a_moments a_runAt a_runClock) Y (fun r S' Y' => ∃ na_at : Nat → Int, ∃ na_amounts : Nat → Int, S' = (z_zm ad ks s_edges s_isNeeded s_explored s_states s_isMoved s_runs s_runTime s_runMoves w_h a_machine a_from a_to a_channel a_resets a_guards a_guardOf a_limits a_limitOf a_places a_zones a_parent a_moveE a_moveF a_moves a_z a_ahead na_at na_amounts a_way a_moments a_runAt a_runClock) ∧ Y = Y' ∧ (∀ j, 0 ≤ na_at j ∧ na_at j ≤ 5) ∧ (∀ j, 0 ≤ na_amounts j ∧ na_amounts j ≤ 1064000) ∧ na_at = va_up a_at (a_machine e0.toNat).toNat (a_to e0.toNat) ∧ (∀ j : Nat, j < 4 → na_amounts j = if 1 ≤ j ∧ z_btv (a_resets e0.toNat) j ≠ 0 then 0 else a_amounts j) ∧ r = none) := by
  refine z_start2 (by decide) (Nat.le_of_ble_eq_true rfl) ?_
  intro p e R s m args below meth c Q C hRf hRc hRs hRl hQ hrt hnm
  refine z_loc (L' := [(0, .ref (ad 0)), (1, z_v e0)]) [0, 1] rfl ?_
  refine z_aloadn C 0 dX11_go_0 rfl rfl ?_
  refine z_get C 0 (by decide) rfl rfl z_it11 21 (by decide) rfl fl_11_65 rfl dX11_go_1 ?_
  refine z_aloadn C 0 dX11_go_4 rfl rfl ?_
  refine z_get C 0 (by decide) rfl rfl z_it11 1 (by decide) rfl fl_11_7 rfl dX11_go_5 ?_
  refine z_iloadn C 1 dX11_go_8 rfl rfl ?_
  refine z_iald C 1 (by decide) rfl (by decide) (by omega) (by omega) dX11_go_9 ?_
  have rx1 := Ha_machine (e0 : Int).toNat
  generalize ex1 : a_machine (e0 : Int).toNat = x1 at rx1 ⊢
  refine z_aloadn C 0 dX11_go_10 rfl rfl ?_
  refine z_get C 0 (by decide) rfl rfl z_it11 3 (by decide) rfl fl_11_16 rfl dX11_go_11 ?_
  refine z_iloadn C 1 dX11_go_14 rfl rfl ?_
  refine z_iald C 3 (by decide) rfl (by decide) (by omega) (by omega) dX11_go_15 ?_
  have rx2 := Ha_to (e0 : Int).toNat
  generalize ex2 : a_to (e0 : Int).toNat = x2 at rx2 ⊢
  refine z_iast C 18 (by decide) rfl (by decide) (by omega) (by omega) dX11_go_16 ?_
  refine z_ext (S' := (z_zm ad ks s_edges s_isNeeded s_explored s_states s_isMoved s_runs s_runTime s_runMoves w_h a_machine a_from a_to a_channel a_resets a_guards a_guardOf a_limits a_limitOf a_places a_zones a_parent a_moveE a_moveF a_moves a_z a_ahead (va_up a_at (x1 : Int).toNat x2) a_amounts a_way a_moments a_runAt a_runClock)) upM_a_at ?_
  have h3 : ∀ j, 0 ≤ (va_up a_at (x1 : Int).toNat x2) j ∧ (va_up a_at (x1 : Int).toNat x2) j ≤ 5 := z_upP (P := fun j v => 0 ≤ v ∧ v ≤ 5) Ha_at (by omega)
  refine z_iconst C dX11_go_17 ?_
  refine z_istoren (L' := [(2, z_v 1), (0, .ref (ad 0)), (1, z_v e0)]) C dX11_go_18 rfl (by decide) rfl ?_
  have L19 : ∀ (n : Nat), ∀ (i2 : Int) (fa_amounts : Nat → Int), ((∀ j, 0 ≤ fa_amounts j ∧ fa_amounts j ≤ 1064000)) → (∀ j : Nat, (j : Int) < i2 → fa_amounts j = if 1 ≤ j ∧ z_btv (a_resets e0.toNat) j ≠ 0 then 0 else a_amounts j) → (∀ j : Nat, i2 ≤ (j : Int) → fa_amounts j = a_amounts j) → (1 ≤ i2 ∧ i2 ≤ 4) → ((4 : Int) - i2).toNat < n → z_V p l e R s m args below meth c Q D A 24 ad 3 (z_zm ad ks s_edges s_isNeeded s_explored s_states s_isMoved s_runs s_runTime s_runMoves w_h a_machine a_from a_to a_channel a_resets a_guards a_guardOf a_limits a_limitOf a_places a_zones a_parent a_moveE a_moveF a_moves a_z a_ahead (va_up a_at (x1 : Int).toNat x2) fa_amounts a_way a_moments a_runAt a_runClock) Y 0 0 19 [(0, .ref (ad 0)), (1, z_v e0), (2, z_v i2)] [] := by
    intro n
    induction n with
    | zero => intro i2 fa_amounts Hfa_amounts FG FH I2 hm; exact absurd hm (Nat.not_lt_zero _)
    | succ n ih19 =>
      intro i2 fa_amounts Hfa_amounts FG FH I2 hm
      refine z_iloadn C 2 dX11_go_19 rfl rfl ?_
      refine z_iconst C dX11_go_20 ?_
      refine z_icmp_ge (t := 60) C dX11_go_21 (by decide) (by omega) (by omega) (fun c4 => ?_) (fun c4 => ?_)
      · skip
        rw [hQ]
        exact z_vret C hrt dX11_go_60 (⟨(va_up a_at (x1 : Int).toNat x2), fa_amounts, rfl, rfl, h3, Hfa_amounts, by subst_vars; rfl, fun j hj => FG j (by omega), rfl⟩) (by omega) (by omega)
      · skip
        refine z_aloadn C 0 dX11_go_24 rfl rfl ?_
        refine z_get C 0 (by decide) rfl rfl z_it11 22 (by decide) rfl fl_11_68 rfl dX11_go_25 ?_
        refine z_iloadn C 2 dX11_go_28 rfl rfl ?_
        refine z_aloadn C 0 dX11_go_29 rfl rfl ?_
        refine z_get C 0 (by decide) rfl rfl z_it11 5 (by decide) rfl fl_11_22 rfl dX11_go_30 ?_
        refine z_iloadn C 1 dX11_go_33 rfl rfl ?_
        refine z_iald C 5 (by decide) rfl (by decide) (by omega) (by omega) dX11_go_34 ?_
        have rx5 := Ha_resets (e0 : Int).toNat
        generalize ex5 : a_resets (e0 : Int).toNat = x5 at rx5 ⊢
        refine z_iloadn C 2 dX11_go_35 rfl rfl ?_
        obtain ⟨b6, hb6, rb6⟩ := z_bits (z_i x5 >>> (z_i i2 &&& 31))
        refine z_ishr C hb6 dX11_go_36 ?_
        have qb6 := z_bitsE hb6 rb6
        refine z_iconst C dX11_go_37 ?_
        obtain ⟨b7, hb7, rb7⟩ := z_bits (z_i b6 &&& z_i 1)
        refine z_iand C hb7 dX11_go_38 ?_
        have qb7 := z_bitsE hb7 rb7
        have hb38 : z_btv (a_resets e0.toNat) (i2 : Int) = b7 := by subst_vars; rfl
        refine z_iconst C dX11_go_39 ?_
        refine z_icmp_ne (t := 47) C dX11_go_40 (by decide) (by omega) (by omega) (fun c8 => ?_) (fun c8 => ?_)
        · skip
          refine z_aloadn C 0 dX11_go_47 rfl rfl ?_
          refine z_get C 0 (by decide) rfl rfl z_it11 22 (by decide) rfl fl_11_68 rfl dX11_go_48 ?_
          refine z_iloadn C 2 dX11_go_51 rfl rfl ?_
          refine z_iald C 19 (by decide) rfl (by decide) (by omega) (by omega) dX11_go_52 ?_
          have rx9 := Hfa_amounts (i2 : Int).toNat
          generalize ex9 : fa_amounts (i2 : Int).toNat = x9 at rx9 ⊢
          refine z_iast C 19 (by decide) rfl (by decide) (by omega) (by omega) dX11_go_53 ?_
          refine z_ext (S' := (z_zm ad ks s_edges s_isNeeded s_explored s_states s_isMoved s_runs s_runTime s_runMoves w_h a_machine a_from a_to a_channel a_resets a_guards a_guardOf a_limits a_limitOf a_places a_zones a_parent a_moveE a_moveF a_moves a_z a_ahead (va_up a_at (x1 : Int).toNat x2) (va_up fa_amounts (i2 : Int).toNat x9) a_way a_moments a_runAt a_runClock)) upM_a_amounts ?_
          have h10 : ∀ j, 0 ≤ (va_up fa_amounts (i2 : Int).toNat x9) j ∧ (va_up fa_amounts (i2 : Int).toNat x9) j ≤ 1064000 := z_upP (P := fun j v => 0 ≤ v ∧ v ≤ 1064000) Hfa_amounts (by omega)
          refine z_iinc (L' := [(2, z_v (i2 + 1)), (0, .ref (ad 0)), (1, z_v e0)]) C 2 dX11_go_54 rfl (by decide) rfl ?_
          refine z_goto (t := 19) C dX11_go_57 (by decide) ?_
          refine z_loc (L' := [(0, .ref (ad 0)), (1, z_v e0), (2, z_v (i2 + 1))]) [1, 2, 0] rfl ?_
          exact ih19 (i2 + 1) (va_up fa_amounts (i2 : Int).toNat x9) h10 (by first | exact z_goB1 FG (by omega) (by omega) | exact z_goB0 FG FH (by omega) hb38 (by omega) (by assumption)) (fun j hj => (if_neg (by omega)).trans (FH j (by omega))) (by omega) (by omega)
        · skip
          refine z_iconst C dX11_go_43 ?_
          refine z_goto (t := 53) C dX11_go_44 (by decide) ?_
          refine z_iast C 19 (by decide) rfl (by decide) (by omega) (by omega) dX11_go_53 ?_
          refine z_ext (S' := (z_zm ad ks s_edges s_isNeeded s_explored s_states s_isMoved s_runs s_runTime s_runMoves w_h a_machine a_from a_to a_channel a_resets a_guards a_guardOf a_limits a_limitOf a_places a_zones a_parent a_moveE a_moveF a_moves a_z a_ahead (va_up a_at (x1 : Int).toNat x2) (va_up fa_amounts (i2 : Int).toNat 0) a_way a_moments a_runAt a_runClock)) upM_a_amounts ?_
          have h11 : ∀ j, 0 ≤ (va_up fa_amounts (i2 : Int).toNat 0) j ∧ (va_up fa_amounts (i2 : Int).toNat 0) j ≤ 1064000 := z_upP (P := fun j v => 0 ≤ v ∧ v ≤ 1064000) Hfa_amounts (by omega)
          refine z_iinc (L' := [(2, z_v (i2 + 1)), (0, .ref (ad 0)), (1, z_v e0)]) C 2 dX11_go_54 rfl (by decide) rfl ?_
          refine z_goto (t := 19) C dX11_go_57 (by decide) ?_
          refine z_loc (L' := [(0, .ref (ad 0)), (1, z_v e0), (2, z_v (i2 + 1))]) [1, 2, 0] rfl ?_
          exact ih19 (i2 + 1) (va_up fa_amounts (i2 : Int).toNat 0) h11 (by first | exact z_goB1 FG (by omega) (by omega) | exact z_goB0 FG FH (by omega) hb38 (by omega) (by assumption)) (fun j hj => (if_neg (by omega)).trans (FH j (by omega))) (by omega) (by omega)
  refine z_loc (L' := [(0, .ref (ad 0)), (1, z_v e0), (2, z_v 1)]) [1, 2, 0] rfl ?_
  exact (L19 (((4 : Int) - 1).toNat + 1)) 1 a_amounts Ha_amounts (fun j hj => by rw [if_neg (by omega)]) (fun j hj => rfl) (by omega) (Nat.lt_succ_self _)
set_option maxRecDepth 20000 in
theorem cx_X11_move (l : Launch) {D : va_G} {A : Nat → Prop} {ad : Nat → Nat} {ks : z_Ks} {s_edges s_isNeeded s_explored s_states s_isMoved s_runs s_runTime s_runMoves : Int} {w_h : Int64} {a_machine a_from a_to a_channel a_resets a_guards a_guardOf a_limits a_limitOf a_places a_zones a_parent a_moveE a_moveF a_moves a_z a_ahead a_at a_amounts a_way a_moments a_runAt a_runClock : Nat → Int} {Y : Nat → Option va_E} (e0 f0 : Int) (Ha_at : (∀ j, 0 ≤ a_at j ∧ a_at j ≤ 5)) (Ha_amounts : (∀ j, 0 ≤ a_amounts j ∧ a_amounts j ≤ 1064000)) (Ha_runAt : (∀ j, 0 ≤ a_runAt j ∧ a_runAt j ≤ 5)) (Ha_runClock : (∀ j, 0 ≤ a_runClock j ∧ a_runClock j ≤ 1000000)) (Hs_edges : (0 ≤ s_edges ∧ s_edges ≤ 20)) (Ha_channel : (∀ j, -4 ≤ a_channel j ∧ a_channel j ≤ 4)) (Ha_machine : (∀ j, 0 ≤ a_machine j ∧ a_machine j ≤ 2)) (Ha_from : (∀ j, 0 ≤ a_from j ∧ a_from j ≤ 5)) (Ha_to : (∀ j, 0 ≤ a_to j ∧ a_to j ≤ 5)) (Ha_resets : (∀ j, z_rg (a_resets j))) (Hs_runs : (s_runs = 0 ∨ s_runs = 1)) (Ha_guards : (∀ j, 0 ≤ a_guards j ∧ a_guards j ≤ 2)) (Ha_guardOf : (∀ j, (j % 3 = 0 → a_guardOf j ≤ 3) ∧ 0 ≤ a_guardOf j ∧ a_guardOf j ≤ 1000)) (Ha_limits : (∀ j, 0 ≤ a_limits j ∧ a_limits j ≤ 2)) (Ha_limitOf : (∀ j, (j % 3 = 0 → a_limitOf j ≤ 3) ∧ 0 ≤ a_limitOf j ∧ a_limitOf j ≤ 1000)) (he : z_rg e0) (hf : z_rg f0) : z_Met l yX11_move cX11_move 3 (some .int) 2 48 0 0 D A 24 ad ks [.ref (ad 0), z_v e0, z_v f0] (z_zm ad ks s_edges s_isNeeded s_explored s_states s_isMoved s_runs s_runTime s_runMoves w_h a_machine a_from a_to a_channel a_resets a_guards a_guardOf a_limits a_limitOf a_places a_zones a_parent a_moveE a_moveF a_moves a_z a_ahead a_at a_amounts a_way a_moments a_runAt a_runClock) Y (fun r S' Y' => ∃ na_at : Nat → Int, ∃ na_amounts : Nat → Int, ∃ na_runAt : Nat → Int, ∃ na_runClock : Nat → Int, ∃ ns_runMoves : Int, S' = (z_zm ad ks s_edges s_isNeeded s_explored s_states s_isMoved s_runs s_runTime ns_runMoves w_h a_machine a_from a_to a_channel a_resets a_guards a_guardOf a_limits a_limitOf a_places a_zones a_parent a_moveE a_moveF a_moves a_z a_ahead na_at na_amounts a_way a_moments na_runAt na_runClock) ∧ Y = Y' ∧ (∀ j, 0 ≤ na_at j ∧ na_at j ≤ 5) ∧ (∀ j, 0 ≤ na_amounts j ∧ na_amounts j ≤ 1064000) ∧ (∀ j, 0 ≤ na_runAt j ∧ na_runAt j ≤ 5) ∧ (∀ j, 0 ≤ na_runClock j ∧ na_runClock j ≤ 1000000) ∧ ∃ z : Int, r = some (z_v z) ∧ (z_mvR e0 f0 s_edges s_runs z (z_isM e0 f0 a_machine a_channel) (z_op2 e0 f0 a_machine a_from a_guards a_guardOf a_runAt a_runClock) (z_lim a_limits a_limitOf (z_goA a_runAt a_machine a_to e0 f0) (z_goC a_runClock a_resets e0 f0)) ∧ (z = 1 → (∀ j : Nat, j < 3 → na_runAt j = z_goA a_runAt a_machine a_to e0 f0 j) ∧ (∀ j : Nat, j < 4 → na_runClock j = z_goC a_runClock a_resets e0 f0 j) ∧ ns_runMoves = s_runMoves + 1) ∧ (z ≠ 1 → na_runAt = a_runAt ∧ na_runClock = a_runClock ∧ ns_runMoves = s_runMoves))) := by
  refine z_start2 (by decide) (Nat.le_of_ble_eq_true rfl) ?_
  intro p e R s m args below meth c Q C hRf hRc hRs hRl hQ hrt hnm
  refine z_loc (L' := [(0, .ref (ad 0)), (1, z_v e0), (2, z_v f0)]) [0, 1, 2] rfl ?_
  refine z_aloadn C 0 dX11_move_0 rfl rfl ?_
  refine z_iloadn C 1 dX11_move_1 rfl rfl ?_
  refine z_callV C (cm_X11_isEdge l e0 (by omega) (by omega)) mv_11_107 (z_atS 0 11 (by decide) rfl rfl rfl) pd_X11_isEdge ⟨by omega, by omega⟩ ⟨by omega, by omega⟩ rfl (Nat.le_of_ble_eq_true rfl) dX11_move_2 ?_
  rintro _ _ _ ⟨rfl, rfl, z1, rfl, hz1⟩
  refine z_if_eq (t := 21) C dX11_move_5 (by decide) (by omega) (fun c2 => ?_) (fun c2 => ?_)
  · skip
    refine z_bipush C dX11_move_21 (by decide) ?_
    rw [hQ]
    exact z_iret C hrt dX11_move_23 (⟨a_at, a_amounts, a_runAt, a_runClock, s_runMoves, rfl, rfl, Ha_at, Ha_amounts, Ha_runAt, Ha_runClock, _, rfl, ⟨Or.inl ⟨by omega, rfl⟩, fun h => absurd h (by decide), fun _ => ⟨rfl, rfl, rfl⟩⟩⟩) (by omega) (by omega)
  · skip
    refine z_iloadn C 2 dX11_move_8 rfl rfl ?_
    refine z_iconst C dX11_move_9 ?_
    refine z_icmp_eq (t := 24) C dX11_move_10 (by decide) (by omega) (by omega) (fun c3 => ?_) (fun c3 => ?_)
    · skip
      refine z_aloadn C 0 dX11_move_24 rfl rfl ?_
      refine z_iloadn C 1 dX11_move_25 rfl rfl ?_
      refine z_iloadn C 2 dX11_move_26 rfl rfl ?_
      refine z_callV C (cx_X11_isMove l e0 f0 Ha_channel Ha_machine (by omega) (by omega)) mv_11_155 (z_atS 0 11 (by decide) rfl rfl rfl) pd_X11_isMove ⟨by omega, by omega⟩ ⟨by omega, by omega⟩ rfl (Nat.le_of_ble_eq_true rfl) dX11_move_27 ?_
      rintro _ _ _ ⟨rfl, rfl, z6, rfl, hz6⟩
      have hM := hz6
      refine z_if_ne (t := 36) C dX11_move_30 (by decide) (by omega) (fun c7 => ?_) (fun c7 => ?_)
      · skip
        refine z_aloadn C 0 dX11_move_36 rfl rfl ?_
        refine z_get C 0 (by decide) rfl rfl z_it11 26 (by decide) rfl fl_11_83 rfl dX11_move_37 ?_
        refine z_if_ne (t := 46) C dX11_move_40 (by decide) (by omega) (fun c8 => ?_) (fun c8 => ?_)
        · skip
          refine z_aloadn C 0 dX11_move_46 rfl rfl ?_
          refine z_callV C (cx_X11_look l Ha_at Ha_amounts Ha_runAt Ha_runClock) mv_11_219 (z_atS 0 11 (by decide) rfl rfl rfl) pd_X11_look ⟨by omega, by omega⟩ ⟨by omega, by omega⟩ rfl (Nat.le_of_ble_eq_true rfl) dX11_move_47 ?_
          rintro _ _ _ ⟨n9, n10, rfl, rfl, h13, h14, q47_0, q47_1, rfl⟩
          refine z_aloadn C 0 dX11_move_50 rfl rfl ?_
          refine z_iloadn C 1 dX11_move_51 rfl rfl ?_
          refine z_callV C (cx_X11_isOpen l e0 h13 Ha_machine Ha_from Ha_guards Ha_guardOf h14 (by omega)) mv_11_222 (z_atS 0 11 (by decide) rfl rfl rfl) pd_X11_isOpen ⟨by omega, by omega⟩ ⟨by omega, by omega⟩ rfl (Nat.le_of_ble_eq_true rfl) dX11_move_52 ?_
          rintro _ _ _ ⟨rfl, rfl, z17, rfl, hz17⟩
          have hO52 := z_isz_iff hz17 (z_opn.iff (Ha_machine e0.toNat) (z_ckM (n := 20) Ha_guardOf) (by omega) q47_0 q47_1)
          refine z_if_eq (t := 71) C dX11_move_55 (by decide) (by omega) (fun c18 => ?_) (fun c18 => ?_)
          · skip
            refine z_iconst C dX11_move_71 ?_
            rw [hQ]
            exact z_iret C hrt dX11_move_72 (⟨n9, n10, a_runAt, a_runClock, s_runMoves, rfl, rfl, h13, h14, Ha_runAt, Ha_runClock, _, rfl, ⟨Or.inr (Or.inr (Or.inr (Or.inl ⟨by omega, z_isz1 hM (by omega), by omega, by first | exact (fun q => z_isz0 hO52 (by omega) q.1.1) | exact (fun q => q.1.2.elim (fun z => by omega) (fun z => z_isz0 hO65 (by omega) z.2)), rfl⟩))), fun h => absurd h (by decide), fun _ => ⟨rfl, rfl, rfl⟩⟩⟩) (by omega) (by omega)
          · skip
            refine z_iloadn C 2 dX11_move_58 rfl rfl ?_
            refine z_iconst C dX11_move_59 ?_
            refine z_icmp_eq (t := 73) C dX11_move_60 (by decide) (by omega) (by omega) (fun c19 => ?_) (fun c19 => ?_)
            · skip
              refine z_aloadn C 0 dX11_move_73 rfl rfl ?_
              refine z_iloadn C 1 dX11_move_74 rfl rfl ?_
              refine z_callV C (cx_X11_go l e0 h13 Ha_machine Ha_to Ha_resets h14 (by omega)) mv_11_225 (z_atS 0 11 (by decide) rfl rfl rfl) pd_X11_go ⟨by omega, by omega⟩ ⟨by omega, by omega⟩ rfl (Nat.le_of_ble_eq_true rfl) dX11_move_75 ?_
              rintro _ _ _ ⟨n20, n21, rfl, rfl, h24, h25, q75_0, q75_1, rfl⟩
              refine z_iloadn C 2 dX11_move_78 rfl rfl ?_
              refine z_iconst C dX11_move_79 ?_
              refine z_icmp_eq (t := 88) C dX11_move_80 (by decide) (by omega) (by omega) (fun c26 => ?_) (fun c26 => ?_)
              · skip
                refine z_aloadn C 0 dX11_move_88 rfl rfl ?_
                have hA : ∀ j, j < 3 → n20 j = z_goA a_runAt a_machine a_to e0 f0 j := by first | (rw [z_goA1 (by omega), q75_0]; exact z_up_pt q47_0) | (rw [z_goA2 (by omega), q85_0, q75_0]; exact z_up_pt (z_up_pt q47_0))
                have hB : ∀ j, j < 4 → n21 j = z_goC a_runClock a_resets e0 f0 j := by first | (intro j hj; rw [z_goC2 (by omega), q85_1 j hj, q75_1 j hj, q47_1 j hj]) | (intro j hj; rw [z_goC1 (by omega), q75_1 j hj, q47_1 j hj])
                have hAr := z_goA_rg (em := a_machine) (e := e0) (f := f0) (fun j _ => Ha_runAt j) Ha_to
                have hBr := z_goC_rg (er := a_resets) (e := e0) (f := f0) (fun j hj => Ha_runClock j)
                have hOO : z_op2 e0 f0 a_machine a_from a_guards a_guardOf a_runAt a_runClock := by first | exact ⟨z_isz1 hO52 (by omega), Or.inr ⟨by omega, z_isz1 hO65 (by omega)⟩⟩ | exact ⟨z_isz1 hO52 (by omega), Or.inl (by omega)⟩
                refine z_callV C (cx_X11_areKept l h24 Ha_limits Ha_limitOf h25) mv_11_206 (z_atS 0 11 (by decide) rfl rfl rfl) pd_X11_areKept ⟨by omega, by omega⟩ ⟨by omega, by omega⟩ rfl (Nat.le_of_ble_eq_true rfl) dX11_move_89 ?_
                rintro _ _ _ ⟨rfl, rfl, z29, rfl, hz29⟩
                have hKp := z_isz_iff hz29 (z_lim.iff (z_ckM Ha_limitOf) (fun j hj => by rw [hA j hj]; exact hAr j hj) hA hB)
                refine z_if_ne (t := 97) C dX11_move_92 (by decide) (by omega) (fun c30 => ?_) (fun c30 => ?_)
                · skip
                  refine z_aloadn C 0 dX11_move_97 rfl rfl ?_
                  refine z_callV C (cx_X11_become l h24 h25 Ha_runAt Ha_runClock (fun j hj => by rw [hB j hj]; exact (hBr j hj).2)) mv_11_209 (z_atS 0 11 (by decide) rfl rfl rfl) pd_X11_become ⟨by omega, by omega⟩ ⟨by omega, by omega⟩ rfl (Nat.le_of_ble_eq_true rfl) dX11_move_98 ?_
                  rintro _ _ _ ⟨n31, n32, rfl, rfl, h35, h36, q98_0, q98_1, rfl⟩
                  refine z_aloadn C 0 dX11_move_101 rfl rfl ?_
                  refine z_dup C dX11_move_102 rfl ?_
                  refine z_get C 0 (by decide) rfl rfl z_it11 30 (by decide) rfl fl_11_215 rfl dX11_move_103 ?_
                  refine z_iconst C dX11_move_106 ?_
                  refine z_iadd C dX11_move_107 ?_
                  refine z_put C 0 (by decide) rfl rfl z_it11 tyX11 tyX11_ok nmX11 30 (by decide) rfl (Or.inl rfl) fl_11_215 z_pfI rfl rfl (Nat.le_of_ble_eq_true rfl) dX11_move_108 ?_
                  refine z_ext (S' := (z_zm ad ks s_edges s_isNeeded s_explored s_states s_isMoved s_runs s_runTime (s_runMoves + 1) w_h a_machine a_from a_to a_channel a_resets a_guards a_guardOf a_limits a_limitOf a_places a_zones a_parent a_moveE a_moveF a_moves a_z a_ahead n20 n21 a_way a_moments n31 n32)) upM_s_runMoves ?_
                  refine z_iconst C dX11_move_111 ?_
                  rw [hQ]
                  exact z_iret C hrt dX11_move_112 (⟨n20, n21, n31, n32, (s_runMoves + 1), rfl, rfl, h24, h25, h35, h36, _, rfl, ⟨Or.inr (Or.inr (Or.inr (Or.inr ⟨by omega, z_isz1 hM (by omega), by omega, hOO, z_isz1 hKp (by omega), rfl⟩))), fun _ => ⟨fun j hj => (q98_0 j hj).trans (hA j hj), fun j hj => (q98_1 j hj).trans (hB j hj), rfl⟩, fun h => absurd rfl h⟩⟩) (by omega) (by omega)
                · skip
                  refine z_iconst C dX11_move_95 ?_
                  rw [hQ]
                  exact z_iret C hrt dX11_move_96 (⟨n20, n21, a_runAt, a_runClock, s_runMoves, rfl, rfl, h24, h25, Ha_runAt, Ha_runClock, _, rfl, ⟨Or.inr (Or.inr (Or.inr (Or.inl ⟨by omega, z_isz1 hM (by omega), by omega, fun q => z_isz0 hKp (by omega) q.2, rfl⟩))), fun h => absurd h (by decide), fun _ => ⟨rfl, rfl, rfl⟩⟩⟩) (by omega) (by omega)
              · skip
                refine z_aloadn C 0 dX11_move_83 rfl rfl ?_
                refine z_iloadn C 2 dX11_move_84 rfl rfl ?_
                refine z_callV C (cx_X11_go l f0 h24 Ha_machine Ha_to Ha_resets h25 (by omega)) mv_11_225 (z_atS 0 11 (by decide) rfl rfl rfl) pd_X11_go ⟨by omega, by omega⟩ ⟨by omega, by omega⟩ rfl (Nat.le_of_ble_eq_true rfl) dX11_move_85 ?_
                rintro _ _ _ ⟨n37, n38, rfl, rfl, h41, h42, q85_0, q85_1, rfl⟩
                refine z_aloadn C 0 dX11_move_88 rfl rfl ?_
                have hA : ∀ j, j < 3 → n37 j = z_goA a_runAt a_machine a_to e0 f0 j := by first | (rw [z_goA1 (by omega), q75_0]; exact z_up_pt q47_0) | (rw [z_goA2 (by omega), q85_0, q75_0]; exact z_up_pt (z_up_pt q47_0))
                have hB : ∀ j, j < 4 → n38 j = z_goC a_runClock a_resets e0 f0 j := by first | (intro j hj; rw [z_goC2 (by omega), q85_1 j hj, q75_1 j hj, q47_1 j hj]) | (intro j hj; rw [z_goC1 (by omega), q75_1 j hj, q47_1 j hj])
                have hAr := z_goA_rg (em := a_machine) (e := e0) (f := f0) (fun j _ => Ha_runAt j) Ha_to
                have hBr := z_goC_rg (er := a_resets) (e := e0) (f := f0) (fun j hj => Ha_runClock j)
                have hOO : z_op2 e0 f0 a_machine a_from a_guards a_guardOf a_runAt a_runClock := by first | exact ⟨z_isz1 hO52 (by omega), Or.inr ⟨by omega, z_isz1 hO65 (by omega)⟩⟩ | exact ⟨z_isz1 hO52 (by omega), Or.inl (by omega)⟩
                refine z_callV C (cx_X11_areKept l h41 Ha_limits Ha_limitOf h42) mv_11_206 (z_atS 0 11 (by decide) rfl rfl rfl) pd_X11_areKept ⟨by omega, by omega⟩ ⟨by omega, by omega⟩ rfl (Nat.le_of_ble_eq_true rfl) dX11_move_89 ?_
                rintro _ _ _ ⟨rfl, rfl, z45, rfl, hz45⟩
                have hKp := z_isz_iff hz45 (z_lim.iff (z_ckM Ha_limitOf) (fun j hj => by rw [hA j hj]; exact hAr j hj) hA hB)
                refine z_if_ne (t := 97) C dX11_move_92 (by decide) (by omega) (fun c46 => ?_) (fun c46 => ?_)
                · skip
                  refine z_aloadn C 0 dX11_move_97 rfl rfl ?_
                  refine z_callV C (cx_X11_become l h41 h42 Ha_runAt Ha_runClock (fun j hj => by rw [hB j hj]; exact (hBr j hj).2)) mv_11_209 (z_atS 0 11 (by decide) rfl rfl rfl) pd_X11_become ⟨by omega, by omega⟩ ⟨by omega, by omega⟩ rfl (Nat.le_of_ble_eq_true rfl) dX11_move_98 ?_
                  rintro _ _ _ ⟨n47, n48, rfl, rfl, h51, h52, q98_0, q98_1, rfl⟩
                  refine z_aloadn C 0 dX11_move_101 rfl rfl ?_
                  refine z_dup C dX11_move_102 rfl ?_
                  refine z_get C 0 (by decide) rfl rfl z_it11 30 (by decide) rfl fl_11_215 rfl dX11_move_103 ?_
                  refine z_iconst C dX11_move_106 ?_
                  refine z_iadd C dX11_move_107 ?_
                  refine z_put C 0 (by decide) rfl rfl z_it11 tyX11 tyX11_ok nmX11 30 (by decide) rfl (Or.inl rfl) fl_11_215 z_pfI rfl rfl (Nat.le_of_ble_eq_true rfl) dX11_move_108 ?_
                  refine z_ext (S' := (z_zm ad ks s_edges s_isNeeded s_explored s_states s_isMoved s_runs s_runTime (s_runMoves + 1) w_h a_machine a_from a_to a_channel a_resets a_guards a_guardOf a_limits a_limitOf a_places a_zones a_parent a_moveE a_moveF a_moves a_z a_ahead n37 n38 a_way a_moments n47 n48)) upM_s_runMoves ?_
                  refine z_iconst C dX11_move_111 ?_
                  rw [hQ]
                  exact z_iret C hrt dX11_move_112 (⟨n37, n38, n47, n48, (s_runMoves + 1), rfl, rfl, h41, h42, h51, h52, _, rfl, ⟨Or.inr (Or.inr (Or.inr (Or.inr ⟨by omega, z_isz1 hM (by omega), by omega, hOO, z_isz1 hKp (by omega), rfl⟩))), fun _ => ⟨fun j hj => (q98_0 j hj).trans (hA j hj), fun j hj => (q98_1 j hj).trans (hB j hj), rfl⟩, fun h => absurd rfl h⟩⟩) (by omega) (by omega)
                · skip
                  refine z_iconst C dX11_move_95 ?_
                  rw [hQ]
                  exact z_iret C hrt dX11_move_96 (⟨n37, n38, a_runAt, a_runClock, s_runMoves, rfl, rfl, h41, h42, Ha_runAt, Ha_runClock, _, rfl, ⟨Or.inr (Or.inr (Or.inr (Or.inl ⟨by omega, z_isz1 hM (by omega), by omega, fun q => z_isz0 hKp (by omega) q.2, rfl⟩))), fun h => absurd h (by decide), fun _ => ⟨rfl, rfl, rfl⟩⟩⟩) (by omega) (by omega)
            · skip
              refine z_aloadn C 0 dX11_move_63 rfl rfl ?_
              refine z_iloadn C 2 dX11_move_64 rfl rfl ?_
              refine z_callV C (cx_X11_isOpen l f0 h13 Ha_machine Ha_from Ha_guards Ha_guardOf h14 (by omega)) mv_11_222 (z_atS 0 11 (by decide) rfl rfl rfl) pd_X11_isOpen ⟨by omega, by omega⟩ ⟨by omega, by omega⟩ rfl (Nat.le_of_ble_eq_true rfl) dX11_move_65 ?_
              rintro _ _ _ ⟨rfl, rfl, z55, rfl, hz55⟩
              have hO65 := z_isz_iff hz55 (z_opn.iff (Ha_machine f0.toNat) (z_ckM (n := 20) Ha_guardOf) (by omega) q47_0 q47_1)
              refine z_if_ne (t := 73) C dX11_move_68 (by decide) (by omega) (fun c56 => ?_) (fun c56 => ?_)
              · skip
                refine z_aloadn C 0 dX11_move_73 rfl rfl ?_
                refine z_iloadn C 1 dX11_move_74 rfl rfl ?_
                refine z_callV C (cx_X11_go l e0 h13 Ha_machine Ha_to Ha_resets h14 (by omega)) mv_11_225 (z_atS 0 11 (by decide) rfl rfl rfl) pd_X11_go ⟨by omega, by omega⟩ ⟨by omega, by omega⟩ rfl (Nat.le_of_ble_eq_true rfl) dX11_move_75 ?_
                rintro _ _ _ ⟨n57, n58, rfl, rfl, h61, h62, q75_0, q75_1, rfl⟩
                refine z_iloadn C 2 dX11_move_78 rfl rfl ?_
                refine z_iconst C dX11_move_79 ?_
                refine z_icmp_eq (t := 88) C dX11_move_80 (by decide) (by omega) (by omega) (fun c63 => ?_) (fun c63 => ?_)
                · skip
                  refine z_aloadn C 0 dX11_move_88 rfl rfl ?_
                  have hA : ∀ j, j < 3 → n57 j = z_goA a_runAt a_machine a_to e0 f0 j := by first | (rw [z_goA1 (by omega), q75_0]; exact z_up_pt q47_0) | (rw [z_goA2 (by omega), q85_0, q75_0]; exact z_up_pt (z_up_pt q47_0))
                  have hB : ∀ j, j < 4 → n58 j = z_goC a_runClock a_resets e0 f0 j := by first | (intro j hj; rw [z_goC2 (by omega), q85_1 j hj, q75_1 j hj, q47_1 j hj]) | (intro j hj; rw [z_goC1 (by omega), q75_1 j hj, q47_1 j hj])
                  have hAr := z_goA_rg (em := a_machine) (e := e0) (f := f0) (fun j _ => Ha_runAt j) Ha_to
                  have hBr := z_goC_rg (er := a_resets) (e := e0) (f := f0) (fun j hj => Ha_runClock j)
                  have hOO : z_op2 e0 f0 a_machine a_from a_guards a_guardOf a_runAt a_runClock := by first | exact ⟨z_isz1 hO52 (by omega), Or.inr ⟨by omega, z_isz1 hO65 (by omega)⟩⟩ | exact ⟨z_isz1 hO52 (by omega), Or.inl (by omega)⟩
                  refine z_callV C (cx_X11_areKept l h61 Ha_limits Ha_limitOf h62) mv_11_206 (z_atS 0 11 (by decide) rfl rfl rfl) pd_X11_areKept ⟨by omega, by omega⟩ ⟨by omega, by omega⟩ rfl (Nat.le_of_ble_eq_true rfl) dX11_move_89 ?_
                  rintro _ _ _ ⟨rfl, rfl, z66, rfl, hz66⟩
                  have hKp := z_isz_iff hz66 (z_lim.iff (z_ckM Ha_limitOf) (fun j hj => by rw [hA j hj]; exact hAr j hj) hA hB)
                  refine z_if_ne (t := 97) C dX11_move_92 (by decide) (by omega) (fun c67 => ?_) (fun c67 => ?_)
                  · skip
                    refine z_aloadn C 0 dX11_move_97 rfl rfl ?_
                    refine z_callV C (cx_X11_become l h61 h62 Ha_runAt Ha_runClock (fun j hj => by rw [hB j hj]; exact (hBr j hj).2)) mv_11_209 (z_atS 0 11 (by decide) rfl rfl rfl) pd_X11_become ⟨by omega, by omega⟩ ⟨by omega, by omega⟩ rfl (Nat.le_of_ble_eq_true rfl) dX11_move_98 ?_
                    rintro _ _ _ ⟨n68, n69, rfl, rfl, h72, h73, q98_0, q98_1, rfl⟩
                    refine z_aloadn C 0 dX11_move_101 rfl rfl ?_
                    refine z_dup C dX11_move_102 rfl ?_
                    refine z_get C 0 (by decide) rfl rfl z_it11 30 (by decide) rfl fl_11_215 rfl dX11_move_103 ?_
                    refine z_iconst C dX11_move_106 ?_
                    refine z_iadd C dX11_move_107 ?_
                    refine z_put C 0 (by decide) rfl rfl z_it11 tyX11 tyX11_ok nmX11 30 (by decide) rfl (Or.inl rfl) fl_11_215 z_pfI rfl rfl (Nat.le_of_ble_eq_true rfl) dX11_move_108 ?_
                    refine z_ext (S' := (z_zm ad ks s_edges s_isNeeded s_explored s_states s_isMoved s_runs s_runTime (s_runMoves + 1) w_h a_machine a_from a_to a_channel a_resets a_guards a_guardOf a_limits a_limitOf a_places a_zones a_parent a_moveE a_moveF a_moves a_z a_ahead n57 n58 a_way a_moments n68 n69)) upM_s_runMoves ?_
                    refine z_iconst C dX11_move_111 ?_
                    rw [hQ]
                    exact z_iret C hrt dX11_move_112 (⟨n57, n58, n68, n69, (s_runMoves + 1), rfl, rfl, h61, h62, h72, h73, _, rfl, ⟨Or.inr (Or.inr (Or.inr (Or.inr ⟨by omega, z_isz1 hM (by omega), by omega, hOO, z_isz1 hKp (by omega), rfl⟩))), fun _ => ⟨fun j hj => (q98_0 j hj).trans (hA j hj), fun j hj => (q98_1 j hj).trans (hB j hj), rfl⟩, fun h => absurd rfl h⟩⟩) (by omega) (by omega)
                  · skip
                    refine z_iconst C dX11_move_95 ?_
                    rw [hQ]
                    exact z_iret C hrt dX11_move_96 (⟨n57, n58, a_runAt, a_runClock, s_runMoves, rfl, rfl, h61, h62, Ha_runAt, Ha_runClock, _, rfl, ⟨Or.inr (Or.inr (Or.inr (Or.inl ⟨by omega, z_isz1 hM (by omega), by omega, fun q => z_isz0 hKp (by omega) q.2, rfl⟩))), fun h => absurd h (by decide), fun _ => ⟨rfl, rfl, rfl⟩⟩⟩) (by omega) (by omega)
                · skip
                  refine z_aloadn C 0 dX11_move_83 rfl rfl ?_
                  refine z_iloadn C 2 dX11_move_84 rfl rfl ?_
                  refine z_callV C (cx_X11_go l f0 h61 Ha_machine Ha_to Ha_resets h62 (by omega)) mv_11_225 (z_atS 0 11 (by decide) rfl rfl rfl) pd_X11_go ⟨by omega, by omega⟩ ⟨by omega, by omega⟩ rfl (Nat.le_of_ble_eq_true rfl) dX11_move_85 ?_
                  rintro _ _ _ ⟨n74, n75, rfl, rfl, h78, h79, q85_0, q85_1, rfl⟩
                  refine z_aloadn C 0 dX11_move_88 rfl rfl ?_
                  have hA : ∀ j, j < 3 → n74 j = z_goA a_runAt a_machine a_to e0 f0 j := by first | (rw [z_goA1 (by omega), q75_0]; exact z_up_pt q47_0) | (rw [z_goA2 (by omega), q85_0, q75_0]; exact z_up_pt (z_up_pt q47_0))
                  have hB : ∀ j, j < 4 → n75 j = z_goC a_runClock a_resets e0 f0 j := by first | (intro j hj; rw [z_goC2 (by omega), q85_1 j hj, q75_1 j hj, q47_1 j hj]) | (intro j hj; rw [z_goC1 (by omega), q75_1 j hj, q47_1 j hj])
                  have hAr := z_goA_rg (em := a_machine) (e := e0) (f := f0) (fun j _ => Ha_runAt j) Ha_to
                  have hBr := z_goC_rg (er := a_resets) (e := e0) (f := f0) (fun j hj => Ha_runClock j)
                  have hOO : z_op2 e0 f0 a_machine a_from a_guards a_guardOf a_runAt a_runClock := by first | exact ⟨z_isz1 hO52 (by omega), Or.inr ⟨by omega, z_isz1 hO65 (by omega)⟩⟩ | exact ⟨z_isz1 hO52 (by omega), Or.inl (by omega)⟩
                  refine z_callV C (cx_X11_areKept l h78 Ha_limits Ha_limitOf h79) mv_11_206 (z_atS 0 11 (by decide) rfl rfl rfl) pd_X11_areKept ⟨by omega, by omega⟩ ⟨by omega, by omega⟩ rfl (Nat.le_of_ble_eq_true rfl) dX11_move_89 ?_
                  rintro _ _ _ ⟨rfl, rfl, z82, rfl, hz82⟩
                  have hKp := z_isz_iff hz82 (z_lim.iff (z_ckM Ha_limitOf) (fun j hj => by rw [hA j hj]; exact hAr j hj) hA hB)
                  refine z_if_ne (t := 97) C dX11_move_92 (by decide) (by omega) (fun c83 => ?_) (fun c83 => ?_)
                  · skip
                    refine z_aloadn C 0 dX11_move_97 rfl rfl ?_
                    refine z_callV C (cx_X11_become l h78 h79 Ha_runAt Ha_runClock (fun j hj => by rw [hB j hj]; exact (hBr j hj).2)) mv_11_209 (z_atS 0 11 (by decide) rfl rfl rfl) pd_X11_become ⟨by omega, by omega⟩ ⟨by omega, by omega⟩ rfl (Nat.le_of_ble_eq_true rfl) dX11_move_98 ?_
                    rintro _ _ _ ⟨n84, n85, rfl, rfl, h88, h89, q98_0, q98_1, rfl⟩
                    refine z_aloadn C 0 dX11_move_101 rfl rfl ?_
                    refine z_dup C dX11_move_102 rfl ?_
                    refine z_get C 0 (by decide) rfl rfl z_it11 30 (by decide) rfl fl_11_215 rfl dX11_move_103 ?_
                    refine z_iconst C dX11_move_106 ?_
                    refine z_iadd C dX11_move_107 ?_
                    refine z_put C 0 (by decide) rfl rfl z_it11 tyX11 tyX11_ok nmX11 30 (by decide) rfl (Or.inl rfl) fl_11_215 z_pfI rfl rfl (Nat.le_of_ble_eq_true rfl) dX11_move_108 ?_
                    refine z_ext (S' := (z_zm ad ks s_edges s_isNeeded s_explored s_states s_isMoved s_runs s_runTime (s_runMoves + 1) w_h a_machine a_from a_to a_channel a_resets a_guards a_guardOf a_limits a_limitOf a_places a_zones a_parent a_moveE a_moveF a_moves a_z a_ahead n74 n75 a_way a_moments n84 n85)) upM_s_runMoves ?_
                    refine z_iconst C dX11_move_111 ?_
                    rw [hQ]
                    exact z_iret C hrt dX11_move_112 (⟨n74, n75, n84, n85, (s_runMoves + 1), rfl, rfl, h78, h79, h88, h89, _, rfl, ⟨Or.inr (Or.inr (Or.inr (Or.inr ⟨by omega, z_isz1 hM (by omega), by omega, hOO, z_isz1 hKp (by omega), rfl⟩))), fun _ => ⟨fun j hj => (q98_0 j hj).trans (hA j hj), fun j hj => (q98_1 j hj).trans (hB j hj), rfl⟩, fun h => absurd rfl h⟩⟩) (by omega) (by omega)
                  · skip
                    refine z_iconst C dX11_move_95 ?_
                    rw [hQ]
                    exact z_iret C hrt dX11_move_96 (⟨n74, n75, a_runAt, a_runClock, s_runMoves, rfl, rfl, h78, h79, Ha_runAt, Ha_runClock, _, rfl, ⟨Or.inr (Or.inr (Or.inr (Or.inl ⟨by omega, z_isz1 hM (by omega), by omega, fun q => z_isz0 hKp (by omega) q.2, rfl⟩))), fun h => absurd h (by decide), fun _ => ⟨rfl, rfl, rfl⟩⟩⟩) (by omega) (by omega)
              · skip
                refine z_iconst C dX11_move_71 ?_
                rw [hQ]
                exact z_iret C hrt dX11_move_72 (⟨n9, n10, a_runAt, a_runClock, s_runMoves, rfl, rfl, h13, h14, Ha_runAt, Ha_runClock, _, rfl, ⟨Or.inr (Or.inr (Or.inr (Or.inl ⟨by omega, z_isz1 hM (by omega), by omega, by first | exact (fun q => z_isz0 hO52 (by omega) q.1.1) | exact (fun q => q.1.2.elim (fun z => by omega) (fun z => z_isz0 hO65 (by omega) z.2)), rfl⟩))), fun h => absurd h (by decide), fun _ => ⟨rfl, rfl, rfl⟩⟩⟩) (by omega) (by omega)
        · skip
          refine z_bipush C dX11_move_43 (by decide) ?_
          rw [hQ]
          exact z_iret C hrt dX11_move_45 (⟨a_at, a_amounts, a_runAt, a_runClock, s_runMoves, rfl, rfl, Ha_at, Ha_amounts, Ha_runAt, Ha_runClock, _, rfl, ⟨Or.inr (Or.inr (Or.inl ⟨by omega, z_isz1 hM (by omega), by omega, rfl⟩)), fun h => absurd h (by decide), fun _ => ⟨rfl, rfl, rfl⟩⟩⟩) (by omega) (by omega)
      · skip
        refine z_bipush C dX11_move_33 (by decide) ?_
        rw [hQ]
        exact z_iret C hrt dX11_move_35 (⟨a_at, a_amounts, a_runAt, a_runClock, s_runMoves, rfl, rfl, Ha_at, Ha_amounts, Ha_runAt, Ha_runClock, _, rfl, ⟨Or.inr (Or.inl ⟨by omega, z_isz0 hM (by omega), rfl⟩), fun h => absurd h (by decide), fun _ => ⟨rfl, rfl, rfl⟩⟩⟩) (by omega) (by omega)
    · skip
      refine z_aloadn C 0 dX11_move_13 rfl rfl ?_
      refine z_iloadn C 2 dX11_move_14 rfl rfl ?_
      refine z_callV C (cm_X11_isEdge l f0 (by omega) (by omega)) mv_11_107 (z_atS 0 11 (by decide) rfl rfl rfl) pd_X11_isEdge ⟨by omega, by omega⟩ ⟨by omega, by omega⟩ rfl (Nat.le_of_ble_eq_true rfl) dX11_move_15 ?_
      rintro _ _ _ ⟨rfl, rfl, z90, rfl, hz90⟩
      refine z_if_ne (t := 24) C dX11_move_18 (by decide) (by omega) (fun c91 => ?_) (fun c91 => ?_)
      · skip
        refine z_aloadn C 0 dX11_move_24 rfl rfl ?_
        refine z_iloadn C 1 dX11_move_25 rfl rfl ?_
        refine z_iloadn C 2 dX11_move_26 rfl rfl ?_
        refine z_callV C (cx_X11_isMove l e0 f0 Ha_channel Ha_machine (by omega) (by omega)) mv_11_155 (z_atS 0 11 (by decide) rfl rfl rfl) pd_X11_isMove ⟨by omega, by omega⟩ ⟨by omega, by omega⟩ rfl (Nat.le_of_ble_eq_true rfl) dX11_move_27 ?_
        rintro _ _ _ ⟨rfl, rfl, z94, rfl, hz94⟩
        have hM := hz94
        refine z_if_ne (t := 36) C dX11_move_30 (by decide) (by omega) (fun c95 => ?_) (fun c95 => ?_)
        · skip
          refine z_aloadn C 0 dX11_move_36 rfl rfl ?_
          refine z_get C 0 (by decide) rfl rfl z_it11 26 (by decide) rfl fl_11_83 rfl dX11_move_37 ?_
          refine z_if_ne (t := 46) C dX11_move_40 (by decide) (by omega) (fun c96 => ?_) (fun c96 => ?_)
          · skip
            refine z_aloadn C 0 dX11_move_46 rfl rfl ?_
            refine z_callV C (cx_X11_look l Ha_at Ha_amounts Ha_runAt Ha_runClock) mv_11_219 (z_atS 0 11 (by decide) rfl rfl rfl) pd_X11_look ⟨by omega, by omega⟩ ⟨by omega, by omega⟩ rfl (Nat.le_of_ble_eq_true rfl) dX11_move_47 ?_
            rintro _ _ _ ⟨n97, n98, rfl, rfl, h101, h102, q47_0, q47_1, rfl⟩
            refine z_aloadn C 0 dX11_move_50 rfl rfl ?_
            refine z_iloadn C 1 dX11_move_51 rfl rfl ?_
            refine z_callV C (cx_X11_isOpen l e0 h101 Ha_machine Ha_from Ha_guards Ha_guardOf h102 (by omega)) mv_11_222 (z_atS 0 11 (by decide) rfl rfl rfl) pd_X11_isOpen ⟨by omega, by omega⟩ ⟨by omega, by omega⟩ rfl (Nat.le_of_ble_eq_true rfl) dX11_move_52 ?_
            rintro _ _ _ ⟨rfl, rfl, z105, rfl, hz105⟩
            have hO52 := z_isz_iff hz105 (z_opn.iff (Ha_machine e0.toNat) (z_ckM (n := 20) Ha_guardOf) (by omega) q47_0 q47_1)
            refine z_if_eq (t := 71) C dX11_move_55 (by decide) (by omega) (fun c106 => ?_) (fun c106 => ?_)
            · skip
              refine z_iconst C dX11_move_71 ?_
              rw [hQ]
              exact z_iret C hrt dX11_move_72 (⟨n97, n98, a_runAt, a_runClock, s_runMoves, rfl, rfl, h101, h102, Ha_runAt, Ha_runClock, _, rfl, ⟨Or.inr (Or.inr (Or.inr (Or.inl ⟨by omega, z_isz1 hM (by omega), by omega, by first | exact (fun q => z_isz0 hO52 (by omega) q.1.1) | exact (fun q => q.1.2.elim (fun z => by omega) (fun z => z_isz0 hO65 (by omega) z.2)), rfl⟩))), fun h => absurd h (by decide), fun _ => ⟨rfl, rfl, rfl⟩⟩⟩) (by omega) (by omega)
            · skip
              refine z_iloadn C 2 dX11_move_58 rfl rfl ?_
              refine z_iconst C dX11_move_59 ?_
              refine z_icmp_eq (t := 73) C dX11_move_60 (by decide) (by omega) (by omega) (fun c107 => ?_) (fun c107 => ?_)
              · skip
                refine z_aloadn C 0 dX11_move_73 rfl rfl ?_
                refine z_iloadn C 1 dX11_move_74 rfl rfl ?_
                refine z_callV C (cx_X11_go l e0 h101 Ha_machine Ha_to Ha_resets h102 (by omega)) mv_11_225 (z_atS 0 11 (by decide) rfl rfl rfl) pd_X11_go ⟨by omega, by omega⟩ ⟨by omega, by omega⟩ rfl (Nat.le_of_ble_eq_true rfl) dX11_move_75 ?_
                rintro _ _ _ ⟨n108, n109, rfl, rfl, h112, h113, q75_0, q75_1, rfl⟩
                refine z_iloadn C 2 dX11_move_78 rfl rfl ?_
                refine z_iconst C dX11_move_79 ?_
                refine z_icmp_eq (t := 88) C dX11_move_80 (by decide) (by omega) (by omega) (fun c114 => ?_) (fun c114 => ?_)
                · skip
                  refine z_aloadn C 0 dX11_move_88 rfl rfl ?_
                  have hA : ∀ j, j < 3 → n108 j = z_goA a_runAt a_machine a_to e0 f0 j := by first | (rw [z_goA1 (by omega), q75_0]; exact z_up_pt q47_0) | (rw [z_goA2 (by omega), q85_0, q75_0]; exact z_up_pt (z_up_pt q47_0))
                  have hB : ∀ j, j < 4 → n109 j = z_goC a_runClock a_resets e0 f0 j := by first | (intro j hj; rw [z_goC2 (by omega), q85_1 j hj, q75_1 j hj, q47_1 j hj]) | (intro j hj; rw [z_goC1 (by omega), q75_1 j hj, q47_1 j hj])
                  have hAr := z_goA_rg (em := a_machine) (e := e0) (f := f0) (fun j _ => Ha_runAt j) Ha_to
                  have hBr := z_goC_rg (er := a_resets) (e := e0) (f := f0) (fun j hj => Ha_runClock j)
                  have hOO : z_op2 e0 f0 a_machine a_from a_guards a_guardOf a_runAt a_runClock := by first | exact ⟨z_isz1 hO52 (by omega), Or.inr ⟨by omega, z_isz1 hO65 (by omega)⟩⟩ | exact ⟨z_isz1 hO52 (by omega), Or.inl (by omega)⟩
                  refine z_callV C (cx_X11_areKept l h112 Ha_limits Ha_limitOf h113) mv_11_206 (z_atS 0 11 (by decide) rfl rfl rfl) pd_X11_areKept ⟨by omega, by omega⟩ ⟨by omega, by omega⟩ rfl (Nat.le_of_ble_eq_true rfl) dX11_move_89 ?_
                  rintro _ _ _ ⟨rfl, rfl, z117, rfl, hz117⟩
                  have hKp := z_isz_iff hz117 (z_lim.iff (z_ckM Ha_limitOf) (fun j hj => by rw [hA j hj]; exact hAr j hj) hA hB)
                  refine z_if_ne (t := 97) C dX11_move_92 (by decide) (by omega) (fun c118 => ?_) (fun c118 => ?_)
                  · skip
                    refine z_aloadn C 0 dX11_move_97 rfl rfl ?_
                    refine z_callV C (cx_X11_become l h112 h113 Ha_runAt Ha_runClock (fun j hj => by rw [hB j hj]; exact (hBr j hj).2)) mv_11_209 (z_atS 0 11 (by decide) rfl rfl rfl) pd_X11_become ⟨by omega, by omega⟩ ⟨by omega, by omega⟩ rfl (Nat.le_of_ble_eq_true rfl) dX11_move_98 ?_
                    rintro _ _ _ ⟨n119, n120, rfl, rfl, h123, h124, q98_0, q98_1, rfl⟩
                    refine z_aloadn C 0 dX11_move_101 rfl rfl ?_
                    refine z_dup C dX11_move_102 rfl ?_
                    refine z_get C 0 (by decide) rfl rfl z_it11 30 (by decide) rfl fl_11_215 rfl dX11_move_103 ?_
                    refine z_iconst C dX11_move_106 ?_
                    refine z_iadd C dX11_move_107 ?_
                    refine z_put C 0 (by decide) rfl rfl z_it11 tyX11 tyX11_ok nmX11 30 (by decide) rfl (Or.inl rfl) fl_11_215 z_pfI rfl rfl (Nat.le_of_ble_eq_true rfl) dX11_move_108 ?_
                    refine z_ext (S' := (z_zm ad ks s_edges s_isNeeded s_explored s_states s_isMoved s_runs s_runTime (s_runMoves + 1) w_h a_machine a_from a_to a_channel a_resets a_guards a_guardOf a_limits a_limitOf a_places a_zones a_parent a_moveE a_moveF a_moves a_z a_ahead n108 n109 a_way a_moments n119 n120)) upM_s_runMoves ?_
                    refine z_iconst C dX11_move_111 ?_
                    rw [hQ]
                    exact z_iret C hrt dX11_move_112 (⟨n108, n109, n119, n120, (s_runMoves + 1), rfl, rfl, h112, h113, h123, h124, _, rfl, ⟨Or.inr (Or.inr (Or.inr (Or.inr ⟨by omega, z_isz1 hM (by omega), by omega, hOO, z_isz1 hKp (by omega), rfl⟩))), fun _ => ⟨fun j hj => (q98_0 j hj).trans (hA j hj), fun j hj => (q98_1 j hj).trans (hB j hj), rfl⟩, fun h => absurd rfl h⟩⟩) (by omega) (by omega)
                  · skip
                    refine z_iconst C dX11_move_95 ?_
                    rw [hQ]
                    exact z_iret C hrt dX11_move_96 (⟨n108, n109, a_runAt, a_runClock, s_runMoves, rfl, rfl, h112, h113, Ha_runAt, Ha_runClock, _, rfl, ⟨Or.inr (Or.inr (Or.inr (Or.inl ⟨by omega, z_isz1 hM (by omega), by omega, fun q => z_isz0 hKp (by omega) q.2, rfl⟩))), fun h => absurd h (by decide), fun _ => ⟨rfl, rfl, rfl⟩⟩⟩) (by omega) (by omega)
                · skip
                  refine z_aloadn C 0 dX11_move_83 rfl rfl ?_
                  refine z_iloadn C 2 dX11_move_84 rfl rfl ?_
                  refine z_callV C (cx_X11_go l f0 h112 Ha_machine Ha_to Ha_resets h113 (by omega)) mv_11_225 (z_atS 0 11 (by decide) rfl rfl rfl) pd_X11_go ⟨by omega, by omega⟩ ⟨by omega, by omega⟩ rfl (Nat.le_of_ble_eq_true rfl) dX11_move_85 ?_
                  rintro _ _ _ ⟨n125, n126, rfl, rfl, h129, h130, q85_0, q85_1, rfl⟩
                  refine z_aloadn C 0 dX11_move_88 rfl rfl ?_
                  have hA : ∀ j, j < 3 → n125 j = z_goA a_runAt a_machine a_to e0 f0 j := by first | (rw [z_goA1 (by omega), q75_0]; exact z_up_pt q47_0) | (rw [z_goA2 (by omega), q85_0, q75_0]; exact z_up_pt (z_up_pt q47_0))
                  have hB : ∀ j, j < 4 → n126 j = z_goC a_runClock a_resets e0 f0 j := by first | (intro j hj; rw [z_goC2 (by omega), q85_1 j hj, q75_1 j hj, q47_1 j hj]) | (intro j hj; rw [z_goC1 (by omega), q75_1 j hj, q47_1 j hj])
                  have hAr := z_goA_rg (em := a_machine) (e := e0) (f := f0) (fun j _ => Ha_runAt j) Ha_to
                  have hBr := z_goC_rg (er := a_resets) (e := e0) (f := f0) (fun j hj => Ha_runClock j)
                  have hOO : z_op2 e0 f0 a_machine a_from a_guards a_guardOf a_runAt a_runClock := by first | exact ⟨z_isz1 hO52 (by omega), Or.inr ⟨by omega, z_isz1 hO65 (by omega)⟩⟩ | exact ⟨z_isz1 hO52 (by omega), Or.inl (by omega)⟩
                  refine z_callV C (cx_X11_areKept l h129 Ha_limits Ha_limitOf h130) mv_11_206 (z_atS 0 11 (by decide) rfl rfl rfl) pd_X11_areKept ⟨by omega, by omega⟩ ⟨by omega, by omega⟩ rfl (Nat.le_of_ble_eq_true rfl) dX11_move_89 ?_
                  rintro _ _ _ ⟨rfl, rfl, z133, rfl, hz133⟩
                  have hKp := z_isz_iff hz133 (z_lim.iff (z_ckM Ha_limitOf) (fun j hj => by rw [hA j hj]; exact hAr j hj) hA hB)
                  refine z_if_ne (t := 97) C dX11_move_92 (by decide) (by omega) (fun c134 => ?_) (fun c134 => ?_)
                  · skip
                    refine z_aloadn C 0 dX11_move_97 rfl rfl ?_
                    refine z_callV C (cx_X11_become l h129 h130 Ha_runAt Ha_runClock (fun j hj => by rw [hB j hj]; exact (hBr j hj).2)) mv_11_209 (z_atS 0 11 (by decide) rfl rfl rfl) pd_X11_become ⟨by omega, by omega⟩ ⟨by omega, by omega⟩ rfl (Nat.le_of_ble_eq_true rfl) dX11_move_98 ?_
                    rintro _ _ _ ⟨n135, n136, rfl, rfl, h139, h140, q98_0, q98_1, rfl⟩
                    refine z_aloadn C 0 dX11_move_101 rfl rfl ?_
                    refine z_dup C dX11_move_102 rfl ?_
                    refine z_get C 0 (by decide) rfl rfl z_it11 30 (by decide) rfl fl_11_215 rfl dX11_move_103 ?_
                    refine z_iconst C dX11_move_106 ?_
                    refine z_iadd C dX11_move_107 ?_
                    refine z_put C 0 (by decide) rfl rfl z_it11 tyX11 tyX11_ok nmX11 30 (by decide) rfl (Or.inl rfl) fl_11_215 z_pfI rfl rfl (Nat.le_of_ble_eq_true rfl) dX11_move_108 ?_
                    refine z_ext (S' := (z_zm ad ks s_edges s_isNeeded s_explored s_states s_isMoved s_runs s_runTime (s_runMoves + 1) w_h a_machine a_from a_to a_channel a_resets a_guards a_guardOf a_limits a_limitOf a_places a_zones a_parent a_moveE a_moveF a_moves a_z a_ahead n125 n126 a_way a_moments n135 n136)) upM_s_runMoves ?_
                    refine z_iconst C dX11_move_111 ?_
                    rw [hQ]
                    exact z_iret C hrt dX11_move_112 (⟨n125, n126, n135, n136, (s_runMoves + 1), rfl, rfl, h129, h130, h139, h140, _, rfl, ⟨Or.inr (Or.inr (Or.inr (Or.inr ⟨by omega, z_isz1 hM (by omega), by omega, hOO, z_isz1 hKp (by omega), rfl⟩))), fun _ => ⟨fun j hj => (q98_0 j hj).trans (hA j hj), fun j hj => (q98_1 j hj).trans (hB j hj), rfl⟩, fun h => absurd rfl h⟩⟩) (by omega) (by omega)
                  · skip
                    refine z_iconst C dX11_move_95 ?_
                    rw [hQ]
                    exact z_iret C hrt dX11_move_96 (⟨n125, n126, a_runAt, a_runClock, s_runMoves, rfl, rfl, h129, h130, Ha_runAt, Ha_runClock, _, rfl, ⟨Or.inr (Or.inr (Or.inr (Or.inl ⟨by omega, z_isz1 hM (by omega), by omega, fun q => z_isz0 hKp (by omega) q.2, rfl⟩))), fun h => absurd h (by decide), fun _ => ⟨rfl, rfl, rfl⟩⟩⟩) (by omega) (by omega)
              · skip
                refine z_aloadn C 0 dX11_move_63 rfl rfl ?_
                refine z_iloadn C 2 dX11_move_64 rfl rfl ?_
                refine z_callV C (cx_X11_isOpen l f0 h101 Ha_machine Ha_from Ha_guards Ha_guardOf h102 (by omega)) mv_11_222 (z_atS 0 11 (by decide) rfl rfl rfl) pd_X11_isOpen ⟨by omega, by omega⟩ ⟨by omega, by omega⟩ rfl (Nat.le_of_ble_eq_true rfl) dX11_move_65 ?_
                rintro _ _ _ ⟨rfl, rfl, z143, rfl, hz143⟩
                have hO65 := z_isz_iff hz143 (z_opn.iff (Ha_machine f0.toNat) (z_ckM (n := 20) Ha_guardOf) (by omega) q47_0 q47_1)
                refine z_if_ne (t := 73) C dX11_move_68 (by decide) (by omega) (fun c144 => ?_) (fun c144 => ?_)
                · skip
                  refine z_aloadn C 0 dX11_move_73 rfl rfl ?_
                  refine z_iloadn C 1 dX11_move_74 rfl rfl ?_
                  refine z_callV C (cx_X11_go l e0 h101 Ha_machine Ha_to Ha_resets h102 (by omega)) mv_11_225 (z_atS 0 11 (by decide) rfl rfl rfl) pd_X11_go ⟨by omega, by omega⟩ ⟨by omega, by omega⟩ rfl (Nat.le_of_ble_eq_true rfl) dX11_move_75 ?_
                  rintro _ _ _ ⟨n145, n146, rfl, rfl, h149, h150, q75_0, q75_1, rfl⟩
                  refine z_iloadn C 2 dX11_move_78 rfl rfl ?_
                  refine z_iconst C dX11_move_79 ?_
                  refine z_icmp_eq (t := 88) C dX11_move_80 (by decide) (by omega) (by omega) (fun c151 => ?_) (fun c151 => ?_)
                  · skip
                    refine z_aloadn C 0 dX11_move_88 rfl rfl ?_
                    have hA : ∀ j, j < 3 → n145 j = z_goA a_runAt a_machine a_to e0 f0 j := by first | (rw [z_goA1 (by omega), q75_0]; exact z_up_pt q47_0) | (rw [z_goA2 (by omega), q85_0, q75_0]; exact z_up_pt (z_up_pt q47_0))
                    have hB : ∀ j, j < 4 → n146 j = z_goC a_runClock a_resets e0 f0 j := by first | (intro j hj; rw [z_goC2 (by omega), q85_1 j hj, q75_1 j hj, q47_1 j hj]) | (intro j hj; rw [z_goC1 (by omega), q75_1 j hj, q47_1 j hj])
                    have hAr := z_goA_rg (em := a_machine) (e := e0) (f := f0) (fun j _ => Ha_runAt j) Ha_to
                    have hBr := z_goC_rg (er := a_resets) (e := e0) (f := f0) (fun j hj => Ha_runClock j)
                    have hOO : z_op2 e0 f0 a_machine a_from a_guards a_guardOf a_runAt a_runClock := by first | exact ⟨z_isz1 hO52 (by omega), Or.inr ⟨by omega, z_isz1 hO65 (by omega)⟩⟩ | exact ⟨z_isz1 hO52 (by omega), Or.inl (by omega)⟩
                    refine z_callV C (cx_X11_areKept l h149 Ha_limits Ha_limitOf h150) mv_11_206 (z_atS 0 11 (by decide) rfl rfl rfl) pd_X11_areKept ⟨by omega, by omega⟩ ⟨by omega, by omega⟩ rfl (Nat.le_of_ble_eq_true rfl) dX11_move_89 ?_
                    rintro _ _ _ ⟨rfl, rfl, z154, rfl, hz154⟩
                    have hKp := z_isz_iff hz154 (z_lim.iff (z_ckM Ha_limitOf) (fun j hj => by rw [hA j hj]; exact hAr j hj) hA hB)
                    refine z_if_ne (t := 97) C dX11_move_92 (by decide) (by omega) (fun c155 => ?_) (fun c155 => ?_)
                    · skip
                      refine z_aloadn C 0 dX11_move_97 rfl rfl ?_
                      refine z_callV C (cx_X11_become l h149 h150 Ha_runAt Ha_runClock (fun j hj => by rw [hB j hj]; exact (hBr j hj).2)) mv_11_209 (z_atS 0 11 (by decide) rfl rfl rfl) pd_X11_become ⟨by omega, by omega⟩ ⟨by omega, by omega⟩ rfl (Nat.le_of_ble_eq_true rfl) dX11_move_98 ?_
                      rintro _ _ _ ⟨n156, n157, rfl, rfl, h160, h161, q98_0, q98_1, rfl⟩
                      refine z_aloadn C 0 dX11_move_101 rfl rfl ?_
                      refine z_dup C dX11_move_102 rfl ?_
                      refine z_get C 0 (by decide) rfl rfl z_it11 30 (by decide) rfl fl_11_215 rfl dX11_move_103 ?_
                      refine z_iconst C dX11_move_106 ?_
                      refine z_iadd C dX11_move_107 ?_
                      refine z_put C 0 (by decide) rfl rfl z_it11 tyX11 tyX11_ok nmX11 30 (by decide) rfl (Or.inl rfl) fl_11_215 z_pfI rfl rfl (Nat.le_of_ble_eq_true rfl) dX11_move_108 ?_
                      refine z_ext (S' := (z_zm ad ks s_edges s_isNeeded s_explored s_states s_isMoved s_runs s_runTime (s_runMoves + 1) w_h a_machine a_from a_to a_channel a_resets a_guards a_guardOf a_limits a_limitOf a_places a_zones a_parent a_moveE a_moveF a_moves a_z a_ahead n145 n146 a_way a_moments n156 n157)) upM_s_runMoves ?_
                      refine z_iconst C dX11_move_111 ?_
                      rw [hQ]
                      exact z_iret C hrt dX11_move_112 (⟨n145, n146, n156, n157, (s_runMoves + 1), rfl, rfl, h149, h150, h160, h161, _, rfl, ⟨Or.inr (Or.inr (Or.inr (Or.inr ⟨by omega, z_isz1 hM (by omega), by omega, hOO, z_isz1 hKp (by omega), rfl⟩))), fun _ => ⟨fun j hj => (q98_0 j hj).trans (hA j hj), fun j hj => (q98_1 j hj).trans (hB j hj), rfl⟩, fun h => absurd rfl h⟩⟩) (by omega) (by omega)
                    · skip
                      refine z_iconst C dX11_move_95 ?_
                      rw [hQ]
                      exact z_iret C hrt dX11_move_96 (⟨n145, n146, a_runAt, a_runClock, s_runMoves, rfl, rfl, h149, h150, Ha_runAt, Ha_runClock, _, rfl, ⟨Or.inr (Or.inr (Or.inr (Or.inl ⟨by omega, z_isz1 hM (by omega), by omega, fun q => z_isz0 hKp (by omega) q.2, rfl⟩))), fun h => absurd h (by decide), fun _ => ⟨rfl, rfl, rfl⟩⟩⟩) (by omega) (by omega)
                  · skip
                    refine z_aloadn C 0 dX11_move_83 rfl rfl ?_
                    refine z_iloadn C 2 dX11_move_84 rfl rfl ?_
                    refine z_callV C (cx_X11_go l f0 h149 Ha_machine Ha_to Ha_resets h150 (by omega)) mv_11_225 (z_atS 0 11 (by decide) rfl rfl rfl) pd_X11_go ⟨by omega, by omega⟩ ⟨by omega, by omega⟩ rfl (Nat.le_of_ble_eq_true rfl) dX11_move_85 ?_
                    rintro _ _ _ ⟨n162, n163, rfl, rfl, h166, h167, q85_0, q85_1, rfl⟩
                    refine z_aloadn C 0 dX11_move_88 rfl rfl ?_
                    have hA : ∀ j, j < 3 → n162 j = z_goA a_runAt a_machine a_to e0 f0 j := by first | (rw [z_goA1 (by omega), q75_0]; exact z_up_pt q47_0) | (rw [z_goA2 (by omega), q85_0, q75_0]; exact z_up_pt (z_up_pt q47_0))
                    have hB : ∀ j, j < 4 → n163 j = z_goC a_runClock a_resets e0 f0 j := by first | (intro j hj; rw [z_goC2 (by omega), q85_1 j hj, q75_1 j hj, q47_1 j hj]) | (intro j hj; rw [z_goC1 (by omega), q75_1 j hj, q47_1 j hj])
                    have hAr := z_goA_rg (em := a_machine) (e := e0) (f := f0) (fun j _ => Ha_runAt j) Ha_to
                    have hBr := z_goC_rg (er := a_resets) (e := e0) (f := f0) (fun j hj => Ha_runClock j)
                    have hOO : z_op2 e0 f0 a_machine a_from a_guards a_guardOf a_runAt a_runClock := by first | exact ⟨z_isz1 hO52 (by omega), Or.inr ⟨by omega, z_isz1 hO65 (by omega)⟩⟩ | exact ⟨z_isz1 hO52 (by omega), Or.inl (by omega)⟩
                    refine z_callV C (cx_X11_areKept l h166 Ha_limits Ha_limitOf h167) mv_11_206 (z_atS 0 11 (by decide) rfl rfl rfl) pd_X11_areKept ⟨by omega, by omega⟩ ⟨by omega, by omega⟩ rfl (Nat.le_of_ble_eq_true rfl) dX11_move_89 ?_
                    rintro _ _ _ ⟨rfl, rfl, z170, rfl, hz170⟩
                    have hKp := z_isz_iff hz170 (z_lim.iff (z_ckM Ha_limitOf) (fun j hj => by rw [hA j hj]; exact hAr j hj) hA hB)
                    refine z_if_ne (t := 97) C dX11_move_92 (by decide) (by omega) (fun c171 => ?_) (fun c171 => ?_)
                    · skip
                      refine z_aloadn C 0 dX11_move_97 rfl rfl ?_
                      refine z_callV C (cx_X11_become l h166 h167 Ha_runAt Ha_runClock (fun j hj => by rw [hB j hj]; exact (hBr j hj).2)) mv_11_209 (z_atS 0 11 (by decide) rfl rfl rfl) pd_X11_become ⟨by omega, by omega⟩ ⟨by omega, by omega⟩ rfl (Nat.le_of_ble_eq_true rfl) dX11_move_98 ?_
                      rintro _ _ _ ⟨n172, n173, rfl, rfl, h176, h177, q98_0, q98_1, rfl⟩
                      refine z_aloadn C 0 dX11_move_101 rfl rfl ?_
                      refine z_dup C dX11_move_102 rfl ?_
                      refine z_get C 0 (by decide) rfl rfl z_it11 30 (by decide) rfl fl_11_215 rfl dX11_move_103 ?_
                      refine z_iconst C dX11_move_106 ?_
                      refine z_iadd C dX11_move_107 ?_
                      refine z_put C 0 (by decide) rfl rfl z_it11 tyX11 tyX11_ok nmX11 30 (by decide) rfl (Or.inl rfl) fl_11_215 z_pfI rfl rfl (Nat.le_of_ble_eq_true rfl) dX11_move_108 ?_
                      refine z_ext (S' := (z_zm ad ks s_edges s_isNeeded s_explored s_states s_isMoved s_runs s_runTime (s_runMoves + 1) w_h a_machine a_from a_to a_channel a_resets a_guards a_guardOf a_limits a_limitOf a_places a_zones a_parent a_moveE a_moveF a_moves a_z a_ahead n162 n163 a_way a_moments n172 n173)) upM_s_runMoves ?_
                      refine z_iconst C dX11_move_111 ?_
                      rw [hQ]
                      exact z_iret C hrt dX11_move_112 (⟨n162, n163, n172, n173, (s_runMoves + 1), rfl, rfl, h166, h167, h176, h177, _, rfl, ⟨Or.inr (Or.inr (Or.inr (Or.inr ⟨by omega, z_isz1 hM (by omega), by omega, hOO, z_isz1 hKp (by omega), rfl⟩))), fun _ => ⟨fun j hj => (q98_0 j hj).trans (hA j hj), fun j hj => (q98_1 j hj).trans (hB j hj), rfl⟩, fun h => absurd rfl h⟩⟩) (by omega) (by omega)
                    · skip
                      refine z_iconst C dX11_move_95 ?_
                      rw [hQ]
                      exact z_iret C hrt dX11_move_96 (⟨n162, n163, a_runAt, a_runClock, s_runMoves, rfl, rfl, h166, h167, Ha_runAt, Ha_runClock, _, rfl, ⟨Or.inr (Or.inr (Or.inr (Or.inl ⟨by omega, z_isz1 hM (by omega), by omega, fun q => z_isz0 hKp (by omega) q.2, rfl⟩))), fun h => absurd h (by decide), fun _ => ⟨rfl, rfl, rfl⟩⟩⟩) (by omega) (by omega)
                · skip
                  refine z_iconst C dX11_move_71 ?_
                  rw [hQ]
                  exact z_iret C hrt dX11_move_72 (⟨n97, n98, a_runAt, a_runClock, s_runMoves, rfl, rfl, h101, h102, Ha_runAt, Ha_runClock, _, rfl, ⟨Or.inr (Or.inr (Or.inr (Or.inl ⟨by omega, z_isz1 hM (by omega), by omega, by first | exact (fun q => z_isz0 hO52 (by omega) q.1.1) | exact (fun q => q.1.2.elim (fun z => by omega) (fun z => z_isz0 hO65 (by omega) z.2)), rfl⟩))), fun h => absurd h (by decide), fun _ => ⟨rfl, rfl, rfl⟩⟩⟩) (by omega) (by omega)
          · skip
            refine z_bipush C dX11_move_43 (by decide) ?_
            rw [hQ]
            exact z_iret C hrt dX11_move_45 (⟨a_at, a_amounts, a_runAt, a_runClock, s_runMoves, rfl, rfl, Ha_at, Ha_amounts, Ha_runAt, Ha_runClock, _, rfl, ⟨Or.inr (Or.inr (Or.inl ⟨by omega, z_isz1 hM (by omega), by omega, rfl⟩)), fun h => absurd h (by decide), fun _ => ⟨rfl, rfl, rfl⟩⟩⟩) (by omega) (by omega)
        · skip
          refine z_bipush C dX11_move_33 (by decide) ?_
          rw [hQ]
          exact z_iret C hrt dX11_move_35 (⟨a_at, a_amounts, a_runAt, a_runClock, s_runMoves, rfl, rfl, Ha_at, Ha_amounts, Ha_runAt, Ha_runClock, _, rfl, ⟨Or.inr (Or.inl ⟨by omega, z_isz0 hM (by omega), rfl⟩), fun h => absurd h (by decide), fun _ => ⟨rfl, rfl, rfl⟩⟩⟩) (by omega) (by omega)
      · skip
        refine z_bipush C dX11_move_21 (by decide) ?_
        rw [hQ]
        exact z_iret C hrt dX11_move_23 (⟨a_at, a_amounts, a_runAt, a_runClock, s_runMoves, rfl, rfl, Ha_at, Ha_amounts, Ha_runAt, Ha_runClock, _, rfl, ⟨Or.inl ⟨by omega, rfl⟩, fun h => absurd h (by decide), fun _ => ⟨rfl, rfl, rfl⟩⟩⟩) (by omega) (by omega)
set_option maxRecDepth 20000 in
theorem cx_X11_run (l : Launch) {D : va_G} {A : Nat → Prop} {ad : Nat → Nat} {ks : z_Ks} {s_edges s_isNeeded s_explored s_states s_isMoved s_runs s_runTime s_runMoves : Int} {w_h : Int64} {a_machine a_from a_to a_channel a_resets a_guards a_guardOf a_limits a_limitOf a_places a_zones a_parent a_moveE a_moveF a_moves a_z a_ahead a_at a_amounts a_way a_moments a_runAt a_runClock : Nat → Int} {Y : Nat → Option va_E} (wh : Int) (Hs_runs : (s_runs = 0 ∨ s_runs = 1)) (hw : z_rg wh) : z_Met l yX11_run cX11_run 2 (some .int) 1 22 0 0 D A 24 ad ks [.ref (ad 0), z_v wh] (z_zm ad ks s_edges s_isNeeded s_explored s_states s_isMoved s_runs s_runTime s_runMoves w_h a_machine a_from a_to a_channel a_resets a_guards a_guardOf a_limits a_limitOf a_places a_zones a_parent a_moveE a_moveF a_moves a_z a_ahead a_at a_amounts a_way a_moments a_runAt a_runClock) Y (fun r S' Y' => S' = (z_zm ad ks s_edges s_isNeeded s_explored s_states s_isMoved s_runs s_runTime s_runMoves w_h a_machine a_from a_to a_channel a_resets a_guards a_guardOf a_limits a_limitOf a_places a_zones a_parent a_moveE a_moveF a_moves a_z a_ahead a_at a_amounts a_way a_moments a_runAt a_runClock) ∧ Y = Y' ∧ ∃ z : Int, r = some (z_v z) ∧ (z = z_runR wh s_runs a_runAt a_runClock s_runTime s_runMoves)) := by
  refine z_start2 (by decide) (Nat.le_of_ble_eq_true rfl) ?_
  intro p e R s m args below meth c Q C hRf hRc hRs hRl hQ hrt hnm
  refine z_loc (L' := [(0, .ref (ad 0)), (1, z_v wh)]) [0, 1] rfl ?_
  refine z_aloadn C 0 dX11_run_0 rfl rfl ?_
  refine z_get C 0 (by decide) rfl rfl z_it11 26 (by decide) rfl fl_11_83 rfl dX11_run_1 ?_
  refine z_if_ne (t := 10) C dX11_run_4 (by decide) (by omega) (fun c1 => ?_) (fun c1 => ?_)
  · skip
    refine z_iloadn C 1 dX11_run_10 rfl rfl ?_
    refine z_iconst C dX11_run_11 ?_
    refine z_bipush C dX11_run_12 (by decide) ?_
    refine z_callS C (cm_X11_in l wh 0 8 (by omega) (by omega) (by omega)) mv_11_86 pd_X11_in ⟨by omega, by omega⟩ ⟨by omega, by omega⟩ rfl (Nat.le_of_ble_eq_true rfl) dX11_run_14 ?_
    rintro _ _ _ ⟨rfl, rfl, z2, rfl, hz2⟩
    refine z_if_eq (t := 25) C dX11_run_17 (by decide) (by omega) (fun c3 => ?_) (fun c3 => ?_)
    · skip
      refine z_bipush C dX11_run_25 (by decide) ?_
      rw [hQ]
      exact z_iret C hrt dX11_run_27 (⟨rfl, rfl, _, rfl, by unfold z_runR; split <;> (try split) <;> (try split) <;> (try split) <;> (try split) <;> (try split) <;> (try split) <;> omega⟩) (by omega) (by omega)
    · skip
      refine z_iloadn C 1 dX11_run_20 rfl rfl ?_
      refine z_iconst C dX11_run_21 ?_
      refine z_icmp_ne (t := 28) C dX11_run_22 (by decide) (by omega) (by omega) (fun c4 => ?_) (fun c4 => ?_)
      · skip
        refine z_iloadn C 1 dX11_run_28 rfl rfl ?_
        refine z_iconst C dX11_run_29 ?_
        refine z_icmp_ge (t := 42) C dX11_run_30 (by decide) (by omega) (by omega) (fun c5 => ?_) (fun c5 => ?_)
        · skip
          refine z_iloadn C 1 dX11_run_42 rfl rfl ?_
          refine z_bipush C dX11_run_43 (by decide) ?_
          refine z_icmp_ge (t := 59) C dX11_run_45 (by decide) (by omega) (by omega) (fun c6 => ?_) (fun c6 => ?_)
          · skip
            refine z_iloadn C 1 dX11_run_59 rfl rfl ?_
            refine z_bipush C dX11_run_60 (by decide) ?_
            refine z_icmp_ne (t := 72) C dX11_run_62 (by decide) (by omega) (by omega) (fun c7 => ?_) (fun c7 => ?_)
            · skip
              refine z_aloadn C 0 dX11_run_72 rfl rfl ?_
              refine z_get C 0 (by decide) rfl rfl z_it11 30 (by decide) rfl fl_11_215 rfl dX11_run_73 ?_
              rw [hQ]
              exact z_iret C hrt dX11_run_76 (⟨rfl, rfl, _, rfl, by unfold z_runR; split <;> (try split) <;> (try split) <;> (try split) <;> (try split) <;> (try split) <;> (try split) <;> omega⟩) (by omega) (by omega)
            · skip
              refine z_aloadn C 0 dX11_run_65 rfl rfl ?_
              refine z_get C 0 (by decide) rfl rfl z_it11 29 (by decide) rfl fl_11_212 rfl dX11_run_66 ?_
              refine z_goto (t := 76) C dX11_run_69 (by decide) ?_
              rw [hQ]
              exact z_iret C hrt dX11_run_76 (⟨rfl, rfl, _, rfl, by unfold z_runR; split <;> (try split) <;> (try split) <;> (try split) <;> (try split) <;> (try split) <;> (try split) <;> omega⟩) (by omega) (by omega)
          · skip
            refine z_aloadn C 0 dX11_run_48 rfl rfl ?_
            refine z_get C 0 (by decide) rfl rfl z_it11 28 (by decide) rfl fl_11_80 rfl dX11_run_49 ?_
            refine z_iloadn C 1 dX11_run_52 rfl rfl ?_
            refine z_iconst C dX11_run_53 ?_
            refine z_isub C dX11_run_54 ?_
            refine z_iald C 23 (by decide) rfl (by decide) (by omega) (by omega) dX11_run_55 ?_
            refine z_goto (t := 76) C dX11_run_56 (by decide) ?_
            rw [hQ]
            exact z_iret C hrt dX11_run_76 (⟨rfl, rfl, _, rfl, by unfold z_runR; split <;> (try split) <;> (try split) <;> (try split) <;> (try split) <;> (try split) <;> (try split) <;> omega⟩) (by omega) (by omega)
        · skip
          refine z_aloadn C 0 dX11_run_33 rfl rfl ?_
          refine z_get C 0 (by decide) rfl rfl z_it11 27 (by decide) rfl fl_11_77 rfl dX11_run_34 ?_
          refine z_iloadn C 1 dX11_run_37 rfl rfl ?_
          refine z_iald C 22 (by decide) rfl (by decide) (by omega) (by omega) dX11_run_38 ?_
          refine z_goto (t := 76) C dX11_run_39 (by decide) ?_
          rw [hQ]
          exact z_iret C hrt dX11_run_76 (⟨rfl, rfl, _, rfl, by unfold z_runR; split <;> (try split) <;> (try split) <;> (try split) <;> (try split) <;> (try split) <;> (try split) <;> omega⟩) (by omega) (by omega)
      · skip
        refine z_bipush C dX11_run_25 (by decide) ?_
        rw [hQ]
        exact z_iret C hrt dX11_run_27 (⟨rfl, rfl, _, rfl, by unfold z_runR; split <;> (try split) <;> (try split) <;> (try split) <;> (try split) <;> (try split) <;> (try split) <;> omega⟩) (by omega) (by omega)
  · skip
    refine z_bipush C dX11_run_7 (by decide) ?_
    rw [hQ]
    exact z_iret C hrt dX11_run_9 (⟨rfl, rfl, _, rfl, by unfold z_runR; split <;> (try split) <;> (try split) <;> (try split) <;> (try split) <;> (try split) <;> (try split) <;> omega⟩) (by omega) (by omega)
