/-- the states' ways: a state with moves has one ahead of it with one less, and its edge is told -/
def z_ch (n : Int) (par mv me : Nat → Int) : Prop := ∀ i : Nat, (i : Int) < n → 0 < mv i → 0 ≤ par i ∧ par i < i ∧ mv (par i).toNat = mv i - 1 ∧ 0 ≤ me i
theorem z_ch_add {n b v x : Int} {par mv me : Nat → Int} (h : z_ch n par mv me) (hn : 0 ≤ n) (hc : v = 0 ∨ 0 ≤ b ∧ b < n ∧ v = mv b.toNat + 1 ∧ 0 ≤ x) : z_ch (n + 1) (va_up par n.toNat b) (va_up mv n.toNat v) (va_up me n.toNat x) := by
  intro i hi h0
  by_cases he : i = n.toNat
  · subst he
    simp only [va_up, if_true] at h0 ⊢
    rcases hc with hc | ⟨h1, h2, h3, h4⟩
    · omega
    · refine ⟨h1, by omega, ?_, h4⟩
      rw [if_neg (by omega)]
      omega
  · simp only [va_up, if_neg he] at h0 ⊢
    obtain ⟨h1, h2, h3, h4⟩ := h i (by omega) h0
    refine ⟨h1, h2, ?_, h4⟩
    rw [if_neg (by omega)]
    exact h3
theorem z_ch0 {par mv me : Nat → Int} : z_ch 0 par mv me := fun i hi => absurd hi (by omega)
set_option maxRecDepth 20000 in
theorem cm_X11_tells (l : Launch) {D : va_G} {A : Nat → Prop} {ad : Nat → Nat} {ks : z_Ks} {s_edges s_isNeeded s_explored s_states s_isMoved s_runs s_runTime s_runMoves : Int} {w_h : Int64} {a_machine a_from a_to a_channel a_resets a_guards a_guardOf a_limits a_limitOf a_places a_zones a_parent a_moveE a_moveF a_moves a_z a_ahead a_at a_amounts a_way a_moments a_runAt a_runClock : Nat → Int} {Y : Nat → Option va_E} (i0 wh : Int) (hi : 0 ≤ i0 ∧ i0 ≤ 119) (hw : 0 ≤ wh ∧ wh ≤ 6) : z_Met l yX11_tells cX11_tells 3 (some .int) 0 0 0 0 D A 24 ad ks [.ref (ad 0), z_v i0, z_v wh] (z_zm ad ks s_edges s_isNeeded s_explored s_states s_isMoved s_runs s_runTime s_runMoves w_h a_machine a_from a_to a_channel a_resets a_guards a_guardOf a_limits a_limitOf a_places a_zones a_parent a_moveE a_moveF a_moves a_z a_ahead a_at a_amounts a_way a_moments a_runAt a_runClock) Y (fun r S' Y' => S' = (z_zm ad ks s_edges s_isNeeded s_explored s_states s_isMoved s_runs s_runTime s_runMoves w_h a_machine a_from a_to a_channel a_resets a_guards a_guardOf a_limits a_limitOf a_places a_zones a_parent a_moveE a_moveF a_moves a_z a_ahead a_at a_amounts a_way a_moments a_runAt a_runClock) ∧ Y = Y' ∧ ∃ z : Int, r = some (z_v z) ∧ (True)) := by
  refine z_start2 (by decide) (Nat.le_of_ble_eq_true rfl) ?_
  intro p e R s m args below meth c Q C hRf hRc hRs hRl hQ hrt hnm
  refine z_loc (L' := [(0, .ref (ad 0)), (1, z_v i0), (2, z_v wh)]) [0, 1, 2] rfl ?_
  refine z_iloadn C 2 dX11_tells_0 rfl rfl ?_
  refine z_iconst C dX11_tells_1 ?_
  refine z_icmp_ge (t := 18) C dX11_tells_2 (by decide) (by omega) (by omega) (fun c1 => ?_) (fun c1 => ?_)
  · skip
    refine z_iloadn C 2 dX11_tells_18 rfl rfl ?_
    refine z_iconst C dX11_tells_19 ?_
    refine z_icmp_ne (t := 32) C dX11_tells_20 (by decide) (by omega) (by omega) (fun c2 => ?_) (fun c2 => ?_)
    · skip
      refine z_iloadn C 2 dX11_tells_32 rfl rfl ?_
      refine z_iconst C dX11_tells_33 ?_
      refine z_icmp_ne (t := 46) C dX11_tells_34 (by decide) (by omega) (by omega) (fun c3 => ?_) (fun c3 => ?_)
      · skip
        refine z_iloadn C 2 dX11_tells_46 rfl rfl ?_
        refine z_iconst C dX11_tells_47 ?_
        refine z_icmp_ne (t := 60) C dX11_tells_48 (by decide) (by omega) (by omega) (fun c4 => ?_) (fun c4 => ?_)
        · skip
          refine z_aloadn C 0 dX11_tells_60 rfl rfl ?_
          refine z_get C 0 (by decide) rfl rfl z_it11 18 (by decide) rfl fl_11_56 rfl dX11_tells_61 ?_
          refine z_iloadn C 1 dX11_tells_64 rfl rfl ?_
          refine z_iald C 15 (by decide) rfl (by decide) (by omega) (by omega) dX11_tells_65 ?_
          rw [hQ]
          exact z_iret C hrt dX11_tells_66 (⟨rfl, rfl, _, rfl, trivial⟩) (by omega) (by omega)
        · skip
          refine z_aloadn C 0 dX11_tells_51 rfl rfl ?_
          refine z_get C 0 (by decide) rfl rfl z_it11 17 (by decide) rfl fl_11_53 rfl dX11_tells_52 ?_
          refine z_iloadn C 1 dX11_tells_55 rfl rfl ?_
          refine z_iald C 14 (by decide) rfl (by decide) (by omega) (by omega) dX11_tells_56 ?_
          refine z_goto (t := 66) C dX11_tells_57 (by decide) ?_
          rw [hQ]
          exact z_iret C hrt dX11_tells_66 (⟨rfl, rfl, _, rfl, trivial⟩) (by omega) (by omega)
      · skip
        refine z_aloadn C 0 dX11_tells_37 rfl rfl ?_
        refine z_get C 0 (by decide) rfl rfl z_it11 16 (by decide) rfl fl_11_50 rfl dX11_tells_38 ?_
        refine z_iloadn C 1 dX11_tells_41 rfl rfl ?_
        refine z_iald C 13 (by decide) rfl (by decide) (by omega) (by omega) dX11_tells_42 ?_
        refine z_goto (t := 66) C dX11_tells_43 (by decide) ?_
        rw [hQ]
        exact z_iret C hrt dX11_tells_66 (⟨rfl, rfl, _, rfl, trivial⟩) (by omega) (by omega)
    · skip
      refine z_aloadn C 0 dX11_tells_23 rfl rfl ?_
      refine z_get C 0 (by decide) rfl rfl z_it11 15 (by decide) rfl fl_11_47 rfl dX11_tells_24 ?_
      refine z_iloadn C 1 dX11_tells_27 rfl rfl ?_
      refine z_iald C 12 (by decide) rfl (by decide) (by omega) (by omega) dX11_tells_28 ?_
      refine z_goto (t := 66) C dX11_tells_29 (by decide) ?_
      rw [hQ]
      exact z_iret C hrt dX11_tells_66 (⟨rfl, rfl, _, rfl, trivial⟩) (by omega) (by omega)
  · skip
    refine z_aloadn C 0 dX11_tells_5 rfl rfl ?_
    refine z_get C 0 (by decide) rfl rfl z_it11 13 (by decide) rfl fl_11_41 rfl dX11_tells_6 ?_
    refine z_iconst C dX11_tells_9 ?_
    refine z_iloadn C 1 dX11_tells_10 rfl rfl ?_
    refine z_imul C dX11_tells_11 ?_
    refine z_iloadn C 2 dX11_tells_12 rfl rfl ?_
    refine z_iadd C dX11_tells_13 ?_
    refine z_iald C 10 (by decide) rfl (by decide) (by omega) (by omega) dX11_tells_14 ?_
    refine z_goto (t := 66) C dX11_tells_15 (by decide) ?_
    rw [hQ]
    exact z_iret C hrt dX11_tells_66 (⟨rfl, rfl, _, rfl, trivial⟩) (by omega) (by omega)