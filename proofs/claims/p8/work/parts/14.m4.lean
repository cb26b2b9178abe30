/-- the states' ways: a state with moves has one ahead of it with one less, and its edge is told -/
def z_ch (n : Int) (par mv me : Nat → Int) : Prop := ∀ i : Nat, (i : Int) < n → 0 < mv i → 0 ≤ par i ∧ par i < i ∧ mv (par i).toNat = mv i - 1 ∧ 0 ≤ me i
theorem z_ch_add {n b v x : Int} {par mv me : Nat → Int} (h : z_ch n par mv me) (hn : 0 ≤ n) (hc : v = 0 ∨ 0 ≤ b ∧ b < n ∧ v = mv b.toNat + 1 ∧ 0 ≤ x) : z_ch (n + 1) (va_up par n.toNat b) (va_up mv n.toNat v) (va_up me n.toNat x) := by
  intro i hi h0
  by_cases he : i = n.toNat
  · subst he
    simp only [va_up, if_true] at h0 ⊢
    rcases hc with hc | ⟨h1, h2, h3, h4⟩
    · omega
    · refine ⟨h1, by omega, ?_, h4⟩
      rw [if_neg (by omega)]
      omega
  · simp only [va_up, if_neg he] at h0 ⊢
    obtain ⟨h1, h2, h3, h4⟩ := h i (by omega) h0
    refine ⟨h1, h2, ?_, h4⟩
    rw [if_neg (by omega)]
    exact h3
theorem z_ch0 {par mv me : Nat → Int} : z_ch 0 par mv me := fun i hi => absurd hi (by omega)
set_option maxRecDepth 20000 in
theorem cm_X11_meet (l : Launch) {D : va_G} {A : Nat → Prop} {ad : Nat → Nat} {ks : z_Ks} {s_edges s_isNeeded s_explored s_states s_isMoved s_runs s_runTime s_runMoves : Int} {w_h : Int64} {a_machine a_from a_to a_channel a_resets a_guards a_guardOf a_limits a_limitOf a_places a_zones a_parent a_moveE a_moveF a_moves a_z a_ahead a_at a_amounts a_way a_moments a_runAt a_runClock : Nat → Int} {Y : Nat → Option va_E} (by0 e0 f0 : Int) (Hs_states : (0 ≤ s_states ∧ s_states ≤ 120)) (Ha_at : (∀ j, 0 ≤ a_at j ∧ a_at j ≤ 5)) (Ha_z : (∀ j, z_rg (a_z j))) (Ha_places : (∀ j, 0 ≤ a_places j ∧ a_places j ≤ 5)) (Ha_zones : (∀ j, z_rg (a_zones j))) (Ha_parent : (∀ j, -1 ≤ a_parent j ∧ a_parent j ≤ 119)) (Ha_moveE : (∀ j, -1 ≤ a_moveE j ∧ a_moveE j ≤ 19)) (Ha_moveF : (∀ j, -1 ≤ a_moveF j ∧ a_moveF j ≤ 19)) (Ha_moves : (∀ j, 0 ≤ a_moves j ∧ a_moves j ≤ 40)) (hn : s_states ≤ 119) (hb : -1 ≤ by0 ∧ by0 < s_states) (he : -1 ≤ e0 ∧ e0 ≤ 19) (hf : -1 ≤ f0 ∧ f0 ≤ 19) (hm : 0 ≤ by0 → a_moves by0.toNat ≤ 39 ∧ 0 ≤ e0) (hch : z_ch s_states a_parent a_moves a_moveE) : z_Met l yX11_meet cX11_meet 5 none 0 0 0 0 D A 24 ad ks [.ref (ad 0), z_v by0, z_v e0, z_v f0] (z_zm ad ks s_edges s_isNeeded s_explored s_states s_isMoved s_runs s_runTime s_runMoves w_h a_machine a_from a_to a_channel a_resets a_guards a_guardOf a_limits a_limitOf a_places a_zones a_parent a_moveE a_moveF a_moves a_z a_ahead a_at a_amounts a_way a_moments a_runAt a_runClock) Y (fun r S' Y' => ∃ na_places : Nat → Int, ∃ na_zones : Nat → Int, ∃ na_parent : Nat → Int, ∃ na_moveE : Nat → Int, ∃ na_moveF : Nat → Int, ∃ na_moves : Nat → Int, S' = (z_zm ad ks s_edges s_isNeeded s_explored (s_states + 1) s_isMoved s_runs s_runTime s_runMoves w_h a_machine a_from a_to a_channel a_resets a_guards a_guardOf a_limits a_limitOf na_places na_zones na_parent na_moveE na_moveF na_moves a_z a_ahead a_at a_amounts a_way a_moments a_runAt a_runClock) ∧ Y = Y' ∧ (∀ j, 0 ≤ na_places j ∧ na_places j ≤ 5) ∧ (∀ j, z_rg (na_zones j)) ∧ (∀ j, -1 ≤ na_parent j ∧ na_parent j ≤ 119) ∧ (∀ j, -1 ≤ na_moveE j ∧ na_moveE j ≤ 19) ∧ (∀ j, -1 ≤ na_moveF j ∧ na_moveF j ≤ 19) ∧ (∀ j, 0 ≤ na_moves j ∧ na_moves j ≤ 40) ∧ z_ch (s_states + 1) na_parent na_moves na_moveE ∧ (∀ j, j ≠ s_states.toNat → na_moves j = a_moves j) ∧ r = none) := by
  refine z_start2 (by decide) (Nat.le_of_ble_eq_true rfl) ?_
  intro p e R s m args below meth c Q C hRf hRc hRs hRl hQ hrt hnm
  refine z_loc (L' := [(0, .ref (ad 0)), (1, z_v by0), (2, z_v e0), (3, z_v f0)]) [0, 1, 2, 3] rfl ?_
  refine z_iconst C dX11_meet_0 ?_
  refine z_istore (L' := [(4, z_v 0), (0, .ref (ad 0)), (1, z_v by0), (2, z_v e0), (3, z_v f0)]) C dX11_meet_1 (by decide) rfl ?_
  have L3 : ∀ (n : Nat), ∀ (i4 : Int) (fa_places : Nat → Int), ((∀ j, 0 ≤ fa_places j ∧ fa_places j ≤ 5)) → (0 ≤ i4 ∧ i4 ≤ 3) → ((3 : Int) - i4).toNat < n → z_V p l e R s m args below meth c Q D A 24 ad 5 (z_zm ad ks s_edges s_isNeeded s_explored s_states s_isMoved s_runs s_runTime s_runMoves w_h a_machine a_from a_to a_channel a_resets a_guards a_guardOf a_limits a_limitOf fa_places a_zones a_parent a_moveE a_moveF a_moves a_z a_ahead a_at a_amounts a_way a_moments a_runAt a_runClock) Y 0 0 3 [(0, .ref (ad 0)), (1, z_v by0), (2, z_v e0), (3, z_v f0), (4, z_v i4)] [] := by
    intro n
    induction n with
    | zero => intro i4 fa_places Hfa_places I4 hm; exact absurd hm (Nat.not_lt_zero _)
    | succ n ih3 =>
      intro i4 fa_places Hfa_places I4 hm
      refine z_iload C 4 dX11_meet_3 rfl ?_
      refine z_iconst C dX11_meet_5 ?_
      refine z_icmp_ge (t := 36) C dX11_meet_6 (by decide) (by omega) (by omega) (fun c1 => ?_) (fun c1 => ?_)
      · skip
        refine z_iconst C dX11_meet_36 ?_
        refine z_istore (L' := [(4, z_v 0), (0, .ref (ad 0)), (1, z_v by0), (2, z_v e0), (3, z_v f0)]) C dX11_meet_37 (by decide) rfl ?_
        have L39 : ∀ (n : Nat), ∀ (i4 : Int) (fa_zones : Nat → Int), ((∀ j, z_rg (fa_zones j))) → (0 ≤ i4 ∧ i4 ≤ 16) → ((16 : Int) - i4).toNat < n → z_V p l e R s m args below meth c Q D A 24 ad 5 (z_zm ad ks s_edges s_isNeeded s_explored s_states s_isMoved s_runs s_runTime s_runMoves w_h a_machine a_from a_to a_channel a_resets a_guards a_guardOf a_limits a_limitOf fa_places fa_zones a_parent a_moveE a_moveF a_moves a_z a_ahead a_at a_amounts a_way a_moments a_runAt a_runClock) Y 0 0 39 [(0, .ref (ad 0)), (1, z_v by0), (2, z_v e0), (3, z_v f0), (4, z_v i4)] [] := by
          intro n
          induction n with
          | zero => intro i4 fa_zones Hfa_zones I4 hm; exact absurd hm (Nat.not_lt_zero _)
          | succ n ih39 =>
            intro i4 fa_zones Hfa_zones I4 hm
            refine z_iload C 4 dX11_meet_39 rfl ?_
            refine z_bipush C dX11_meet_41 (by decide) ?_
            refine z_icmp_ge (t := 74) C dX11_meet_43 (by decide) (by omega) (by omega) (fun c2 => ?_) (fun c2 => ?_)
            · skip
              refine z_aloadn C 0 dX11_meet_74 rfl rfl ?_
              refine z_get C 0 (by decide) rfl rfl z_it11 15 (by decide) rfl fl_11_47 rfl dX11_meet_75 ?_
              refine z_aloadn C 0 dX11_meet_78 rfl rfl ?_
              refine z_get C 0 (by decide) rfl rfl z_it11 12 (by decide) rfl fl_11_94 rfl dX11_meet_79 ?_
              refine z_iloadn C 1 dX11_meet_82 rfl rfl ?_
              refine z_iast C 12 (by decide) rfl (by decide) (by omega) (by omega) dX11_meet_83 ?_
              refine z_ext (S' := (z_zm ad ks s_edges s_isNeeded s_explored s_states s_isMoved s_runs s_runTime s_runMoves w_h a_machine a_from a_to a_channel a_resets a_guards a_guardOf a_limits a_limitOf fa_places fa_zones (va_up a_parent (s_states : Int).toNat by0) a_moveE a_moveF a_moves a_z a_ahead a_at a_amounts a_way a_moments a_runAt a_runClock)) upM_a_parent ?_
              have h3 : ∀ j, -1 ≤ (va_up a_parent (s_states : Int).toNat by0) j ∧ (va_up a_parent (s_states : Int).toNat by0) j ≤ 119 := z_upP (P := fun j v => -1 ≤ v ∧ v ≤ 119) Ha_parent (by omega)
              refine z_aloadn C 0 dX11_meet_84 rfl rfl ?_
              refine z_get C 0 (by decide) rfl rfl z_it11 16 (by decide) rfl fl_11_50 rfl dX11_meet_85 ?_
              refine z_aloadn C 0 dX11_meet_88 rfl rfl ?_
              refine z_get C 0 (by decide) rfl rfl z_it11 12 (by decide) rfl fl_11_94 rfl dX11_meet_89 ?_
              refine z_iloadn C 2 dX11_meet_92 rfl rfl ?_
              refine z_iast C 13 (by decide) rfl (by decide) (by omega) (by omega) dX11_meet_93 ?_
              refine z_ext (S' := (z_zm ad ks s_edges s_isNeeded s_explored s_states s_isMoved s_runs s_runTime s_runMoves w_h a_machine a_from a_to a_channel a_resets a_guards a_guardOf a_limits a_limitOf fa_places fa_zones (va_up a_parent (s_states : Int).toNat by0) (va_up a_moveE (s_states : Int).toNat e0) a_moveF a_moves a_z a_ahead a_at a_amounts a_way a_moments a_runAt a_runClock)) upM_a_moveE ?_
              have h4 : ∀ j, -1 ≤ (va_up a_moveE (s_states : Int).toNat e0) j ∧ (va_up a_moveE (s_states : Int).toNat e0) j ≤ 19 := z_upP (P := fun j v => -1 ≤ v ∧ v ≤ 19) Ha_moveE (by omega)
              refine z_aloadn C 0 dX11_meet_94 rfl rfl ?_
              refine z_get C 0 (by decide) rfl rfl z_it11 17 (by decide) rfl fl_11_53 rfl dX11_meet_95 ?_
              refine z_aloadn C 0 dX11_meet_98 rfl rfl ?_
              refine z_get C 0 (by decide) rfl rfl z_it11 12 (by decide) rfl fl_11_94 rfl dX11_meet_99 ?_
              refine z_iloadn C 3 dX11_meet_102 rfl rfl ?_
              refine z_iast C 14 (by decide) rfl (by decide) (by omega) (by omega) dX11_meet_103 ?_
              refine z_ext (S' := (z_zm ad ks s_edges s_isNeeded s_explored s_states s_isMoved s_runs s_runTime s_runMoves w_h a_machine a_from a_to a_channel a_resets a_guards a_guardOf a_limits a_limitOf fa_places fa_zones (va_up a_parent (s_states : Int).toNat by0) (va_up a_moveE (s_states : Int).toNat e0) (va_up a_moveF (s_states : Int).toNat f0) a_moves a_z a_ahead a_at a_amounts a_way a_moments a_runAt a_runClock)) upM_a_moveF ?_
              have h5 : ∀ j, -1 ≤ (va_up a_moveF (s_states : Int).toNat f0) j ∧ (va_up a_moveF (s_states : Int).toNat f0) j ≤ 19 := z_upP (P := fun j v => -1 ≤ v ∧ v ≤ 19) Ha_moveF (by omega)
              generalize (va_up a_moveF (s_states : Int).toNat f0) = f6 at h5 ⊢
              refine z_aloadn C 0 dX11_meet_104 rfl rfl ?_
              refine z_get C 0 (by decide) rfl rfl z_it11 18 (by decide) rfl fl_11_56 rfl dX11_meet_105 ?_
              refine z_aloadn C 0 dX11_meet_108 rfl rfl ?_
              refine z_get C 0 (by decide) rfl rfl z_it11 12 (by decide) rfl fl_11_94 rfl dX11_meet_109 ?_
              refine z_iloadn C 1 dX11_meet_112 rfl rfl ?_
              refine z_iconst C dX11_meet_113 ?_
              refine z_icmp_ne (t := 121) C dX11_meet_114 (by decide) (by omega) (by omega) (fun c7 => ?_) (fun c7 => ?_)
              · skip
                refine z_aloadn C 0 dX11_meet_121 rfl rfl ?_
                refine z_get C 0 (by decide) rfl rfl z_it11 18 (by decide) rfl fl_11_56 rfl dX11_meet_122 ?_
                refine z_iloadn C 1 dX11_meet_125 rfl rfl ?_
                refine z_iald C 15 (by decide) rfl (by decide) (by omega) (by omega) dX11_meet_126 ?_
                have rx8 := Ha_moves (by0 : Int).toNat
                generalize ex8 : a_moves (by0 : Int).toNat = x8 at rx8 ⊢
                refine z_iconst C dX11_meet_127 ?_
                refine z_iadd C dX11_meet_128 ?_
                refine z_iast C 15 (by decide) rfl (by decide) (by omega) (by omega) dX11_meet_129 ?_
                refine z_ext (S' := (z_zm ad ks s_edges s_isNeeded s_explored s_states s_isMoved s_runs s_runTime s_runMoves w_h a_machine a_from a_to a_channel a_resets a_guards a_guardOf a_limits a_limitOf fa_places fa_zones (va_up a_parent (s_states : Int).toNat by0) (va_up a_moveE (s_states : Int).toNat e0) f6 (va_up a_moves (s_states : Int).toNat (x8 + 1)) a_z a_ahead a_at a_amounts a_way a_moments a_runAt a_runClock)) upM_a_moves ?_
                have h9 : ∀ j, 0 ≤ (va_up a_moves (s_states : Int).toNat (x8 + 1)) j ∧ (va_up a_moves (s_states : Int).toNat (x8 + 1)) j ≤ 40 := z_upP (P := fun j v => 0 ≤ v ∧ v ≤ 40) Ha_moves (by omega)
                refine z_aloadn C 0 dX11_meet_130 rfl rfl ?_
                refine z_dup C dX11_meet_131 rfl ?_
                refine z_get C 0 (by decide) rfl rfl z_it11 12 (by decide) rfl fl_11_94 rfl dX11_meet_132 ?_
                refine z_iconst C dX11_meet_135 ?_
                refine z_iadd C dX11_meet_136 ?_
                refine z_put C 0 (by decide) rfl rfl z_it11 tyX11 tyX11_ok nmX11 12 (by decide) rfl (Or.inl rfl) fl_11_94 z_pfI rfl rfl (Nat.le_of_ble_eq_true rfl) dX11_meet_137 ?_
                refine z_ext (S' := (z_zm ad ks s_edges s_isNeeded s_explored (s_states + 1) s_isMoved s_runs s_runTime s_runMoves w_h a_machine a_from a_to a_channel a_resets a_guards a_guardOf a_limits a_limitOf fa_places fa_zones (va_up a_parent (s_states : Int).toNat by0) (va_up a_moveE (s_states : Int).toNat e0) f6 (va_up a_moves (s_states : Int).toNat (x8 + 1)) a_z a_ahead a_at a_amounts a_way a_moments a_runAt a_runClock)) upM_s_states ?_
                rw [hQ]
                exact z_vret C hrt dX11_meet_140 (⟨fa_places, fa_zones, (va_up a_parent (s_states : Int).toNat by0), (va_up a_moveE (s_states : Int).toNat e0), f6, (va_up a_moves (s_states : Int).toNat (x8 + 1)), rfl, rfl, Hfa_places, Hfa_zones, h3, h4, h5, h9, z_ch_add hch (by omega) (by omega), fun j hj => if_neg hj, rfl⟩) (by omega) (by omega)
              · skip
                refine z_iconst C dX11_meet_117 ?_
                refine z_goto (t := 129) C dX11_meet_118 (by decide) ?_
                refine z_iast C 15 (by decide) rfl (by decide) (by omega) (by omega) dX11_meet_129 ?_
                refine z_ext (S' := (z_zm ad ks s_edges s_isNeeded s_explored s_states s_isMoved s_runs s_runTime s_runMoves w_h a_machine a_from a_to a_channel a_resets a_guards a_guardOf a_limits a_limitOf fa_places fa_zones (va_up a_parent (s_states : Int).toNat by0) (va_up a_moveE (s_states : Int).toNat e0) f6 (va_up a_moves (s_states : Int).toNat 0) a_z a_ahead a_at a_amounts a_way a_moments a_runAt a_runClock)) upM_a_moves ?_
                have h10 : ∀ j, 0 ≤ (va_up a_moves (s_states : Int).toNat 0) j ∧ (va_up a_moves (s_states : Int).toNat 0) j ≤ 40 := z_upP (P := fun j v => 0 ≤ v ∧ v ≤ 40) Ha_moves (by omega)
                refine z_aloadn C 0 dX11_meet_130 rfl rfl ?_
                refine z_dup C dX11_meet_131 rfl ?_
                refine z_get C 0 (by decide) rfl rfl z_it11 12 (by decide) rfl fl_11_94 rfl dX11_meet_132 ?_
                refine z_iconst C dX11_meet_135 ?_
                refine z_iadd C dX11_meet_136 ?_
                refine z_put C 0 (by decide) rfl rfl z_it11 tyX11 tyX11_ok nmX11 12 (by decide) rfl (Or.inl rfl) fl_11_94 z_pfI rfl rfl (Nat.le_of_ble_eq_true rfl) dX11_meet_137 ?_
                refine z_ext (S' := (z_zm ad ks s_edges s_isNeeded s_explored (s_states + 1) s_isMoved s_runs s_runTime s_runMoves w_h a_machine a_from a_to a_channel a_resets a_guards a_guardOf a_limits a_limitOf fa_places fa_zones (va_up a_parent (s_states : Int).toNat by0) (va_up a_moveE (s_states : Int).toNat e0) f6 (va_up a_moves (s_states : Int).toNat 0) a_z a_ahead a_at a_amounts a_way a_moments a_runAt a_runClock)) upM_s_states ?_
                rw [hQ]
                exact z_vret C hrt dX11_meet_140 (⟨fa_places, fa_zones, (va_up a_parent (s_states : Int).toNat by0), (va_up a_moveE (s_states : Int).toNat e0), f6, (va_up a_moves (s_states : Int).toNat 0), rfl, rfl, Hfa_places, Hfa_zones, h3, h4, h5, h10, z_ch_add hch (by omega) (by omega), fun j hj => if_neg hj, rfl⟩) (by omega) (by omega)
            · skip
              refine z_aloadn C 0 dX11_meet_46 rfl rfl ?_
              refine z_get C 0 (by decide) rfl rfl z_it11 14 (by decide) rfl fl_11_44 rfl dX11_meet_47 ?_
              refine z_bipush C dX11_meet_50 (by decide) ?_
              refine z_aloadn C 0 dX11_meet_52 rfl rfl ?_
              refine z_get C 0 (by decide) rfl rfl z_it11 12 (by decide) rfl fl_11_94 rfl dX11_meet_53 ?_
              refine z_imul C dX11_meet_56 ?_
              refine z_iload C 4 dX11_meet_57 rfl ?_
              refine z_iadd C dX11_meet_59 ?_
              refine z_aloadn C 0 dX11_meet_60 rfl rfl ?_
              refine z_get C 0 (by decide) rfl rfl z_it11 19 (by decide) rfl fl_11_59 rfl dX11_meet_61 ?_
              refine z_iload C 4 dX11_meet_64 rfl ?_
              refine z_iald C 16 (by decide) rfl (by decide) (by omega) (by omega) dX11_meet_66 ?_
              have rx11 := Ha_z (i4 : Int).toNat
              generalize ex11 : a_z (i4 : Int).toNat = x11 at rx11 ⊢
              refine z_iast C 11 (by decide) rfl (by decide) (by omega) (by omega) dX11_meet_67 ?_
              refine z_ext (S' := (z_zm ad ks s_edges s_isNeeded s_explored s_states s_isMoved s_runs s_runTime s_runMoves w_h a_machine a_from a_to a_channel a_resets a_guards a_guardOf a_limits a_limitOf fa_places (va_up fa_zones (((16 * s_states) + i4) : Int).toNat x11) a_parent a_moveE a_moveF a_moves a_z a_ahead a_at a_amounts a_way a_moments a_runAt a_runClock)) upM_a_zones ?_
              have h12 : ∀ j, z_rg ((va_up fa_zones (((16 * s_states) + i4) : Int).toNat x11) j) := z_upP (P := fun j v => z_rg (v)) Hfa_zones (by omega)
              generalize (va_up fa_zones (((16 * s_states) + i4) : Int).toNat x11) = f13 at h12 ⊢
              refine z_iinc (L' := [(4, z_v (i4 + 1)), (0, .ref (ad 0)), (1, z_v by0), (2, z_v e0), (3, z_v f0)]) C 4 dX11_meet_68 rfl (by decide) rfl ?_
              refine z_goto (t := 39) C dX11_meet_71 (by decide) ?_
              refine z_loc (L' := [(0, .ref (ad 0)), (1, z_v by0), (2, z_v e0), (3, z_v f0), (4, z_v (i4 + 1))]) [1, 2, 3, 4, 0] rfl ?_
              exact ih39 (i4 + 1) f13 h12 (by omega) (by omega)
        refine z_loc (L' := [(0, .ref (ad 0)), (1, z_v by0), (2, z_v e0), (3, z_v f0), (4, z_v 0)]) [1, 2, 3, 4, 0] rfl ?_
        exact (L39 (((16 : Int) - 0).toNat + 1)) 0 a_zones Ha_zones (by omega) (Nat.lt_succ_self _)
      · skip
        refine z_aloadn C 0 dX11_meet_9 rfl rfl ?_
        refine z_get C 0 (by decide) rfl rfl z_it11 13 (by decide) rfl fl_11_41 rfl dX11_meet_10 ?_
        refine z_iconst C dX11_meet_13 ?_
        refine z_aloadn C 0 dX11_meet_14 rfl rfl ?_
        refine z_get C 0 (by decide) rfl rfl z_it11 12 (by decide) rfl fl_11_94 rfl dX11_meet_15 ?_
        refine z_imul C dX11_meet_18 ?_
        refine z_iload C 4 dX11_meet_19 rfl ?_
        refine z_iadd C dX11_meet_21 ?_
        refine z_aloadn C 0 dX11_meet_22 rfl rfl ?_
        refine z_get C 0 (by decide) rfl rfl z_it11 21 (by decide) rfl fl_11_65 rfl dX11_meet_23 ?_
        refine z_iload C 4 dX11_meet_26 rfl ?_
        refine z_iald C 18 (by decide) rfl (by decide) (by omega) (by omega) dX11_meet_28 ?_
        have rx14 := Ha_at (i4 : Int).toNat
        generalize ex14 : a_at (i4 : Int).toNat = x14 at rx14 ⊢
        refine z_iast C 10 (by decide) rfl (by decide) (by omega) (by omega) dX11_meet_29 ?_
        refine z_ext (S' := (z_zm ad ks s_edges s_isNeeded s_explored s_states s_isMoved s_runs s_runTime s_runMoves w_h a_machine a_from a_to a_channel a_resets a_guards a_guardOf a_limits a_limitOf (va_up fa_places (((3 * s_states) + i4) : Int).toNat x14) a_zones a_parent a_moveE a_moveF a_moves a_z a_ahead a_at a_amounts a_way a_moments a_runAt a_runClock)) upM_a_places ?_
        have h15 : ∀ j, 0 ≤ (va_up fa_places (((3 * s_states) + i4) : Int).toNat x14) j ∧ (va_up fa_places (((3 * s_states) + i4) : Int).toNat x14) j ≤ 5 := z_upP (P := fun j v => 0 ≤ v ∧ v ≤ 5) Hfa_places (by omega)
        generalize (va_up fa_places (((3 * s_states) + i4) : Int).toNat x14) = f16 at h15 ⊢
        refine z_iinc (L' := [(4, z_v (i4 + 1)), (0, .ref (ad 0)), (1, z_v by0), (2, z_v e0), (3, z_v f0)]) C 4 dX11_meet_30 rfl (by decide) rfl ?_
        refine z_goto (t := 3) C dX11_meet_33 (by decide) ?_
        refine z_loc (L' := [(0, .ref (ad 0)), (1, z_v by0), (2, z_v e0), (3, z_v f0), (4, z_v (i4 + 1))]) [1, 2, 3, 4, 0] rfl ?_
        exact ih3 (i4 + 1) f16 h15 (by omega) (by omega)
  refine z_loc (L' := [(0, .ref (ad 0)), (1, z_v by0), (2, z_v e0), (3, z_v f0), (4, z_v 0)]) [1, 2, 3, 4, 0] rfl ?_
  exact (L3 (((3 : Int) - 0).toNat + 1)) 0 a_places Ha_places (by omega) (Nat.lt_succ_self _)
set_option maxRecDepth 20000 in
theorem cm_X11_follows (l : Launch) {D : va_G} {A : Nat → Prop} {ad : Nat → Nat} {ks : z_Ks} {s_edges s_isNeeded s_explored s_states s_isMoved s_runs s_runTime s_runMoves : Int} {w_h : Int64} {a_machine a_from a_to a_channel a_resets a_guards a_guardOf a_limits a_limitOf a_places a_zones a_parent a_moveE a_moveF a_moves a_z a_ahead a_at a_amounts a_way a_moments a_runAt a_runClock : Nat → Int} {Y : Nat → Option va_E} (i0 e0 f0 : Int) (Hs_edges : (0 ≤ s_edges ∧ s_edges ≤ 20)) (Ha_places : (∀ j, 0 ≤ a_places j ∧ a_places j ≤ 5)) (Ha_zones : (∀ j, z_rg (a_zones j))) (Ha_at : (∀ j, 0 ≤ a_at j ∧ a_at j ≤ 5)) (Ha_machine : (∀ j, 0 ≤ a_machine j ∧ a_machine j ≤ 2)) (Ha_from : (∀ j, 0 ≤ a_from j ∧ a_from j ≤ 5)) (Ha_to : (∀ j, 0 ≤ a_to j ∧ a_to j ≤ 5)) (Ha_resets : (∀ j, z_rg (a_resets j))) (Ha_z : (∀ j, z_rg (a_z j))) (Ha_ahead : (∀ j, z_rg (a_ahead j))) (Ha_guards : (∀ j, 0 ≤ a_guards j ∧ a_guards j ≤ 2)) (Ha_guardOf : (∀ j, (j % 3 = 0 → a_guardOf j ≤ 3) ∧ 0 ≤ a_guardOf j ∧ a_guardOf j ≤ 1000)) (Ha_limits : (∀ j, 0 ≤ a_limits j ∧ a_limits j ≤ 2)) (Ha_limitOf : (∀ j, (j % 3 = 0 → a_limitOf j ≤ 3) ∧ 0 ≤ a_limitOf j ∧ a_limitOf j ≤ 1000)) (hi : 0 ≤ i0 ∧ i0 ≤ 119) (he : 0 ≤ e0 ∧ e0 ≤ 19) (hf : -1 ≤ f0 ∧ f0 ≤ 19) : z_Met l yX11_follows cX11_follows 5 (some .boolean) 4 91 0 0 D A 24 ad ks [.ref (ad 0), z_v i0, z_v e0, z_v f0] (z_zm ad ks s_edges s_isNeeded s_explored s_states s_isMoved s_runs s_runTime s_runMoves w_h a_machine a_from a_to a_channel a_resets a_guards a_guardOf a_limits a_limitOf a_places a_zones a_parent a_moveE a_moveF a_moves a_z a_ahead a_at a_amounts a_way a_moments a_runAt a_runClock) Y (fun r S' Y' => ∃ na_at : Nat → Int, ∃ na_z : Nat → Int, ∃ na_ahead : Nat → Int, S' = (z_zm ad ks s_edges s_isNeeded s_explored s_states s_isMoved s_runs s_runTime s_runMoves w_h a_machine a_from a_to a_channel a_resets a_guards a_guardOf a_limits a_limitOf a_places a_zones a_parent a_moveE a_moveF a_moves na_z na_ahead na_at a_amounts a_way a_moments a_runAt a_runClock) ∧ Y = Y' ∧ (∀ j, 0 ≤ na_at j ∧ na_at j ≤ 5) ∧ (∀ j, z_rg (na_z j)) ∧ (∀ j, z_rg (na_ahead j)) ∧ ∃ z : Int, r = some (z_v z) ∧ (z = 0 ∨ z = 1)) := by
  refine z_start2 (by decide) (Nat.le_of_ble_eq_true rfl) ?_
  intro p e R s m args below meth c Q C hRf hRc hRs hRl hQ hrt hnm
  refine z_loc (L' := [(0, .ref (ad 0)), (1, z_v i0), (2, z_v e0), (3, z_v f0)]) [0, 1, 2, 3] rfl ?_
  refine z_iconst C dX11_follows_0 ?_
  refine z_istore (L' := [(4, z_v 0), (0, .ref (ad 0)), (1, z_v i0), (2, z_v e0), (3, z_v f0)]) C dX11_follows_1 (by decide) rfl ?_
  have L3 : ∀ (n : Nat), ∀ (i4 : Int) (fa_at : Nat → Int) (fa_z : Nat → Int) (fa_ahead : Nat → Int), ((∀ j, 0 ≤ fa_at j ∧ fa_at j ≤ 5)) → ((∀ j, z_rg (fa_z j))) → ((∀ j, z_rg (fa_ahead j))) → (0 ≤ i4 ∧ i4 ≤ 3) → ((3 : Int) - i4).toNat < n → z_V p l e R s m args below meth c Q D A 24 ad 5 (z_zm ad ks s_edges s_isNeeded s_explored s_states s_isMoved s_runs s_runTime s_runMoves w_h a_machine a_from a_to a_channel a_resets a_guards a_guardOf a_limits a_limitOf a_places a_zones a_parent a_moveE a_moveF a_moves fa_z fa_ahead fa_at a_amounts a_way a_moments a_runAt a_runClock) Y 0 0 3 [(0, .ref (ad 0)), (1, z_v i0), (2, z_v e0), (3, z_v f0), (4, z_v i4)] [] := by
    intro n
    induction n with
    | zero => intro i4 fa_at fa_z fa_ahead Hfa_at Hfa_z Hfa_ahead I4 hm; exact absurd hm (Nat.not_lt_zero _)
    | succ n ih3 =>
      intro i4 fa_at fa_z fa_ahead Hfa_at Hfa_z Hfa_ahead I4 hm
      refine z_iload C 4 dX11_follows_3 rfl ?_
      refine z_iconst C dX11_follows_5 ?_
      refine z_icmp_ge (t := 33) C dX11_follows_6 (by decide) (by omega) (by omega) (fun c1 => ?_) (fun c1 => ?_)
      · skip
        refine z_aloadn C 0 dX11_follows_33 rfl rfl ?_
        refine z_get C 0 (by decide) rfl rfl z_it11 21 (by decide) rfl fl_11_65 rfl dX11_follows_34 ?_
        refine z_aloadn C 0 dX11_follows_37 rfl rfl ?_
        refine z_get C 0 (by decide) rfl rfl z_it11 1 (by decide) rfl fl_11_7 rfl dX11_follows_38 ?_
        refine z_iloadn C 2 dX11_follows_41 rfl rfl ?_
        refine z_iald C 1 (by decide) rfl (by decide) (by omega) (by omega) dX11_follows_42 ?_
        have rx2 := Ha_machine (e0 : Int).toNat
        generalize ex2 : a_machine (e0 : Int).toNat = x2 at rx2 ⊢
        refine z_iald C 18 (by decide) rfl (by decide) (by omega) (by omega) dX11_follows_43 ?_
        have rx3 := Hfa_at (x2 : Int).toNat
        generalize ex3 : fa_at (x2 : Int).toNat = x3 at rx3 ⊢
        refine z_aloadn C 0 dX11_follows_44 rfl rfl ?_
        refine z_get C 0 (by decide) rfl rfl z_it11 2 (by decide) rfl fl_11_13 rfl dX11_follows_45 ?_
        refine z_iloadn C 2 dX11_follows_48 rfl rfl ?_
        refine z_iald C 2 (by decide) rfl (by decide) (by omega) (by omega) dX11_follows_49 ?_
        have rx4 := Ha_from (e0 : Int).toNat
        generalize ex4 : a_from (e0 : Int).toNat = x4 at rx4 ⊢
        refine z_icmp_ne (t := 78) C dX11_follows_50 (by decide) (by omega) (by omega) (fun c5 => ?_) (fun c5 => ?_)
        · skip
          refine z_iconst C dX11_follows_78 ?_
          rw [hQ]
          exact z_zret C hrt (by omega) dX11_follows_79 (⟨fa_at, fa_z, fa_ahead, rfl, rfl, Hfa_at, Hfa_z, Hfa_ahead, _, rfl, by omega⟩) (by omega) (by omega)
        · skip
          refine z_iloadn C 3 dX11_follows_53 rfl rfl ?_
          refine z_iconst C dX11_follows_54 ?_
          refine z_icmp_eq (t := 80) C dX11_follows_55 (by decide) (by omega) (by omega) (fun c6 => ?_) (fun c6 => ?_)
          · skip
            refine z_iconst C dX11_follows_80 ?_
            refine z_istore (L' := [(4, z_v 0), (0, .ref (ad 0)), (1, z_v i0), (2, z_v e0), (3, z_v f0)]) C dX11_follows_81 (by decide) rfl ?_
            have L83 : ∀ (n : Nat), ∀ (i4 : Int) (fa_at : Nat → Int) (fa_z : Nat → Int) (fa_ahead : Nat → Int), ((∀ j, 0 ≤ fa_at j ∧ fa_at j ≤ 5)) → ((∀ j, z_rg (fa_z j))) → ((∀ j, z_rg (fa_ahead j))) → (0 ≤ i4 ∧ i4 ≤ 16) → ((16 : Int) - i4).toNat < n → z_V p l e R s m args below meth c Q D A 24 ad 5 (z_zm ad ks s_edges s_isNeeded s_explored s_states s_isMoved s_runs s_runTime s_runMoves w_h a_machine a_from a_to a_channel a_resets a_guards a_guardOf a_limits a_limitOf a_places a_zones a_parent a_moveE a_moveF a_moves fa_z fa_ahead fa_at a_amounts a_way a_moments a_runAt a_runClock) Y 0 0 83 [(0, .ref (ad 0)), (1, z_v i0), (2, z_v e0), (3, z_v f0), (4, z_v i4)] [] := by
              intro n
              induction n with
              | zero => intro i4 fa_at fa_z fa_ahead Hfa_at Hfa_z Hfa_ahead I4 hm; exact absurd hm (Nat.not_lt_zero _)
              | succ n ih83 =>
                intro i4 fa_at fa_z fa_ahead Hfa_at Hfa_z Hfa_ahead I4 hm
                refine z_iload C 4 dX11_follows_83 rfl ?_
                refine z_bipush C dX11_follows_85 (by decide) ?_
                refine z_icmp_ge (t := 115) C dX11_follows_87 (by decide) (by omega) (by omega) (fun c7 => ?_) (fun c7 => ?_)
                · skip
                  refine z_aloadn C 0 dX11_follows_115 rfl rfl ?_
                  refine z_iloadn C 2 dX11_follows_116 rfl rfl ?_
                  refine z_callV C (cm_X11_keepGuards l e0 Ha_guards Ha_guardOf Hfa_z (by omega)) mv_11_139 (z_atS 0 11 (by decide) rfl rfl rfl) pd_X11_keepGuards ⟨by omega, by omega⟩ ⟨by omega, by omega⟩ rfl (Nat.le_of_ble_eq_true rfl) dX11_follows_117 ?_
                  rintro _ _ _ ⟨n8, rfl, rfl, h11, z12, rfl, hz12⟩
                  refine z_if_eq (t := 136) C dX11_follows_120 (by decide) (by omega) (fun c13 => ?_) (fun c13 => ?_)
                  · skip
                    refine z_iconst C dX11_follows_136 ?_
                    rw [hQ]
                    exact z_zret C hrt (by omega) dX11_follows_137 (⟨fa_at, n8, fa_ahead, rfl, rfl, Hfa_at, h11, Hfa_ahead, _, rfl, by omega⟩) (by omega) (by omega)
                  · skip
                    refine z_iloadn C 3 dX11_follows_123 rfl rfl ?_
                    refine z_iconst C dX11_follows_124 ?_
                    refine z_icmp_eq (t := 138) C dX11_follows_125 (by decide) (by omega) (by omega) (fun c14 => ?_) (fun c14 => ?_)
                    · skip
                      refine z_aloadn C 0 dX11_follows_138 rfl rfl ?_
                      refine z_aloadn C 0 dX11_follows_139 rfl rfl ?_
                      refine z_get C 0 (by decide) rfl rfl z_it11 5 (by decide) rfl fl_11_22 rfl dX11_follows_140 ?_
                      refine z_iloadn C 2 dX11_follows_143 rfl rfl ?_
                      refine z_iald C 5 (by decide) rfl (by decide) (by omega) (by omega) dX11_follows_144 ?_
                      have rx15 := Ha_resets (e0 : Int).toNat
                      generalize ex15 : a_resets (e0 : Int).toNat = x15 at rx15 ⊢
                      refine z_iloadn C 3 dX11_follows_145 rfl rfl ?_
                      refine z_iconst C dX11_follows_146 ?_
                      refine z_icmp_ne (t := 154) C dX11_follows_147 (by decide) (by omega) (by omega) (fun c16 => ?_) (fun c16 => ?_)
                      · skip
                        refine z_aloadn C 0 dX11_follows_154 rfl rfl ?_
                        refine z_get C 0 (by decide) rfl rfl z_it11 5 (by decide) rfl fl_11_22 rfl dX11_follows_155 ?_
                        refine z_iloadn C 3 dX11_follows_158 rfl rfl ?_
                        refine z_iald C 5 (by decide) rfl (by decide) (by omega) (by omega) dX11_follows_159 ?_
                        have rx17 := Ha_resets (f0 : Int).toNat
                        generalize ex17 : a_resets (f0 : Int).toNat = x17 at rx17 ⊢
                        obtain ⟨b18, hb18, rb18⟩ := z_bits (z_i x15 ||| z_i x17)
                        refine z_ior C hb18 dX11_follows_160 ?_
                        have qb18 := z_bitsE hb18 rb18
                        refine z_callV C (cm_X11_set l b18 h11 (by omega)) mv_11_142 (z_atS 0 11 (by decide) rfl rfl rfl) pd_X11_set ⟨by omega, by omega⟩ ⟨by omega, by omega⟩ rfl (Nat.le_of_ble_eq_true rfl) dX11_follows_161 ?_
                        rintro _ _ _ ⟨n19, rfl, rfl, h22, rfl⟩
                        refine z_aloadn C 0 dX11_follows_164 rfl rfl ?_
                        refine z_get C 0 (by decide) rfl rfl z_it11 21 (by decide) rfl fl_11_65 rfl dX11_follows_165 ?_
                        refine z_aloadn C 0 dX11_follows_168 rfl rfl ?_
                        refine z_get C 0 (by decide) rfl rfl z_it11 1 (by decide) rfl fl_11_7 rfl dX11_follows_169 ?_
                        refine z_iloadn C 2 dX11_follows_172 rfl rfl ?_
                        refine z_iald C 1 (by decide) rfl (by decide) (by omega) (by omega) dX11_follows_173 ?_
                        have rx23 := Ha_machine (e0 : Int).toNat
                        generalize ex23 : a_machine (e0 : Int).toNat = x23 at rx23 ⊢
                        refine z_aloadn C 0 dX11_follows_174 rfl rfl ?_
                        refine z_get C 0 (by decide) rfl rfl z_it11 3 (by decide) rfl fl_11_16 rfl dX11_follows_175 ?_
                        refine z_iloadn C 2 dX11_follows_178 rfl rfl ?_
                        refine z_iald C 3 (by decide) rfl (by decide) (by omega) (by omega) dX11_follows_179 ?_
                        have rx24 := Ha_to (e0 : Int).toNat
                        generalize ex24 : a_to (e0 : Int).toNat = x24 at rx24 ⊢
                        refine z_iast C 18 (by decide) rfl (by decide) (by omega) (by omega) dX11_follows_180 ?_
                        refine z_ext (S' := (z_zm ad ks s_edges s_isNeeded s_explored s_states s_isMoved s_runs s_runTime s_runMoves w_h a_machine a_from a_to a_channel a_resets a_guards a_guardOf a_limits a_limitOf a_places a_zones a_parent a_moveE a_moveF a_moves n19 fa_ahead (va_up fa_at (x23 : Int).toNat x24) a_amounts a_way a_moments a_runAt a_runClock)) upM_a_at ?_
                        have h25 : ∀ j, 0 ≤ (va_up fa_at (x23 : Int).toNat x24) j ∧ (va_up fa_at (x23 : Int).toNat x24) j ≤ 5 := z_upP (P := fun j v => 0 ≤ v ∧ v ≤ 5) Hfa_at (by omega)
                        generalize (va_up fa_at (x23 : Int).toNat x24) = f26 at h25 ⊢
                        refine z_iloadn C 3 dX11_follows_181 rfl rfl ?_
                        refine z_iconst C dX11_follows_182 ?_
                        refine z_icmp_eq (t := 203) C dX11_follows_183 (by decide) (by omega) (by omega) (fun c27 => ?_) (fun c27 => ?_)
                        · skip
                          refine z_aloadn C 0 dX11_follows_203 rfl rfl ?_
                          refine z_callV C (cm_X11_keepLimits l h25 Ha_limits Ha_limitOf h22) mv_11_133 (z_atS 0 11 (by decide) rfl rfl rfl) pd_X11_keepLimits ⟨by omega, by omega⟩ ⟨by omega, by omega⟩ rfl (Nat.le_of_ble_eq_true rfl) dX11_follows_204 ?_
                          rintro _ _ _ ⟨n28, rfl, rfl, h31, z32, rfl, hz32⟩
                          refine z_if_eq (t := 221) C dX11_follows_207 (by decide) (by omega) (fun c33 => ?_) (fun c33 => ?_)
                          · skip
                            refine z_iconst C dX11_follows_221 ?_
                            rw [hQ]
                            exact z_zret C hrt (by omega) dX11_follows_222 (⟨f26, n28, fa_ahead, rfl, rfl, h25, h31, Hfa_ahead, _, rfl, by omega⟩) (by omega) (by omega)
                          · skip
                            refine z_aloadn C 0 dX11_follows_210 rfl rfl ?_
                            refine z_callV C (cm_X11_later l (by omega) h31 Hfa_ahead h25 Ha_guards Ha_guardOf Ha_limits Ha_limitOf) mv_11_146 (z_atS 0 11 (by decide) rfl rfl rfl) pd_X11_later ⟨by omega, by omega⟩ ⟨by omega, by omega⟩ rfl (Nat.le_of_ble_eq_true rfl) dX11_follows_211 ?_
                            rintro _ _ _ ⟨n34, n35, rfl, rfl, h38, h39, z40, rfl, hz40⟩
                            refine z_if_eq (t := 221) C dX11_follows_214 (by decide) (by omega) (fun c41 => ?_) (fun c41 => ?_)
                            · skip
                              refine z_iconst C dX11_follows_221 ?_
                              rw [hQ]
                              exact z_zret C hrt (by omega) dX11_follows_222 (⟨f26, n34, n35, rfl, rfl, h25, h38, h39, _, rfl, by omega⟩) (by omega) (by omega)
                            · skip
                              refine z_iconst C dX11_follows_217 ?_
                              refine z_goto (t := 222) C dX11_follows_218 (by decide) ?_
                              rw [hQ]
                              exact z_zret C hrt (by omega) dX11_follows_222 (⟨f26, n34, n35, rfl, rfl, h25, h38, h39, _, rfl, by omega⟩) (by omega) (by omega)
                        · skip
                          refine z_aloadn C 0 dX11_follows_186 rfl rfl ?_
                          refine z_get C 0 (by decide) rfl rfl z_it11 21 (by decide) rfl fl_11_65 rfl dX11_follows_187 ?_
                          refine z_aloadn C 0 dX11_follows_190 rfl rfl ?_
                          refine z_get C 0 (by decide) rfl rfl z_it11 1 (by decide) rfl fl_11_7 rfl dX11_follows_191 ?_
                          refine z_iloadn C 3 dX11_follows_194 rfl rfl ?_
                          refine z_iald C 1 (by decide) rfl (by decide) (by omega) (by omega) dX11_follows_195 ?_
                          have rx42 := Ha_machine (f0 : Int).toNat
                          generalize ex42 : a_machine (f0 : Int).toNat = x42 at rx42 ⊢
                          refine z_aloadn C 0 dX11_follows_196 rfl rfl ?_
                          refine z_get C 0 (by decide) rfl rfl z_it11 3 (by decide) rfl fl_11_16 rfl dX11_follows_197 ?_
                          refine z_iloadn C 3 dX11_follows_200 rfl rfl ?_
                          refine z_iald C 3 (by decide) rfl (by decide) (by omega) (by omega) dX11_follows_201 ?_
                          have rx43 := Ha_to (f0 : Int).toNat
                          generalize ex43 : a_to (f0 : Int).toNat = x43 at rx43 ⊢
                          refine z_iast C 18 (by decide) rfl (by decide) (by omega) (by omega) dX11_follows_202 ?_
                          refine z_ext (S' := (z_zm ad ks s_edges s_isNeeded s_explored s_states s_isMoved s_runs s_runTime s_runMoves w_h a_machine a_from a_to a_channel a_resets a_guards a_guardOf a_limits a_limitOf a_places a_zones a_parent a_moveE a_moveF a_moves n19 fa_ahead (va_up f26 (x42 : Int).toNat x43) a_amounts a_way a_moments a_runAt a_runClock)) upM_a_at ?_
                          have h44 : ∀ j, 0 ≤ (va_up f26 (x42 : Int).toNat x43) j ∧ (va_up f26 (x42 : Int).toNat x43) j ≤ 5 := z_upP (P := fun j v => 0 ≤ v ∧ v ≤ 5) h25 (by omega)
                          generalize (va_up f26 (x42 : Int).toNat x43) = f45 at h44 ⊢
                          refine z_aloadn C 0 dX11_follows_203 rfl rfl ?_
                          refine z_callV C (cm_X11_keepLimits l h44 Ha_limits Ha_limitOf h22) mv_11_133 (z_atS 0 11 (by decide) rfl rfl rfl) pd_X11_keepLimits ⟨by omega, by omega⟩ ⟨by omega, by omega⟩ rfl (Nat.le_of_ble_eq_true rfl) dX11_follows_204 ?_
                          rintro _ _ _ ⟨n46, rfl, rfl, h49, z50, rfl, hz50⟩
                          refine z_if_eq (t := 221) C dX11_follows_207 (by decide) (by omega) (fun c51 => ?_) (fun c51 => ?_)
                          · skip
                            refine z_iconst C dX11_follows_221 ?_
                            rw [hQ]
                            exact z_zret C hrt (by omega) dX11_follows_222 (⟨f45, n46, fa_ahead, rfl, rfl, h44, h49, Hfa_ahead, _, rfl, by omega⟩) (by omega) (by omega)
                          · skip
                            refine z_aloadn C 0 dX11_follows_210 rfl rfl ?_
                            refine z_callV C (cm_X11_later l (by omega) h49 Hfa_ahead h44 Ha_guards Ha_guardOf Ha_limits Ha_limitOf) mv_11_146 (z_atS 0 11 (by decide) rfl rfl rfl) pd_X11_later ⟨by omega, by omega⟩ ⟨by omega, by omega⟩ rfl (Nat.le_of_ble_eq_true rfl) dX11_follows_211 ?_
                            rintro _ _ _ ⟨n52, n53, rfl, rfl, h56, h57, z58, rfl, hz58⟩
                            refine z_if_eq (t := 221) C dX11_follows_214 (by decide) (by omega) (fun c59 => ?_) (fun c59 => ?_)
                            · skip
                              refine z_iconst C dX11_follows_221 ?_
                              rw [hQ]
                              exact z_zret C hrt (by omega) dX11_follows_222 (⟨f45, n52, n53, rfl, rfl, h44, h56, h57, _, rfl, by omega⟩) (by omega) (by omega)
                            · skip
                              refine z_iconst C dX11_follows_217 ?_
                              refine z_goto (t := 222) C dX11_follows_218 (by decide) ?_
                              rw [hQ]
                              exact z_zret C hrt (by omega) dX11_follows_222 (⟨f45, n52, n53, rfl, rfl, h44, h56, h57, _, rfl, by omega⟩) (by omega) (by omega)
                      · skip
                        refine z_iconst C dX11_follows_150 ?_
                        refine z_goto (t := 160) C dX11_follows_151 (by decide) ?_
                        obtain ⟨b60, hb60, rb60⟩ := z_bits (z_i x15 ||| z_i 0)
                        refine z_ior C hb60 dX11_follows_160 ?_
                        have qb60 := z_bitsE hb60 rb60
                        refine z_callV C (cm_X11_set l b60 h11 (by omega)) mv_11_142 (z_atS 0 11 (by decide) rfl rfl rfl) pd_X11_set ⟨by omega, by omega⟩ ⟨by omega, by omega⟩ rfl (Nat.le_of_ble_eq_true rfl) dX11_follows_161 ?_
                        rintro _ _ _ ⟨n61, rfl, rfl, h64, rfl⟩
                        refine z_aloadn C 0 dX11_follows_164 rfl rfl ?_
                        refine z_get C 0 (by decide) rfl rfl z_it11 21 (by decide) rfl fl_11_65 rfl dX11_follows_165 ?_
                        refine z_aloadn C 0 dX11_follows_168 rfl rfl ?_
                        refine z_get C 0 (by decide) rfl rfl z_it11 1 (by decide) rfl fl_11_7 rfl dX11_follows_169 ?_
                        refine z_iloadn C 2 dX11_follows_172 rfl rfl ?_
                        refine z_iald C 1 (by decide) rfl (by decide) (by omega) (by omega) dX11_follows_173 ?_
                        have rx65 := Ha_machine (e0 : Int).toNat
                        generalize ex65 : a_machine (e0 : Int).toNat = x65 at rx65 ⊢
                        refine z_aloadn C 0 dX11_follows_174 rfl rfl ?_
                        refine z_get C 0 (by decide) rfl rfl z_it11 3 (by decide) rfl fl_11_16 rfl dX11_follows_175 ?_
                        refine z_iloadn C 2 dX11_follows_178 rfl rfl ?_
                        refine z_iald C 3 (by decide) rfl (by decide) (by omega) (by omega) dX11_follows_179 ?_
                        have rx66 := Ha_to (e0 : Int).toNat
                        generalize ex66 : a_to (e0 : Int).toNat = x66 at rx66 ⊢
                        refine z_iast C 18 (by decide) rfl (by decide) (by omega) (by omega) dX11_follows_180 ?_
                        refine z_ext (S' := (z_zm ad ks s_edges s_isNeeded s_explored s_states s_isMoved s_runs s_runTime s_runMoves w_h a_machine a_from a_to a_channel a_resets a_guards a_guardOf a_limits a_limitOf a_places a_zones a_parent a_moveE a_moveF a_moves n61 fa_ahead (va_up fa_at (x65 : Int).toNat x66) a_amounts a_way a_moments a_runAt a_runClock)) upM_a_at ?_
                        have h67 : ∀ j, 0 ≤ (va_up fa_at (x65 : Int).toNat x66) j ∧ (va_up fa_at (x65 : Int).toNat x66) j ≤ 5 := z_upP (P := fun j v => 0 ≤ v ∧ v ≤ 5) Hfa_at (by omega)
                        generalize (va_up fa_at (x65 : Int).toNat x66) = f68 at h67 ⊢
                        refine z_iloadn C 3 dX11_follows_181 rfl rfl ?_
                        refine z_iconst C dX11_follows_182 ?_
                        refine z_icmp_eq (t := 203) C dX11_follows_183 (by decide) (by omega) (by omega) (fun c69 => ?_) (fun c69 => ?_)
                        · skip
                          refine z_aloadn C 0 dX11_follows_203 rfl rfl ?_
                          refine z_callV C (cm_X11_keepLimits l h67 Ha_limits Ha_limitOf h64) mv_11_133 (z_atS 0 11 (by decide) rfl rfl rfl) pd_X11_keepLimits ⟨by omega, by omega⟩ ⟨by omega, by omega⟩ rfl (Nat.le_of_ble_eq_true rfl) dX11_follows_204 ?_
                          rintro _ _ _ ⟨n70, rfl, rfl, h73, z74, rfl, hz74⟩
                          refine z_if_eq (t := 221) C dX11_follows_207 (by decide) (by omega) (fun c75 => ?_) (fun c75 => ?_)
                          · skip
                            refine z_iconst C dX11_follows_221 ?_
                            rw [hQ]
                            exact z_zret C hrt (by omega) dX11_follows_222 (⟨f68, n70, fa_ahead, rfl, rfl, h67, h73, Hfa_ahead, _, rfl, by omega⟩) (by omega) (by omega)
                          · skip
                            refine z_aloadn C 0 dX11_follows_210 rfl rfl ?_
                            refine z_callV C (cm_X11_later l (by omega) h73 Hfa_ahead h67 Ha_guards Ha_guardOf Ha_limits Ha_limitOf) mv_11_146 (z_atS 0 11 (by decide) rfl rfl rfl) pd_X11_later ⟨by omega, by omega⟩ ⟨by omega, by omega⟩ rfl (Nat.le_of_ble_eq_true rfl) dX11_follows_211 ?_
                            rintro _ _ _ ⟨n76, n77, rfl, rfl, h80, h81, z82, rfl, hz82⟩
                            refine z_if_eq (t := 221) C dX11_follows_214 (by decide) (by omega) (fun c83 => ?_) (fun c83 => ?_)
                            · skip
                              refine z_iconst C dX11_follows_221 ?_
                              rw [hQ]
                              exact z_zret C hrt (by omega) dX11_follows_222 (⟨f68, n76, n77, rfl, rfl, h67, h80, h81, _, rfl, by omega⟩) (by omega) (by omega)
                            · skip
                              refine z_iconst C dX11_follows_217 ?_
                              refine z_goto (t := 222) C dX11_follows_218 (by decide) ?_
                              rw [hQ]
                              exact z_zret C hrt (by omega) dX11_follows_222 (⟨f68, n76, n77, rfl, rfl, h67, h80, h81, _, rfl, by omega⟩) (by omega) (by omega)
                        · skip
                          refine z_aloadn C 0 dX11_follows_186 rfl rfl ?_
                          refine z_get C 0 (by decide) rfl rfl z_it11 21 (by decide) rfl fl_11_65 rfl dX11_follows_187 ?_
                          refine z_aloadn C 0 dX11_follows_190 rfl rfl ?_
                          refine z_get C 0 (by decide) rfl rfl z_it11 1 (by decide) rfl fl_11_7 rfl dX11_follows_191 ?_
                          refine z_iloadn C 3 dX11_follows_194 rfl rfl ?_
                          refine z_iald C 1 (by decide) rfl (by decide) (by omega) (by omega) dX11_follows_195 ?_
                          have rx84 := Ha_machine (f0 : Int).toNat
                          generalize ex84 : a_machine (f0 : Int).toNat = x84 at rx84 ⊢
                          refine z_aloadn C 0 dX11_follows_196 rfl rfl ?_
                          refine z_get C 0 (by decide) rfl rfl z_it11 3 (by decide) rfl fl_11_16 rfl dX11_follows_197 ?_
                          refine z_iloadn C 3 dX11_follows_200 rfl rfl ?_
                          refine z_iald C 3 (by decide) rfl (by decide) (by omega) (by omega) dX11_follows_201 ?_
                          have rx85 := Ha_to (f0 : Int).toNat
                          generalize ex85 : a_to (f0 : Int).toNat = x85 at rx85 ⊢
                          refine z_iast C 18 (by decide) rfl (by decide) (by omega) (by omega) dX11_follows_202 ?_
                          refine z_ext (S' := (z_zm ad ks s_edges s_isNeeded s_explored s_states s_isMoved s_runs s_runTime s_runMoves w_h a_machine a_from a_to a_channel a_resets a_guards a_guardOf a_limits a_limitOf a_places a_zones a_parent a_moveE a_moveF a_moves n61 fa_ahead (va_up f68 (x84 : Int).toNat x85) a_amounts a_way a_moments a_runAt a_runClock)) upM_a_at ?_
                          have h86 : ∀ j, 0 ≤ (va_up f68 (x84 : Int).toNat x85) j ∧ (va_up f68 (x84 : Int).toNat x85) j ≤ 5 := z_upP (P := fun j v => 0 ≤ v ∧ v ≤ 5) h67 (by omega)
                          generalize (va_up f68 (x84 : Int).toNat x85) = f87 at h86 ⊢
                          refine z_aloadn C 0 dX11_follows_203 rfl rfl ?_
                          refine z_callV C (cm_X11_keepLimits l h86 Ha_limits Ha_limitOf h64) mv_11_133 (z_atS 0 11 (by decide) rfl rfl rfl) pd_X11_keepLimits ⟨by omega, by omega⟩ ⟨by omega, by omega⟩ rfl (Nat.le_of_ble_eq_true rfl) dX11_follows_204 ?_
                          rintro _ _ _ ⟨n88, rfl, rfl, h91, z92, rfl, hz92⟩
                          refine z_if_eq (t := 221) C dX11_follows_207 (by decide) (by omega) (fun c93 => ?_) (fun c93 => ?_)
                          · skip
                            refine z_iconst C dX11_follows_221 ?_
                            rw [hQ]
                            exact z_zret C hrt (by omega) dX11_follows_222 (⟨f87, n88, fa_ahead, rfl, rfl, h86, h91, Hfa_ahead, _, rfl, by omega⟩) (by omega) (by omega)
                          · skip
                            refine z_aloadn C 0 dX11_follows_210 rfl rfl ?_
                            refine z_callV C (cm_X11_later l (by omega) h91 Hfa_ahead h86 Ha_guards Ha_guardOf Ha_limits Ha_limitOf) mv_11_146 (z_atS 0 11 (by decide) rfl rfl rfl) pd_X11_later ⟨by omega, by omega⟩ ⟨by omega, by omega⟩ rfl (Nat.le_of_ble_eq_true rfl) dX11_follows_211 ?_
                            rintro _ _ _ ⟨n94, n95, rfl, rfl, h98, h99, z100, rfl, hz100⟩
                            refine z_if_eq (t := 221) C dX11_follows_214 (by decide) (by omega) (fun c101 => ?_) (fun c101 => ?_)
                            · skip
                              refine z_iconst C dX11_follows_221 ?_
                              rw [hQ]
                              exact z_zret C hrt (by omega) dX11_follows_222 (⟨f87, n94, n95, rfl, rfl, h86, h98, h99, _, rfl, by omega⟩) (by omega) (by omega)
                            · skip
                              refine z_iconst C dX11_follows_217 ?_
                              refine z_goto (t := 222) C dX11_follows_218 (by decide) ?_
                              rw [hQ]
                              exact z_zret C hrt (by omega) dX11_follows_222 (⟨f87, n94, n95, rfl, rfl, h86, h98, h99, _, rfl, by omega⟩) (by omega) (by omega)
                    · skip
                      refine z_aloadn C 0 dX11_follows_128 rfl rfl ?_
                      refine z_iloadn C 3 dX11_follows_129 rfl rfl ?_
                      refine z_callV C (cm_X11_keepGuards l f0 Ha_guards Ha_guardOf h11 (by omega)) mv_11_139 (z_atS 0 11 (by decide) rfl rfl rfl) pd_X11_keepGuards ⟨by omega, by omega⟩ ⟨by omega, by omega⟩ rfl (Nat.le_of_ble_eq_true rfl) dX11_follows_130 ?_
                      rintro _ _ _ ⟨n102, rfl, rfl, h105, z106, rfl, hz106⟩
                      refine z_if_ne (t := 138) C dX11_follows_133 (by decide) (by omega) (fun c107 => ?_) (fun c107 => ?_)
                      · skip
                        refine z_aloadn C 0 dX11_follows_138 rfl rfl ?_
                        refine z_aloadn C 0 dX11_follows_139 rfl rfl ?_
                        refine z_get C 0 (by decide) rfl rfl z_it11 5 (by decide) rfl fl_11_22 rfl dX11_follows_140 ?_
                        refine z_iloadn C 2 dX11_follows_143 rfl rfl ?_
                        refine z_iald C 5 (by decide) rfl (by decide) (by omega) (by omega) dX11_follows_144 ?_
                        have rx108 := Ha_resets (e0 : Int).toNat
                        generalize ex108 : a_resets (e0 : Int).toNat = x108 at rx108 ⊢
                        refine z_iloadn C 3 dX11_follows_145 rfl rfl ?_
                        refine z_iconst C dX11_follows_146 ?_
                        refine z_icmp_ne (t := 154) C dX11_follows_147 (by decide) (by omega) (by omega) (fun c109 => ?_) (fun c109 => ?_)
                        · skip
                          refine z_aloadn C 0 dX11_follows_154 rfl rfl ?_
                          refine z_get C 0 (by decide) rfl rfl z_it11 5 (by decide) rfl fl_11_22 rfl dX11_follows_155 ?_
                          refine z_iloadn C 3 dX11_follows_158 rfl rfl ?_
                          refine z_iald C 5 (by decide) rfl (by decide) (by omega) (by omega) dX11_follows_159 ?_
                          have rx110 := Ha_resets (f0 : Int).toNat
                          generalize ex110 : a_resets (f0 : Int).toNat = x110 at rx110 ⊢
                          obtain ⟨b111, hb111, rb111⟩ := z_bits (z_i x108 ||| z_i x110)
                          refine z_ior C hb111 dX11_follows_160 ?_
                          have qb111 := z_bitsE hb111 rb111
                          refine z_callV C (cm_X11_set l b111 h105 (by omega)) mv_11_142 (z_atS 0 11 (by decide) rfl rfl rfl) pd_X11_set ⟨by omega, by omega⟩ ⟨by omega, by omega⟩ rfl (Nat.le_of_ble_eq_true rfl) dX11_follows_161 ?_
                          rintro _ _ _ ⟨n112, rfl, rfl, h115, rfl⟩
                          refine z_aloadn C 0 dX11_follows_164 rfl rfl ?_
                          refine z_get C 0 (by decide) rfl rfl z_it11 21 (by decide) rfl fl_11_65 rfl dX11_follows_165 ?_
                          refine z_aloadn C 0 dX11_follows_168 rfl rfl ?_
                          refine z_get C 0 (by decide) rfl rfl z_it11 1 (by decide) rfl fl_11_7 rfl dX11_follows_169 ?_
                          refine z_iloadn C 2 dX11_follows_172 rfl rfl ?_
                          refine z_iald C 1 (by decide) rfl (by decide) (by omega) (by omega) dX11_follows_173 ?_
                          have rx116 := Ha_machine (e0 : Int).toNat
                          generalize ex116 : a_machine (e0 : Int).toNat = x116 at rx116 ⊢
                          refine z_aloadn C 0 dX11_follows_174 rfl rfl ?_
                          refine z_get C 0 (by decide) rfl rfl z_it11 3 (by decide) rfl fl_11_16 rfl dX11_follows_175 ?_
                          refine z_iloadn C 2 dX11_follows_178 rfl rfl ?_
                          refine z_iald C 3 (by decide) rfl (by decide) (by omega) (by omega) dX11_follows_179 ?_
                          have rx117 := Ha_to (e0 : Int).toNat
                          generalize ex117 : a_to (e0 : Int).toNat = x117 at rx117 ⊢
                          refine z_iast C 18 (by decide) rfl (by decide) (by omega) (by omega) dX11_follows_180 ?_
                          refine z_ext (S' := (z_zm ad ks s_edges s_isNeeded s_explored s_states s_isMoved s_runs s_runTime s_runMoves w_h a_machine a_from a_to a_channel a_resets a_guards a_guardOf a_limits a_limitOf a_places a_zones a_parent a_moveE a_moveF a_moves n112 fa_ahead (va_up fa_at (x116 : Int).toNat x117) a_amounts a_way a_moments a_runAt a_runClock)) upM_a_at ?_
                          have h118 : ∀ j, 0 ≤ (va_up fa_at (x116 : Int).toNat x117) j ∧ (va_up fa_at (x116 : Int).toNat x117) j ≤ 5 := z_upP (P := fun j v => 0 ≤ v ∧ v ≤ 5) Hfa_at (by omega)
                          generalize (va_up fa_at (x116 : Int).toNat x117) = f119 at h118 ⊢
                          refine z_iloadn C 3 dX11_follows_181 rfl rfl ?_
                          refine z_iconst C dX11_follows_182 ?_
                          refine z_icmp_eq (t := 203) C dX11_follows_183 (by decide) (by omega) (by omega) (fun c120 => ?_) (fun c120 => ?_)
                          · skip
                            refine z_aloadn C 0 dX11_follows_203 rfl rfl ?_
                            refine z_callV C (cm_X11_keepLimits l h118 Ha_limits Ha_limitOf h115) mv_11_133 (z_atS 0 11 (by decide) rfl rfl rfl) pd_X11_keepLimits ⟨by omega, by omega⟩ ⟨by omega, by omega⟩ rfl (Nat.le_of_ble_eq_true rfl) dX11_follows_204 ?_
                            rintro _ _ _ ⟨n121, rfl, rfl, h124, z125, rfl, hz125⟩
                            refine z_if_eq (t := 221) C dX11_follows_207 (by decide) (by omega) (fun c126 => ?_) (fun c126 => ?_)
                            · skip
                              refine z_iconst C dX11_follows_221 ?_
                              rw [hQ]
                              exact z_zret C hrt (by omega) dX11_follows_222 (⟨f119, n121, fa_ahead, rfl, rfl, h118, h124, Hfa_ahead, _, rfl, by omega⟩) (by omega) (by omega)
                            · skip
                              refine z_aloadn C 0 dX11_follows_210 rfl rfl ?_
                              refine z_callV C (cm_X11_later l (by omega) h124 Hfa_ahead h118 Ha_guards Ha_guardOf Ha_limits Ha_limitOf) mv_11_146 (z_atS 0 11 (by decide) rfl rfl rfl) pd_X11_later ⟨by omega, by omega⟩ ⟨by omega, by omega⟩ rfl (Nat.le_of_ble_eq_true rfl) dX11_follows_211 ?_
                              rintro _ _ _ ⟨n127, n128, rfl, rfl, h131, h132, z133, rfl, hz133⟩
                              refine z_if_eq (t := 221) C dX11_follows_214 (by decide) (by omega) (fun c134 => ?_) (fun c134 => ?_)
                              · skip
                                refine z_iconst C dX11_follows_221 ?_
                                rw [hQ]
                                exact z_zret C hrt (by omega) dX11_follows_222 (⟨f119, n127, n128, rfl, rfl, h118, h131, h132, _, rfl, by omega⟩) (by omega) (by omega)
                              · skip
                                refine z_iconst C dX11_follows_217 ?_
                                refine z_goto (t := 222) C dX11_follows_218 (by decide) ?_
                                rw [hQ]
                                exact z_zret C hrt (by omega) dX11_follows_222 (⟨f119, n127, n128, rfl, rfl, h118, h131, h132, _, rfl, by omega⟩) (by omega) (by omega)
                          · skip
                            refine z_aloadn C 0 dX11_follows_186 rfl rfl ?_
                            refine z_get C 0 (by decide) rfl rfl z_it11 21 (by decide) rfl fl_11_65 rfl dX11_follows_187 ?_
                            refine z_aloadn C 0 dX11_follows_190 rfl rfl ?_
                            refine z_get C 0 (by decide) rfl rfl z_it11 1 (by decide) rfl fl_11_7 rfl dX11_follows_191 ?_
                            refine z_iloadn C 3 dX11_follows_194 rfl rfl ?_
                            refine z_iald C 1 (by decide) rfl (by decide) (by omega) (by omega) dX11_follows_195 ?_
                            have rx135 := Ha_machine (f0 : Int).toNat
                            generalize ex135 : a_machine (f0 : Int).toNat = x135 at rx135 ⊢
                            refine z_aloadn C 0 dX11_follows_196 rfl rfl ?_
                            refine z_get C 0 (by decide) rfl rfl z_it11 3 (by decide) rfl fl_11_16 rfl dX11_follows_197 ?_
                            refine z_iloadn C 3 dX11_follows_200 rfl rfl ?_
                            refine z_iald C 3 (by decide) rfl (by decide) (by omega) (by omega) dX11_follows_201 ?_
                            have rx136 := Ha_to (f0 : Int).toNat
                            generalize ex136 : a_to (f0 : Int).toNat = x136 at rx136 ⊢
                            refine z_iast C 18 (by decide) rfl (by decide) (by omega) (by omega) dX11_follows_202 ?_
                            refine z_ext (S' := (z_zm ad ks s_edges s_isNeeded s_explored s_states s_isMoved s_runs s_runTime s_runMoves w_h a_machine a_from a_to a_channel a_resets a_guards a_guardOf a_limits a_limitOf a_places a_zones a_parent a_moveE a_moveF a_moves n112 fa_ahead (va_up f119 (x135 : Int).toNat x136) a_amounts a_way a_moments a_runAt a_runClock)) upM_a_at ?_
                            have h137 : ∀ j, 0 ≤ (va_up f119 (x135 : Int).toNat x136) j ∧ (va_up f119 (x135 : Int).toNat x136) j ≤ 5 := z_upP (P := fun j v => 0 ≤ v ∧ v ≤ 5) h118 (by omega)
                            generalize (va_up f119 (x135 : Int).toNat x136) = f138 at h137 ⊢
                            refine z_aloadn C 0 dX11_follows_203 rfl rfl ?_
                            refine z_callV C (cm_X11_keepLimits l h137 Ha_limits Ha_limitOf h115) mv_11_133 (z_atS 0 11 (by decide) rfl rfl rfl) pd_X11_keepLimits ⟨by omega, by omega⟩ ⟨by omega, by omega⟩ rfl (Nat.le_of_ble_eq_true rfl) dX11_follows_204 ?_
                            rintro _ _ _ ⟨n139, rfl, rfl, h142, z143, rfl, hz143⟩
                            refine z_if_eq (t := 221) C dX11_follows_207 (by decide) (by omega) (fun c144 => ?_) (fun c144 => ?_)
                            · skip
                              refine z_iconst C dX11_follows_221 ?_
                              rw [hQ]
                              exact z_zret C hrt (by omega) dX11_follows_222 (⟨f138, n139, fa_ahead, rfl, rfl, h137, h142, Hfa_ahead, _, rfl, by omega⟩) (by omega) (by omega)
                            · skip
                              refine z_aloadn C 0 dX11_follows_210 rfl rfl ?_
                              refine z_callV C (cm_X11_later l (by omega) h142 Hfa_ahead h137 Ha_guards Ha_guardOf Ha_limits Ha_limitOf) mv_11_146 (z_atS 0 11 (by decide) rfl rfl rfl) pd_X11_later ⟨by omega, by omega⟩ ⟨by omega, by omega⟩ rfl (Nat.le_of_ble_eq_true rfl) dX11_follows_211 ?_
                              rintro _ _ _ ⟨n145, n146, rfl, rfl, h149, h150, z151, rfl, hz151⟩
                              refine z_if_eq (t := 221) C dX11_follows_214 (by decide) (by omega) (fun c152 => ?_) (fun c152 => ?_)
                              · skip
                                refine z_iconst C dX11_follows_221 ?_
                                rw [hQ]
                                exact z_zret C hrt (by omega) dX11_follows_222 (⟨f138, n145, n146, rfl, rfl, h137, h149, h150, _, rfl, by omega⟩) (by omega) (by omega)
                              · skip
                                refine z_iconst C dX11_follows_217 ?_
                                refine z_goto (t := 222) C dX11_follows_218 (by decide) ?_
                                rw [hQ]
                                exact z_zret C hrt (by omega) dX11_follows_222 (⟨f138, n145, n146, rfl, rfl, h137, h149, h150, _, rfl, by omega⟩) (by omega) (by omega)
                        · skip
                          refine z_iconst C dX11_follows_150 ?_
                          refine z_goto (t := 160) C dX11_follows_151 (by decide) ?_
                          obtain ⟨b153, hb153, rb153⟩ := z_bits (z_i x108 ||| z_i 0)
                          refine z_ior C hb153 dX11_follows_160 ?_
                          have qb153 := z_bitsE hb153 rb153
                          refine z_callV C (cm_X11_set l b153 h105 (by omega)) mv_11_142 (z_atS 0 11 (by decide) rfl rfl rfl) pd_X11_set ⟨by omega, by omega⟩ ⟨by omega, by omega⟩ rfl (Nat.le_of_ble_eq_true rfl) dX11_follows_161 ?_
                          rintro _ _ _ ⟨n154, rfl, rfl, h157, rfl⟩
                          refine z_aloadn C 0 dX11_follows_164 rfl rfl ?_
                          refine z_get C 0 (by decide) rfl rfl z_it11 21 (by decide) rfl fl_11_65 rfl dX11_follows_165 ?_
                          refine z_aloadn C 0 dX11_follows_168 rfl rfl ?_
                          refine z_get C 0 (by decide) rfl rfl z_it11 1 (by decide) rfl fl_11_7 rfl dX11_follows_169 ?_
                          refine z_iloadn C 2 dX11_follows_172 rfl rfl ?_
                          refine z_iald C 1 (by decide) rfl (by decide) (by omega) (by omega) dX11_follows_173 ?_
                          have rx158 := Ha_machine (e0 : Int).toNat
                          generalize ex158 : a_machine (e0 : Int).toNat = x158 at rx158 ⊢
                          refine z_aloadn C 0 dX11_follows_174 rfl rfl ?_
                          refine z_get C 0 (by decide) rfl rfl z_it11 3 (by decide) rfl fl_11_16 rfl dX11_follows_175 ?_
                          refine z_iloadn C 2 dX11_follows_178 rfl rfl ?_
                          refine z_iald C 3 (by decide) rfl (by decide) (by omega) (by omega) dX11_follows_179 ?_
                          have rx159 := Ha_to (e0 : Int).toNat
                          generalize ex159 : a_to (e0 : Int).toNat = x159 at rx159 ⊢
                          refine z_iast C 18 (by decide) rfl (by decide) (by omega) (by omega) dX11_follows_180 ?_
                          refine z_ext (S' := (z_zm ad ks s_edges s_isNeeded s_explored s_states s_isMoved s_runs s_runTime s_runMoves w_h a_machine a_from a_to a_channel a_resets a_guards a_guardOf a_limits a_limitOf a_places a_zones a_parent a_moveE a_moveF a_moves n154 fa_ahead (va_up fa_at (x158 : Int).toNat x159) a_amounts a_way a_moments a_runAt a_runClock)) upM_a_at ?_
                          have h160 : ∀ j, 0 ≤ (va_up fa_at (x158 : Int).toNat x159) j ∧ (va_up fa_at (x158 : Int).toNat x159) j ≤ 5 := z_upP (P := fun j v => 0 ≤ v ∧ v ≤ 5) Hfa_at (by omega)
                          generalize (va_up fa_at (x158 : Int).toNat x159) = f161 at h160 ⊢
                          refine z_iloadn C 3 dX11_follows_181 rfl rfl ?_
                          refine z_iconst C dX11_follows_182 ?_
                          refine z_icmp_eq (t := 203) C dX11_follows_183 (by decide) (by omega) (by omega) (fun c162 => ?_) (fun c162 => ?_)
                          · skip
                            refine z_aloadn C 0 dX11_follows_203 rfl rfl ?_
                            refine z_callV C (cm_X11_keepLimits l h160 Ha_limits Ha_limitOf h157) mv_11_133 (z_atS 0 11 (by decide) rfl rfl rfl) pd_X11_keepLimits ⟨by omega, by omega⟩ ⟨by omega, by omega⟩ rfl (Nat.le_of_ble_eq_true rfl) dX11_follows_204 ?_
                            rintro _ _ _ ⟨n163, rfl, rfl, h166, z167, rfl, hz167⟩
                            refine z_if_eq (t := 221) C dX11_follows_207 (by decide) (by omega) (fun c168 => ?_) (fun c168 => ?_)
                            · skip
                              refine z_iconst C dX11_follows_221 ?_
                              rw [hQ]
                              exact z_zret C hrt (by omega) dX11_follows_222 (⟨f161, n163, fa_ahead, rfl, rfl, h160, h166, Hfa_ahead, _, rfl, by omega⟩) (by omega) (by omega)
                            · skip
                              refine z_aloadn C 0 dX11_follows_210 rfl rfl ?_
                              refine z_callV C (cm_X11_later l (by omega) h166 Hfa_ahead h160 Ha_guards Ha_guardOf Ha_limits Ha_limitOf) mv_11_146 (z_atS 0 11 (by decide) rfl rfl rfl) pd_X11_later ⟨by omega, by omega⟩ ⟨by omega, by omega⟩ rfl (Nat.le_of_ble_eq_true rfl) dX11_follows_211 ?_
                              rintro _ _ _ ⟨n169, n170, rfl, rfl, h173, h174, z175, rfl, hz175⟩
                              refine z_if_eq (t := 221) C dX11_follows_214 (by decide) (by omega) (fun c176 => ?_) (fun c176 => ?_)
                              · skip
                                refine z_iconst C dX11_follows_221 ?_
                                rw [hQ]
                                exact z_zret C hrt (by omega) dX11_follows_222 (⟨f161, n169, n170, rfl, rfl, h160, h173, h174, _, rfl, by omega⟩) (by omega) (by omega)
                              · skip
                                refine z_iconst C dX11_follows_217 ?_
                                refine z_goto (t := 222) C dX11_follows_218 (by decide) ?_
                                rw [hQ]
                                exact z_zret C hrt (by omega) dX11_follows_222 (⟨f161, n169, n170, rfl, rfl, h160, h173, h174, _, rfl, by omega⟩) (by omega) (by omega)
                          · skip
                            refine z_aloadn C 0 dX11_follows_186 rfl rfl ?_
                            refine z_get C 0 (by decide) rfl rfl z_it11 21 (by decide) rfl fl_11_65 rfl dX11_follows_187 ?_
                            refine z_aloadn C 0 dX11_follows_190 rfl rfl ?_
                            refine z_get C 0 (by decide) rfl rfl z_it11 1 (by decide) rfl fl_11_7 rfl dX11_follows_191 ?_
                            refine z_iloadn C 3 dX11_follows_194 rfl rfl ?_
                            refine z_iald C 1 (by decide) rfl (by decide) (by omega) (by omega) dX11_follows_195 ?_
                            have rx177 := Ha_machine (f0 : Int).toNat
                            generalize ex177 : a_machine (f0 : Int).toNat = x177 at rx177 ⊢
                            refine z_aloadn C 0 dX11_follows_196 rfl rfl ?_
                            refine z_get C 0 (by decide) rfl rfl z_it11 3 (by decide) rfl fl_11_16 rfl dX11_follows_197 ?_
                            refine z_iloadn C 3 dX11_follows_200 rfl rfl ?_
                            refine z_iald C 3 (by decide) rfl (by decide) (by omega) (by omega) dX11_follows_201 ?_
                            have rx178 := Ha_to (f0 : Int).toNat
                            generalize ex178 : a_to (f0 : Int).toNat = x178 at rx178 ⊢
                            refine z_iast C 18 (by decide) rfl (by decide) (by omega) (by omega) dX11_follows_202 ?_
                            refine z_ext (S' := (z_zm ad ks s_edges s_isNeeded s_explored s_states s_isMoved s_runs s_runTime s_runMoves w_h a_machine a_from a_to a_channel a_resets a_guards a_guardOf a_limits a_limitOf a_places a_zones a_parent a_moveE a_moveF a_moves n154 fa_ahead (va_up f161 (x177 : Int).toNat x178) a_amounts a_way a_moments a_runAt a_runClock)) upM_a_at ?_
                            have h179 : ∀ j, 0 ≤ (va_up f161 (x177 : Int).toNat x178) j ∧ (va_up f161 (x177 : Int).toNat x178) j ≤ 5 := z_upP (P := fun j v => 0 ≤ v ∧ v ≤ 5) h160 (by omega)
                            generalize (va_up f161 (x177 : Int).toNat x178) = f180 at h179 ⊢
                            refine z_aloadn C 0 dX11_follows_203 rfl rfl ?_
                            refine z_callV C (cm_X11_keepLimits l h179 Ha_limits Ha_limitOf h157) mv_11_133 (z_atS 0 11 (by decide) rfl rfl rfl) pd_X11_keepLimits ⟨by omega, by omega⟩ ⟨by omega, by omega⟩ rfl (Nat.le_of_ble_eq_true rfl) dX11_follows_204 ?_
                            rintro _ _ _ ⟨n181, rfl, rfl, h184, z185, rfl, hz185⟩
                            refine z_if_eq (t := 221) C dX11_follows_207 (by decide) (by omega) (fun c186 => ?_) (fun c186 => ?_)
                            · skip
                              refine z_iconst C dX11_follows_221 ?_
                              rw [hQ]
                              exact z_zret C hrt (by omega) dX11_follows_222 (⟨f180, n181, fa_ahead, rfl, rfl, h179, h184, Hfa_ahead, _, rfl, by omega⟩) (by omega) (by omega)
                            · skip
                              refine z_aloadn C 0 dX11_follows_210 rfl rfl ?_
                              refine z_callV C (cm_X11_later l (by omega) h184 Hfa_ahead h179 Ha_guards Ha_guardOf Ha_limits Ha_limitOf) mv_11_146 (z_atS 0 11 (by decide) rfl rfl rfl) pd_X11_later ⟨by omega, by omega⟩ ⟨by omega, by omega⟩ rfl (Nat.le_of_ble_eq_true rfl) dX11_follows_211 ?_
                              rintro _ _ _ ⟨n187, n188, rfl, rfl, h191, h192, z193, rfl, hz193⟩
                              refine z_if_eq (t := 221) C dX11_follows_214 (by decide) (by omega) (fun c194 => ?_) (fun c194 => ?_)
                              · skip
                                refine z_iconst C dX11_follows_221 ?_
                                rw [hQ]
                                exact z_zret C hrt (by omega) dX11_follows_222 (⟨f180, n187, n188, rfl, rfl, h179, h191, h192, _, rfl, by omega⟩) (by omega) (by omega)
                              · skip
                                refine z_iconst C dX11_follows_217 ?_
                                refine z_goto (t := 222) C dX11_follows_218 (by decide) ?_
                                rw [hQ]
                                exact z_zret C hrt (by omega) dX11_follows_222 (⟨f180, n187, n188, rfl, rfl, h179, h191, h192, _, rfl, by omega⟩) (by omega) (by omega)
                      · skip
                        refine z_iconst C dX11_follows_136 ?_
                        rw [hQ]
                        exact z_zret C hrt (by omega) dX11_follows_137 (⟨fa_at, n102, fa_ahead, rfl, rfl, Hfa_at, h105, Hfa_ahead, _, rfl, by omega⟩) (by omega) (by omega)
                · skip
                  refine z_aloadn C 0 dX11_follows_90 rfl rfl ?_
                  refine z_get C 0 (by decide) rfl rfl z_it11 19 (by decide) rfl fl_11_59 rfl dX11_follows_91 ?_
                  refine z_iload C 4 dX11_follows_94 rfl ?_
                  refine z_aloadn C 0 dX11_follows_96 rfl rfl ?_
                  refine z_get C 0 (by decide) rfl rfl z_it11 14 (by decide) rfl fl_11_44 rfl dX11_follows_97 ?_
                  refine z_bipush C dX11_follows_100 (by decide) ?_
                  refine z_iloadn C 1 dX11_follows_102 rfl rfl ?_
                  refine z_imul C dX11_follows_103 ?_
                  refine z_iload C 4 dX11_follows_104 rfl ?_
                  refine z_iadd C dX11_follows_106 ?_
                  refine z_iald C 11 (by decide) rfl (by decide) (by omega) (by omega) dX11_follows_107 ?_
                  have rx195 := Ha_zones (((16 * i0) + i4) : Int).toNat
                  generalize ex195 : a_zones (((16 * i0) + i4) : Int).toNat = x195 at rx195 ⊢
                  refine z_iast C 16 (by decide) rfl (by decide) (by omega) (by omega) dX11_follows_108 ?_
                  refine z_ext (S' := (z_zm ad ks s_edges s_isNeeded s_explored s_states s_isMoved s_runs s_runTime s_runMoves w_h a_machine a_from a_to a_channel a_resets a_guards a_guardOf a_limits a_limitOf a_places a_zones a_parent a_moveE a_moveF a_moves (va_up fa_z (i4 : Int).toNat x195) fa_ahead fa_at a_amounts a_way a_moments a_runAt a_runClock)) upM_a_z ?_
                  have h196 : ∀ j, z_rg ((va_up fa_z (i4 : Int).toNat x195) j) := z_upP (P := fun j v => z_rg (v)) Hfa_z (by omega)
                  generalize (va_up fa_z (i4 : Int).toNat x195) = f197 at h196 ⊢
                  refine z_iinc (L' := [(4, z_v (i4 + 1)), (0, .ref (ad 0)), (1, z_v i0), (2, z_v e0), (3, z_v f0)]) C 4 dX11_follows_109 rfl (by decide) rfl ?_
                  refine z_goto (t := 83) C dX11_follows_112 (by decide) ?_
                  refine z_loc (L' := [(0, .ref (ad 0)), (1, z_v i0), (2, z_v e0), (3, z_v f0), (4, z_v (i4 + 1))]) [1, 2, 3, 4, 0] rfl ?_
                  exact ih83 (i4 + 1) fa_at f197 fa_ahead Hfa_at h196 Hfa_ahead (by omega) (by omega)
            refine z_loc (L' := [(0, .ref (ad 0)), (1, z_v i0), (2, z_v e0), (3, z_v f0), (4, z_v 0)]) [1, 2, 3, 4, 0] rfl ?_
            exact (L83 (((16 : Int) - 0).toNat + 1)) 0 fa_at fa_z fa_ahead Hfa_at Hfa_z Hfa_ahead (by omega) (Nat.lt_succ_self _)
          · skip
            refine z_aloadn C 0 dX11_follows_58 rfl rfl ?_
            refine z_get C 0 (by decide) rfl rfl z_it11 21 (by decide) rfl fl_11_65 rfl dX11_follows_59 ?_
            refine z_aloadn C 0 dX11_follows_62 rfl rfl ?_
            refine z_get C 0 (by decide) rfl rfl z_it11 1 (by decide) rfl fl_11_7 rfl dX11_follows_63 ?_
            refine z_iloadn C 3 dX11_follows_66 rfl rfl ?_
            refine z_iald C 1 (by decide) rfl (by decide) (by omega) (by omega) dX11_follows_67 ?_
            have rx198 := Ha_machine (f0 : Int).toNat
            generalize ex198 : a_machine (f0 : Int).toNat = x198 at rx198 ⊢
            refine z_iald C 18 (by decide) rfl (by decide) (by omega) (by omega) dX11_follows_68 ?_
            have rx199 := Hfa_at (x198 : Int).toNat
            generalize ex199 : fa_at (x198 : Int).toNat = x199 at rx199 ⊢
            refine z_aloadn C 0 dX11_follows_69 rfl rfl ?_
            refine z_get C 0 (by decide) rfl rfl z_it11 2 (by decide) rfl fl_11_13 rfl dX11_follows_70 ?_
            refine z_iloadn C 3 dX11_follows_73 rfl rfl ?_
            refine z_iald C 2 (by decide) rfl (by decide) (by omega) (by omega) dX11_follows_74 ?_
            have rx200 := Ha_from (f0 : Int).toNat
            generalize ex200 : a_from (f0 : Int).toNat = x200 at rx200 ⊢
            refine z_icmp_eq (t := 80) C dX11_follows_75 (by decide) (by omega) (by omega) (fun c201 => ?_) (fun c201 => ?_)
            · skip
              refine z_iconst C dX11_follows_80 ?_
              refine z_istore (L' := [(4, z_v 0), (0, .ref (ad 0)), (1, z_v i0), (2, z_v e0), (3, z_v f0)]) C dX11_follows_81 (by decide) rfl ?_
              have L83 : ∀ (n : Nat), ∀ (i4 : Int) (fa_at : Nat → Int) (fa_z : Nat → Int) (fa_ahead : Nat → Int), ((∀ j, 0 ≤ fa_at j ∧ fa_at j ≤ 5)) → ((∀ j, z_rg (fa_z j))) → ((∀ j, z_rg (fa_ahead j))) → (0 ≤ i4 ∧ i4 ≤ 16) → ((16 : Int) - i4).toNat < n → z_V p l e R s m args below meth c Q D A 24 ad 5 (z_zm ad ks s_edges s_isNeeded s_explored s_states s_isMoved s_runs s_runTime s_runMoves w_h a_machine a_from a_to a_channel a_resets a_guards a_guardOf a_limits a_limitOf a_places a_zones a_parent a_moveE a_moveF a_moves fa_z fa_ahead fa_at a_amounts a_way a_moments a_runAt a_runClock) Y 0 0 83 [(0, .ref (ad 0)), (1, z_v i0), (2, z_v e0), (3, z_v f0), (4, z_v i4)] [] := by
                intro n
                induction n with
                | zero => intro i4 fa_at fa_z fa_ahead Hfa_at Hfa_z Hfa_ahead I4 hm; exact absurd hm (Nat.not_lt_zero _)
                | succ n ih83 =>
                  intro i4 fa_at fa_z fa_ahead Hfa_at Hfa_z Hfa_ahead I4 hm
                  refine z_iload C 4 dX11_follows_83 rfl ?_
                  refine z_bipush C dX11_follows_85 (by decide) ?_
                  refine z_icmp_ge (t := 115) C dX11_follows_87 (by decide) (by omega) (by omega) (fun c202 => ?_) (fun c202 => ?_)
                  · skip
                    refine z_aloadn C 0 dX11_follows_115 rfl rfl ?_
                    refine z_iloadn C 2 dX11_follows_116 rfl rfl ?_
                    refine z_callV C (cm_X11_keepGuards l e0 Ha_guards Ha_guardOf Hfa_z (by omega)) mv_11_139 (z_atS 0 11 (by decide) rfl rfl rfl) pd_X11_keepGuards ⟨by omega, by omega⟩ ⟨by omega, by omega⟩ rfl (Nat.le_of_ble_eq_true rfl) dX11_follows_117 ?_
                    rintro _ _ _ ⟨n203, rfl, rfl, h206, z207, rfl, hz207⟩
                    refine z_if_eq (t := 136) C dX11_follows_120 (by decide) (by omega) (fun c208 => ?_) (fun c208 => ?_)
                    · skip
                      refine z_iconst C dX11_follows_136 ?_
                      rw [hQ]
                      exact z_zret C hrt (by omega) dX11_follows_137 (⟨fa_at, n203, fa_ahead, rfl, rfl, Hfa_at, h206, Hfa_ahead, _, rfl, by omega⟩) (by omega) (by omega)
                    · skip
                      refine z_iloadn C 3 dX11_follows_123 rfl rfl ?_
                      refine z_iconst C dX11_follows_124 ?_
                      refine z_icmp_eq (t := 138) C dX11_follows_125 (by decide) (by omega) (by omega) (fun c209 => ?_) (fun c209 => ?_)
                      · skip
                        refine z_aloadn C 0 dX11_follows_138 rfl rfl ?_
                        refine z_aloadn C 0 dX11_follows_139 rfl rfl ?_
                        refine z_get C 0 (by decide) rfl rfl z_it11 5 (by decide) rfl fl_11_22 rfl dX11_follows_140 ?_
                        refine z_iloadn C 2 dX11_follows_143 rfl rfl ?_
                        refine z_iald C 5 (by decide) rfl (by decide) (by omega) (by omega) dX11_follows_144 ?_
                        have rx210 := Ha_resets (e0 : Int).toNat
                        generalize ex210 : a_resets (e0 : Int).toNat = x210 at rx210 ⊢
                        refine z_iloadn C 3 dX11_follows_145 rfl rfl ?_
                        refine z_iconst C dX11_follows_146 ?_
                        refine z_icmp_ne (t := 154) C dX11_follows_147 (by decide) (by omega) (by omega) (fun c211 => ?_) (fun c211 => ?_)
                        · skip
                          refine z_aloadn C 0 dX11_follows_154 rfl rfl ?_
                          refine z_get C 0 (by decide) rfl rfl z_it11 5 (by decide) rfl fl_11_22 rfl dX11_follows_155 ?_
                          refine z_iloadn C 3 dX11_follows_158 rfl rfl ?_
                          refine z_iald C 5 (by decide) rfl (by decide) (by omega) (by omega) dX11_follows_159 ?_
                          have rx212 := Ha_resets (f0 : Int).toNat
                          generalize ex212 : a_resets (f0 : Int).toNat = x212 at rx212 ⊢
                          obtain ⟨b213, hb213, rb213⟩ := z_bits (z_i x210 ||| z_i x212)
                          refine z_ior C hb213 dX11_follows_160 ?_
                          have qb213 := z_bitsE hb213 rb213
                          refine z_callV C (cm_X11_set l b213 h206 (by omega)) mv_11_142 (z_atS 0 11 (by decide) rfl rfl rfl) pd_X11_set ⟨by omega, by omega⟩ ⟨by omega, by omega⟩ rfl (Nat.le_of_ble_eq_true rfl) dX11_follows_161 ?_
                          rintro _ _ _ ⟨n214, rfl, rfl, h217, rfl⟩
                          refine z_aloadn C 0 dX11_follows_164 rfl rfl ?_
                          refine z_get C 0 (by decide) rfl rfl z_it11 21 (by decide) rfl fl_11_65 rfl dX11_follows_165 ?_
                          refine z_aloadn C 0 dX11_follows_168 rfl rfl ?_
                          refine z_get C 0 (by decide) rfl rfl z_it11 1 (by decide) rfl fl_11_7 rfl dX11_follows_169 ?_
                          refine z_iloadn C 2 dX11_follows_172 rfl rfl ?_
                          refine z_iald C 1 (by decide) rfl (by decide) (by omega) (by omega) dX11_follows_173 ?_
                          have rx218 := Ha_machine (e0 : Int).toNat
                          generalize ex218 : a_machine (e0 : Int).toNat = x218 at rx218 ⊢
                          refine z_aloadn C 0 dX11_follows_174 rfl rfl ?_
                          refine z_get C 0 (by decide) rfl rfl z_it11 3 (by decide) rfl fl_11_16 rfl dX11_follows_175 ?_
                          refine z_iloadn C 2 dX11_follows_178 rfl rfl ?_
                          refine z_iald C 3 (by decide) rfl (by decide) (by omega) (by omega) dX11_follows_179 ?_
                          have rx219 := Ha_to (e0 : Int).toNat
                          generalize ex219 : a_to (e0 : Int).toNat = x219 at rx219 ⊢
                          refine z_iast C 18 (by decide) rfl (by decide) (by omega) (by omega) dX11_follows_180 ?_
                          refine z_ext (S' := (z_zm ad ks s_edges s_isNeeded s_explored s_states s_isMoved s_runs s_runTime s_runMoves w_h a_machine a_from a_to a_channel a_resets a_guards a_guardOf a_limits a_limitOf a_places a_zones a_parent a_moveE a_moveF a_moves n214 fa_ahead (va_up fa_at (x218 : Int).toNat x219) a_amounts a_way a_moments a_runAt a_runClock)) upM_a_at ?_
                          have h220 : ∀ j, 0 ≤ (va_up fa_at (x218 : Int).toNat x219) j ∧ (va_up fa_at (x218 : Int).toNat x219) j ≤ 5 := z_upP (P := fun j v => 0 ≤ v ∧ v ≤ 5) Hfa_at (by omega)
                          generalize (va_up fa_at (x218 : Int).toNat x219) = f221 at h220 ⊢
                          refine z_iloadn C 3 dX11_follows_181 rfl rfl ?_
                          refine z_iconst C dX11_follows_182 ?_
                          refine z_icmp_eq (t := 203) C dX11_follows_183 (by decide) (by omega) (by omega) (fun c222 => ?_) (fun c222 => ?_)
                          · skip
                            refine z_aloadn C 0 dX11_follows_203 rfl rfl ?_
                            refine z_callV C (cm_X11_keepLimits l h220 Ha_limits Ha_limitOf h217) mv_11_133 (z_atS 0 11 (by decide) rfl rfl rfl) pd_X11_keepLimits ⟨by omega, by omega⟩ ⟨by omega, by omega⟩ rfl (Nat.le_of_ble_eq_true rfl) dX11_follows_204 ?_
                            rintro _ _ _ ⟨n223, rfl, rfl, h226, z227, rfl, hz227⟩
                            refine z_if_eq (t := 221) C dX11_follows_207 (by decide) (by omega) (fun c228 => ?_) (fun c228 => ?_)
                            · skip
                              refine z_iconst C dX11_follows_221 ?_
                              rw [hQ]
                              exact z_zret C hrt (by omega) dX11_follows_222 (⟨f221, n223, fa_ahead, rfl, rfl, h220, h226, Hfa_ahead, _, rfl, by omega⟩) (by omega) (by omega)
                            · skip
                              refine z_aloadn C 0 dX11_follows_210 rfl rfl ?_
                              refine z_callV C (cm_X11_later l (by omega) h226 Hfa_ahead h220 Ha_guards Ha_guardOf Ha_limits Ha_limitOf) mv_11_146 (z_atS 0 11 (by decide) rfl rfl rfl) pd_X11_later ⟨by omega, by omega⟩ ⟨by omega, by omega⟩ rfl (Nat.le_of_ble_eq_true rfl) dX11_follows_211 ?_
                              rintro _ _ _ ⟨n229, n230, rfl, rfl, h233, h234, z235, rfl, hz235⟩
                              refine z_if_eq (t := 221) C dX11_follows_214 (by decide) (by omega) (fun c236 => ?_) (fun c236 => ?_)
                              · skip
                                refine z_iconst C dX11_follows_221 ?_
                                rw [hQ]
                                exact z_zret C hrt (by omega) dX11_follows_222 (⟨f221, n229, n230, rfl, rfl, h220, h233, h234, _, rfl, by omega⟩) (by omega) (by omega)
                              · skip
                                refine z_iconst C dX11_follows_217 ?_
                                refine z_goto (t := 222) C dX11_follows_218 (by decide) ?_
                                rw [hQ]
                                exact z_zret C hrt (by omega) dX11_follows_222 (⟨f221, n229, n230, rfl, rfl, h220, h233, h234, _, rfl, by omega⟩) (by omega) (by omega)
                          · skip
                            refine z_aloadn C 0 dX11_follows_186 rfl rfl ?_
                            refine z_get C 0 (by decide) rfl rfl z_it11 21 (by decide) rfl fl_11_65 rfl dX11_follows_187 ?_
                            refine z_aloadn C 0 dX11_follows_190 rfl rfl ?_
                            refine z_get C 0 (by decide) rfl rfl z_it11 1 (by decide) rfl fl_11_7 rfl dX11_follows_191 ?_
                            refine z_iloadn C 3 dX11_follows_194 rfl rfl ?_
                            refine z_iald C 1 (by decide) rfl (by decide) (by omega) (by omega) dX11_follows_195 ?_
                            have rx237 := Ha_machine (f0 : Int).toNat
                            generalize ex237 : a_machine (f0 : Int).toNat = x237 at rx237 ⊢
                            refine z_aloadn C 0 dX11_follows_196 rfl rfl ?_
                            refine z_get C 0 (by decide) rfl rfl z_it11 3 (by decide) rfl fl_11_16 rfl dX11_follows_197 ?_
                            refine z_iloadn C 3 dX11_follows_200 rfl rfl ?_
                            refine z_iald C 3 (by decide) rfl (by decide) (by omega) (by omega) dX11_follows_201 ?_
                            have rx238 := Ha_to (f0 : Int).toNat
                            generalize ex238 : a_to (f0 : Int).toNat = x238 at rx238 ⊢
                            refine z_iast C 18 (by decide) rfl (by decide) (by omega) (by omega) dX11_follows_202 ?_
                            refine z_ext (S' := (z_zm ad ks s_edges s_isNeeded s_explored s_states s_isMoved s_runs s_runTime s_runMoves w_h a_machine a_from a_to a_channel a_resets a_guards a_guardOf a_limits a_limitOf a_places a_zones a_parent a_moveE a_moveF a_moves n214 fa_ahead (va_up f221 (x237 : Int).toNat x238) a_amounts a_way a_moments a_runAt a_runClock)) upM_a_at ?_
                            have h239 : ∀ j, 0 ≤ (va_up f221 (x237 : Int).toNat x238) j ∧ (va_up f221 (x237 : Int).toNat x238) j ≤ 5 := z_upP (P := fun j v => 0 ≤ v ∧ v ≤ 5) h220 (by omega)
                            generalize (va_up f221 (x237 : Int).toNat x238) = f240 at h239 ⊢
                            refine z_aloadn C 0 dX11_follows_203 rfl rfl ?_
                            refine z_callV C (cm_X11_keepLimits l h239 Ha_limits Ha_limitOf h217) mv_11_133 (z_atS 0 11 (by decide) rfl rfl rfl) pd_X11_keepLimits ⟨by omega, by omega⟩ ⟨by omega, by omega⟩ rfl (Nat.le_of_ble_eq_true rfl) dX11_follows_204 ?_
                            rintro _ _ _ ⟨n241, rfl, rfl, h244, z245, rfl, hz245⟩
                            refine z_if_eq (t := 221) C dX11_follows_207 (by decide) (by omega) (fun c246 => ?_) (fun c246 => ?_)
                            · skip
                              refine z_iconst C dX11_follows_221 ?_
                              rw [hQ]
                              exact z_zret C hrt (by omega) dX11_follows_222 (⟨f240, n241, fa_ahead, rfl, rfl, h239, h244, Hfa_ahead, _, rfl, by omega⟩) (by omega) (by omega)
                            · skip
                              refine z_aloadn C 0 dX11_follows_210 rfl rfl ?_
                              refine z_callV C (cm_X11_later l (by omega) h244 Hfa_ahead h239 Ha_guards Ha_guardOf Ha_limits Ha_limitOf) mv_11_146 (z_atS 0 11 (by decide) rfl rfl rfl) pd_X11_later ⟨by omega, by omega⟩ ⟨by omega, by omega⟩ rfl (Nat.le_of_ble_eq_true rfl) dX11_follows_211 ?_
                              rintro _ _ _ ⟨n247, n248, rfl, rfl, h251, h252, z253, rfl, hz253⟩
                              refine z_if_eq (t := 221) C dX11_follows_214 (by decide) (by omega) (fun c254 => ?_) (fun c254 => ?_)
                              · skip
                                refine z_iconst C dX11_follows_221 ?_
                                rw [hQ]
                                exact z_zret C hrt (by omega) dX11_follows_222 (⟨f240, n247, n248, rfl, rfl, h239, h251, h252, _, rfl, by omega⟩) (by omega) (by omega)
                              · skip
                                refine z_iconst C dX11_follows_217 ?_
                                refine z_goto (t := 222) C dX11_follows_218 (by decide) ?_
                                rw [hQ]
                                exact z_zret C hrt (by omega) dX11_follows_222 (⟨f240, n247, n248, rfl, rfl, h239, h251, h252, _, rfl, by omega⟩) (by omega) (by omega)
                        · skip
                          refine z_iconst C dX11_follows_150 ?_
                          refine z_goto (t := 160) C dX11_follows_151 (by decide) ?_
                          obtain ⟨b255, hb255, rb255⟩ := z_bits (z_i x210 ||| z_i 0)
                          refine z_ior C hb255 dX11_follows_160 ?_
                          have qb255 := z_bitsE hb255 rb255
                          refine z_callV C (cm_X11_set l b255 h206 (by omega)) mv_11_142 (z_atS 0 11 (by decide) rfl rfl rfl) pd_X11_set ⟨by omega, by omega⟩ ⟨by omega, by omega⟩ rfl (Nat.le_of_ble_eq_true rfl) dX11_follows_161 ?_
                          rintro _ _ _ ⟨n256, rfl, rfl, h259, rfl⟩
                          refine z_aloadn C 0 dX11_follows_164 rfl rfl ?_
                          refine z_get C 0 (by decide) rfl rfl z_it11 21 (by decide) rfl fl_11_65 rfl dX11_follows_165 ?_
                          refine z_aloadn C 0 dX11_follows_168 rfl rfl ?_
                          refine z_get C 0 (by decide) rfl rfl z_it11 1 (by decide) rfl fl_11_7 rfl dX11_follows_169 ?_
                          refine z_iloadn C 2 dX11_follows_172 rfl rfl ?_
                          refine z_iald C 1 (by decide) rfl (by decide) (by omega) (by omega) dX11_follows_173 ?_
                          have rx260 := Ha_machine (e0 : Int).toNat
                          generalize ex260 : a_machine (e0 : Int).toNat = x260 at rx260 ⊢
                          refine z_aloadn C 0 dX11_follows_174 rfl rfl ?_
                          refine z_get C 0 (by decide) rfl rfl z_it11 3 (by decide) rfl fl_11_16 rfl dX11_follows_175 ?_
                          refine z_iloadn C 2 dX11_follows_178 rfl rfl ?_
                          refine z_iald C 3 (by decide) rfl (by decide) (by omega) (by omega) dX11_follows_179 ?_
                          have rx261 := Ha_to (e0 : Int).toNat
                          generalize ex261 : a_to (e0 : Int).toNat = x261 at rx261 ⊢
                          refine z_iast C 18 (by decide) rfl (by decide) (by omega) (by omega) dX11_follows_180 ?_
                          refine z_ext (S' := (z_zm ad ks s_edges s_isNeeded s_explored s_states s_isMoved s_runs s_runTime s_runMoves w_h a_machine a_from a_to a_channel a_resets a_guards a_guardOf a_limits a_limitOf a_places a_zones a_parent a_moveE a_moveF a_moves n256 fa_ahead (va_up fa_at (x260 : Int).toNat x261) a_amounts a_way a_moments a_runAt a_runClock)) upM_a_at ?_
                          have h262 : ∀ j, 0 ≤ (va_up fa_at (x260 : Int).toNat x261) j ∧ (va_up fa_at (x260 : Int).toNat x261) j ≤ 5 := z_upP (P := fun j v => 0 ≤ v ∧ v ≤ 5) Hfa_at (by omega)
                          generalize (va_up fa_at (x260 : Int).toNat x261) = f263 at h262 ⊢
                          refine z_iloadn C 3 dX11_follows_181 rfl rfl ?_
                          refine z_iconst C dX11_follows_182 ?_
                          refine z_icmp_eq (t := 203) C dX11_follows_183 (by decide) (by omega) (by omega) (fun c264 => ?_) (fun c264 => ?_)
                          · skip
                            refine z_aloadn C 0 dX11_follows_203 rfl rfl ?_
                            refine z_callV C (cm_X11_keepLimits l h262 Ha_limits Ha_limitOf h259) mv_11_133 (z_atS 0 11 (by decide) rfl rfl rfl) pd_X11_keepLimits ⟨by omega, by omega⟩ ⟨by omega, by omega⟩ rfl (Nat.le_of_ble_eq_true rfl) dX11_follows_204 ?_
                            rintro _ _ _ ⟨n265, rfl, rfl, h268, z269, rfl, hz269⟩
                            refine z_if_eq (t := 221) C dX11_follows_207 (by decide) (by omega) (fun c270 => ?_) (fun c270 => ?_)
                            · skip
                              refine z_iconst C dX11_follows_221 ?_
                              rw [hQ]
                              exact z_zret C hrt (by omega) dX11_follows_222 (⟨f263, n265, fa_ahead, rfl, rfl, h262, h268, Hfa_ahead, _, rfl, by omega⟩) (by omega) (by omega)
                            · skip
                              refine z_aloadn C 0 dX11_follows_210 rfl rfl ?_
                              refine z_callV C (cm_X11_later l (by omega) h268 Hfa_ahead h262 Ha_guards Ha_guardOf Ha_limits Ha_limitOf) mv_11_146 (z_atS 0 11 (by decide) rfl rfl rfl) pd_X11_later ⟨by omega, by omega⟩ ⟨by omega, by omega⟩ rfl (Nat.le_of_ble_eq_true rfl) dX11_follows_211 ?_
                              rintro _ _ _ ⟨n271, n272, rfl, rfl, h275, h276, z277, rfl, hz277⟩
                              refine z_if_eq (t := 221) C dX11_follows_214 (by decide) (by omega) (fun c278 => ?_) (fun c278 => ?_)
                              · skip
                                refine z_iconst C dX11_follows_221 ?_
                                rw [hQ]
                                exact z_zret C hrt (by omega) dX11_follows_222 (⟨f263, n271, n272, rfl, rfl, h262, h275, h276, _, rfl, by omega⟩) (by omega) (by omega)
                              · skip
                                refine z_iconst C dX11_follows_217 ?_
                                refine z_goto (t := 222) C dX11_follows_218 (by decide) ?_
                                rw [hQ]
                                exact z_zret C hrt (by omega) dX11_follows_222 (⟨f263, n271, n272, rfl, rfl, h262, h275, h276, _, rfl, by omega⟩) (by omega) (by omega)
                          · skip
                            refine z_aloadn C 0 dX11_follows_186 rfl rfl ?_
                            refine z_get C 0 (by decide) rfl rfl z_it11 21 (by decide) rfl fl_11_65 rfl dX11_follows_187 ?_
                            refine z_aloadn C 0 dX11_follows_190 rfl rfl ?_
                            refine z_get C 0 (by decide) rfl rfl z_it11 1 (by decide) rfl fl_11_7 rfl dX11_follows_191 ?_
                            refine z_iloadn C 3 dX11_follows_194 rfl rfl ?_
                            refine z_iald C 1 (by decide) rfl (by decide) (by omega) (by omega) dX11_follows_195 ?_
                            have rx279 := Ha_machine (f0 : Int).toNat
                            generalize ex279 : a_machine (f0 : Int).toNat = x279 at rx279 ⊢
                            refine z_aloadn C 0 dX11_follows_196 rfl rfl ?_
                            refine z_get C 0 (by decide) rfl rfl z_it11 3 (by decide) rfl fl_11_16 rfl dX11_follows_197 ?_
                            refine z_iloadn C 3 dX11_follows_200 rfl rfl ?_
                            refine z_iald C 3 (by decide) rfl (by decide) (by omega) (by omega) dX11_follows_201 ?_
                            have rx280 := Ha_to (f0 : Int).toNat
                            generalize ex280 : a_to (f0 : Int).toNat = x280 at rx280 ⊢
                            refine z_iast C 18 (by decide) rfl (by decide) (by omega) (by omega) dX11_follows_202 ?_
                            refine z_ext (S' := (z_zm ad ks s_edges s_isNeeded s_explored s_states s_isMoved s_runs s_runTime s_runMoves w_h a_machine a_from a_to a_channel a_resets a_guards a_guardOf a_limits a_limitOf a_places a_zones a_parent a_moveE a_moveF a_moves n256 fa_ahead (va_up f263 (x279 : Int).toNat x280) a_amounts a_way a_moments a_runAt a_runClock)) upM_a_at ?_
                            have h281 : ∀ j, 0 ≤ (va_up f263 (x279 : Int).toNat x280) j ∧ (va_up f263 (x279 : Int).toNat x280) j ≤ 5 := z_upP (P := fun j v => 0 ≤ v ∧ v ≤ 5) h262 (by omega)
                            generalize (va_up f263 (x279 : Int).toNat x280) = f282 at h281 ⊢
                            refine z_aloadn C 0 dX11_follows_203 rfl rfl ?_
                            refine z_callV C (cm_X11_keepLimits l h281 Ha_limits Ha_limitOf h259) mv_11_133 (z_atS 0 11 (by decide) rfl rfl rfl) pd_X11_keepLimits ⟨by omega, by omega⟩ ⟨by omega, by omega⟩ rfl (Nat.le_of_ble_eq_true rfl) dX11_follows_204 ?_
                            rintro _ _ _ ⟨n283, rfl, rfl, h286, z287, rfl, hz287⟩
                            refine z_if_eq (t := 221) C dX11_follows_207 (by decide) (by omega) (fun c288 => ?_) (fun c288 => ?_)
                            · skip
                              refine z_iconst C dX11_follows_221 ?_
                              rw [hQ]
                              exact z_zret C hrt (by omega) dX11_follows_222 (⟨f282, n283, fa_ahead, rfl, rfl, h281, h286, Hfa_ahead, _, rfl, by omega⟩) (by omega) (by omega)
                            · skip
                              refine z_aloadn C 0 dX11_follows_210 rfl rfl ?_
                              refine z_callV C (cm_X11_later l (by omega) h286 Hfa_ahead h281 Ha_guards Ha_guardOf Ha_limits Ha_limitOf) mv_11_146 (z_atS 0 11 (by decide) rfl rfl rfl) pd_X11_later ⟨by omega, by omega⟩ ⟨by omega, by omega⟩ rfl (Nat.le_of_ble_eq_true rfl) dX11_follows_211 ?_
                              rintro _ _ _ ⟨n289, n290, rfl, rfl, h293, h294, z295, rfl, hz295⟩
                              refine z_if_eq (t := 221) C dX11_follows_214 (by decide) (by omega) (fun c296 => ?_) (fun c296 => ?_)
                              · skip
                                refine z_iconst C dX11_follows_221 ?_
                                rw [hQ]
                                exact z_zret C hrt (by omega) dX11_follows_222 (⟨f282, n289, n290, rfl, rfl, h281, h293, h294, _, rfl, by omega⟩) (by omega) (by omega)
                              · skip
                                refine z_iconst C dX11_follows_217 ?_
                                refine z_goto (t := 222) C dX11_follows_218 (by decide) ?_
                                rw [hQ]
                                exact z_zret C hrt (by omega) dX11_follows_222 (⟨f282, n289, n290, rfl, rfl, h281, h293, h294, _, rfl, by omega⟩) (by omega) (by omega)
                      · skip
                        refine z_aloadn C 0 dX11_follows_128 rfl rfl ?_
                        refine z_iloadn C 3 dX11_follows_129 rfl rfl ?_
                        refine z_callV C (cm_X11_keepGuards l f0 Ha_guards Ha_guardOf h206 (by omega)) mv_11_139 (z_atS 0 11 (by decide) rfl rfl rfl) pd_X11_keepGuards ⟨by omega, by omega⟩ ⟨by omega, by omega⟩ rfl (Nat.le_of_ble_eq_true rfl) dX11_follows_130 ?_
                        rintro _ _ _ ⟨n297, rfl, rfl, h300, z301, rfl, hz301⟩
                        refine z_if_ne (t := 138) C dX11_follows_133 (by decide) (by omega) (fun c302 => ?_) (fun c302 => ?_)
                        · skip
                          refine z_aloadn C 0 dX11_follows_138 rfl rfl ?_
                          refine z_aloadn C 0 dX11_follows_139 rfl rfl ?_
                          refine z_get C 0 (by decide) rfl rfl z_it11 5 (by decide) rfl fl_11_22 rfl dX11_follows_140 ?_
                          refine z_iloadn C 2 dX11_follows_143 rfl rfl ?_
                          refine z_iald C 5 (by decide) rfl (by decide) (by omega) (by omega) dX11_follows_144 ?_
                          have rx303 := Ha_resets (e0 : Int).toNat
                          generalize ex303 : a_resets (e0 : Int).toNat = x303 at rx303 ⊢
                          refine z_iloadn C 3 dX11_follows_145 rfl rfl ?_
                          refine z_iconst C dX11_follows_146 ?_
                          refine z_icmp_ne (t := 154) C dX11_follows_147 (by decide) (by omega) (by omega) (fun c304 => ?_) (fun c304 => ?_)
                          · skip
                            refine z_aloadn C 0 dX11_follows_154 rfl rfl ?_
                            refine z_get C 0 (by decide) rfl rfl z_it11 5 (by decide) rfl fl_11_22 rfl dX11_follows_155 ?_
                            refine z_iloadn C 3 dX11_follows_158 rfl rfl ?_
                            refine z_iald C 5 (by decide) rfl (by decide) (by omega) (by omega) dX11_follows_159 ?_
                            have rx305 := Ha_resets (f0 : Int).toNat
                            generalize ex305 : a_resets (f0 : Int).toNat = x305 at rx305 ⊢
                            obtain ⟨b306, hb306, rb306⟩ := z_bits (z_i x303 ||| z_i x305)
                            refine z_ior C hb306 dX11_follows_160 ?_
                            have qb306 := z_bitsE hb306 rb306
                            refine z_callV C (cm_X11_set l b306 h300 (by omega)) mv_11_142 (z_atS 0 11 (by decide) rfl rfl rfl) pd_X11_set ⟨by omega, by omega⟩ ⟨by omega, by omega⟩ rfl (Nat.le_of_ble_eq_true rfl) dX11_follows_161 ?_
                            rintro _ _ _ ⟨n307, rfl, rfl, h310, rfl⟩
                            refine z_aloadn C 0 dX11_follows_164 rfl rfl ?_
                            refine z_get C 0 (by decide) rfl rfl z_it11 21 (by decide) rfl fl_11_65 rfl dX11_follows_165 ?_
                            refine z_aloadn C 0 dX11_follows_168 rfl rfl ?_
                            refine z_get C 0 (by decide) rfl rfl z_it11 1 (by decide) rfl fl_11_7 rfl dX11_follows_169 ?_
                            refine z_iloadn C 2 dX11_follows_172 rfl rfl ?_
                            refine z_iald C 1 (by decide) rfl (by decide) (by omega) (by omega) dX11_follows_173 ?_
                            have rx311 := Ha_machine (e0 : Int).toNat
                            generalize ex311 : a_machine (e0 : Int).toNat = x311 at rx311 ⊢
                            refine z_aloadn C 0 dX11_follows_174 rfl rfl ?_
                            refine z_get C 0 (by decide) rfl rfl z_it11 3 (by decide) rfl fl_11_16 rfl dX11_follows_175 ?_
                            refine z_iloadn C 2 dX11_follows_178 rfl rfl ?_
                            refine z_iald C 3 (by decide) rfl (by decide) (by omega) (by omega) dX11_follows_179 ?_
                            have rx312 := Ha_to (e0 : Int).toNat
                            generalize ex312 : a_to (e0 : Int).toNat = x312 at rx312 ⊢
                            refine z_iast C 18 (by decide) rfl (by decide) (by omega) (by omega) dX11_follows_180 ?_
                            refine z_ext (S' := (z_zm ad ks s_edges s_isNeeded s_explored s_states s_isMoved s_runs s_runTime s_runMoves w_h a_machine a_from a_to a_channel a_resets a_guards a_guardOf a_limits a_limitOf a_places a_zones a_parent a_moveE a_moveF a_moves n307 fa_ahead (va_up fa_at (x311 : Int).toNat x312) a_amounts a_way a_moments a_runAt a_runClock)) upM_a_at ?_
                            have h313 : ∀ j, 0 ≤ (va_up fa_at (x311 : Int).toNat x312) j ∧ (va_up fa_at (x311 : Int).toNat x312) j ≤ 5 := z_upP (P := fun j v => 0 ≤ v ∧ v ≤ 5) Hfa_at (by omega)
                            generalize (va_up fa_at (x311 : Int).toNat x312) = f314 at h313 ⊢
                            refine z_iloadn C 3 dX11_follows_181 rfl rfl ?_
                            refine z_iconst C dX11_follows_182 ?_
                            refine z_icmp_eq (t := 203) C dX11_follows_183 (by decide) (by omega) (by omega) (fun c315 => ?_) (fun c315 => ?_)
                            · skip
                              refine z_aloadn C 0 dX11_follows_203 rfl rfl ?_
                              refine z_callV C (cm_X11_keepLimits l h313 Ha_limits Ha_limitOf h310) mv_11_133 (z_atS 0 11 (by decide) rfl rfl rfl) pd_X11_keepLimits ⟨by omega, by omega⟩ ⟨by omega, by omega⟩ rfl (Nat.le_of_ble_eq_true rfl) dX11_follows_204 ?_
                              rintro _ _ _ ⟨n316, rfl, rfl, h319, z320, rfl, hz320⟩
                              refine z_if_eq (t := 221) C dX11_follows_207 (by decide) (by omega) (fun c321 => ?_) (fun c321 => ?_)
                              · skip
                                refine z_iconst C dX11_follows_221 ?_
                                rw [hQ]
                                exact z_zret C hrt (by omega) dX11_follows_222 (⟨f314, n316, fa_ahead, rfl, rfl, h313, h319, Hfa_ahead, _, rfl, by omega⟩) (by omega) (by omega)
                              · skip
                                refine z_aloadn C 0 dX11_follows_210 rfl rfl ?_
                                refine z_callV C (cm_X11_later l (by omega) h319 Hfa_ahead h313 Ha_guards Ha_guardOf Ha_limits Ha_limitOf) mv_11_146 (z_atS 0 11 (by decide) rfl rfl rfl) pd_X11_later ⟨by omega, by omega⟩ ⟨by omega, by omega⟩ rfl (Nat.le_of_ble_eq_true rfl) dX11_follows_211 ?_
                                rintro _ _ _ ⟨n322, n323, rfl, rfl, h326, h327, z328, rfl, hz328⟩
                                refine z_if_eq (t := 221) C dX11_follows_214 (by decide) (by omega) (fun c329 => ?_) (fun c329 => ?_)
                                · skip
                                  refine z_iconst C dX11_follows_221 ?_
                                  rw [hQ]
                                  exact z_zret C hrt (by omega) dX11_follows_222 (⟨f314, n322, n323, rfl, rfl, h313, h326, h327, _, rfl, by omega⟩) (by omega) (by omega)
                                · skip
                                  refine z_iconst C dX11_follows_217 ?_
                                  refine z_goto (t := 222) C dX11_follows_218 (by decide) ?_
                                  rw [hQ]
                                  exact z_zret C hrt (by omega) dX11_follows_222 (⟨f314, n322, n323, rfl, rfl, h313, h326, h327, _, rfl, by omega⟩) (by omega) (by omega)
                            · skip
                              refine z_aloadn C 0 dX11_follows_186 rfl rfl ?_
                              refine z_get C 0 (by decide) rfl rfl z_it11 21 (by decide) rfl fl_11_65 rfl dX11_follows_187 ?_
                              refine z_aloadn C 0 dX11_follows_190 rfl rfl ?_
                              refine z_get C 0 (by decide) rfl rfl z_it11 1 (by decide) rfl fl_11_7 rfl dX11_follows_191 ?_
                              refine z_iloadn C 3 dX11_follows_194 rfl rfl ?_
                              refine z_iald C 1 (by decide) rfl (by decide) (by omega) (by omega) dX11_follows_195 ?_
                              have rx330 := Ha_machine (f0 : Int).toNat
                              generalize ex330 : a_machine (f0 : Int).toNat = x330 at rx330 ⊢
                              refine z_aloadn C 0 dX11_follows_196 rfl rfl ?_
                              refine z_get C 0 (by decide) rfl rfl z_it11 3 (by decide) rfl fl_11_16 rfl dX11_follows_197 ?_
                              refine z_iloadn C 3 dX11_follows_200 rfl rfl ?_
                              refine z_iald C 3 (by decide) rfl (by decide) (by omega) (by omega) dX11_follows_201 ?_
                              have rx331 := Ha_to (f0 : Int).toNat
                              generalize ex331 : a_to (f0 : Int).toNat = x331 at rx331 ⊢
                              refine z_iast C 18 (by decide) rfl (by decide) (by omega) (by omega) dX11_follows_202 ?_
                              refine z_ext (S' := (z_zm ad ks s_edges s_isNeeded s_explored s_states s_isMoved s_runs s_runTime s_runMoves w_h a_machine a_from a_to a_channel a_resets a_guards a_guardOf a_limits a_limitOf a_places a_zones a_parent a_moveE a_moveF a_moves n307 fa_ahead (va_up f314 (x330 : Int).toNat x331) a_amounts a_way a_moments a_runAt a_runClock)) upM_a_at ?_
                              have h332 : ∀ j, 0 ≤ (va_up f314 (x330 : Int).toNat x331) j ∧ (va_up f314 (x330 : Int).toNat x331) j ≤ 5 := z_upP (P := fun j v => 0 ≤ v ∧ v ≤ 5) h313 (by omega)
                              generalize (va_up f314 (x330 : Int).toNat x331) = f333 at h332 ⊢
                              refine z_aloadn C 0 dX11_follows_203 rfl rfl ?_
                              refine z_callV C (cm_X11_keepLimits l h332 Ha_limits Ha_limitOf h310) mv_11_133 (z_atS 0 11 (by decide) rfl rfl rfl) pd_X11_keepLimits ⟨by omega, by omega⟩ ⟨by omega, by omega⟩ rfl (Nat.le_of_ble_eq_true rfl) dX11_follows_204 ?_
                              rintro _ _ _ ⟨n334, rfl, rfl, h337, z338, rfl, hz338⟩
                              refine z_if_eq (t := 221) C dX11_follows_207 (by decide) (by omega) (fun c339 => ?_) (fun c339 => ?_)
                              · skip
                                refine z_iconst C dX11_follows_221 ?_
                                rw [hQ]
                                exact z_zret C hrt (by omega) dX11_follows_222 (⟨f333, n334, fa_ahead, rfl, rfl, h332, h337, Hfa_ahead, _, rfl, by omega⟩) (by omega) (by omega)
                              · skip
                                refine z_aloadn C 0 dX11_follows_210 rfl rfl ?_
                                refine z_callV C (cm_X11_later l (by omega) h337 Hfa_ahead h332 Ha_guards Ha_guardOf Ha_limits Ha_limitOf) mv_11_146 (z_atS 0 11 (by decide) rfl rfl rfl) pd_X11_later ⟨by omega, by omega⟩ ⟨by omega, by omega⟩ rfl (Nat.le_of_ble_eq_true rfl) dX11_follows_211 ?_
                                rintro _ _ _ ⟨n340, n341, rfl, rfl, h344, h345, z346, rfl, hz346⟩
                                refine z_if_eq (t := 221) C dX11_follows_214 (by decide) (by omega) (fun c347 => ?_) (fun c347 => ?_)
                                · skip
                                  refine z_iconst C dX11_follows_221 ?_
                                  rw [hQ]
                                  exact z_zret C hrt (by omega) dX11_follows_222 (⟨f333, n340, n341, rfl, rfl, h332, h344, h345, _, rfl, by omega⟩) (by omega) (by omega)
                                · skip
                                  refine z_iconst C dX11_follows_217 ?_
                                  refine z_goto (t := 222) C dX11_follows_218 (by decide) ?_
                                  rw [hQ]
                                  exact z_zret C hrt (by omega) dX11_follows_222 (⟨f333, n340, n341, rfl, rfl, h332, h344, h345, _, rfl, by omega⟩) (by omega) (by omega)
                          · skip
                            refine z_iconst C dX11_follows_150 ?_
                            refine z_goto (t := 160) C dX11_follows_151 (by decide) ?_
                            obtain ⟨b348, hb348, rb348⟩ := z_bits (z_i x303 ||| z_i 0)
                            refine z_ior C hb348 dX11_follows_160 ?_
                            have qb348 := z_bitsE hb348 rb348
                            refine z_callV C (cm_X11_set l b348 h300 (by omega)) mv_11_142 (z_atS 0 11 (by decide) rfl rfl rfl) pd_X11_set ⟨by omega, by omega⟩ ⟨by omega, by omega⟩ rfl (Nat.le_of_ble_eq_true rfl) dX11_follows_161 ?_
                            rintro _ _ _ ⟨n349, rfl, rfl, h352, rfl⟩
                            refine z_aloadn C 0 dX11_follows_164 rfl rfl ?_
                            refine z_get C 0 (by decide) rfl rfl z_it11 21 (by decide) rfl fl_11_65 rfl dX11_follows_165 ?_
                            refine z_aloadn C 0 dX11_follows_168 rfl rfl ?_
                            refine z_get C 0 (by decide) rfl rfl z_it11 1 (by decide) rfl fl_11_7 rfl dX11_follows_169 ?_
                            refine z_iloadn C 2 dX11_follows_172 rfl rfl ?_
                            refine z_iald C 1 (by decide) rfl (by decide) (by omega) (by omega) dX11_follows_173 ?_
                            have rx353 := Ha_machine (e0 : Int).toNat
                            generalize ex353 : a_machine (e0 : Int).toNat = x353 at rx353 ⊢
                            refine z_aloadn C 0 dX11_follows_174 rfl rfl ?_
                            refine z_get C 0 (by decide) rfl rfl z_it11 3 (by decide) rfl fl_11_16 rfl dX11_follows_175 ?_
                            refine z_iloadn C 2 dX11_follows_178 rfl rfl ?_
                            refine z_iald C 3 (by decide) rfl (by decide) (by omega) (by omega) dX11_follows_179 ?_
                            have rx354 := Ha_to (e0 : Int).toNat
                            generalize ex354 : a_to (e0 : Int).toNat = x354 at rx354 ⊢
                            refine z_iast C 18 (by decide) rfl (by decide) (by omega) (by omega) dX11_follows_180 ?_
                            refine z_ext (S' := (z_zm ad ks s_edges s_isNeeded s_explored s_states s_isMoved s_runs s_runTime s_runMoves w_h a_machine a_from a_to a_channel a_resets a_guards a_guardOf a_limits a_limitOf a_places a_zones a_parent a_moveE a_moveF a_moves n349 fa_ahead (va_up fa_at (x353 : Int).toNat x354) a_amounts a_way a_moments a_runAt a_runClock)) upM_a_at ?_
                            have h355 : ∀ j, 0 ≤ (va_up fa_at (x353 : Int).toNat x354) j ∧ (va_up fa_at (x353 : Int).toNat x354) j ≤ 5 := z_upP (P := fun j v => 0 ≤ v ∧ v ≤ 5) Hfa_at (by omega)
                            generalize (va_up fa_at (x353 : Int).toNat x354) = f356 at h355 ⊢
                            refine z_iloadn C 3 dX11_follows_181 rfl rfl ?_
                            refine z_iconst C dX11_follows_182 ?_
                            refine z_icmp_eq (t := 203) C dX11_follows_183 (by decide) (by omega) (by omega) (fun c357 => ?_) (fun c357 => ?_)
                            · skip
                              refine z_aloadn C 0 dX11_follows_203 rfl rfl ?_
                              refine z_callV C (cm_X11_keepLimits l h355 Ha_limits Ha_limitOf h352) mv_11_133 (z_atS 0 11 (by decide) rfl rfl rfl) pd_X11_keepLimits ⟨by omega, by omega⟩ ⟨by omega, by omega⟩ rfl (Nat.le_of_ble_eq_true rfl) dX11_follows_204 ?_
                              rintro _ _ _ ⟨n358, rfl, rfl, h361, z362, rfl, hz362⟩
                              refine z_if_eq (t := 221) C dX11_follows_207 (by decide) (by omega) (fun c363 => ?_) (fun c363 => ?_)
                              · skip
                                refine z_iconst C dX11_follows_221 ?_
                                rw [hQ]
                                exact z_zret C hrt (by omega) dX11_follows_222 (⟨f356, n358, fa_ahead, rfl, rfl, h355, h361, Hfa_ahead, _, rfl, by omega⟩) (by omega) (by omega)
                              · skip
                                refine z_aloadn C 0 dX11_follows_210 rfl rfl ?_
                                refine z_callV C (cm_X11_later l (by omega) h361 Hfa_ahead h355 Ha_guards Ha_guardOf Ha_limits Ha_limitOf) mv_11_146 (z_atS 0 11 (by decide) rfl rfl rfl) pd_X11_later ⟨by omega, by omega⟩ ⟨by omega, by omega⟩ rfl (Nat.le_of_ble_eq_true rfl) dX11_follows_211 ?_
                                rintro _ _ _ ⟨n364, n365, rfl, rfl, h368, h369, z370, rfl, hz370⟩
                                refine z_if_eq (t := 221) C dX11_follows_214 (by decide) (by omega) (fun c371 => ?_) (fun c371 => ?_)
                                · skip
                                  refine z_iconst C dX11_follows_221 ?_
                                  rw [hQ]
                                  exact z_zret C hrt (by omega) dX11_follows_222 (⟨f356, n364, n365, rfl, rfl, h355, h368, h369, _, rfl, by omega⟩) (by omega) (by omega)
                                · skip
                                  refine z_iconst C dX11_follows_217 ?_
                                  refine z_goto (t := 222) C dX11_follows_218 (by decide) ?_
                                  rw [hQ]
                                  exact z_zret C hrt (by omega) dX11_follows_222 (⟨f356, n364, n365, rfl, rfl, h355, h368, h369, _, rfl, by omega⟩) (by omega) (by omega)
                            · skip
                              refine z_aloadn C 0 dX11_follows_186 rfl rfl ?_
                              refine z_get C 0 (by decide) rfl rfl z_it11 21 (by decide) rfl fl_11_65 rfl dX11_follows_187 ?_
                              refine z_aloadn C 0 dX11_follows_190 rfl rfl ?_
                              refine z_get C 0 (by decide) rfl rfl z_it11 1 (by decide) rfl fl_11_7 rfl dX11_follows_191 ?_
                              refine z_iloadn C 3 dX11_follows_194 rfl rfl ?_
                              refine z_iald C 1 (by decide) rfl (by decide) (by omega) (by omega) dX11_follows_195 ?_
                              have rx372 := Ha_machine (f0 : Int).toNat
                              generalize ex372 : a_machine (f0 : Int).toNat = x372 at rx372 ⊢
                              refine z_aloadn C 0 dX11_follows_196 rfl rfl ?_
                              refine z_get C 0 (by decide) rfl rfl z_it11 3 (by decide) rfl fl_11_16 rfl dX11_follows_197 ?_
                              refine z_iloadn C 3 dX11_follows_200 rfl rfl ?_
                              refine z_iald C 3 (by decide) rfl (by decide) (by omega) (by omega) dX11_follows_201 ?_
                              have rx373 := Ha_to (f0 : Int).toNat
                              generalize ex373 : a_to (f0 : Int).toNat = x373 at rx373 ⊢
                              refine z_iast C 18 (by decide) rfl (by decide) (by omega) (by omega) dX11_follows_202 ?_
                              refine z_ext (S' := (z_zm ad ks s_edges s_isNeeded s_explored s_states s_isMoved s_runs s_runTime s_runMoves w_h a_machine a_from a_to a_channel a_resets a_guards a_guardOf a_limits a_limitOf a_places a_zones a_parent a_moveE a_moveF a_moves n349 fa_ahead (va_up f356 (x372 : Int).toNat x373) a_amounts a_way a_moments a_runAt a_runClock)) upM_a_at ?_
                              have h374 : ∀ j, 0 ≤ (va_up f356 (x372 : Int).toNat x373) j ∧ (va_up f356 (x372 : Int).toNat x373) j ≤ 5 := z_upP (P := fun j v => 0 ≤ v ∧ v ≤ 5) h355 (by omega)
                              generalize (va_up f356 (x372 : Int).toNat x373) = f375 at h374 ⊢
                              refine z_aloadn C 0 dX11_follows_203 rfl rfl ?_
                              refine z_callV C (cm_X11_keepLimits l h374 Ha_limits Ha_limitOf h352) mv_11_133 (z_atS 0 11 (by decide) rfl rfl rfl) pd_X11_keepLimits ⟨by omega, by omega⟩ ⟨by omega, by omega⟩ rfl (Nat.le_of_ble_eq_true rfl) dX11_follows_204 ?_
                              rintro _ _ _ ⟨n376, rfl, rfl, h379, z380, rfl, hz380⟩
                              refine z_if_eq (t := 221) C dX11_follows_207 (by decide) (by omega) (fun c381 => ?_) (fun c381 => ?_)
                              · skip
                                refine z_iconst C dX11_follows_221 ?_
                                rw [hQ]
                                exact z_zret C hrt (by omega) dX11_follows_222 (⟨f375, n376, fa_ahead, rfl, rfl, h374, h379, Hfa_ahead, _, rfl, by omega⟩) (by omega) (by omega)
                              · skip
                                refine z_aloadn C 0 dX11_follows_210 rfl rfl ?_
                                refine z_callV C (cm_X11_later l (by omega) h379 Hfa_ahead h374 Ha_guards Ha_guardOf Ha_limits Ha_limitOf) mv_11_146 (z_atS 0 11 (by decide) rfl rfl rfl) pd_X11_later ⟨by omega, by omega⟩ ⟨by omega, by omega⟩ rfl (Nat.le_of_ble_eq_true rfl) dX11_follows_211 ?_
                                rintro _ _ _ ⟨n382, n383, rfl, rfl, h386, h387, z388, rfl, hz388⟩
                                refine z_if_eq (t := 221) C dX11_follows_214 (by decide) (by omega) (fun c389 => ?_) (fun c389 => ?_)
                                · skip
                                  refine z_iconst C dX11_follows_221 ?_
                                  rw [hQ]
                                  exact z_zret C hrt (by omega) dX11_follows_222 (⟨f375, n382, n383, rfl, rfl, h374, h386, h387, _, rfl, by omega⟩) (by omega) (by omega)
                                · skip
                                  refine z_iconst C dX11_follows_217 ?_
                                  refine z_goto (t := 222) C dX11_follows_218 (by decide) ?_
                                  rw [hQ]
                                  exact z_zret C hrt (by omega) dX11_follows_222 (⟨f375, n382, n383, rfl, rfl, h374, h386, h387, _, rfl, by omega⟩) (by omega) (by omega)
                        · skip
                          refine z_iconst C dX11_follows_136 ?_
                          rw [hQ]
                          exact z_zret C hrt (by omega) dX11_follows_137 (⟨fa_at, n297, fa_ahead, rfl, rfl, Hfa_at, h300, Hfa_ahead, _, rfl, by omega⟩) (by omega) (by omega)
                  · skip
                    refine z_aloadn C 0 dX11_follows_90 rfl rfl ?_
                    refine z_get C 0 (by decide) rfl rfl z_it11 19 (by decide) rfl fl_11_59 rfl dX11_follows_91 ?_
                    refine z_iload C 4 dX11_follows_94 rfl ?_
                    refine z_aloadn C 0 dX11_follows_96 rfl rfl ?_
                    refine z_get C 0 (by decide) rfl rfl z_it11 14 (by decide) rfl fl_11_44 rfl dX11_follows_97 ?_
                    refine z_bipush C dX11_follows_100 (by decide) ?_
                    refine z_iloadn C 1 dX11_follows_102 rfl rfl ?_
                    refine z_imul C dX11_follows_103 ?_
                    refine z_iload C 4 dX11_follows_104 rfl ?_
                    refine z_iadd C dX11_follows_106 ?_
                    refine z_iald C 11 (by decide) rfl (by decide) (by omega) (by omega) dX11_follows_107 ?_
                    have rx390 := Ha_zones (((16 * i0) + i4) : Int).toNat
                    generalize ex390 : a_zones (((16 * i0) + i4) : Int).toNat = x390 at rx390 ⊢
                    refine z_iast C 16 (by decide) rfl (by decide) (by omega) (by omega) dX11_follows_108 ?_
                    refine z_ext (S' := (z_zm ad ks s_edges s_isNeeded s_explored s_states s_isMoved s_runs s_runTime s_runMoves w_h a_machine a_from a_to a_channel a_resets a_guards a_guardOf a_limits a_limitOf a_places a_zones a_parent a_moveE a_moveF a_moves (va_up fa_z (i4 : Int).toNat x390) fa_ahead fa_at a_amounts a_way a_moments a_runAt a_runClock)) upM_a_z ?_
                    have h391 : ∀ j, z_rg ((va_up fa_z (i4 : Int).toNat x390) j) := z_upP (P := fun j v => z_rg (v)) Hfa_z (by omega)
                    generalize (va_up fa_z (i4 : Int).toNat x390) = f392 at h391 ⊢
                    refine z_iinc (L' := [(4, z_v (i4 + 1)), (0, .ref (ad 0)), (1, z_v i0), (2, z_v e0), (3, z_v f0)]) C 4 dX11_follows_109 rfl (by decide) rfl ?_
                    refine z_goto (t := 83) C dX11_follows_112 (by decide) ?_
                    refine z_loc (L' := [(0, .ref (ad 0)), (1, z_v i0), (2, z_v e0), (3, z_v f0), (4, z_v (i4 + 1))]) [1, 2, 3, 4, 0] rfl ?_
                    exact ih83 (i4 + 1) fa_at f392 fa_ahead Hfa_at h391 Hfa_ahead (by omega) (by omega)
              refine z_loc (L' := [(0, .ref (ad 0)), (1, z_v i0), (2, z_v e0), (3, z_v f0), (4, z_v 0)]) [1, 2, 3, 4, 0] rfl ?_
              exact (L83 (((16 : Int) - 0).toNat + 1)) 0 fa_at fa_z fa_ahead Hfa_at Hfa_z Hfa_ahead (by omega) (Nat.lt_succ_self _)
            · skip
              refine z_iconst C dX11_follows_78 ?_
              rw [hQ]
              exact z_zret C hrt (by omega) dX11_follows_79 (⟨fa_at, fa_z, fa_ahead, rfl, rfl, Hfa_at, Hfa_z, Hfa_ahead, _, rfl, by omega⟩) (by omega) (by omega)
      · skip
        refine z_aloadn C 0 dX11_follows_9 rfl rfl ?_
        refine z_get C 0 (by decide) rfl rfl z_it11 21 (by decide) rfl fl_11_65 rfl dX11_follows_10 ?_
        refine z_iload C 4 dX11_follows_13 rfl ?_
        refine z_aloadn C 0 dX11_follows_15 rfl rfl ?_
        refine z_get C 0 (by decide) rfl rfl z_it11 13 (by decide) rfl fl_11_41 rfl dX11_follows_16 ?_
        refine z_iconst C dX11_follows_19 ?_
        refine z_iloadn C 1 dX11_follows_20 rfl rfl ?_
        refine z_imul C dX11_follows_21 ?_
        refine z_iload C 4 dX11_follows_22 rfl ?_
        refine z_iadd C dX11_follows_24 ?_
        refine z_iald C 10 (by decide) rfl (by decide) (by omega) (by omega) dX11_follows_25 ?_
        have rx393 := Ha_places (((3 * i0) + i4) : Int).toNat
        generalize ex393 : a_places (((3 * i0) + i4) : Int).toNat = x393 at rx393 ⊢
        refine z_iast C 18 (by decide) rfl (by decide) (by omega) (by omega) dX11_follows_26 ?_
        refine z_ext (S' := (z_zm ad ks s_edges s_isNeeded s_explored s_states s_isMoved s_runs s_runTime s_runMoves w_h a_machine a_from a_to a_channel a_resets a_guards a_guardOf a_limits a_limitOf a_places a_zones a_parent a_moveE a_moveF a_moves fa_z fa_ahead (va_up fa_at (i4 : Int).toNat x393) a_amounts a_way a_moments a_runAt a_runClock)) upM_a_at ?_
        have h394 : ∀ j, 0 ≤ (va_up fa_at (i4 : Int).toNat x393) j ∧ (va_up fa_at (i4 : Int).toNat x393) j ≤ 5 := z_upP (P := fun j v => 0 ≤ v ∧ v ≤ 5) Hfa_at (by omega)
        generalize (va_up fa_at (i4 : Int).toNat x393) = f395 at h394 ⊢
        refine z_iinc (L' := [(4, z_v (i4 + 1)), (0, .ref (ad 0)), (1, z_v i0), (2, z_v e0), (3, z_v f0)]) C 4 dX11_follows_27 rfl (by decide) rfl ?_
        refine z_goto (t := 3) C dX11_follows_30 (by decide) ?_
        refine z_loc (L' := [(0, .ref (ad 0)), (1, z_v i0), (2, z_v e0), (3, z_v f0), (4, z_v (i4 + 1))]) [1, 2, 3, 4, 0] rfl ?_
        exact ih3 (i4 + 1) f395 fa_z fa_ahead h394 Hfa_z Hfa_ahead (by omega) (by omega)
  refine z_loc (L' := [(0, .ref (ad 0)), (1, z_v i0), (2, z_v e0), (3, z_v f0), (4, z_v 0)]) [1, 2, 3, 4, 0] rfl ?_
  exact (L3 (((3 : Int) - 0).toNat + 1)) 0 a_at a_z a_ahead Ha_at Ha_z Ha_ahead (by omega) (Nat.lt_succ_self _)
set_option maxRecDepth 20000 in
theorem cm_X11_tells (l : Launch) {D : va_G} {A : Nat → Prop} {ad : Nat → Nat} {ks : z_Ks} {s_edges s_isNeeded s_explored s_states s_isMoved s_runs s_runTime s_runMoves : Int} {w_h : Int64} {a_machine a_from a_to a_channel a_resets a_guards a_guardOf a_limits a_limitOf a_places a_zones a_parent a_moveE a_moveF a_moves a_z a_ahead a_at a_amounts a_way a_moments a_runAt a_runClock : Nat → Int} {Y : Nat → Option va_E} (i0 wh : Int) (hi : 0 ≤ i0 ∧ i0 ≤ 119) (hw : 0 ≤ wh ∧ wh ≤ 6) : z_Met l yX11_tells cX11_tells 3 (some .int) 0 0 0 0 D A 24 ad ks [.ref (ad 0), z_v i0, z_v wh] (z_zm ad ks s_edges s_isNeeded s_explored s_states s_isMoved s_runs s_runTime s_runMoves w_h a_machine a_from a_to a_channel a_resets a_guards a_guardOf a_limits a_limitOf a_places a_zones a_parent a_moveE a_moveF a_moves a_z a_ahead a_at a_amounts a_way a_moments a_runAt a_runClock) Y (fun r S' Y' => S' = (z_zm ad ks s_edges s_isNeeded s_explored s_states s_isMoved s_runs s_runTime s_runMoves w_h a_machine a_from a_to a_channel a_resets a_guards a_guardOf a_limits a_limitOf a_places a_zones a_parent a_moveE a_moveF a_moves a_z a_ahead a_at a_amounts a_way a_moments a_runAt a_runClock) ∧ Y = Y' ∧ ∃ z : Int, r = some (z_v z) ∧ (True)) := by
  refine z_start2 (by decide) (Nat.le_of_ble_eq_true rfl) ?_
  intro p e R s m args below meth c Q C hRf hRc hRs hRl hQ hrt hnm
  refine z_loc (L' := [(0, .ref (ad 0)), (1, z_v i0), (2, z_v wh)]) [0, 1, 2] rfl ?_
  refine z_iloadn C 2 dX11_tells_0 rfl rfl ?_
  refine z_iconst C dX11_tells_1 ?_
  refine z_icmp_ge (t := 18) C dX11_tells_2 (by decide) (by omega) (by omega) (fun c1 => ?_) (fun c1 => ?_)
  · skip
    refine z_iloadn C 2 dX11_tells_18 rfl rfl ?_
    refine z_iconst C dX11_tells_19 ?_
    refine z_icmp_ne (t := 32) C dX11_tells_20 (by decide) (by omega) (by omega) (fun c2 => ?_) (fun c2 => ?_)
    · skip
      refine z_iloadn C 2 dX11_tells_32 rfl rfl ?_
      refine z_iconst C dX11_tells_33 ?_
      refine z_icmp_ne (t := 46) C dX11_tells_34 (by decide) (by omega) (by omega) (fun c3 => ?_) (fun c3 => ?_)
      · skip
        refine z_iloadn C 2 dX11_tells_46 rfl rfl ?_
        refine z_iconst C dX11_tells_47 ?_
        refine z_icmp_ne (t := 60) C dX11_tells_48 (by decide) (by omega) (by omega) (fun c4 => ?_) (fun c4 => ?_)
        · skip
          refine z_aloadn C 0 dX11_tells_60 rfl rfl ?_
          refine z_get C 0 (by decide) rfl rfl z_it11 18 (by decide) rfl fl_11_56 rfl dX11_tells_61 ?_
          refine z_iloadn C 1 dX11_tells_64 rfl rfl ?_
          refine z_iald C 15 (by decide) rfl (by decide) (by omega) (by omega) dX11_tells_65 ?_
          rw [hQ]
          exact z_iret C hrt dX11_tells_66 (⟨rfl, rfl, _, rfl, trivial⟩) (by omega) (by omega)
        · skip
          refine z_aloadn C 0 dX11_tells_51 rfl rfl ?_
          refine z_get C 0 (by decide) rfl rfl z_it11 17 (by decide) rfl fl_11_53 rfl dX11_tells_52 ?_
          refine z_iloadn C 1 dX11_tells_55 rfl rfl ?_
          refine z_iald C 14 (by decide) rfl (by decide) (by omega) (by omega) dX11_tells_56 ?_
          refine z_goto (t := 66) C dX11_tells_57 (by decide) ?_
          rw [hQ]
          exact z_iret C hrt dX11_tells_66 (⟨rfl, rfl, _, rfl, trivial⟩) (by omega) (by omega)
      · skip
        refine z_aloadn C 0 dX11_tells_37 rfl rfl ?_
        refine z_get C 0 (by decide) rfl rfl z_it11 16 (by decide) rfl fl_11_50 rfl dX11_tells_38 ?_
        refine z_iloadn C 1 dX11_tells_41 rfl rfl ?_
        refine z_iald C 13 (by decide) rfl (by decide) (by omega) (by omega) dX11_tells_42 ?_
        refine z_goto (t := 66) C dX11_tells_43 (by decide) ?_
        rw [hQ]
        exact z_iret C hrt dX11_tells_66 (⟨rfl, rfl, _, rfl, trivial⟩) (by omega) (by omega)
    · skip
      refine z_aloadn C 0 dX11_tells_23 rfl rfl ?_
      refine z_get C 0 (by decide) rfl rfl z_it11 15 (by decide) rfl fl_11_47 rfl dX11_tells_24 ?_
      refine z_iloadn C 1 dX11_tells_27 rfl rfl ?_
      refine z_iald C 12 (by decide) rfl (by decide) (by omega) (by omega) dX11_tells_28 ?_
      refine z_goto (t := 66) C dX11_tells_29 (by decide) ?_
      rw [hQ]
      exact z_iret C hrt dX11_tells_66 (⟨rfl, rfl, _, rfl, trivial⟩) (by omega) (by omega)
  · skip
    refine z_aloadn C 0 dX11_tells_5 rfl rfl ?_
    refine z_get C 0 (by decide) rfl rfl z_it11 13 (by decide) rfl fl_11_41 rfl dX11_tells_6 ?_
    refine z_iconst C dX11_tells_9 ?_
    refine z_iloadn C 1 dX11_tells_10 rfl rfl ?_
    refine z_imul C dX11_tells_11 ?_
    refine z_iloadn C 2 dX11_tells_12 rfl rfl ?_
    refine z_iadd C dX11_tells_13 ?_
    refine z_iald C 10 (by decide) rfl (by decide) (by omega) (by omega) dX11_tells_14 ?_
    refine z_goto (t := 66) C dX11_tells_15 (by decide) ?_
    rw [hQ]
    exact z_iret C hrt dX11_tells_66 (⟨rfl, rfl, _, rfl, trivial⟩) (by omega) (by omega)
set_option maxRecDepth 20000 in
theorem cm_X11_state (l : Launch) {D : va_G} {A : Nat → Prop} {ad : Nat → Nat} {ks : z_Ks} {s_edges s_isNeeded s_explored s_states s_isMoved s_runs s_runTime s_runMoves : Int} {w_h : Int64} {a_machine a_from a_to a_channel a_resets a_guards a_guardOf a_limits a_limitOf a_places a_zones a_parent a_moveE a_moveF a_moves a_z a_ahead a_at a_amounts a_way a_moments a_runAt a_runClock : Nat → Int} {Y : Nat → Option va_E} (i0 wh : Int) (Hs_isNeeded : (s_isNeeded = 0 ∨ s_isNeeded = 1)) (Hs_states : (0 ≤ s_states ∧ s_states ≤ 120)) (hi : z_rg i0) (hw : z_rg wh) : z_Met l yX11_state cX11_state 3 (some .int) 2 43 0 0 D A 24 ad ks [.ref (ad 0), z_v i0, z_v wh] (z_zm ad ks s_edges s_isNeeded s_explored s_states s_isMoved s_runs s_runTime s_runMoves w_h a_machine a_from a_to a_channel a_resets a_guards a_guardOf a_limits a_limitOf a_places a_zones a_parent a_moveE a_moveF a_moves a_z a_ahead a_at a_amounts a_way a_moments a_runAt a_runClock) Y (fun r S' Y' => S' = (z_zm ad ks s_edges s_isNeeded s_explored s_states s_isMoved s_runs s_runTime s_runMoves w_h a_machine a_from a_to a_channel a_resets a_guards a_guardOf a_limits a_limitOf a_places a_zones a_parent a_moveE a_moveF a_moves a_z a_ahead a_at a_amounts a_way a_moments a_runAt a_runClock) ∧ Y = Y' ∧ ∃ z : Int, r = some (z_v z) ∧ (True)) := by
  refine z_start2 (by decide) (Nat.le_of_ble_eq_true rfl) ?_
  intro p e R s m args below meth c Q C hRf hRc hRs hRl hQ hrt hnm
  refine z_loc (L' := [(0, .ref (ad 0)), (1, z_v i0), (2, z_v wh)]) [0, 1, 2] rfl ?_
  refine z_aloadn C 0 dX11_state_0 rfl rfl ?_
  refine z_get C 0 (by decide) rfl rfl z_it11 10 (by decide) rfl fl_11_37 rfl dX11_state_1 ?_
  refine z_if_eq (t := 10) C dX11_state_4 (by decide) (by omega) (fun c1 => ?_) (fun c1 => ?_)
  · skip
    refine z_aloadn C 0 dX11_state_10 rfl rfl ?_
    refine z_iloadn C 1 dX11_state_11 rfl rfl ?_
    refine z_callV C (cm_X11_isState l i0 (by omega) (by omega)) mv_11_165 (z_atS 0 11 (by decide) rfl rfl rfl) pd_X11_isState ⟨by omega, by omega⟩ ⟨by omega, by omega⟩ rfl (Nat.le_of_ble_eq_true rfl) dX11_state_12 ?_
    rintro _ _ _ ⟨rfl, rfl, z2, rfl, hz2⟩
    refine z_if_ne (t := 21) C dX11_state_15 (by decide) (by omega) (fun c3 => ?_) (fun c3 => ?_)
    · skip
      refine z_iloadn C 2 dX11_state_21 rfl rfl ?_
      refine z_iconst C dX11_state_22 ?_
      refine z_bipush C dX11_state_23 (by decide) ?_
      refine z_callS C (cm_X11_in l wh 0 6 (by omega) (by omega) (by omega)) mv_11_86 pd_X11_in ⟨by omega, by omega⟩ ⟨by omega, by omega⟩ rfl (Nat.le_of_ble_eq_true rfl) dX11_state_25 ?_
      rintro _ _ _ ⟨rfl, rfl, z4, rfl, hz4⟩
      refine z_if_eq (t := 40) C dX11_state_28 (by decide) (by omega) (fun c5 => ?_) (fun c5 => ?_)
      · skip
        refine z_bipush C dX11_state_40 (by decide) ?_
        rw [hQ]
        exact z_iret C hrt dX11_state_42 (⟨rfl, rfl, _, rfl, trivial⟩) (by omega) (by omega)
      · skip
        refine z_aloadn C 0 dX11_state_31 rfl rfl ?_
        refine z_iloadn C 1 dX11_state_32 rfl rfl ?_
        refine z_iloadn C 2 dX11_state_33 rfl rfl ?_
        refine z_callV C (cm_X11_tells l i0 wh (by omega) (by omega)) mv_11_168 (z_atS 0 11 (by decide) rfl rfl rfl) pd_X11_tells ⟨by omega, by omega⟩ ⟨by omega, by omega⟩ rfl (Nat.le_of_ble_eq_true rfl) dX11_state_34 ?_
        rintro _ _ _ ⟨rfl, rfl, z8, rfl, hz8⟩
        refine z_goto (t := 42) C dX11_state_37 (by decide) ?_
        rw [hQ]
        exact z_iret C hrt dX11_state_42 (⟨rfl, rfl, _, rfl, trivial⟩) (by omega) (by omega)
    · skip
      refine z_bipush C dX11_state_18 (by decide) ?_
      rw [hQ]
      exact z_iret C hrt dX11_state_20 (⟨rfl, rfl, _, rfl, trivial⟩) (by omega) (by omega)
  · skip
    refine z_bipush C dX11_state_7 (by decide) ?_
    rw [hQ]
    exact z_iret C hrt dX11_state_9 (⟨rfl, rfl, _, rfl, trivial⟩) (by omega) (by omega)
set_option maxRecDepth 20000 in
theorem cm_X11_bound (l : Launch) {D : va_G} {A : Nat → Prop} {ad : Nat → Nat} {ks : z_Ks} {s_edges s_isNeeded s_explored s_states s_isMoved s_runs s_runTime s_runMoves : Int} {w_h : Int64} {a_machine a_from a_to a_channel a_resets a_guards a_guardOf a_limits a_limitOf a_places a_zones a_parent a_moveE a_moveF a_moves a_z a_ahead a_at a_amounts a_way a_moments a_runAt a_runClock : Nat → Int} {Y : Nat → Option va_E} (i0 x y : Int) (Hs_isNeeded : (s_isNeeded = 0 ∨ s_isNeeded = 1)) (Hs_states : (0 ≤ s_states ∧ s_states ≤ 120)) (hi : z_rg i0) (hx : z_rg x) (hy : z_rg y) : z_Met l yX11_bound cX11_bound 4 (some .int) 2 43 0 0 D A 24 ad ks [.ref (ad 0), z_v i0, z_v x, z_v y] (z_zm ad ks s_edges s_isNeeded s_explored s_states s_isMoved s_runs s_runTime s_runMoves w_h a_machine a_from a_to a_channel a_resets a_guards a_guardOf a_limits a_limitOf a_places a_zones a_parent a_moveE a_moveF a_moves a_z a_ahead a_at a_amounts a_way a_moments a_runAt a_runClock) Y (fun r S' Y' => S' = (z_zm ad ks s_edges s_isNeeded s_explored s_states s_isMoved s_runs s_runTime s_runMoves w_h a_machine a_from a_to a_channel a_resets a_guards a_guardOf a_limits a_limitOf a_places a_zones a_parent a_moveE a_moveF a_moves a_z a_ahead a_at a_amounts a_way a_moments a_runAt a_runClock) ∧ Y = Y' ∧ ∃ z : Int, r = some (z_v z) ∧ (True)) := by
  refine z_start2 (by decide) (Nat.le_of_ble_eq_true rfl) ?_
  intro p e R s m args below meth c Q C hRf hRc hRs hRl hQ hrt hnm
  refine z_loc (L' := [(0, .ref (ad 0)), (1, z_v i0), (2, z_v x), (3, z_v y)]) [0, 1, 2, 3] rfl ?_
  refine z_aloadn C 0 dX11_bound_0 rfl rfl ?_
  refine z_get C 0 (by decide) rfl rfl z_it11 10 (by decide) rfl fl_11_37 rfl dX11_bound_1 ?_
  refine z_if_eq (t := 10) C dX11_bound_4 (by decide) (by omega) (fun c1 => ?_) (fun c1 => ?_)
  · skip
    refine z_aloadn C 0 dX11_bound_10 rfl rfl ?_
    refine z_iloadn C 1 dX11_bound_11 rfl rfl ?_
    refine z_callV C (cm_X11_isState l i0 (by omega) (by omega)) mv_11_165 (z_atS 0 11 (by decide) rfl rfl rfl) pd_X11_isState ⟨by omega, by omega⟩ ⟨by omega, by omega⟩ rfl (Nat.le_of_ble_eq_true rfl) dX11_bound_12 ?_
    rintro _ _ _ ⟨rfl, rfl, z2, rfl, hz2⟩
    refine z_if_eq (t := 36) C dX11_bound_15 (by decide) (by omega) (fun c3 => ?_) (fun c3 => ?_)
    · skip
      refine z_ldc (n := 100002) C kc_11_172 (by decide) dX11_bound_36 ?_
      rw [hQ]
      exact z_iret C hrt dX11_bound_38 (⟨rfl, rfl, _, rfl, trivial⟩) (by omega) (by omega)
    · skip
      refine z_iloadn C 2 dX11_bound_18 rfl rfl ?_
      refine z_iconst C dX11_bound_19 ?_
      refine z_iconst C dX11_bound_20 ?_
      refine z_callS C (cm_X11_in l x 0 3 (by omega) (by omega) (by omega)) mv_11_86 pd_X11_in ⟨by omega, by omega⟩ ⟨by omega, by omega⟩ rfl (Nat.le_of_ble_eq_true rfl) dX11_bound_21 ?_
      rintro _ _ _ ⟨rfl, rfl, z4, rfl, hz4⟩
      refine z_if_eq (t := 36) C dX11_bound_24 (by decide) (by omega) (fun c5 => ?_) (fun c5 => ?_)
      · skip
        refine z_ldc (n := 100002) C kc_11_172 (by decide) dX11_bound_36 ?_
        rw [hQ]
        exact z_iret C hrt dX11_bound_38 (⟨rfl, rfl, _, rfl, trivial⟩) (by omega) (by omega)
      · skip
        refine z_iloadn C 3 dX11_bound_27 rfl rfl ?_
        refine z_iconst C dX11_bound_28 ?_
        refine z_iconst C dX11_bound_29 ?_
        refine z_callS C (cm_X11_in l y 0 3 (by omega) (by omega) (by omega)) mv_11_86 pd_X11_in ⟨by omega, by omega⟩ ⟨by omega, by omega⟩ rfl (Nat.le_of_ble_eq_true rfl) dX11_bound_30 ?_
        rintro _ _ _ ⟨rfl, rfl, z6, rfl, hz6⟩
        refine z_if_ne (t := 39) C dX11_bound_33 (by decide) (by omega) (fun c7 => ?_) (fun c7 => ?_)
        · skip
          refine z_aloadn C 0 dX11_bound_39 rfl rfl ?_
          refine z_get C 0 (by decide) rfl rfl z_it11 14 (by decide) rfl fl_11_44 rfl dX11_bound_40 ?_
          refine z_bipush C dX11_bound_43 (by decide) ?_
          refine z_iloadn C 1 dX11_bound_45 rfl rfl ?_
          refine z_imul C dX11_bound_46 ?_
          refine z_iconst C dX11_bound_47 ?_
          refine z_iloadn C 2 dX11_bound_48 rfl rfl ?_
          refine z_imul C dX11_bound_49 ?_
          refine z_iadd C dX11_bound_50 ?_
          refine z_iloadn C 3 dX11_bound_51 rfl rfl ?_
          refine z_iadd C dX11_bound_52 ?_
          refine z_iald C 11 (by decide) rfl (by decide) (by omega) (by omega) dX11_bound_53 ?_
          rw [hQ]
          exact z_iret C hrt dX11_bound_54 (⟨rfl, rfl, _, rfl, trivial⟩) (by omega) (by omega)
        · skip
          refine z_ldc (n := 100002) C kc_11_172 (by decide) dX11_bound_36 ?_
          rw [hQ]
          exact z_iret C hrt dX11_bound_38 (⟨rfl, rfl, _, rfl, trivial⟩) (by omega) (by omega)
  · skip
    refine z_ldc (n := 100001) C kc_11_171 (by decide) dX11_bound_7 ?_
    rw [hQ]
    exact z_iret C hrt dX11_bound_9 (⟨rfl, rfl, _, rfl, trivial⟩) (by omega) (by omega)
set_option maxRecDepth 20000 in
theorem cm_X11_reach (l : Launch) {D : va_G} {A : Nat → Prop} {ad : Nat → Nat} {ks : z_Ks} {s_edges s_isNeeded s_explored s_states s_isMoved s_runs s_runTime s_runMoves : Int} {w_h : Int64} {a_machine a_from a_to a_channel a_resets a_guards a_guardOf a_limits a_limitOf a_places a_zones a_parent a_moveE a_moveF a_moves a_z a_ahead a_at a_amounts a_way a_moments a_runAt a_runClock : Nat → Int} {Y : Nat → Option va_E} (a b c0 : Int) (Hs_isNeeded : (s_isNeeded = 0 ∨ s_isNeeded = 1)) (Hs_states : (0 ≤ s_states ∧ s_states ≤ 120)) (Ha_places : (∀ j, 0 ≤ a_places j ∧ a_places j ≤ 5)) (ha : z_rg a) (hb : z_rg b) (hc : z_rg c0) : z_Met l yX11_reach cX11_reach 5 (some .int) 1 22 0 0 D A 24 ad ks [.ref (ad 0), z_v a, z_v b, z_v c0] (z_zm ad ks s_edges s_isNeeded s_explored s_states s_isMoved s_runs s_runTime s_runMoves w_h a_machine a_from a_to a_channel a_resets a_guards a_guardOf a_limits a_limitOf a_places a_zones a_parent a_moveE a_moveF a_moves a_z a_ahead a_at a_amounts a_way a_moments a_runAt a_runClock) Y (fun r S' Y' => S' = (z_zm ad ks s_edges s_isNeeded s_explored s_states s_isMoved s_runs s_runTime s_runMoves w_h a_machine a_from a_to a_channel a_resets a_guards a_guardOf a_limits a_limitOf a_places a_zones a_parent a_moveE a_moveF a_moves a_z a_ahead a_at a_amounts a_way a_moments a_runAt a_runClock) ∧ Y = Y' ∧ ∃ z : Int, r = some (z_v z) ∧ (True)) := by
  refine z_start2 (by decide) (Nat.le_of_ble_eq_true rfl) ?_
  intro p e R s m args below meth c Q C hRf hRc hRs hRl hQ hrt hnm
  refine z_loc (L' := [(0, .ref (ad 0)), (1, z_v a), (2, z_v b), (3, z_v c0)]) [0, 1, 2, 3] rfl ?_
  refine z_aloadn C 0 dX11_reach_0 rfl rfl ?_
  refine z_get C 0 (by decide) rfl rfl z_it11 10 (by decide) rfl fl_11_37 rfl dX11_reach_1 ?_
  refine z_if_eq (t := 10) C dX11_reach_4 (by decide) (by omega) (fun c1 => ?_) (fun c1 => ?_)
  · skip
    refine z_iloadn C 1 dX11_reach_10 rfl rfl ?_
    refine z_iconst C dX11_reach_11 ?_
    refine z_iconst C dX11_reach_12 ?_
    refine z_callS C (cm_X11_in l a (-1) 5 (by omega) (by omega) (by omega)) mv_11_86 pd_X11_in ⟨by omega, by omega⟩ ⟨by omega, by omega⟩ rfl (Nat.le_of_ble_eq_true rfl) dX11_reach_13 ?_
    rintro _ _ _ ⟨rfl, rfl, z2, rfl, hz2⟩
    refine z_if_eq (t := 37) C dX11_reach_16 (by decide) (by omega) (fun c3 => ?_) (fun c3 => ?_)
    · skip
      refine z_bipush C dX11_reach_37 (by decide) ?_
      rw [hQ]
      exact z_iret C hrt dX11_reach_39 (⟨rfl, rfl, _, rfl, trivial⟩) (by omega) (by omega)
    · skip
      refine z_iloadn C 2 dX11_reach_19 rfl rfl ?_
      refine z_iconst C dX11_reach_20 ?_
      refine z_iconst C dX11_reach_21 ?_
      refine z_callS C (cm_X11_in l b (-1) 5 (by omega) (by omega) (by omega)) mv_11_86 pd_X11_in ⟨by omega, by omega⟩ ⟨by omega, by omega⟩ rfl (Nat.le_of_ble_eq_true rfl) dX11_reach_22 ?_
      rintro _ _ _ ⟨rfl, rfl, z4, rfl, hz4⟩
      refine z_if_eq (t := 37) C dX11_reach_25 (by decide) (by omega) (fun c5 => ?_) (fun c5 => ?_)
      · skip
        refine z_bipush C dX11_reach_37 (by decide) ?_
        rw [hQ]
        exact z_iret C hrt dX11_reach_39 (⟨rfl, rfl, _, rfl, trivial⟩) (by omega) (by omega)
      · skip
        refine z_iloadn C 3 dX11_reach_28 rfl rfl ?_
        refine z_iconst C dX11_reach_29 ?_
        refine z_iconst C dX11_reach_30 ?_
        refine z_callS C (cm_X11_in l c0 (-1) 5 (by omega) (by omega) (by omega)) mv_11_86 pd_X11_in ⟨by omega, by omega⟩ ⟨by omega, by omega⟩ rfl (Nat.le_of_ble_eq_true rfl) dX11_reach_31 ?_
        rintro _ _ _ ⟨rfl, rfl, z6, rfl, hz6⟩
        refine z_if_ne (t := 40) C dX11_reach_34 (by decide) (by omega) (fun c7 => ?_) (fun c7 => ?_)
        · skip
          refine z_iconst C dX11_reach_40 ?_
          refine z_istore (L' := [(4, z_v 0), (0, .ref (ad 0)), (1, z_v a), (2, z_v b), (3, z_v c0)]) C dX11_reach_41 (by decide) rfl ?_
          have L43 : ∀ (n : Nat), ∀ (i4 : Int), (0 ≤ i4 ∧ i4 ≤ 120) → ((120 : Int) - i4).toNat < n → z_V p l e R s m args below meth c Q D A 24 ad 5 (z_zm ad ks s_edges s_isNeeded s_explored s_states s_isMoved s_runs s_runTime s_runMoves w_h a_machine a_from a_to a_channel a_resets a_guards a_guardOf a_limits a_limitOf a_places a_zones a_parent a_moveE a_moveF a_moves a_z a_ahead a_at a_amounts a_way a_moments a_runAt a_runClock) Y 0 0 43 [(0, .ref (ad 0)), (1, z_v a), (2, z_v b), (3, z_v c0), (4, z_v i4)] [] := by
            intro n
            induction n with
            | zero => intro i4 I4 hm; exact absurd hm (Nat.not_lt_zero _)
            | succ n ih43 =>
              intro i4 I4 hm
              refine z_iload C 4 dX11_reach_43 rfl ?_
              refine z_aloadn C 0 dX11_reach_45 rfl rfl ?_
              refine z_get C 0 (by decide) rfl rfl z_it11 12 (by decide) rfl fl_11_94 rfl dX11_reach_46 ?_
              refine z_icmp_ge (t := 116) C dX11_reach_49 (by decide) (by omega) (by omega) (fun c8 => ?_) (fun c8 => ?_)
              · skip
                refine z_iconst C dX11_reach_116 ?_
                rw [hQ]
                exact z_iret C hrt dX11_reach_117 (⟨rfl, rfl, _, rfl, trivial⟩) (by omega) (by omega)
              · skip
                refine z_iloadn C 1 dX11_reach_52 rfl rfl ?_
                refine z_if_lt (t := 69) C dX11_reach_53 (by decide) (by omega) (fun c9 => ?_) (fun c9 => ?_)
                · skip
                  refine z_iloadn C 2 dX11_reach_69 rfl rfl ?_
                  refine z_if_lt (t := 88) C dX11_reach_70 (by decide) (by omega) (fun c10 => ?_) (fun c10 => ?_)
                  · skip
                    refine z_iloadn C 3 dX11_reach_88 rfl rfl ?_
                    refine z_if_lt (t := 107) C dX11_reach_89 (by decide) (by omega) (fun c11 => ?_) (fun c11 => ?_)
                    · skip
                      refine z_iload C 4 dX11_reach_107 rfl ?_
                      rw [hQ]
                      exact z_iret C hrt dX11_reach_109 (⟨rfl, rfl, _, rfl, trivial⟩) (by omega) (by omega)
                    · skip
                      refine z_aloadn C 0 dX11_reach_92 rfl rfl ?_
                      refine z_get C 0 (by decide) rfl rfl z_it11 13 (by decide) rfl fl_11_41 rfl dX11_reach_93 ?_
                      refine z_iconst C dX11_reach_96 ?_
                      refine z_iload C 4 dX11_reach_97 rfl ?_
                      refine z_imul C dX11_reach_99 ?_
                      refine z_iconst C dX11_reach_100 ?_
                      refine z_iadd C dX11_reach_101 ?_
                      refine z_iald C 10 (by decide) rfl (by decide) (by omega) (by omega) dX11_reach_102 ?_
                      have rx12 := Ha_places (((3 * i4) + 2) : Int).toNat
                      generalize ex12 : a_places (((3 * i4) + 2) : Int).toNat = x12 at rx12 ⊢
                      refine z_iloadn C 3 dX11_reach_103 rfl rfl ?_
                      refine z_icmp_ne (t := 110) C dX11_reach_104 (by decide) (by omega) (by omega) (fun c13 => ?_) (fun c13 => ?_)
                      · skip
                        refine z_iinc (L' := [(4, z_v (i4 + 1)), (0, .ref (ad 0)), (1, z_v a), (2, z_v b), (3, z_v c0)]) C 4 dX11_reach_110 rfl (by decide) rfl ?_
                        refine z_goto (t := 43) C dX11_reach_113 (by decide) ?_
                        refine z_loc (L' := [(0, .ref (ad 0)), (1, z_v a), (2, z_v b), (3, z_v c0), (4, z_v (i4 + 1))]) [1, 2, 3, 4, 0] rfl ?_
                        exact ih43 (i4 + 1) (by omega) (by omega)
                      · skip
                        refine z_iload C 4 dX11_reach_107 rfl ?_
                        rw [hQ]
                        exact z_iret C hrt dX11_reach_109 (⟨rfl, rfl, _, rfl, trivial⟩) (by omega) (by omega)
                  · skip
                    refine z_aloadn C 0 dX11_reach_73 rfl rfl ?_
                    refine z_get C 0 (by decide) rfl rfl z_it11 13 (by decide) rfl fl_11_41 rfl dX11_reach_74 ?_
                    refine z_iconst C dX11_reach_77 ?_
                    refine z_iload C 4 dX11_reach_78 rfl ?_
                    refine z_imul C dX11_reach_80 ?_
                    refine z_iconst C dX11_reach_81 ?_
                    refine z_iadd C dX11_reach_82 ?_
                    refine z_iald C 10 (by decide) rfl (by decide) (by omega) (by omega) dX11_reach_83 ?_
                    have rx14 := Ha_places (((3 * i4) + 1) : Int).toNat
                    generalize ex14 : a_places (((3 * i4) + 1) : Int).toNat = x14 at rx14 ⊢
                    refine z_iloadn C 2 dX11_reach_84 rfl rfl ?_
                    refine z_icmp_ne (t := 110) C dX11_reach_85 (by decide) (by omega) (by omega) (fun c15 => ?_) (fun c15 => ?_)
                    · skip
                      refine z_iinc (L' := [(4, z_v (i4 + 1)), (0, .ref (ad 0)), (1, z_v a), (2, z_v b), (3, z_v c0)]) C 4 dX11_reach_110 rfl (by decide) rfl ?_
                      refine z_goto (t := 43) C dX11_reach_113 (by decide) ?_
                      refine z_loc (L' := [(0, .ref (ad 0)), (1, z_v a), (2, z_v b), (3, z_v c0), (4, z_v (i4 + 1))]) [1, 2, 3, 4, 0] rfl ?_
                      exact ih43 (i4 + 1) (by omega) (by omega)
                    · skip
                      refine z_iloadn C 3 dX11_reach_88 rfl rfl ?_
                      refine z_if_lt (t := 107) C dX11_reach_89 (by decide) (by omega) (fun c16 => ?_) (fun c16 => ?_)
                      · skip
                        refine z_iload C 4 dX11_reach_107 rfl ?_
                        rw [hQ]
                        exact z_iret C hrt dX11_reach_109 (⟨rfl, rfl, _, rfl, trivial⟩) (by omega) (by omega)
                      · skip
                        refine z_aloadn C 0 dX11_reach_92 rfl rfl ?_
                        refine z_get C 0 (by decide) rfl rfl z_it11 13 (by decide) rfl fl_11_41 rfl dX11_reach_93 ?_
                        refine z_iconst C dX11_reach_96 ?_
                        refine z_iload C 4 dX11_reach_97 rfl ?_
                        refine z_imul C dX11_reach_99 ?_
                        refine z_iconst C dX11_reach_100 ?_
                        refine z_iadd C dX11_reach_101 ?_
                        refine z_iald C 10 (by decide) rfl (by decide) (by omega) (by omega) dX11_reach_102 ?_
                        have rx17 := Ha_places (((3 * i4) + 2) : Int).toNat
                        generalize ex17 : a_places (((3 * i4) + 2) : Int).toNat = x17 at rx17 ⊢
                        refine z_iloadn C 3 dX11_reach_103 rfl rfl ?_
                        refine z_icmp_ne (t := 110) C dX11_reach_104 (by decide) (by omega) (by omega) (fun c18 => ?_) (fun c18 => ?_)
                        · skip
                          refine z_iinc (L' := [(4, z_v (i4 + 1)), (0, .ref (ad 0)), (1, z_v a), (2, z_v b), (3, z_v c0)]) C 4 dX11_reach_110 rfl (by decide) rfl ?_
                          refine z_goto (t := 43) C dX11_reach_113 (by decide) ?_
                          refine z_loc (L' := [(0, .ref (ad 0)), (1, z_v a), (2, z_v b), (3, z_v c0), (4, z_v (i4 + 1))]) [1, 2, 3, 4, 0] rfl ?_
                          exact ih43 (i4 + 1) (by omega) (by omega)
                        · skip
                          refine z_iload C 4 dX11_reach_107 rfl ?_
                          rw [hQ]
                          exact z_iret C hrt dX11_reach_109 (⟨rfl, rfl, _, rfl, trivial⟩) (by omega) (by omega)
                · skip
                  refine z_aloadn C 0 dX11_reach_56 rfl rfl ?_
                  refine z_get C 0 (by decide) rfl rfl z_it11 13 (by decide) rfl fl_11_41 rfl dX11_reach_57 ?_
                  refine z_iconst C dX11_reach_60 ?_
                  refine z_iload C 4 dX11_reach_61 rfl ?_
                  refine z_imul C dX11_reach_63 ?_
                  refine z_iald C 10 (by decide) rfl (by decide) (by omega) (by omega) dX11_reach_64 ?_
                  have rx19 := Ha_places ((3 * i4) : Int).toNat
                  generalize ex19 : a_places ((3 * i4) : Int).toNat = x19 at rx19 ⊢
                  refine z_iloadn C 1 dX11_reach_65 rfl rfl ?_
                  refine z_icmp_ne (t := 110) C dX11_reach_66 (by decide) (by omega) (by omega) (fun c20 => ?_) (fun c20 => ?_)
                  · skip
                    refine z_iinc (L' := [(4, z_v (i4 + 1)), (0, .ref (ad 0)), (1, z_v a), (2, z_v b), (3, z_v c0)]) C 4 dX11_reach_110 rfl (by decide) rfl ?_
                    refine z_goto (t := 43) C dX11_reach_113 (by decide) ?_
                    refine z_loc (L' := [(0, .ref (ad 0)), (1, z_v a), (2, z_v b), (3, z_v c0), (4, z_v (i4 + 1))]) [1, 2, 3, 4, 0] rfl ?_
                    exact ih43 (i4 + 1) (by omega) (by omega)
                  · skip
                    refine z_iloadn C 2 dX11_reach_69 rfl rfl ?_
                    refine z_if_lt (t := 88) C dX11_reach_70 (by decide) (by omega) (fun c21 => ?_) (fun c21 => ?_)
                    · skip
                      refine z_iloadn C 3 dX11_reach_88 rfl rfl ?_
                      refine z_if_lt (t := 107) C dX11_reach_89 (by decide) (by omega) (fun c22 => ?_) (fun c22 => ?_)
                      · skip
                        refine z_iload C 4 dX11_reach_107 rfl ?_
                        rw [hQ]
                        exact z_iret C hrt dX11_reach_109 (⟨rfl, rfl, _, rfl, trivial⟩) (by omega) (by omega)
                      · skip
                        refine z_aloadn C 0 dX11_reach_92 rfl rfl ?_
                        refine z_get C 0 (by decide) rfl rfl z_it11 13 (by decide) rfl fl_11_41 rfl dX11_reach_93 ?_
                        refine z_iconst C dX11_reach_96 ?_
                        refine z_iload C 4 dX11_reach_97 rfl ?_
                        refine z_imul C dX11_reach_99 ?_
                        refine z_iconst C dX11_reach_100 ?_
                        refine z_iadd C dX11_reach_101 ?_
                        refine z_iald C 10 (by decide) rfl (by decide) (by omega) (by omega) dX11_reach_102 ?_
                        have rx23 := Ha_places (((3 * i4) + 2) : Int).toNat
                        generalize ex23 : a_places (((3 * i4) + 2) : Int).toNat = x23 at rx23 ⊢
                        refine z_iloadn C 3 dX11_reach_103 rfl rfl ?_
                        refine z_icmp_ne (t := 110) C dX11_reach_104 (by decide) (by omega) (by omega) (fun c24 => ?_) (fun c24 => ?_)
                        · skip
                          refine z_iinc (L' := [(4, z_v (i4 + 1)), (0, .ref (ad 0)), (1, z_v a), (2, z_v b), (3, z_v c0)]) C 4 dX11_reach_110 rfl (by decide) rfl ?_
                          refine z_goto (t := 43) C dX11_reach_113 (by decide) ?_
                          refine z_loc (L' := [(0, .ref (ad 0)), (1, z_v a), (2, z_v b), (3, z_v c0), (4, z_v (i4 + 1))]) [1, 2, 3, 4, 0] rfl ?_
                          exact ih43 (i4 + 1) (by omega) (by omega)
                        · skip
                          refine z_iload C 4 dX11_reach_107 rfl ?_
                          rw [hQ]
                          exact z_iret C hrt dX11_reach_109 (⟨rfl, rfl, _, rfl, trivial⟩) (by omega) (by omega)
                    · skip
                      refine z_aloadn C 0 dX11_reach_73 rfl rfl ?_
                      refine z_get C 0 (by decide) rfl rfl z_it11 13 (by decide) rfl fl_11_41 rfl dX11_reach_74 ?_
                      refine z_iconst C dX11_reach_77 ?_
                      refine z_iload C 4 dX11_reach_78 rfl ?_
                      refine z_imul C dX11_reach_80 ?_
                      refine z_iconst C dX11_reach_81 ?_
                      refine z_iadd C dX11_reach_82 ?_
                      refine z_iald C 10 (by decide) rfl (by decide) (by omega) (by omega) dX11_reach_83 ?_
                      have rx25 := Ha_places (((3 * i4) + 1) : Int).toNat
                      generalize ex25 : a_places (((3 * i4) + 1) : Int).toNat = x25 at rx25 ⊢
                      refine z_iloadn C 2 dX11_reach_84 rfl rfl ?_
                      refine z_icmp_ne (t := 110) C dX11_reach_85 (by decide) (by omega) (by omega) (fun c26 => ?_) (fun c26 => ?_)
                      · skip
                        refine z_iinc (L' := [(4, z_v (i4 + 1)), (0, .ref (ad 0)), (1, z_v a), (2, z_v b), (3, z_v c0)]) C 4 dX11_reach_110 rfl (by decide) rfl ?_
                        refine z_goto (t := 43) C dX11_reach_113 (by decide) ?_
                        refine z_loc (L' := [(0, .ref (ad 0)), (1, z_v a), (2, z_v b), (3, z_v c0), (4, z_v (i4 + 1))]) [1, 2, 3, 4, 0] rfl ?_
                        exact ih43 (i4 + 1) (by omega) (by omega)
                      · skip
                        refine z_iloadn C 3 dX11_reach_88 rfl rfl ?_
                        refine z_if_lt (t := 107) C dX11_reach_89 (by decide) (by omega) (fun c27 => ?_) (fun c27 => ?_)
                        · skip
                          refine z_iload C 4 dX11_reach_107 rfl ?_
                          rw [hQ]
                          exact z_iret C hrt dX11_reach_109 (⟨rfl, rfl, _, rfl, trivial⟩) (by omega) (by omega)
                        · skip
                          refine z_aloadn C 0 dX11_reach_92 rfl rfl ?_
                          refine z_get C 0 (by decide) rfl rfl z_it11 13 (by decide) rfl fl_11_41 rfl dX11_reach_93 ?_
                          refine z_iconst C dX11_reach_96 ?_
                          refine z_iload C 4 dX11_reach_97 rfl ?_
                          refine z_imul C dX11_reach_99 ?_
                          refine z_iconst C dX11_reach_100 ?_
                          refine z_iadd C dX11_reach_101 ?_
                          refine z_iald C 10 (by decide) rfl (by decide) (by omega) (by omega) dX11_reach_102 ?_
                          have rx28 := Ha_places (((3 * i4) + 2) : Int).toNat
                          generalize ex28 : a_places (((3 * i4) + 2) : Int).toNat = x28 at rx28 ⊢
                          refine z_iloadn C 3 dX11_reach_103 rfl rfl ?_
                          refine z_icmp_ne (t := 110) C dX11_reach_104 (by decide) (by omega) (by omega) (fun c29 => ?_) (fun c29 => ?_)
                          · skip
                            refine z_iinc (L' := [(4, z_v (i4 + 1)), (0, .ref (ad 0)), (1, z_v a), (2, z_v b), (3, z_v c0)]) C 4 dX11_reach_110 rfl (by decide) rfl ?_
                            refine z_goto (t := 43) C dX11_reach_113 (by decide) ?_
                            refine z_loc (L' := [(0, .ref (ad 0)), (1, z_v a), (2, z_v b), (3, z_v c0), (4, z_v (i4 + 1))]) [1, 2, 3, 4, 0] rfl ?_
                            exact ih43 (i4 + 1) (by omega) (by omega)
                          · skip
                            refine z_iload C 4 dX11_reach_107 rfl ?_
                            rw [hQ]
                            exact z_iret C hrt dX11_reach_109 (⟨rfl, rfl, _, rfl, trivial⟩) (by omega) (by omega)
          refine z_loc (L' := [(0, .ref (ad 0)), (1, z_v a), (2, z_v b), (3, z_v c0), (4, z_v 0)]) [1, 2, 3, 4, 0] rfl ?_
          exact (L43 (((120 : Int) - 0).toNat + 1)) 0 (by omega) (Nat.lt_succ_self _)
        · skip
          refine z_bipush C dX11_reach_37 (by decide) ?_
          rw [hQ]
          exact z_iret C hrt dX11_reach_39 (⟨rfl, rfl, _, rfl, trivial⟩) (by omega) (by omega)
  · skip
    refine z_bipush C dX11_reach_7 (by decide) ?_
    rw [hQ]
    exact z_iret C hrt dX11_reach_9 (⟨rfl, rfl, _, rfl, trivial⟩) (by omega) (by omega)
set_option maxRecDepth 20000 in
theorem cm_X11_holds (l : Launch) {D : va_G} {A : Nat → Prop} {ad : Nat → Nat} {ks : z_Ks} {s_edges s_isNeeded s_explored s_states s_isMoved s_runs s_runTime s_runMoves : Int} {w_h : Int64} {a_machine a_from a_to a_channel a_resets a_guards a_guardOf a_limits a_limitOf a_places a_zones a_parent a_moveE a_moveF a_moves a_z a_ahead a_at a_amounts a_way a_moments a_runAt a_runClock : Nat → Int} {Y : Nat → Option va_E} (i0 : Int) (Ha_zones : (∀ j, z_rg (a_zones j))) (Ha_amounts : (∀ j, 0 ≤ a_amounts j ∧ a_amounts j ≤ 1064000)) (hi : 0 ≤ i0 ∧ i0 ≤ 119) : z_Met l yX11_holds cX11_holds 7 (some .boolean) 0 0 0 0 D A 24 ad ks [.ref (ad 0), z_v i0] (z_zm ad ks s_edges s_isNeeded s_explored s_states s_isMoved s_runs s_runTime s_runMoves w_h a_machine a_from a_to a_channel a_resets a_guards a_guardOf a_limits a_limitOf a_places a_zones a_parent a_moveE a_moveF a_moves a_z a_ahead a_at a_amounts a_way a_moments a_runAt a_runClock) Y (fun r S' Y' => S' = (z_zm ad ks s_edges s_isNeeded s_explored s_states s_isMoved s_runs s_runTime s_runMoves w_h a_machine a_from a_to a_channel a_resets a_guards a_guardOf a_limits a_limitOf a_places a_zones a_parent a_moveE a_moveF a_moves a_z a_ahead a_at a_amounts a_way a_moments a_runAt a_runClock) ∧ Y = Y' ∧ ∃ z : Int, r = some (z_v z) ∧ (z = 0 ∨ z = 1)) := by
  refine z_start2 (by decide) (Nat.le_of_ble_eq_true rfl) ?_
  intro p e R s m args below meth c Q C hRf hRc hRs hRl hQ hrt hnm
  refine z_loc (L' := [(0, .ref (ad 0)), (1, z_v i0)]) [0, 1] rfl ?_
  refine z_iconst C dX11_holds_0 ?_
  refine z_istoren (L' := [(2, z_v 1), (0, .ref (ad 0)), (1, z_v i0)]) C dX11_holds_1 rfl (by decide) rfl ?_
  refine z_iconst C dX11_holds_2 ?_
  refine z_istoren (L' := [(3, z_v 0), (2, z_v 1), (0, .ref (ad 0)), (1, z_v i0)]) C dX11_holds_3 rfl (by decide) rfl ?_
  have L4 : ∀ (n : Nat), ∀ (i2 : Int) (i3 : Int), (0 ≤ i3 ∧ i3 ≤ 4) → (i2 = 0 ∨ i2 = 1) → ((4 : Int) - i3).toNat < n → z_V p l e R s m args below meth c Q D A 24 ad 7 (z_zm ad ks s_edges s_isNeeded s_explored s_states s_isMoved s_runs s_runTime s_runMoves w_h a_machine a_from a_to a_channel a_resets a_guards a_guardOf a_limits a_limitOf a_places a_zones a_parent a_moveE a_moveF a_moves a_z a_ahead a_at a_amounts a_way a_moments a_runAt a_runClock) Y 0 0 4 [(0, .ref (ad 0)), (1, z_v i0), (2, z_v i2), (3, z_v i3)] [] := by
    intro n
    induction n with
    | zero => intro i2 i3 I3 B2 hm; exact absurd hm (Nat.not_lt_zero _)
    | succ n ih4 =>
      intro i2 i3 I3 B2 hm
      refine z_iloadn C 3 dX11_holds_4 rfl rfl ?_
      refine z_iconst C dX11_holds_5 ?_
      refine z_icmp_ge (t := 107) C dX11_holds_6 (by decide) (by omega) (by omega) (fun c1 => ?_) (fun c1 => ?_)
      · skip
        refine z_iloadn C 2 dX11_holds_107 rfl rfl ?_
        rw [hQ]
        exact z_zret C hrt (by omega) dX11_holds_108 (⟨rfl, rfl, _, rfl, by omega⟩) (by omega) (by omega)
      · skip
        refine z_iconst C dX11_holds_9 ?_
        refine z_istore (L' := [(4, z_v 0), (0, .ref (ad 0)), (1, z_v i0), (2, z_v i2), (3, z_v i3)]) C dX11_holds_10 (by decide) rfl ?_
        have L12 : ∀ (n : Nat), ∀ (i2 : Int) (i4 : Int), (0 ≤ i4 ∧ i4 ≤ 4) → (i2 = 0 ∨ i2 = 1) → ((4 : Int) - i4).toNat < n → z_V p l e R s m args below meth c Q D A 24 ad 7 (z_zm ad ks s_edges s_isNeeded s_explored s_states s_isMoved s_runs s_runTime s_runMoves w_h a_machine a_from a_to a_channel a_resets a_guards a_guardOf a_limits a_limitOf a_places a_zones a_parent a_moveE a_moveF a_moves a_z a_ahead a_at a_amounts a_way a_moments a_runAt a_runClock) Y 0 0 12 [(0, .ref (ad 0)), (1, z_v i0), (2, z_v i2), (3, z_v i3), (4, z_v i4)] [] := by
          intro n
          induction n with
          | zero => intro i2 i4 I4 B2 hm; exact absurd hm (Nat.not_lt_zero _)
          | succ n ih12 =>
            intro i2 i4 I4 B2 hm
            refine z_iload C 4 dX11_holds_12 rfl ?_
            refine z_iconst C dX11_holds_14 ?_
            refine z_icmp_ge (t := 101) C dX11_holds_15 (by decide) (by omega) (by omega) (fun c2 => ?_) (fun c2 => ?_)
            · skip
              refine z_iinc (L' := [(3, z_v (i3 + 1)), (0, .ref (ad 0)), (1, z_v i0), (2, z_v i2), (4, z_v i4)]) C 3 dX11_holds_101 rfl (by decide) rfl ?_
              refine z_goto (t := 4) C dX11_holds_104 (by decide) ?_
              refine z_loc (L' := [(0, .ref (ad 0)), (1, z_v i0), (2, z_v i2), (3, z_v (i3 + 1))]) [1, 2, 3, 0] rfl ?_
              exact ih4 i2 (i3 + 1) (by omega) (by omega) (by omega)
            · skip
              refine z_aloadn C 0 dX11_holds_18 rfl rfl ?_
              refine z_get C 0 (by decide) rfl rfl z_it11 14 (by decide) rfl fl_11_44 rfl dX11_holds_19 ?_
              refine z_bipush C dX11_holds_22 (by decide) ?_
              refine z_iloadn C 1 dX11_holds_24 rfl rfl ?_
              refine z_imul C dX11_holds_25 ?_
              refine z_iconst C dX11_holds_26 ?_
              refine z_iloadn C 3 dX11_holds_27 rfl rfl ?_
              refine z_imul C dX11_holds_28 ?_
              refine z_iadd C dX11_holds_29 ?_
              refine z_iload C 4 dX11_holds_30 rfl ?_
              refine z_iadd C dX11_holds_32 ?_
              refine z_iald C 11 (by decide) rfl (by decide) (by omega) (by omega) dX11_holds_33 ?_
              have rx3 := Ha_zones ((((16 * i0) + (4 * i3)) + i4) : Int).toNat
              generalize ex3 : a_zones ((((16 * i0) + (4 * i3)) + i4) : Int).toNat = x3 at rx3 ⊢
              refine z_istore (L' := [(5, z_v x3), (0, .ref (ad 0)), (1, z_v i0), (2, z_v i2), (3, z_v i3), (4, z_v i4)]) C dX11_holds_34 (by decide) rfl ?_
              refine z_aloadn C 1 dX11_holds_36 rfl rfl ?_
              refine z_get C 0 (by decide) rfl rfl z_it11 22 (by decide) rfl fl_11_68 rfl dX11_holds_37 ?_
              refine z_iloadn C 4 dX11_holds_40 rfl rfl ?_
              refine z_iald C 19 (by decide) rfl (by decide) (by omega) (by omega) dX11_holds_41 ?_
              have rx4 := Ha_amounts (i3 : Int).toNat
              generalize ex4 : a_amounts (i3 : Int).toNat = x4 at rx4 ⊢
              refine z_aloadn C 1 dX11_holds_42 rfl rfl ?_
              refine z_get C 0 (by decide) rfl rfl z_it11 22 (by decide) rfl fl_11_68 rfl dX11_holds_43 ?_
              refine z_iload C 5 dX11_holds_46 rfl ?_
              refine z_iald C 19 (by decide) rfl (by decide) (by omega) (by omega) dX11_holds_48 ?_
              have rx5 := Ha_amounts (i4 : Int).toNat
              generalize ex5 : a_amounts (i4 : Int).toNat = x5 at rx5 ⊢
              refine z_isub C dX11_holds_49 ?_
              refine z_bipush C dX11_holds_50 (by decide) ?_
              refine z_iload C 0 dX11_holds_52 rfl ?_
              refine z_iconst C dX11_holds_54 ?_
              obtain ⟨b6, hb6, rb6⟩ := z_bits (z_i x3 >>> (z_i 1 &&& 31))
              refine z_ishr C hb6 dX11_holds_55 ?_
              have qb6 := z_bitsE hb6 rb6
              refine z_imul C dX11_holds_56 ?_
              refine z_isub C dX11_holds_57 ?_
              refine z_nrm (fun n7 rn7 en7 => ?_)
              refine z_istore (L' := [(6, z_v n7), (5, z_v x3), (0, .ref (ad 0)), (1, z_v i0), (2, z_v i2), (3, z_v i3), (4, z_v i4)]) C dX11_holds_58 (by decide) rfl ?_
              refine z_iloadn C 4 dX11_holds_60 rfl rfl ?_
              refine z_if_eq (t := 93) C dX11_holds_61 (by decide) (by omega) (fun c8 => ?_) (fun c8 => ?_)
              · skip
                refine z_iconst C dX11_holds_93 ?_
                refine z_istoren (L' := [(2, z_v 0), (6, z_v n7), (5, z_v x3), (0, .ref (ad 0)), (1, z_v i0), (3, z_v i3), (4, z_v i4)]) C dX11_holds_94 rfl (by decide) rfl ?_
                refine z_iinc (L' := [(4, z_v (i4 + 1)), (2, z_v 0), (6, z_v n7), (5, z_v x3), (0, .ref (ad 0)), (1, z_v i0), (3, z_v i3)]) C 6 dX11_holds_95 rfl (by decide) rfl ?_
                refine z_goto (t := 12) C dX11_holds_98 (by decide) ?_
                refine z_loc (L' := [(0, .ref (ad 0)), (1, z_v i0), (2, z_v 0), (3, z_v i3), (4, z_v (i4 + 1))]) [4, 5, 1, 6, 0] rfl ?_
                exact ih12 0 (i4 + 1) (by omega) (by omega) (by omega)
              · skip
                refine z_iload C 1 dX11_holds_64 rfl ?_
                refine z_ldc (n := 100000) C kc_11_113 (by decide) dX11_holds_66 ?_
                refine z_icmp_eq (t := 89) C dX11_holds_68 (by decide) (by omega) (by omega) (fun c9 => ?_) (fun c9 => ?_)
                · skip
                  refine z_iconst C dX11_holds_89 ?_
                  refine z_goto (t := 94) C dX11_holds_90 (by decide) ?_
                  refine z_istoren (L' := [(2, z_v 1), (6, z_v n7), (5, z_v x3), (0, .ref (ad 0)), (1, z_v i0), (3, z_v i3), (4, z_v i4)]) C dX11_holds_94 rfl (by decide) rfl ?_
                  refine z_iinc (L' := [(4, z_v (i4 + 1)), (2, z_v 1), (6, z_v n7), (5, z_v x3), (0, .ref (ad 0)), (1, z_v i0), (3, z_v i3)]) C 6 dX11_holds_95 rfl (by decide) rfl ?_
                  refine z_goto (t := 12) C dX11_holds_98 (by decide) ?_
                  refine z_loc (L' := [(0, .ref (ad 0)), (1, z_v i0), (2, z_v 1), (3, z_v i3), (4, z_v (i4 + 1))]) [4, 5, 1, 6, 0] rfl ?_
                  exact ih12 1 (i4 + 1) (by omega) (by omega) (by omega)
                · skip
                  refine z_iload C 0 dX11_holds_71 rfl ?_
                  refine z_if_lt (t := 89) C dX11_holds_73 (by decide) (by omega) (fun c10 => ?_) (fun c10 => ?_)
                  · skip
                    refine z_iconst C dX11_holds_89 ?_
                    refine z_goto (t := 94) C dX11_holds_90 (by decide) ?_
                    refine z_istoren (L' := [(2, z_v 1), (6, z_v n7), (5, z_v x3), (0, .ref (ad 0)), (1, z_v i0), (3, z_v i3), (4, z_v i4)]) C dX11_holds_94 rfl (by decide) rfl ?_
                    refine z_iinc (L' := [(4, z_v (i4 + 1)), (2, z_v 1), (6, z_v n7), (5, z_v x3), (0, .ref (ad 0)), (1, z_v i0), (3, z_v i3)]) C 6 dX11_holds_95 rfl (by decide) rfl ?_
                    refine z_goto (t := 12) C dX11_holds_98 (by decide) ?_
                    refine z_loc (L' := [(0, .ref (ad 0)), (1, z_v i0), (2, z_v 1), (3, z_v i3), (4, z_v (i4 + 1))]) [4, 5, 1, 6, 0] rfl ?_
                    exact ih12 1 (i4 + 1) (by omega) (by omega) (by omega)
                  · skip
                    refine z_iload C 0 dX11_holds_76 rfl ?_
                    refine z_if_ne (t := 93) C dX11_holds_78 (by decide) (by omega) (fun c11 => ?_) (fun c11 => ?_)
                    · skip
                      refine z_iconst C dX11_holds_93 ?_
                      refine z_istoren (L' := [(2, z_v 0), (6, z_v n7), (5, z_v x3), (0, .ref (ad 0)), (1, z_v i0), (3, z_v i3), (4, z_v i4)]) C dX11_holds_94 rfl (by decide) rfl ?_
                      refine z_iinc (L' := [(4, z_v (i4 + 1)), (2, z_v 0), (6, z_v n7), (5, z_v x3), (0, .ref (ad 0)), (1, z_v i0), (3, z_v i3)]) C 6 dX11_holds_95 rfl (by decide) rfl ?_
                      refine z_goto (t := 12) C dX11_holds_98 (by decide) ?_
                      refine z_loc (L' := [(0, .ref (ad 0)), (1, z_v i0), (2, z_v 0), (3, z_v i3), (4, z_v (i4 + 1))]) [4, 5, 1, 6, 0] rfl ?_
                      exact ih12 0 (i4 + 1) (by omega) (by omega) (by omega)
                    · skip
                      refine z_iload C 1 dX11_holds_81 rfl ?_
                      refine z_iconst C dX11_holds_83 ?_
                      obtain ⟨b12, hb12, rb12⟩ := z_bits (z_i x3 &&& z_i 1)
                      refine z_iand C hb12 dX11_holds_84 ?_
                      have qb12 := z_bitsE hb12 rb12
                      refine z_iconst C dX11_holds_85 ?_
                      refine z_icmp_ne (t := 93) C dX11_holds_86 (by decide) (by omega) (by omega) (fun c13 => ?_) (fun c13 => ?_)
                      · skip
                        refine z_iconst C dX11_holds_93 ?_
                        refine z_istoren (L' := [(2, z_v 0), (6, z_v n7), (5, z_v x3), (0, .ref (ad 0)), (1, z_v i0), (3, z_v i3), (4, z_v i4)]) C dX11_holds_94 rfl (by decide) rfl ?_
                        refine z_iinc (L' := [(4, z_v (i4 + 1)), (2, z_v 0), (6, z_v n7), (5, z_v x3), (0, .ref (ad 0)), (1, z_v i0), (3, z_v i3)]) C 6 dX11_holds_95 rfl (by decide) rfl ?_
                        refine z_goto (t := 12) C dX11_holds_98 (by decide) ?_
                        refine z_loc (L' := [(0, .ref (ad 0)), (1, z_v i0), (2, z_v 0), (3, z_v i3), (4, z_v (i4 + 1))]) [4, 5, 1, 6, 0] rfl ?_
                        exact ih12 0 (i4 + 1) (by omega) (by omega) (by omega)
                      · skip
                        refine z_iconst C dX11_holds_89 ?_
                        refine z_goto (t := 94) C dX11_holds_90 (by decide) ?_
                        refine z_istoren (L' := [(2, z_v 1), (6, z_v n7), (5, z_v x3), (0, .ref (ad 0)), (1, z_v i0), (3, z_v i3), (4, z_v i4)]) C dX11_holds_94 rfl (by decide) rfl ?_
                        refine z_iinc (L' := [(4, z_v (i4 + 1)), (2, z_v 1), (6, z_v n7), (5, z_v x3), (0, .ref (ad 0)), (1, z_v i0), (3, z_v i3)]) C 6 dX11_holds_95 rfl (by decide) rfl ?_
                        refine z_goto (t := 12) C dX11_holds_98 (by decide) ?_
                        refine z_loc (L' := [(0, .ref (ad 0)), (1, z_v i0), (2, z_v 1), (3, z_v i3), (4, z_v (i4 + 1))]) [4, 5, 1, 6, 0] rfl ?_
                        exact ih12 1 (i4 + 1) (by omega) (by omega) (by omega)
        refine z_loc (L' := [(0, .ref (ad 0)), (1, z_v i0), (2, z_v i2), (3, z_v i3), (4, z_v 0)]) [1, 2, 3, 4, 0] rfl ?_
        exact (L12 (((4 : Int) - 0).toNat + 1)) i2 0 (by omega) (by omega) (Nat.lt_succ_self _)
  refine z_loc (L' := [(0, .ref (ad 0)), (1, z_v i0), (2, z_v 1), (3, z_v 0)]) [2, 3, 1, 0] rfl ?_
  exact (L4 (((4 : Int) - 0).toNat + 1)) 1 0 (by omega) (by omega) (Nat.lt_succ_self _)
set_option maxRecDepth 20000 in
theorem cm_X11_has (l : Launch) {D : va_G} {A : Nat → Prop} {ad : Nat → Nat} {ks : z_Ks} {s_edges s_isNeeded s_explored s_states s_isMoved s_runs s_runTime s_runMoves : Int} {w_h : Int64} {a_machine a_from a_to a_channel a_resets a_guards a_guardOf a_limits a_limitOf a_places a_zones a_parent a_moveE a_moveF a_moves a_z a_ahead a_at a_amounts a_way a_moments a_runAt a_runClock : Nat → Int} {Y : Nat → Option va_E} (i0 a b c0 : Int) (Hs_isNeeded : (s_isNeeded = 0 ∨ s_isNeeded = 1)) (Hs_states : (0 ≤ s_states ∧ s_states ≤ 120)) (Ha_zones : (∀ j, z_rg (a_zones j))) (Ha_amounts : (∀ j, 0 ≤ a_amounts j ∧ a_amounts j ≤ 1064000)) (hi : z_rg i0) (ha : z_rg a) (hb : z_rg b) (hc : z_rg c0) : z_Met l yX11_has cX11_has 5 (some .int) 2 43 0 0 D A 24 ad ks [.ref (ad 0), z_v i0, z_v a, z_v b, z_v c0] (z_zm ad ks s_edges s_isNeeded s_explored s_states s_isMoved s_runs s_runTime s_runMoves w_h a_machine a_from a_to a_channel a_resets a_guards a_guardOf a_limits a_limitOf a_places a_zones a_parent a_moveE a_moveF a_moves a_z a_ahead a_at a_amounts a_way a_moments a_runAt a_runClock) Y (fun r S' Y' => ∃ na_amounts : Nat → Int, S' = (z_zm ad ks s_edges s_isNeeded s_explored s_states s_isMoved s_runs s_runTime s_runMoves w_h a_machine a_from a_to a_channel a_resets a_guards a_guardOf a_limits a_limitOf a_places a_zones a_parent a_moveE a_moveF a_moves a_z a_ahead a_at na_amounts a_way a_moments a_runAt a_runClock) ∧ Y = Y' ∧ (∀ j, 0 ≤ na_amounts j ∧ na_amounts j ≤ 1064000) ∧ ∃ z : Int, r = some (z_v z) ∧ (True)) := by
  refine z_start2 (by decide) (Nat.le_of_ble_eq_true rfl) ?_
  intro p e R s m args below meth c Q C hRf hRc hRs hRl hQ hrt hnm
  refine z_loc (L' := [(0, .ref (ad 0)), (1, z_v i0), (2, z_v a), (3, z_v b), (4, z_v c0)]) [0, 1, 2, 3, 4] rfl ?_
  refine z_aloadn C 0 dX11_has_0 rfl rfl ?_
  refine z_get C 0 (by decide) rfl rfl z_it11 10 (by decide) rfl fl_11_37 rfl dX11_has_1 ?_
  refine z_if_eq (t := 10) C dX11_has_4 (by decide) (by omega) (fun c1 => ?_) (fun c1 => ?_)
  · skip
    refine z_aloadn C 0 dX11_has_10 rfl rfl ?_
    refine z_iloadn C 1 dX11_has_11 rfl rfl ?_
    refine z_callV C (cm_X11_isState l i0 (by omega) (by omega)) mv_11_165 (z_atS 0 11 (by decide) rfl rfl rfl) pd_X11_isState ⟨by omega, by omega⟩ ⟨by omega, by omega⟩ rfl (Nat.le_of_ble_eq_true rfl) dX11_has_12 ?_
    rintro _ _ _ ⟨rfl, rfl, z2, rfl, hz2⟩
    refine z_if_ne (t := 21) C dX11_has_15 (by decide) (by omega) (fun c3 => ?_) (fun c3 => ?_)
    · skip
      refine z_iloadn C 2 dX11_has_21 rfl rfl ?_
      refine z_iconst C dX11_has_22 ?_
      refine z_ldc (n := 1000000) C kc_11_173 (by decide) dX11_has_23 ?_
      refine z_callS C (cm_X11_in l a 0 1000000 (by omega) (by omega) (by omega)) mv_11_86 pd_X11_in ⟨by omega, by omega⟩ ⟨by omega, by omega⟩ rfl (Nat.le_of_ble_eq_true rfl) dX11_has_25 ?_
      rintro _ _ _ ⟨rfl, rfl, z4, rfl, hz4⟩
      refine z_if_eq (t := 52) C dX11_has_28 (by decide) (by omega) (fun c5 => ?_) (fun c5 => ?_)
      · skip
        refine z_bipush C dX11_has_52 (by decide) ?_
        rw [hQ]
        exact z_iret C hrt dX11_has_54 (⟨a_amounts, rfl, rfl, Ha_amounts, _, rfl, trivial⟩) (by omega) (by omega)
      · skip
        refine z_iloadn C 3 dX11_has_31 rfl rfl ?_
        refine z_iconst C dX11_has_32 ?_
        refine z_ldc (n := 1000000) C kc_11_173 (by decide) dX11_has_33 ?_
        refine z_callS C (cm_X11_in l b 0 1000000 (by omega) (by omega) (by omega)) mv_11_86 pd_X11_in ⟨by omega, by omega⟩ ⟨by omega, by omega⟩ rfl (Nat.le_of_ble_eq_true rfl) dX11_has_35 ?_
        rintro _ _ _ ⟨rfl, rfl, z6, rfl, hz6⟩
        refine z_if_eq (t := 52) C dX11_has_38 (by decide) (by omega) (fun c7 => ?_) (fun c7 => ?_)
        · skip
          refine z_bipush C dX11_has_52 (by decide) ?_
          rw [hQ]
          exact z_iret C hrt dX11_has_54 (⟨a_amounts, rfl, rfl, Ha_amounts, _, rfl, trivial⟩) (by omega) (by omega)
        · skip
          refine z_iload C 4 dX11_has_41 rfl ?_
          refine z_iconst C dX11_has_43 ?_
          refine z_ldc (n := 1000000) C kc_11_173 (by decide) dX11_has_44 ?_
          refine z_callS C (cm_X11_in l c0 0 1000000 (by omega) (by omega) (by omega)) mv_11_86 pd_X11_in ⟨by omega, by omega⟩ ⟨by omega, by omega⟩ rfl (Nat.le_of_ble_eq_true rfl) dX11_has_46 ?_
          rintro _ _ _ ⟨rfl, rfl, z8, rfl, hz8⟩
          refine z_if_ne (t := 55) C dX11_has_49 (by decide) (by omega) (fun c9 => ?_) (fun c9 => ?_)
          · skip
            refine z_aloadn C 0 dX11_has_55 rfl rfl ?_
            refine z_get C 0 (by decide) rfl rfl z_it11 22 (by decide) rfl fl_11_68 rfl dX11_has_56 ?_
            refine z_iconst C dX11_has_59 ?_
            refine z_iconst C dX11_has_60 ?_
            refine z_iast C 19 (by decide) rfl (by decide) (by omega) (by omega) dX11_has_61 ?_
            refine z_ext (S' := (z_zm ad ks s_edges s_isNeeded s_explored s_states s_isMoved s_runs s_runTime s_runMoves w_h a_machine a_from a_to a_channel a_resets a_guards a_guardOf a_limits a_limitOf a_places a_zones a_parent a_moveE a_moveF a_moves a_z a_ahead a_at (va_up a_amounts (0 : Int).toNat 0) a_way a_moments a_runAt a_runClock)) upM_a_amounts ?_
            have h10 : ∀ j, 0 ≤ (va_up a_amounts (0 : Int).toNat 0) j ∧ (va_up a_amounts (0 : Int).toNat 0) j ≤ 1064000 := z_upP (P := fun j v => 0 ≤ v ∧ v ≤ 1064000) Ha_amounts (by omega)
            generalize (va_up a_amounts (0 : Int).toNat 0) = f11 at h10 ⊢
            refine z_aloadn C 0 dX11_has_62 rfl rfl ?_
            refine z_get C 0 (by decide) rfl rfl z_it11 22 (by decide) rfl fl_11_68 rfl dX11_has_63 ?_
            refine z_iconst C dX11_has_66 ?_
            refine z_iloadn C 2 dX11_has_67 rfl rfl ?_
            refine z_iast C 19 (by decide) rfl (by decide) (by omega) (by omega) dX11_has_68 ?_
            refine z_ext (S' := (z_zm ad ks s_edges s_isNeeded s_explored s_states s_isMoved s_runs s_runTime s_runMoves w_h a_machine a_from a_to a_channel a_resets a_guards a_guardOf a_limits a_limitOf a_places a_zones a_parent a_moveE a_moveF a_moves a_z a_ahead a_at (va_up f11 (1 : Int).toNat a) a_way a_moments a_runAt a_runClock)) upM_a_amounts ?_
            have h12 : ∀ j, 0 ≤ (va_up f11 (1 : Int).toNat a) j ∧ (va_up f11 (1 : Int).toNat a) j ≤ 1064000 := z_upP (P := fun j v => 0 ≤ v ∧ v ≤ 1064000) h10 (by omega)
            generalize (va_up f11 (1 : Int).toNat a) = f13 at h12 ⊢
            refine z_aloadn C 0 dX11_has_69 rfl rfl ?_
            refine z_get C 0 (by decide) rfl rfl z_it11 22 (by decide) rfl fl_11_68 rfl dX11_has_70 ?_
            refine z_iconst C dX11_has_73 ?_
            refine z_iloadn C 3 dX11_has_74 rfl rfl ?_
            refine z_iast C 19 (by decide) rfl (by decide) (by omega) (by omega) dX11_has_75 ?_
            refine z_ext (S' := (z_zm ad ks s_edges s_isNeeded s_explored s_states s_isMoved s_runs s_runTime s_runMoves w_h a_machine a_from a_to a_channel a_resets a_guards a_guardOf a_limits a_limitOf a_places a_zones a_parent a_moveE a_moveF a_moves a_z a_ahead a_at (va_up f13 (2 : Int).toNat b) a_way a_moments a_runAt a_runClock)) upM_a_amounts ?_
            have h14 : ∀ j, 0 ≤ (va_up f13 (2 : Int).toNat b) j ∧ (va_up f13 (2 : Int).toNat b) j ≤ 1064000 := z_upP (P := fun j v => 0 ≤ v ∧ v ≤ 1064000) h12 (by omega)
            generalize (va_up f13 (2 : Int).toNat b) = f15 at h14 ⊢
            refine z_aloadn C 0 dX11_has_76 rfl rfl ?_
            refine z_get C 0 (by decide) rfl rfl z_it11 22 (by decide) rfl fl_11_68 rfl dX11_has_77 ?_
            refine z_iconst C dX11_has_80 ?_
            refine z_iload C 4 dX11_has_81 rfl ?_
            refine z_iast C 19 (by decide) rfl (by decide) (by omega) (by omega) dX11_has_83 ?_
            refine z_ext (S' := (z_zm ad ks s_edges s_isNeeded s_explored s_states s_isMoved s_runs s_runTime s_runMoves w_h a_machine a_from a_to a_channel a_resets a_guards a_guardOf a_limits a_limitOf a_places a_zones a_parent a_moveE a_moveF a_moves a_z a_ahead a_at (va_up f15 (3 : Int).toNat c0) a_way a_moments a_runAt a_runClock)) upM_a_amounts ?_
            have h16 : ∀ j, 0 ≤ (va_up f15 (3 : Int).toNat c0) j ∧ (va_up f15 (3 : Int).toNat c0) j ≤ 1064000 := z_upP (P := fun j v => 0 ≤ v ∧ v ≤ 1064000) h14 (by omega)
            generalize (va_up f15 (3 : Int).toNat c0) = f17 at h16 ⊢
            refine z_aloadn C 0 dX11_has_84 rfl rfl ?_
            refine z_iloadn C 1 dX11_has_85 rfl rfl ?_
            refine z_callV C (cm_X11_holds l i0 Ha_zones h16 (by omega)) mv_11_174 (z_atS 0 11 (by decide) rfl rfl rfl) pd_X11_holds ⟨by omega, by omega⟩ ⟨by omega, by omega⟩ rfl (Nat.le_of_ble_eq_true rfl) dX11_has_86 ?_
            rintro _ _ _ ⟨rfl, rfl, z20, rfl, hz20⟩
            refine z_if_eq (t := 96) C dX11_has_89 (by decide) (by omega) (fun c21 => ?_) (fun c21 => ?_)
            · skip
              refine z_iconst C dX11_has_96 ?_
              rw [hQ]
              exact z_iret C hrt dX11_has_97 (⟨f17, rfl, rfl, h16, _, rfl, trivial⟩) (by omega) (by omega)
            · skip
              refine z_iconst C dX11_has_92 ?_
              refine z_goto (t := 97) C dX11_has_93 (by decide) ?_
              rw [hQ]
              exact z_iret C hrt dX11_has_97 (⟨f17, rfl, rfl, h16, _, rfl, trivial⟩) (by omega) (by omega)
          · skip
            refine z_bipush C dX11_has_52 (by decide) ?_
            rw [hQ]
            exact z_iret C hrt dX11_has_54 (⟨a_amounts, rfl, rfl, Ha_amounts, _, rfl, trivial⟩) (by omega) (by omega)
    · skip
      refine z_bipush C dX11_has_18 (by decide) ?_
      rw [hQ]
      exact z_iret C hrt dX11_has_20 (⟨a_amounts, rfl, rfl, Ha_amounts, _, rfl, trivial⟩) (by omega) (by omega)
  · skip
    refine z_bipush C dX11_has_7 (by decide) ?_
    rw [hQ]
    exact z_iret C hrt dX11_has_9 (⟨a_amounts, rfl, rfl, Ha_amounts, _, rfl, trivial⟩) (by omega) (by omega)
