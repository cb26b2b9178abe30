abbrev z_gOK (e x s c n k : Int) : Prop := (0 ≤ e ∧ e < n ∧ 1 ≤ x ∧ x ≤ 3) ∧ (0 ≤ s ∧ s ≤ 4 ∧ 0 ≤ c ∧ c ≤ 1000) ∧ k ≠ 2
def z_gR (e x s c n k : Int) : Int := if 0 ≤ e ∧ e < n ∧ 1 ≤ x ∧ x ≤ 3 then (if 0 ≤ s ∧ s ≤ 4 ∧ 0 ≤ c ∧ c ≤ 1000 then (if k = 2 then -104 else k + 1) else -102) else -101
abbrev z_lOK (m p x s c k : Int) : Prop := (0 ≤ m ∧ m ≤ 2 ∧ 0 ≤ p ∧ p ≤ 5 ∧ 1 ≤ x ∧ x ≤ 3) ∧ (0 ≤ s ∧ s ≤ 1 ∧ 0 ≤ c ∧ c ≤ 1000) ∧ k ≠ 2
def z_lR (m p x s c k : Int) : Int := if 0 ≤ m ∧ m ≤ 2 ∧ 0 ≤ p ∧ p ≤ 5 ∧ 1 ≤ x ∧ x ≤ 3 then (if 0 ≤ s ∧ s ≤ 1 ∧ 0 ≤ c ∧ c ≤ 1000 then (if k = 2 then -104 else k + 1) else -102) else -101
def z_abR (e w n : Int) (em ef et ec er gn : Nat → Int) : Int := if 0 ≤ e ∧ e < n then (if w = 0 then em e.toNat else if w = 1 then ef e.toNat else if w = 2 then et e.toNat else if w = 3 then ec e.toNat else if w = 4 then er e.toNat else if w = 5 then gn e.toNat else -102) else -101
theorem z_upS {α : Type} {f : Nat → α} {i : Nat} {v : α} : va_up f i v i = v := if_pos rfl
set_option maxRecDepth 20000 in
theorem cx_X11_edge (l : Launch) {D : va_G} {A : Nat → Prop} {ad : Nat → Nat} {ks : z_Ks} {s_edges s_isNeeded s_explored s_states s_isMoved s_runs s_runTime s_runMoves : Int} {w_h : Int64} {a_machine a_from a_to a_channel a_resets a_guards a_guardOf a_limits a_limitOf a_places a_zones a_parent a_moveE a_moveF a_moves a_z a_ahead a_at a_amounts a_way a_moments a_runAt a_runClock : Nat → Int} {Y : Nat → Option va_E} (m0 p0 q0 b0 s0 : Int) (Hs_edges : (0 ≤ s_edges ∧ s_edges ≤ 20)) (Hs_isNeeded : (s_isNeeded = 0 ∨ s_isNeeded = 1)) (Hs_states : (0 ≤ s_states ∧ s_states ≤ 120)) (Hs_runs : (s_runs = 0 ∨ s_runs = 1)) (Ha_machine : (∀ j, 0 ≤ a_machine j ∧ a_machine j ≤ 2)) (Ha_from : (∀ j, 0 ≤ a_from j ∧ a_from j ≤ 5)) (Ha_to : (∀ j, 0 ≤ a_to j ∧ a_to j ≤ 5)) (Ha_channel : (∀ j, -4 ≤ a_channel j ∧ a_channel j ≤ 4)) (Ha_resets : (∀ j, z_rg (a_resets j))) (Ha_guards : (∀ j, 0 ≤ a_guards j ∧ a_guards j ≤ 2)) (h0 : z_rg m0) (h1 : z_rg p0) (h2 : z_rg q0) (h3 : z_rg b0) (h4 : z_rg s0) (hch : z_ch s_states a_parent a_moves a_moveE) : z_Met l yX11_edge cX11_edge 6 (some .int) 2 42 0 0 D A 24 ad ks [.ref (ad 0), z_v m0, z_v p0, z_v q0, z_v b0, z_v s0] (z_zm ad ks s_edges s_isNeeded s_explored s_states s_isMoved s_runs s_runTime s_runMoves w_h a_machine a_from a_to a_channel a_resets a_guards a_guardOf a_limits a_limitOf a_places a_zones a_parent a_moveE a_moveF a_moves a_z a_ahead a_at a_amounts a_way a_moments a_runAt a_runClock) Y (fun r S' Y' => ∃ ns_edges : Int, ∃ ns_isNeeded : Int, ∃ ns_states : Int, ∃ ns_runs : Int, ∃ na_machine : Nat → Int, ∃ na_from : Nat → Int, ∃ na_to : Nat → Int, ∃ na_channel : Nat → Int, ∃ na_resets : Nat → Int, ∃ na_guards : Nat → Int, S' = (z_zm ad ks ns_edges ns_isNeeded s_explored ns_states s_isMoved ns_runs s_runTime s_runMoves w_h na_machine na_from na_to na_channel na_resets na_guards a_guardOf a_limits a_limitOf a_places a_zones a_parent a_moveE a_moveF a_moves a_z a_ahead a_at a_amounts a_way a_moments a_runAt a_runClock) ∧ Y = Y' ∧ (0 ≤ ns_edges ∧ ns_edges ≤ 20) ∧ (ns_isNeeded = 0 ∨ ns_isNeeded = 1) ∧ (0 ≤ ns_states ∧ ns_states ≤ 120) ∧ (ns_runs = 0 ∨ ns_runs = 1) ∧ (∀ j, 0 ≤ na_machine j ∧ na_machine j ≤ 2) ∧ (∀ j, 0 ≤ na_from j ∧ na_from j ≤ 5) ∧ (∀ j, 0 ≤ na_to j ∧ na_to j ≤ 5) ∧ (∀ j, -4 ≤ na_channel j ∧ na_channel j ≤ 4) ∧ (∀ j, z_rg (na_resets j)) ∧ (∀ j, 0 ≤ na_guards j ∧ na_guards j ≤ 2) ∧ ns_edges = z_edgeN m0 p0 q0 b0 s0 s_edges ∧ z_ch ns_states a_parent a_moves a_moveE ∧ na_machine = (if (z_eBad m0 p0 q0 b0 s0 = 0 ∧ s_edges ≠ 20) then va_up a_machine s_edges.toNat m0 else a_machine) ∧ na_from = (if (z_eBad m0 p0 q0 b0 s0 = 0 ∧ s_edges ≠ 20) then va_up a_from s_edges.toNat p0 else a_from) ∧ na_to = (if (z_eBad m0 p0 q0 b0 s0 = 0 ∧ s_edges ≠ 20) then va_up a_to s_edges.toNat q0 else a_to) ∧ na_channel = (if (z_eBad m0 p0 q0 b0 s0 = 0 ∧ s_edges ≠ 20) then va_up a_channel s_edges.toNat b0 else a_channel) ∧ na_resets = (if (z_eBad m0 p0 q0 b0 s0 = 0 ∧ s_edges ≠ 20) then va_up a_resets s_edges.toNat s0 else a_resets) ∧ na_guards = (if (z_eBad m0 p0 q0 b0 s0 = 0 ∧ s_edges ≠ 20) then va_up a_guards s_edges.toNat 0 else a_guards) ∧ ns_isNeeded = z_sel ((z_eBad m0 p0 q0 b0 s0 = 0 ∧ s_edges ≠ 20)) 1 s_isNeeded ∧ ns_states = z_sel ((z_eBad m0 p0 q0 b0 s0 = 0 ∧ s_edges ≠ 20)) 0 s_states ∧ ns_runs = z_sel ((z_eBad m0 p0 q0 b0 s0 = 0 ∧ s_edges ≠ 20)) 0 s_runs ∧ ∃ z : Int, r = some (z_v z) ∧ (z = z_edgeR m0 p0 q0 b0 s0 s_edges)) := by
  refine z_start2 (by decide) (Nat.le_of_ble_eq_true rfl) ?_
  intro p e R s m args below meth c Q C hRf hRc hRs hRl hQ hrt hnm
  refine z_loc (L' := [(0, .ref (ad 0)), (1, z_v m0), (2, z_v p0), (3, z_v q0), (4, z_v b0), (5, z_v s0)]) [0, 1, 2, 3, 4, 5] rfl ?_
  refine z_iloadn C 1 dX11_edge_0 rfl rfl ?_
  refine z_callS C (cm_X11_isMachine l m0 (by omega)) mv_11_97 pd_X11_isMachine ⟨by omega, by omega⟩ ⟨by omega, by omega⟩ rfl (Nat.le_of_ble_eq_true rfl) dX11_edge_1 ?_
  rintro _ _ _ ⟨rfl, rfl, z1, rfl, hz1⟩
  refine z_if_eq (t := 21) C dX11_edge_4 (by decide) (by omega) (fun c2 => ?_) (fun c2 => ?_)
  · skip
    refine z_bipush C dX11_edge_21 (by decide) ?_
    rw [hQ]
    exact z_iret C hrt dX11_edge_23 (⟨s_edges, s_isNeeded, s_states, s_runs, a_machine, a_from, a_to, a_channel, a_resets, a_guards, rfl, rfl, by omega, by omega, by omega, by omega, Ha_machine, Ha_from, Ha_to, Ha_channel, Ha_resets, Ha_guards, by unfold z_edgeN z_eBad; split <;> (try split) <;> (try split) <;> omega, by first | exact hch | exact z_ch0, by first | exact (if_neg (by unfold z_eBad; split <;> (try split) <;> (try split) <;> omega)).symm | exact (if_pos (by unfold z_eBad; split <;> (try split) <;> (try split) <;> omega)).symm, by first | exact (if_neg (by unfold z_eBad; split <;> (try split) <;> (try split) <;> omega)).symm | exact (if_pos (by unfold z_eBad; split <;> (try split) <;> (try split) <;> omega)).symm, by first | exact (if_neg (by unfold z_eBad; split <;> (try split) <;> (try split) <;> omega)).symm | exact (if_pos (by unfold z_eBad; split <;> (try split) <;> (try split) <;> omega)).symm, by first | exact (if_neg (by unfold z_eBad; split <;> (try split) <;> (try split) <;> omega)).symm | exact (if_pos (by unfold z_eBad; split <;> (try split) <;> (try split) <;> omega)).symm, by first | exact (if_neg (by unfold z_eBad; split <;> (try split) <;> (try split) <;> omega)).symm | exact (if_pos (by unfold z_eBad; split <;> (try split) <;> (try split) <;> omega)).symm, by first | exact (if_neg (by unfold z_eBad; split <;> (try split) <;> (try split) <;> omega)).symm | exact (if_pos (by unfold z_eBad; split <;> (try split) <;> (try split) <;> omega)).symm, by first | exact (z_sel_neg (by unfold z_eBad; split <;> (try split) <;> (try split) <;> omega)).symm | exact (z_sel_pos (by unfold z_eBad; split <;> (try split) <;> (try split) <;> omega)).symm, by first | exact (z_sel_neg (by unfold z_eBad; split <;> (try split) <;> (try split) <;> omega)).symm | exact (z_sel_pos (by unfold z_eBad; split <;> (try split) <;> (try split) <;> omega)).symm, by first | exact (z_sel_neg (by unfold z_eBad; split <;> (try split) <;> (try split) <;> omega)).symm | exact (z_sel_pos (by unfold z_eBad; split <;> (try split) <;> (try split) <;> omega)).symm, _, rfl, by unfold z_edgeR z_eBad; split <;> (try split) <;> (try split) <;> omega⟩) (by omega) (by omega)
  · skip
    refine z_iloadn C 2 dX11_edge_7 rfl rfl ?_
    refine z_callS C (cm_X11_isPlace l p0 (by omega)) mv_11_101 pd_X11_isPlace ⟨by omega, by omega⟩ ⟨by omega, by omega⟩ rfl (Nat.le_of_ble_eq_true rfl) dX11_edge_8 ?_
    rintro _ _ _ ⟨rfl, rfl, z3, rfl, hz3⟩
    refine z_if_eq (t := 21) C dX11_edge_11 (by decide) (by omega) (fun c4 => ?_) (fun c4 => ?_)
    · skip
      refine z_bipush C dX11_edge_21 (by decide) ?_
      rw [hQ]
      exact z_iret C hrt dX11_edge_23 (⟨s_edges, s_isNeeded, s_states, s_runs, a_machine, a_from, a_to, a_channel, a_resets, a_guards, rfl, rfl, by omega, by omega, by omega, by omega, Ha_machine, Ha_from, Ha_to, Ha_channel, Ha_resets, Ha_guards, by unfold z_edgeN z_eBad; split <;> (try split) <;> (try split) <;> omega, by first | exact hch | exact z_ch0, by first | exact (if_neg (by unfold z_eBad; split <;> (try split) <;> (try split) <;> omega)).symm | exact (if_pos (by unfold z_eBad; split <;> (try split) <;> (try split) <;> omega)).symm, by first | exact (if_neg (by unfold z_eBad; split <;> (try split) <;> (try split) <;> omega)).symm | exact (if_pos (by unfold z_eBad; split <;> (try split) <;> (try split) <;> omega)).symm, by first | exact (if_neg (by unfold z_eBad; split <;> (try split) <;> (try split) <;> omega)).symm | exact (if_pos (by unfold z_eBad; split <;> (try split) <;> (try split) <;> omega)).symm, by first | exact (if_neg (by unfold z_eBad; split <;> (try split) <;> (try split) <;> omega)).symm | exact (if_pos (by unfold z_eBad; split <;> (try split) <;> (try split) <;> omega)).symm, by first | exact (if_neg (by unfold z_eBad; split <;> (try split) <;> (try split) <;> omega)).symm | exact (if_pos (by unfold z_eBad; split <;> (try split) <;> (try split) <;> omega)).symm, by first | exact (if_neg (by unfold z_eBad; split <;> (try split) <;> (try split) <;> omega)).symm | exact (if_pos (by unfold z_eBad; split <;> (try split) <;> (try split) <;> omega)).symm, by first | exact (z_sel_neg (by unfold z_eBad; split <;> (try split) <;> (try split) <;> omega)).symm | exact (z_sel_pos (by unfold z_eBad; split <;> (try split) <;> (try split) <;> omega)).symm, by first | exact (z_sel_neg (by unfold z_eBad; split <;> (try split) <;> (try split) <;> omega)).symm | exact (z_sel_pos (by unfold z_eBad; split <;> (try split) <;> (try split) <;> omega)).symm, by first | exact (z_sel_neg (by unfold z_eBad; split <;> (try split) <;> (try split) <;> omega)).symm | exact (z_sel_pos (by unfold z_eBad; split <;> (try split) <;> (try split) <;> omega)).symm, _, rfl, by unfold z_edgeR z_eBad; split <;> (try split) <;> (try split) <;> omega⟩) (by omega) (by omega)
    · skip
      refine z_iloadn C 3 dX11_edge_14 rfl rfl ?_
      refine z_callS C (cm_X11_isPlace l q0 (by omega)) mv_11_101 pd_X11_isPlace ⟨by omega, by omega⟩ ⟨by omega, by omega⟩ rfl (Nat.le_of_ble_eq_true rfl) dX11_edge_15 ?_
      rintro _ _ _ ⟨rfl, rfl, z5, rfl, hz5⟩
      refine z_if_ne (t := 24) C dX11_edge_18 (by decide) (by omega) (fun c6 => ?_) (fun c6 => ?_)
      · skip
        refine z_iload C 4 dX11_edge_24 rfl ?_
        refine z_bipush C dX11_edge_26 (by decide) ?_
        refine z_iconst C dX11_edge_28 ?_
        refine z_callS C (cm_X11_in l b0 (-4) 4 (by omega) (by omega) (by omega)) mv_11_86 pd_X11_in ⟨by omega, by omega⟩ ⟨by omega, by omega⟩ rfl (Nat.le_of_ble_eq_true rfl) dX11_edge_29 ?_
        rintro _ _ _ ⟨rfl, rfl, z7, rfl, hz7⟩
        refine z_if_eq (t := 43) C dX11_edge_32 (by decide) (by omega) (fun c8 => ?_) (fun c8 => ?_)
        · skip
          refine z_bipush C dX11_edge_43 (by decide) ?_
          rw [hQ]
          exact z_iret C hrt dX11_edge_45 (⟨s_edges, s_isNeeded, s_states, s_runs, a_machine, a_from, a_to, a_channel, a_resets, a_guards, rfl, rfl, by omega, by omega, by omega, by omega, Ha_machine, Ha_from, Ha_to, Ha_channel, Ha_resets, Ha_guards, by unfold z_edgeN z_eBad; split <;> (try split) <;> (try split) <;> omega, by first | exact hch | exact z_ch0, by first | exact (if_neg (by unfold z_eBad; split <;> (try split) <;> (try split) <;> omega)).symm | exact (if_pos (by unfold z_eBad; split <;> (try split) <;> (try split) <;> omega)).symm, by first | exact (if_neg (by unfold z_eBad; split <;> (try split) <;> (try split) <;> omega)).symm | exact (if_pos (by unfold z_eBad; split <;> (try split) <;> (try split) <;> omega)).symm, by first | exact (if_neg (by unfold z_eBad; split <;> (try split) <;> (try split) <;> omega)).symm | exact (if_pos (by unfold z_eBad; split <;> (try split) <;> (try split) <;> omega)).symm, by first | exact (if_neg (by unfold z_eBad; split <;> (try split) <;> (try split) <;> omega)).symm | exact (if_pos (by unfold z_eBad; split <;> (try split) <;> (try split) <;> omega)).symm, by first | exact (if_neg (by unfold z_eBad; split <;> (try split) <;> (try split) <;> omega)).symm | exact (if_pos (by unfold z_eBad; split <;> (try split) <;> (try split) <;> omega)).symm, by first | exact (if_neg (by unfold z_eBad; split <;> (try split) <;> (try split) <;> omega)).symm | exact (if_pos (by unfold z_eBad; split <;> (try split) <;> (try split) <;> omega)).symm, by first | exact (z_sel_neg (by unfold z_eBad; split <;> (try split) <;> (try split) <;> omega)).symm | exact (z_sel_pos (by unfold z_eBad; split <;> (try split) <;> (try split) <;> omega)).symm, by first | exact (z_sel_neg (by unfold z_eBad; split <;> (try split) <;> (try split) <;> omega)).symm | exact (z_sel_pos (by unfold z_eBad; split <;> (try split) <;> (try split) <;> omega)).symm, by first | exact (z_sel_neg (by unfold z_eBad; split <;> (try split) <;> (try split) <;> omega)).symm | exact (z_sel_pos (by unfold z_eBad; split <;> (try split) <;> (try split) <;> omega)).symm, _, rfl, by unfold z_edgeR z_eBad; split <;> (try split) <;> (try split) <;> omega⟩) (by omega) (by omega)
        · skip
          refine z_iload C 5 dX11_edge_35 rfl ?_
          refine z_bipush C dX11_edge_37 (by decide) ?_
          obtain ⟨b9, hb9, rb9⟩ := z_bits (z_i s0 &&& z_i (-15))
          refine z_iand C hb9 dX11_edge_39 ?_
          have qb9 := z_bitsE hb9 rb9
          refine z_if_eq (t := 46) C dX11_edge_40 (by decide) (by omega) (fun c10 => ?_) (fun c10 => ?_)
          · skip
            refine z_aloadn C 0 dX11_edge_46 rfl rfl ?_
            refine z_get C 0 (by decide) rfl rfl z_it11 0 (by decide) rfl fl_11_90 rfl dX11_edge_47 ?_
            refine z_bipush C dX11_edge_50 (by decide) ?_
            refine z_icmp_ne (t := 58) C dX11_edge_52 (by decide) (by omega) (by omega) (fun c11 => ?_) (fun c11 => ?_)
            · skip
              refine z_aloadn C 0 dX11_edge_58 rfl rfl ?_
              refine z_get C 0 (by decide) rfl rfl z_it11 1 (by decide) rfl fl_11_7 rfl dX11_edge_59 ?_
              refine z_aloadn C 0 dX11_edge_62 rfl rfl ?_
              refine z_get C 0 (by decide) rfl rfl z_it11 0 (by decide) rfl fl_11_90 rfl dX11_edge_63 ?_
              refine z_iloadn C 1 dX11_edge_66 rfl rfl ?_
              refine z_iast C 1 (by decide) rfl (by decide) (by omega) (by omega) dX11_edge_67 ?_
              refine z_ext (S' := (z_zm ad ks s_edges s_isNeeded s_explored s_states s_isMoved s_runs s_runTime s_runMoves w_h (va_up a_machine (s_edges : Int).toNat m0) a_from a_to a_channel a_resets a_guards a_guardOf a_limits a_limitOf a_places a_zones a_parent a_moveE a_moveF a_moves a_z a_ahead a_at a_amounts a_way a_moments a_runAt a_runClock)) upM_a_machine ?_
              have h12 : ∀ j, 0 ≤ (va_up a_machine (s_edges : Int).toNat m0) j ∧ (va_up a_machine (s_edges : Int).toNat m0) j ≤ 2 := z_upP (P := fun j v => 0 ≤ v ∧ v ≤ 2) Ha_machine (by omega)
              refine z_aloadn C 0 dX11_edge_68 rfl rfl ?_
              refine z_get C 0 (by decide) rfl rfl z_it11 2 (by decide) rfl fl_11_13 rfl dX11_edge_69 ?_
              refine z_aloadn C 0 dX11_edge_72 rfl rfl ?_
              refine z_get C 0 (by decide) rfl rfl z_it11 0 (by decide) rfl fl_11_90 rfl dX11_edge_73 ?_
              refine z_iloadn C 2 dX11_edge_76 rfl rfl ?_
              refine z_iast C 2 (by decide) rfl (by decide) (by omega) (by omega) dX11_edge_77 ?_
              refine z_ext (S' := (z_zm ad ks s_edges s_isNeeded s_explored s_states s_isMoved s_runs s_runTime s_runMoves w_h (va_up a_machine (s_edges : Int).toNat m0) (va_up a_from (s_edges : Int).toNat p0) a_to a_channel a_resets a_guards a_guardOf a_limits a_limitOf a_places a_zones a_parent a_moveE a_moveF a_moves a_z a_ahead a_at a_amounts a_way a_moments a_runAt a_runClock)) upM_a_from ?_
              have h13 : ∀ j, 0 ≤ (va_up a_from (s_edges : Int).toNat p0) j ∧ (va_up a_from (s_edges : Int).toNat p0) j ≤ 5 := z_upP (P := fun j v => 0 ≤ v ∧ v ≤ 5) Ha_from (by omega)
              refine z_aloadn C 0 dX11_edge_78 rfl rfl ?_
              refine z_get C 0 (by decide) rfl rfl z_it11 3 (by decide) rfl fl_11_16 rfl dX11_edge_79 ?_
              refine z_aloadn C 0 dX11_edge_82 rfl rfl ?_
              refine z_get C 0 (by decide) rfl rfl z_it11 0 (by decide) rfl fl_11_90 rfl dX11_edge_83 ?_
              refine z_iloadn C 3 dX11_edge_86 rfl rfl ?_
              refine z_iast C 3 (by decide) rfl (by decide) (by omega) (by omega) dX11_edge_87 ?_
              refine z_ext (S' := (z_zm ad ks s_edges s_isNeeded s_explored s_states s_isMoved s_runs s_runTime s_runMoves w_h (va_up a_machine (s_edges : Int).toNat m0) (va_up a_from (s_edges : Int).toNat p0) (va_up a_to (s_edges : Int).toNat q0) a_channel a_resets a_guards a_guardOf a_limits a_limitOf a_places a_zones a_parent a_moveE a_moveF a_moves a_z a_ahead a_at a_amounts a_way a_moments a_runAt a_runClock)) upM_a_to ?_
              have h14 : ∀ j, 0 ≤ (va_up a_to (s_edges : Int).toNat q0) j ∧ (va_up a_to (s_edges : Int).toNat q0) j ≤ 5 := z_upP (P := fun j v => 0 ≤ v ∧ v ≤ 5) Ha_to (by omega)
              refine z_aloadn C 0 dX11_edge_88 rfl rfl ?_
              refine z_get C 0 (by decide) rfl rfl z_it11 4 (by decide) rfl fl_11_19 rfl dX11_edge_89 ?_
              refine z_aloadn C 0 dX11_edge_92 rfl rfl ?_
              refine z_get C 0 (by decide) rfl rfl z_it11 0 (by decide) rfl fl_11_90 rfl dX11_edge_93 ?_
              refine z_iload C 4 dX11_edge_96 rfl ?_
              refine z_iast C 4 (by decide) rfl (by decide) (by omega) (by omega) dX11_edge_98 ?_
              refine z_ext (S' := (z_zm ad ks s_edges s_isNeeded s_explored s_states s_isMoved s_runs s_runTime s_runMoves w_h (va_up a_machine (s_edges : Int).toNat m0) (va_up a_from (s_edges : Int).toNat p0) (va_up a_to (s_edges : Int).toNat q0) (va_up a_channel (s_edges : Int).toNat b0) a_resets a_guards a_guardOf a_limits a_limitOf a_places a_zones a_parent a_moveE a_moveF a_moves a_z a_ahead a_at a_amounts a_way a_moments a_runAt a_runClock)) upM_a_channel ?_
              have h15 : ∀ j, -4 ≤ (va_up a_channel (s_edges : Int).toNat b0) j ∧ (va_up a_channel (s_edges : Int).toNat b0) j ≤ 4 := z_upP (P := fun j v => -4 ≤ v ∧ v ≤ 4) Ha_channel (by omega)
              refine z_aloadn C 0 dX11_edge_99 rfl rfl ?_
              refine z_get C 0 (by decide) rfl rfl z_it11 5 (by decide) rfl fl_11_22 rfl dX11_edge_100 ?_
              refine z_aloadn C 0 dX11_edge_103 rfl rfl ?_
              refine z_get C 0 (by decide) rfl rfl z_it11 0 (by decide) rfl fl_11_90 rfl dX11_edge_104 ?_
              refine z_iload C 5 dX11_edge_107 rfl ?_
              refine z_iast C 5 (by decide) rfl (by decide) (by omega) (by omega) dX11_edge_109 ?_
              refine z_ext (S' := (z_zm ad ks s_edges s_isNeeded s_explored s_states s_isMoved s_runs s_runTime s_runMoves w_h (va_up a_machine (s_edges : Int).toNat m0) (va_up a_from (s_edges : Int).toNat p0) (va_up a_to (s_edges : Int).toNat q0) (va_up a_channel (s_edges : Int).toNat b0) (va_up a_resets (s_edges : Int).toNat s0) a_guards a_guardOf a_limits a_limitOf a_places a_zones a_parent a_moveE a_moveF a_moves a_z a_ahead a_at a_amounts a_way a_moments a_runAt a_runClock)) upM_a_resets ?_
              have h16 : ∀ j, z_rg ((va_up a_resets (s_edges : Int).toNat s0) j) := z_upP (P := fun j v => z_rg (v)) Ha_resets (by omega)
              refine z_aloadn C 0 dX11_edge_110 rfl rfl ?_
              refine z_get C 0 (by decide) rfl rfl z_it11 6 (by decide) rfl fl_11_25 rfl dX11_edge_111 ?_
              refine z_aloadn C 0 dX11_edge_114 rfl rfl ?_
              refine z_get C 0 (by decide) rfl rfl z_it11 0 (by decide) rfl fl_11_90 rfl dX11_edge_115 ?_
              refine z_iconst C dX11_edge_118 ?_
              refine z_iast C 6 (by decide) rfl (by decide) (by omega) (by omega) dX11_edge_119 ?_
              refine z_ext (S' := (z_zm ad ks s_edges s_isNeeded s_explored s_states s_isMoved s_runs s_runTime s_runMoves w_h (va_up a_machine (s_edges : Int).toNat m0) (va_up a_from (s_edges : Int).toNat p0) (va_up a_to (s_edges : Int).toNat q0) (va_up a_channel (s_edges : Int).toNat b0) (va_up a_resets (s_edges : Int).toNat s0) (va_up a_guards (s_edges : Int).toNat 0) a_guardOf a_limits a_limitOf a_places a_zones a_parent a_moveE a_moveF a_moves a_z a_ahead a_at a_amounts a_way a_moments a_runAt a_runClock)) upM_a_guards ?_
              have h17 : ∀ j, 0 ≤ (va_up a_guards (s_edges : Int).toNat 0) j ∧ (va_up a_guards (s_edges : Int).toNat 0) j ≤ 2 := z_upP (P := fun j v => 0 ≤ v ∧ v ≤ 2) Ha_guards (by omega)
              refine z_aloadn C 0 dX11_edge_120 rfl rfl ?_
              refine z_dup C dX11_edge_121 rfl ?_
              refine z_get C 0 (by decide) rfl rfl z_it11 0 (by decide) rfl fl_11_90 rfl dX11_edge_122 ?_
              refine z_iconst C dX11_edge_125 ?_
              refine z_iadd C dX11_edge_126 ?_
              refine z_put C 0 (by decide) rfl rfl z_it11 tyX11 tyX11_ok nmX11 0 (by decide) rfl (Or.inl rfl) fl_11_90 z_pfI rfl rfl (Nat.le_of_ble_eq_true rfl) dX11_edge_127 ?_
              refine z_ext (S' := (z_zm ad ks (s_edges + 1) s_isNeeded s_explored s_states s_isMoved s_runs s_runTime s_runMoves w_h (va_up a_machine (s_edges : Int).toNat m0) (va_up a_from (s_edges : Int).toNat p0) (va_up a_to (s_edges : Int).toNat q0) (va_up a_channel (s_edges : Int).toNat b0) (va_up a_resets (s_edges : Int).toNat s0) (va_up a_guards (s_edges : Int).toNat 0) a_guardOf a_limits a_limitOf a_places a_zones a_parent a_moveE a_moveF a_moves a_z a_ahead a_at a_amounts a_way a_moments a_runAt a_runClock)) upM_s_edges ?_
              refine z_aloadn C 0 dX11_edge_130 rfl rfl ?_
              refine z_callV C (cm_X11_changed l ) mv_11_104 (z_atS 0 11 (by decide) rfl rfl rfl) pd_X11_changed ⟨by omega, by omega⟩ ⟨by omega, by omega⟩ rfl (Nat.le_of_ble_eq_true rfl) dX11_edge_131 ?_
              rintro _ _ _ ⟨rfl, rfl, rfl⟩
              refine z_aloadn C 0 dX11_edge_134 rfl rfl ?_
              refine z_get C 0 (by decide) rfl rfl z_it11 0 (by decide) rfl fl_11_90 rfl dX11_edge_135 ?_
              refine z_iconst C dX11_edge_138 ?_
              refine z_isub C dX11_edge_139 ?_
              rw [hQ]
              exact z_iret C hrt dX11_edge_140 (⟨(s_edges + 1), 1, 0, 0, (va_up a_machine (s_edges : Int).toNat m0), (va_up a_from (s_edges : Int).toNat p0), (va_up a_to (s_edges : Int).toNat q0), (va_up a_channel (s_edges : Int).toNat b0), (va_up a_resets (s_edges : Int).toNat s0), (va_up a_guards (s_edges : Int).toNat 0), rfl, rfl, by omega, by omega, by omega, by omega, h12, h13, h14, h15, h16, h17, by unfold z_edgeN z_eBad; split <;> (try split) <;> (try split) <;> omega, by first | exact hch | exact z_ch0, by first | exact (if_neg (by unfold z_eBad; split <;> (try split) <;> (try split) <;> omega)).symm | exact (if_pos (by unfold z_eBad; split <;> (try split) <;> (try split) <;> omega)).symm, by first | exact (if_neg (by unfold z_eBad; split <;> (try split) <;> (try split) <;> omega)).symm | exact (if_pos (by unfold z_eBad; split <;> (try split) <;> (try split) <;> omega)).symm, by first | exact (if_neg (by unfold z_eBad; split <;> (try split) <;> (try split) <;> omega)).symm | exact (if_pos (by unfold z_eBad; split <;> (try split) <;> (try split) <;> omega)).symm, by first | exact (if_neg (by unfold z_eBad; split <;> (try split) <;> (try split) <;> omega)).symm | exact (if_pos (by unfold z_eBad; split <;> (try split) <;> (try split) <;> omega)).symm, by first | exact (if_neg (by unfold z_eBad; split <;> (try split) <;> (try split) <;> omega)).symm | exact (if_pos (by unfold z_eBad; split <;> (try split) <;> (try split) <;> omega)).symm, by first | exact (if_neg (by unfold z_eBad; split <;> (try split) <;> (try split) <;> omega)).symm | exact (if_pos (by unfold z_eBad; split <;> (try split) <;> (try split) <;> omega)).symm, by first | exact (z_sel_neg (by unfold z_eBad; split <;> (try split) <;> (try split) <;> omega)).symm | exact (z_sel_pos (by unfold z_eBad; split <;> (try split) <;> (try split) <;> omega)).symm, by first | exact (z_sel_neg (by unfold z_eBad; split <;> (try split) <;> (try split) <;> omega)).symm | exact (z_sel_pos (by unfold z_eBad; split <;> (try split) <;> (try split) <;> omega)).symm, by first | exact (z_sel_neg (by unfold z_eBad; split <;> (try split) <;> (try split) <;> omega)).symm | exact (z_sel_pos (by unfold z_eBad; split <;> (try split) <;> (try split) <;> omega)).symm, _, rfl, by unfold z_edgeR z_eBad; split <;> (try split) <;> (try split) <;> omega⟩) (by omega) (by omega)
            · skip
              refine z_bipush C dX11_edge_55 (by decide) ?_
              rw [hQ]
              exact z_iret C hrt dX11_edge_57 (⟨s_edges, s_isNeeded, s_states, s_runs, a_machine, a_from, a_to, a_channel, a_resets, a_guards, rfl, rfl, by omega, by omega, by omega, by omega, Ha_machine, Ha_from, Ha_to, Ha_channel, Ha_resets, Ha_guards, by unfold z_edgeN z_eBad; split <;> (try split) <;> (try split) <;> omega, by first | exact hch | exact z_ch0, by first | exact (if_neg (by unfold z_eBad; split <;> (try split) <;> (try split) <;> omega)).symm | exact (if_pos (by unfold z_eBad; split <;> (try split) <;> (try split) <;> omega)).symm, by first | exact (if_neg (by unfold z_eBad; split <;> (try split) <;> (try split) <;> omega)).symm | exact (if_pos (by unfold z_eBad; split <;> (try split) <;> (try split) <;> omega)).symm, by first | exact (if_neg (by unfold z_eBad; split <;> (try split) <;> (try split) <;> omega)).symm | exact (if_pos (by unfold z_eBad; split <;> (try split) <;> (try split) <;> omega)).symm, by first | exact (if_neg (by unfold z_eBad; split <;> (try split) <;> (try split) <;> omega)).symm | exact (if_pos (by unfold z_eBad; split <;> (try split) <;> (try split) <;> omega)).symm, by first | exact (if_neg (by unfold z_eBad; split <;> (try split) <;> (try split) <;> omega)).symm | exact (if_pos (by unfold z_eBad; split <;> (try split) <;> (try split) <;> omega)).symm, by first | exact (if_neg (by unfold z_eBad; split <;> (try split) <;> (try split) <;> omega)).symm | exact (if_pos (by unfold z_eBad; split <;> (try split) <;> (try split) <;> omega)).symm, by first | exact (z_sel_neg (by unfold z_eBad; split <;> (try split) <;> (try split) <;> omega)).symm | exact (z_sel_pos (by unfold z_eBad; split <;> (try split) <;> (try split) <;> omega)).symm, by first | exact (z_sel_neg (by unfold z_eBad; split <;> (try split) <;> (try split) <;> omega)).symm | exact (z_sel_pos (by unfold z_eBad; split <;> (try split) <;> (try split) <;> omega)).symm, by first | exact (z_sel_neg (by unfold z_eBad; split <;> (try split) <;> (try split) <;> omega)).symm | exact (z_sel_pos (by unfold z_eBad; split <;> (try split) <;> (try split) <;> omega)).symm, _, rfl, by unfold z_edgeR z_eBad; split <;> (try split) <;> (try split) <;> omega⟩) (by omega) (by omega)
          · skip
            refine z_bipush C dX11_edge_43 (by decide) ?_
            rw [hQ]
            exact z_iret C hrt dX11_edge_45 (⟨s_edges, s_isNeeded, s_states, s_runs, a_machine, a_from, a_to, a_channel, a_resets, a_guards, rfl, rfl, by omega, by omega, by omega, by omega, Ha_machine, Ha_from, Ha_to, Ha_channel, Ha_resets, Ha_guards, by unfold z_edgeN z_eBad; split <;> (try split) <;> (try split) <;> omega, by first | exact hch | exact z_ch0, by first | exact (if_neg (by unfold z_eBad; split <;> (try split) <;> (try split) <;> omega)).symm | exact (if_pos (by unfold z_eBad; split <;> (try split) <;> (try split) <;> omega)).symm, by first | exact (if_neg (by unfold z_eBad; split <;> (try split) <;> (try split) <;> omega)).symm | exact (if_pos (by unfold z_eBad; split <;> (try split) <;> (try split) <;> omega)).symm, by first | exact (if_neg (by unfold z_eBad; split <;> (try split) <;> (try split) <;> omega)).symm | exact (if_pos (by unfold z_eBad; split <;> (try split) <;> (try split) <;> omega)).symm, by first | exact (if_neg (by unfold z_eBad; split <;> (try split) <;> (try split) <;> omega)).symm | exact (if_pos (by unfold z_eBad; split <;> (try split) <;> (try split) <;> omega)).symm, by first | exact (if_neg (by unfold z_eBad; split <;> (try split) <;> (try split) <;> omega)).symm | exact (if_pos (by unfold z_eBad; split <;> (try split) <;> (try split) <;> omega)).symm, by first | exact (if_neg (by unfold z_eBad; split <;> (try split) <;> (try split) <;> omega)).symm | exact (if_pos (by unfold z_eBad; split <;> (try split) <;> (try split) <;> omega)).symm, by first | exact (z_sel_neg (by unfold z_eBad; split <;> (try split) <;> (try split) <;> omega)).symm | exact (z_sel_pos (by unfold z_eBad; split <;> (try split) <;> (try split) <;> omega)).symm, by first | exact (z_sel_neg (by unfold z_eBad; split <;> (try split) <;> (try split) <;> omega)).symm | exact (z_sel_pos (by unfold z_eBad; split <;> (try split) <;> (try split) <;> omega)).symm, by first | exact (z_sel_neg (by unfold z_eBad; split <;> (try split) <;> (try split) <;> omega)).symm | exact (z_sel_pos (by unfold z_eBad; split <;> (try split) <;> (try split) <;> omega)).symm, _, rfl, by unfold z_edgeR z_eBad; split <;> (try split) <;> (try split) <;> omega⟩) (by omega) (by omega)
      · skip
        refine z_bipush C dX11_edge_21 (by decide) ?_
        rw [hQ]
        exact z_iret C hrt dX11_edge_23 (⟨s_edges, s_isNeeded, s_states, s_runs, a_machine, a_from, a_to, a_channel, a_resets, a_guards, rfl, rfl, by omega, by omega, by omega, by omega, Ha_machine, Ha_from, Ha_to, Ha_channel, Ha_resets, Ha_guards, by unfold z_edgeN z_eBad; split <;> (try split) <;> (try split) <;> omega, by first | exact hch | exact z_ch0, by first | exact (if_neg (by unfold z_eBad; split <;> (try split) <;> (try split) <;> omega)).symm | exact (if_pos (by unfold z_eBad; split <;> (try split) <;> (try split) <;> omega)).symm, by first | exact (if_neg (by unfold z_eBad; split <;> (try split) <;> (try split) <;> omega)).symm | exact (if_pos (by unfold z_eBad; split <;> (try split) <;> (try split) <;> omega)).symm, by first | exact (if_neg (by unfold z_eBad; split <;> (try split) <;> (try split) <;> omega)).symm | exact (if_pos (by unfold z_eBad; split <;> (try split) <;> (try split) <;> omega)).symm, by first | exact (if_neg (by unfold z_eBad; split <;> (try split) <;> (try split) <;> omega)).symm | exact (if_pos (by unfold z_eBad; split <;> (try split) <;> (try split) <;> omega)).symm, by first | exact (if_neg (by unfold z_eBad; split <;> (try split) <;> (try split) <;> omega)).symm | exact (if_pos (by unfold z_eBad; split <;> (try split) <;> (try split) <;> omega)).symm, by first | exact (if_neg (by unfold z_eBad; split <;> (try split) <;> (try split) <;> omega)).symm | exact (if_pos (by unfold z_eBad; split <;> (try split) <;> (try split) <;> omega)).symm, by first | exact (z_sel_neg (by unfold z_eBad; split <;> (try split) <;> (try split) <;> omega)).symm | exact (z_sel_pos (by unfold z_eBad; split <;> (try split) <;> (try split) <;> omega)).symm, by first | exact (z_sel_neg (by unfold z_eBad; split <;> (try split) <;> (try split) <;> omega)).symm | exact (z_sel_pos (by unfold z_eBad; split <;> (try split) <;> (try split) <;> omega)).symm, by first | exact (z_sel_neg (by unfold z_eBad; split <;> (try split) <;> (try split) <;> omega)).symm | exact (z_sel_pos (by unfold z_eBad; split <;> (try split) <;> (try split) <;> omega)).symm, _, rfl, by unfold z_edgeR z_eBad; split <;> (try split) <;> (try split) <;> omega⟩) (by omega) (by omega)
set_option maxRecDepth 20000 in
theorem cx_X11_guard (l : Launch) {D : va_G} {A : Nat → Prop} {ad : Nat → Nat} {ks : z_Ks} {s_edges s_isNeeded s_explored s_states s_isMoved s_runs s_runTime s_runMoves : Int} {w_h : Int64} {a_machine a_from a_to a_channel a_resets a_guards a_guardOf a_limits a_limitOf a_places a_zones a_parent a_moveE a_moveF a_moves a_z a_ahead a_at a_amounts a_way a_moments a_runAt a_runClock : Nat → Int} {Y : Nat → Option va_E} (e0 x0 s0 c0 : Int) (Hs_edges : (0 ≤ s_edges ∧ s_edges ≤ 20)) (Hs_isNeeded : (s_isNeeded = 0 ∨ s_isNeeded = 1)) (Hs_states : (0 ≤ s_states ∧ s_states ≤ 120)) (Hs_runs : (s_runs = 0 ∨ s_runs = 1)) (Ha_guards : (∀ j, 0 ≤ a_guards j ∧ a_guards j ≤ 2)) (Ha_guardOf : (∀ j, (j % 3 = 0 → a_guardOf j ≤ 3) ∧ 0 ≤ a_guardOf j ∧ a_guardOf j ≤ 1000)) (h0 : z_rg e0) (h1 : z_rg x0) (h2 : z_rg s0) (h3 : z_rg c0) (hch : z_ch s_states a_parent a_moves a_moveE) : z_Met l yX11_guard cX11_guard 6 (some .int) 2 43 0 0 D A 24 ad ks [.ref (ad 0), z_v e0, z_v x0, z_v s0, z_v c0] (z_zm ad ks s_edges s_isNeeded s_explored s_states s_isMoved s_runs s_runTime s_runMoves w_h a_machine a_from a_to a_channel a_resets a_guards a_guardOf a_limits a_limitOf a_places a_zones a_parent a_moveE a_moveF a_moves a_z a_ahead a_at a_amounts a_way a_moments a_runAt a_runClock) Y (fun r S' Y' => ∃ ns_isNeeded : Int, ∃ ns_states : Int, ∃ ns_runs : Int, ∃ na_guards : Nat → Int, ∃ na_guardOf : Nat → Int, S' = (z_zm ad ks s_edges ns_isNeeded s_explored ns_states s_isMoved ns_runs s_runTime s_runMoves w_h a_machine a_from a_to a_channel a_resets na_guards na_guardOf a_limits a_limitOf a_places a_zones a_parent a_moveE a_moveF a_moves a_z a_ahead a_at a_amounts a_way a_moments a_runAt a_runClock) ∧ Y = Y' ∧ (ns_isNeeded = 0 ∨ ns_isNeeded = 1) ∧ (0 ≤ ns_states ∧ ns_states ≤ 120) ∧ (ns_runs = 0 ∨ ns_runs = 1) ∧ (∀ j, 0 ≤ na_guards j ∧ na_guards j ≤ 2) ∧ (∀ j, (j % 3 = 0 → na_guardOf j ≤ 3) ∧ 0 ≤ na_guardOf j ∧ na_guardOf j ≤ 1000) ∧ z_ch ns_states a_parent a_moves a_moveE ∧ na_guards = (if z_gOK e0 x0 s0 c0 s_edges (a_guards e0.toNat) then va_up a_guards e0.toNat (a_guards e0.toNat + 1) else a_guards) ∧ na_guardOf = (if z_gOK e0 x0 s0 c0 s_edges (a_guards e0.toNat) then z_t3 a_guardOf (6 * e0 + 3 * a_guards e0.toNat) x0 s0 c0 else a_guardOf) ∧ ns_isNeeded = z_sel (z_gOK e0 x0 s0 c0 s_edges (a_guards e0.toNat)) 1 s_isNeeded ∧ ns_states = z_sel (z_gOK e0 x0 s0 c0 s_edges (a_guards e0.toNat)) 0 s_states ∧ ns_runs = z_sel (z_gOK e0 x0 s0 c0 s_edges (a_guards e0.toNat)) 0 s_runs ∧ ∃ z : Int, r = some (z_v z) ∧ (z = z_gR e0 x0 s0 c0 s_edges (a_guards e0.toNat))) := by
  refine z_start2 (by decide) (Nat.le_of_ble_eq_true rfl) ?_
  intro p e R s m args below meth c Q C hRf hRc hRs hRl hQ hrt hnm
  refine z_loc (L' := [(0, .ref (ad 0)), (1, z_v e0), (2, z_v x0), (3, z_v s0), (4, z_v c0)]) [0, 1, 2, 3, 4] rfl ?_
  refine z_aloadn C 0 dX11_guard_0 rfl rfl ?_
  refine z_iloadn C 1 dX11_guard_1 rfl rfl ?_
  refine z_callV C (cm_X11_isEdge l e0 (by omega) (by omega)) mv_11_107 (z_atS 0 11 (by decide) rfl rfl rfl) pd_X11_isEdge ⟨by omega, by omega⟩ ⟨by omega, by omega⟩ rfl (Nat.le_of_ble_eq_true rfl) dX11_guard_2 ?_
  rintro _ _ _ ⟨rfl, rfl, z1, rfl, hz1⟩
  refine z_if_eq (t := 15) C dX11_guard_5 (by decide) (by omega) (fun c2 => ?_) (fun c2 => ?_)
  · skip
    refine z_bipush C dX11_guard_15 (by decide) ?_
    rw [hQ]
    exact z_iret C hrt dX11_guard_17 (⟨s_isNeeded, s_states, s_runs, a_guards, a_guardOf, rfl, rfl, by omega, by omega, by omega, Ha_guards, Ha_guardOf, by first | exact hch | exact z_ch0, by first | exact (if_neg (by omega)).symm | (subst_vars; exact (if_pos (by omega)).symm), by first | exact (if_neg (by omega)).symm | (subst_vars; exact (if_pos (by omega)).symm), by first | exact (z_sel_neg (by omega)).symm | (subst_vars; exact (z_sel_pos (by omega)).symm), by first | exact (z_sel_neg (by omega)).symm | (subst_vars; exact (z_sel_pos (by omega)).symm), by first | exact (z_sel_neg (by omega)).symm | (subst_vars; exact (z_sel_pos (by omega)).symm), _, rfl, by unfold z_gR; split <;> (try split) <;> (try split) <;> omega⟩) (by omega) (by omega)
  · skip
    refine z_iloadn C 2 dX11_guard_8 rfl rfl ?_
    refine z_callS C (cm_X11_isClock l x0 (by omega)) mv_11_110 pd_X11_isClock ⟨by omega, by omega⟩ ⟨by omega, by omega⟩ rfl (Nat.le_of_ble_eq_true rfl) dX11_guard_9 ?_
    rintro _ _ _ ⟨rfl, rfl, z3, rfl, hz3⟩
    refine z_if_ne (t := 18) C dX11_guard_12 (by decide) (by omega) (fun c4 => ?_) (fun c4 => ?_)
    · skip
      refine z_iloadn C 3 dX11_guard_18 rfl rfl ?_
      refine z_iconst C dX11_guard_19 ?_
      refine z_iconst C dX11_guard_20 ?_
      refine z_callS C (cm_X11_in l s0 0 4 (by omega) (by omega) (by omega)) mv_11_86 pd_X11_in ⟨by omega, by omega⟩ ⟨by omega, by omega⟩ rfl (Nat.le_of_ble_eq_true rfl) dX11_guard_21 ?_
      rintro _ _ _ ⟨rfl, rfl, z5, rfl, hz5⟩
      refine z_if_eq (t := 39) C dX11_guard_24 (by decide) (by omega) (fun c6 => ?_) (fun c6 => ?_)
      · skip
        refine z_bipush C dX11_guard_39 (by decide) ?_
        rw [hQ]
        exact z_iret C hrt dX11_guard_41 (⟨s_isNeeded, s_states, s_runs, a_guards, a_guardOf, rfl, rfl, by omega, by omega, by omega, Ha_guards, Ha_guardOf, by first | exact hch | exact z_ch0, by first | exact (if_neg (by omega)).symm | (subst_vars; exact (if_pos (by omega)).symm), by first | exact (if_neg (by omega)).symm | (subst_vars; exact (if_pos (by omega)).symm), by first | exact (z_sel_neg (by omega)).symm | (subst_vars; exact (z_sel_pos (by omega)).symm), by first | exact (z_sel_neg (by omega)).symm | (subst_vars; exact (z_sel_pos (by omega)).symm), by first | exact (z_sel_neg (by omega)).symm | (subst_vars; exact (z_sel_pos (by omega)).symm), _, rfl, by unfold z_gR; split <;> (try split) <;> (try split) <;> omega⟩) (by omega) (by omega)
      · skip
        refine z_iload C 4 dX11_guard_27 rfl ?_
        refine z_iconst C dX11_guard_29 ?_
        refine z_sipush C dX11_guard_30 (by decide) ?_
        refine z_callS C (cm_X11_in l c0 0 1000 (by omega) (by omega) (by omega)) mv_11_86 pd_X11_in ⟨by omega, by omega⟩ ⟨by omega, by omega⟩ rfl (Nat.le_of_ble_eq_true rfl) dX11_guard_33 ?_
        rintro _ _ _ ⟨rfl, rfl, z7, rfl, hz7⟩
        refine z_if_ne (t := 42) C dX11_guard_36 (by decide) (by omega) (fun c8 => ?_) (fun c8 => ?_)
        · skip
          refine z_aloadn C 0 dX11_guard_42 rfl rfl ?_
          refine z_get C 0 (by decide) rfl rfl z_it11 6 (by decide) rfl fl_11_25 rfl dX11_guard_43 ?_
          refine z_iloadn C 1 dX11_guard_46 rfl rfl ?_
          refine z_iald C 6 (by decide) rfl (by decide) (by omega) (by omega) dX11_guard_47 ?_
          have rx9 := Ha_guards (e0 : Int).toNat
          generalize ex9 : a_guards (e0 : Int).toNat = x9 at rx9 ⊢
          refine z_iconst C dX11_guard_48 ?_
          refine z_icmp_ne (t := 55) C dX11_guard_49 (by decide) (by omega) (by omega) (fun c10 => ?_) (fun c10 => ?_)
          · skip
            refine z_bipush C dX11_guard_55 (by decide) ?_
            refine z_iloadn C 1 dX11_guard_57 rfl rfl ?_
            refine z_imul C dX11_guard_58 ?_
            refine z_iconst C dX11_guard_59 ?_
            refine z_aloadn C 0 dX11_guard_60 rfl rfl ?_
            refine z_get C 0 (by decide) rfl rfl z_it11 6 (by decide) rfl fl_11_25 rfl dX11_guard_61 ?_
            refine z_iloadn C 1 dX11_guard_64 rfl rfl ?_
            refine z_iald C 6 (by decide) rfl (by decide) (by omega) (by omega) dX11_guard_65 ?_
            rw [ex9]
            refine z_imul C dX11_guard_66 ?_
            refine z_iadd C dX11_guard_67 ?_
            refine z_istore (L' := [(5, z_v ((6 * e0) + (3 * x9))), (0, .ref (ad 0)), (1, z_v e0), (2, z_v x0), (3, z_v s0), (4, z_v c0)]) C dX11_guard_68 (by decide) rfl ?_
            refine z_aloadn C 1 dX11_guard_70 rfl rfl ?_
            refine z_get C 0 (by decide) rfl rfl z_it11 7 (by decide) rfl fl_11_28 rfl dX11_guard_71 ?_
            refine z_iload C 0 dX11_guard_74 rfl ?_
            refine z_iloadn C 3 dX11_guard_76 rfl rfl ?_
            refine z_iast C 7 (by decide) rfl (by decide) (by omega) (by omega) dX11_guard_77 ?_
            refine z_ext (S' := (z_zm ad ks s_edges s_isNeeded s_explored s_states s_isMoved s_runs s_runTime s_runMoves w_h a_machine a_from a_to a_channel a_resets a_guards (va_up a_guardOf (((6 * e0) + (3 * x9)) : Int).toNat x0) a_limits a_limitOf a_places a_zones a_parent a_moveE a_moveF a_moves a_z a_ahead a_at a_amounts a_way a_moments a_runAt a_runClock)) upM_a_guardOf ?_
            have h11 : ∀ j, (j % 3 = 0 → (va_up a_guardOf (((6 * e0) + (3 * x9)) : Int).toNat x0) j ≤ 3) ∧ 0 ≤ (va_up a_guardOf (((6 * e0) + (3 * x9)) : Int).toNat x0) j ∧ (va_up a_guardOf (((6 * e0) + (3 * x9)) : Int).toNat x0) j ≤ 1000 := z_upP (P := fun j v => (j % 3 = 0 → v ≤ 3) ∧ 0 ≤ v ∧ v ≤ 1000) Ha_guardOf (by omega)
            refine z_aloadn C 1 dX11_guard_78 rfl rfl ?_
            refine z_get C 0 (by decide) rfl rfl z_it11 7 (by decide) rfl fl_11_28 rfl dX11_guard_79 ?_
            refine z_iload C 0 dX11_guard_82 rfl ?_
            refine z_iconst C dX11_guard_84 ?_
            refine z_iadd C dX11_guard_85 ?_
            refine z_iloadn C 4 dX11_guard_86 rfl rfl ?_
            refine z_iast C 7 (by decide) rfl (by decide) (by omega) (by omega) dX11_guard_87 ?_
            refine z_ext (S' := (z_zm ad ks s_edges s_isNeeded s_explored s_states s_isMoved s_runs s_runTime s_runMoves w_h a_machine a_from a_to a_channel a_resets a_guards (va_up (va_up a_guardOf (((6 * e0) + (3 * x9)) : Int).toNat x0) ((((6 * e0) + (3 * x9)) + 1) : Int).toNat s0) a_limits a_limitOf a_places a_zones a_parent a_moveE a_moveF a_moves a_z a_ahead a_at a_amounts a_way a_moments a_runAt a_runClock)) upM_a_guardOf ?_
            have h12 : ∀ j, (j % 3 = 0 → (va_up (va_up a_guardOf (((6 * e0) + (3 * x9)) : Int).toNat x0) ((((6 * e0) + (3 * x9)) + 1) : Int).toNat s0) j ≤ 3) ∧ 0 ≤ (va_up (va_up a_guardOf (((6 * e0) + (3 * x9)) : Int).toNat x0) ((((6 * e0) + (3 * x9)) + 1) : Int).toNat s0) j ∧ (va_up (va_up a_guardOf (((6 * e0) + (3 * x9)) : Int).toNat x0) ((((6 * e0) + (3 * x9)) + 1) : Int).toNat s0) j ≤ 1000 := z_upP (P := fun j v => (j % 3 = 0 → v ≤ 3) ∧ 0 ≤ v ∧ v ≤ 1000) h11 (by omega)
            refine z_aloadn C 1 dX11_guard_88 rfl rfl ?_
            refine z_get C 0 (by decide) rfl rfl z_it11 7 (by decide) rfl fl_11_28 rfl dX11_guard_89 ?_
            refine z_iload C 0 dX11_guard_92 rfl ?_
            refine z_iconst C dX11_guard_94 ?_
            refine z_iadd C dX11_guard_95 ?_
            refine z_iload C 5 dX11_guard_96 rfl ?_
            refine z_iast C 7 (by decide) rfl (by decide) (by omega) (by omega) dX11_guard_98 ?_
            refine z_ext (S' := (z_zm ad ks s_edges s_isNeeded s_explored s_states s_isMoved s_runs s_runTime s_runMoves w_h a_machine a_from a_to a_channel a_resets a_guards (va_up (va_up (va_up a_guardOf (((6 * e0) + (3 * x9)) : Int).toNat x0) ((((6 * e0) + (3 * x9)) + 1) : Int).toNat s0) ((((6 * e0) + (3 * x9)) + 2) : Int).toNat c0) a_limits a_limitOf a_places a_zones a_parent a_moveE a_moveF a_moves a_z a_ahead a_at a_amounts a_way a_moments a_runAt a_runClock)) upM_a_guardOf ?_
            have h13 : ∀ j, (j % 3 = 0 → (va_up (va_up (va_up a_guardOf (((6 * e0) + (3 * x9)) : Int).toNat x0) ((((6 * e0) + (3 * x9)) + 1) : Int).toNat s0) ((((6 * e0) + (3 * x9)) + 2) : Int).toNat c0) j ≤ 3) ∧ 0 ≤ (va_up (va_up (va_up a_guardOf (((6 * e0) + (3 * x9)) : Int).toNat x0) ((((6 * e0) + (3 * x9)) + 1) : Int).toNat s0) ((((6 * e0) + (3 * x9)) + 2) : Int).toNat c0) j ∧ (va_up (va_up (va_up a_guardOf (((6 * e0) + (3 * x9)) : Int).toNat x0) ((((6 * e0) + (3 * x9)) + 1) : Int).toNat s0) ((((6 * e0) + (3 * x9)) + 2) : Int).toNat c0) j ≤ 1000 := z_upP (P := fun j v => (j % 3 = 0 → v ≤ 3) ∧ 0 ≤ v ∧ v ≤ 1000) h12 (by omega)
            refine z_aloadn C 1 dX11_guard_99 rfl rfl ?_
            refine z_get C 0 (by decide) rfl rfl z_it11 6 (by decide) rfl fl_11_25 rfl dX11_guard_100 ?_
            refine z_iloadn C 2 dX11_guard_103 rfl rfl ?_
            refine z_dup2 C dX11_guard_104 rfl rfl ?_
            refine z_iald C 6 (by decide) rfl (by decide) (by omega) (by omega) dX11_guard_105 ?_
            rw [ex9]
            refine z_iconst C dX11_guard_106 ?_
            refine z_iadd C dX11_guard_107 ?_
            refine z_iast C 6 (by decide) rfl (by decide) (by omega) (by omega) dX11_guard_108 ?_
            refine z_ext (S' := (z_zm ad ks s_edges s_isNeeded s_explored s_states s_isMoved s_runs s_runTime s_runMoves w_h a_machine a_from a_to a_channel a_resets (va_up a_guards (e0 : Int).toNat (x9 + 1)) (va_up (va_up (va_up a_guardOf (((6 * e0) + (3 * x9)) : Int).toNat x0) ((((6 * e0) + (3 * x9)) + 1) : Int).toNat s0) ((((6 * e0) + (3 * x9)) + 2) : Int).toNat c0) a_limits a_limitOf a_places a_zones a_parent a_moveE a_moveF a_moves a_z a_ahead a_at a_amounts a_way a_moments a_runAt a_runClock)) upM_a_guards ?_
            have h14 : ∀ j, 0 ≤ (va_up a_guards (e0 : Int).toNat (x9 + 1)) j ∧ (va_up a_guards (e0 : Int).toNat (x9 + 1)) j ≤ 2 := z_upP (P := fun j v => 0 ≤ v ∧ v ≤ 2) Ha_guards (by omega)
            refine z_aloadn C 1 dX11_guard_109 rfl rfl ?_
            refine z_callV C (cm_X11_changed l ) mv_11_104 (z_atS 0 11 (by decide) rfl rfl rfl) pd_X11_changed ⟨by omega, by omega⟩ ⟨by omega, by omega⟩ rfl (Nat.le_of_ble_eq_true rfl) dX11_guard_110 ?_
            rintro _ _ _ ⟨rfl, rfl, rfl⟩
            refine z_aloadn C 1 dX11_guard_113 rfl rfl ?_
            refine z_get C 0 (by decide) rfl rfl z_it11 6 (by decide) rfl fl_11_25 rfl dX11_guard_114 ?_
            refine z_iloadn C 2 dX11_guard_117 rfl rfl ?_
            refine z_iald C 6 (by decide) rfl (by decide) (by omega) (by omega) dX11_guard_118 ?_
            rw [z_upS]
            rw [hQ]
            exact z_iret C hrt dX11_guard_119 (⟨1, 0, 0, (va_up a_guards (e0 : Int).toNat (x9 + 1)), (va_up (va_up (va_up a_guardOf (((6 * e0) + (3 * x9)) : Int).toNat x0) ((((6 * e0) + (3 * x9)) + 1) : Int).toNat s0) ((((6 * e0) + (3 * x9)) + 2) : Int).toNat c0), rfl, rfl, by omega, by omega, by omega, h14, h13, by first | exact hch | exact z_ch0, by first | exact (if_neg (by omega)).symm | (subst_vars; exact (if_pos (by omega)).symm), by first | exact (if_neg (by omega)).symm | (subst_vars; exact (if_pos (by omega)).symm), by first | exact (z_sel_neg (by omega)).symm | (subst_vars; exact (z_sel_pos (by omega)).symm), by first | exact (z_sel_neg (by omega)).symm | (subst_vars; exact (z_sel_pos (by omega)).symm), by first | exact (z_sel_neg (by omega)).symm | (subst_vars; exact (z_sel_pos (by omega)).symm), _, rfl, by unfold z_gR; split <;> (try split) <;> (try split) <;> omega⟩) (by omega) (by omega)
          · skip
            refine z_bipush C dX11_guard_52 (by decide) ?_
            rw [hQ]
            exact z_iret C hrt dX11_guard_54 (⟨s_isNeeded, s_states, s_runs, a_guards, a_guardOf, rfl, rfl, by omega, by omega, by omega, Ha_guards, Ha_guardOf, by first | exact hch | exact z_ch0, by first | exact (if_neg (by omega)).symm | (subst_vars; exact (if_pos (by omega)).symm), by first | exact (if_neg (by omega)).symm | (subst_vars; exact (if_pos (by omega)).symm), by first | exact (z_sel_neg (by omega)).symm | (subst_vars; exact (z_sel_pos (by omega)).symm), by first | exact (z_sel_neg (by omega)).symm | (subst_vars; exact (z_sel_pos (by omega)).symm), by first | exact (z_sel_neg (by omega)).symm | (subst_vars; exact (z_sel_pos (by omega)).symm), _, rfl, by unfold z_gR; split <;> (try split) <;> (try split) <;> omega⟩) (by omega) (by omega)
        · skip
          refine z_bipush C dX11_guard_39 (by decide) ?_
          rw [hQ]
          exact z_iret C hrt dX11_guard_41 (⟨s_isNeeded, s_states, s_runs, a_guards, a_guardOf, rfl, rfl, by omega, by omega, by omega, Ha_guards, Ha_guardOf, by first | exact hch | exact z_ch0, by first | exact (if_neg (by omega)).symm | (subst_vars; exact (if_pos (by omega)).symm), by first | exact (if_neg (by omega)).symm | (subst_vars; exact (if_pos (by omega)).symm), by first | exact (z_sel_neg (by omega)).symm | (subst_vars; exact (z_sel_pos (by omega)).symm), by first | exact (z_sel_neg (by omega)).symm | (subst_vars; exact (z_sel_pos (by omega)).symm), by first | exact (z_sel_neg (by omega)).symm | (subst_vars; exact (z_sel_pos (by omega)).symm), _, rfl, by unfold z_gR; split <;> (try split) <;> (try split) <;> omega⟩) (by omega) (by omega)
    · skip
      refine z_bipush C dX11_guard_15 (by decide) ?_
      rw [hQ]
      exact z_iret C hrt dX11_guard_17 (⟨s_isNeeded, s_states, s_runs, a_guards, a_guardOf, rfl, rfl, by omega, by omega, by omega, Ha_guards, Ha_guardOf, by first | exact hch | exact z_ch0, by first | exact (if_neg (by omega)).symm | (subst_vars; exact (if_pos (by omega)).symm), by first | exact (if_neg (by omega)).symm | (subst_vars; exact (if_pos (by omega)).symm), by first | exact (z_sel_neg (by omega)).symm | (subst_vars; exact (z_sel_pos (by omega)).symm), by first | exact (z_sel_neg (by omega)).symm | (subst_vars; exact (z_sel_pos (by omega)).symm), by first | exact (z_sel_neg (by omega)).symm | (subst_vars; exact (z_sel_pos (by omega)).symm), _, rfl, by unfold z_gR; split <;> (try split) <;> (try split) <;> omega⟩) (by omega) (by omega)
set_option maxRecDepth 20000 in
theorem cx_X11_limit (l : Launch) {D : va_G} {A : Nat → Prop} {ad : Nat → Nat} {ks : z_Ks} {s_edges s_isNeeded s_explored s_states s_isMoved s_runs s_runTime s_runMoves : Int} {w_h : Int64} {a_machine a_from a_to a_channel a_resets a_guards a_guardOf a_limits a_limitOf a_places a_zones a_parent a_moveE a_moveF a_moves a_z a_ahead a_at a_amounts a_way a_moments a_runAt a_runClock : Nat → Int} {Y : Nat → Option va_E} (m0 p0 x0 s0 c0 : Int) (Hs_edges : (0 ≤ s_edges ∧ s_edges ≤ 20)) (Hs_isNeeded : (s_isNeeded = 0 ∨ s_isNeeded = 1)) (Hs_states : (0 ≤ s_states ∧ s_states ≤ 120)) (Hs_runs : (s_runs = 0 ∨ s_runs = 1)) (Ha_limits : (∀ j, 0 ≤ a_limits j ∧ a_limits j ≤ 2)) (Ha_limitOf : (∀ j, (j % 3 = 0 → a_limitOf j ≤ 3) ∧ 0 ≤ a_limitOf j ∧ a_limitOf j ≤ 1000)) (h0 : z_rg m0) (h1 : z_rg p0) (h2 : z_rg x0) (h3 : z_rg s0) (h4 : z_rg c0) (hch : z_ch s_states a_parent a_moves a_moveE) : z_Met l yX11_limit cX11_limit 8 (some .int) 2 42 0 0 D A 24 ad ks [.ref (ad 0), z_v m0, z_v p0, z_v x0, z_v s0, z_v c0] (z_zm ad ks s_edges s_isNeeded s_explored s_states s_isMoved s_runs s_runTime s_runMoves w_h a_machine a_from a_to a_channel a_resets a_guards a_guardOf a_limits a_limitOf a_places a_zones a_parent a_moveE a_moveF a_moves a_z a_ahead a_at a_amounts a_way a_moments a_runAt a_runClock) Y (fun r S' Y' => ∃ ns_isNeeded : Int, ∃ ns_states : Int, ∃ ns_runs : Int, ∃ na_limits : Nat → Int, ∃ na_limitOf : Nat → Int, S' = (z_zm ad ks s_edges ns_isNeeded s_explored ns_states s_isMoved ns_runs s_runTime s_runMoves w_h a_machine a_from a_to a_channel a_resets a_guards a_guardOf na_limits na_limitOf a_places a_zones a_parent a_moveE a_moveF a_moves a_z a_ahead a_at a_amounts a_way a_moments a_runAt a_runClock) ∧ Y = Y' ∧ (ns_isNeeded = 0 ∨ ns_isNeeded = 1) ∧ (0 ≤ ns_states ∧ ns_states ≤ 120) ∧ (ns_runs = 0 ∨ ns_runs = 1) ∧ (∀ j, 0 ≤ na_limits j ∧ na_limits j ≤ 2) ∧ (∀ j, (j % 3 = 0 → na_limitOf j ≤ 3) ∧ 0 ≤ na_limitOf j ∧ na_limitOf j ≤ 1000) ∧ z_ch ns_states a_parent a_moves a_moveE ∧ na_limits = (if z_lOK m0 p0 x0 s0 c0 (a_limits (6 * m0 + p0).toNat) then va_up a_limits (6 * m0 + p0).toNat (a_limits (6 * m0 + p0).toNat + 1) else a_limits) ∧ na_limitOf = (if z_lOK m0 p0 x0 s0 c0 (a_limits (6 * m0 + p0).toNat) then z_t3 a_limitOf (6 * (6 * m0 + p0) + 3 * a_limits (6 * m0 + p0).toNat) x0 s0 c0 else a_limitOf) ∧ ns_isNeeded = z_sel (z_lOK m0 p0 x0 s0 c0 (a_limits (6 * m0 + p0).toNat)) 1 s_isNeeded ∧ ns_states = z_sel (z_lOK m0 p0 x0 s0 c0 (a_limits (6 * m0 + p0).toNat)) 0 s_states ∧ ns_runs = z_sel (z_lOK m0 p0 x0 s0 c0 (a_limits (6 * m0 + p0).toNat)) 0 s_runs ∧ ∃ z : Int, r = some (z_v z) ∧ (z = z_lR m0 p0 x0 s0 c0 (a_limits (6 * m0 + p0).toNat))) := by
  refine z_start2 (by decide) (Nat.le_of_ble_eq_true rfl) ?_
  intro p e R s m args below meth c Q C hRf hRc hRs hRl hQ hrt hnm
  refine z_loc (L' := [(0, .ref (ad 0)), (1, z_v m0), (2, z_v p0), (3, z_v x0), (4, z_v s0), (5, z_v c0)]) [0, 1, 2, 3, 4, 5] rfl ?_
  refine z_iloadn C 1 dX11_limit_0 rfl rfl ?_
  refine z_callS C (cm_X11_isMachine l m0 (by omega)) mv_11_97 pd_X11_isMachine ⟨by omega, by omega⟩ ⟨by omega, by omega⟩ rfl (Nat.le_of_ble_eq_true rfl) dX11_limit_1 ?_
  rintro _ _ _ ⟨rfl, rfl, z1, rfl, hz1⟩
  refine z_if_eq (t := 21) C dX11_limit_4 (by decide) (by omega) (fun c2 => ?_) (fun c2 => ?_)
  · skip
    refine z_bipush C dX11_limit_21 (by decide) ?_
    rw [hQ]
    exact z_iret C hrt dX11_limit_23 (⟨s_isNeeded, s_states, s_runs, a_limits, a_limitOf, rfl, rfl, by omega, by omega, by omega, Ha_limits, Ha_limitOf, by first | exact hch | exact z_ch0, by first | exact (if_neg (by omega)).symm | (subst_vars; exact (if_pos (by omega)).symm), by first | exact (if_neg (by omega)).symm | (subst_vars; exact (if_pos (by omega)).symm), by first | exact (z_sel_neg (by omega)).symm | (subst_vars; exact (z_sel_pos (by omega)).symm), by first | exact (z_sel_neg (by omega)).symm | (subst_vars; exact (z_sel_pos (by omega)).symm), by first | exact (z_sel_neg (by omega)).symm | (subst_vars; exact (z_sel_pos (by omega)).symm), _, rfl, by unfold z_lR; split <;> (try split) <;> (try split) <;> omega⟩) (by omega) (by omega)
  · skip
    refine z_iloadn C 2 dX11_limit_7 rfl rfl ?_
    refine z_callS C (cm_X11_isPlace l p0 (by omega)) mv_11_101 pd_X11_isPlace ⟨by omega, by omega⟩ ⟨by omega, by omega⟩ rfl (Nat.le_of_ble_eq_true rfl) dX11_limit_8 ?_
    rintro _ _ _ ⟨rfl, rfl, z3, rfl, hz3⟩
    refine z_if_eq (t := 21) C dX11_limit_11 (by decide) (by omega) (fun c4 => ?_) (fun c4 => ?_)
    · skip
      refine z_bipush C dX11_limit_21 (by decide) ?_
      rw [hQ]
      exact z_iret C hrt dX11_limit_23 (⟨s_isNeeded, s_states, s_runs, a_limits, a_limitOf, rfl, rfl, by omega, by omega, by omega, Ha_limits, Ha_limitOf, by first | exact hch | exact z_ch0, by first | exact (if_neg (by omega)).symm | (subst_vars; exact (if_pos (by omega)).symm), by first | exact (if_neg (by omega)).symm | (subst_vars; exact (if_pos (by omega)).symm), by first | exact (z_sel_neg (by omega)).symm | (subst_vars; exact (z_sel_pos (by omega)).symm), by first | exact (z_sel_neg (by omega)).symm | (subst_vars; exact (z_sel_pos (by omega)).symm), by first | exact (z_sel_neg (by omega)).symm | (subst_vars; exact (z_sel_pos (by omega)).symm), _, rfl, by unfold z_lR; split <;> (try split) <;> (try split) <;> omega⟩) (by omega) (by omega)
    · skip
      refine z_iloadn C 3 dX11_limit_14 rfl rfl ?_
      refine z_callS C (cm_X11_isClock l x0 (by omega)) mv_11_110 pd_X11_isClock ⟨by omega, by omega⟩ ⟨by omega, by omega⟩ rfl (Nat.le_of_ble_eq_true rfl) dX11_limit_15 ?_
      rintro _ _ _ ⟨rfl, rfl, z5, rfl, hz5⟩
      refine z_if_ne (t := 24) C dX11_limit_18 (by decide) (by omega) (fun c6 => ?_) (fun c6 => ?_)
      · skip
        refine z_iload C 4 dX11_limit_24 rfl ?_
        refine z_iconst C dX11_limit_26 ?_
        refine z_iconst C dX11_limit_27 ?_
        refine z_callS C (cm_X11_in l s0 0 1 (by omega) (by omega) (by omega)) mv_11_86 pd_X11_in ⟨by omega, by omega⟩ ⟨by omega, by omega⟩ rfl (Nat.le_of_ble_eq_true rfl) dX11_limit_28 ?_
        rintro _ _ _ ⟨rfl, rfl, z7, rfl, hz7⟩
        refine z_if_eq (t := 46) C dX11_limit_31 (by decide) (by omega) (fun c8 => ?_) (fun c8 => ?_)
        · skip
          refine z_bipush C dX11_limit_46 (by decide) ?_
          rw [hQ]
          exact z_iret C hrt dX11_limit_48 (⟨s_isNeeded, s_states, s_runs, a_limits, a_limitOf, rfl, rfl, by omega, by omega, by omega, Ha_limits, Ha_limitOf, by first | exact hch | exact z_ch0, by first | exact (if_neg (by omega)).symm | (subst_vars; exact (if_pos (by omega)).symm), by first | exact (if_neg (by omega)).symm | (subst_vars; exact (if_pos (by omega)).symm), by first | exact (z_sel_neg (by omega)).symm | (subst_vars; exact (z_sel_pos (by omega)).symm), by first | exact (z_sel_neg (by omega)).symm | (subst_vars; exact (z_sel_pos (by omega)).symm), by first | exact (z_sel_neg (by omega)).symm | (subst_vars; exact (z_sel_pos (by omega)).symm), _, rfl, by unfold z_lR; split <;> (try split) <;> (try split) <;> omega⟩) (by omega) (by omega)
        · skip
          refine z_iload C 5 dX11_limit_34 rfl ?_
          refine z_iconst C dX11_limit_36 ?_
          refine z_sipush C dX11_limit_37 (by decide) ?_
          refine z_callS C (cm_X11_in l c0 0 1000 (by omega) (by omega) (by omega)) mv_11_86 pd_X11_in ⟨by omega, by omega⟩ ⟨by omega, by omega⟩ rfl (Nat.le_of_ble_eq_true rfl) dX11_limit_40 ?_
          rintro _ _ _ ⟨rfl, rfl, z9, rfl, hz9⟩
          refine z_if_ne (t := 49) C dX11_limit_43 (by decide) (by omega) (fun c10 => ?_) (fun c10 => ?_)
          · skip
            refine z_bipush C dX11_limit_49 (by decide) ?_
            refine z_iloadn C 1 dX11_limit_51 rfl rfl ?_
            refine z_imul C dX11_limit_52 ?_
            refine z_iloadn C 2 dX11_limit_53 rfl rfl ?_
            refine z_iadd C dX11_limit_54 ?_
            refine z_istore (L' := [(6, z_v ((6 * m0) + p0)), (0, .ref (ad 0)), (1, z_v m0), (2, z_v p0), (3, z_v x0), (4, z_v s0), (5, z_v c0)]) C dX11_limit_55 (by decide) rfl ?_
            refine z_aloadn C 1 dX11_limit_57 rfl rfl ?_
            refine z_get C 0 (by decide) rfl rfl z_it11 8 (by decide) rfl fl_11_31 rfl dX11_limit_58 ?_
            refine z_iload C 0 dX11_limit_61 rfl ?_
            refine z_iald C 8 (by decide) rfl (by decide) (by omega) (by omega) dX11_limit_63 ?_
            have rx11 := Ha_limits (((6 * m0) + p0) : Int).toNat
            generalize ex11 : a_limits (((6 * m0) + p0) : Int).toNat = x11 at rx11 ⊢
            refine z_iconst C dX11_limit_64 ?_
            refine z_icmp_ne (t := 71) C dX11_limit_65 (by decide) (by omega) (by omega) (fun c12 => ?_) (fun c12 => ?_)
            · skip
              refine z_bipush C dX11_limit_71 (by decide) ?_
              refine z_iload C 0 dX11_limit_73 rfl ?_
              refine z_imul C dX11_limit_75 ?_
              refine z_iconst C dX11_limit_76 ?_
              refine z_aloadn C 1 dX11_limit_77 rfl rfl ?_
              refine z_get C 0 (by decide) rfl rfl z_it11 8 (by decide) rfl fl_11_31 rfl dX11_limit_78 ?_
              refine z_iload C 0 dX11_limit_81 rfl ?_
              refine z_iald C 8 (by decide) rfl (by decide) (by omega) (by omega) dX11_limit_83 ?_
              rw [ex11]
              refine z_imul C dX11_limit_84 ?_
              refine z_iadd C dX11_limit_85 ?_
              refine z_istore (L' := [(7, z_v ((6 * ((6 * m0) + p0)) + (3 * x11))), (6, z_v ((6 * m0) + p0)), (0, .ref (ad 0)), (1, z_v m0), (2, z_v p0), (3, z_v x0), (4, z_v s0), (5, z_v c0)]) C dX11_limit_86 (by decide) rfl ?_
              refine z_aloadn C 2 dX11_limit_88 rfl rfl ?_
              refine z_get C 0 (by decide) rfl rfl z_it11 9 (by decide) rfl fl_11_34 rfl dX11_limit_89 ?_
              refine z_iload C 0 dX11_limit_92 rfl ?_
              refine z_iloadn C 5 dX11_limit_94 rfl rfl ?_
              refine z_iast C 9 (by decide) rfl (by decide) (by omega) (by omega) dX11_limit_95 ?_
              refine z_ext (S' := (z_zm ad ks s_edges s_isNeeded s_explored s_states s_isMoved s_runs s_runTime s_runMoves w_h a_machine a_from a_to a_channel a_resets a_guards a_guardOf a_limits (va_up a_limitOf (((6 * ((6 * m0) + p0)) + (3 * x11)) : Int).toNat x0) a_places a_zones a_parent a_moveE a_moveF a_moves a_z a_ahead a_at a_amounts a_way a_moments a_runAt a_runClock)) upM_a_limitOf ?_
              have h13 : ∀ j, (j % 3 = 0 → (va_up a_limitOf (((6 * ((6 * m0) + p0)) + (3 * x11)) : Int).toNat x0) j ≤ 3) ∧ 0 ≤ (va_up a_limitOf (((6 * ((6 * m0) + p0)) + (3 * x11)) : Int).toNat x0) j ∧ (va_up a_limitOf (((6 * ((6 * m0) + p0)) + (3 * x11)) : Int).toNat x0) j ≤ 1000 := z_upP (P := fun j v => (j % 3 = 0 → v ≤ 3) ∧ 0 ≤ v ∧ v ≤ 1000) Ha_limitOf (by omega)
              refine z_aloadn C 2 dX11_limit_96 rfl rfl ?_
              refine z_get C 0 (by decide) rfl rfl z_it11 9 (by decide) rfl fl_11_34 rfl dX11_limit_97 ?_
              refine z_iload C 0 dX11_limit_100 rfl ?_
              refine z_iconst C dX11_limit_102 ?_
              refine z_iadd C dX11_limit_103 ?_
              refine z_iload C 6 dX11_limit_104 rfl ?_
              refine z_iast C 9 (by decide) rfl (by decide) (by omega) (by omega) dX11_limit_106 ?_
              refine z_ext (S' := (z_zm ad ks s_edges s_isNeeded s_explored s_states s_isMoved s_runs s_runTime s_runMoves w_h a_machine a_from a_to a_channel a_resets a_guards a_guardOf a_limits (va_up (va_up a_limitOf (((6 * ((6 * m0) + p0)) + (3 * x11)) : Int).toNat x0) ((((6 * ((6 * m0) + p0)) + (3 * x11)) + 1) : Int).toNat s0) a_places a_zones a_parent a_moveE a_moveF a_moves a_z a_ahead a_at a_amounts a_way a_moments a_runAt a_runClock)) upM_a_limitOf ?_
              have h14 : ∀ j, (j % 3 = 0 → (va_up (va_up a_limitOf (((6 * ((6 * m0) + p0)) + (3 * x11)) : Int).toNat x0) ((((6 * ((6 * m0) + p0)) + (3 * x11)) + 1) : Int).toNat s0) j ≤ 3) ∧ 0 ≤ (va_up (va_up a_limitOf (((6 * ((6 * m0) + p0)) + (3 * x11)) : Int).toNat x0) ((((6 * ((6 * m0) + p0)) + (3 * x11)) + 1) : Int).toNat s0) j ∧ (va_up (va_up a_limitOf (((6 * ((6 * m0) + p0)) + (3 * x11)) : Int).toNat x0) ((((6 * ((6 * m0) + p0)) + (3 * x11)) + 1) : Int).toNat s0) j ≤ 1000 := z_upP (P := fun j v => (j % 3 = 0 → v ≤ 3) ∧ 0 ≤ v ∧ v ≤ 1000) h13 (by omega)
              refine z_aloadn C 2 dX11_limit_107 rfl rfl ?_
              refine z_get C 0 (by decide) rfl rfl z_it11 9 (by decide) rfl fl_11_34 rfl dX11_limit_108 ?_
              refine z_iload C 0 dX11_limit_111 rfl ?_
              refine z_iconst C dX11_limit_113 ?_
              refine z_iadd C dX11_limit_114 ?_
              refine z_iload C 7 dX11_limit_115 rfl ?_
              refine z_iast C 9 (by decide) rfl (by decide) (by omega) (by omega) dX11_limit_117 ?_
              refine z_ext (S' := (z_zm ad ks s_edges s_isNeeded s_explored s_states s_isMoved s_runs s_runTime s_runMoves w_h a_machine a_from a_to a_channel a_resets a_guards a_guardOf a_limits (va_up (va_up (va_up a_limitOf (((6 * ((6 * m0) + p0)) + (3 * x11)) : Int).toNat x0) ((((6 * ((6 * m0) + p0)) + (3 * x11)) + 1) : Int).toNat s0) ((((6 * ((6 * m0) + p0)) + (3 * x11)) + 2) : Int).toNat c0) a_places a_zones a_parent a_moveE a_moveF a_moves a_z a_ahead a_at a_amounts a_way a_moments a_runAt a_runClock)) upM_a_limitOf ?_
              have h15 : ∀ j, (j % 3 = 0 → (va_up (va_up (va_up a_limitOf (((6 * ((6 * m0) + p0)) + (3 * x11)) : Int).toNat x0) ((((6 * ((6 * m0) + p0)) + (3 * x11)) + 1) : Int).toNat s0) ((((6 * ((6 * m0) + p0)) + (3 * x11)) + 2) : Int).toNat c0) j ≤ 3) ∧ 0 ≤ (va_up (va_up (va_up a_limitOf (((6 * ((6 * m0) + p0)) + (3 * x11)) : Int).toNat x0) ((((6 * ((6 * m0) + p0)) + (3 * x11)) + 1) : Int).toNat s0) ((((6 * ((6 * m0) + p0)) + (3 * x11)) + 2) : Int).toNat c0) j ∧ (va_up (va_up (va_up a_limitOf (((6 * ((6 * m0) + p0)) + (3 * x11)) : Int).toNat x0) ((((6 * ((6 * m0) + p0)) + (3 * x11)) + 1) : Int).toNat s0) ((((6 * ((6 * m0) + p0)) + (3 * x11)) + 2) : Int).toNat c0) j ≤ 1000 := z_upP (P := fun j v => (j % 3 = 0 → v ≤ 3) ∧ 0 ≤ v ∧ v ≤ 1000) h14 (by omega)
              refine z_aloadn C 2 dX11_limit_118 rfl rfl ?_
              refine z_get C 0 (by decide) rfl rfl z_it11 8 (by decide) rfl fl_11_31 rfl dX11_limit_119 ?_
              refine z_iload C 1 dX11_limit_122 rfl ?_
              refine z_dup2 C dX11_limit_124 rfl rfl ?_
              refine z_iald C 8 (by decide) rfl (by decide) (by omega) (by omega) dX11_limit_125 ?_
              rw [ex11]
              refine z_iconst C dX11_limit_126 ?_
              refine z_iadd C dX11_limit_127 ?_
              refine z_iast C 8 (by decide) rfl (by decide) (by omega) (by omega) dX11_limit_128 ?_
              refine z_ext (S' := (z_zm ad ks s_edges s_isNeeded s_explored s_states s_isMoved s_runs s_runTime s_runMoves w_h a_machine a_from a_to a_channel a_resets a_guards a_guardOf (va_up a_limits (((6 * m0) + p0) : Int).toNat (x11 + 1)) (va_up (va_up (va_up a_limitOf (((6 * ((6 * m0) + p0)) + (3 * x11)) : Int).toNat x0) ((((6 * ((6 * m0) + p0)) + (3 * x11)) + 1) : Int).toNat s0) ((((6 * ((6 * m0) + p0)) + (3 * x11)) + 2) : Int).toNat c0) a_places a_zones a_parent a_moveE a_moveF a_moves a_z a_ahead a_at a_amounts a_way a_moments a_runAt a_runClock)) upM_a_limits ?_
              have h16 : ∀ j, 0 ≤ (va_up a_limits (((6 * m0) + p0) : Int).toNat (x11 + 1)) j ∧ (va_up a_limits (((6 * m0) + p0) : Int).toNat (x11 + 1)) j ≤ 2 := z_upP (P := fun j v => 0 ≤ v ∧ v ≤ 2) Ha_limits (by omega)
              refine z_aloadn C 2 dX11_limit_129 rfl rfl ?_
              refine z_callV C (cm_X11_changed l ) mv_11_104 (z_atS 0 11 (by decide) rfl rfl rfl) pd_X11_changed ⟨by omega, by omega⟩ ⟨by omega, by omega⟩ rfl (Nat.le_of_ble_eq_true rfl) dX11_limit_130 ?_
              rintro _ _ _ ⟨rfl, rfl, rfl⟩
              refine z_aloadn C 2 dX11_limit_133 rfl rfl ?_
              refine z_get C 0 (by decide) rfl rfl z_it11 8 (by decide) rfl fl_11_31 rfl dX11_limit_134 ?_
              refine z_iload C 1 dX11_limit_137 rfl ?_
              refine z_iald C 8 (by decide) rfl (by decide) (by omega) (by omega) dX11_limit_139 ?_
              rw [z_upS]
              rw [hQ]
              exact z_iret C hrt dX11_limit_140 (⟨1, 0, 0, (va_up a_limits (((6 * m0) + p0) : Int).toNat (x11 + 1)), (va_up (va_up (va_up a_limitOf (((6 * ((6 * m0) + p0)) + (3 * x11)) : Int).toNat x0) ((((6 * ((6 * m0) + p0)) + (3 * x11)) + 1) : Int).toNat s0) ((((6 * ((6 * m0) + p0)) + (3 * x11)) + 2) : Int).toNat c0), rfl, rfl, by omega, by omega, by omega, h16, h15, by first | exact hch | exact z_ch0, by first | exact (if_neg (by omega)).symm | (subst_vars; exact (if_pos (by omega)).symm), by first | exact (if_neg (by omega)).symm | (subst_vars; exact (if_pos (by omega)).symm), by first | exact (z_sel_neg (by omega)).symm | (subst_vars; exact (z_sel_pos (by omega)).symm), by first | exact (z_sel_neg (by omega)).symm | (subst_vars; exact (z_sel_pos (by omega)).symm), by first | exact (z_sel_neg (by omega)).symm | (subst_vars; exact (z_sel_pos (by omega)).symm), _, rfl, by unfold z_lR; split <;> (try split) <;> (try split) <;> omega⟩) (by omega) (by omega)
            · skip
              refine z_bipush C dX11_limit_68 (by decide) ?_
              rw [hQ]
              exact z_iret C hrt dX11_limit_70 (⟨s_isNeeded, s_states, s_runs, a_limits, a_limitOf, rfl, rfl, by omega, by omega, by omega, Ha_limits, Ha_limitOf, by first | exact hch | exact z_ch0, by first | exact (if_neg (by omega)).symm | (subst_vars; exact (if_pos (by omega)).symm), by first | exact (if_neg (by omega)).symm | (subst_vars; exact (if_pos (by omega)).symm), by first | exact (z_sel_neg (by omega)).symm | (subst_vars; exact (z_sel_pos (by omega)).symm), by first | exact (z_sel_neg (by omega)).symm | (subst_vars; exact (z_sel_pos (by omega)).symm), by first | exact (z_sel_neg (by omega)).symm | (subst_vars; exact (z_sel_pos (by omega)).symm), _, rfl, by unfold z_lR; split <;> (try split) <;> (try split) <;> omega⟩) (by omega) (by omega)
          · skip
            refine z_bipush C dX11_limit_46 (by decide) ?_
            rw [hQ]
            exact z_iret C hrt dX11_limit_48 (⟨s_isNeeded, s_states, s_runs, a_limits, a_limitOf, rfl, rfl, by omega, by omega, by omega, Ha_limits, Ha_limitOf, by first | exact hch | exact z_ch0, by first | exact (if_neg (by omega)).symm | (subst_vars; exact (if_pos (by omega)).symm), by first | exact (if_neg (by omega)).symm | (subst_vars; exact (if_pos (by omega)).symm), by first | exact (z_sel_neg (by omega)).symm | (subst_vars; exact (z_sel_pos (by omega)).symm), by first | exact (z_sel_neg (by omega)).symm | (subst_vars; exact (z_sel_pos (by omega)).symm), by first | exact (z_sel_neg (by omega)).symm | (subst_vars; exact (z_sel_pos (by omega)).symm), _, rfl, by unfold z_lR; split <;> (try split) <;> (try split) <;> omega⟩) (by omega) (by omega)
      · skip
        refine z_bipush C dX11_limit_21 (by decide) ?_
        rw [hQ]
        exact z_iret C hrt dX11_limit_23 (⟨s_isNeeded, s_states, s_runs, a_limits, a_limitOf, rfl, rfl, by omega, by omega, by omega, Ha_limits, Ha_limitOf, by first | exact hch | exact z_ch0, by first | exact (if_neg (by omega)).symm | (subst_vars; exact (if_pos (by omega)).symm), by first | exact (if_neg (by omega)).symm | (subst_vars; exact (if_pos (by omega)).symm), by first | exact (z_sel_neg (by omega)).symm | (subst_vars; exact (z_sel_pos (by omega)).symm), by first | exact (z_sel_neg (by omega)).symm | (subst_vars; exact (z_sel_pos (by omega)).symm), by first | exact (z_sel_neg (by omega)).symm | (subst_vars; exact (z_sel_pos (by omega)).symm), _, rfl, by unfold z_lR; split <;> (try split) <;> (try split) <;> omega⟩) (by omega) (by omega)
set_option maxRecDepth 20000 in
theorem cx_X11_wipe (l : Launch) {D : va_G} {A : Nat → Prop} {ad : Nat → Nat} {ks : z_Ks} {s_edges s_isNeeded s_explored s_states s_isMoved s_runs s_runTime s_runMoves : Int} {w_h : Int64} {a_machine a_from a_to a_channel a_resets a_guards a_guardOf a_limits a_limitOf a_places a_zones a_parent a_moveE a_moveF a_moves a_z a_ahead a_at a_amounts a_way a_moments a_runAt a_runClock : Nat → Int} {Y : Nat → Option va_E} (Hs_edges : (0 ≤ s_edges ∧ s_edges ≤ 20)) (Hs_isNeeded : (s_isNeeded = 0 ∨ s_isNeeded = 1)) (Hs_states : (0 ≤ s_states ∧ s_states ≤ 120)) (Hs_runs : (s_runs = 0 ∨ s_runs = 1)) (Ha_limits : (∀ j, 0 ≤ a_limits j ∧ a_limits j ≤ 2)) (hch : z_ch s_states a_parent a_moves a_moveE) : z_Met l yX11_wipe cX11_wipe 3 (some .int) 1 20 0 0 D A 24 ad ks [.ref (ad 0)] (z_zm ad ks s_edges s_isNeeded s_explored s_states s_isMoved s_runs s_runTime s_runMoves w_h a_machine a_from a_to a_channel a_resets a_guards a_guardOf a_limits a_limitOf a_places a_zones a_parent a_moveE a_moveF a_moves a_z a_ahead a_at a_amounts a_way a_moments a_runAt a_runClock) Y (fun r S' Y' => ∃ na_limits : Nat → Int, S' = (z_zm ad ks 0 1 s_explored 0 s_isMoved 0 s_runTime s_runMoves w_h a_machine a_from a_to a_channel a_resets a_guards a_guardOf na_limits a_limitOf a_places a_zones a_parent a_moveE a_moveF a_moves a_z a_ahead a_at a_amounts a_way a_moments a_runAt a_runClock) ∧ Y = Y' ∧ (∀ j, 0 ≤ na_limits j ∧ na_limits j ≤ 2) ∧ (∀ j : Nat, j < 18 → na_limits j = 0) ∧ ∃ z : Int, r = some (z_v z) ∧ (z = s_edges)) := by
  refine z_start2 (by decide) (Nat.le_of_ble_eq_true rfl) ?_
  intro p e R s m args below meth c Q C hRf hRc hRs hRl hQ hrt hnm
  refine z_loc (L' := [(0, .ref (ad 0))]) [0] rfl ?_
  refine z_aloadn C 0 dX11_wipe_0 rfl rfl ?_
  refine z_get C 0 (by decide) rfl rfl z_it11 0 (by decide) rfl fl_11_90 rfl dX11_wipe_1 ?_
  refine z_istoren (L' := [(1, z_v s_edges), (0, .ref (ad 0))]) C dX11_wipe_4 rfl (by decide) rfl ?_
  refine z_aloadn C 1 dX11_wipe_5 rfl rfl ?_
  refine z_iconst C dX11_wipe_6 ?_
  refine z_put C 0 (by decide) rfl rfl z_it11 tyX11 tyX11_ok nmX11 0 (by decide) rfl (Or.inl rfl) fl_11_90 z_pfI rfl rfl (Nat.le_of_ble_eq_true rfl) dX11_wipe_7 ?_
  refine z_ext (S' := (z_zm ad ks 0 s_isNeeded s_explored s_states s_isMoved s_runs s_runTime s_runMoves w_h a_machine a_from a_to a_channel a_resets a_guards a_guardOf a_limits a_limitOf a_places a_zones a_parent a_moveE a_moveF a_moves a_z a_ahead a_at a_amounts a_way a_moments a_runAt a_runClock)) upM_s_edges ?_
  refine z_iconst C dX11_wipe_10 ?_
  refine z_istoren (L' := [(2, z_v 0), (1, z_v s_edges), (0, .ref (ad 0))]) C dX11_wipe_11 rfl (by decide) rfl ?_
  have L12 : ∀ (n : Nat), ∀ (i2 : Int) (fa_limits : Nat → Int), ((∀ j, 0 ≤ fa_limits j ∧ fa_limits j ≤ 2)) → (∀ j : Nat, (j : Int) < i2 → fa_limits j = 0) → (0 ≤ i2 ∧ i2 ≤ 18) → ((18 : Int) - i2).toNat < n → z_V p l e R s m args below meth c Q D A 24 ad 3 (z_zm ad ks 0 s_isNeeded s_explored s_states s_isMoved s_runs s_runTime s_runMoves w_h a_machine a_from a_to a_channel a_resets a_guards a_guardOf fa_limits a_limitOf a_places a_zones a_parent a_moveE a_moveF a_moves a_z a_ahead a_at a_amounts a_way a_moments a_runAt a_runClock) Y 0 0 12 [(0, .ref (ad 0)), (1, z_v s_edges), (2, z_v i2)] [] := by
    intro n
    induction n with
    | zero => intro i2 fa_limits Hfa_limits FJ I2 hm; exact absurd hm (Nat.not_lt_zero _)
    | succ n ih12 =>
      intro i2 fa_limits Hfa_limits FJ I2 hm
      refine z_iloadn C 2 dX11_wipe_12 rfl rfl ?_
      refine z_bipush C dX11_wipe_13 (by decide) ?_
      refine z_icmp_ge (t := 31) C dX11_wipe_15 (by decide) (by omega) (by omega) (fun c1 => ?_) (fun c1 => ?_)
      · skip
        refine z_aloadn C 0 dX11_wipe_31 rfl rfl ?_
        refine z_callV C (cm_X11_changed l ) mv_11_104 (z_atS 0 11 (by decide) rfl rfl rfl) pd_X11_changed ⟨by omega, by omega⟩ ⟨by omega, by omega⟩ rfl (Nat.le_of_ble_eq_true rfl) dX11_wipe_32 ?_
        rintro _ _ _ ⟨rfl, rfl, rfl⟩
        refine z_iloadn C 1 dX11_wipe_35 rfl rfl ?_
        rw [hQ]
        exact z_iret C hrt dX11_wipe_36 (⟨fa_limits, rfl, rfl, Hfa_limits, fun j hj => FJ j (by omega), _, rfl, by omega⟩) (by omega) (by omega)
      · skip
        refine z_aloadn C 0 dX11_wipe_18 rfl rfl ?_
        refine z_get C 0 (by decide) rfl rfl z_it11 8 (by decide) rfl fl_11_31 rfl dX11_wipe_19 ?_
        refine z_iloadn C 2 dX11_wipe_22 rfl rfl ?_
        refine z_iconst C dX11_wipe_23 ?_
        refine z_iast C 8 (by decide) rfl (by decide) (by omega) (by omega) dX11_wipe_24 ?_
        refine z_ext (S' := (z_zm ad ks 0 s_isNeeded s_explored s_states s_isMoved s_runs s_runTime s_runMoves w_h a_machine a_from a_to a_channel a_resets a_guards a_guardOf (va_up fa_limits (i2 : Int).toNat 0) a_limitOf a_places a_zones a_parent a_moveE a_moveF a_moves a_z a_ahead a_at a_amounts a_way a_moments a_runAt a_runClock)) upM_a_limits ?_
        have h2 : ∀ j, 0 ≤ (va_up fa_limits (i2 : Int).toNat 0) j ∧ (va_up fa_limits (i2 : Int).toNat 0) j ≤ 2 := z_upP (P := fun j v => 0 ≤ v ∧ v ≤ 2) Hfa_limits (by omega)
        refine z_iinc (L' := [(2, z_v (i2 + 1)), (0, .ref (ad 0)), (1, z_v s_edges)]) C 2 dX11_wipe_25 rfl (by decide) rfl ?_
        refine z_goto (t := 12) C dX11_wipe_28 (by decide) ?_
        refine z_loc (L' := [(0, .ref (ad 0)), (1, z_v s_edges), (2, z_v (i2 + 1))]) [1, 2, 0] rfl ?_
        exact ih12 (i2 + 1) (va_up fa_limits (i2 : Int).toNat 0) h2 (z_fill_add FJ (by omega)) (by omega) (by omega)
  refine z_loc (L' := [(0, .ref (ad 0)), (1, z_v s_edges), (2, z_v 0)]) [2, 1, 0] rfl ?_
  exact (L12 (((18 : Int) - 0).toNat + 1)) 0 a_limits Ha_limits (fun j hj => absurd hj (by omega)) (by omega) (Nat.lt_succ_self _)
set_option maxRecDepth 20000 in
theorem cx_X11_about (l : Launch) {D : va_G} {A : Nat → Prop} {ad : Nat → Nat} {ks : z_Ks} {s_edges s_isNeeded s_explored s_states s_isMoved s_runs s_runTime s_runMoves : Int} {w_h : Int64} {a_machine a_from a_to a_channel a_resets a_guards a_guardOf a_limits a_limitOf a_places a_zones a_parent a_moveE a_moveF a_moves a_z a_ahead a_at a_amounts a_way a_moments a_runAt a_runClock : Nat → Int} {Y : Nat → Option va_E} (e0 wh : Int) (Hs_edges : (0 ≤ s_edges ∧ s_edges ≤ 20)) (he : z_rg e0) (hw : z_rg wh) : z_Met l yX11_about cX11_about 3 (some .int) 2 43 0 0 D A 24 ad ks [.ref (ad 0), z_v e0, z_v wh] (z_zm ad ks s_edges s_isNeeded s_explored s_states s_isMoved s_runs s_runTime s_runMoves w_h a_machine a_from a_to a_channel a_resets a_guards a_guardOf a_limits a_limitOf a_places a_zones a_parent a_moveE a_moveF a_moves a_z a_ahead a_at a_amounts a_way a_moments a_runAt a_runClock) Y (fun r S' Y' => S' = (z_zm ad ks s_edges s_isNeeded s_explored s_states s_isMoved s_runs s_runTime s_runMoves w_h a_machine a_from a_to a_channel a_resets a_guards a_guardOf a_limits a_limitOf a_places a_zones a_parent a_moveE a_moveF a_moves a_z a_ahead a_at a_amounts a_way a_moments a_runAt a_runClock) ∧ Y = Y' ∧ ∃ z : Int, r = some (z_v z) ∧ (z = z_abR e0 wh s_edges a_machine a_from a_to a_channel a_resets a_guards)) := by
  refine z_start2 (by decide) (Nat.le_of_ble_eq_true rfl) ?_
  intro p e R s m args below meth c Q C hRf hRc hRs hRl hQ hrt hnm
  refine z_loc (L' := [(0, .ref (ad 0)), (1, z_v e0), (2, z_v wh)]) [0, 1, 2] rfl ?_
  refine z_aloadn C 0 dX11_about_0 rfl rfl ?_
  refine z_iloadn C 1 dX11_about_1 rfl rfl ?_
  refine z_callV C (cm_X11_isEdge l e0 (by omega) (by omega)) mv_11_107 (z_atS 0 11 (by decide) rfl rfl rfl) pd_X11_isEdge ⟨by omega, by omega⟩ ⟨by omega, by omega⟩ rfl (Nat.le_of_ble_eq_true rfl) dX11_about_2 ?_
  rintro _ _ _ ⟨rfl, rfl, z1, rfl, hz1⟩
  refine z_if_ne (t := 11) C dX11_about_5 (by decide) (by omega) (fun c2 => ?_) (fun c2 => ?_)
  · skip
    refine z_iloadn C 2 dX11_about_11 rfl rfl ?_
    rcases (show (wh < 0 ∨ 5 < wh) ∨ wh = 0 ∨ wh = 1 ∨ wh = 2 ∨ wh = 3 ∨ wh = 4 ∨ wh = 5 by omega) with w3 | w3 | w3 | w3 | w3 | w3 | w3
    · refine z_tabOut (t := 94) C dX11_about_12 (by omega) w3 (by decide) ?_
      refine z_bipush C dX11_about_94 (by decide) ?_
      rw [hQ]
      exact z_iret C hrt dX11_about_96 (⟨rfl, rfl, _, rfl, by unfold z_abR; split <;> (try split) <;> (try split) <;> (try split) <;> (try split) <;> (try split) <;> (try split) <;> (try split) <;> omega⟩) (by omega) (by omega)
    · refine z_tabIn (o := 40) (t := 52) C wh dX11_about_12 (by omega) (by omega) (by omega) (by rw [w3]; rfl) (by decide) ?_
      refine z_aloadn C 0 dX11_about_52 rfl rfl ?_
      refine z_get C 0 (by decide) rfl rfl z_it11 1 (by decide) rfl fl_11_7 rfl dX11_about_53 ?_
      refine z_iloadn C 1 dX11_about_56 rfl rfl ?_
      refine z_iald C 1 (by decide) rfl (by decide) (by omega) (by omega) dX11_about_57 ?_
      rw [hQ]
      exact z_iret C hrt dX11_about_58 (⟨rfl, rfl, _, rfl, by unfold z_abR; split <;> (try split) <;> (try split) <;> (try split) <;> (try split) <;> (try split) <;> (try split) <;> (try split) <;> omega⟩) (by omega) (by omega)
    · refine z_tabIn (o := 47) (t := 59) C wh dX11_about_12 (by omega) (by omega) (by omega) (by rw [w3]; rfl) (by decide) ?_
      refine z_aloadn C 0 dX11_about_59 rfl rfl ?_
      refine z_get C 0 (by decide) rfl rfl z_it11 2 (by decide) rfl fl_11_13 rfl dX11_about_60 ?_
      refine z_iloadn C 1 dX11_about_63 rfl rfl ?_
      refine z_iald C 2 (by decide) rfl (by decide) (by omega) (by omega) dX11_about_64 ?_
      rw [hQ]
      exact z_iret C hrt dX11_about_65 (⟨rfl, rfl, _, rfl, by unfold z_abR; split <;> (try split) <;> (try split) <;> (try split) <;> (try split) <;> (try split) <;> (try split) <;> (try split) <;> omega⟩) (by omega) (by omega)
    · refine z_tabIn (o := 54) (t := 66) C wh dX11_about_12 (by omega) (by omega) (by omega) (by rw [w3]; rfl) (by decide) ?_
      refine z_aloadn C 0 dX11_about_66 rfl rfl ?_
      refine z_get C 0 (by decide) rfl rfl z_it11 3 (by decide) rfl fl_11_16 rfl dX11_about_67 ?_
      refine z_iloadn C 1 dX11_about_70 rfl rfl ?_
      refine z_iald C 3 (by decide) rfl (by decide) (by omega) (by omega) dX11_about_71 ?_
      rw [hQ]
      exact z_iret C hrt dX11_about_72 (⟨rfl, rfl, _, rfl, by unfold z_abR; split <;> (try split) <;> (try split) <;> (try split) <;> (try split) <;> (try split) <;> (try split) <;> (try split) <;> omega⟩) (by omega) (by omega)
    · refine z_tabIn (o := 61) (t := 73) C wh dX11_about_12 (by omega) (by omega) (by omega) (by rw [w3]; rfl) (by decide) ?_
      refine z_aloadn C 0 dX11_about_73 rfl rfl ?_
      refine z_get C 0 (by decide) rfl rfl z_it11 4 (by decide) rfl fl_11_19 rfl dX11_about_74 ?_
      refine z_iloadn C 1 dX11_about_77 rfl rfl ?_
      refine z_iald C 4 (by decide) rfl (by decide) (by omega) (by omega) dX11_about_78 ?_
      rw [hQ]
      exact z_iret C hrt dX11_about_79 (⟨rfl, rfl, _, rfl, by unfold z_abR; split <;> (try split) <;> (try split) <;> (try split) <;> (try split) <;> (try split) <;> (try split) <;> (try split) <;> omega⟩) (by omega) (by omega)
    · refine z_tabIn (o := 68) (t := 80) C wh dX11_about_12 (by omega) (by omega) (by omega) (by rw [w3]; rfl) (by decide) ?_
      refine z_aloadn C 0 dX11_about_80 rfl rfl ?_
      refine z_get C 0 (by decide) rfl rfl z_it11 5 (by decide) rfl fl_11_22 rfl dX11_about_81 ?_
      refine z_iloadn C 1 dX11_about_84 rfl rfl ?_
      refine z_iald C 5 (by decide) rfl (by decide) (by omega) (by omega) dX11_about_85 ?_
      rw [hQ]
      exact z_iret C hrt dX11_about_86 (⟨rfl, rfl, _, rfl, by unfold z_abR; split <;> (try split) <;> (try split) <;> (try split) <;> (try split) <;> (try split) <;> (try split) <;> (try split) <;> omega⟩) (by omega) (by omega)
    · refine z_tabIn (o := 75) (t := 87) C wh dX11_about_12 (by omega) (by omega) (by omega) (by rw [w3]; rfl) (by decide) ?_
      refine z_aloadn C 0 dX11_about_87 rfl rfl ?_
      refine z_get C 0 (by decide) rfl rfl z_it11 6 (by decide) rfl fl_11_25 rfl dX11_about_88 ?_
      refine z_iloadn C 1 dX11_about_91 rfl rfl ?_
      refine z_iald C 6 (by decide) rfl (by decide) (by omega) (by omega) dX11_about_92 ?_
      rw [hQ]
      exact z_iret C hrt dX11_about_93 (⟨rfl, rfl, _, rfl, by unfold z_abR; split <;> (try split) <;> (try split) <;> (try split) <;> (try split) <;> (try split) <;> (try split) <;> (try split) <;> omega⟩) (by omega) (by omega)
  · skip
    refine z_bipush C dX11_about_8 (by decide) ?_
    rw [hQ]
    exact z_iret C hrt dX11_about_10 (⟨rfl, rfl, _, rfl, by unfold z_abR; split <;> (try split) <;> (try split) <;> (try split) <;> (try split) <;> (try split) <;> (try split) <;> (try split) <;> omega⟩) (by omega) (by omega)
