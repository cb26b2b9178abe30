set_option maxRecDepth 20000 in
set_option maxHeartbeats 4000000 in
theorem law_loop {p : Program} {e : Env} {s : State} {m : MethodId} {below : List Frame} {meth : Method} {c : Code} (l : Launch) {D : va_G} {ks : z_Ks} {b Ln : Nat} {xs : Nat → Int32} (hL : Ln ≤ 3072) (C : z_C p s m #[Value.ref b] meth c code 4 "ClockZonesLaw" D (fun q => s.heap.size ≤ q) ks) (hrt : meth.sig.returnType = ret) (hX : va_X b Ln xs s s.heap) (hbl : b < s.heap.size) {aC aM : Nat → Nat} : ∀ (n : Nat) (i3 : Int) (Y : Nat → Option va_E) (cs_edgeCount : Int) (cs_moveCount : Int) (cs_isNeeded : Int) (cs_timesDone : Int) (cs_size : Int) (cs_isGoing : Int) (cs_allTime : Int) (cs_stepCount : Int) (cs_gapCount : Int) (cg_edges : Nat → Option Nat) (cg_moves : Nat → Option Nat) (cg_limits : Nat → Option Nat) (ca_sfacts : Nat → Int) (ca_sbounds : Nat → Int) (ca_facts : Nat → Int) (ca_zone : Nat → Int) (ca_most : Nat → Int) (ca_places : Nat → Int) (ca_amounts : Nat → Int) (ca_nextPlaces : Nat → Int) (ca_nextAmounts : Nat → Int) (ca_earliest : Nat → Int) (ca_visited : Nat → Int) (ca_lastSet : Nat → Int) (ca_gapFrom : Nat → Int) (ca_gapTo : Nat → Int) (ca_gapLeast : Nat → Int) (ca_askedPlaces : Nat → Int) (ca_askedAmounts : Nat → Int) (ms_edges : Int) (ms_isNeeded : Int) (ms_explored : Int) (ms_states : Int) (ms_isMoved : Int) (ms_runs : Int) (ms_runTime : Int) (ms_runMoves : Int) (mw_h : Int64) (ma_machine : Nat → Int) (ma_from : Nat → Int) (ma_to : Nat → Int) (ma_channel : Nat → Int) (ma_resets : Nat → Int) (ma_guards : Nat → Int) (ma_guardOf : Nat → Int) (ma_limits : Nat → Int) (ma_limitOf : Nat → Int) (ma_places : Nat → Int) (ma_zones : Nat → Int) (ma_parent : Nat → Int) (ma_moveE : Nat → Int) (ma_moveF : Nat → Int) (ma_moves : Nat → Int) (ma_z : Nat → Int) (ma_ahead : Nat → Int) (ma_at : Nat → Int) (ma_amounts : Nat → Int) (ma_way : Nat → Int) (ma_moments : Nat → Int) (ma_runAt : Nat → Int) (ma_runClock : Nat → Int), ((0 ≤ cs_edgeCount ∧ cs_edgeCount ≤ 20)) → ((0 ≤ cs_moveCount ∧ cs_moveCount ≤ 400)) → ((cs_isNeeded = 0 ∨ cs_isNeeded = 1)) → ((0 ≤ cs_timesDone ∧ cs_timesDone ≤ 40)) → ((0 ≤ cs_size ∧ cs_size ≤ 120)) → ((cs_isGoing = 0 ∨ cs_isGoing = 1)) → ((0 ≤ cs_gapCount ∧ cs_gapCount ≤ 615)) → ((∀ j, (j % 7 < 3 → 0 ≤ ca_sfacts j ∧ ca_sfacts j ≤ 5) ∧ (j % 7 = 3 → -1 ≤ ca_sfacts j ∧ ca_sfacts j ≤ 119) ∧ (j % 7 = 6 → 0 ≤ ca_sfacts j ∧ ca_sfacts j ≤ 40) ∧ z_rg (ca_sfacts j))) → ((∀ j, z_rg (ca_sbounds j))) → ((∀ j, (j % 7 < 3 → 0 ≤ ca_facts j ∧ ca_facts j ≤ 5) ∧ (j % 7 = 3 → -1 ≤ ca_facts j ∧ ca_facts j ≤ 119) ∧ (j % 7 = 6 → 0 ≤ ca_facts j ∧ ca_facts j ≤ 40) ∧ z_rg (ca_facts j))) → ((∀ j, z_rg (ca_zone j))) → ((∀ j, 0 ≤ ca_most j ∧ ca_most j ≤ 1000)) → ((∀ j, 0 ≤ ca_places j ∧ ca_places j ≤ 5)) → ((∀ j, z_rg (ca_amounts j))) → ((∀ j, 0 ≤ ca_nextPlaces j ∧ ca_nextPlaces j ≤ 5)) → ((∀ j, z_rg (ca_nextAmounts j))) → ((∀ j, z_rg (ca_earliest j))) → ((∀ j, 0 ≤ ca_visited j ∧ ca_visited j ≤ 119)) → ((∀ j, 0 ≤ ca_lastSet j ∧ ca_lastSet j ≤ 40)) → ((∀ j, 0 ≤ ca_gapFrom j ∧ ca_gapFrom j ≤ 40)) → ((∀ j, 0 ≤ ca_gapTo j ∧ ca_gapTo j ≤ 40)) → ((∀ j, z_rg (ca_gapLeast j))) → ((∀ j, -1 ≤ ca_askedPlaces j ∧ ca_askedPlaces j ≤ 5)) → ((∀ j, z_rg (ca_askedAmounts j))) → ((0 ≤ ms_edges ∧ ms_edges ≤ 20)) → ((ms_isNeeded = 0 ∨ ms_isNeeded = 1)) → ((0 ≤ ms_explored ∧ ms_explored ≤ 40)) → ((0 ≤ ms_states ∧ ms_states ≤ 120)) → ((ms_isMoved = 0 ∨ ms_isMoved = 1)) → ((ms_runs = 0 ∨ ms_runs = 1)) → ((∀ j, 0 ≤ ma_machine j ∧ ma_machine j ≤ 2)) → ((∀ j, 0 ≤ ma_from j ∧ ma_from j ≤ 5)) → ((∀ j, 0 ≤ ma_to j ∧ ma_to j ≤ 5)) → ((∀ j, -4 ≤ ma_channel j ∧ ma_channel j ≤ 4)) → ((∀ j, z_rg (ma_resets j))) → ((∀ j, 0 ≤ ma_guards j ∧ ma_guards j ≤ 2)) → ((∀ j, (j % 3 = 0 → ma_guardOf j ≤ 3) ∧ 0 ≤ ma_guardOf j ∧ ma_guardOf j ≤ 1000)) → ((∀ j, 0 ≤ ma_limits j ∧ ma_limits j ≤ 2)) → ((∀ j, (j % 3 = 0 → ma_limitOf j ≤ 3) ∧ 0 ≤ ma_limitOf j ∧ ma_limitOf j ≤ 1000)) → ((∀ j, 0 ≤ ma_places j ∧ ma_places j ≤ 5)) → ((∀ j, z_rg (ma_zones j))) → ((∀ j, -1 ≤ ma_parent j ∧ ma_parent j ≤ 119)) → ((∀ j, -1 ≤ ma_moveE j ∧ ma_moveE j ≤ 19)) → ((∀ j, -1 ≤ ma_moveF j ∧ ma_moveF j ≤ 19)) → ((∀ j, 0 ≤ ma_moves j ∧ ma_moves j ≤ 40)) → ((∀ j, z_rg (ma_z j))) → ((∀ j, z_rg (ma_ahead j))) → ((∀ j, 0 ≤ ma_at j ∧ ma_at j ≤ 5)) → ((∀ j, z_rg (ma_amounts j))) → ((∀ j, 0 ≤ ma_way j ∧ ma_way j ≤ 119)) → ((∀ j, z_rg (ma_moments j))) → ((∀ j, 0 ≤ ma_runAt j ∧ ma_runAt j ≤ 5)) → ((∀ j, z_rg (ma_runClock j))) → (z_cc cs_size ca_sfacts) → (z_ch ms_states ma_parent ma_moves ma_moveE) → (∀ j : Nat, (j : Int) < cs_edgeCount → ∃ q, cg_edges j = some q ∧ z_E ks Y q) → (∀ j : Nat, (j : Int) < cs_moveCount → ∃ q, cg_moves j = some q ∧ z_Mv ks Y q) → (∀ j : Nat, (j : Int) < 18 → ∃ q, cg_limits j = some q ∧ z_TL ks Y q) → (cs_edgeCount = ms_edges) → (0 ≤ i3 ∧ i3 ≤ 3072) → ((3078 : Int) - i3).toNat < n → z_V p l e room_1 s m #[Value.ref b] below meth c (lw_Z below #[Value.ref b] s) D (fun q => s.heap.size ≤ q) 51 (z_ad aC aM) 4 (z_S2 (z_zc aC ks cs_edgeCount cs_moveCount cs_isNeeded cs_timesDone cs_size cs_isGoing cs_allTime cs_stepCount cs_gapCount cg_edges cg_moves cg_limits ca_sfacts ca_sbounds ca_facts ca_zone ca_most ca_places ca_amounts ca_nextPlaces ca_nextAmounts ca_earliest ca_visited ca_lastSet ca_gapFrom ca_gapTo ca_gapLeast ca_askedPlaces ca_askedAmounts) (z_zm aM ks ms_edges ms_isNeeded ms_explored ms_states ms_isMoved ms_runs ms_runTime ms_runMoves mw_h ma_machine ma_from ma_to ma_channel ma_resets ma_guards ma_guardOf ma_limits ma_limitOf ma_places ma_zones ma_parent ma_moveE ma_moveF ma_moves ma_z ma_ahead ma_at ma_amounts ma_way ma_moments ma_runAt ma_runClock)) Y (100 + 4 * (i3 : Int).toNat) (20000 + 20 * (i3 : Int).toNat) 18 [(0, .ref b), (1, .ref (aC 0)), (2, .ref (aM 0)), (3, z_v i3)] [] := by
  have hRf : room_1.frames = 9 := rfl
  have hRc : room_1.cells = 733574 := rfl
  have hRs : room_1.slots = 6901527 := rfl
  have hRl : room_1.locals = 320 := rfl
  intro n
  induction n with
  | zero => intro i3 Y cs_edgeCount cs_moveCount cs_isNeeded cs_timesDone cs_size cs_isGoing cs_allTime cs_stepCount cs_gapCount cg_edges cg_moves cg_limits ca_sfacts ca_sbounds ca_facts ca_zone ca_most ca_places ca_amounts ca_nextPlaces ca_nextAmounts ca_earliest ca_visited ca_lastSet ca_gapFrom ca_gapTo ca_gapLeast ca_askedPlaces ca_askedAmounts ms_edges ms_isNeeded ms_explored ms_states ms_isMoved ms_runs ms_runTime ms_runMoves mw_h ma_machine ma_from ma_to ma_channel ma_resets ma_guards ma_guardOf ma_limits ma_limitOf ma_places ma_zones ma_parent ma_moveE ma_moveF ma_moves ma_z ma_ahead ma_at ma_amounts ma_way ma_moments ma_runAt ma_runClock Hcs_edgeCount Hcs_moveCount Hcs_isNeeded Hcs_timesDone Hcs_size Hcs_isGoing Hcs_gapCount Hca_sfacts Hca_sbounds Hca_facts Hca_zone Hca_most Hca_places Hca_amounts Hca_nextPlaces Hca_nextAmounts Hca_earliest Hca_visited Hca_lastSet Hca_gapFrom Hca_gapTo Hca_gapLeast Hca_askedPlaces Hca_askedAmounts Hms_edges Hms_isNeeded Hms_explored Hms_states Hms_isMoved Hms_runs Hma_machine Hma_from Hma_to Hma_channel Hma_resets Hma_guards Hma_guardOf Hma_limits Hma_limitOf Hma_places Hma_zones Hma_parent Hma_moveE Hma_moveF Hma_moves Hma_z Hma_ahead Hma_at Hma_amounts Hma_way Hma_moments Hma_runAt Hma_runClock HCC HCH HE HM HL EQ I3 hm; exact absurd hm (Nat.not_lt_zero _)
  | succ n ih =>
    intro i3 Y cs_edgeCount cs_moveCount cs_isNeeded cs_timesDone cs_size cs_isGoing cs_allTime cs_stepCount cs_gapCount cg_edges cg_moves cg_limits ca_sfacts ca_sbounds ca_facts ca_zone ca_most ca_places ca_amounts ca_nextPlaces ca_nextAmounts ca_earliest ca_visited ca_lastSet ca_gapFrom ca_gapTo ca_gapLeast ca_askedPlaces ca_askedAmounts ms_edges ms_isNeeded ms_explored ms_states ms_isMoved ms_runs ms_runTime ms_runMoves mw_h ma_machine ma_from ma_to ma_channel ma_resets ma_guards ma_guardOf ma_limits ma_limitOf ma_places ma_zones ma_parent ma_moveE ma_moveF ma_moves ma_z ma_ahead ma_at ma_amounts ma_way ma_moments ma_runAt ma_runClock Hcs_edgeCount Hcs_moveCount Hcs_isNeeded Hcs_timesDone Hcs_size Hcs_isGoing Hcs_gapCount Hca_sfacts Hca_sbounds Hca_facts Hca_zone Hca_most Hca_places Hca_amounts Hca_nextPlaces Hca_nextAmounts Hca_earliest Hca_visited Hca_lastSet Hca_gapFrom Hca_gapTo Hca_gapLeast Hca_askedPlaces Hca_askedAmounts Hms_edges Hms_isNeeded Hms_explored Hms_states Hms_isMoved Hms_runs Hma_machine Hma_from Hma_to Hma_channel Hma_resets Hma_guards Hma_guardOf Hma_limits Hma_limitOf Hma_places Hma_zones Hma_parent Hma_moveE Hma_moveF Hma_moves Hma_z Hma_ahead Hma_at Hma_amounts Hma_way Hma_moments Hma_runAt Hma_runClock HCC HCH HE HM HL EQ I3 hm
    refine z_iloadn C 3 dL_law_18 rfl rfl ?_
    refine z_aloadn C 0 dL_law_19 rfl rfl ?_
    refine z_scrL C hX hbl dL_law_20 ?_
    refine z_bipush C dL_law_21 (by decide) ?_
    refine z_isub C dL_law_23 ?_
    refine z_icmp_gt (t := 794) C dL_law_24 (by decide) (by omega) (by omega) (fun c1 => ?_) (fun c1 => ?_)
    · skip
      refine z_iconst C dL_law_794 ?_
      intro H locs ls hR hS hl
      refine va_forget (fun q hq => hS.2.2 q hq) ?_
      refine W.widen (k := 733574) (n := 6901527) (by omega) (by omega) ?_
      exact lw_ret C.1 C.2.1 hrt C.2.2.2.2.2.2.2.1 dL_law_795
    · skip
      refine z_aloadn C 0 dL_law_27 rfl rfl ?_
      refine z_iloadn C 3 dL_law_28 rfl rfl ?_
      refine z_scr C hX hbl (by omega) (by omega) (by omega) dL_law_29 (fun z2 rz2 ez2 => ?_)
      refine z_bipush C dL_law_30 (by decide) ?_
      obtain ⟨b3, hb3, rb3⟩ := z_bits (z_i z2 &&& z_i 31)
      refine z_iand C hb3 dL_law_32 ?_
      rcases (show (b3 < 0 ∨ 19 < b3) ∨ b3 = 0 ∨ b3 = 1 ∨ b3 = 2 ∨ b3 = 3 ∨ b3 = 4 ∨ b3 = 5 ∨ b3 = 6 ∨ b3 = 7 ∨ b3 = 8 ∨ b3 = 9 ∨ b3 = 10 ∨ b3 = 11 ∨ b3 = 12 ∨ b3 = 13 ∨ b3 = 14 ∨ b3 = 15 ∨ b3 = 16 ∨ b3 = 17 ∨ b3 = 18 ∨ b3 = 19 by omega) with w4 | w4 | w4 | w4 | w4 | w4 | w4 | w4 | w4 | w4 | w4 | w4 | w4 | w4 | w4 | w4 | w4 | w4 | w4 | w4 | w4
      · refine z_tabOut (t := 788) C dL_law_33 (by omega) w4 (by decide) ?_
        refine z_iinc (L' := [(3, z_v (i3 + 6)), (0, .ref b), (1, .ref (aC 0)), (2, .ref (aM 0))]) C 3 dL_law_788 rfl (by decide) rfl ?_
        refine z_goto (t := 18) C dL_law_791 (by decide) ?_
        refine z_wide (k := (100 + 4 * ((i3 + 6) : Int).toNat)) (n := (20000 + 20 * ((i3 + 6) : Int).toNat)) (by omega) (by omega) ?_
        refine z_loc (L' := [(0, .ref b), (1, .ref (aC 0)), (2, .ref (aM 0)), (3, z_v (i3 + 6))]) [1, 2, 3, 0] rfl ?_
        exact ih (i3 + 6) Y cs_edgeCount cs_moveCount cs_isNeeded cs_timesDone cs_size cs_isGoing cs_allTime cs_stepCount cs_gapCount cg_edges cg_moves cg_limits ca_sfacts ca_sbounds ca_facts ca_zone ca_most ca_places ca_amounts ca_nextPlaces ca_nextAmounts ca_earliest ca_visited ca_lastSet ca_gapFrom ca_gapTo ca_gapLeast ca_askedPlaces ca_askedAmounts ms_edges ms_isNeeded ms_explored ms_states ms_isMoved ms_runs ms_runTime ms_runMoves mw_h ma_machine ma_from ma_to ma_channel ma_resets ma_guards ma_guardOf ma_limits ma_limitOf ma_places ma_zones ma_parent ma_moveE ma_moveF ma_moves ma_z ma_ahead ma_at ma_amounts ma_way ma_moments ma_runAt ma_runClock (by omega) (by omega) (by omega) (by omega) (by omega) (by omega) (by omega) Hca_sfacts Hca_sbounds Hca_facts Hca_zone Hca_most Hca_places Hca_amounts Hca_nextPlaces Hca_nextAmounts Hca_earliest Hca_visited Hca_lastSet Hca_gapFrom Hca_gapTo Hca_gapLeast Hca_askedPlaces Hca_askedAmounts (by omega) (by omega) (by omega) (by omega) (by omega) (by omega) Hma_machine Hma_from Hma_to Hma_channel Hma_resets Hma_guards Hma_guardOf Hma_limits Hma_limitOf Hma_places Hma_zones Hma_parent Hma_moveE Hma_moveF Hma_moves Hma_z Hma_ahead Hma_at Hma_amounts Hma_way Hma_moments Hma_runAt Hma_runClock HCC HCH HE HM HL (by omega) (by omega) (by omega)
      · refine z_tabIn (o := 95) (t := 128) C b3 dL_law_33 (by omega) (by omega) (by omega) (by rw [w4]; rfl) (by decide) ?_
        refine z_aloadn C 1 dL_law_128 rfl rfl ?_
        refine z_aloadn C 0 dL_law_129 rfl rfl ?_
        refine z_iloadn C 3 dL_law_130 rfl rfl ?_
        refine z_iconst C dL_law_131 ?_
        refine z_iadd C dL_law_132 ?_
        refine z_scr C hX hbl (by omega) (by omega) (by omega) dL_law_133 (fun z5 rz5 ez5 => ?_)
        refine z_aloadn C 0 dL_law_134 rfl rfl ?_
        refine z_iloadn C 3 dL_law_135 rfl rfl ?_
        refine z_iconst C dL_law_136 ?_
        refine z_iadd C dL_law_137 ?_
        refine z_scr C hX hbl (by omega) (by omega) (by omega) dL_law_138 (fun z6 rz6 ez6 => ?_)
        refine z_aloadn C 0 dL_law_139 rfl rfl ?_
        refine z_iloadn C 3 dL_law_140 rfl rfl ?_
        refine z_iconst C dL_law_141 ?_
        refine z_iadd C dL_law_142 ?_
        refine z_scr C hX hbl (by omega) (by omega) (by omega) dL_law_143 (fun z7 rz7 ez7 => ?_)
        refine z_aloadn C 0 dL_law_144 rfl rfl ?_
        refine z_iloadn C 3 dL_law_145 rfl rfl ?_
        refine z_iconst C dL_law_146 ?_
        refine z_iadd C dL_law_147 ?_
        refine z_scr C hX hbl (by omega) (by omega) (by omega) dL_law_148 (fun z8 rz8 ez8 => ?_)
        refine z_aloadn C 0 dL_law_149 rfl rfl ?_
        refine z_iloadn C 3 dL_law_150 rfl rfl ?_
        refine z_iconst C dL_law_151 ?_
        refine z_iadd C dL_law_152 ?_
        refine z_scr C hX hbl (by omega) (by omega) (by omega) dL_law_153 (fun z9 rz9 ez9 => ?_)
        refine z_callC C (cm_X10_edge l z5 z6 z7 z8 z9 (by omega) (by omega) (by omega) (by omega) (by omega) (by omega) (by omega) (by omega) (by omega) HE HM) mv_L_13 rfl rfl pd_X10_edge ⟨by omega, by omega⟩ ⟨by omega, by omega⟩ rfl (Nat.le_of_ble_eq_true rfl) dL_law_154 ?_
        rintro _ _ Y16 ⟨n10, n11, n12, n13, n14, n15, rfl, le17, h18, h19, h20, h21, q154_0, q154_1, q154_2, z22, rfl, hz22⟩
        have HE23 := q154_1
        have HM24 := q154_2
        have HL25 := z_netL le17 HL
        refine z_pop C dL_law_157 rfl ?_
        refine z_aloadn C 2 dL_law_158 rfl rfl ?_
        refine z_aloadn C 0 dL_law_159 rfl rfl ?_
        refine z_iloadn C 3 dL_law_160 rfl rfl ?_
        refine z_iconst C dL_law_161 ?_
        refine z_iadd C dL_law_162 ?_
        refine z_scr C hX hbl (by omega) (by omega) (by omega) dL_law_163 (fun z26 rz26 ez26 => ?_)
        obtain rfl : z5 = z26 := ez5.trans ez26.symm
        refine z_aloadn C 0 dL_law_164 rfl rfl ?_
        refine z_iloadn C 3 dL_law_165 rfl rfl ?_
        refine z_iconst C dL_law_166 ?_
        refine z_iadd C dL_law_167 ?_
        refine z_scr C hX hbl (by omega) (by omega) (by omega) dL_law_168 (fun z27 rz27 ez27 => ?_)
        obtain rfl : z6 = z27 := ez6.trans ez27.symm
        refine z_aloadn C 0 dL_law_169 rfl rfl ?_
        refine z_iloadn C 3 dL_law_170 rfl rfl ?_
        refine z_iconst C dL_law_171 ?_
        refine z_iadd C dL_law_172 ?_
        refine z_scr C hX hbl (by omega) (by omega) (by omega) dL_law_173 (fun z28 rz28 ez28 => ?_)
        obtain rfl : z7 = z28 := ez7.trans ez28.symm
        refine z_aloadn C 0 dL_law_174 rfl rfl ?_
        refine z_iloadn C 3 dL_law_175 rfl rfl ?_
        refine z_iconst C dL_law_176 ?_
        refine z_iadd C dL_law_177 ?_
        refine z_scr C hX hbl (by omega) (by omega) (by omega) dL_law_178 (fun z29 rz29 ez29 => ?_)
        obtain rfl : z8 = z29 := ez8.trans ez29.symm
        refine z_aloadn C 0 dL_law_179 rfl rfl ?_
        refine z_iloadn C 3 dL_law_180 rfl rfl ?_
        refine z_iconst C dL_law_181 ?_
        refine z_iadd C dL_law_182 ?_
        refine z_scr C hX hbl (by omega) (by omega) (by omega) dL_law_183 (fun z30 rz30 ez30 => ?_)
        obtain rfl : z9 = z30 := ez9.trans ez30.symm
        refine z_callM C (fun _ => (cm_X11_edge l z5 z6 z7 z8 z9 (by omega) (by omega) (by omega) (by omega) Hma_machine Hma_from Hma_to Hma_channel Hma_resets Hma_guards (by omega) (by omega) (by omega) (by omega) (by omega) HCH)) mv_L_17 rfl rfl pd_X11_edge ⟨by omega, by omega⟩ ⟨by omega, by omega⟩ rfl (Nat.le_of_ble_eq_true rfl) dL_law_184 ?_
        rintro _ _ _ ⟨n31, n32, n33, n34, n35, n36, n37, n38, n39, n40, rfl, rfl, h43, h44, h45, h46, h47, h48, h49, h50, h51, h52, q184_0, q184_1, z53, rfl, hz53⟩
        refine z_pop C dL_law_187 rfl ?_
        refine z_goto (t := 788) C dL_law_188 (by decide) ?_
        refine z_iinc (L' := [(3, z_v (i3 + 6)), (0, .ref b), (1, .ref (aC 0)), (2, .ref (aM 0))]) C 3 dL_law_788 rfl (by decide) rfl ?_
        refine z_goto (t := 18) C dL_law_791 (by decide) ?_
        refine z_wide (k := (100 + 4 * ((i3 + 6) : Int).toNat)) (n := (20000 + 20 * ((i3 + 6) : Int).toNat)) (by omega) (by omega) ?_
        refine z_loc (L' := [(0, .ref b), (1, .ref (aC 0)), (2, .ref (aM 0)), (3, z_v (i3 + 6))]) [1, 2, 3, 0] rfl ?_
        exact ih (i3 + 6) Y16 n10 n11 n12 cs_timesDone cs_size n13 cs_allTime cs_stepCount cs_gapCount n14 n15 cg_limits ca_sfacts ca_sbounds ca_facts ca_zone ca_most ca_places ca_amounts ca_nextPlaces ca_nextAmounts ca_earliest ca_visited ca_lastSet ca_gapFrom ca_gapTo ca_gapLeast ca_askedPlaces ca_askedAmounts n31 n32 ms_explored n33 ms_isMoved n34 ms_runTime ms_runMoves mw_h n35 n36 n37 n38 n39 n40 ma_guardOf ma_limits ma_limitOf ma_places ma_zones ma_parent ma_moveE ma_moveF ma_moves ma_z ma_ahead ma_at ma_amounts ma_way ma_moments ma_runAt ma_runClock (by omega) (by omega) (by omega) (by omega) (by omega) (by omega) (by omega) Hca_sfacts Hca_sbounds Hca_facts Hca_zone Hca_most Hca_places Hca_amounts Hca_nextPlaces Hca_nextAmounts Hca_earliest Hca_visited Hca_lastSet Hca_gapFrom Hca_gapTo Hca_gapLeast Hca_askedPlaces Hca_askedAmounts (by omega) (by omega) (by omega) (by omega) (by omega) (by omega) h47 h48 h49 h50 h51 h52 Hma_guardOf Hma_limits Hma_limitOf Hma_places Hma_zones Hma_parent Hma_moveE Hma_moveF Hma_moves Hma_z Hma_ahead Hma_at Hma_amounts Hma_way Hma_moments Hma_runAt Hma_runClock HCC q184_1 HE23 HM24 HL25 (by rw [q154_0, q184_0, EQ]) (by omega) (by omega)
      · refine z_tabIn (o := 158) (t := 191) C b3 dL_law_33 (by omega) (by omega) (by omega) (by rw [w4]; rfl) (by decide) ?_
        refine z_aloadn C 1 dL_law_191 rfl rfl ?_
        refine z_aloadn C 0 dL_law_192 rfl rfl ?_
        refine z_iloadn C 3 dL_law_193 rfl rfl ?_
        refine z_iconst C dL_law_194 ?_
        refine z_iadd C dL_law_195 ?_
        refine z_scr C hX hbl (by omega) (by omega) (by omega) dL_law_196 (fun z54 rz54 ez54 => ?_)
        refine z_aloadn C 0 dL_law_197 rfl rfl ?_
        refine z_iloadn C 3 dL_law_198 rfl rfl ?_
        refine z_iconst C dL_law_199 ?_
        refine z_iadd C dL_law_200 ?_
        refine z_scr C hX hbl (by omega) (by omega) (by omega) dL_law_201 (fun z55 rz55 ez55 => ?_)
        refine z_aloadn C 0 dL_law_202 rfl rfl ?_
        refine z_iloadn C 3 dL_law_203 rfl rfl ?_
        refine z_iconst C dL_law_204 ?_
        refine z_iadd C dL_law_205 ?_
        refine z_scr C hX hbl (by omega) (by omega) (by omega) dL_law_206 (fun z56 rz56 ez56 => ?_)
        refine z_aloadn C 0 dL_law_207 rfl rfl ?_
        refine z_iloadn C 3 dL_law_208 rfl rfl ?_
        refine z_iconst C dL_law_209 ?_
        refine z_iadd C dL_law_210 ?_
        refine z_scr C hX hbl (by omega) (by omega) (by omega) dL_law_211 (fun z57 rz57 ez57 => ?_)
        refine z_callC C (cm_X10_guard l z54 z55 z56 z57 (by omega) (by omega) (by omega) (by omega) (by omega) (by omega) (by omega) HE) mv_L_18 rfl rfl pd_X10_guard ⟨by omega, by omega⟩ ⟨by omega, by omega⟩ rfl (Nat.le_of_ble_eq_true rfl) dL_law_212 ?_
        rintro _ _ Y60 ⟨n58, n59, rfl, le61, h62, h63, z64, rfl, hz64⟩
        have HE65 := z_netE le61 HE
        have HM66 := z_netM le61 HM
        have HL67 := z_netL le61 HL
        refine z_pop C dL_law_215 rfl ?_
        refine z_aloadn C 2 dL_law_216 rfl rfl ?_
        refine z_aloadn C 0 dL_law_217 rfl rfl ?_
        refine z_iloadn C 3 dL_law_218 rfl rfl ?_
        refine z_iconst C dL_law_219 ?_
        refine z_iadd C dL_law_220 ?_
        refine z_scr C hX hbl (by omega) (by omega) (by omega) dL_law_221 (fun z68 rz68 ez68 => ?_)
        obtain rfl : z54 = z68 := ez54.trans ez68.symm
        refine z_aloadn C 0 dL_law_222 rfl rfl ?_
        refine z_iloadn C 3 dL_law_223 rfl rfl ?_
        refine z_iconst C dL_law_224 ?_
        refine z_iadd C dL_law_225 ?_
        refine z_scr C hX hbl (by omega) (by omega) (by omega) dL_law_226 (fun z69 rz69 ez69 => ?_)
        obtain rfl : z55 = z69 := ez55.trans ez69.symm
        refine z_aloadn C 0 dL_law_227 rfl rfl ?_
        refine z_iloadn C 3 dL_law_228 rfl rfl ?_
        refine z_iconst C dL_law_229 ?_
        refine z_iadd C dL_law_230 ?_
        refine z_scr C hX hbl (by omega) (by omega) (by omega) dL_law_231 (fun z70 rz70 ez70 => ?_)
        obtain rfl : z56 = z70 := ez56.trans ez70.symm
        refine z_aloadn C 0 dL_law_232 rfl rfl ?_
        refine z_iloadn C 3 dL_law_233 rfl rfl ?_
        refine z_iconst C dL_law_234 ?_
        refine z_iadd C dL_law_235 ?_
        refine z_scr C hX hbl (by omega) (by omega) (by omega) dL_law_236 (fun z71 rz71 ez71 => ?_)
        obtain rfl : z57 = z71 := ez57.trans ez71.symm
        refine z_callM C (fun _ => (cm_X11_guard l z54 z55 z56 z57 (by omega) (by omega) (by omega) (by omega) Hma_guards Hma_guardOf (by omega) (by omega) (by omega) (by omega) HCH)) mv_L_22 rfl rfl pd_X11_guard ⟨by omega, by omega⟩ ⟨by omega, by omega⟩ rfl (Nat.le_of_ble_eq_true rfl) dL_law_237 ?_
        rintro _ _ _ ⟨n72, n73, n74, n75, n76, rfl, rfl, h79, h80, h81, h82, h83, q237_0, z84, rfl, hz84⟩
        refine z_pop C dL_law_240 rfl ?_
        refine z_goto (t := 788) C dL_law_241 (by decide) ?_
        refine z_iinc (L' := [(3, z_v (i3 + 6)), (0, .ref b), (1, .ref (aC 0)), (2, .ref (aM 0))]) C 3 dL_law_788 rfl (by decide) rfl ?_
        refine z_goto (t := 18) C dL_law_791 (by decide) ?_
        refine z_wide (k := (100 + 4 * ((i3 + 6) : Int).toNat)) (n := (20000 + 20 * ((i3 + 6) : Int).toNat)) (by omega) (by omega) ?_
        refine z_loc (L' := [(0, .ref b), (1, .ref (aC 0)), (2, .ref (aM 0)), (3, z_v (i3 + 6))]) [1, 2, 3, 0] rfl ?_
        exact ih (i3 + 6) Y60 cs_edgeCount cs_moveCount n58 cs_timesDone cs_size n59 cs_allTime cs_stepCount cs_gapCount cg_edges cg_moves cg_limits ca_sfacts ca_sbounds ca_facts ca_zone ca_most ca_places ca_amounts ca_nextPlaces ca_nextAmounts ca_earliest ca_visited ca_lastSet ca_gapFrom ca_gapTo ca_gapLeast ca_askedPlaces ca_askedAmounts ms_edges n72 ms_explored n73 ms_isMoved n74 ms_runTime ms_runMoves mw_h ma_machine ma_from ma_to ma_channel ma_resets n75 n76 ma_limits ma_limitOf ma_places ma_zones ma_parent ma_moveE ma_moveF ma_moves ma_z ma_ahead ma_at ma_amounts ma_way ma_moments ma_runAt ma_runClock (by omega) (by omega) (by omega) (by omega) (by omega) (by omega) (by omega) Hca_sfacts Hca_sbounds Hca_facts Hca_zone Hca_most Hca_places Hca_amounts Hca_nextPlaces Hca_nextAmounts Hca_earliest Hca_visited Hca_lastSet Hca_gapFrom Hca_gapTo Hca_gapLeast Hca_askedPlaces Hca_askedAmounts (by omega) (by omega) (by omega) (by omega) (by omega) (by omega) Hma_machine Hma_from Hma_to Hma_channel Hma_resets h82 h83 Hma_limits Hma_limitOf Hma_places Hma_zones Hma_parent Hma_moveE Hma_moveF Hma_moves Hma_z Hma_ahead Hma_at Hma_amounts Hma_way Hma_moments Hma_runAt Hma_runClock HCC q237_0 HE65 HM66 HL67 (by omega) (by omega) (by omega)
      · refine z_tabIn (o := 211) (t := 244) C b3 dL_law_33 (by omega) (by omega) (by omega) (by rw [w4]; rfl) (by decide) ?_
        refine z_aloadn C 1 dL_law_244 rfl rfl ?_
        refine z_aloadn C 0 dL_law_245 rfl rfl ?_
        refine z_iloadn C 3 dL_law_246 rfl rfl ?_
        refine z_iconst C dL_law_247 ?_
        refine z_iadd C dL_law_248 ?_
        refine z_scr C hX hbl (by omega) (by omega) (by omega) dL_law_249 (fun z85 rz85 ez85 => ?_)
        refine z_aloadn C 0 dL_law_250 rfl rfl ?_
        refine z_iloadn C 3 dL_law_251 rfl rfl ?_
        refine z_iconst C dL_law_252 ?_
        refine z_iadd C dL_law_253 ?_
        refine z_scr C hX hbl (by omega) (by omega) (by omega) dL_law_254 (fun z86 rz86 ez86 => ?_)
        refine z_aloadn C 0 dL_law_255 rfl rfl ?_
        refine z_iloadn C 3 dL_law_256 rfl rfl ?_
        refine z_iconst C dL_law_257 ?_
        refine z_iadd C dL_law_258 ?_
        refine z_scr C hX hbl (by omega) (by omega) (by omega) dL_law_259 (fun z87 rz87 ez87 => ?_)
        refine z_aloadn C 0 dL_law_260 rfl rfl ?_
        refine z_iloadn C 3 dL_law_261 rfl rfl ?_
        refine z_iconst C dL_law_262 ?_
        refine z_iadd C dL_law_263 ?_
        refine z_scr C hX hbl (by omega) (by omega) (by omega) dL_law_264 (fun z88 rz88 ez88 => ?_)
        refine z_aloadn C 0 dL_law_265 rfl rfl ?_
        refine z_iloadn C 3 dL_law_266 rfl rfl ?_
        refine z_iconst C dL_law_267 ?_
        refine z_iadd C dL_law_268 ?_
        refine z_scr C hX hbl (by omega) (by omega) (by omega) dL_law_269 (fun z89 rz89 ez89 => ?_)
        refine z_callC C (cm_X10_limit l z85 z86 z87 z88 z89 (by omega) (by omega) (by omega) (by omega) (by omega) (by omega) (by omega) HL) mv_L_23 rfl rfl pd_X10_limit ⟨by omega, by omega⟩ ⟨by omega, by omega⟩ rfl (Nat.le_of_ble_eq_true rfl) dL_law_270 ?_
        rintro _ _ Y92 ⟨n90, n91, rfl, le93, h94, h95, z96, rfl, hz96⟩
        have HE97 := z_netE le93 HE
        have HM98 := z_netM le93 HM
        have HL99 := z_netL le93 HL
        refine z_pop C dL_law_273 rfl ?_
        refine z_aloadn C 2 dL_law_274 rfl rfl ?_
        refine z_aloadn C 0 dL_law_275 rfl rfl ?_
        refine z_iloadn C 3 dL_law_276 rfl rfl ?_
        refine z_iconst C dL_law_277 ?_
        refine z_iadd C dL_law_278 ?_
        refine z_scr C hX hbl (by omega) (by omega) (by omega) dL_law_279 (fun z100 rz100 ez100 => ?_)
        obtain rfl : z85 = z100 := ez85.trans ez100.symm
        refine z_aloadn C 0 dL_law_280 rfl rfl ?_
        refine z_iloadn C 3 dL_law_281 rfl rfl ?_
        refine z_iconst C dL_law_282 ?_
        refine z_iadd C dL_law_283 ?_
        refine z_scr C hX hbl (by omega) (by omega) (by omega) dL_law_284 (fun z101 rz101 ez101 => ?_)
        obtain rfl : z86 = z101 := ez86.trans ez101.symm
        refine z_aloadn C 0 dL_law_285 rfl rfl ?_
        refine z_iloadn C 3 dL_law_286 rfl rfl ?_
        refine z_iconst C dL_law_287 ?_
        refine z_iadd C dL_law_288 ?_
        refine z_scr C hX hbl (by omega) (by omega) (by omega) dL_law_289 (fun z102 rz102 ez102 => ?_)
        obtain rfl : z87 = z102 := ez87.trans ez102.symm
        refine z_aloadn C 0 dL_law_290 rfl rfl ?_
        refine z_iloadn C 3 dL_law_291 rfl rfl ?_
        refine z_iconst C dL_law_292 ?_
        refine z_iadd C dL_law_293 ?_
        refine z_scr C hX hbl (by omega) (by omega) (by omega) dL_law_294 (fun z103 rz103 ez103 => ?_)
        obtain rfl : z88 = z103 := ez88.trans ez103.symm
        refine z_aloadn C 0 dL_law_295 rfl rfl ?_
        refine z_iloadn C 3 dL_law_296 rfl rfl ?_
        refine z_iconst C dL_law_297 ?_
        refine z_iadd C dL_law_298 ?_
        refine z_scr C hX hbl (by omega) (by omega) (by omega) dL_law_299 (fun z104 rz104 ez104 => ?_)
        obtain rfl : z89 = z104 := ez89.trans ez104.symm
        refine z_callM C (fun _ => (cm_X11_limit l z85 z86 z87 z88 z89 (by omega) (by omega) (by omega) (by omega) Hma_limits Hma_limitOf (by omega) (by omega) (by omega) (by omega) (by omega) HCH)) mv_L_26 rfl rfl pd_X11_limit ⟨by omega, by omega⟩ ⟨by omega, by omega⟩ rfl (Nat.le_of_ble_eq_true rfl) dL_law_300 ?_
        rintro _ _ _ ⟨n105, n106, n107, n108, n109, rfl, rfl, h112, h113, h114, h115, h116, q300_0, z117, rfl, hz117⟩
        refine z_pop C dL_law_303 rfl ?_
        refine z_goto (t := 788) C dL_law_304 (by decide) ?_
        refine z_iinc (L' := [(3, z_v (i3 + 6)), (0, .ref b), (1, .ref (aC 0)), (2, .ref (aM 0))]) C 3 dL_law_788 rfl (by decide) rfl ?_
        refine z_goto (t := 18) C dL_law_791 (by decide) ?_
        refine z_wide (k := (100 + 4 * ((i3 + 6) : Int).toNat)) (n := (20000 + 20 * ((i3 + 6) : Int).toNat)) (by omega) (by omega) ?_
        refine z_loc (L' := [(0, .ref b), (1, .ref (aC 0)), (2, .ref (aM 0)), (3, z_v (i3 + 6))]) [1, 2, 3, 0] rfl ?_
        exact ih (i3 + 6) Y92 cs_edgeCount cs_moveCount n90 cs_timesDone cs_size n91 cs_allTime cs_stepCount cs_gapCount cg_edges cg_moves cg_limits ca_sfacts ca_sbounds ca_facts ca_zone ca_most ca_places ca_amounts ca_nextPlaces ca_nextAmounts ca_earliest ca_visited ca_lastSet ca_gapFrom ca_gapTo ca_gapLeast ca_askedPlaces ca_askedAmounts ms_edges n105 ms_explored n106 ms_isMoved n107 ms_runTime ms_runMoves mw_h ma_machine ma_from ma_to ma_channel ma_resets ma_guards ma_guardOf n108 n109 ma_places ma_zones ma_parent ma_moveE ma_moveF ma_moves ma_z ma_ahead ma_at ma_amounts ma_way ma_moments ma_runAt ma_runClock (by omega) (by omega) (by omega) (by omega) (by omega) (by omega) (by omega) Hca_sfacts Hca_sbounds Hca_facts Hca_zone Hca_most Hca_places Hca_amounts Hca_nextPlaces Hca_nextAmounts Hca_earliest Hca_visited Hca_lastSet Hca_gapFrom Hca_gapTo Hca_gapLeast Hca_askedPlaces Hca_askedAmounts (by omega) (by omega) (by omega) (by omega) (by omega) (by omega) Hma_machine Hma_from Hma_to Hma_channel Hma_resets Hma_guards Hma_guardOf h115 h116 Hma_places Hma_zones Hma_parent Hma_moveE Hma_moveF Hma_moves Hma_z Hma_ahead Hma_at Hma_amounts Hma_way Hma_moments Hma_runAt Hma_runClock HCC q300_0 HE97 HM98 HL99 (by omega) (by omega) (by omega)
      · refine z_tabIn (o := 274) (t := 307) C b3 dL_law_33 (by omega) (by omega) (by omega) (by rw [w4]; rfl) (by decide) ?_
        refine z_aloadn C 1 dL_law_307 rfl rfl ?_
        refine z_callC C (cm_X10_wipe l (by omega) HL) mv_L_27 rfl rfl pd_X10_wipe ⟨by omega, by omega⟩ ⟨by omega, by omega⟩ rfl (Nat.le_of_ble_eq_true rfl) dL_law_308 ?_
        rintro _ _ Y118 ⟨rfl, le119, z120, rfl, hz120⟩
        have HE121 : ∀ j : Nat, (j : Int) < 0 → ∃ q, cg_edges j = some q ∧ z_E ks Y118 q := fun j hj => absurd hj (by omega)
        have HM122 : ∀ j : Nat, (j : Int) < 0 → ∃ q, cg_moves j = some q ∧ z_Mv ks Y118 q := fun j hj => absurd hj (by omega)
        have HL123 := z_netL le119 HL
        refine z_aloadn C 2 dL_law_311 rfl rfl ?_
        refine z_callM C (fun _ => (cm_X11_wipe l (by omega) (by omega) (by omega) (by omega) Hma_limits HCH)) mv_L_31 rfl rfl pd_X11_wipe ⟨by omega, by omega⟩ ⟨by omega, by omega⟩ rfl (Nat.le_of_ble_eq_true rfl) dL_law_312 ?_
        rintro _ _ _ ⟨n124, n125, n126, n127, rfl, rfl, h130, h131, h132, h133, q312_0, z134, rfl, hz134⟩
        have hz1 : z120 = z134 := by omega
        refine z_icmp_eq (t := 788) C dL_law_315 (by decide) (by omega) (by omega) (fun c135 => ?_) (fun c135 => absurd hz1 c135)
        refine z_iinc (L' := [(3, z_v (i3 + 6)), (0, .ref b), (1, .ref (aC 0)), (2, .ref (aM 0))]) C 3 dL_law_788 rfl (by decide) rfl ?_
        refine z_goto (t := 18) C dL_law_791 (by decide) ?_
        refine z_wide (k := (100 + 4 * ((i3 + 6) : Int).toNat)) (n := (20000 + 20 * ((i3 + 6) : Int).toNat)) (by omega) (by omega) ?_
        refine z_loc (L' := [(0, .ref b), (1, .ref (aC 0)), (2, .ref (aM 0)), (3, z_v (i3 + 6))]) [1, 2, 3, 0] rfl ?_
        exact ih (i3 + 6) Y118 0 0 1 cs_timesDone cs_size 0 cs_allTime cs_stepCount cs_gapCount cg_edges cg_moves cg_limits ca_sfacts ca_sbounds ca_facts ca_zone ca_most ca_places ca_amounts ca_nextPlaces ca_nextAmounts ca_earliest ca_visited ca_lastSet ca_gapFrom ca_gapTo ca_gapLeast ca_askedPlaces ca_askedAmounts 0 n124 ms_explored n125 ms_isMoved n126 ms_runTime ms_runMoves mw_h ma_machine ma_from ma_to ma_channel ma_resets ma_guards ma_guardOf n127 ma_limitOf ma_places ma_zones ma_parent ma_moveE ma_moveF ma_moves ma_z ma_ahead ma_at ma_amounts ma_way ma_moments ma_runAt ma_runClock (by omega) (by omega) (by omega) (by omega) (by omega) (by omega) (by omega) Hca_sfacts Hca_sbounds Hca_facts Hca_zone Hca_most Hca_places Hca_amounts Hca_nextPlaces Hca_nextAmounts Hca_earliest Hca_visited Hca_lastSet Hca_gapFrom Hca_gapTo Hca_gapLeast Hca_askedPlaces Hca_askedAmounts (by omega) (by omega) (by omega) (by omega) (by omega) (by omega) Hma_machine Hma_from Hma_to Hma_channel Hma_resets Hma_guards Hma_guardOf h133 Hma_limitOf Hma_places Hma_zones Hma_parent Hma_moveE Hma_moveF Hma_moves Hma_z Hma_ahead Hma_at Hma_amounts Hma_way Hma_moments Hma_runAt Hma_runClock HCC q312_0 HE121 HM122 HL123 (by omega) (by omega) (by omega)
      · refine z_tabIn (o := 287) (t := 320) C b3 dL_law_33 (by omega) (by omega) (by omega) (by rw [w4]; rfl) (by decide) ?_
        refine z_aloadn C 1 dL_law_320 rfl rfl ?_
        refine z_aloadn C 0 dL_law_321 rfl rfl ?_
        refine z_iloadn C 3 dL_law_322 rfl rfl ?_
        refine z_iconst C dL_law_323 ?_
        refine z_iadd C dL_law_324 ?_
        refine z_scr C hX hbl (by omega) (by omega) (by omega) dL_law_325 (fun z136 rz136 ez136 => ?_)
        refine z_callC C (cm_X10_explore l z136 (by omega) (by omega) (by omega) Hca_most Hca_facts Hca_zone Hca_sfacts Hca_sbounds (by omega) (by omega) (by omega) HCC HE HM HL) mv_L_32 rfl rfl pd_X10_explore ⟨by omega, by omega⟩ ⟨by omega, by omega⟩ rfl (Nat.le_of_ble_eq_true rfl) dL_law_326 ?_
        rintro _ _ _ ⟨n137, n138, n139, n140, n141, n142, n143, n144, rfl, rfl, h147, h148, h149, h150, h151, h152, h153, h154, q326_0, z155, rfl, hz155⟩
        refine z_pop C dL_law_329 rfl ?_
        refine z_aloadn C 2 dL_law_330 rfl rfl ?_
        refine z_aloadn C 0 dL_law_331 rfl rfl ?_
        refine z_iloadn C 3 dL_law_332 rfl rfl ?_
        refine z_iconst C dL_law_333 ?_
        refine z_iadd C dL_law_334 ?_
        refine z_scr C hX hbl (by omega) (by omega) (by omega) dL_law_335 (fun z156 rz156 ez156 => ?_)
        obtain rfl : z136 = z156 := ez136.trans ez156.symm
        refine z_callM C (fun _ => (cm_X11_explore l z136 (by omega) (by omega) (by omega) Hma_at Hma_z Hma_ahead Hma_places Hma_zones Hma_parent Hma_moveE Hma_moveF Hma_moves (by omega) Hma_machine Hma_from Hma_to Hma_channel Hma_resets Hma_guards Hma_guardOf Hma_limits Hma_limitOf (by omega) HCH)) mv_L_36 rfl rfl pd_X11_explore ⟨by omega, by omega⟩ ⟨by omega, by omega⟩ rfl (Nat.le_of_ble_eq_true rfl) dL_law_336 ?_
        rintro _ _ _ ⟨n157, n158, n159, n160, n161, n162, n163, n164, n165, n166, n167, n168, rfl, rfl, h171, h172, h173, h174, h175, h176, h177, h178, h179, h180, h181, h182, q336_0, z183, rfl, hz183⟩
        refine z_pop C dL_law_339 rfl ?_
        refine z_goto (t := 788) C dL_law_340 (by decide) ?_
        refine z_iinc (L' := [(3, z_v (i3 + 6)), (0, .ref b), (1, .ref (aC 0)), (2, .ref (aM 0))]) C 3 dL_law_788 rfl (by decide) rfl ?_
        refine z_goto (t := 18) C dL_law_791 (by decide) ?_
        refine z_wide (k := (100 + 4 * ((i3 + 6) : Int).toNat)) (n := (20000 + 20 * ((i3 + 6) : Int).toNat)) (by omega) (by omega) ?_
        refine z_loc (L' := [(0, .ref b), (1, .ref (aC 0)), (2, .ref (aM 0)), (3, z_v (i3 + 6))]) [1, 2, 3, 0] rfl ?_
        exact ih (i3 + 6) Y cs_edgeCount cs_moveCount n138 n139 n137 cs_isGoing cs_allTime cs_stepCount cs_gapCount cg_edges cg_moves cg_limits n143 n144 n141 n142 n140 ca_places ca_amounts ca_nextPlaces ca_nextAmounts ca_earliest ca_visited ca_lastSet ca_gapFrom ca_gapTo ca_gapLeast ca_askedPlaces ca_askedAmounts ms_edges n158 n157 n159 ms_isMoved ms_runs ms_runTime ms_runMoves mw_h ma_machine ma_from ma_to ma_channel ma_resets ma_guards ma_guardOf ma_limits ma_limitOf n163 n164 n165 n166 n167 n168 n161 n162 n160 ma_amounts ma_way ma_moments ma_runAt ma_runClock (by omega) (by omega) (by omega) (by omega) (by omega) (by omega) (by omega) h153 h154 h151 h152 h150 Hca_places Hca_amounts Hca_nextPlaces Hca_nextAmounts Hca_earliest Hca_visited Hca_lastSet Hca_gapFrom Hca_gapTo Hca_gapLeast Hca_askedPlaces Hca_askedAmounts (by omega) (by omega) (by omega) (by omega) (by omega) (by omega) Hma_machine Hma_from Hma_to Hma_channel Hma_resets Hma_guards Hma_guardOf Hma_limits Hma_limitOf h177 h178 h179 h180 h181 h182 h175 h176 h174 Hma_amounts Hma_way Hma_moments Hma_runAt Hma_runClock q326_0 q336_0 HE HM HL (by omega) (by omega) (by omega)
      · refine z_tabIn (o := 310) (t := 343) C b3 dL_law_33 (by omega) (by omega) (by omega) (by rw [w4]; rfl) (by decide) ?_
        refine z_aloadn C 1 dL_law_343 rfl rfl ?_
        refine z_aloadn C 0 dL_law_344 rfl rfl ?_
        refine z_iloadn C 3 dL_law_345 rfl rfl ?_
        refine z_iconst C dL_law_346 ?_
        refine z_iadd C dL_law_347 ?_
        refine z_scr C hX hbl (by omega) (by omega) (by omega) dL_law_348 (fun z184 rz184 ez184 => ?_)
        refine z_aloadn C 0 dL_law_349 rfl rfl ?_
        refine z_iloadn C 3 dL_law_350 rfl rfl ?_
        refine z_iconst C dL_law_351 ?_
        refine z_iadd C dL_law_352 ?_
        refine z_scr C hX hbl (by omega) (by omega) (by omega) dL_law_353 (fun z185 rz185 ez185 => ?_)
        refine z_callC C (cm_X10_state l z184 z185 (by omega) (by omega) Hca_sfacts (by omega) (by omega)) mv_L_37 rfl rfl pd_X10_state ⟨by omega, by omega⟩ ⟨by omega, by omega⟩ rfl (Nat.le_of_ble_eq_true rfl) dL_law_354 ?_
        rintro _ _ _ ⟨rfl, rfl, z188, rfl, hz188⟩
        refine z_pop C dL_law_357 rfl ?_
        refine z_aloadn C 2 dL_law_358 rfl rfl ?_
        refine z_aloadn C 0 dL_law_359 rfl rfl ?_
        refine z_iloadn C 3 dL_law_360 rfl rfl ?_
        refine z_iconst C dL_law_361 ?_
        refine z_iadd C dL_law_362 ?_
        refine z_scr C hX hbl (by omega) (by omega) (by omega) dL_law_363 (fun z189 rz189 ez189 => ?_)
        obtain rfl : z184 = z189 := ez184.trans ez189.symm
        refine z_aloadn C 0 dL_law_364 rfl rfl ?_
        refine z_iloadn C 3 dL_law_365 rfl rfl ?_
        refine z_iconst C dL_law_366 ?_
        refine z_iadd C dL_law_367 ?_
        refine z_scr C hX hbl (by omega) (by omega) (by omega) dL_law_368 (fun z190 rz190 ez190 => ?_)
        obtain rfl : z185 = z190 := ez185.trans ez190.symm
        refine z_callM C (fun _ => (cm_X11_state l z184 z185 (by omega) (by omega) (by omega) (by omega))) mv_L_41 rfl rfl pd_X11_state ⟨by omega, by omega⟩ ⟨by omega, by omega⟩ rfl (Nat.le_of_ble_eq_true rfl) dL_law_369 ?_
        rintro _ _ _ ⟨rfl, rfl, z193, rfl, hz193⟩
        refine z_pop C dL_law_372 rfl ?_
        refine z_goto (t := 788) C dL_law_373 (by decide) ?_
        refine z_iinc (L' := [(3, z_v (i3 + 6)), (0, .ref b), (1, .ref (aC 0)), (2, .ref (aM 0))]) C 3 dL_law_788 rfl (by decide) rfl ?_
        refine z_goto (t := 18) C dL_law_791 (by decide) ?_
        refine z_wide (k := (100 + 4 * ((i3 + 6) : Int).toNat)) (n := (20000 + 20 * ((i3 + 6) : Int).toNat)) (by omega) (by omega) ?_
        refine z_loc (L' := [(0, .ref b), (1, .ref (aC 0)), (2, .ref (aM 0)), (3, z_v (i3 + 6))]) [1, 2, 3, 0] rfl ?_
        exact ih (i3 + 6) Y cs_edgeCount cs_moveCount cs_isNeeded cs_timesDone cs_size cs_isGoing cs_allTime cs_stepCount cs_gapCount cg_edges cg_moves cg_limits ca_sfacts ca_sbounds ca_facts ca_zone ca_most ca_places ca_amounts ca_nextPlaces ca_nextAmounts ca_earliest ca_visited ca_lastSet ca_gapFrom ca_gapTo ca_gapLeast ca_askedPlaces ca_askedAmounts ms_edges ms_isNeeded ms_explored ms_states ms_isMoved ms_runs ms_runTime ms_runMoves mw_h ma_machine ma_from ma_to ma_channel ma_resets ma_guards ma_guardOf ma_limits ma_limitOf ma_places ma_zones ma_parent ma_moveE ma_moveF ma_moves ma_z ma_ahead ma_at ma_amounts ma_way ma_moments ma_runAt ma_runClock (by omega) (by omega) (by omega) (by omega) (by omega) (by omega) (by omega) Hca_sfacts Hca_sbounds Hca_facts Hca_zone Hca_most Hca_places Hca_amounts Hca_nextPlaces Hca_nextAmounts Hca_earliest Hca_visited Hca_lastSet Hca_gapFrom Hca_gapTo Hca_gapLeast Hca_askedPlaces Hca_askedAmounts (by omega) (by omega) (by omega) (by omega) (by omega) (by omega) Hma_machine Hma_from Hma_to Hma_channel Hma_resets Hma_guards Hma_guardOf Hma_limits Hma_limitOf Hma_places Hma_zones Hma_parent Hma_moveE Hma_moveF Hma_moves Hma_z Hma_ahead Hma_at Hma_amounts Hma_way Hma_moments Hma_runAt Hma_runClock HCC HCH HE HM HL (by omega) (by omega) (by omega)
      · refine z_tabIn (o := 343) (t := 376) C b3 dL_law_33 (by omega) (by omega) (by omega) (by rw [w4]; rfl) (by decide) ?_
        refine z_aloadn C 1 dL_law_376 rfl rfl ?_
        refine z_aloadn C 0 dL_law_377 rfl rfl ?_
        refine z_iloadn C 3 dL_law_378 rfl rfl ?_
        refine z_iconst C dL_law_379 ?_
        refine z_iadd C dL_law_380 ?_
        refine z_scr C hX hbl (by omega) (by omega) (by omega) dL_law_381 (fun z194 rz194 ez194 => ?_)
        refine z_aloadn C 0 dL_law_382 rfl rfl ?_
        refine z_iloadn C 3 dL_law_383 rfl rfl ?_
        refine z_iconst C dL_law_384 ?_
        refine z_iadd C dL_law_385 ?_
        refine z_scr C hX hbl (by omega) (by omega) (by omega) dL_law_386 (fun z195 rz195 ez195 => ?_)
        refine z_aloadn C 0 dL_law_387 rfl rfl ?_
        refine z_iloadn C 3 dL_law_388 rfl rfl ?_
        refine z_iconst C dL_law_389 ?_
        refine z_iadd C dL_law_390 ?_
        refine z_scr C hX hbl (by omega) (by omega) (by omega) dL_law_391 (fun z196 rz196 ez196 => ?_)
        refine z_callC C (cm_X10_bound l z194 z195 z196 (by omega) (by omega) Hca_sbounds (by omega) (by omega) (by omega)) mv_L_42 rfl rfl pd_X10_bound ⟨by omega, by omega⟩ ⟨by omega, by omega⟩ rfl (Nat.le_of_ble_eq_true rfl) dL_law_392 ?_
        rintro _ _ _ ⟨rfl, rfl, z199, rfl, hz199⟩
        refine z_pop C dL_law_395 rfl ?_
        refine z_aloadn C 2 dL_law_396 rfl rfl ?_
        refine z_aloadn C 0 dL_law_397 rfl rfl ?_
        refine z_iloadn C 3 dL_law_398 rfl rfl ?_
        refine z_iconst C dL_law_399 ?_
        refine z_iadd C dL_law_400 ?_
        refine z_scr C hX hbl (by omega) (by omega) (by omega) dL_law_401 (fun z200 rz200 ez200 => ?_)
        obtain rfl : z194 = z200 := ez194.trans ez200.symm
        refine z_aloadn C 0 dL_law_402 rfl rfl ?_
        refine z_iloadn C 3 dL_law_403 rfl rfl ?_
        refine z_iconst C dL_law_404 ?_
        refine z_iadd C dL_law_405 ?_
        refine z_scr C hX hbl (by omega) (by omega) (by omega) dL_law_406 (fun z201 rz201 ez201 => ?_)
        obtain rfl : z195 = z201 := ez195.trans ez201.symm
        refine z_aloadn C 0 dL_law_407 rfl rfl ?_
        refine z_iloadn C 3 dL_law_408 rfl rfl ?_
        refine z_iconst C dL_law_409 ?_
        refine z_iadd C dL_law_410 ?_
        refine z_scr C hX hbl (by omega) (by omega) (by omega) dL_law_411 (fun z202 rz202 ez202 => ?_)
        obtain rfl : z196 = z202 := ez196.trans ez202.symm
        refine z_callM C (fun _ => (cm_X11_bound l z194 z195 z196 (by omega) (by omega) (by omega) (by omega) (by omega))) mv_L_46 rfl rfl pd_X11_bound ⟨by omega, by omega⟩ ⟨by omega, by omega⟩ rfl (Nat.le_of_ble_eq_true rfl) dL_law_412 ?_
        rintro _ _ _ ⟨rfl, rfl, z205, rfl, hz205⟩
        refine z_pop C dL_law_415 rfl ?_
        refine z_goto (t := 788) C dL_law_416 (by decide) ?_
        refine z_iinc (L' := [(3, z_v (i3 + 6)), (0, .ref b), (1, .ref (aC 0)), (2, .ref (aM 0))]) C 3 dL_law_788 rfl (by decide) rfl ?_
        refine z_goto (t := 18) C dL_law_791 (by decide) ?_
        refine z_wide (k := (100 + 4 * ((i3 + 6) : Int).toNat)) (n := (20000 + 20 * ((i3 + 6) : Int).toNat)) (by omega) (by omega) ?_
        refine z_loc (L' := [(0, .ref b), (1, .ref (aC 0)), (2, .ref (aM 0)), (3, z_v (i3 + 6))]) [1, 2, 3, 0] rfl ?_
        exact ih (i3 + 6) Y cs_edgeCount cs_moveCount cs_isNeeded cs_timesDone cs_size cs_isGoing cs_allTime cs_stepCount cs_gapCount cg_edges cg_moves cg_limits ca_sfacts ca_sbounds ca_facts ca_zone ca_most ca_places ca_amounts ca_nextPlaces ca_nextAmounts ca_earliest ca_visited ca_lastSet ca_gapFrom ca_gapTo ca_gapLeast ca_askedPlaces ca_askedAmounts ms_edges ms_isNeeded ms_explored ms_states ms_isMoved ms_runs ms_runTime ms_runMoves mw_h ma_machine ma_from ma_to ma_channel ma_resets ma_guards ma_guardOf ma_limits ma_limitOf ma_places ma_zones ma_parent ma_moveE ma_moveF ma_moves ma_z ma_ahead ma_at ma_amounts ma_way ma_moments ma_runAt ma_runClock (by omega) (by omega) (by omega) (by omega) (by omega) (by omega) (by omega) Hca_sfacts Hca_sbounds Hca_facts Hca_zone Hca_most Hca_places Hca_amounts Hca_nextPlaces Hca_nextAmounts Hca_earliest Hca_visited Hca_lastSet Hca_gapFrom Hca_gapTo Hca_gapLeast Hca_askedPlaces Hca_askedAmounts (by omega) (by omega) (by omega) (by omega) (by omega) (by omega) Hma_machine Hma_from Hma_to Hma_channel Hma_resets Hma_guards Hma_guardOf Hma_limits Hma_limitOf Hma_places Hma_zones Hma_parent Hma_moveE Hma_moveF Hma_moves Hma_z Hma_ahead Hma_at Hma_amounts Hma_way Hma_moments Hma_runAt Hma_runClock HCC HCH HE HM HL (by omega) (by omega) (by omega)
      · refine z_tabIn (o := 386) (t := 419) C b3 dL_law_33 (by omega) (by omega) (by omega) (by rw [w4]; rfl) (by decide) ?_
        refine z_aloadn C 1 dL_law_419 rfl rfl ?_
        refine z_aloadn C 0 dL_law_420 rfl rfl ?_
        refine z_iloadn C 3 dL_law_421 rfl rfl ?_
        refine z_iconst C dL_law_422 ?_
        refine z_iadd C dL_law_423 ?_
        refine z_scr C hX hbl (by omega) (by omega) (by omega) dL_law_424 (fun z206 rz206 ez206 => ?_)
        refine z_aloadn C 0 dL_law_425 rfl rfl ?_
        refine z_iloadn C 3 dL_law_426 rfl rfl ?_
        refine z_iconst C dL_law_427 ?_
        refine z_iadd C dL_law_428 ?_
        refine z_scr C hX hbl (by omega) (by omega) (by omega) dL_law_429 (fun z207 rz207 ez207 => ?_)
        refine z_aloadn C 0 dL_law_430 rfl rfl ?_
        refine z_iloadn C 3 dL_law_431 rfl rfl ?_
        refine z_iconst C dL_law_432 ?_
        refine z_iadd C dL_law_433 ?_
        refine z_scr C hX hbl (by omega) (by omega) (by omega) dL_law_434 (fun z208 rz208 ez208 => ?_)
        refine z_callC C (cm_X10_reach l z206 z207 z208 (by omega) (by omega) Hca_sfacts Hca_askedPlaces (by omega) (by omega) (by omega)) mv_L_47 rfl rfl pd_X10_reach ⟨by omega, by omega⟩ ⟨by omega, by omega⟩ rfl (Nat.le_of_ble_eq_true rfl) dL_law_435 ?_
        rintro _ _ _ ⟨n209, rfl, rfl, h212, z213, rfl, hz213⟩
        refine z_pop C dL_law_438 rfl ?_
        refine z_aloadn C 2 dL_law_439 rfl rfl ?_
        refine z_aloadn C 0 dL_law_440 rfl rfl ?_
        refine z_iloadn C 3 dL_law_441 rfl rfl ?_
        refine z_iconst C dL_law_442 ?_
        refine z_iadd C dL_law_443 ?_
        refine z_scr C hX hbl (by omega) (by omega) (by omega) dL_law_444 (fun z214 rz214 ez214 => ?_)
        obtain rfl : z206 = z214 := ez206.trans ez214.symm
        refine z_aloadn C 0 dL_law_445 rfl rfl ?_
        refine z_iloadn C 3 dL_law_446 rfl rfl ?_
        refine z_iconst C dL_law_447 ?_
        refine z_iadd C dL_law_448 ?_
        refine z_scr C hX hbl (by omega) (by omega) (by omega) dL_law_449 (fun z215 rz215 ez215 => ?_)
        obtain rfl : z207 = z215 := ez207.trans ez215.symm
        refine z_aloadn C 0 dL_law_450 rfl rfl ?_
        refine z_iloadn C 3 dL_law_451 rfl rfl ?_
        refine z_iconst C dL_law_452 ?_
        refine z_iadd C dL_law_453 ?_
        refine z_scr C hX hbl (by omega) (by omega) (by omega) dL_law_454 (fun z216 rz216 ez216 => ?_)
        obtain rfl : z208 = z216 := ez208.trans ez216.symm
        refine z_callM C (fun _ => (cm_X11_reach l z206 z207 z208 (by omega) (by omega) Hma_places (by omega) (by omega) (by omega))) mv_L_50 rfl rfl pd_X11_reach ⟨by omega, by omega⟩ ⟨by omega, by omega⟩ rfl (Nat.le_of_ble_eq_true rfl) dL_law_455 ?_
        rintro _ _ _ ⟨rfl, rfl, z219, rfl, hz219⟩
        refine z_pop C dL_law_458 rfl ?_
        refine z_goto (t := 788) C dL_law_459 (by decide) ?_
        refine z_iinc (L' := [(3, z_v (i3 + 6)), (0, .ref b), (1, .ref (aC 0)), (2, .ref (aM 0))]) C 3 dL_law_788 rfl (by decide) rfl ?_
        refine z_goto (t := 18) C dL_law_791 (by decide) ?_
        refine z_wide (k := (100 + 4 * ((i3 + 6) : Int).toNat)) (n := (20000 + 20 * ((i3 + 6) : Int).toNat)) (by omega) (by omega) ?_
        refine z_loc (L' := [(0, .ref b), (1, .ref (aC 0)), (2, .ref (aM 0)), (3, z_v (i3 + 6))]) [1, 2, 3, 0] rfl ?_
        exact ih (i3 + 6) Y cs_edgeCount cs_moveCount cs_isNeeded cs_timesDone cs_size cs_isGoing cs_allTime cs_stepCount cs_gapCount cg_edges cg_moves cg_limits ca_sfacts ca_sbounds ca_facts ca_zone ca_most ca_places ca_amounts ca_nextPlaces ca_nextAmounts ca_earliest ca_visited ca_lastSet ca_gapFrom ca_gapTo ca_gapLeast n209 ca_askedAmounts ms_edges ms_isNeeded ms_explored ms_states ms_isMoved ms_runs ms_runTime ms_runMoves mw_h ma_machine ma_from ma_to ma_channel ma_resets ma_guards ma_guardOf ma_limits ma_limitOf ma_places ma_zones ma_parent ma_moveE ma_moveF ma_moves ma_z ma_ahead ma_at ma_amounts ma_way ma_moments ma_runAt ma_runClock (by omega) (by omega) (by omega) (by omega) (by omega) (by omega) (by omega) Hca_sfacts Hca_sbounds Hca_facts Hca_zone Hca_most Hca_places Hca_amounts Hca_nextPlaces Hca_nextAmounts Hca_earliest Hca_visited Hca_lastSet Hca_gapFrom Hca_gapTo Hca_gapLeast h212 Hca_askedAmounts (by omega) (by omega) (by omega) (by omega) (by omega) (by omega) Hma_machine Hma_from Hma_to Hma_channel Hma_resets Hma_guards Hma_guardOf Hma_limits Hma_limitOf Hma_places Hma_zones Hma_parent Hma_moveE Hma_moveF Hma_moves Hma_z Hma_ahead Hma_at Hma_amounts Hma_way Hma_moments Hma_runAt Hma_runClock HCC HCH HE HM HL (by omega) (by omega) (by omega)
      · refine z_tabIn (o := 429) (t := 462) C b3 dL_law_33 (by omega) (by omega) (by omega) (by rw [w4]; rfl) (by decide) ?_
        refine z_aloadn C 1 dL_law_462 rfl rfl ?_
        refine z_aloadn C 0 dL_law_463 rfl rfl ?_
        refine z_iloadn C 3 dL_law_464 rfl rfl ?_
        refine z_iconst C dL_law_465 ?_
        refine z_iadd C dL_law_466 ?_
        refine z_scr C hX hbl (by omega) (by omega) (by omega) dL_law_467 (fun z220 rz220 ez220 => ?_)
        refine z_aloadn C 0 dL_law_468 rfl rfl ?_
        refine z_iloadn C 3 dL_law_469 rfl rfl ?_
        refine z_iconst C dL_law_470 ?_
        refine z_iadd C dL_law_471 ?_
        refine z_scr C hX hbl (by omega) (by omega) (by omega) dL_law_472 (fun z221 rz221 ez221 => ?_)
        refine z_aloadn C 0 dL_law_473 rfl rfl ?_
        refine z_iloadn C 3 dL_law_474 rfl rfl ?_
        refine z_iconst C dL_law_475 ?_
        refine z_iadd C dL_law_476 ?_
        refine z_scr C hX hbl (by omega) (by omega) (by omega) dL_law_477 (fun z222 rz222 ez222 => ?_)
        refine z_aloadn C 0 dL_law_478 rfl rfl ?_
        refine z_iloadn C 3 dL_law_479 rfl rfl ?_
        refine z_iconst C dL_law_480 ?_
        refine z_iadd C dL_law_481 ?_
        refine z_scr C hX hbl (by omega) (by omega) (by omega) dL_law_482 (fun z223 rz223 ez223 => ?_)
        refine z_callC C (cm_X10_has l z220 z221 z222 z223 (by omega) (by omega) Hca_sbounds Hca_askedAmounts (by omega) (by omega) (by omega) (by omega)) mv_L_51 rfl rfl pd_X10_has ⟨by omega, by omega⟩ ⟨by omega, by omega⟩ rfl (Nat.le_of_ble_eq_true rfl) dL_law_483 ?_
        rintro _ _ _ ⟨n224, rfl, rfl, h227, z228, rfl, hz228⟩
        refine z_pop C dL_law_486 rfl ?_
        refine z_aloadn C 2 dL_law_487 rfl rfl ?_
        refine z_aloadn C 0 dL_law_488 rfl rfl ?_
        refine z_iloadn C 3 dL_law_489 rfl rfl ?_
        refine z_iconst C dL_law_490 ?_
        refine z_iadd C dL_law_491 ?_
        refine z_scr C hX hbl (by omega) (by omega) (by omega) dL_law_492 (fun z229 rz229 ez229 => ?_)
        obtain rfl : z220 = z229 := ez220.trans ez229.symm
        refine z_aloadn C 0 dL_law_493 rfl rfl ?_
        refine z_iloadn C 3 dL_law_494 rfl rfl ?_
        refine z_iconst C dL_law_495 ?_
        refine z_iadd C dL_law_496 ?_
        refine z_scr C hX hbl (by omega) (by omega) (by omega) dL_law_497 (fun z230 rz230 ez230 => ?_)
        obtain rfl : z221 = z230 := ez221.trans ez230.symm
        refine z_aloadn C 0 dL_law_498 rfl rfl ?_
        refine z_iloadn C 3 dL_law_499 rfl rfl ?_
        refine z_iconst C dL_law_500 ?_
        refine z_iadd C dL_law_501 ?_
        refine z_scr C hX hbl (by omega) (by omega) (by omega) dL_law_502 (fun z231 rz231 ez231 => ?_)
        obtain rfl : z222 = z231 := ez222.trans ez231.symm
        refine z_aloadn C 0 dL_law_503 rfl rfl ?_
        refine z_iloadn C 3 dL_law_504 rfl rfl ?_
        refine z_iconst C dL_law_505 ?_
        refine z_iadd C dL_law_506 ?_
        refine z_scr C hX hbl (by omega) (by omega) (by omega) dL_law_507 (fun z232 rz232 ez232 => ?_)
        obtain rfl : z223 = z232 := ez223.trans ez232.symm
        refine z_callM C (fun _ => (cm_X11_has l z220 z221 z222 z223 (by omega) (by omega) Hma_zones Hma_amounts (by omega) (by omega) (by omega) (by omega))) mv_L_54 rfl rfl pd_X11_has ⟨by omega, by omega⟩ ⟨by omega, by omega⟩ rfl (Nat.le_of_ble_eq_true rfl) dL_law_508 ?_
        rintro _ _ _ ⟨n233, rfl, rfl, h236, z237, rfl, hz237⟩
        refine z_pop C dL_law_511 rfl ?_
        refine z_goto (t := 788) C dL_law_512 (by decide) ?_
        refine z_iinc (L' := [(3, z_v (i3 + 6)), (0, .ref b), (1, .ref (aC 0)), (2, .ref (aM 0))]) C 3 dL_law_788 rfl (by decide) rfl ?_
        refine z_goto (t := 18) C dL_law_791 (by decide) ?_
        refine z_wide (k := (100 + 4 * ((i3 + 6) : Int).toNat)) (n := (20000 + 20 * ((i3 + 6) : Int).toNat)) (by omega) (by omega) ?_
        refine z_loc (L' := [(0, .ref b), (1, .ref (aC 0)), (2, .ref (aM 0)), (3, z_v (i3 + 6))]) [1, 2, 3, 0] rfl ?_
        exact ih (i3 + 6) Y cs_edgeCount cs_moveCount cs_isNeeded cs_timesDone cs_size cs_isGoing cs_allTime cs_stepCount cs_gapCount cg_edges cg_moves cg_limits ca_sfacts ca_sbounds ca_facts ca_zone ca_most ca_places ca_amounts ca_nextPlaces ca_nextAmounts ca_earliest ca_visited ca_lastSet ca_gapFrom ca_gapTo ca_gapLeast ca_askedPlaces n224 ms_edges ms_isNeeded ms_explored ms_states ms_isMoved ms_runs ms_runTime ms_runMoves mw_h ma_machine ma_from ma_to ma_channel ma_resets ma_guards ma_guardOf ma_limits ma_limitOf ma_places ma_zones ma_parent ma_moveE ma_moveF ma_moves ma_z ma_ahead ma_at n233 ma_way ma_moments ma_runAt ma_runClock (by omega) (by omega) (by omega) (by omega) (by omega) (by omega) (by omega) Hca_sfacts Hca_sbounds Hca_facts Hca_zone Hca_most Hca_places Hca_amounts Hca_nextPlaces Hca_nextAmounts Hca_earliest Hca_visited Hca_lastSet Hca_gapFrom Hca_gapTo Hca_gapLeast Hca_askedPlaces h227 (by omega) (by omega) (by omega) (by omega) (by omega) (by omega) Hma_machine Hma_from Hma_to Hma_channel Hma_resets Hma_guards Hma_guardOf Hma_limits Hma_limitOf Hma_places Hma_zones Hma_parent Hma_moveE Hma_moveF Hma_moves Hma_z Hma_ahead Hma_at h236 Hma_way Hma_moments Hma_runAt Hma_runClock HCC HCH HE HM HL (by omega) (by omega) (by omega)
      · refine z_tabIn (o := 482) (t := 515) C b3 dL_law_33 (by omega) (by omega) (by omega) (by rw [w4]; rfl) (by decide) ?_
        refine z_aloadn C 1 dL_law_515 rfl rfl ?_
        refine z_aloadn C 0 dL_law_516 rfl rfl ?_
        refine z_iloadn C 3 dL_law_517 rfl rfl ?_
        refine z_iconst C dL_law_518 ?_
        refine z_iadd C dL_law_519 ?_
        refine z_scr C hX hbl (by omega) (by omega) (by omega) dL_law_520 (fun z238 rz238 ez238 => ?_)
        refine z_aloadn C 0 dL_law_521 rfl rfl ?_
        refine z_iloadn C 3 dL_law_522 rfl rfl ?_
        refine z_iconst C dL_law_523 ?_
        refine z_iadd C dL_law_524 ?_
        refine z_scr C hX hbl (by omega) (by omega) (by omega) dL_law_525 (fun z239 rz239 ez239 => ?_)
        refine z_aloadn C 0 dL_law_526 rfl rfl ?_
        refine z_iloadn C 3 dL_law_527 rfl rfl ?_
        refine z_iconst C dL_law_528 ?_
        refine z_iadd C dL_law_529 ?_
        refine z_scr C hX hbl (by omega) (by omega) (by omega) dL_law_530 (fun z240 rz240 ez240 => ?_)
        refine z_callC C (cm_X10_way l z238 z239 z240 (by omega) (by omega) Hca_sfacts (by omega) (by omega) (by omega) HCC) mv_L_55 rfl rfl pd_X10_way ⟨by omega, by omega⟩ ⟨by omega, by omega⟩ rfl (Nat.le_of_ble_eq_true rfl) dL_law_531 ?_
        rintro _ _ _ ⟨rfl, rfl, z243, rfl, hz243⟩
        refine z_pop C dL_law_534 rfl ?_
        refine z_aloadn C 2 dL_law_535 rfl rfl ?_
        refine z_aloadn C 0 dL_law_536 rfl rfl ?_
        refine z_iloadn C 3 dL_law_537 rfl rfl ?_
        refine z_iconst C dL_law_538 ?_
        refine z_iadd C dL_law_539 ?_
        refine z_scr C hX hbl (by omega) (by omega) (by omega) dL_law_540 (fun z244 rz244 ez244 => ?_)
        obtain rfl : z238 = z244 := ez238.trans ez244.symm
        refine z_aloadn C 0 dL_law_541 rfl rfl ?_
        refine z_iloadn C 3 dL_law_542 rfl rfl ?_
        refine z_iconst C dL_law_543 ?_
        refine z_iadd C dL_law_544 ?_
        refine z_scr C hX hbl (by omega) (by omega) (by omega) dL_law_545 (fun z245 rz245 ez245 => ?_)
        obtain rfl : z239 = z245 := ez239.trans ez245.symm
        refine z_aloadn C 0 dL_law_546 rfl rfl ?_
        refine z_iloadn C 3 dL_law_547 rfl rfl ?_
        refine z_iconst C dL_law_548 ?_
        refine z_iadd C dL_law_549 ?_
        refine z_scr C hX hbl (by omega) (by omega) (by omega) dL_law_550 (fun z246 rz246 ez246 => ?_)
        obtain rfl : z240 = z246 := ez240.trans ez246.symm
        refine z_callM C (fun _ => (cm_X11_way l z238 z239 z240 (by omega) (by omega) Hma_parent Hma_moves Hma_way (by omega) (by omega) (by omega) HCH)) mv_L_58 rfl rfl pd_X11_way ⟨by omega, by omega⟩ ⟨by omega, by omega⟩ rfl (Nat.le_of_ble_eq_true rfl) dL_law_551 ?_
        rintro _ _ _ ⟨n247, rfl, rfl, h250, z251, rfl, hz251⟩
        refine z_pop C dL_law_554 rfl ?_
        refine z_goto (t := 788) C dL_law_555 (by decide) ?_
        refine z_iinc (L' := [(3, z_v (i3 + 6)), (0, .ref b), (1, .ref (aC 0)), (2, .ref (aM 0))]) C 3 dL_law_788 rfl (by decide) rfl ?_
        refine z_goto (t := 18) C dL_law_791 (by decide) ?_
        refine z_wide (k := (100 + 4 * ((i3 + 6) : Int).toNat)) (n := (20000 + 20 * ((i3 + 6) : Int).toNat)) (by omega) (by omega) ?_
        refine z_loc (L' := [(0, .ref b), (1, .ref (aC 0)), (2, .ref (aM 0)), (3, z_v (i3 + 6))]) [1, 2, 3, 0] rfl ?_
        exact ih (i3 + 6) Y cs_edgeCount cs_moveCount cs_isNeeded cs_timesDone cs_size cs_isGoing cs_allTime cs_stepCount cs_gapCount cg_edges cg_moves cg_limits ca_sfacts ca_sbounds ca_facts ca_zone ca_most ca_places ca_amounts ca_nextPlaces ca_nextAmounts ca_earliest ca_visited ca_lastSet ca_gapFrom ca_gapTo ca_gapLeast ca_askedPlaces ca_askedAmounts ms_edges ms_isNeeded ms_explored ms_states ms_isMoved ms_runs ms_runTime ms_runMoves mw_h ma_machine ma_from ma_to ma_channel ma_resets ma_guards ma_guardOf ma_limits ma_limitOf ma_places ma_zones ma_parent ma_moveE ma_moveF ma_moves ma_z ma_ahead ma_at ma_amounts n247 ma_moments ma_runAt ma_runClock (by omega) (by omega) (by omega) (by omega) (by omega) (by omega) (by omega) Hca_sfacts Hca_sbounds Hca_facts Hca_zone Hca_most Hca_places Hca_amounts Hca_nextPlaces Hca_nextAmounts Hca_earliest Hca_visited Hca_lastSet Hca_gapFrom Hca_gapTo Hca_gapLeast Hca_askedPlaces Hca_askedAmounts (by omega) (by omega) (by omega) (by omega) (by omega) (by omega) Hma_machine Hma_from Hma_to Hma_channel Hma_resets Hma_guards Hma_guardOf Hma_limits Hma_limitOf Hma_places Hma_zones Hma_parent Hma_moveE Hma_moveF Hma_moves Hma_z Hma_ahead Hma_at Hma_amounts h250 Hma_moments Hma_runAt Hma_runClock HCC HCH HE HM HL (by omega) (by omega) (by omega)
      · refine z_tabIn (o := 525) (t := 558) C b3 dL_law_33 (by omega) (by omega) (by omega) (by rw [w4]; rfl) (by decide) ?_
        refine z_aloadn C 1 dL_law_558 rfl rfl ?_
        refine z_aloadn C 0 dL_law_559 rfl rfl ?_
        refine z_iloadn C 3 dL_law_560 rfl rfl ?_
        refine z_iconst C dL_law_561 ?_
        refine z_iadd C dL_law_562 ?_
        refine z_scr C hX hbl (by omega) (by omega) (by omega) dL_law_563 (fun z252 rz252 ez252 => ?_)
        refine z_aloadn C 0 dL_law_564 rfl rfl ?_
        refine z_iloadn C 3 dL_law_565 rfl rfl ?_
        refine z_iconst C dL_law_566 ?_
        refine z_iadd C dL_law_567 ?_
        refine z_scr C hX hbl (by omega) (by omega) (by omega) dL_law_568 (fun z253 rz253 ez253 => ?_)
        refine z_callC C (cm_X10_moment l z252 z253 (by omega) Hca_gapFrom Hca_gapTo Hca_gapLeast Hca_lastSet Hca_visited Hca_earliest Hca_sfacts (by omega) (by omega) (by omega) (by omega) (by omega) HCC HM HL) mv_L_59 rfl rfl pd_X10_moment ⟨by omega, by omega⟩ ⟨by omega, by omega⟩ rfl (Nat.le_of_ble_eq_true rfl) dL_law_569 ?_
        rintro _ _ _ ⟨n254, n255, n256, n257, n258, n259, n260, rfl, rfl, h263, h264, h265, h266, h267, h268, h269, z270, rfl, hz270⟩
        refine z_pop C dL_law_572 rfl ?_
        refine z_aloadn C 2 dL_law_573 rfl rfl ?_
        refine z_aloadn C 0 dL_law_574 rfl rfl ?_
        refine z_iloadn C 3 dL_law_575 rfl rfl ?_
        refine z_iconst C dL_law_576 ?_
        refine z_iadd C dL_law_577 ?_
        refine z_scr C hX hbl (by omega) (by omega) (by omega) dL_law_578 (fun z271 rz271 ez271 => ?_)
        obtain rfl : z252 = z271 := ez252.trans ez271.symm
        refine z_aloadn C 0 dL_law_579 rfl rfl ?_
        refine z_iloadn C 3 dL_law_580 rfl rfl ?_
        refine z_iconst C dL_law_581 ?_
        refine z_iadd C dL_law_582 ?_
        refine z_scr C hX hbl (by omega) (by omega) (by omega) dL_law_583 (fun z272 rz272 ez272 => ?_)
        obtain rfl : z253 = z272 := ez253.trans ez272.symm
        refine z_callM C (fun _ => (cm_X11_moment l z252 z253 Hma_resets Hma_moveE Hma_moveF Hma_way Hma_guards Hma_guardOf Hma_limits Hma_limitOf Hma_places (by omega) Hma_moments (by omega) (by omega) Hma_parent Hma_moves (by omega) (by omega) HCH)) mv_L_62 rfl rfl pd_X11_moment ⟨by omega, by omega⟩ ⟨by omega, by omega⟩ rfl (Nat.le_of_ble_eq_true rfl) dL_law_584 ?_
        rintro _ _ _ ⟨n273, n274, n275, rfl, rfl, h278, h279, h280, z281, rfl, hz281⟩
        refine z_pop C dL_law_587 rfl ?_
        refine z_goto (t := 788) C dL_law_588 (by decide) ?_
        refine z_iinc (L' := [(3, z_v (i3 + 6)), (0, .ref b), (1, .ref (aC 0)), (2, .ref (aM 0))]) C 3 dL_law_788 rfl (by decide) rfl ?_
        refine z_goto (t := 18) C dL_law_791 (by decide) ?_
        refine z_wide (k := (100 + 4 * ((i3 + 6) : Int).toNat)) (n := (20000 + 20 * ((i3 + 6) : Int).toNat)) (by omega) (by omega) ?_
        refine z_loc (L' := [(0, .ref b), (1, .ref (aC 0)), (2, .ref (aM 0)), (3, z_v (i3 + 6))]) [1, 2, 3, 0] rfl ?_
        exact ih (i3 + 6) Y cs_edgeCount cs_moveCount cs_isNeeded cs_timesDone cs_size cs_isGoing cs_allTime cs_stepCount n254 cg_edges cg_moves cg_limits ca_sfacts ca_sbounds ca_facts ca_zone ca_most ca_places ca_amounts ca_nextPlaces ca_nextAmounts n260 n259 n258 n255 n256 n257 ca_askedPlaces ca_askedAmounts ms_edges ms_isNeeded ms_explored ms_states n274 ms_runs ms_runTime ms_runMoves mw_h ma_machine ma_from ma_to ma_channel ma_resets ma_guards ma_guardOf ma_limits ma_limitOf ma_places ma_zones ma_parent ma_moveE ma_moveF ma_moves ma_z ma_ahead ma_at ma_amounts n273 n275 ma_runAt ma_runClock (by omega) (by omega) (by omega) (by omega) (by omega) (by omega) (by omega) Hca_sfacts Hca_sbounds Hca_facts Hca_zone Hca_most Hca_places Hca_amounts Hca_nextPlaces Hca_nextAmounts h269 h268 h267 h264 h265 h266 Hca_askedPlaces Hca_askedAmounts (by omega) (by omega) (by omega) (by omega) (by omega) (by omega) Hma_machine Hma_from Hma_to Hma_channel Hma_resets Hma_guards Hma_guardOf Hma_limits Hma_limitOf Hma_places Hma_zones Hma_parent Hma_moveE Hma_moveF Hma_moves Hma_z Hma_ahead Hma_at Hma_amounts h278 h280 Hma_runAt Hma_runClock HCC HCH HE HM HL (by omega) (by omega) (by omega)
      · refine z_tabIn (o := 558) (t := 591) C b3 dL_law_33 (by omega) (by omega) (by omega) (by rw [w4]; rfl) (by decide) ?_
        refine z_aloadn C 1 dL_law_591 rfl rfl ?_
        refine z_aloadn C 0 dL_law_592 rfl rfl ?_
        refine z_iloadn C 3 dL_law_593 rfl rfl ?_
        refine z_iconst C dL_law_594 ?_
        refine z_iadd C dL_law_595 ?_
        refine z_scr C hX hbl (by omega) (by omega) (by omega) dL_law_596 (fun z282 rz282 ez282 => ?_)
        refine z_callC C (cm_X10_greatest l z282 (by omega) (by omega) HE HL) mv_L_63 rfl rfl pd_X10_greatest ⟨by omega, by omega⟩ ⟨by omega, by omega⟩ rfl (Nat.le_of_ble_eq_true rfl) dL_law_597 ?_
        rintro _ _ _ ⟨rfl, rfl, z285, rfl, hz285⟩
        refine z_pop C dL_law_600 rfl ?_
        refine z_aloadn C 2 dL_law_601 rfl rfl ?_
        refine z_aloadn C 0 dL_law_602 rfl rfl ?_
        refine z_iloadn C 3 dL_law_603 rfl rfl ?_
        refine z_iconst C dL_law_604 ?_
        refine z_iadd C dL_law_605 ?_
        refine z_scr C hX hbl (by omega) (by omega) (by omega) dL_law_606 (fun z286 rz286 ez286 => ?_)
        obtain rfl : z282 = z286 := ez282.trans ez286.symm
        refine z_callM C (fun _ => (cm_X11_greatest l z282 (by omega) Hma_guards Hma_guardOf Hma_limits Hma_limitOf (by omega))) mv_L_66 rfl rfl pd_X11_greatest ⟨by omega, by omega⟩ ⟨by omega, by omega⟩ rfl (Nat.le_of_ble_eq_true rfl) dL_law_607 ?_
        rintro _ _ _ ⟨rfl, rfl, z289, rfl, hz289⟩
        refine z_pop C dL_law_610 rfl ?_
        refine z_goto (t := 788) C dL_law_611 (by decide) ?_
        refine z_iinc (L' := [(3, z_v (i3 + 6)), (0, .ref b), (1, .ref (aC 0)), (2, .ref (aM 0))]) C 3 dL_law_788 rfl (by decide) rfl ?_
        refine z_goto (t := 18) C dL_law_791 (by decide) ?_
        refine z_wide (k := (100 + 4 * ((i3 + 6) : Int).toNat)) (n := (20000 + 20 * ((i3 + 6) : Int).toNat)) (by omega) (by omega) ?_
        refine z_loc (L' := [(0, .ref b), (1, .ref (aC 0)), (2, .ref (aM 0)), (3, z_v (i3 + 6))]) [1, 2, 3, 0] rfl ?_
        exact ih (i3 + 6) Y cs_edgeCount cs_moveCount cs_isNeeded cs_timesDone cs_size cs_isGoing cs_allTime cs_stepCount cs_gapCount cg_edges cg_moves cg_limits ca_sfacts ca_sbounds ca_facts ca_zone ca_most ca_places ca_amounts ca_nextPlaces ca_nextAmounts ca_earliest ca_visited ca_lastSet ca_gapFrom ca_gapTo ca_gapLeast ca_askedPlaces ca_askedAmounts ms_edges ms_isNeeded ms_explored ms_states ms_isMoved ms_runs ms_runTime ms_runMoves mw_h ma_machine ma_from ma_to ma_channel ma_resets ma_guards ma_guardOf ma_limits ma_limitOf ma_places ma_zones ma_parent ma_moveE ma_moveF ma_moves ma_z ma_ahead ma_at ma_amounts ma_way ma_moments ma_runAt ma_runClock (by omega) (by omega) (by omega) (by omega) (by omega) (by omega) (by omega) Hca_sfacts Hca_sbounds Hca_facts Hca_zone Hca_most Hca_places Hca_amounts Hca_nextPlaces Hca_nextAmounts Hca_earliest Hca_visited Hca_lastSet Hca_gapFrom Hca_gapTo Hca_gapLeast Hca_askedPlaces Hca_askedAmounts (by omega) (by omega) (by omega) (by omega) (by omega) (by omega) Hma_machine Hma_from Hma_to Hma_channel Hma_resets Hma_guards Hma_guardOf Hma_limits Hma_limitOf Hma_places Hma_zones Hma_parent Hma_moveE Hma_moveF Hma_moves Hma_z Hma_ahead Hma_at Hma_amounts Hma_way Hma_moments Hma_runAt Hma_runClock HCC HCH HE HM HL (by omega) (by omega) (by omega)
      · refine z_tabIn (o := 581) (t := 614) C b3 dL_law_33 (by omega) (by omega) (by omega) (by rw [w4]; rfl) (by decide) ?_
        refine z_aloadn C 1 dL_law_614 rfl rfl ?_
        refine z_callC C (cm_X10_begin l Hca_places Hca_amounts (by omega) HL) mv_L_67 rfl rfl pd_X10_begin ⟨by omega, by omega⟩ ⟨by omega, by omega⟩ rfl (Nat.le_of_ble_eq_true rfl) dL_law_615 ?_
        rintro _ _ _ ⟨n290, n291, n292, rfl, rfl, h295, h296, h297, z298, rfl, hz298⟩
        refine z_pop C dL_law_618 rfl ?_
        refine z_aloadn C 2 dL_law_619 rfl rfl ?_
        refine z_callM C (fun _ => (cm_X11_begin l Hma_at Hma_amounts Hma_runAt Hma_runClock Hma_limits Hma_limitOf (by omega))) mv_L_70 rfl rfl pd_X11_begin ⟨by omega, by omega⟩ ⟨by omega, by omega⟩ rfl (Nat.le_of_ble_eq_true rfl) dL_law_620 ?_
        rintro _ _ _ ⟨n299, n300, n301, n302, n303, n304, n305, rfl, rfl, h308, h309, h310, h311, h312, z313, rfl, hz313⟩
        refine z_pop C dL_law_623 rfl ?_
        refine z_goto (t := 788) C dL_law_624 (by decide) ?_
        refine z_iinc (L' := [(3, z_v (i3 + 6)), (0, .ref b), (1, .ref (aC 0)), (2, .ref (aM 0))]) C 3 dL_law_788 rfl (by decide) rfl ?_
        refine z_goto (t := 18) C dL_law_791 (by decide) ?_
        refine z_wide (k := (100 + 4 * ((i3 + 6) : Int).toNat)) (n := (20000 + 20 * ((i3 + 6) : Int).toNat)) (by omega) (by omega) ?_
        refine z_loc (L' := [(0, .ref b), (1, .ref (aC 0)), (2, .ref (aM 0)), (3, z_v (i3 + 6))]) [1, 2, 3, 0] rfl ?_
        exact ih (i3 + 6) Y cs_edgeCount cs_moveCount cs_isNeeded cs_timesDone cs_size n292 0 0 cs_gapCount cg_edges cg_moves cg_limits ca_sfacts ca_sbounds ca_facts ca_zone ca_most n290 n291 ca_nextPlaces ca_nextAmounts ca_earliest ca_visited ca_lastSet ca_gapFrom ca_gapTo ca_gapLeast ca_askedPlaces ca_askedAmounts ms_edges ms_isNeeded ms_explored ms_states ms_isMoved n303 n304 n305 mw_h ma_machine ma_from ma_to ma_channel ma_resets ma_guards ma_guardOf ma_limits ma_limitOf ma_places ma_zones ma_parent ma_moveE ma_moveF ma_moves ma_z ma_ahead n299 n300 ma_way ma_moments n301 n302 (by omega) (by omega) (by omega) (by omega) (by omega) (by omega) (by omega) Hca_sfacts Hca_sbounds Hca_facts Hca_zone Hca_most h295 h296 Hca_nextPlaces Hca_nextAmounts Hca_earliest Hca_visited Hca_lastSet Hca_gapFrom Hca_gapTo Hca_gapLeast Hca_askedPlaces Hca_askedAmounts (by omega) (by omega) (by omega) (by omega) (by omega) (by omega) Hma_machine Hma_from Hma_to Hma_channel Hma_resets Hma_guards Hma_guardOf Hma_limits Hma_limitOf Hma_places Hma_zones Hma_parent Hma_moveE Hma_moveF Hma_moves Hma_z Hma_ahead h308 h309 Hma_way Hma_moments h310 h311 HCC HCH HE HM HL (by omega) (by omega) (by omega)
      · refine z_tabIn (o := 594) (t := 627) C b3 dL_law_33 (by omega) (by omega) (by omega) (by rw [w4]; rfl) (by decide) ?_
        refine z_aloadn C 1 dL_law_627 rfl rfl ?_
        refine z_aloadn C 0 dL_law_628 rfl rfl ?_
        refine z_iloadn C 3 dL_law_629 rfl rfl ?_
        refine z_iconst C dL_law_630 ?_
        refine z_iadd C dL_law_631 ?_
        refine z_scr C hX hbl (by omega) (by omega) (by omega) dL_law_632 (fun z314 rz314 ez314 => ?_)
        refine z_callC C (cm_X10_pass l z314 Hca_places Hca_amounts Hca_nextAmounts (by omega) (by omega) HL) mv_L_71 rfl rfl pd_X10_pass ⟨by omega, by omega⟩ ⟨by omega, by omega⟩ rfl (Nat.le_of_ble_eq_true rfl) dL_law_633 ?_
        rintro _ _ _ ⟨n315, n316, n317, rfl, rfl, h320, h321, z322, rfl, hz322⟩
        refine z_pop C dL_law_636 rfl ?_
        refine z_aloadn C 2 dL_law_637 rfl rfl ?_
        refine z_aloadn C 0 dL_law_638 rfl rfl ?_
        refine z_iloadn C 3 dL_law_639 rfl rfl ?_
        refine z_iconst C dL_law_640 ?_
        refine z_iadd C dL_law_641 ?_
        refine z_scr C hX hbl (by omega) (by omega) (by omega) dL_law_642 (fun z323 rz323 ez323 => ?_)
        obtain rfl : z314 = z323 := ez314.trans ez323.symm
        refine z_callM C (fun _ => (cm_X11_pass l z314 Hma_at Hma_amounts Hma_runAt Hma_runClock Hma_limits Hma_limitOf (by omega) (by omega))) mv_L_74 rfl rfl pd_X11_pass ⟨by omega, by omega⟩ ⟨by omega, by omega⟩ rfl (Nat.le_of_ble_eq_true rfl) dL_law_643 ?_
        rintro _ _ _ ⟨n324, n325, n326, n327, n328, rfl, rfl, h331, h332, h333, h334, z335, rfl, hz335⟩
        refine z_pop C dL_law_646 rfl ?_
        refine z_goto (t := 788) C dL_law_647 (by decide) ?_
        refine z_iinc (L' := [(3, z_v (i3 + 6)), (0, .ref b), (1, .ref (aC 0)), (2, .ref (aM 0))]) C 3 dL_law_788 rfl (by decide) rfl ?_
        refine z_goto (t := 18) C dL_law_791 (by decide) ?_
        refine z_wide (k := (100 + 4 * ((i3 + 6) : Int).toNat)) (n := (20000 + 20 * ((i3 + 6) : Int).toNat)) (by omega) (by omega) ?_
        refine z_loc (L' := [(0, .ref b), (1, .ref (aC 0)), (2, .ref (aM 0)), (3, z_v (i3 + 6))]) [1, 2, 3, 0] rfl ?_
        exact ih (i3 + 6) Y cs_edgeCount cs_moveCount cs_isNeeded cs_timesDone cs_size cs_isGoing n317 cs_stepCount cs_gapCount cg_edges cg_moves cg_limits ca_sfacts ca_sbounds ca_facts ca_zone ca_most ca_places n315 ca_nextPlaces n316 ca_earliest ca_visited ca_lastSet ca_gapFrom ca_gapTo ca_gapLeast ca_askedPlaces ca_askedAmounts ms_edges ms_isNeeded ms_explored ms_states ms_isMoved ms_runs n328 ms_runMoves mw_h ma_machine ma_from ma_to ma_channel ma_resets ma_guards ma_guardOf ma_limits ma_limitOf ma_places ma_zones ma_parent ma_moveE ma_moveF ma_moves ma_z ma_ahead n324 n325 ma_way ma_moments n326 n327 (by omega) (by omega) (by omega) (by omega) (by omega) (by omega) (by omega) Hca_sfacts Hca_sbounds Hca_facts Hca_zone Hca_most Hca_places h320 Hca_nextPlaces h321 Hca_earliest Hca_visited Hca_lastSet Hca_gapFrom Hca_gapTo Hca_gapLeast Hca_askedPlaces Hca_askedAmounts (by omega) (by omega) (by omega) (by omega) (by omega) (by omega) Hma_machine Hma_from Hma_to Hma_channel Hma_resets Hma_guards Hma_guardOf Hma_limits Hma_limitOf Hma_places Hma_zones Hma_parent Hma_moveE Hma_moveF Hma_moves Hma_z Hma_ahead h331 h332 Hma_way Hma_moments h333 h334 HCC HCH HE HM HL (by omega) (by omega) (by omega)
      · refine z_tabIn (o := 617) (t := 650) C b3 dL_law_33 (by omega) (by omega) (by omega) (by rw [w4]; rfl) (by decide) ?_
        refine z_aloadn C 1 dL_law_650 rfl rfl ?_
        refine z_aloadn C 0 dL_law_651 rfl rfl ?_
        refine z_iloadn C 3 dL_law_652 rfl rfl ?_
        refine z_iconst C dL_law_653 ?_
        refine z_iadd C dL_law_654 ?_
        refine z_scr C hX hbl (by omega) (by omega) (by omega) dL_law_655 (fun z336 rz336 ez336 => ?_)
        refine z_aloadn C 0 dL_law_656 rfl rfl ?_
        refine z_iloadn C 3 dL_law_657 rfl rfl ?_
        refine z_iconst C dL_law_658 ?_
        refine z_iadd C dL_law_659 ?_
        refine z_scr C hX hbl (by omega) (by omega) (by omega) dL_law_660 (fun z337 rz337 ez337 => ?_)
        refine z_callC C (cm_X10_move l z336 z337 (by omega) (by omega) (by omega) Hca_places Hca_amounts Hca_nextPlaces Hca_nextAmounts (by omega) (by omega) HM HL) mv_L_75 rfl rfl pd_X10_move ⟨by omega, by omega⟩ ⟨by omega, by omega⟩ rfl (Nat.le_of_ble_eq_true rfl) dL_law_661 ?_
        rintro _ _ _ ⟨n338, n339, n340, n341, n342, rfl, rfl, h345, h346, h347, h348, z349, rfl, hz349⟩
        refine z_pop C dL_law_664 rfl ?_
        refine z_aloadn C 2 dL_law_665 rfl rfl ?_
        refine z_aloadn C 0 dL_law_666 rfl rfl ?_
        refine z_iloadn C 3 dL_law_667 rfl rfl ?_
        refine z_iconst C dL_law_668 ?_
        refine z_iadd C dL_law_669 ?_
        refine z_scr C hX hbl (by omega) (by omega) (by omega) dL_law_670 (fun z350 rz350 ez350 => ?_)
        obtain rfl : z336 = z350 := ez336.trans ez350.symm
        refine z_aloadn C 0 dL_law_671 rfl rfl ?_
        refine z_iloadn C 3 dL_law_672 rfl rfl ?_
        refine z_iconst C dL_law_673 ?_
        refine z_iadd C dL_law_674 ?_
        refine z_scr C hX hbl (by omega) (by omega) (by omega) dL_law_675 (fun z351 rz351 ez351 => ?_)
        obtain rfl : z337 = z351 := ez337.trans ez351.symm
        refine z_callM C (fun _ => (cm_X11_move l z336 z337 Hma_at Hma_amounts Hma_runAt Hma_runClock (by omega) Hma_channel Hma_machine Hma_from Hma_to Hma_resets (by omega) Hma_guards Hma_guardOf Hma_limits Hma_limitOf (by omega) (by omega))) mv_L_78 rfl rfl pd_X11_move ⟨by omega, by omega⟩ ⟨by omega, by omega⟩ rfl (Nat.le_of_ble_eq_true rfl) dL_law_676 ?_
        rintro _ _ _ ⟨n352, n353, n354, n355, n356, rfl, rfl, h359, h360, h361, h362, z363, rfl, hz363⟩
        refine z_pop C dL_law_679 rfl ?_
        refine z_goto (t := 788) C dL_law_680 (by decide) ?_
        refine z_iinc (L' := [(3, z_v (i3 + 6)), (0, .ref b), (1, .ref (aC 0)), (2, .ref (aM 0))]) C 3 dL_law_788 rfl (by decide) rfl ?_
        refine z_goto (t := 18) C dL_law_791 (by decide) ?_
        refine z_wide (k := (100 + 4 * ((i3 + 6) : Int).toNat)) (n := (20000 + 20 * ((i3 + 6) : Int).toNat)) (by omega) (by omega) ?_
        refine z_loc (L' := [(0, .ref b), (1, .ref (aC 0)), (2, .ref (aM 0)), (3, z_v (i3 + 6))]) [1, 2, 3, 0] rfl ?_
        exact ih (i3 + 6) Y cs_edgeCount cs_moveCount cs_isNeeded cs_timesDone cs_size cs_isGoing cs_allTime n342 cs_gapCount cg_edges cg_moves cg_limits ca_sfacts ca_sbounds ca_facts ca_zone ca_most n338 n339 n340 n341 ca_earliest ca_visited ca_lastSet ca_gapFrom ca_gapTo ca_gapLeast ca_askedPlaces ca_askedAmounts ms_edges ms_isNeeded ms_explored ms_states ms_isMoved ms_runs ms_runTime n356 mw_h ma_machine ma_from ma_to ma_channel ma_resets ma_guards ma_guardOf ma_limits ma_limitOf ma_places ma_zones ma_parent ma_moveE ma_moveF ma_moves ma_z ma_ahead n352 n353 ma_way ma_moments n354 n355 (by omega) (by omega) (by omega) (by omega) (by omega) (by omega) (by omega) Hca_sfacts Hca_sbounds Hca_facts Hca_zone Hca_most h345 h346 h347 h348 Hca_earliest Hca_visited Hca_lastSet Hca_gapFrom Hca_gapTo Hca_gapLeast Hca_askedPlaces Hca_askedAmounts (by omega) (by omega) (by omega) (by omega) (by omega) (by omega) Hma_machine Hma_from Hma_to Hma_channel Hma_resets Hma_guards Hma_guardOf Hma_limits Hma_limitOf Hma_places Hma_zones Hma_parent Hma_moveE Hma_moveF Hma_moves Hma_z Hma_ahead h359 h360 Hma_way Hma_moments h361 h362 HCC HCH HE HM HL (by omega) (by omega) (by omega)
      · refine z_tabIn (o := 650) (t := 683) C b3 dL_law_33 (by omega) (by omega) (by omega) (by rw [w4]; rfl) (by decide) ?_
        refine z_aloadn C 1 dL_law_683 rfl rfl ?_
        refine z_aloadn C 0 dL_law_684 rfl rfl ?_
        refine z_iloadn C 3 dL_law_685 rfl rfl ?_
        refine z_iconst C dL_law_686 ?_
        refine z_iadd C dL_law_687 ?_
        refine z_scr C hX hbl (by omega) (by omega) (by omega) dL_law_688 (fun z364 rz364 ez364 => ?_)
        refine z_callC C (cm_X10_run l z364 (by omega) (by omega)) mv_L_79 rfl rfl pd_X10_run ⟨by omega, by omega⟩ ⟨by omega, by omega⟩ rfl (Nat.le_of_ble_eq_true rfl) dL_law_689 ?_
        rintro _ _ _ ⟨rfl, rfl, z367, rfl, hz367⟩
        refine z_pop C dL_law_692 rfl ?_
        refine z_aloadn C 2 dL_law_693 rfl rfl ?_
        refine z_aloadn C 0 dL_law_694 rfl rfl ?_
        refine z_iloadn C 3 dL_law_695 rfl rfl ?_
        refine z_iconst C dL_law_696 ?_
        refine z_iadd C dL_law_697 ?_
        refine z_scr C hX hbl (by omega) (by omega) (by omega) dL_law_698 (fun z368 rz368 ez368 => ?_)
        obtain rfl : z364 = z368 := ez364.trans ez368.symm
        refine z_callM C (fun _ => (cm_X11_run l z364 (by omega) (by omega))) mv_L_82 rfl rfl pd_X11_run ⟨by omega, by omega⟩ ⟨by omega, by omega⟩ rfl (Nat.le_of_ble_eq_true rfl) dL_law_699 ?_
        rintro _ _ _ ⟨rfl, rfl, z371, rfl, hz371⟩
        refine z_pop C dL_law_702 rfl ?_
        refine z_goto (t := 788) C dL_law_703 (by decide) ?_
        refine z_iinc (L' := [(3, z_v (i3 + 6)), (0, .ref b), (1, .ref (aC 0)), (2, .ref (aM 0))]) C 3 dL_law_788 rfl (by decide) rfl ?_
        refine z_goto (t := 18) C dL_law_791 (by decide) ?_
        refine z_wide (k := (100 + 4 * ((i3 + 6) : Int).toNat)) (n := (20000 + 20 * ((i3 + 6) : Int).toNat)) (by omega) (by omega) ?_
        refine z_loc (L' := [(0, .ref b), (1, .ref (aC 0)), (2, .ref (aM 0)), (3, z_v (i3 + 6))]) [1, 2, 3, 0] rfl ?_
        exact ih (i3 + 6) Y cs_edgeCount cs_moveCount cs_isNeeded cs_timesDone cs_size cs_isGoing cs_allTime cs_stepCount cs_gapCount cg_edges cg_moves cg_limits ca_sfacts ca_sbounds ca_facts ca_zone ca_most ca_places ca_amounts ca_nextPlaces ca_nextAmounts ca_earliest ca_visited ca_lastSet ca_gapFrom ca_gapTo ca_gapLeast ca_askedPlaces ca_askedAmounts ms_edges ms_isNeeded ms_explored ms_states ms_isMoved ms_runs ms_runTime ms_runMoves mw_h ma_machine ma_from ma_to ma_channel ma_resets ma_guards ma_guardOf ma_limits ma_limitOf ma_places ma_zones ma_parent ma_moveE ma_moveF ma_moves ma_z ma_ahead ma_at ma_amounts ma_way ma_moments ma_runAt ma_runClock (by omega) (by omega) (by omega) (by omega) (by omega) (by omega) (by omega) Hca_sfacts Hca_sbounds Hca_facts Hca_zone Hca_most Hca_places Hca_amounts Hca_nextPlaces Hca_nextAmounts Hca_earliest Hca_visited Hca_lastSet Hca_gapFrom Hca_gapTo Hca_gapLeast Hca_askedPlaces Hca_askedAmounts (by omega) (by omega) (by omega) (by omega) (by omega) (by omega) Hma_machine Hma_from Hma_to Hma_channel Hma_resets Hma_guards Hma_guardOf Hma_limits Hma_limitOf Hma_places Hma_zones Hma_parent Hma_moveE Hma_moveF Hma_moves Hma_z Hma_ahead Hma_at Hma_amounts Hma_way Hma_moments Hma_runAt Hma_runClock HCC HCH HE HM HL (by omega) (by omega) (by omega)
      · refine z_tabIn (o := 673) (t := 706) C b3 dL_law_33 (by omega) (by omega) (by omega) (by rw [w4]; rfl) (by decide) ?_
        refine z_aloadn C 1 dL_law_706 rfl rfl ?_
        refine z_callC C (cm_X10_here l (by omega) (by omega) (by omega) Hca_sfacts Hca_places Hca_sbounds Hca_amounts) mv_L_83 rfl rfl pd_X10_here ⟨by omega, by omega⟩ ⟨by omega, by omega⟩ rfl (Nat.le_of_ble_eq_true rfl) dL_law_707 ?_
        rintro _ _ _ ⟨rfl, rfl, z374, rfl, hz374⟩
        refine z_pop C dL_law_710 rfl ?_
        refine z_aloadn C 2 dL_law_711 rfl rfl ?_
        refine z_callM C (fun _ => (cm_X11_here l Hma_at Hma_amounts Hma_runAt Hma_runClock (by omega) (by omega) (by omega) Hma_places Hma_zones)) mv_L_86 rfl rfl pd_X11_here ⟨by omega, by omega⟩ ⟨by omega, by omega⟩ rfl (Nat.le_of_ble_eq_true rfl) dL_law_712 ?_
        rintro _ _ _ ⟨n375, n376, rfl, rfl, h379, h380, z381, rfl, hz381⟩
        refine z_pop C dL_law_715 rfl ?_
        refine z_goto (t := 788) C dL_law_716 (by decide) ?_
        refine z_iinc (L' := [(3, z_v (i3 + 6)), (0, .ref b), (1, .ref (aC 0)), (2, .ref (aM 0))]) C 3 dL_law_788 rfl (by decide) rfl ?_
        refine z_goto (t := 18) C dL_law_791 (by decide) ?_
        refine z_wide (k := (100 + 4 * ((i3 + 6) : Int).toNat)) (n := (20000 + 20 * ((i3 + 6) : Int).toNat)) (by omega) (by omega) ?_
        refine z_loc (L' := [(0, .ref b), (1, .ref (aC 0)), (2, .ref (aM 0)), (3, z_v (i3 + 6))]) [1, 2, 3, 0] rfl ?_
        exact ih (i3 + 6) Y cs_edgeCount cs_moveCount cs_isNeeded cs_timesDone cs_size cs_isGoing cs_allTime cs_stepCount cs_gapCount cg_edges cg_moves cg_limits ca_sfacts ca_sbounds ca_facts ca_zone ca_most ca_places ca_amounts ca_nextPlaces ca_nextAmounts ca_earliest ca_visited ca_lastSet ca_gapFrom ca_gapTo ca_gapLeast ca_askedPlaces ca_askedAmounts ms_edges ms_isNeeded ms_explored ms_states ms_isMoved ms_runs ms_runTime ms_runMoves mw_h ma_machine ma_from ma_to ma_channel ma_resets ma_guards ma_guardOf ma_limits ma_limitOf ma_places ma_zones ma_parent ma_moveE ma_moveF ma_moves ma_z ma_ahead n375 n376 ma_way ma_moments ma_runAt ma_runClock (by omega) (by omega) (by omega) (by omega) (by omega) (by omega) (by omega) Hca_sfacts Hca_sbounds Hca_facts Hca_zone Hca_most Hca_places Hca_amounts Hca_nextPlaces Hca_nextAmounts Hca_earliest Hca_visited Hca_lastSet Hca_gapFrom Hca_gapTo Hca_gapLeast Hca_askedPlaces Hca_askedAmounts (by omega) (by omega) (by omega) (by omega) (by omega) (by omega) Hma_machine Hma_from Hma_to Hma_channel Hma_resets Hma_guards Hma_guardOf Hma_limits Hma_limitOf Hma_places Hma_zones Hma_parent Hma_moveE Hma_moveF Hma_moves Hma_z Hma_ahead h379 h380 Hma_way Hma_moments Hma_runAt Hma_runClock HCC HCH HE HM HL (by omega) (by omega) (by omega)
      · refine z_tabIn (o := 686) (t := 719) C b3 dL_law_33 (by omega) (by omega) (by omega) (by rw [w4]; rfl) (by decide) ?_
        refine z_aloadn C 1 dL_law_719 rfl rfl ?_
        refine z_aloadn C 0 dL_law_720 rfl rfl ?_
        refine z_iloadn C 3 dL_law_721 rfl rfl ?_
        refine z_iconst C dL_law_722 ?_
        refine z_iadd C dL_law_723 ?_
        refine z_scr C hX hbl (by omega) (by omega) (by omega) dL_law_724 (fun z382 rz382 ez382 => ?_)
        refine z_aloadn C 0 dL_law_725 rfl rfl ?_
        refine z_iloadn C 3 dL_law_726 rfl rfl ?_
        refine z_iconst C dL_law_727 ?_
        refine z_iadd C dL_law_728 ?_
        refine z_scr C hX hbl (by omega) (by omega) (by omega) dL_law_729 (fun z383 rz383 ez383 => ?_)
        refine z_callC C (cm_X10_about l z382 z383 (by omega) (by omega) (by omega) HE) mv_L_87 rfl rfl pd_X10_about ⟨by omega, by omega⟩ ⟨by omega, by omega⟩ rfl (Nat.le_of_ble_eq_true rfl) dL_law_730 ?_
        rintro _ _ _ ⟨rfl, rfl, z386, rfl, hz386⟩
        refine z_pop C dL_law_733 rfl ?_
        refine z_aloadn C 2 dL_law_734 rfl rfl ?_
        refine z_aloadn C 0 dL_law_735 rfl rfl ?_
        refine z_iloadn C 3 dL_law_736 rfl rfl ?_
        refine z_iconst C dL_law_737 ?_
        refine z_iadd C dL_law_738 ?_
        refine z_scr C hX hbl (by omega) (by omega) (by omega) dL_law_739 (fun z387 rz387 ez387 => ?_)
        obtain rfl : z382 = z387 := ez382.trans ez387.symm
        refine z_aloadn C 0 dL_law_740 rfl rfl ?_
        refine z_iloadn C 3 dL_law_741 rfl rfl ?_
        refine z_iconst C dL_law_742 ?_
        refine z_iadd C dL_law_743 ?_
        refine z_scr C hX hbl (by omega) (by omega) (by omega) dL_law_744 (fun z388 rz388 ez388 => ?_)
        obtain rfl : z383 = z388 := ez383.trans ez388.symm
        refine z_callM C (fun _ => (cm_X11_about l z382 z383 (by omega) (by omega) (by omega))) mv_L_90 rfl rfl pd_X11_about ⟨by omega, by omega⟩ ⟨by omega, by omega⟩ rfl (Nat.le_of_ble_eq_true rfl) dL_law_745 ?_
        rintro _ _ _ ⟨rfl, rfl, z391, rfl, hz391⟩
        refine z_pop C dL_law_748 rfl ?_
        refine z_goto (t := 788) C dL_law_749 (by decide) ?_
        refine z_iinc (L' := [(3, z_v (i3 + 6)), (0, .ref b), (1, .ref (aC 0)), (2, .ref (aM 0))]) C 3 dL_law_788 rfl (by decide) rfl ?_
        refine z_goto (t := 18) C dL_law_791 (by decide) ?_
        refine z_wide (k := (100 + 4 * ((i3 + 6) : Int).toNat)) (n := (20000 + 20 * ((i3 + 6) : Int).toNat)) (by omega) (by omega) ?_
        refine z_loc (L' := [(0, .ref b), (1, .ref (aC 0)), (2, .ref (aM 0)), (3, z_v (i3 + 6))]) [1, 2, 3, 0] rfl ?_
        exact ih (i3 + 6) Y cs_edgeCount cs_moveCount cs_isNeeded cs_timesDone cs_size cs_isGoing cs_allTime cs_stepCount cs_gapCount cg_edges cg_moves cg_limits ca_sfacts ca_sbounds ca_facts ca_zone ca_most ca_places ca_amounts ca_nextPlaces ca_nextAmounts ca_earliest ca_visited ca_lastSet ca_gapFrom ca_gapTo ca_gapLeast ca_askedPlaces ca_askedAmounts ms_edges ms_isNeeded ms_explored ms_states ms_isMoved ms_runs ms_runTime ms_runMoves mw_h ma_machine ma_from ma_to ma_channel ma_resets ma_guards ma_guardOf ma_limits ma_limitOf ma_places ma_zones ma_parent ma_moveE ma_moveF ma_moves ma_z ma_ahead ma_at ma_amounts ma_way ma_moments ma_runAt ma_runClock (by omega) (by omega) (by omega) (by omega) (by omega) (by omega) (by omega) Hca_sfacts Hca_sbounds Hca_facts Hca_zone Hca_most Hca_places Hca_amounts Hca_nextPlaces Hca_nextAmounts Hca_earliest Hca_visited Hca_lastSet Hca_gapFrom Hca_gapTo Hca_gapLeast Hca_askedPlaces Hca_askedAmounts (by omega) (by omega) (by omega) (by omega) (by omega) (by omega) Hma_machine Hma_from Hma_to Hma_channel Hma_resets Hma_guards Hma_guardOf Hma_limits Hma_limitOf Hma_places Hma_zones Hma_parent Hma_moveE Hma_moveF Hma_moves Hma_z Hma_ahead Hma_at Hma_amounts Hma_way Hma_moments Hma_runAt Hma_runClock HCC HCH HE HM HL (by omega) (by omega) (by omega)
      · refine z_tabIn (o := 719) (t := 752) C b3 dL_law_33 (by omega) (by omega) (by omega) (by rw [w4]; rfl) (by decide) ?_
        refine z_aloadn C 1 dL_law_752 rfl rfl ?_
        refine z_aloadn C 0 dL_law_753 rfl rfl ?_
        refine z_iloadn C 3 dL_law_754 rfl rfl ?_
        refine z_iconst C dL_law_755 ?_
        refine z_iadd C dL_law_756 ?_
        refine z_scr C hX hbl (by omega) (by omega) (by omega) dL_law_757 (fun z392 rz392 ez392 => ?_)
        refine z_callC C (cm_X10_count l z392 (by omega) (by omega) (by omega) HE HL) mv_L_91 rfl rfl pd_X10_count ⟨by omega, by omega⟩ ⟨by omega, by omega⟩ rfl (Nat.le_of_ble_eq_true rfl) dL_law_758 ?_
        rintro _ _ _ ⟨rfl, rfl, z395, rfl, hz395⟩
        refine z_pop C dL_law_761 rfl ?_
        refine z_aloadn C 2 dL_law_762 rfl rfl ?_
        refine z_aloadn C 0 dL_law_763 rfl rfl ?_
        refine z_iloadn C 3 dL_law_764 rfl rfl ?_
        refine z_iconst C dL_law_765 ?_
        refine z_iadd C dL_law_766 ?_
        refine z_scr C hX hbl (by omega) (by omega) (by omega) dL_law_767 (fun z396 rz396 ez396 => ?_)
        obtain rfl : z392 = z396 := ez392.trans ez396.symm
        refine z_callM C (fun _ => (cm_X11_count l z392 (by omega) (by omega) Hma_channel Hma_machine Hma_limits Hma_guards (by omega))) mv_L_94 rfl rfl pd_X11_count ⟨by omega, by omega⟩ ⟨by omega, by omega⟩ rfl (Nat.le_of_ble_eq_true rfl) dL_law_768 ?_
        rintro _ _ _ ⟨rfl, rfl, z399, rfl, hz399⟩
        refine z_pop C dL_law_771 rfl ?_
        refine z_goto (t := 788) C dL_law_772 (by decide) ?_
        refine z_iinc (L' := [(3, z_v (i3 + 6)), (0, .ref b), (1, .ref (aC 0)), (2, .ref (aM 0))]) C 3 dL_law_788 rfl (by decide) rfl ?_
        refine z_goto (t := 18) C dL_law_791 (by decide) ?_
        refine z_wide (k := (100 + 4 * ((i3 + 6) : Int).toNat)) (n := (20000 + 20 * ((i3 + 6) : Int).toNat)) (by omega) (by omega) ?_
        refine z_loc (L' := [(0, .ref b), (1, .ref (aC 0)), (2, .ref (aM 0)), (3, z_v (i3 + 6))]) [1, 2, 3, 0] rfl ?_
        exact ih (i3 + 6) Y cs_edgeCount cs_moveCount cs_isNeeded cs_timesDone cs_size cs_isGoing cs_allTime cs_stepCount cs_gapCount cg_edges cg_moves cg_limits ca_sfacts ca_sbounds ca_facts ca_zone ca_most ca_places ca_amounts ca_nextPlaces ca_nextAmounts ca_earliest ca_visited ca_lastSet ca_gapFrom ca_gapTo ca_gapLeast ca_askedPlaces ca_askedAmounts ms_edges ms_isNeeded ms_explored ms_states ms_isMoved ms_runs ms_runTime ms_runMoves mw_h ma_machine ma_from ma_to ma_channel ma_resets ma_guards ma_guardOf ma_limits ma_limitOf ma_places ma_zones ma_parent ma_moveE ma_moveF ma_moves ma_z ma_ahead ma_at ma_amounts ma_way ma_moments ma_runAt ma_runClock (by omega) (by omega) (by omega) (by omega) (by omega) (by omega) (by omega) Hca_sfacts Hca_sbounds Hca_facts Hca_zone Hca_most Hca_places Hca_amounts Hca_nextPlaces Hca_nextAmounts Hca_earliest Hca_visited Hca_lastSet Hca_gapFrom Hca_gapTo Hca_gapLeast Hca_askedPlaces Hca_askedAmounts (by omega) (by omega) (by omega) (by omega) (by omega) (by omega) Hma_machine Hma_from Hma_to Hma_channel Hma_resets Hma_guards Hma_guardOf Hma_limits Hma_limitOf Hma_places Hma_zones Hma_parent Hma_moveE Hma_moveF Hma_moves Hma_z Hma_ahead Hma_at Hma_amounts Hma_way Hma_moments Hma_runAt Hma_runClock HCC HCH HE HM HL (by omega) (by omega) (by omega)
      · refine z_tabIn (o := 742) (t := 775) C b3 dL_law_33 (by omega) (by omega) (by omega) (by rw [w4]; rfl) (by decide) ?_
        refine z_aloadn C 1 dL_law_775 rfl rfl ?_
        refine z_callC C (cm_X10_digest l (by omega) (by omega) (by omega) (by omega) Hca_sfacts Hca_sbounds HE HL) mv_L_95 rfl rfl pd_X10_digest ⟨by omega, by omega⟩ ⟨by omega, by omega⟩ rfl (Nat.le_of_ble_eq_true rfl) dL_law_776 ?_
        rintro _ _ _ ⟨rfl, rfl, z402, rfl⟩
        refine z_pop2 C dL_law_779 rfl ?_
        refine z_aloadn C 2 dL_law_780 rfl rfl ?_
        refine z_callM C (fun _ => (cm_X11_digest l (by omega) (by omega) (by omega) (by omega) Hma_guards Hma_guardOf Hma_limits Hma_limitOf)) mv_L_99 rfl rfl pd_X11_digest ⟨by omega, by omega⟩ ⟨by omega, by omega⟩ rfl (Nat.le_of_ble_eq_true rfl) dL_law_781 ?_
        rintro _ _ _ ⟨n403, rfl, rfl, z406, rfl⟩
        refine z_pop2 C dL_law_784 rfl ?_
        refine z_goto (t := 788) C dL_law_785 (by decide) ?_
        refine z_iinc (L' := [(3, z_v (i3 + 6)), (0, .ref b), (1, .ref (aC 0)), (2, .ref (aM 0))]) C 3 dL_law_788 rfl (by decide) rfl ?_
        refine z_goto (t := 18) C dL_law_791 (by decide) ?_
        refine z_wide (k := (100 + 4 * ((i3 + 6) : Int).toNat)) (n := (20000 + 20 * ((i3 + 6) : Int).toNat)) (by omega) (by omega) ?_
        refine z_loc (L' := [(0, .ref b), (1, .ref (aC 0)), (2, .ref (aM 0)), (3, z_v (i3 + 6))]) [1, 2, 3, 0] rfl ?_
        exact ih (i3 + 6) Y cs_edgeCount cs_moveCount cs_isNeeded cs_timesDone cs_size cs_isGoing cs_allTime cs_stepCount cs_gapCount cg_edges cg_moves cg_limits ca_sfacts ca_sbounds ca_facts ca_zone ca_most ca_places ca_amounts ca_nextPlaces ca_nextAmounts ca_earliest ca_visited ca_lastSet ca_gapFrom ca_gapTo ca_gapLeast ca_askedPlaces ca_askedAmounts ms_edges ms_isNeeded ms_explored ms_states ms_isMoved ms_runs ms_runTime ms_runMoves n403 ma_machine ma_from ma_to ma_channel ma_resets ma_guards ma_guardOf ma_limits ma_limitOf ma_places ma_zones ma_parent ma_moveE ma_moveF ma_moves ma_z ma_ahead ma_at ma_amounts ma_way ma_moments ma_runAt ma_runClock (by omega) (by omega) (by omega) (by omega) (by omega) (by omega) (by omega) Hca_sfacts Hca_sbounds Hca_facts Hca_zone Hca_most Hca_places Hca_amounts Hca_nextPlaces Hca_nextAmounts Hca_earliest Hca_visited Hca_lastSet Hca_gapFrom Hca_gapTo Hca_gapLeast Hca_askedPlaces Hca_askedAmounts (by omega) (by omega) (by omega) (by omega) (by omega) (by omega) Hma_machine Hma_from Hma_to Hma_channel Hma_resets Hma_guards Hma_guardOf Hma_limits Hma_limitOf Hma_places Hma_zones Hma_parent Hma_moveE Hma_moveF Hma_moves Hma_z Hma_ahead Hma_at Hma_amounts Hma_way Hma_moments Hma_runAt Hma_runClock HCC HCH HE HM HL (by omega) (by omega) (by omega)
