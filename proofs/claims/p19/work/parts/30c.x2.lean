set_option maxRecDepth 20000 in
theorem cx_X6_add (l : Launch) {D : va_G} {A : Nat → Prop} {ad : Nat → Nat} {ks : z_Ks} {N : Nat} {S : Nat → va_E} {Y : Nat → Option va_E} {t : Nat} {n0 : Int} {g : Nat → Option Nat} {c0 s0 v0 : Int} (q b : Nat) (hq : Y q = some (z_ob 6 [.ref t, z_v n0])) (ht : Y t = some (z_rr ks.2.2.2.2 2 g)) (hb : Y b = some (z_ob 5 [z_v c0, z_v s0, z_v v0])) (hn : 0 ≤ n0 ∧ n0 ≤ 1) : z_Met l yX6_add cX6_add 2 none 0 0 0 0 D A N ad ks [.ref q, .ref b] S Y (fun r S' Y' => S = S' ∧ (∀ x y, Y x = some y → x ≠ q → x ≠ t → Y' x = some y) ∧ Y' q = some (z_ob 6 [.ref t, z_v (n0 + 1)]) ∧ Y' t = some (z_rr ks.2.2.2.2 2 (va_up g (n0 : Int).toNat (some b))) ∧ r = none) := by
  refine z_start2 (by decide) (Nat.le_of_ble_eq_true rfl) ?_
  intro p e R s m args below meth c Q C hRf hRc hRs hRl hQ hrt hnm
  refine z_loc (L' := [(0, .ref q), (1, .ref b)]) [0, 1] rfl ?_
  refine z_aloadn C 0 dX6_add_0 rfl rfl ?_
  refine z_getY C hq rfl z_it6 1 (by decide) rfl fl_6_17 rfl dX6_add_1 ?_
  refine z_iconst C dX6_add_4 ?_
  refine z_icmp_ge (t := 28) C dX6_add_5 (by decide) (by omega) (by omega) (fun c1 => ?_) (fun c1 => ?_)
  · skip
    omega
  · skip
    refine z_aloadn C 0 dX6_add_8 rfl rfl ?_
    refine z_getY C hq rfl z_it6 0 (by decide) rfl fl_6_11 rfl dX6_add_9 ?_
    refine z_aloadn C 0 dX6_add_12 rfl rfl ?_
    refine z_getY C hq rfl z_it6 1 (by decide) rfl fl_6_17 rfl dX6_add_13 ?_
    refine z_aloadn C 1 dX6_add_16 rfl rfl ?_
    refine z_aast3 C 4 ht rfl hb rfl (by decide) (by omega) (by omega) dX6_add_17 (fun Y2 w3 hk4 => ?_)
    have y5 := hk4 _ _ hq (z_ne hq ht (fun z => by first | cases z | simp at z))
    have y6 := hk4 _ _ hb (z_ne hb ht (fun z => by first | cases z | simp at z))
    have kp7 : ∀ x y, Y x = some y → x ≠ q → x ≠ t → Y2 x = some y := fun x y h n0 n1 => hk4 x y ((fun x y h _ _ => h) x y h n0 n1) n1
    refine z_aloadn C 0 dX6_add_18 rfl rfl ?_
    refine z_dup C dX6_add_19 rfl ?_
    refine z_getY C y5 rfl z_it6 1 (by decide) rfl fl_6_17 rfl dX6_add_20 ?_
    refine z_iconst C dX6_add_23 ?_
    refine z_iadd C dX6_add_24 ?_
    refine z_put3 (fs' := [.ref t, z_v (n0 + 1)]) C y5 rfl z_it6 tyX6 tyX6_ok nmX6 1 (by decide) rfl (Or.inl rfl) fl_6_17 z_pfI rfl rfl (Nat.le_of_ble_eq_true rfl) dX6_add_25 rfl (fun Y8 y9 hk10 => ?_)
    have y11 := hk10 _ _ y6 (z_ne y6 y5 (fun z => by first | cases z | simp at z))
    have w12 := hk10 _ _ w3 (z_ne w3 y5 (fun z => by first | cases z | simp at z))
    have kp13 : ∀ x y, Y x = some y → x ≠ q → x ≠ t → Y8 x = some y := fun x y h n0 n1 => hk10 x y (kp7 x y h n0 n1) n0
    rw [hQ]
    exact z_vret C hrt dX6_add_28 (⟨rfl, kp13, y9, w12, rfl⟩) (by omega) (by omega)
set_option maxRecDepth 20000 in
theorem cx_X10_addTest (l : Launch) {D : va_G} {A : Nat → Prop} {ad : Nat → Nat} {ks : z_Ks} {s_edgeCount s_moveCount s_isNeeded s_timesDone s_size s_isGoing s_allTime s_stepCount s_gapCount : Int} {g_edges g_moves g_limits : Nat → Option Nat} {a_sfacts a_sbounds a_facts a_zone a_most a_places a_amounts a_nextPlaces a_nextAmounts a_earliest a_visited a_lastSet a_gapFrom a_gapTo a_gapLeast a_askedPlaces a_askedAmounts : Nat → Int} {Y : Nat → Option va_E} {t : Nat} {n0 : Int} {g : Nat → Option Nat} (x0 s0 c0 : Int) (q : Nat) (hq : Y q = some (z_ob 6 [.ref t, z_v n0])) (ht : Y t = some (z_rr ks.2.2.2.2 2 g)) (hn : 0 ≤ n0 ∧ n0 ≤ 2) : z_Met l yX10_addTest cX10_addTest 5 (some .int) 2 43 1 3 D A 27 ad ks [.ref (ad 0), .ref q, z_v x0, z_v s0, z_v c0] (z_zc ad ks s_edgeCount s_moveCount s_isNeeded s_timesDone s_size s_isGoing s_allTime s_stepCount s_gapCount g_edges g_moves g_limits a_sfacts a_sbounds a_facts a_zone a_most a_places a_amounts a_nextPlaces a_nextAmounts a_earliest a_visited a_lastSet a_gapFrom a_gapTo a_gapLeast a_askedPlaces a_askedAmounts) Y (fun r S' Y' => (n0 = 2 ∧ S' = (z_zc ad ks s_edgeCount s_moveCount s_isNeeded s_timesDone s_size s_isGoing s_allTime s_stepCount s_gapCount g_edges g_moves g_limits a_sfacts a_sbounds a_facts a_zone a_most a_places a_amounts a_nextPlaces a_nextAmounts a_earliest a_visited a_lastSet a_gapFrom a_gapTo a_gapLeast a_askedPlaces a_askedAmounts) ∧ Y = Y' ∧ r = some (z_v (-104))) ∨ (n0 ≤ 1 ∧ ∃ b : Nat, S' = (z_zc ad ks s_edgeCount s_moveCount 1 s_timesDone s_size 0 s_allTime s_stepCount s_gapCount g_edges g_moves g_limits a_sfacts a_sbounds a_facts a_zone a_most a_places a_amounts a_nextPlaces a_nextAmounts a_earliest a_visited a_lastSet a_gapFrom a_gapTo a_gapLeast a_askedPlaces a_askedAmounts) ∧ (∀ x y, Y x = some y → x ≠ q → x ≠ t → Y' x = some y) ∧ Y' q = some (z_ob 6 [.ref t, z_v (n0 + 1)]) ∧ Y' t = some (z_rr ks.2.2.2.2 2 (va_up g (n0 : Int).toNat (some b))) ∧ Y' b = some (z_ob 5 [z_v x0, z_v s0, z_v c0]) ∧ r = some (z_v (n0 + 1)))) := by
  refine z_start2 (by decide) (Nat.le_of_ble_eq_true rfl) ?_
  intro p e R s m args below meth c Q C hRf hRc hRs hRl hQ hrt hnm
  refine z_loc (L' := [(0, .ref (ad 0)), (1, .ref q), (2, z_v x0), (3, z_v s0), (4, z_v c0)]) [0, 1, 2, 3, 4] rfl ?_
  refine z_aloadn C 1 dX10_addTest_0 rfl rfl ?_
  refine z_getY C hq rfl z_it6 1 (by decide) rfl fl_10_216 rfl dX10_addTest_1 ?_
  refine z_iconst C dX10_addTest_4 ?_
  refine z_icmp_lt (t := 11) C dX10_addTest_5 (by decide) (by omega) (by omega) (fun c1 => ?_) (fun c1 => ?_)
  · skip
    refine z_aloadn C 0 dX10_addTest_11 rfl rfl ?_
    refine z_callV C (cm_X10_forgetFindings l ) mv_10_55 (z_atS 0 10 (by decide) rfl rfl rfl) pd_X10_forgetFindings ⟨by omega, by omega⟩ ⟨by omega, by omega⟩ rfl (Nat.le_of_ble_eq_true rfl) dX10_addTest_12 ?_
    rintro _ _ _ ⟨rfl, rfl, rfl⟩
    refine z_aloadn C 1 dX10_addTest_15 rfl rfl ?_
    refine z_new3 (r := (RX5, TX5, 3)) (ci := 5) (fs := [z_v 0, z_v 0, z_v 0]) C rfl z_it5 tyX5 tyX5_ok nw_10_246 (fun j hj => match j, hj with | 0, _ => rfl | 1, _ => rfl | 2, _ => rfl | n + 3, h => absurd h (by show ¬ (n + 3 < 3); omega)) (by omega) (by show _ + 3 ≤ _; omega) dX10_addTest_16 (fun q4 Y5 y6 hs7 hf8 => ?_)
    have y9 := hs7 _ _ hq
    have w10 := hs7 _ _ ht
    have kp11 : ∀ x y, Y x = some y → x ≠ q → x ≠ t → Y5 x = some y := fun x y h n0 n1 => hs7 x y ((fun x y h _ _ => h) x y h n0 n1)
    refine z_wide (k := 1) (n := 3) (Nat.le_refl _) (Nat.le_refl _) ?_
    refine z_dup C dX10_addTest_19 rfl ?_
    refine z_iloadn C 2 dX10_addTest_20 rfl rfl ?_
    refine z_iloadn C 3 dX10_addTest_21 rfl rfl ?_
    refine z_iload C 4 dX10_addTest_22 rfl ?_
    refine z_callI C (cm_X5_init l x0 s0 c0 q4 y6) mv_10_248 rfl pd_X5_init ⟨by omega, by omega⟩ ⟨by omega, by omega⟩ rfl (Nat.le_of_ble_eq_true rfl) dX10_addTest_24 ?_
    rintro _ _ Y12 ⟨rfl, hk13, y14, rfl⟩
    have y15 := hk13 _ _ y9 (z_ne y9 y6 (fun z => by first | cases z | simp at z))
    have w16 := hk13 _ _ w10 (z_ne w10 y6 (fun z => by first | cases z | simp at z))
    have kp17 : ∀ x y, Y x = some y → x ≠ q → x ≠ t → Y12 x = some y := fun x y h n0 n1 => hk13 x y (kp11 x y h n0 n1) (Nat.ne_of_lt (hf8 x y ((fun x y h _ _ => h) x y h n0 n1)))
    refine z_callV C (cx_X6_add l q q4 y15 w16 y14 (by omega)) mv_10_251 (z_atY 6 y15 rfl rfl) pd_X6_add ⟨by omega, by omega⟩ ⟨by omega, by omega⟩ rfl (Nat.le_of_ble_eq_true rfl) dX10_addTest_27 ?_
    rintro _ _ Y18 ⟨rfl, hk19, y20, w21, rfl⟩
    have kp22 : ∀ x y, Y x = some y → x ≠ q → x ≠ t → Y18 x = some y := fun x y h n0 n1 => hk19 x y (kp17 x y h n0 n1) n0 n1
    have y23 := hk19 _ _ y14 (z_ne y14 y15 (fun z => by first | cases z | simp at z)) (z_ne y14 w16 (fun z => by first | cases z | simp at z))
    refine z_aloadn C 1 dX10_addTest_30 rfl rfl ?_
    refine z_getY C y20 rfl z_it6 1 (by decide) rfl fl_10_216 rfl dX10_addTest_31 ?_
    rw [hQ]
    exact z_iret C hrt dX10_addTest_34 (Or.inr ⟨by omega, q4, rfl, kp22, y20, w21, y23, rfl⟩) (by omega) (by omega)
  · skip
    refine z_bipush C dX10_addTest_8 (by decide) ?_
    rw [hQ]
    exact z_iret C hrt dX10_addTest_10 (Or.inl ⟨by omega, rfl, rfl, rfl⟩) (by omega) (by omega)
set_option maxRecDepth 20000 in
theorem cx_X10_guard (l : Launch) {D : va_G} {A : Nat → Prop} {ad : Nat → Nat} {ks : z_Ks} {s_edgeCount s_moveCount s_isNeeded s_timesDone s_size s_isGoing s_allTime s_stepCount s_gapCount : Int} {g_edges g_moves g_limits : Nat → Option Nat} {a_sfacts a_sbounds a_facts a_zone a_most a_places a_amounts a_nextPlaces a_nextAmounts a_earliest a_visited a_lastSet a_gapFrom a_gapTo a_gapLeast a_askedPlaces a_askedAmounts : Nat → Int} {Y : Nat → Option va_E} {em ef et ec er gn gt ln lt mf ms : Nat → Int} {qe ql qt : Nat → Nat} (e0 x0 s0 c0 : Int) (he0 : z_rg e0) (hx0 : z_rg x0) (hs0 : z_rg s0) (hc0 : z_rg c0) (Hs_edgeCount : 0 ≤ s_edgeCount ∧ s_edgeCount ≤ 20) (HN : z_N ks Y g_edges g_limits s_edgeCount em ef et ec er gn gt ln lt qe ql qt) (HMo : z_Mo Y g_moves s_moveCount mf ms s_edgeCount qe er) : z_Met l yX10_guard cX10_guard 5 (some .int) 3 67 1 3 D A 27 ad ks [.ref (ad 0), z_v e0, z_v x0, z_v s0, z_v c0] (z_zc ad ks s_edgeCount s_moveCount s_isNeeded s_timesDone s_size s_isGoing s_allTime s_stepCount s_gapCount g_edges g_moves g_limits a_sfacts a_sbounds a_facts a_zone a_most a_places a_amounts a_nextPlaces a_nextAmounts a_earliest a_visited a_lastSet a_gapFrom a_gapTo a_gapLeast a_askedPlaces a_askedAmounts) Y (fun r S' Y' => ∃ ns_isNeeded ns_isGoing : Int, S' = (z_zc ad ks s_edgeCount s_moveCount ns_isNeeded s_timesDone s_size ns_isGoing s_allTime s_stepCount s_gapCount g_edges g_moves g_limits a_sfacts a_sbounds a_facts a_zone a_most a_places a_amounts a_nextPlaces a_nextAmounts a_earliest a_visited a_lastSet a_gapFrom a_gapTo a_gapLeast a_askedPlaces a_askedAmounts) ∧ z_N ks Y' g_edges g_limits s_edgeCount em ef et ec er (if z_gOK e0 x0 s0 c0 s_edgeCount (gn e0.toNat) then va_up gn e0.toNat (gn e0.toNat + 1) else gn) (if z_gOK e0 x0 s0 c0 s_edgeCount (gn e0.toNat) then z_t3 gt (6 * e0 + 3 * gn e0.toNat) x0 s0 c0 else gt) ln lt qe ql qt ∧ z_Mo Y' g_moves s_moveCount mf ms s_edgeCount qe er ∧ ns_isNeeded = z_sel (z_gOK e0 x0 s0 c0 s_edgeCount (gn e0.toNat)) 1 s_isNeeded ∧ ns_isGoing = z_sel (z_gOK e0 x0 s0 c0 s_edgeCount (gn e0.toNat)) 0 s_isGoing ∧ ∃ z : Int, r = some (z_v z) ∧ z = z_gR e0 x0 s0 c0 s_edgeCount (gn e0.toNat)) := by
  refine z_start2 (by decide) (Nat.le_of_ble_eq_true rfl) ?_
  intro p e R s m args below meth c Q C hRf hRc hRs hRl hQ hrt hnm
  refine z_loc (L' := [(0, .ref (ad 0)), (1, z_v e0), (2, z_v x0), (3, z_v s0), (4, z_v c0)]) [0, 1, 2, 3, 4] rfl ?_
  refine z_aloadn C 0 dX10_guard_0 rfl rfl ?_
  refine z_get C 0 (by decide) rfl rfl z_it10 0 (by decide) rfl fl_10_12 rfl dX10_guard_1 ?_
  refine z_iloadn C 1 dX10_guard_4 rfl rfl ?_
  refine z_callV C (cm_X2_isEdge l e0 (by omega) (by omega)) mv_10_67 (z_atS 1 2 (by decide) rfl rfl rfl) pd_X2_isEdge ⟨by omega, by omega⟩ ⟨by omega, by omega⟩ rfl (Nat.le_of_ble_eq_true rfl) dX10_guard_5 ?_
  rintro _ _ _ ⟨rfl, rfl, z3, rfl, hz3⟩
  refine z_if_eq (t := 18) C dX10_guard_8 (by decide) (by omega) (fun c4 => ?_) (fun c4 => ?_)
  · skip
    refine z_bipush C dX10_guard_18 (by decide) ?_
    rw [hQ]
    exact z_iret C hrt dX10_guard_20 (⟨s_isNeeded, s_isGoing, rfl, by rw [if_neg (by omega), if_neg (by omega)]; exact HN, HMo, (z_sel_neg (by omega)).symm, (z_sel_neg (by omega)).symm, _, rfl, by unfold z_gR; split <;> (try split) <;> (try split) <;> omega⟩) (by omega) (by omega)
  · skip
    refine z_iloadn C 2 dX10_guard_11 rfl rfl ?_
    refine z_callS C (cm_X10_isClock l x0 (by omega)) mv_10_70 pd_X10_isClock ⟨by omega, by omega⟩ ⟨by omega, by omega⟩ rfl (Nat.le_of_ble_eq_true rfl) dX10_guard_12 ?_
    rintro _ _ _ ⟨rfl, rfl, z7, rfl, hz7⟩
    refine z_if_ne (t := 21) C dX10_guard_15 (by decide) (by omega) (fun c8 => ?_) (fun c8 => ?_)
    · skip
      refine z_iloadn C 3 dX10_guard_21 rfl rfl ?_
      refine z_if_lt (t := 38) C dX10_guard_22 (by decide) (by omega) (fun c9 => ?_) (fun c9 => ?_)
      · skip
        refine z_bipush C dX10_guard_38 (by decide) ?_
        rw [hQ]
        exact z_iret C hrt dX10_guard_40 (⟨s_isNeeded, s_isGoing, rfl, by rw [if_neg (by omega), if_neg (by omega)]; exact HN, HMo, (z_sel_neg (by omega)).symm, (z_sel_neg (by omega)).symm, _, rfl, by unfold z_gR; split <;> (try split) <;> (try split) <;> omega⟩) (by omega) (by omega)
      · skip
        refine z_iloadn C 3 dX10_guard_25 rfl rfl ?_
        refine z_iconst C dX10_guard_26 ?_
        refine z_icmp_gt (t := 38) C dX10_guard_27 (by decide) (by omega) (by omega) (fun c10 => ?_) (fun c10 => ?_)
        · skip
          refine z_bipush C dX10_guard_38 (by decide) ?_
          rw [hQ]
          exact z_iret C hrt dX10_guard_40 (⟨s_isNeeded, s_isGoing, rfl, by rw [if_neg (by omega), if_neg (by omega)]; exact HN, HMo, (z_sel_neg (by omega)).symm, (z_sel_neg (by omega)).symm, _, rfl, by unfold z_gR; split <;> (try split) <;> (try split) <;> omega⟩) (by omega) (by omega)
        · skip
          refine z_iload C 4 dX10_guard_30 rfl ?_
          refine z_callS C (cm_X10_isNumber l c0 (by omega)) mv_10_73 pd_X10_isNumber ⟨by omega, by omega⟩ ⟨by omega, by omega⟩ rfl (Nat.le_of_ble_eq_true rfl) dX10_guard_32 ?_
          rintro _ _ _ ⟨rfl, rfl, z13, rfl, hz13⟩
          refine z_if_ne (t := 41) C dX10_guard_35 (by decide) (by omega) (fun c14 => ?_) (fun c14 => ?_)
          · skip
            refine z_aloadn C 0 dX10_guard_41 rfl rfl ?_
            refine z_aloadn C 0 dX10_guard_42 rfl rfl ?_
            refine z_get C 0 (by decide) rfl rfl z_it10 0 (by decide) rfl fl_10_12 rfl dX10_guard_43 ?_
            refine z_get C 1 (by decide) rfl rfl z_it2 0 (by decide) rfl fl_10_76 rfl dX10_guard_46 ?_
            refine z_iloadn C 1 dX10_guard_49 rfl rfl ?_
            obtain ⟨eq15, yq15, rq15, tq15⟩ := HN.1 e0 (by omega) (by omega)
            refine z_aaldS C 2 1 (by decide) rfl rfl (by decide) (by omega) (by omega) eq15 dX10_guard_50 ?_
            refine z_getY C yq15 rfl z_it0 5 (by decide) rfl fl_10_80 rfl dX10_guard_51 ?_
            refine z_iloadn C 2 dX10_guard_54 rfl rfl ?_
            refine z_iloadn C 3 dX10_guard_55 rfl rfl ?_
            refine z_iload C 4 dX10_guard_56 rfl ?_
            obtain ⟨yd16, ad16, gd16, wd16, bd16⟩ := id tq15
            refine z_callV C (cx_X10_addTest l x0 s0 c0 (ql (e0 : Int).toNat) yd16 wd16 (by omega)) mv_10_84 (z_atS 0 10 (by decide) rfl rfl rfl) pd_X10_addTest ⟨by omega, by omega⟩ ⟨by omega, by omega⟩ rfl (Nat.le_of_ble_eq_true rfl) dX10_guard_58 ?_
            rintro _ _ Y17 (⟨ia18, rfl, rfl, rfl⟩ | ⟨ia18, ba18, rfl, ka18, ya18, wa18, ua18, rfl⟩)
            · skip
              rw [hQ]
              exact z_iret C hrt dX10_guard_61 (⟨s_isNeeded, s_isGoing, rfl, by rw [if_neg (by omega), if_neg (by omega)]; exact HN, HMo, (z_sel_neg (by omega)).symm, (z_sel_neg (by omega)).symm, _, rfl, by unfold z_gR; split <;> (try split) <;> (try split) <;> omega⟩) (by omega) (by omega)
            · skip
              refine z_wide (k := 1) (n := 3) (Nat.le_refl _) (Nat.le_refl _) ?_
              rw [hQ]
              exact z_iret C hrt dX10_guard_61 (⟨1, 0, rfl, by rw [if_pos (by omega), if_pos (by omega)]; exact HN.guard (by omega) (by omega) ia18 wd16 ka18 ya18 wa18 ua18 (by omega), HMo.keep yd16 wd16 ka18, (z_sel_pos (by omega)).symm, (z_sel_pos (by omega)).symm, _, rfl, by unfold z_gR; split <;> (try split) <;> (try split) <;> omega⟩) (by omega) (by omega)
          · skip
            refine z_bipush C dX10_guard_38 (by decide) ?_
            rw [hQ]
            exact z_iret C hrt dX10_guard_40 (⟨s_isNeeded, s_isGoing, rfl, by rw [if_neg (by omega), if_neg (by omega)]; exact HN, HMo, (z_sel_neg (by omega)).symm, (z_sel_neg (by omega)).symm, _, rfl, by unfold z_gR; split <;> (try split) <;> (try split) <;> omega⟩) (by omega) (by omega)
    · skip
      refine z_bipush C dX10_guard_18 (by decide) ?_
      rw [hQ]
      exact z_iret C hrt dX10_guard_20 (⟨s_isNeeded, s_isGoing, rfl, by rw [if_neg (by omega), if_neg (by omega)]; exact HN, HMo, (z_sel_neg (by omega)).symm, (z_sel_neg (by omega)).symm, _, rfl, by unfold z_gR; split <;> (try split) <;> (try split) <;> omega⟩) (by omega) (by omega)
set_option maxRecDepth 20000 in
theorem cx_X2_limitsOf (l : Launch) {D : va_G} {A : Nat → Prop} {ad : Nat → Nat} {ks : z_Ks} {s_edgeCount s_moveCount s_isNeeded s_timesDone s_size s_isGoing s_allTime s_stepCount s_gapCount : Int} {g_edges g_moves g_limits : Nat → Option Nat} {a_sfacts a_sbounds a_facts a_zone a_most a_places a_amounts a_nextPlaces a_nextAmounts a_earliest a_visited a_lastSet a_gapFrom a_gapTo a_gapLeast a_askedPlaces a_askedAmounts : Nat → Int} {Y : Nat → Option va_E} {em ef et ec er gn gt ln lt : Nat → Int} {qe ql qt : Nat → Nat} (m0 p0 : Int) (hm : 0 ≤ m0 ∧ m0 ≤ 2) (hp : 0 ≤ p0 ∧ p0 ≤ 5) (HN : z_N ks Y g_edges g_limits s_edgeCount em ef et ec er gn gt ln lt qe ql qt) : z_Met l yX2_limitsOf cX2_limitsOf 3 (some (.object "ClockZones$TestList")) 0 0 0 0 D A 27 ad ks [.ref (ad 1), z_v m0, z_v p0] (z_zc ad ks s_edgeCount s_moveCount s_isNeeded s_timesDone s_size s_isGoing s_allTime s_stepCount s_gapCount g_edges g_moves g_limits a_sfacts a_sbounds a_facts a_zone a_most a_places a_amounts a_nextPlaces a_nextAmounts a_earliest a_visited a_lastSet a_gapFrom a_gapTo a_gapLeast a_askedPlaces a_askedAmounts) Y (fun r S' Y' => S' = (z_zc ad ks s_edgeCount s_moveCount s_isNeeded s_timesDone s_size s_isGoing s_allTime s_stepCount s_gapCount g_edges g_moves g_limits a_sfacts a_sbounds a_facts a_zone a_most a_places a_amounts a_nextPlaces a_nextAmounts a_earliest a_visited a_lastSet a_gapFrom a_gapTo a_gapLeast a_askedPlaces a_askedAmounts) ∧ Y = Y' ∧ r = some (.ref (ql (20 + (6 * m0 + p0 : Int).toNat)))) := by
  refine z_start2 (by decide) (Nat.le_of_ble_eq_true rfl) ?_
  intro p e R s m args below meth c Q C hRf hRc hRs hRl hQ hrt hnm
  refine z_loc (L' := [(0, .ref (ad 1)), (1, z_v m0), (2, z_v p0)]) [0, 1, 2] rfl ?_
  refine z_aloadn C 0 dX2_limitsOf_0 rfl rfl ?_
  refine z_get C 1 (by decide) rfl rfl z_it2 4 (by decide) rfl fl_2_25 rfl dX2_limitsOf_1 ?_
  refine z_iloadn C 1 dX2_limitsOf_4 rfl rfl ?_
  refine z_bipush C dX2_limitsOf_5 (by decide) ?_
  refine z_imul C dX2_limitsOf_7 ?_
  refine z_iloadn C 2 dX2_limitsOf_8 rfl rfl ?_
  refine z_iadd C dX2_limitsOf_9 ?_
  obtain ⟨eq1, tq1⟩ := HN.2.1 ((m0 * 6) + p0) (by omega) (by omega)
  refine z_aaldS C 4 3 (by decide) rfl rfl (by decide) (by omega) (by omega) eq1 dX2_limitsOf_10 ?_
  rw [hQ]
  exact z_aret C hrt (Or.inr ⟨_, rfl⟩) dX2_limitsOf_11 (⟨rfl, rfl, by rw [show (6 * m0 + p0 : Int) = m0 * 6 + p0 by omega]⟩) (by omega) (by omega)
set_option maxRecDepth 20000 in
theorem cx_X10_limit (l : Launch) {D : va_G} {A : Nat → Prop} {ad : Nat → Nat} {ks : z_Ks} {s_edgeCount s_moveCount s_isNeeded s_timesDone s_size s_isGoing s_allTime s_stepCount s_gapCount : Int} {g_edges g_moves g_limits : Nat → Option Nat} {a_sfacts a_sbounds a_facts a_zone a_most a_places a_amounts a_nextPlaces a_nextAmounts a_earliest a_visited a_lastSet a_gapFrom a_gapTo a_gapLeast a_askedPlaces a_askedAmounts : Nat → Int} {Y : Nat → Option va_E} {em ef et ec er gn gt ln lt mf ms : Nat → Int} {qe ql qt : Nat → Nat} (m0 p0 x0 s0 c0 : Int) (hm0 : z_rg m0) (hp0 : z_rg p0) (hx0 : z_rg x0) (hs0 : z_rg s0) (hc0 : z_rg c0) (Hs_edgeCount : 0 ≤ s_edgeCount ∧ s_edgeCount ≤ 20) (HN : z_N ks Y g_edges g_limits s_edgeCount em ef et ec er gn gt ln lt qe ql qt) (HMo : z_Mo Y g_moves s_moveCount mf ms s_edgeCount qe er) : z_Met l yX10_limit cX10_limit 6 (some .int) 3 67 1 3 D A 27 ad ks [.ref (ad 0), z_v m0, z_v p0, z_v x0, z_v s0, z_v c0] (z_zc ad ks s_edgeCount s_moveCount s_isNeeded s_timesDone s_size s_isGoing s_allTime s_stepCount s_gapCount g_edges g_moves g_limits a_sfacts a_sbounds a_facts a_zone a_most a_places a_amounts a_nextPlaces a_nextAmounts a_earliest a_visited a_lastSet a_gapFrom a_gapTo a_gapLeast a_askedPlaces a_askedAmounts) Y (fun r S' Y' => ∃ ns_isNeeded ns_isGoing : Int, S' = (z_zc ad ks s_edgeCount s_moveCount ns_isNeeded s_timesDone s_size ns_isGoing s_allTime s_stepCount s_gapCount g_edges g_moves g_limits a_sfacts a_sbounds a_facts a_zone a_most a_places a_amounts a_nextPlaces a_nextAmounts a_earliest a_visited a_lastSet a_gapFrom a_gapTo a_gapLeast a_askedPlaces a_askedAmounts) ∧ z_N ks Y' g_edges g_limits s_edgeCount em ef et ec er gn gt (if z_lOK m0 p0 x0 s0 c0 (ln (6 * m0 + p0).toNat) then va_up ln (6 * m0 + p0).toNat (ln (6 * m0 + p0).toNat + 1) else ln) (if z_lOK m0 p0 x0 s0 c0 (ln (6 * m0 + p0).toNat) then z_t3 lt (6 * (6 * m0 + p0) + 3 * ln (6 * m0 + p0).toNat) x0 s0 c0 else lt) qe ql qt ∧ z_Mo Y' g_moves s_moveCount mf ms s_edgeCount qe er ∧ ns_isNeeded = z_sel (z_lOK m0 p0 x0 s0 c0 (ln (6 * m0 + p0).toNat)) 1 s_isNeeded ∧ ns_isGoing = z_sel (z_lOK m0 p0 x0 s0 c0 (ln (6 * m0 + p0).toNat)) 0 s_isGoing ∧ ∃ z : Int, r = some (z_v z) ∧ z = z_lR m0 p0 x0 s0 c0 (ln (6 * m0 + p0).toNat)) := by
  refine z_start2 (by decide) (Nat.le_of_ble_eq_true rfl) ?_
  intro p e R s m args below meth c Q C hRf hRc hRs hRl hQ hrt hnm
  refine z_loc (L' := [(0, .ref (ad 0)), (1, z_v m0), (2, z_v p0), (3, z_v x0), (4, z_v s0), (5, z_v c0)]) [0, 1, 2, 3, 4, 5] rfl ?_
  refine z_iloadn C 1 dX10_limit_0 rfl rfl ?_
  refine z_callS C (cm_X10_isMachine l m0 (by omega)) mv_10_44 pd_X10_isMachine ⟨by omega, by omega⟩ ⟨by omega, by omega⟩ rfl (Nat.le_of_ble_eq_true rfl) dX10_limit_1 ?_
  rintro _ _ _ ⟨rfl, rfl, z3, rfl, hz3⟩
  refine z_if_eq (t := 21) C dX10_limit_4 (by decide) (by omega) (fun c4 => ?_) (fun c4 => ?_)
  · skip
    refine z_bipush C dX10_limit_21 (by decide) ?_
    rw [hQ]
    exact z_iret C hrt dX10_limit_23 (⟨s_isNeeded, s_isGoing, rfl, by rw [if_neg (by omega), if_neg (by omega)]; exact HN, HMo, (z_sel_neg (by omega)).symm, (z_sel_neg (by omega)).symm, _, rfl, by unfold z_lR; split <;> (try split) <;> (try split) <;> omega⟩) (by omega) (by omega)
  · skip
    refine z_iloadn C 2 dX10_limit_7 rfl rfl ?_
    refine z_callS C (cm_X10_isPlace l p0 (by omega)) mv_10_48 pd_X10_isPlace ⟨by omega, by omega⟩ ⟨by omega, by omega⟩ rfl (Nat.le_of_ble_eq_true rfl) dX10_limit_8 ?_
    rintro _ _ _ ⟨rfl, rfl, z7, rfl, hz7⟩
    refine z_if_eq (t := 21) C dX10_limit_11 (by decide) (by omega) (fun c8 => ?_) (fun c8 => ?_)
    · skip
      refine z_bipush C dX10_limit_21 (by decide) ?_
      rw [hQ]
      exact z_iret C hrt dX10_limit_23 (⟨s_isNeeded, s_isGoing, rfl, by rw [if_neg (by omega), if_neg (by omega)]; exact HN, HMo, (z_sel_neg (by omega)).symm, (z_sel_neg (by omega)).symm, _, rfl, by unfold z_lR; split <;> (try split) <;> (try split) <;> omega⟩) (by omega) (by omega)
    · skip
      refine z_iloadn C 3 dX10_limit_14 rfl rfl ?_
      refine z_callS C (cm_X10_isClock l x0 (by omega)) mv_10_70 pd_X10_isClock ⟨by omega, by omega⟩ ⟨by omega, by omega⟩ rfl (Nat.le_of_ble_eq_true rfl) dX10_limit_15 ?_
      rintro _ _ _ ⟨rfl, rfl, z11, rfl, hz11⟩
      refine z_if_ne (t := 24) C dX10_limit_18 (by decide) (by omega) (fun c12 => ?_) (fun c12 => ?_)
      · skip
        refine z_iload C 4 dX10_limit_24 rfl ?_
        refine z_if_lt (t := 43) C dX10_limit_26 (by decide) (by omega) (fun c13 => ?_) (fun c13 => ?_)
        · skip
          refine z_bipush C dX10_limit_43 (by decide) ?_
          rw [hQ]
          exact z_iret C hrt dX10_limit_45 (⟨s_isNeeded, s_isGoing, rfl, by rw [if_neg (by omega), if_neg (by omega)]; exact HN, HMo, (z_sel_neg (by omega)).symm, (z_sel_neg (by omega)).symm, _, rfl, by unfold z_lR; split <;> (try split) <;> (try split) <;> omega⟩) (by omega) (by omega)
        · skip
          refine z_iload C 4 dX10_limit_29 rfl ?_
          refine z_iconst C dX10_limit_31 ?_
          refine z_icmp_gt (t := 43) C dX10_limit_32 (by decide) (by omega) (by omega) (fun c14 => ?_) (fun c14 => ?_)
          · skip
            refine z_bipush C dX10_limit_43 (by decide) ?_
            rw [hQ]
            exact z_iret C hrt dX10_limit_45 (⟨s_isNeeded, s_isGoing, rfl, by rw [if_neg (by omega), if_neg (by omega)]; exact HN, HMo, (z_sel_neg (by omega)).symm, (z_sel_neg (by omega)).symm, _, rfl, by unfold z_lR; split <;> (try split) <;> (try split) <;> omega⟩) (by omega) (by omega)
          · skip
            refine z_iload C 5 dX10_limit_35 rfl ?_
            refine z_callS C (cm_X10_isNumber l c0 (by omega)) mv_10_73 pd_X10_isNumber ⟨by omega, by omega⟩ ⟨by omega, by omega⟩ rfl (Nat.le_of_ble_eq_true rfl) dX10_limit_37 ?_
            rintro _ _ _ ⟨rfl, rfl, z17, rfl, hz17⟩
            refine z_if_ne (t := 46) C dX10_limit_40 (by decide) (by omega) (fun c18 => ?_) (fun c18 => ?_)
            · skip
              refine z_aloadn C 0 dX10_limit_46 rfl rfl ?_
              refine z_aloadn C 0 dX10_limit_47 rfl rfl ?_
              refine z_get C 0 (by decide) rfl rfl z_it10 0 (by decide) rfl fl_10_12 rfl dX10_limit_48 ?_
              refine z_iloadn C 1 dX10_limit_51 rfl rfl ?_
              refine z_iloadn C 2 dX10_limit_52 rfl rfl ?_
              refine z_callV C (cx_X2_limitsOf l m0 p0 (by omega) (by omega) HN) mv_10_88 (z_atS 1 2 (by decide) rfl rfl rfl) pd_X2_limitsOf ⟨by omega, by omega⟩ ⟨by omega, by omega⟩ rfl (Nat.le_of_ble_eq_true rfl) dX10_limit_53 ?_
              rintro _ _ _ ⟨rfl, rfl, rfl⟩
              have t19 := (HN.2.1 (6 * m0 + p0) (by omega) (by omega)).2
              refine z_iloadn C 3 dX10_limit_56 rfl rfl ?_
              refine z_iload C 4 dX10_limit_57 rfl ?_
              refine z_iload C 5 dX10_limit_59 rfl ?_
              obtain ⟨yd20, ad20, gd20, wd20, bd20⟩ := id t19
              refine z_callV C (cx_X10_addTest l x0 s0 c0 (ql (20 + (6 * m0 + p0 : Int).toNat)) yd20 wd20 (by omega)) mv_10_84 (z_atS 0 10 (by decide) rfl rfl rfl) pd_X10_addTest ⟨by omega, by omega⟩ ⟨by omega, by omega⟩ rfl (Nat.le_of_ble_eq_true rfl) dX10_limit_61 ?_
              rintro _ _ Y21 (⟨ia22, rfl, rfl, rfl⟩ | ⟨ia22, ba22, rfl, ka22, ya22, wa22, ua22, rfl⟩)
              · skip
                rw [hQ]
                exact z_iret C hrt dX10_limit_64 (⟨s_isNeeded, s_isGoing, rfl, by rw [if_neg (by omega), if_neg (by omega)]; exact HN, HMo, (z_sel_neg (by omega)).symm, (z_sel_neg (by omega)).symm, _, rfl, by unfold z_lR; split <;> (try split) <;> (try split) <;> omega⟩) (by omega) (by omega)
              · skip
                refine z_wide (k := 1) (n := 3) (Nat.le_refl _) (Nat.le_refl _) ?_
                rw [hQ]
                exact z_iret C hrt dX10_limit_64 (⟨1, 0, rfl, by rw [if_pos (by omega), if_pos (by omega)]; exact HN.limit (by omega) (by omega) ia22 wd20 ka22 ya22 wa22 ua22 (by omega), HMo.keep yd20 wd20 ka22, (z_sel_pos (by omega)).symm, (z_sel_pos (by omega)).symm, _, rfl, by unfold z_lR; split <;> (try split) <;> (try split) <;> omega⟩) (by omega) (by omega)
            · skip
              refine z_bipush C dX10_limit_43 (by decide) ?_
              rw [hQ]
              exact z_iret C hrt dX10_limit_45 (⟨s_isNeeded, s_isGoing, rfl, by rw [if_neg (by omega), if_neg (by omega)]; exact HN, HMo, (z_sel_neg (by omega)).symm, (z_sel_neg (by omega)).symm, _, rfl, by unfold z_lR; split <;> (try split) <;> (try split) <;> omega⟩) (by omega) (by omega)
      · skip
        refine z_bipush C dX10_limit_21 (by decide) ?_
        rw [hQ]
        exact z_iret C hrt dX10_limit_23 (⟨s_isNeeded, s_isGoing, rfl, by rw [if_neg (by omega), if_neg (by omega)]; exact HN, HMo, (z_sel_neg (by omega)).symm, (z_sel_neg (by omega)).symm, _, rfl, by unfold z_lR; split <;> (try split) <;> (try split) <;> omega⟩) (by omega) (by omega)
set_option maxRecDepth 20000 in
theorem cx_X2_clear (l : Launch) {D : va_G} {A : Nat → Prop} {ad : Nat → Nat} {ks : z_Ks} {s_edgeCount s_moveCount s_isNeeded s_timesDone s_size s_isGoing s_allTime s_stepCount s_gapCount : Int} {g_edges g_moves g_limits : Nat → Option Nat} {a_sfacts a_sbounds a_facts a_zone a_most a_places a_amounts a_nextPlaces a_nextAmounts a_earliest a_visited a_lastSet a_gapFrom a_gapTo a_gapLeast a_askedPlaces a_askedAmounts : Nat → Int} {Y : Nat → Option va_E} {em ef et ec er gn gt ln lt : Nat → Int} {qe ql qt : Nat → Nat} (HN : z_N ks Y g_edges g_limits s_edgeCount em ef et ec er gn gt ln lt qe ql qt) : z_Met l yX2_clear cX2_clear 2 none 0 0 0 0 D A 27 ad ks [.ref (ad 1)] (z_zc ad ks s_edgeCount s_moveCount s_isNeeded s_timesDone s_size s_isGoing s_allTime s_stepCount s_gapCount g_edges g_moves g_limits a_sfacts a_sbounds a_facts a_zone a_most a_places a_amounts a_nextPlaces a_nextAmounts a_earliest a_visited a_lastSet a_gapFrom a_gapTo a_gapLeast a_askedPlaces a_askedAmounts) Y (fun r S' Y' => S' = (z_zc ad ks 0 0 s_isNeeded s_timesDone s_size s_isGoing s_allTime s_stepCount s_gapCount g_edges g_moves g_limits a_sfacts a_sbounds a_facts a_zone a_most a_places a_amounts a_nextPlaces a_nextAmounts a_earliest a_visited a_lastSet a_gapFrom a_gapTo a_gapLeast a_askedPlaces a_askedAmounts) ∧ z_N ks Y' g_edges g_limits 0 em ef et ec er gn gt (fun _ => 0) lt qe ql qt ∧ r = none) := by
  refine z_start2 (by decide) (Nat.le_of_ble_eq_true rfl) ?_
  intro p e R s m args below meth c Q C hRf hRc hRs hRl hQ hrt hnm
  refine z_loc (L' := [(0, .ref (ad 1))]) [0] rfl ?_
  refine z_aloadn C 0 dX2_clear_0 rfl rfl ?_
  refine z_iconst C dX2_clear_1 ?_
  refine z_put C 1 (by decide) rfl rfl z_it2 tyX2 tyX2_ok nmX2 1 (by decide) rfl (Or.inl rfl) fl_2_30 z_pfI rfl rfl (Nat.le_of_ble_eq_true rfl) dX2_clear_2 ?_
  refine z_ext (S' := (z_zc ad ks 0 s_moveCount s_isNeeded s_timesDone s_size s_isGoing s_allTime s_stepCount s_gapCount g_edges g_moves g_limits a_sfacts a_sbounds a_facts a_zone a_most a_places a_amounts a_nextPlaces a_nextAmounts a_earliest a_visited a_lastSet a_gapFrom a_gapTo a_gapLeast a_askedPlaces a_askedAmounts)) upC_s_edgeCount ?_
  refine z_aloadn C 0 dX2_clear_5 rfl rfl ?_
  refine z_iconst C dX2_clear_6 ?_
  refine z_put C 1 (by decide) rfl rfl z_it2 tyX2 tyX2_ok nmX2 3 (by decide) rfl (Or.inl rfl) fl_2_48 z_pfI rfl rfl (Nat.le_of_ble_eq_true rfl) dX2_clear_7 ?_
  refine z_ext (S' := (z_zc ad ks 0 0 s_isNeeded s_timesDone s_size s_isGoing s_allTime s_stepCount s_gapCount g_edges g_moves g_limits a_sfacts a_sbounds a_facts a_zone a_most a_places a_amounts a_nextPlaces a_nextAmounts a_earliest a_visited a_lastSet a_gapFrom a_gapTo a_gapLeast a_askedPlaces a_askedAmounts)) upC_s_moveCount ?_
  refine z_iconst C dX2_clear_10 ?_
  refine z_istoren (L' := [(1, z_v 0), (0, .ref (ad 1))]) C dX2_clear_11 rfl (by decide) rfl ?_
  have L12 : ∀ (n : Nat), ∀ (i1 : Int) (FY : Nat → Option va_E) (fl : Nat → Int), (0 ≤ i1 ∧ i1 ≤ 18) → (z_N ks FY g_edges g_limits 0 em ef et ec er gn gt fl lt qe ql qt) → (∀ j : Nat, (j : Int) < i1 → fl j = 0) → ((18 : Int) - i1).toNat < n → z_V p l e R s m args below meth c Q D A 27 ad 2 (z_zc ad ks 0 0 s_isNeeded s_timesDone s_size s_isGoing s_allTime s_stepCount s_gapCount g_edges g_moves g_limits a_sfacts a_sbounds a_facts a_zone a_most a_places a_amounts a_nextPlaces a_nextAmounts a_earliest a_visited a_lastSet a_gapFrom a_gapTo a_gapLeast a_askedPlaces a_askedAmounts) FY 0 0 12 [(0, .ref (ad 1)), (1, z_v i1)] [] := by
    intro n
    induction n with
    | zero => intro i1 FY fl I1 NI NZ hm; exact absurd hm (Nat.not_lt_zero _)
    | succ n ih12 =>
      intro i1 FY fl I1 NI NZ hm
      refine z_iloadn C 1 dX2_clear_12 rfl rfl ?_
      refine z_bipush C dX2_clear_13 (by decide) ?_
      refine z_icmp_ge (t := 34) C dX2_clear_15 (by decide) (by omega) (by omega) (fun c1 => ?_) (fun c1 => ?_)
      · skip
        rw [hQ]
        exact z_vret C hrt dX2_clear_34 (⟨rfl, NI.lim (fun j hj => (NZ j (by omega)).symm), rfl⟩) (by omega) (by omega)
      · skip
        refine z_aloadn C 0 dX2_clear_18 rfl rfl ?_
        refine z_get C 1 (by decide) rfl rfl z_it2 4 (by decide) rfl fl_2_25 rfl dX2_clear_19 ?_
        refine z_iloadn C 1 dX2_clear_22 rfl rfl ?_
        obtain ⟨eq2, tq2⟩ := NI.2.1 i1 (by omega) (by omega)
        refine z_aaldS C 4 3 (by decide) rfl rfl (by decide) (by omega) (by omega) eq2 dX2_clear_23 ?_
        refine z_iconst C dX2_clear_24 ?_
        obtain ⟨yd3, ad3, gd3, wd3, bd3⟩ := id tq2
        refine z_put3 (fs' := [.ref (qt (20 + (i1 : Int).toNat)), z_v 0]) C yd3 rfl z_it6 tyX6 tyX6_ok nmX6 1 (by decide) rfl (Or.inl rfl) fl_2_61 z_pfI rfl rfl (Nat.le_of_ble_eq_true rfl) dX2_clear_25 rfl (fun Y4 y5 hk6 => ?_)
        have w7 := hk6 _ _ wd3 (z_ne wd3 yd3 (fun z => by first | cases z | simp at z))
        have nz := NI.zap (by omega) (by omega) hk6 y5
        refine z_iinc (L' := [(1, z_v (i1 + 1)), (0, .ref (ad 1))]) C 1 dX2_clear_28 rfl (by decide) rfl ?_
        refine z_goto (t := 12) C dX2_clear_31 (by decide) ?_
        refine z_loc (L' := [(0, .ref (ad 1)), (1, z_v (i1 + 1))]) [1, 0] rfl ?_
        exact ih12 (i1 + 1) Y4 (va_up fl (i1 : Int).toNat 0) (by omega) (nz) (z_fill_add NZ (by omega)) (by omega)
  refine z_loc (L' := [(0, .ref (ad 1)), (1, z_v 0)]) [1, 0] rfl ?_
  exact (L12 (((18 : Int) - 0).toNat + 1)) 0 Y ln (by omega) (HN.zero) (fun j hj => absurd hj (by omega)) (Nat.lt_succ_self _)
set_option maxRecDepth 20000 in
theorem cx_X10_wipe (l : Launch) {D : va_G} {A : Nat → Prop} {ad : Nat → Nat} {ks : z_Ks} {s_edgeCount s_moveCount s_isNeeded s_timesDone s_size s_isGoing s_allTime s_stepCount s_gapCount : Int} {g_edges g_moves g_limits : Nat → Option Nat} {a_sfacts a_sbounds a_facts a_zone a_most a_places a_amounts a_nextPlaces a_nextAmounts a_earliest a_visited a_lastSet a_gapFrom a_gapTo a_gapLeast a_askedPlaces a_askedAmounts : Nat → Int} {Y : Nat → Option va_E} {em ef et ec er gn gt ln lt : Nat → Int} {qe ql qt : Nat → Nat} (HN : z_N ks Y g_edges g_limits s_edgeCount em ef et ec er gn gt ln lt qe ql qt) : z_Met l yX10_wipe cX10_wipe 2 (some .int) 1 21 0 0 D A 27 ad ks [.ref (ad 0)] (z_zc ad ks s_edgeCount s_moveCount s_isNeeded s_timesDone s_size s_isGoing s_allTime s_stepCount s_gapCount g_edges g_moves g_limits a_sfacts a_sbounds a_facts a_zone a_most a_places a_amounts a_nextPlaces a_nextAmounts a_earliest a_visited a_lastSet a_gapFrom a_gapTo a_gapLeast a_askedPlaces a_askedAmounts) Y (fun r S' Y' => S' = (z_zc ad ks 0 0 1 s_timesDone s_size 0 s_allTime s_stepCount s_gapCount g_edges g_moves g_limits a_sfacts a_sbounds a_facts a_zone a_most a_places a_amounts a_nextPlaces a_nextAmounts a_earliest a_visited a_lastSet a_gapFrom a_gapTo a_gapLeast a_askedPlaces a_askedAmounts) ∧ z_N ks Y' g_edges g_limits 0 em ef et ec er gn gt (fun _ => 0) lt qe ql qt ∧ r = some (z_v s_edgeCount)) := by
  refine z_start2 (by decide) (Nat.le_of_ble_eq_true rfl) ?_
  intro p e R s m args below meth c Q C hRf hRc hRs hRl hQ hrt hnm
  refine z_loc (L' := [(0, .ref (ad 0))]) [0] rfl ?_
  refine z_aloadn C 0 dX10_wipe_0 rfl rfl ?_
  refine z_get C 0 (by decide) rfl rfl z_it10 0 (by decide) rfl fl_10_12 rfl dX10_wipe_1 ?_
  refine z_get C 1 (by decide) rfl rfl z_it2 1 (by decide) rfl fl_10_51 rfl dX10_wipe_4 ?_
  refine z_istoren (L' := [(1, z_v s_edgeCount), (0, .ref (ad 0))]) C dX10_wipe_7 rfl (by decide) rfl ?_
  refine z_aloadn C 1 dX10_wipe_8 rfl rfl ?_
  refine z_get C 0 (by decide) rfl rfl z_it10 0 (by decide) rfl fl_10_12 rfl dX10_wipe_9 ?_
  refine z_callV C (cx_X2_clear l HN) mv_10_92 (z_atS 1 2 (by decide) rfl rfl rfl) pd_X2_clear ⟨by omega, by omega⟩ ⟨by omega, by omega⟩ rfl (Nat.le_of_ble_eq_true rfl) dX10_wipe_12 ?_
  rintro _ _ Y1 ⟨rfl, hN12, rfl⟩
  refine z_aloadn C 1 dX10_wipe_15 rfl rfl ?_
  refine z_callV C (cm_X10_forgetFindings l ) mv_10_55 (z_atS 0 10 (by decide) rfl rfl rfl) pd_X10_forgetFindings ⟨by omega, by omega⟩ ⟨by omega, by omega⟩ rfl (Nat.le_of_ble_eq_true rfl) dX10_wipe_16 ?_
  rintro _ _ _ ⟨rfl, rfl, rfl⟩
  refine z_iloadn C 0 dX10_wipe_19 rfl rfl ?_
  rw [hQ]
  exact z_iret C hrt dX10_wipe_20 (⟨rfl, hN12, rfl⟩) (by omega) (by omega)
set_option maxRecDepth 20000 in
theorem cx_X10_about (l : Launch) {D : va_G} {A : Nat → Prop} {ad : Nat → Nat} {ks : z_Ks} {s_edgeCount s_moveCount s_isNeeded s_timesDone s_size s_isGoing s_allTime s_stepCount s_gapCount : Int} {g_edges g_moves g_limits : Nat → Option Nat} {a_sfacts a_sbounds a_facts a_zone a_most a_places a_amounts a_nextPlaces a_nextAmounts a_earliest a_visited a_lastSet a_gapFrom a_gapTo a_gapLeast a_askedPlaces a_askedAmounts : Nat → Int} {Y : Nat → Option va_E} {em ef et ec er gn gt ln lt : Nat → Int} {qe ql qt : Nat → Nat} (e0 wh : Int) (he0 : z_rg e0) (hwh : z_rg wh) (Hs_edgeCount : 0 ≤ s_edgeCount ∧ s_edgeCount ≤ 20) (HN : z_N ks Y g_edges g_limits s_edgeCount em ef et ec er gn gt ln lt qe ql qt) : z_Met l yX10_about cX10_about 4 (some .int) 1 21 0 0 D A 27 ad ks [.ref (ad 0), z_v e0, z_v wh] (z_zc ad ks s_edgeCount s_moveCount s_isNeeded s_timesDone s_size s_isGoing s_allTime s_stepCount s_gapCount g_edges g_moves g_limits a_sfacts a_sbounds a_facts a_zone a_most a_places a_amounts a_nextPlaces a_nextAmounts a_earliest a_visited a_lastSet a_gapFrom a_gapTo a_gapLeast a_askedPlaces a_askedAmounts) Y (fun r S' Y' => S' = (z_zc ad ks s_edgeCount s_moveCount s_isNeeded s_timesDone s_size s_isGoing s_allTime s_stepCount s_gapCount g_edges g_moves g_limits a_sfacts a_sbounds a_facts a_zone a_most a_places a_amounts a_nextPlaces a_nextAmounts a_earliest a_visited a_lastSet a_gapFrom a_gapTo a_gapLeast a_askedPlaces a_askedAmounts) ∧ Y = Y' ∧ ∃ z : Int, r = some (z_v z) ∧ z = z_abR e0 wh s_edgeCount em ef et ec er gn) := by
  refine z_start2 (by decide) (Nat.le_of_ble_eq_true rfl) ?_
  intro p e R s m args below meth c Q C hRf hRc hRs hRl hQ hrt hnm
  refine z_loc (L' := [(0, .ref (ad 0)), (1, z_v e0), (2, z_v wh)]) [0, 1, 2] rfl ?_
  refine z_aloadn C 0 dX10_about_0 rfl rfl ?_
  refine z_get C 0 (by decide) rfl rfl z_it10 0 (by decide) rfl fl_10_12 rfl dX10_about_1 ?_
  refine z_iloadn C 1 dX10_about_4 rfl rfl ?_
  refine z_callV C (cm_X2_isEdge l e0 (by omega) (by omega)) mv_10_67 (z_atS 1 2 (by decide) rfl rfl rfl) pd_X2_isEdge ⟨by omega, by omega⟩ ⟨by omega, by omega⟩ rfl (Nat.le_of_ble_eq_true rfl) dX10_about_5 ?_
  rintro _ _ _ ⟨rfl, rfl, z3, rfl, hz3⟩
  refine z_if_ne (t := 14) C dX10_about_8 (by decide) (by omega) (fun c4 => ?_) (fun c4 => ?_)
  · skip
    refine z_aloadn C 0 dX10_about_14 rfl rfl ?_
    refine z_get C 0 (by decide) rfl rfl z_it10 0 (by decide) rfl fl_10_12 rfl dX10_about_15 ?_
    refine z_get C 1 (by decide) rfl rfl z_it2 0 (by decide) rfl fl_10_76 rfl dX10_about_18 ?_
    refine z_iloadn C 1 dX10_about_21 rfl rfl ?_
    obtain ⟨eq5, yq5, rq5, tq5⟩ := HN.1 e0 (by omega) (by omega)
    refine z_aaldS C 2 1 (by decide) rfl rfl (by decide) (by omega) (by omega) eq5 dX10_about_22 ?_
    refine z_astoren (L' := [(3, .ref (qe (e0 : Int).toNat)), (0, .ref (ad 0)), (1, z_v e0), (2, z_v wh)]) C dX10_about_23 rfl (by decide) rfl ?_
    refine z_iloadn C 3 dX10_about_24 rfl rfl ?_
    rcases (show (wh < 0 ∨ 5 < wh) ∨ wh = 0 ∨ wh = 1 ∨ wh = 2 ∨ wh = 3 ∨ wh = 4 ∨ wh = 5 by omega) with w6 | w6 | w6 | w6 | w6 | w6 | w6
    · refine z_tabOut (t := 97) C dX10_about_25 (by omega) w6 (by decide) ?_
      refine z_bipush C dX10_about_97 (by decide) ?_
      rw [hQ]
      exact z_iret C hrt dX10_about_99 (⟨rfl, rfl, _, rfl, by unfold z_abR; split <;> (try split) <;> (try split) <;> (try split) <;> (try split) <;> (try split) <;> (try split) <;> (try split) <;> omega⟩) (by omega) (by omega)
    · refine z_tabIn (o := 39) (t := 64) C wh dX10_about_25 (by omega) (by omega) (by omega) (by rw [w6]; rfl) (by decide) ?_
      refine z_aloadn C 0 dX10_about_64 rfl rfl ?_
      refine z_getY C yq5 rfl z_it0 0 (by decide) rfl fl_10_201 rfl dX10_about_65 ?_
      rw [hQ]
      exact z_iret C hrt dX10_about_68 (⟨rfl, rfl, _, rfl, by unfold z_abR; split <;> (try split) <;> (try split) <;> (try split) <;> (try split) <;> (try split) <;> (try split) <;> (try split) <;> omega⟩) (by omega) (by omega)
    · refine z_tabIn (o := 44) (t := 69) C wh dX10_about_25 (by omega) (by omega) (by omega) (by rw [w6]; rfl) (by decide) ?_
      refine z_aloadn C 0 dX10_about_69 rfl rfl ?_
      refine z_getY C yq5 rfl z_it0 1 (by decide) rfl fl_10_204 rfl dX10_about_70 ?_
      rw [hQ]
      exact z_iret C hrt dX10_about_73 (⟨rfl, rfl, _, rfl, by unfold z_abR; split <;> (try split) <;> (try split) <;> (try split) <;> (try split) <;> (try split) <;> (try split) <;> (try split) <;> omega⟩) (by omega) (by omega)
    · refine z_tabIn (o := 49) (t := 74) C wh dX10_about_25 (by omega) (by omega) (by omega) (by rw [w6]; rfl) (by decide) ?_
      refine z_aloadn C 0 dX10_about_74 rfl rfl ?_
      refine z_getY C yq5 rfl z_it0 2 (by decide) rfl fl_10_207 rfl dX10_about_75 ?_
      rw [hQ]
      exact z_iret C hrt dX10_about_78 (⟨rfl, rfl, _, rfl, by unfold z_abR; split <;> (try split) <;> (try split) <;> (try split) <;> (try split) <;> (try split) <;> (try split) <;> (try split) <;> omega⟩) (by omega) (by omega)
    · refine z_tabIn (o := 54) (t := 79) C wh dX10_about_25 (by omega) (by omega) (by omega) (by rw [w6]; rfl) (by decide) ?_
      refine z_aloadn C 0 dX10_about_79 rfl rfl ?_
      refine z_getY C yq5 rfl z_it0 3 (by decide) rfl fl_10_210 rfl dX10_about_80 ?_
      rw [hQ]
      exact z_iret C hrt dX10_about_83 (⟨rfl, rfl, _, rfl, by unfold z_abR; split <;> (try split) <;> (try split) <;> (try split) <;> (try split) <;> (try split) <;> (try split) <;> (try split) <;> omega⟩) (by omega) (by omega)
    · refine z_tabIn (o := 59) (t := 84) C wh dX10_about_25 (by omega) (by omega) (by omega) (by rw [w6]; rfl) (by decide) ?_
      refine z_aloadn C 0 dX10_about_84 rfl rfl ?_
      refine z_getY C yq5 rfl z_it0 4 (by decide) rfl fl_10_213 rfl dX10_about_85 ?_
      rw [hQ]
      exact z_iret C hrt dX10_about_88 (⟨rfl, rfl, _, rfl, by unfold z_abR; split <;> (try split) <;> (try split) <;> (try split) <;> (try split) <;> (try split) <;> (try split) <;> (try split) <;> omega⟩) (by omega) (by omega)
    · refine z_tabIn (o := 64) (t := 89) C wh dX10_about_25 (by omega) (by omega) (by omega) (by rw [w6]; rfl) (by decide) ?_
      refine z_aloadn C 0 dX10_about_89 rfl rfl ?_
      refine z_getY C yq5 rfl z_it0 5 (by decide) rfl fl_10_80 rfl dX10_about_90 ?_
      obtain ⟨yd7, ad7, gd7, wd7, bd7⟩ := id tq5
      refine z_getY C yd7 rfl z_it6 1 (by decide) rfl fl_10_216 rfl dX10_about_93 ?_
      rw [hQ]
      exact z_iret C hrt dX10_about_96 (⟨rfl, rfl, _, rfl, by unfold z_abR; split <;> (try split) <;> (try split) <;> (try split) <;> (try split) <;> (try split) <;> (try split) <;> (try split) <;> omega⟩) (by omega) (by omega)
  · skip
    refine z_bipush C dX10_about_11 (by decide) ?_
    rw [hQ]
    exact z_iret C hrt dX10_about_13 (⟨rfl, rfl, _, rfl, by unfold z_abR; split <;> (try split) <;> (try split) <;> (try split) <;> (try split) <;> (try split) <;> (try split) <;> (try split) <;> omega⟩) (by omega) (by omega)
