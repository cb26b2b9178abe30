theorem z_addE {P : Nat → Prop} {g : Nat → Option Nat} {n : Int} {q : Nat} (h : ∀ j : Nat, (j : Int) < n → ∃ x, g j = some x ∧ P x) (hq : P q) (h0 : 0 ≤ n) : ∀ j : Nat, (j : Int) < n + 1 → ∃ x, va_up g n.toNat (some q) j = some x ∧ P x := by
  intro j h1
  by_cases he : j = n.toNat
  · subst he
    exact ⟨q, by simp [va_up], hq⟩
  · obtain ⟨x, a, b⟩ := h j (by omega)
    exact ⟨x, by simp [va_up, he, a], b⟩
set_option maxRecDepth 20000 in
theorem cm_X2_addEdge (l : Launch) {D : va_G} {A : Nat → Prop} {ad : Nat → Nat} {ks : z_Ks} {s_edgeCount s_moveCount s_isNeeded s_timesDone s_size s_isGoing s_allTime s_stepCount s_gapCount : Int} {g_edges g_moves g_limits : Nat → Option Nat} {a_sfacts a_sbounds a_facts a_zone a_most a_places a_amounts a_nextPlaces a_nextAmounts a_earliest a_visited a_lastSet a_gapFrom a_gapTo a_gapLeast a_askedPlaces a_askedAmounts : Nat → Int} {Y : Nat → Option va_E} (q : Nat) (Hs_edgeCount : (0 ≤ s_edgeCount ∧ s_edgeCount ≤ 20)) (Hs_moveCount : (0 ≤ s_moveCount ∧ s_moveCount ≤ 400)) (hq : z_E ks Y q) (hec : s_edgeCount ≤ 19) (HE : ∀ j : Nat, (j : Int) < s_edgeCount → ∃ q, g_edges j = some q ∧ z_E ks Y q) (HM : ∀ j : Nat, (j : Int) < s_moveCount → ∃ q, g_moves j = some q ∧ z_Mv ks Y q) : z_Met l yX2_addEdge cX2_addEdge 4 (some .int) 2 44 21 105 D A 27 ad ks [.ref (ad 1), .ref q] (z_zc ad ks s_edgeCount s_moveCount s_isNeeded s_timesDone s_size s_isGoing s_allTime s_stepCount s_gapCount g_edges g_moves g_limits a_sfacts a_sbounds a_facts a_zone a_most a_places a_amounts a_nextPlaces a_nextAmounts a_earliest a_visited a_lastSet a_gapFrom a_gapTo a_gapLeast a_askedPlaces a_askedAmounts) Y (fun r S' Y' => ∃ ns_moveCount : Int, ∃ ng_edges : Nat → Option Nat, ∃ ng_moves : Nat → Option Nat, S' = (z_zc ad ks (s_edgeCount + 1) ns_moveCount s_isNeeded s_timesDone s_size s_isGoing s_allTime s_stepCount s_gapCount ng_edges ng_moves g_limits a_sfacts a_sbounds a_facts a_zone a_most a_places a_amounts a_nextPlaces a_nextAmounts a_earliest a_visited a_lastSet a_gapFrom a_gapTo a_gapLeast a_askedPlaces a_askedAmounts) ∧ z_yl ks Y Y' ∧ (0 ≤ ns_moveCount ∧ ns_moveCount ≤ 400) ∧ (∀ j : Nat, (j : Int) < (s_edgeCount + 1) → ∃ x, ng_edges j = some x ∧ z_E ks Y' x) ∧ (∀ j : Nat, (j : Int) < ns_moveCount → ∃ x, ng_moves j = some x ∧ z_Mv ks Y' x) ∧ ∃ z : Int, r = some (z_v z) ∧ (z = s_edgeCount)) := by
  refine z_start2 (by decide) (Nat.le_of_ble_eq_true rfl) ?_
  intro p e R s m args below meth c Q C hRf hRc hRs hRl hQ hrt hnm
  refine z_loc (L' := [(0, .ref (ad 1)), (1, .ref q)]) [0, 1] rfl ?_
  refine z_aloadn C 0 dX2_addEdge_0 rfl rfl ?_
  refine z_get C 1 (by decide) rfl rfl z_it2 1 (by decide) rfl fl_2_30 rfl dX2_addEdge_1 ?_
  refine z_istoren (L' := [(2, z_v s_edgeCount), (0, .ref (ad 1)), (1, .ref q)]) C dX2_addEdge_4 rfl (by decide) rfl ?_
  refine z_iloadn C 0 dX2_addEdge_5 rfl rfl ?_
  refine z_bipush C dX2_addEdge_6 (by decide) ?_
  refine z_icmp_lt (t := 14) C dX2_addEdge_8 (by decide) (by omega) (by omega) (fun c1 => ?_) (fun c1 => ?_)
  · skip
    refine z_aloadn C 1 dX2_addEdge_14 rfl rfl ?_
    refine z_get C 1 (by decide) rfl rfl z_it2 0 (by decide) rfl fl_2_11 rfl dX2_addEdge_15 ?_
    refine z_iloadn C 0 dX2_addEdge_18 rfl rfl ?_
    refine z_aloadn C 2 dX2_addEdge_19 rfl rfl ?_
    obtain ⟨md2, fd2, td2, kd2, rd2, gd2, yd2, ad2, bd2⟩ := id hq
    refine z_aast C 2 1 (by decide) rfl rfl yd2 rfl (by decide) (by omega) (by omega) dX2_addEdge_20 ?_
    refine z_ext (S' := (z_zc ad ks s_edgeCount s_moveCount s_isNeeded s_timesDone s_size s_isGoing s_allTime s_stepCount s_gapCount (va_up g_edges (s_edgeCount : Int).toNat (some q)) g_moves g_limits a_sfacts a_sbounds a_facts a_zone a_most a_places a_amounts a_nextPlaces a_nextAmounts a_earliest a_visited a_lastSet a_gapFrom a_gapTo a_gapLeast a_askedPlaces a_askedAmounts)) upC_g_edges ?_
    have HEn := z_addE HE hq (by omega)
    refine z_aloadn C 1 dX2_addEdge_21 rfl rfl ?_
    refine z_dup C dX2_addEdge_22 rfl ?_
    refine z_get C 1 (by decide) rfl rfl z_it2 1 (by decide) rfl fl_2_30 rfl dX2_addEdge_23 ?_
    refine z_iconst C dX2_addEdge_26 ?_
    refine z_iadd C dX2_addEdge_27 ?_
    refine z_put C 1 (by decide) rfl rfl z_it2 tyX2 tyX2_ok nmX2 1 (by decide) rfl (Or.inl rfl) fl_2_30 z_pfI rfl rfl (Nat.le_of_ble_eq_true rfl) dX2_addEdge_28 ?_
    refine z_ext (S' := (z_zc ad ks (s_edgeCount + 1) s_moveCount s_isNeeded s_timesDone s_size s_isGoing s_allTime s_stepCount s_gapCount (va_up g_edges (s_edgeCount : Int).toNat (some q)) g_moves g_limits a_sfacts a_sbounds a_facts a_zone a_most a_places a_amounts a_nextPlaces a_nextAmounts a_earliest a_visited a_lastSet a_gapFrom a_gapTo a_gapLeast a_askedPlaces a_askedAmounts)) upC_s_edgeCount ?_
    refine z_aloadn C 2 dX2_addEdge_31 rfl rfl ?_
    refine z_getY C yd2 rfl z_it0 3 (by decide) rfl fl_2_34 rfl dX2_addEdge_32 ?_
    refine z_if_ne (t := 53) C dX2_addEdge_35 (by decide) (by omega) (fun c3 => ?_) (fun c3 => ?_)
    · skip
      refine z_iconst C dX2_addEdge_53 ?_
      refine z_istoren (L' := [(3, z_v 0), (2, z_v s_edgeCount), (0, .ref (ad 1)), (1, .ref q)]) C dX2_addEdge_54 rfl (by decide) rfl ?_
      have L55 : ∀ (n : Nat), ∀ (i3 : Int) (fs_moveCount : Int) (fg_moves : Nat → Option Nat) (FY : Nat → Option va_E), ((0 ≤ fs_moveCount ∧ fs_moveCount ≤ 400)) → (∀ j : Nat, (j : Int) < fs_moveCount → ∃ q, fg_moves j = some q ∧ z_Mv ks FY q) → (0 ≤ i3 ∧ i3 ≤ s_edgeCount) → (z_yl ks Y FY) → ((s_edgeCount : Int) - i3).toNat < n → z_V p l e R s m args below meth c Q D A 27 ad 4 (z_zc ad ks (s_edgeCount + 1) fs_moveCount s_isNeeded s_timesDone s_size s_isGoing s_allTime s_stepCount s_gapCount (va_up g_edges (s_edgeCount : Int).toNat (some q)) fg_moves g_limits a_sfacts a_sbounds a_facts a_zone a_most a_places a_amounts a_nextPlaces a_nextAmounts a_earliest a_visited a_lastSet a_gapFrom a_gapTo a_gapLeast a_askedPlaces a_askedAmounts) FY (1 + (i3 : Int).toNat) (5 + 5 * (i3 : Int).toNat) 55 [(0, .ref (ad 1)), (1, .ref q), (2, z_v s_edgeCount), (3, z_v i3)] [] := by
        intro n
        induction n with
        | zero => intro i3 fs_moveCount fg_moves FY Hfs_moveCount HMx I3 LE hm; exact absurd hm (Nat.not_lt_zero _)
        | succ n ih55 =>
          intro i3 fs_moveCount fg_moves FY Hfs_moveCount HMx I3 LE hm
          have L_q := LE.2.2.1 _ hq
          have LHE := z_netE LE HEn
          refine z_iloadn C 3 dX2_addEdge_55 rfl rfl ?_
          refine z_iloadn C 2 dX2_addEdge_56 rfl rfl ?_
          refine z_icmp_ge (t := 135) C dX2_addEdge_57 (by decide) (by omega) (by omega) (fun c4 => ?_) (fun c4 => ?_)
          · skip
            refine z_iloadn C 2 dX2_addEdge_135 rfl rfl ?_
            rw [hQ]
            exact z_iret C hrt dX2_addEdge_136 (⟨fs_moveCount, (va_up g_edges (s_edgeCount : Int).toNat (some q)), fg_moves, rfl, LE, by omega, LHE, HMx, _, rfl, by omega⟩) (by omega) (by omega)
          · skip
            refine z_aloadn C 1 dX2_addEdge_60 rfl rfl ?_
            refine z_aloadn C 0 dX2_addEdge_61 rfl rfl ?_
            refine z_get C 1 (by decide) rfl rfl z_it2 0 (by decide) rfl fl_2_11 rfl dX2_addEdge_62 ?_
            refine z_iloadn C 3 dX2_addEdge_65 rfl rfl ?_
            obtain ⟨q5, eq5, hq5⟩ := LHE (i3 : Int).toNat (by omega)
            refine z_aaldS C 2 1 (by decide) rfl rfl (by decide) (by omega) (by omega) eq5 dX2_addEdge_66 ?_
            obtain ⟨md6, fd6, td6, kd6, rd6, gd6, yd6, ad6, bd6⟩ := id L_q
            refine z_callV C (cm_X0_isAnsweredBy l q q5 L_q hq5) mv_2_44 (z_atY 0 yd6 rfl rfl) pd_X0_isAnsweredBy ⟨by omega, by omega⟩ ⟨by omega, by omega⟩ rfl (Nat.le_of_ble_eq_true rfl) dX2_addEdge_67 ?_
            rintro _ _ _ ⟨rfl, rfl, z9, rfl, hz9⟩
            refine z_if_eq (t := 96) C dX2_addEdge_70 (by decide) (by omega) (fun c10 => ?_) (fun c10 => ?_)
            · skip
              refine z_aloadn C 0 dX2_addEdge_96 rfl rfl ?_
              refine z_get C 1 (by decide) rfl rfl z_it2 0 (by decide) rfl fl_2_11 rfl dX2_addEdge_97 ?_
              refine z_iloadn C 3 dX2_addEdge_100 rfl rfl ?_
              obtain ⟨q11, eq11, hq11⟩ := LHE (i3 : Int).toNat (by omega)
              refine z_aaldS C 2 1 (by decide) rfl rfl (by decide) (by omega) (by omega) eq11 dX2_addEdge_101 ?_
              refine z_aloadn C 1 dX2_addEdge_102 rfl rfl ?_
              obtain ⟨md12, fd12, td12, kd12, rd12, gd12, yd12, ad12, bd12⟩ := id hq11
              refine z_callV C (cm_X0_isAnsweredBy l q11 q hq11 L_q) mv_2_44 (z_atY 0 yd12 rfl rfl) pd_X0_isAnsweredBy ⟨by omega, by omega⟩ ⟨by omega, by omega⟩ rfl (Nat.le_of_ble_eq_true rfl) dX2_addEdge_103 ?_
              rintro _ _ _ ⟨rfl, rfl, z15, rfl, hz15⟩
              refine z_if_eq (t := 129) C dX2_addEdge_106 (by decide) (by omega) (fun c16 => ?_) (fun c16 => ?_)
              · skip
                refine z_iinc (L' := [(3, z_v (i3 + 1)), (0, .ref (ad 1)), (1, .ref q), (2, z_v s_edgeCount)]) C 3 dX2_addEdge_129 rfl (by decide) rfl ?_
                refine z_goto (t := 55) C dX2_addEdge_132 (by decide) ?_
                refine z_wide (k := (1 + ((i3 + 1) : Int).toNat)) (n := (5 + 5 * ((i3 + 1) : Int).toNat)) (by omega) (by omega) ?_
                refine z_loc (L' := [(0, .ref (ad 1)), (1, .ref q), (2, z_v s_edgeCount), (3, z_v (i3 + 1))]) [1, 2, 3, 0] rfl ?_
                exact ih55 (i3 + 1) fs_moveCount fg_moves FY (by omega) (by first | exact HMx | exact q90_0 | exact q126_0) (by omega) (LE) (by omega)
              · skip
                refine z_aloadn C 0 dX2_addEdge_109 rfl rfl ?_
                refine z_new3 (r := (RX1, TX1, 5)) (ci := 1) (fs := [z_v 0, z_v 0, .null, .null, z_v 0]) C rfl z_it1 tyX1 tyX1_ok nw_2_17 (fun j hj => match j, hj with | 0, _ => rfl | 1, _ => rfl | 2, _ => rfl | 3, _ => rfl | 4, _ => rfl | n + 5, h => absurd h (by show ¬ (n + 5 < 5); omega)) (by omega) (by show _ + 5 ≤ _; omega) dX2_addEdge_110 (fun q17 Y18 y19 hs20 hf21 => ?_)
                have y22 := hs20 _ _ yd6
                have y23 := hs20 _ _ yd12
                have l24 : z_yl ks FY Y18 := z_yl_sub hs20
                have le25 : z_yl ks Y Y18 := LE.tr l24
                have p26 := l24.2.2.1 _ L_q
                have p27 := l24.2.2.1 _ hq5
                have p28 := l24.2.1 _ bd6
                have p29 := l24.2.2.1 _ hq11
                have p30 := l24.2.1 _ bd12
                have HE31 := z_netE l24 LHE
                have HM32 := z_netM l24 HMx
                refine z_wide (k := ((1 + (i3 : Int).toNat) + 1)) (n := ((5 + 5 * (i3 : Int).toNat) + 5)) (Nat.le_refl _) (Nat.le_refl _) ?_
                refine z_dup C dX2_addEdge_113 rfl ?_
                refine z_iloadn C 3 dX2_addEdge_114 rfl rfl ?_
                refine z_iloadn C 2 dX2_addEdge_115 rfl rfl ?_
                refine z_aloadn C 0 dX2_addEdge_116 rfl rfl ?_
                refine z_get C 1 (by decide) rfl rfl z_it2 0 (by decide) rfl fl_2_11 rfl dX2_addEdge_117 ?_
                refine z_iloadn C 3 dX2_addEdge_120 rfl rfl ?_
                obtain ⟨q33, eq33, hq33⟩ := HE31 (i3 : Int).toNat (by omega)
                refine z_aaldS C 2 1 (by decide) rfl rfl (by decide) (by omega) (by omega) eq33 dX2_addEdge_121 ?_
                refine z_aloadn C 1 dX2_addEdge_122 rfl rfl ?_
                refine z_callI C (cm_X1_init l i3 s_edgeCount q17 q33 q y19 hq33 p26) mv_2_37 rfl pd_X1_init ⟨by omega, by omega⟩ ⟨by omega, by omega⟩ rfl (Nat.le_of_ble_eq_true rfl) dX2_addEdge_123 ?_
                rintro _ _ Y34 ⟨rr, rfl, hk35, y36, rrr, rfl⟩
                have y37 := hk35 _ _ y22 (z_ne y22 y19 (fun z => by first | cases z | simp at z))
                have y38 := hk35 _ _ y23 (z_ne y23 y19 (fun z => by first | cases z | simp at z))
                have l39 : z_yl ks Y18 Y34 := z_yl_raw y19 (Or.inr (Or.inr (Or.inr rfl))) hk35
                have le40 : z_yl ks Y Y34 := le25.tr l39
                have p41 := l39.2.2.1 _ p26
                have p42 := l39.2.2.1 _ p27
                have p43 := l39.2.1 _ p28
                have p44 := l39.2.2.1 _ p29
                have p45 := l39.2.1 _ p30
                have p46 := l39.2.2.1 _ hq33
                have HE47 := z_netE l39 HE31
                have HM48 := z_netM l39 HM32
                have p49 : z_Mv ks Y34 q17 := ⟨_, _, _, some q, _, y36, ⟨by omega, by omega, by omega⟩, p46, fun x hx => by cases hx; exact p41⟩
                refine z_callV C (cm_X2_insert l q17 (by omega) p49 HM48) mv_2_40 (z_atS 1 2 (by decide) rfl rfl rfl) pd_X2_insert ⟨by omega, by omega⟩ ⟨by omega, by omega⟩ rfl (Nat.le_of_ble_eq_true rfl) dX2_addEdge_126 ?_
                rintro _ _ _ ⟨n50, n51, rfl, rfl, h54, q126_0, rfl⟩
                refine z_iinc (L' := [(3, z_v (i3 + 1)), (0, .ref (ad 1)), (1, .ref q), (2, z_v s_edgeCount)]) C 3 dX2_addEdge_129 rfl (by decide) rfl ?_
                refine z_goto (t := 55) C dX2_addEdge_132 (by decide) ?_
                refine z_wide (k := (1 + ((i3 + 1) : Int).toNat)) (n := (5 + 5 * ((i3 + 1) : Int).toNat)) (by omega) (by omega) ?_
                refine z_loc (L' := [(0, .ref (ad 1)), (1, .ref q), (2, z_v s_edgeCount), (3, z_v (i3 + 1))]) [1, 2, 3, 0] rfl ?_
                exact ih55 (i3 + 1) n50 n51 Y34 (by omega) (by first | exact HMx | exact q90_0 | exact q126_0) (by omega) (le40) (by omega)
            · skip
              refine z_aloadn C 0 dX2_addEdge_73 rfl rfl ?_
              refine z_new3 (r := (RX1, TX1, 5)) (ci := 1) (fs := [z_v 0, z_v 0, .null, .null, z_v 0]) C rfl z_it1 tyX1 tyX1_ok nw_2_17 (fun j hj => match j, hj with | 0, _ => rfl | 1, _ => rfl | 2, _ => rfl | 3, _ => rfl | 4, _ => rfl | n + 5, h => absurd h (by show ¬ (n + 5 < 5); omega)) (by omega) (by show _ + 5 ≤ _; omega) dX2_addEdge_74 (fun q55 Y56 y57 hs58 hf59 => ?_)
              have y60 := hs58 _ _ yd6
              have l61 : z_yl ks FY Y56 := z_yl_sub hs58
              have le62 : z_yl ks Y Y56 := LE.tr l61
              have p63 := l61.2.2.1 _ L_q
              have p64 := l61.2.2.1 _ hq5
              have p65 := l61.2.1 _ bd6
              have HE66 := z_netE l61 LHE
              have HM67 := z_netM l61 HMx
              refine z_wide (k := ((1 + (i3 : Int).toNat) + 1)) (n := ((5 + 5 * (i3 : Int).toNat) + 5)) (Nat.le_refl _) (Nat.le_refl _) ?_
              refine z_dup C dX2_addEdge_77 rfl ?_
              refine z_iloadn C 2 dX2_addEdge_78 rfl rfl ?_
              refine z_iloadn C 3 dX2_addEdge_79 rfl rfl ?_
              refine z_aloadn C 1 dX2_addEdge_80 rfl rfl ?_
              refine z_aloadn C 0 dX2_addEdge_81 rfl rfl ?_
              refine z_get C 1 (by decide) rfl rfl z_it2 0 (by decide) rfl fl_2_11 rfl dX2_addEdge_82 ?_
              refine z_iloadn C 3 dX2_addEdge_85 rfl rfl ?_
              obtain ⟨q68, eq68, hq68⟩ := HE66 (i3 : Int).toNat (by omega)
              refine z_aaldS C 2 1 (by decide) rfl rfl (by decide) (by omega) (by omega) eq68 dX2_addEdge_86 ?_
              refine z_callI C (cm_X1_init l s_edgeCount i3 q55 q q68 y57 p63 hq68) mv_2_37 rfl pd_X1_init ⟨by omega, by omega⟩ ⟨by omega, by omega⟩ rfl (Nat.le_of_ble_eq_true rfl) dX2_addEdge_87 ?_
              rintro _ _ Y69 ⟨rr, rfl, hk70, y71, rrr, rfl⟩
              have y72 := hk70 _ _ y60 (z_ne y60 y57 (fun z => by first | cases z | simp at z))
              have l73 : z_yl ks Y56 Y69 := z_yl_raw y57 (Or.inr (Or.inr (Or.inr rfl))) hk70
              have le74 : z_yl ks Y Y69 := le62.tr l73
              have p75 := l73.2.2.1 _ p63
              have p76 := l73.2.2.1 _ p64
              have p77 := l73.2.1 _ p65
              have p78 := l73.2.2.1 _ hq68
              have HE79 := z_netE l73 HE66
              have HM80 := z_netM l73 HM67
              have p81 : z_Mv ks Y69 q55 := ⟨_, _, _, some q68, _, y71, ⟨by omega, by omega, by omega⟩, p75, fun x hx => by cases hx; exact p78⟩
              refine z_callV C (cm_X2_insert l q55 (by omega) p81 HM80) mv_2_40 (z_atS 1 2 (by decide) rfl rfl rfl) pd_X2_insert ⟨by omega, by omega⟩ ⟨by omega, by omega⟩ rfl (Nat.le_of_ble_eq_true rfl) dX2_addEdge_90 ?_
              rintro _ _ _ ⟨n82, n83, rfl, rfl, h86, q90_0, rfl⟩
              refine z_goto (t := 129) C dX2_addEdge_93 (by decide) ?_
              refine z_iinc (L' := [(3, z_v (i3 + 1)), (0, .ref (ad 1)), (1, .ref q), (2, z_v s_edgeCount)]) C 3 dX2_addEdge_129 rfl (by decide) rfl ?_
              refine z_goto (t := 55) C dX2_addEdge_132 (by decide) ?_
              refine z_wide (k := (1 + ((i3 + 1) : Int).toNat)) (n := (5 + 5 * ((i3 + 1) : Int).toNat)) (by omega) (by omega) ?_
              refine z_loc (L' := [(0, .ref (ad 1)), (1, .ref q), (2, z_v s_edgeCount), (3, z_v (i3 + 1))]) [1, 2, 3, 0] rfl ?_
              exact ih55 (i3 + 1) n82 n83 Y69 (by omega) (by first | exact HMx | exact q90_0 | exact q126_0) (by omega) (le74) (by omega)
      refine z_wide (k := (1 + (0 : Int).toNat)) (n := (5 + 5 * (0 : Int).toNat)) (by omega) (by omega) ?_
      refine z_loc (L' := [(0, .ref (ad 1)), (1, .ref q), (2, z_v s_edgeCount), (3, z_v 0)]) [2, 3, 1, 0] rfl ?_
      exact (L55 (((s_edgeCount : Int) - 0).toNat + 1)) 0 s_moveCount g_moves Y (by omega) (by first | exact q50_0 | exact HM) (by omega) (z_yl.rf) (Nat.lt_succ_self _)
    · skip
      refine z_aloadn C 1 dX2_addEdge_38 rfl rfl ?_
      refine z_new3 (r := (RX1, TX1, 5)) (ci := 1) (fs := [z_v 0, z_v 0, .null, .null, z_v 0]) C rfl z_it1 tyX1 tyX1_ok nw_2_17 (fun j hj => match j, hj with | 0, _ => rfl | 1, _ => rfl | 2, _ => rfl | 3, _ => rfl | 4, _ => rfl | n + 5, h => absurd h (by show ¬ (n + 5 < 5); omega)) (by omega) (by show _ + 5 ≤ _; omega) dX2_addEdge_39 (fun q87 Y88 y89 hs90 hf91 => ?_)
      have y92 := hs90 _ _ yd2
      have l93 : z_yl ks Y Y88 := z_yl_sub hs90
      have le94 : z_yl ks Y Y88 := l93
      have p95 := l93.2.2.1 _ hq
      have p96 := l93.2.1 _ bd2
      have HE97 := z_netE l93 HEn
      have HM98 := z_netM l93 HM
      refine z_wide (k := 1) (n := 5) (Nat.le_refl _) (Nat.le_refl _) ?_
      refine z_dup C dX2_addEdge_42 rfl ?_
      refine z_iloadn C 0 dX2_addEdge_43 rfl rfl ?_
      refine z_iconst C dX2_addEdge_44 ?_
      refine z_aloadn C 2 dX2_addEdge_45 rfl rfl ?_
      refine z_null C dX2_addEdge_46 ?_
      refine z_callI C (cm_X1_init_n l s_edgeCount (-1) q87 q y89 p95) mv_2_37 rfl pd_X1_init ⟨by omega, by omega⟩ ⟨by omega, by omega⟩ rfl (Nat.le_of_ble_eq_true rfl) dX2_addEdge_47 ?_
      rintro _ _ Y99 ⟨rr, rfl, hk100, y101, rrr, rfl⟩
      have y102 := hk100 _ _ y92 (z_ne y92 y89 (fun z => by first | cases z | simp at z))
      have l103 : z_yl ks Y88 Y99 := z_yl_raw y89 (Or.inr (Or.inr (Or.inr rfl))) hk100
      have le104 : z_yl ks Y Y99 := le94.tr l103
      have p105 := l103.2.2.1 _ p95
      have p106 := l103.2.1 _ p96
      have HE107 := z_netE l103 HE97
      have HM108 := z_netM l103 HM98
      have p109 : z_Mv ks Y99 q87 := ⟨_, _, _, none, _, y101, ⟨by omega, by omega, by omega⟩, p105, fun x hx => by cases hx⟩
      refine z_callV C (cm_X2_insert l q87 (by omega) p109 HM108) mv_2_40 (z_atS 1 2 (by decide) rfl rfl rfl) pd_X2_insert ⟨by omega, by omega⟩ ⟨by omega, by omega⟩ rfl (Nat.le_of_ble_eq_true rfl) dX2_addEdge_50 ?_
      rintro _ _ _ ⟨n110, n111, rfl, rfl, h114, q50_0, rfl⟩
      refine z_iconst C dX2_addEdge_53 ?_
      refine z_istoren (L' := [(3, z_v 0), (2, z_v s_edgeCount), (0, .ref (ad 1)), (1, .ref q)]) C dX2_addEdge_54 rfl (by decide) rfl ?_
      have L55 : ∀ (n : Nat), ∀ (i3 : Int) (fs_moveCount : Int) (fg_moves : Nat → Option Nat) (FY : Nat → Option va_E), ((0 ≤ fs_moveCount ∧ fs_moveCount ≤ 400)) → (∀ j : Nat, (j : Int) < fs_moveCount → ∃ q, fg_moves j = some q ∧ z_Mv ks FY q) → (0 ≤ i3 ∧ i3 ≤ s_edgeCount) → (z_yl ks Y FY) → ((s_edgeCount : Int) - i3).toNat < n → z_V p l e R s m args below meth c Q D A 27 ad 4 (z_zc ad ks (s_edgeCount + 1) fs_moveCount s_isNeeded s_timesDone s_size s_isGoing s_allTime s_stepCount s_gapCount (va_up g_edges (s_edgeCount : Int).toNat (some q)) fg_moves g_limits a_sfacts a_sbounds a_facts a_zone a_most a_places a_amounts a_nextPlaces a_nextAmounts a_earliest a_visited a_lastSet a_gapFrom a_gapTo a_gapLeast a_askedPlaces a_askedAmounts) FY (1 + (i3 : Int).toNat) (5 + 5 * (i3 : Int).toNat) 55 [(0, .ref (ad 1)), (1, .ref q), (2, z_v s_edgeCount), (3, z_v i3)] [] := by
        intro n
        induction n with
        | zero => intro i3 fs_moveCount fg_moves FY Hfs_moveCount HMx I3 LE hm; exact absurd hm (Nat.not_lt_zero _)
        | succ n ih55 =>
          intro i3 fs_moveCount fg_moves FY Hfs_moveCount HMx I3 LE hm
          have L_q := LE.2.2.1 _ hq
          have LHE := z_netE LE HEn
          refine z_iloadn C 3 dX2_addEdge_55 rfl rfl ?_
          refine z_iloadn C 2 dX2_addEdge_56 rfl rfl ?_
          refine z_icmp_ge (t := 135) C dX2_addEdge_57 (by decide) (by omega) (by omega) (fun c115 => ?_) (fun c115 => ?_)
          · skip
            refine z_iloadn C 2 dX2_addEdge_135 rfl rfl ?_
            rw [hQ]
            exact z_iret C hrt dX2_addEdge_136 (⟨fs_moveCount, (va_up g_edges (s_edgeCount : Int).toNat (some q)), fg_moves, rfl, LE, by omega, LHE, HMx, _, rfl, by omega⟩) (by omega) (by omega)
          · skip
            refine z_aloadn C 1 dX2_addEdge_60 rfl rfl ?_
            refine z_aloadn C 0 dX2_addEdge_61 rfl rfl ?_
            refine z_get C 1 (by decide) rfl rfl z_it2 0 (by decide) rfl fl_2_11 rfl dX2_addEdge_62 ?_
            refine z_iloadn C 3 dX2_addEdge_65 rfl rfl ?_
            obtain ⟨q116, eq116, hq116⟩ := LHE (i3 : Int).toNat (by omega)
            refine z_aaldS C 2 1 (by decide) rfl rfl (by decide) (by omega) (by omega) eq116 dX2_addEdge_66 ?_
            obtain ⟨md117, fd117, td117, kd117, rd117, gd117, yd117, ad117, bd117⟩ := id L_q
            refine z_callV C (cm_X0_isAnsweredBy l q q116 L_q hq116) mv_2_44 (z_atY 0 yd117 rfl rfl) pd_X0_isAnsweredBy ⟨by omega, by omega⟩ ⟨by omega, by omega⟩ rfl (Nat.le_of_ble_eq_true rfl) dX2_addEdge_67 ?_
            rintro _ _ _ ⟨rfl, rfl, z120, rfl, hz120⟩
            refine z_if_eq (t := 96) C dX2_addEdge_70 (by decide) (by omega) (fun c121 => ?_) (fun c121 => ?_)
            · skip
              refine z_aloadn C 0 dX2_addEdge_96 rfl rfl ?_
              refine z_get C 1 (by decide) rfl rfl z_it2 0 (by decide) rfl fl_2_11 rfl dX2_addEdge_97 ?_
              refine z_iloadn C 3 dX2_addEdge_100 rfl rfl ?_
              obtain ⟨q122, eq122, hq122⟩ := LHE (i3 : Int).toNat (by omega)
              refine z_aaldS C 2 1 (by decide) rfl rfl (by decide) (by omega) (by omega) eq122 dX2_addEdge_101 ?_
              refine z_aloadn C 1 dX2_addEdge_102 rfl rfl ?_
              obtain ⟨md123, fd123, td123, kd123, rd123, gd123, yd123, ad123, bd123⟩ := id hq122
              refine z_callV C (cm_X0_isAnsweredBy l q122 q hq122 L_q) mv_2_44 (z_atY 0 yd123 rfl rfl) pd_X0_isAnsweredBy ⟨by omega, by omega⟩ ⟨by omega, by omega⟩ rfl (Nat.le_of_ble_eq_true rfl) dX2_addEdge_103 ?_
              rintro _ _ _ ⟨rfl, rfl, z126, rfl, hz126⟩
              refine z_if_eq (t := 129) C dX2_addEdge_106 (by decide) (by omega) (fun c127 => ?_) (fun c127 => ?_)
              · skip
                refine z_iinc (L' := [(3, z_v (i3 + 1)), (0, .ref (ad 1)), (1, .ref q), (2, z_v s_edgeCount)]) C 3 dX2_addEdge_129 rfl (by decide) rfl ?_
                refine z_goto (t := 55) C dX2_addEdge_132 (by decide) ?_
                refine z_wide (k := (1 + ((i3 + 1) : Int).toNat)) (n := (5 + 5 * ((i3 + 1) : Int).toNat)) (by omega) (by omega) ?_
                refine z_loc (L' := [(0, .ref (ad 1)), (1, .ref q), (2, z_v s_edgeCount), (3, z_v (i3 + 1))]) [1, 2, 3, 0] rfl ?_
                exact ih55 (i3 + 1) fs_moveCount fg_moves FY (by omega) (by first | exact HMx | exact q90_0 | exact q126_0) (by omega) (LE) (by omega)
              · skip
                refine z_aloadn C 0 dX2_addEdge_109 rfl rfl ?_
                refine z_new3 (r := (RX1, TX1, 5)) (ci := 1) (fs := [z_v 0, z_v 0, .null, .null, z_v 0]) C rfl z_it1 tyX1 tyX1_ok nw_2_17 (fun j hj => match j, hj with | 0, _ => rfl | 1, _ => rfl | 2, _ => rfl | 3, _ => rfl | 4, _ => rfl | n + 5, h => absurd h (by show ¬ (n + 5 < 5); omega)) (by omega) (by show _ + 5 ≤ _; omega) dX2_addEdge_110 (fun q128 Y129 y130 hs131 hf132 => ?_)
                have y133 := hs131 _ _ yd117
                have y134 := hs131 _ _ yd123
                have l135 : z_yl ks FY Y129 := z_yl_sub hs131
                have le136 : z_yl ks Y Y129 := LE.tr l135
                have p137 := l135.2.2.1 _ L_q
                have p138 := l135.2.2.1 _ hq116
                have p139 := l135.2.1 _ bd117
                have p140 := l135.2.2.1 _ hq122
                have p141 := l135.2.1 _ bd123
                have HE142 := z_netE l135 LHE
                have HM143 := z_netM l135 HMx
                refine z_wide (k := ((1 + (i3 : Int).toNat) + 1)) (n := ((5 + 5 * (i3 : Int).toNat) + 5)) (Nat.le_refl _) (Nat.le_refl _) ?_
                refine z_dup C dX2_addEdge_113 rfl ?_
                refine z_iloadn C 3 dX2_addEdge_114 rfl rfl ?_
                refine z_iloadn C 2 dX2_addEdge_115 rfl rfl ?_
                refine z_aloadn C 0 dX2_addEdge_116 rfl rfl ?_
                refine z_get C 1 (by decide) rfl rfl z_it2 0 (by decide) rfl fl_2_11 rfl dX2_addEdge_117 ?_
                refine z_iloadn C 3 dX2_addEdge_120 rfl rfl ?_
                obtain ⟨q144, eq144, hq144⟩ := HE142 (i3 : Int).toNat (by omega)
                refine z_aaldS C 2 1 (by decide) rfl rfl (by decide) (by omega) (by omega) eq144 dX2_addEdge_121 ?_
                refine z_aloadn C 1 dX2_addEdge_122 rfl rfl ?_
                refine z_callI C (cm_X1_init l i3 s_edgeCount q128 q144 q y130 hq144 p137) mv_2_37 rfl pd_X1_init ⟨by omega, by omega⟩ ⟨by omega, by omega⟩ rfl (Nat.le_of_ble_eq_true rfl) dX2_addEdge_123 ?_
                rintro _ _ Y145 ⟨rr, rfl, hk146, y147, rrr, rfl⟩
                have y148 := hk146 _ _ y133 (z_ne y133 y130 (fun z => by first | cases z | simp at z))
                have y149 := hk146 _ _ y134 (z_ne y134 y130 (fun z => by first | cases z | simp at z))
                have l150 : z_yl ks Y129 Y145 := z_yl_raw y130 (Or.inr (Or.inr (Or.inr rfl))) hk146
                have le151 : z_yl ks Y Y145 := le136.tr l150
                have p152 := l150.2.2.1 _ p137
                have p153 := l150.2.2.1 _ p138
                have p154 := l150.2.1 _ p139
                have p155 := l150.2.2.1 _ p140
                have p156 := l150.2.1 _ p141
                have p157 := l150.2.2.1 _ hq144
                have HE158 := z_netE l150 HE142
                have HM159 := z_netM l150 HM143
                have p160 : z_Mv ks Y145 q128 := ⟨_, _, _, some q, _, y147, ⟨by omega, by omega, by omega⟩, p157, fun x hx => by cases hx; exact p152⟩
                refine z_callV C (cm_X2_insert l q128 (by omega) p160 HM159) mv_2_40 (z_atS 1 2 (by decide) rfl rfl rfl) pd_X2_insert ⟨by omega, by omega⟩ ⟨by omega, by omega⟩ rfl (Nat.le_of_ble_eq_true rfl) dX2_addEdge_126 ?_
                rintro _ _ _ ⟨n161, n162, rfl, rfl, h165, q126_0, rfl⟩
                refine z_iinc (L' := [(3, z_v (i3 + 1)), (0, .ref (ad 1)), (1, .ref q), (2, z_v s_edgeCount)]) C 3 dX2_addEdge_129 rfl (by decide) rfl ?_
                refine z_goto (t := 55) C dX2_addEdge_132 (by decide) ?_
                refine z_wide (k := (1 + ((i3 + 1) : Int).toNat)) (n := (5 + 5 * ((i3 + 1) : Int).toNat)) (by omega) (by omega) ?_
                refine z_loc (L' := [(0, .ref (ad 1)), (1, .ref q), (2, z_v s_edgeCount), (3, z_v (i3 + 1))]) [1, 2, 3, 0] rfl ?_
                exact ih55 (i3 + 1) n161 n162 Y145 (by omega) (by first | exact HMx | exact q90_0 | exact q126_0) (by omega) (le151) (by omega)
            · skip
              refine z_aloadn C 0 dX2_addEdge_73 rfl rfl ?_
              refine z_new3 (r := (RX1, TX1, 5)) (ci := 1) (fs := [z_v 0, z_v 0, .null, .null, z_v 0]) C rfl z_it1 tyX1 tyX1_ok nw_2_17 (fun j hj => match j, hj with | 0, _ => rfl | 1, _ => rfl | 2, _ => rfl | 3, _ => rfl | 4, _ => rfl | n + 5, h => absurd h (by show ¬ (n + 5 < 5); omega)) (by omega) (by show _ + 5 ≤ _; omega) dX2_addEdge_74 (fun q166 Y167 y168 hs169 hf170 => ?_)
              have y171 := hs169 _ _ yd117
              have l172 : z_yl ks FY Y167 := z_yl_sub hs169
              have le173 : z_yl ks Y Y167 := LE.tr l172
              have p174 := l172.2.2.1 _ L_q
              have p175 := l172.2.2.1 _ hq116
              have p176 := l172.2.1 _ bd117
              have HE177 := z_netE l172 LHE
              have HM178 := z_netM l172 HMx
              refine z_wide (k := ((1 + (i3 : Int).toNat) + 1)) (n := ((5 + 5 * (i3 : Int).toNat) + 5)) (Nat.le_refl _) (Nat.le_refl _) ?_
              refine z_dup C dX2_addEdge_77 rfl ?_
              refine z_iloadn C 2 dX2_addEdge_78 rfl rfl ?_
              refine z_iloadn C 3 dX2_addEdge_79 rfl rfl ?_
              refine z_aloadn C 1 dX2_addEdge_80 rfl rfl ?_
              refine z_aloadn C 0 dX2_addEdge_81 rfl rfl ?_
              refine z_get C 1 (by decide) rfl rfl z_it2 0 (by decide) rfl fl_2_11 rfl dX2_addEdge_82 ?_
              refine z_iloadn C 3 dX2_addEdge_85 rfl rfl ?_
              obtain ⟨q179, eq179, hq179⟩ := HE177 (i3 : Int).toNat (by omega)
              refine z_aaldS C 2 1 (by decide) rfl rfl (by decide) (by omega) (by omega) eq179 dX2_addEdge_86 ?_
              refine z_callI C (cm_X1_init l s_edgeCount i3 q166 q q179 y168 p174 hq179) mv_2_37 rfl pd_X1_init ⟨by omega, by omega⟩ ⟨by omega, by omega⟩ rfl (Nat.le_of_ble_eq_true rfl) dX2_addEdge_87 ?_
              rintro _ _ Y180 ⟨rr, rfl, hk181, y182, rrr, rfl⟩
              have y183 := hk181 _ _ y171 (z_ne y171 y168 (fun z => by first | cases z | simp at z))
              have l184 : z_yl ks Y167 Y180 := z_yl_raw y168 (Or.inr (Or.inr (Or.inr rfl))) hk181
              have le185 : z_yl ks Y Y180 := le173.tr l184
              have p186 := l184.2.2.1 _ p174
              have p187 := l184.2.2.1 _ p175
              have p188 := l184.2.1 _ p176
              have p189 := l184.2.2.1 _ hq179
              have HE190 := z_netE l184 HE177
              have HM191 := z_netM l184 HM178
              have p192 : z_Mv ks Y180 q166 := ⟨_, _, _, some q179, _, y182, ⟨by omega, by omega, by omega⟩, p186, fun x hx => by cases hx; exact p189⟩
              refine z_callV C (cm_X2_insert l q166 (by omega) p192 HM191) mv_2_40 (z_atS 1 2 (by decide) rfl rfl rfl) pd_X2_insert ⟨by omega, by omega⟩ ⟨by omega, by omega⟩ rfl (Nat.le_of_ble_eq_true rfl) dX2_addEdge_90 ?_
              rintro _ _ _ ⟨n193, n194, rfl, rfl, h197, q90_0, rfl⟩
              refine z_goto (t := 129) C dX2_addEdge_93 (by decide) ?_
              refine z_iinc (L' := [(3, z_v (i3 + 1)), (0, .ref (ad 1)), (1, .ref q), (2, z_v s_edgeCount)]) C 3 dX2_addEdge_129 rfl (by decide) rfl ?_
              refine z_goto (t := 55) C dX2_addEdge_132 (by decide) ?_
              refine z_wide (k := (1 + ((i3 + 1) : Int).toNat)) (n := (5 + 5 * ((i3 + 1) : Int).toNat)) (by omega) (by omega) ?_
              refine z_loc (L' := [(0, .ref (ad 1)), (1, .ref q), (2, z_v s_edgeCount), (3, z_v (i3 + 1))]) [1, 2, 3, 0] rfl ?_
              exact ih55 (i3 + 1) n193 n194 Y180 (by omega) (by first | exact HMx | exact q90_0 | exact q126_0) (by omega) (le185) (by omega)
      refine z_wide (k := (1 + (0 : Int).toNat)) (n := (5 + 5 * (0 : Int).toNat)) (by omega) (by omega) ?_
      refine z_loc (L' := [(0, .ref (ad 1)), (1, .ref q), (2, z_v s_edgeCount), (3, z_v 0)]) [2, 3, 1, 0] rfl ?_
      exact (L55 (((s_edgeCount : Int) - 0).toNat + 1)) 0 n110 n111 Y99 (by omega) (by first | exact q50_0 | exact HM) (by omega) (le104) (Nat.lt_succ_self _)
  · skip
    omega
set_option maxRecDepth 20000 in
theorem cm_X10_edge (l : Launch) {D : va_G} {A : Nat → Prop} {ad : Nat → Nat} {ks : z_Ks} {s_edgeCount s_moveCount s_isNeeded s_timesDone s_size s_isGoing s_allTime s_stepCount s_gapCount : Int} {g_edges g_moves g_limits : Nat → Option Nat} {a_sfacts a_sbounds a_facts a_zone a_most a_places a_amounts a_nextPlaces a_nextAmounts a_earliest a_visited a_lastSet a_gapFrom a_gapTo a_gapLeast a_askedPlaces a_askedAmounts : Nat → Int} {Y : Nat → Option va_E} (m0 p0 q0 b0 s0 : Int) (Hs_edgeCount : (0 ≤ s_edgeCount ∧ s_edgeCount ≤ 20)) (Hs_moveCount : (0 ≤ s_moveCount ∧ s_moveCount ≤ 400)) (Hs_isNeeded : (s_isNeeded = 0 ∨ s_isNeeded = 1)) (Hs_isGoing : (s_isGoing = 0 ∨ s_isGoing = 1)) (h0 : z_rg m0) (h1 : z_rg p0) (h2 : z_rg q0) (h3 : z_rg b0) (h4 : z_rg s0) (HE : ∀ j : Nat, (j : Int) < s_edgeCount → ∃ q, g_edges j = some q ∧ z_E ks Y q) (HM : ∀ j : Nat, (j : Int) < s_moveCount → ∃ q, g_moves j = some q ∧ z_Mv ks Y q) : z_Met l yX10_edge cX10_edge 6 (some .int) 3 67 24 115 D A 27 ad ks [.ref (ad 0), z_v m0, z_v p0, z_v q0, z_v b0, z_v s0] (z_zc ad ks s_edgeCount s_moveCount s_isNeeded s_timesDone s_size s_isGoing s_allTime s_stepCount s_gapCount g_edges g_moves g_limits a_sfacts a_sbounds a_facts a_zone a_most a_places a_amounts a_nextPlaces a_nextAmounts a_earliest a_visited a_lastSet a_gapFrom a_gapTo a_gapLeast a_askedPlaces a_askedAmounts) Y (fun r S' Y' => ∃ ns_edgeCount : Int, ∃ ns_moveCount : Int, ∃ ns_isNeeded : Int, ∃ ns_isGoing : Int, ∃ ng_edges : Nat → Option Nat, ∃ ng_moves : Nat → Option Nat, S' = (z_zc ad ks ns_edgeCount ns_moveCount ns_isNeeded s_timesDone s_size ns_isGoing s_allTime s_stepCount s_gapCount ng_edges ng_moves g_limits a_sfacts a_sbounds a_facts a_zone a_most a_places a_amounts a_nextPlaces a_nextAmounts a_earliest a_visited a_lastSet a_gapFrom a_gapTo a_gapLeast a_askedPlaces a_askedAmounts) ∧ z_yl ks Y Y' ∧ (0 ≤ ns_edgeCount ∧ ns_edgeCount ≤ 20) ∧ (0 ≤ ns_moveCount ∧ ns_moveCount ≤ 400) ∧ (ns_isNeeded = 0 ∨ ns_isNeeded = 1) ∧ (ns_isGoing = 0 ∨ ns_isGoing = 1) ∧ ns_edgeCount = z_edgeN m0 p0 q0 b0 s0 s_edgeCount ∧ (∀ j : Nat, (j : Int) < ns_edgeCount → ∃ x, ng_edges j = some x ∧ z_E ks Y' x) ∧ (∀ j : Nat, (j : Int) < ns_moveCount → ∃ x, ng_moves j = some x ∧ z_Mv ks Y' x) ∧ ∃ z : Int, r = some (z_v z) ∧ (z = z_edgeR m0 p0 q0 b0 s0 s_edgeCount)) := by
  refine z_start2 (by decide) (Nat.le_of_ble_eq_true rfl) ?_
  intro p e R s m args below meth c Q C hRf hRc hRs hRl hQ hrt hnm
  refine z_loc (L' := [(0, .ref (ad 0)), (1, z_v m0), (2, z_v p0), (3, z_v q0), (4, z_v b0), (5, z_v s0)]) [0, 1, 2, 3, 4, 5] rfl ?_
  refine z_iloadn C 1 dX10_edge_0 rfl rfl ?_
  refine z_callS C (cm_X10_isMachine l m0 (by omega)) mv_10_44 pd_X10_isMachine ⟨by omega, by omega⟩ ⟨by omega, by omega⟩ rfl (Nat.le_of_ble_eq_true rfl) dX10_edge_1 ?_
  rintro _ _ _ ⟨rfl, rfl, z3, rfl, hz3⟩
  refine z_if_eq (t := 21) C dX10_edge_4 (by decide) (by omega) (fun c4 => ?_) (fun c4 => ?_)
  · skip
    refine z_bipush C dX10_edge_21 (by decide) ?_
    rw [hQ]
    exact z_iret C hrt dX10_edge_23 (⟨s_edgeCount, s_moveCount, s_isNeeded, s_isGoing, g_edges, g_moves, rfl, z_yl.rf, by omega, by omega, by omega, by omega, by unfold z_edgeN z_eBad; split <;> (try split) <;> (try split) <;> omega, by first | exact HE | exact q85_0, by first | exact HM | exact q85_1, _, rfl, by unfold z_edgeR z_eBad; split <;> (try split) <;> (try split) <;> omega⟩) (by omega) (by omega)
  · skip
    refine z_iloadn C 2 dX10_edge_7 rfl rfl ?_
    refine z_callS C (cm_X10_isPlace l p0 (by omega)) mv_10_48 pd_X10_isPlace ⟨by omega, by omega⟩ ⟨by omega, by omega⟩ rfl (Nat.le_of_ble_eq_true rfl) dX10_edge_8 ?_
    rintro _ _ _ ⟨rfl, rfl, z7, rfl, hz7⟩
    refine z_if_eq (t := 21) C dX10_edge_11 (by decide) (by omega) (fun c8 => ?_) (fun c8 => ?_)
    · skip
      refine z_bipush C dX10_edge_21 (by decide) ?_
      rw [hQ]
      exact z_iret C hrt dX10_edge_23 (⟨s_edgeCount, s_moveCount, s_isNeeded, s_isGoing, g_edges, g_moves, rfl, z_yl.rf, by omega, by omega, by omega, by omega, by unfold z_edgeN z_eBad; split <;> (try split) <;> (try split) <;> omega, by first | exact HE | exact q85_0, by first | exact HM | exact q85_1, _, rfl, by unfold z_edgeR z_eBad; split <;> (try split) <;> (try split) <;> omega⟩) (by omega) (by omega)
    · skip
      refine z_iloadn C 3 dX10_edge_14 rfl rfl ?_
      refine z_callS C (cm_X10_isPlace l q0 (by omega)) mv_10_48 pd_X10_isPlace ⟨by omega, by omega⟩ ⟨by omega, by omega⟩ rfl (Nat.le_of_ble_eq_true rfl) dX10_edge_15 ?_
      rintro _ _ _ ⟨rfl, rfl, z11, rfl, hz11⟩
      refine z_if_ne (t := 24) C dX10_edge_18 (by decide) (by omega) (fun c12 => ?_) (fun c12 => ?_)
      · skip
        refine z_iload C 4 dX10_edge_24 rfl ?_
        refine z_bipush C dX10_edge_26 (by decide) ?_
        refine z_icmp_lt (t := 45) C dX10_edge_28 (by decide) (by omega) (by omega) (fun c13 => ?_) (fun c13 => ?_)
        · skip
          refine z_bipush C dX10_edge_45 (by decide) ?_
          rw [hQ]
          exact z_iret C hrt dX10_edge_47 (⟨s_edgeCount, s_moveCount, s_isNeeded, s_isGoing, g_edges, g_moves, rfl, z_yl.rf, by omega, by omega, by omega, by omega, by unfold z_edgeN z_eBad; split <;> (try split) <;> (try split) <;> omega, by first | exact HE | exact q85_0, by first | exact HM | exact q85_1, _, rfl, by unfold z_edgeR z_eBad; split <;> (try split) <;> (try split) <;> omega⟩) (by omega) (by omega)
        · skip
          refine z_iload C 4 dX10_edge_31 rfl ?_
          refine z_iconst C dX10_edge_33 ?_
          refine z_icmp_gt (t := 45) C dX10_edge_34 (by decide) (by omega) (by omega) (fun c14 => ?_) (fun c14 => ?_)
          · skip
            refine z_bipush C dX10_edge_45 (by decide) ?_
            rw [hQ]
            exact z_iret C hrt dX10_edge_47 (⟨s_edgeCount, s_moveCount, s_isNeeded, s_isGoing, g_edges, g_moves, rfl, z_yl.rf, by omega, by omega, by omega, by omega, by unfold z_edgeN z_eBad; split <;> (try split) <;> (try split) <;> omega, by first | exact HE | exact q85_0, by first | exact HM | exact q85_1, _, rfl, by unfold z_edgeR z_eBad; split <;> (try split) <;> (try split) <;> omega⟩) (by omega) (by omega)
          · skip
            refine z_iload C 5 dX10_edge_37 rfl ?_
            refine z_bipush C dX10_edge_39 (by decide) ?_
            obtain ⟨b15, hb15, rb15⟩ := z_bits (z_i s0 &&& z_i (-15))
            refine z_iand C hb15 dX10_edge_41 ?_
            have qb15 := z_bitsE hb15 rb15
            refine z_if_eq (t := 48) C dX10_edge_42 (by decide) (by omega) (fun c16 => ?_) (fun c16 => ?_)
            · skip
              refine z_aloadn C 0 dX10_edge_48 rfl rfl ?_
              refine z_get C 0 (by decide) rfl rfl z_it10 0 (by decide) rfl fl_10_12 rfl dX10_edge_49 ?_
              refine z_get C 1 (by decide) rfl rfl z_it2 1 (by decide) rfl fl_10_51 rfl dX10_edge_52 ?_
              refine z_bipush C dX10_edge_55 (by decide) ?_
              refine z_icmp_lt (t := 63) C dX10_edge_57 (by decide) (by omega) (by omega) (fun c17 => ?_) (fun c17 => ?_)
              · skip
                refine z_aloadn C 0 dX10_edge_63 rfl rfl ?_
                refine z_callV C (cm_X10_forgetFindings l ) mv_10_55 (z_atS 0 10 (by decide) rfl rfl rfl) pd_X10_forgetFindings ⟨by omega, by omega⟩ ⟨by omega, by omega⟩ rfl (Nat.le_of_ble_eq_true rfl) dX10_edge_64 ?_
                rintro _ _ _ ⟨rfl, rfl, rfl⟩
                refine z_aloadn C 0 dX10_edge_67 rfl rfl ?_
                refine z_get C 0 (by decide) rfl rfl z_it10 0 (by decide) rfl fl_10_12 rfl dX10_edge_68 ?_
                refine z_new3 (r := (RX0, TX0, 6)) (ci := 0) (fs := [z_v 0, z_v 0, z_v 0, z_v 0, z_v 0, .null]) C rfl z_it0 tyX0 tyX0_ok nw_10_58 (fun j hj => match j, hj with | 0, _ => rfl | 1, _ => rfl | 2, _ => rfl | 3, _ => rfl | 4, _ => rfl | 5, _ => rfl | n + 6, h => absurd h (by show ¬ (n + 6 < 6); omega)) (by omega) (by show _ + 6 ≤ _; omega) dX10_edge_71 (fun q20 Y21 y22 hs23 hf24 => ?_)
                have l25 : z_yl ks Y Y21 := z_yl_sub hs23
                have le26 : z_yl ks Y Y21 := l25
                have HE27 := z_netE l25 HE
                have HM28 := z_netM l25 HM
                refine z_wide (k := 1) (n := 6) (Nat.le_refl _) (Nat.le_refl _) ?_
                refine z_dup C dX10_edge_74 rfl ?_
                refine z_iloadn C 1 dX10_edge_75 rfl rfl ?_
                refine z_iloadn C 2 dX10_edge_76 rfl rfl ?_
                refine z_iloadn C 3 dX10_edge_77 rfl rfl ?_
                refine z_iload C 4 dX10_edge_78 rfl ?_
                refine z_iload C 5 dX10_edge_80 rfl ?_
                refine z_callI C (cm_X0_init l m0 p0 q0 b0 s0 q20 y22) mv_10_60 rfl pd_X0_init ⟨by omega, by omega⟩ ⟨by omega, by omega⟩ rfl (Nat.le_of_ble_eq_true rfl) dX10_edge_82 ?_
                rintro _ _ Y29 ⟨gg, rfl, hk30, y31, hgg, rfl⟩
                have l32 : z_yl ks Y21 Y29 := z_yl_raw y22 (Or.inr (Or.inr (Or.inl rfl))) hk30
                have le33 : z_yl ks Y Y29 := le26.tr l32
                have HE34 := z_netE l32 HE27
                have HM35 := z_netM l32 HM28
                refine z_wide (k := 3) (n := 10) (Nat.le_refl _) (Nat.le_refl _) ?_
                have p36 : z_E ks Y29 q20 := ⟨_, _, _, _, _, _, y31, ⟨by omega, by omega, by omega, by omega, by omega, by omega, by omega, by omega, by omega⟩, hgg⟩
                refine z_callV C (cm_X2_addEdge l q20 (by omega) (by omega) p36 (by omega) HE34 HM35) mv_10_63 (z_atS 1 2 (by decide) rfl rfl rfl) pd_X2_addEdge ⟨by omega, by omega⟩ ⟨by omega, by omega⟩ rfl (Nat.le_of_ble_eq_true rfl) dX10_edge_85 ?_
                rintro _ _ Y40 ⟨n37, n38, n39, rfl, le41, h42, q85_0, q85_1, z43, rfl, hz43⟩
                have le44 : z_yl ks Y Y40 := le33.tr le41
                have p45 := le41.2.1 _ hgg
                have p46 := le41.2.2.1 _ p36
                have HE47 := z_netE le41 HE34
                have HM48 := z_netM le41 HM35
                refine z_wide (k := 24) (n := 115) (Nat.le_refl _) (Nat.le_refl _) ?_
                rw [hQ]
                exact z_iret C hrt dX10_edge_88 (⟨(s_edgeCount + 1), n37, 1, 0, n38, n39, rfl, le44, by omega, by omega, by omega, by omega, by unfold z_edgeN z_eBad; split <;> (try split) <;> (try split) <;> omega, by first | exact HE | exact q85_0, by first | exact HM | exact q85_1, _, rfl, by unfold z_edgeR z_eBad; split <;> (try split) <;> (try split) <;> omega⟩) (by omega) (by omega)
              · skip
                refine z_bipush C dX10_edge_60 (by decide) ?_
                rw [hQ]
                exact z_iret C hrt dX10_edge_62 (⟨s_edgeCount, s_moveCount, s_isNeeded, s_isGoing, g_edges, g_moves, rfl, z_yl.rf, by omega, by omega, by omega, by omega, by unfold z_edgeN z_eBad; split <;> (try split) <;> (try split) <;> omega, by first | exact HE | exact q85_0, by first | exact HM | exact q85_1, _, rfl, by unfold z_edgeR z_eBad; split <;> (try split) <;> (try split) <;> omega⟩) (by omega) (by omega)
            · skip
              refine z_bipush C dX10_edge_45 (by decide) ?_
              rw [hQ]
              exact z_iret C hrt dX10_edge_47 (⟨s_edgeCount, s_moveCount, s_isNeeded, s_isGoing, g_edges, g_moves, rfl, z_yl.rf, by omega, by omega, by omega, by omega, by unfold z_edgeN z_eBad; split <;> (try split) <;> (try split) <;> omega, by first | exact HE | exact q85_0, by first | exact HM | exact q85_1, _, rfl, by unfold z_edgeR z_eBad; split <;> (try split) <;> (try split) <;> omega⟩) (by omega) (by omega)
      · skip
        refine z_bipush C dX10_edge_21 (by decide) ?_
        rw [hQ]
        exact z_iret C hrt dX10_edge_23 (⟨s_edgeCount, s_moveCount, s_isNeeded, s_isGoing, g_edges, g_moves, rfl, z_yl.rf, by omega, by omega, by omega, by omega, by unfold z_edgeN z_eBad; split <;> (try split) <;> (try split) <;> omega, by first | exact HE | exact q85_0, by first | exact HM | exact q85_1, _, rfl, by unfold z_edgeR z_eBad; split <;> (try split) <;> (try split) <;> omega⟩) (by omega) (by omega)
