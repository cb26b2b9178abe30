theorem z_gb {n i : Int} {f g : Nat → Int} (h : g 3 = i ∧ g 6 = f (i * 7 + 6 : Int).toNat + 1) (h1 : i < n) (h0 : 0 ≤ i) : 0 ≤ g 3 ∧ g 3 < n ∧ f (7 * (g 3).toNat + 6) = g 6 - 1 := by
  obtain ⟨e1, e2⟩ := h
  rw [e1]
  rw [show (i * 7 + 6 : Int).toNat = 7 * i.toNat + 6 by omega] at e2
  exact ⟨h0, h1, by omega⟩
theorem z_cc_vi {n i k v : Int} {f : Nat → Int} (h : z_cc n f) (hi : 0 ≤ i ∧ i < n) (hk : k ≤ f (i * 7 + 6 : Int).toNat) (h0 : 0 < k) (hv : v = f (i * 7 + 3 : Int).toNat) : (0 ≤ v ∧ v < n) ∧ k + (-1) ≤ f (v * 7 + 6 : Int).toNat := by
  have h1 := z_cc_at (k := f (i * 7 + 6 : Int).toNat - 1) h hi (by omega) (by omega) hv
  exact ⟨h1.1, by omega⟩
set_option maxRecDepth 20000 in
theorem cm_X7_addGap (l : Launch) {D : va_G} {A : Nat → Prop} {ad : Nat → Nat} {ks : z_Ks} {s_edgeCount s_moveCount s_isNeeded s_timesDone s_size s_isGoing s_allTime s_stepCount s_gapCount : Int} {g_edges g_moves g_limits : Nat → Option Nat} {a_sfacts a_sbounds a_facts a_zone a_most a_places a_amounts a_nextPlaces a_nextAmounts a_earliest a_visited a_lastSet a_gapFrom a_gapTo a_gapLeast a_askedPlaces a_askedAmounts : Nat → Int} {Y : Nat → Option va_E} (f0 t0 l0 : Int) (Hs_gapCount : (0 ≤ s_gapCount ∧ s_gapCount ≤ 615)) (Ha_gapFrom : (∀ j, 0 ≤ a_gapFrom j ∧ a_gapFrom j ≤ 40)) (Ha_gapTo : (∀ j, 0 ≤ a_gapTo j ∧ a_gapTo j ≤ 40)) (Ha_gapLeast : (∀ j, z_rg (a_gapLeast j))) (hf : 0 ≤ f0 ∧ f0 ≤ 40) (ht : 0 ≤ t0 ∧ t0 ≤ 40) (hl : z_rg l0) : z_Met l yX7_addGap cX7_addGap 4 none 0 0 0 0 D A 27 ad ks [.ref (ad 18), z_v f0, z_v t0, z_v l0] (z_zc ad ks s_edgeCount s_moveCount s_isNeeded s_timesDone s_size s_isGoing s_allTime s_stepCount s_gapCount g_edges g_moves g_limits a_sfacts a_sbounds a_facts a_zone a_most a_places a_amounts a_nextPlaces a_nextAmounts a_earliest a_visited a_lastSet a_gapFrom a_gapTo a_gapLeast a_askedPlaces a_askedAmounts) Y (fun r S' Y' => ∃ ns_gapCount : Int, ∃ na_gapFrom : Nat → Int, ∃ na_gapTo : Nat → Int, ∃ na_gapLeast : Nat → Int, S' = (z_zc ad ks s_edgeCount s_moveCount s_isNeeded s_timesDone s_size s_isGoing s_allTime s_stepCount ns_gapCount g_edges g_moves g_limits a_sfacts a_sbounds a_facts a_zone a_most a_places a_amounts a_nextPlaces a_nextAmounts a_earliest a_visited a_lastSet na_gapFrom na_gapTo na_gapLeast a_askedPlaces a_askedAmounts) ∧ Y = Y' ∧ (0 ≤ ns_gapCount ∧ ns_gapCount ≤ 615) ∧ (∀ j, 0 ≤ na_gapFrom j ∧ na_gapFrom j ≤ 40) ∧ (∀ j, 0 ≤ na_gapTo j ∧ na_gapTo j ≤ 40) ∧ (∀ j, z_rg (na_gapLeast j)) ∧ r = none) := by
  refine z_start2 (by decide) (Nat.le_of_ble_eq_true rfl) ?_
  intro p e R s m args below meth c Q C hRf hRc hRs hRl hQ hrt hnm
  refine z_loc (L' := [(0, .ref (ad 18)), (1, z_v f0), (2, z_v t0), (3, z_v l0)]) [0, 1, 2, 3] rfl ?_
  refine z_aloadn C 0 dX7_addGap_0 rfl rfl ?_
  refine z_get C 18 (by decide) rfl rfl z_it7 6 (by decide) rfl fl_7_45 rfl dX7_addGap_1 ?_
  refine z_sipush C dX7_addGap_4 (by decide) ?_
  refine z_icmp_ge (t := 50) C dX7_addGap_7 (by decide) (by omega) (by omega) (fun c1 => ?_) (fun c1 => ?_)
  · skip
    rw [hQ]
    exact z_vret C hrt dX7_addGap_50 (⟨s_gapCount, a_gapFrom, a_gapTo, a_gapLeast, rfl, rfl, by omega, Ha_gapFrom, Ha_gapTo, Ha_gapLeast, rfl⟩) (by omega) (by omega)
  · skip
    refine z_aloadn C 0 dX7_addGap_10 rfl rfl ?_
    refine z_get C 18 (by decide) rfl rfl z_it7 3 (by decide) rfl fl_7_21 rfl dX7_addGap_11 ?_
    refine z_aloadn C 0 dX7_addGap_14 rfl rfl ?_
    refine z_get C 18 (by decide) rfl rfl z_it7 6 (by decide) rfl fl_7_45 rfl dX7_addGap_15 ?_
    refine z_iloadn C 1 dX7_addGap_18 rfl rfl ?_
    refine z_iast C 22 (by decide) rfl (by decide) (by omega) (by omega) dX7_addGap_19 ?_
    refine z_ext (S' := (z_zc ad ks s_edgeCount s_moveCount s_isNeeded s_timesDone s_size s_isGoing s_allTime s_stepCount s_gapCount g_edges g_moves g_limits a_sfacts a_sbounds a_facts a_zone a_most a_places a_amounts a_nextPlaces a_nextAmounts a_earliest a_visited a_lastSet (va_up a_gapFrom (s_gapCount : Int).toNat f0) a_gapTo a_gapLeast a_askedPlaces a_askedAmounts)) upC_a_gapFrom ?_
    have h2 : ∀ j, 0 ≤ (va_up a_gapFrom (s_gapCount : Int).toNat f0) j ∧ (va_up a_gapFrom (s_gapCount : Int).toNat f0) j ≤ 40 := z_upP (P := fun j v => 0 ≤ v ∧ v ≤ 40) Ha_gapFrom (by omega)
    generalize (va_up a_gapFrom (s_gapCount : Int).toNat f0) = f3 at h2 ⊢
    refine z_aloadn C 0 dX7_addGap_20 rfl rfl ?_
    refine z_get C 18 (by decide) rfl rfl z_it7 4 (by decide) rfl fl_7_24 rfl dX7_addGap_21 ?_
    refine z_aloadn C 0 dX7_addGap_24 rfl rfl ?_
    refine z_get C 18 (by decide) rfl rfl z_it7 6 (by decide) rfl fl_7_45 rfl dX7_addGap_25 ?_
    refine z_iloadn C 2 dX7_addGap_28 rfl rfl ?_
    refine z_iast C 23 (by decide) rfl (by decide) (by omega) (by omega) dX7_addGap_29 ?_
    refine z_ext (S' := (z_zc ad ks s_edgeCount s_moveCount s_isNeeded s_timesDone s_size s_isGoing s_allTime s_stepCount s_gapCount g_edges g_moves g_limits a_sfacts a_sbounds a_facts a_zone a_most a_places a_amounts a_nextPlaces a_nextAmounts a_earliest a_visited a_lastSet f3 (va_up a_gapTo (s_gapCount : Int).toNat t0) a_gapLeast a_askedPlaces a_askedAmounts)) upC_a_gapTo ?_
    have h4 : ∀ j, 0 ≤ (va_up a_gapTo (s_gapCount : Int).toNat t0) j ∧ (va_up a_gapTo (s_gapCount : Int).toNat t0) j ≤ 40 := z_upP (P := fun j v => 0 ≤ v ∧ v ≤ 40) Ha_gapTo (by omega)
    generalize (va_up a_gapTo (s_gapCount : Int).toNat t0) = f5 at h4 ⊢
    refine z_aloadn C 0 dX7_addGap_30 rfl rfl ?_
    refine z_get C 18 (by decide) rfl rfl z_it7 5 (by decide) rfl fl_7_27 rfl dX7_addGap_31 ?_
    refine z_aloadn C 0 dX7_addGap_34 rfl rfl ?_
    refine z_get C 18 (by decide) rfl rfl z_it7 6 (by decide) rfl fl_7_45 rfl dX7_addGap_35 ?_
    refine z_iloadn C 3 dX7_addGap_38 rfl rfl ?_
    refine z_iast C 24 (by decide) rfl (by decide) (by omega) (by omega) dX7_addGap_39 ?_
    refine z_ext (S' := (z_zc ad ks s_edgeCount s_moveCount s_isNeeded s_timesDone s_size s_isGoing s_allTime s_stepCount s_gapCount g_edges g_moves g_limits a_sfacts a_sbounds a_facts a_zone a_most a_places a_amounts a_nextPlaces a_nextAmounts a_earliest a_visited a_lastSet f3 f5 (va_up a_gapLeast (s_gapCount : Int).toNat l0) a_askedPlaces a_askedAmounts)) upC_a_gapLeast ?_
    have h6 : ∀ j, z_rg ((va_up a_gapLeast (s_gapCount : Int).toNat l0) j) := z_upP (P := fun j v => z_rg (v)) Ha_gapLeast (by omega)
    generalize (va_up a_gapLeast (s_gapCount : Int).toNat l0) = f7 at h6 ⊢
    refine z_aloadn C 0 dX7_addGap_40 rfl rfl ?_
    refine z_dup C dX7_addGap_41 rfl ?_
    refine z_get C 18 (by decide) rfl rfl z_it7 6 (by decide) rfl fl_7_45 rfl dX7_addGap_42 ?_
    refine z_iconst C dX7_addGap_45 ?_
    refine z_iadd C dX7_addGap_46 ?_
    refine z_put C 18 (by decide) rfl rfl z_it7 tyX7 tyX7_ok nmX7 6 (by decide) rfl (Or.inl rfl) fl_7_45 z_pfI rfl rfl (Nat.le_of_ble_eq_true rfl) dX7_addGap_47 ?_
    refine z_ext (S' := (z_zc ad ks s_edgeCount s_moveCount s_isNeeded s_timesDone s_size s_isGoing s_allTime s_stepCount (s_gapCount + 1) g_edges g_moves g_limits a_sfacts a_sbounds a_facts a_zone a_most a_places a_amounts a_nextPlaces a_nextAmounts a_earliest a_visited a_lastSet f3 f5 f7 a_askedPlaces a_askedAmounts)) upC_s_gapCount ?_
    rw [hQ]
    exact z_vret C hrt dX7_addGap_50 (⟨(s_gapCount + 1), f3, f5, f7, rfl, rfl, by omega, h2, h4, h6, rfl⟩) (by omega) (by omega)
set_option maxRecDepth 20000 in
theorem cm_X7_addTests (l : Launch) {D : va_G} {A : Nat → Prop} {ad : Nat → Nat} {ks : z_Ks} {s_edgeCount s_moveCount s_isNeeded s_timesDone s_size s_isGoing s_allTime s_stepCount s_gapCount : Int} {g_edges g_moves g_limits : Nat → Option Nat} {a_sfacts a_sbounds a_facts a_zone a_most a_places a_amounts a_nextPlaces a_nextAmounts a_earliest a_visited a_lastSet a_gapFrom a_gapTo a_gapLeast a_askedPlaces a_askedAmounts : Nat → Int} {Y : Nat → Option va_E} (k0 : Int) (q : Nat) (Hs_gapCount : (0 ≤ s_gapCount ∧ s_gapCount ≤ 615)) (Ha_gapFrom : (∀ j, 0 ≤ a_gapFrom j ∧ a_gapFrom j ≤ 40)) (Ha_gapTo : (∀ j, 0 ≤ a_gapTo j ∧ a_gapTo j ≤ 40)) (Ha_gapLeast : (∀ j, z_rg (a_gapLeast j))) (Ha_lastSet : (∀ j, 0 ≤ a_lastSet j ∧ a_lastSet j ≤ 40)) (hq : z_TL ks Y q) (hk : 0 ≤ k0 ∧ k0 ≤ 40) : z_Met l yX7_addTests cX7_addTests 6 none 1 23 0 0 D A 27 ad ks [.ref (ad 18), .ref q, z_v k0] (z_zc ad ks s_edgeCount s_moveCount s_isNeeded s_timesDone s_size s_isGoing s_allTime s_stepCount s_gapCount g_edges g_moves g_limits a_sfacts a_sbounds a_facts a_zone a_most a_places a_amounts a_nextPlaces a_nextAmounts a_earliest a_visited a_lastSet a_gapFrom a_gapTo a_gapLeast a_askedPlaces a_askedAmounts) Y (fun r S' Y' => ∃ ns_gapCount : Int, ∃ na_gapFrom : Nat → Int, ∃ na_gapTo : Nat → Int, ∃ na_gapLeast : Nat → Int, S' = (z_zc ad ks s_edgeCount s_moveCount s_isNeeded s_timesDone s_size s_isGoing s_allTime s_stepCount ns_gapCount g_edges g_moves g_limits a_sfacts a_sbounds a_facts a_zone a_most a_places a_amounts a_nextPlaces a_nextAmounts a_earliest a_visited a_lastSet na_gapFrom na_gapTo na_gapLeast a_askedPlaces a_askedAmounts) ∧ Y = Y' ∧ (0 ≤ ns_gapCount ∧ ns_gapCount ≤ 615) ∧ (∀ j, 0 ≤ na_gapFrom j ∧ na_gapFrom j ≤ 40) ∧ (∀ j, 0 ≤ na_gapTo j ∧ na_gapTo j ≤ 40) ∧ (∀ j, z_rg (na_gapLeast j)) ∧ r = none) := by
  refine z_start2 (by decide) (Nat.le_of_ble_eq_true rfl) ?_
  intro p e R s m args below meth c Q C hRf hRc hRs hRl hQ hrt hnm
  refine z_loc (L' := [(0, .ref (ad 18)), (1, .ref q), (2, z_v k0)]) [0, 1, 2] rfl ?_
  refine z_iconst C dX7_addTests_0 ?_
  refine z_istoren (L' := [(3, z_v 0), (0, .ref (ad 18)), (1, .ref q), (2, z_v k0)]) C dX7_addTests_1 rfl (by decide) rfl ?_
  have L2 : ∀ (n : Nat), ∀ (i3 : Int) (fs_gapCount : Int) (fa_gapFrom : Nat → Int) (fa_gapTo : Nat → Int) (fa_gapLeast : Nat → Int), ((0 ≤ fs_gapCount ∧ fs_gapCount ≤ 615)) → ((∀ j, 0 ≤ fa_gapFrom j ∧ fa_gapFrom j ≤ 40)) → ((∀ j, 0 ≤ fa_gapTo j ∧ fa_gapTo j ≤ 40)) → ((∀ j, z_rg (fa_gapLeast j))) → (0 ≤ i3 ∧ i3 ≤ 2) → ((2 : Int) - i3).toNat < n → z_V p l e R s m args below meth c Q D A 27 ad 6 (z_zc ad ks s_edgeCount s_moveCount s_isNeeded s_timesDone s_size s_isGoing s_allTime s_stepCount fs_gapCount g_edges g_moves g_limits a_sfacts a_sbounds a_facts a_zone a_most a_places a_amounts a_nextPlaces a_nextAmounts a_earliest a_visited a_lastSet fa_gapFrom fa_gapTo fa_gapLeast a_askedPlaces a_askedAmounts) Y 0 0 2 [(0, .ref (ad 18)), (1, .ref q), (2, z_v k0), (3, z_v i3)] [] := by
    intro n
    induction n with
    | zero => intro i3 fs_gapCount fa_gapFrom fa_gapTo fa_gapLeast Hfs_gapCount Hfa_gapFrom Hfa_gapTo Hfa_gapLeast I3 hm; exact absurd hm (Nat.not_lt_zero _)
    | succ n ih2 =>
      intro i3 fs_gapCount fa_gapFrom fa_gapTo fa_gapLeast Hfs_gapCount Hfa_gapFrom Hfa_gapTo Hfa_gapLeast I3 hm
      refine z_iloadn C 3 dX7_addTests_2 rfl rfl ?_
      refine z_aloadn C 1 dX7_addTests_3 rfl rfl ?_
      obtain ⟨td1, nd1, gd1, yd1, wd1, ad1, bd1⟩ := id hq
      refine z_getY C yd1 rfl z_it6 1 (by decide) rfl fl_7_103 rfl dX7_addTests_4 ?_
      refine z_icmp_ge (t := 77) C dX7_addTests_7 (by decide) (by omega) (by omega) (fun c2 => ?_) (fun c2 => ?_)
      · skip
        rw [hQ]
        exact z_vret C hrt dX7_addTests_77 (⟨fs_gapCount, fa_gapFrom, fa_gapTo, fa_gapLeast, rfl, rfl, by omega, Hfa_gapFrom, Hfa_gapTo, Hfa_gapLeast, rfl⟩) (by omega) (by omega)
      · skip
        refine z_aloadn C 1 dX7_addTests_10 rfl rfl ?_
        refine z_getY C yd1 rfl z_it6 0 (by decide) rfl fl_7_108 rfl dX7_addTests_11 ?_
        refine z_iloadn C 3 dX7_addTests_14 rfl rfl ?_
        obtain ⟨q3, eq3, hq3⟩ := bd1 (i3 : Int).toNat (by omega)
        refine z_aaldT C 4 wd1 rfl (by decide) (by omega) (by omega) eq3 dX7_addTests_15 ?_
        refine z_astore (L' := [(4, .ref q3), (0, .ref (ad 18)), (1, .ref q), (2, z_v k0), (3, z_v i3)]) C dX7_addTests_16 (by decide) rfl ?_
        refine z_aloadn C 1 dX7_addTests_18 rfl rfl ?_
        refine z_get C 18 (by decide) rfl rfl z_it7 2 (by decide) rfl fl_7_18 rfl dX7_addTests_19 ?_
        refine z_aload C 0 dX7_addTests_22 rfl ?_
        obtain ⟨cd4, sd4, nd4, yd4, ad4⟩ := id hq3
        refine z_getY C yd4 rfl z_it5 0 (by decide) rfl fl_7_112 rfl dX7_addTests_24 ?_
        refine z_iald C 21 (by decide) rfl (by decide) (by omega) (by omega) dX7_addTests_27 ?_
        have rx5 := Ha_lastSet (cd4 : Int).toNat
        generalize ex5 : a_lastSet (cd4 : Int).toNat = x5 at rx5 ⊢
        refine z_istore (L' := [(5, z_v x5), (4, .ref q3), (0, .ref (ad 18)), (1, .ref q), (2, z_v k0), (3, z_v i3)]) C dX7_addTests_28 (by decide) rfl ?_
        refine z_aload C 1 dX7_addTests_30 rfl ?_
        refine z_callV C (cm_X5_isCeiling l q3 hq3) mv_7_117 (z_atY 5 yd4 rfl rfl) pd_X5_isCeiling ⟨by omega, by omega⟩ ⟨by omega, by omega⟩ rfl (Nat.le_of_ble_eq_true rfl) dX7_addTests_32 ?_
        rintro _ _ _ ⟨rfl, rfl, z8, rfl, hz8⟩
        refine z_if_eq (t := 51) C dX7_addTests_35 (by decide) (by omega) (fun c9 => ?_) (fun c9 => ?_)
        · skip
          refine z_aload C 1 dX7_addTests_51 rfl ?_
          refine z_callV C (cm_X5_isFloor l q3 hq3) mv_7_125 (z_atY 5 yd4 rfl rfl) pd_X5_isFloor ⟨by omega, by omega⟩ ⟨by omega, by omega⟩ rfl (Nat.le_of_ble_eq_true rfl) dX7_addTests_53 ?_
          rintro _ _ _ ⟨rfl, rfl, z12, rfl, hz12⟩
          refine z_if_eq (t := 71) C dX7_addTests_56 (by decide) (by omega) (fun c13 => ?_) (fun c13 => ?_)
          · skip
            refine z_iinc (L' := [(3, z_v (i3 + 1)), (5, z_v x5), (4, .ref q3), (0, .ref (ad 18)), (1, .ref q), (2, z_v k0)]) C 5 dX7_addTests_71 rfl (by decide) rfl ?_
            refine z_goto (t := 2) C dX7_addTests_74 (by decide) ?_
            refine z_loc (L' := [(0, .ref (ad 18)), (1, .ref q), (2, z_v k0), (3, z_v (i3 + 1))]) [3, 4, 5, 0] rfl ?_
            exact ih2 (i3 + 1) fs_gapCount fa_gapFrom fa_gapTo fa_gapLeast (by omega) Hfa_gapFrom Hfa_gapTo Hfa_gapLeast (by omega) (by omega)
          · skip
            refine z_aloadn C 2 dX7_addTests_59 rfl rfl ?_
            refine z_iload C 0 dX7_addTests_60 rfl ?_
            refine z_iloadn C 4 dX7_addTests_62 rfl rfl ?_
            refine z_aload C 1 dX7_addTests_63 rfl ?_
            refine z_callV C (cm_X5_leastParts l q3 hq3) mv_7_128 (z_atY 5 yd4 rfl rfl) pd_X5_leastParts ⟨by omega, by omega⟩ ⟨by omega, by omega⟩ rfl (Nat.le_of_ble_eq_true rfl) dX7_addTests_65 ?_
            rintro _ _ _ ⟨rfl, rfl, z16, rfl, hz16⟩
            refine z_callV C (cm_X7_addGap l x5 k0 z16 (by omega) Hfa_gapFrom Hfa_gapTo Hfa_gapLeast (by omega) (by omega) (by omega)) mv_7_55 (z_atS 18 7 (by decide) rfl rfl rfl) pd_X7_addGap ⟨by omega, by omega⟩ ⟨by omega, by omega⟩ rfl (Nat.le_of_ble_eq_true rfl) dX7_addTests_68 ?_
            rintro _ _ _ ⟨n17, n18, n19, n20, rfl, rfl, h23, h24, h25, h26, rfl⟩
            refine z_iinc (L' := [(3, z_v (i3 + 1)), (5, z_v x5), (4, .ref q3), (0, .ref (ad 18)), (1, .ref q), (2, z_v k0)]) C 5 dX7_addTests_71 rfl (by decide) rfl ?_
            refine z_goto (t := 2) C dX7_addTests_74 (by decide) ?_
            refine z_loc (L' := [(0, .ref (ad 18)), (1, .ref q), (2, z_v k0), (3, z_v (i3 + 1))]) [3, 4, 5, 0] rfl ?_
            exact ih2 (i3 + 1) n17 n18 n19 n20 (by omega) h24 h25 h26 (by omega) (by omega)
        · skip
          refine z_aloadn C 2 dX7_addTests_38 rfl rfl ?_
          refine z_iloadn C 4 dX7_addTests_39 rfl rfl ?_
          refine z_iload C 0 dX7_addTests_40 rfl ?_
          refine z_aload C 1 dX7_addTests_42 rfl ?_
          refine z_callV C (cm_X5_mostParts l q3 hq3) mv_7_121 (z_atY 5 yd4 rfl rfl) pd_X5_mostParts ⟨by omega, by omega⟩ ⟨by omega, by omega⟩ rfl (Nat.le_of_ble_eq_true rfl) dX7_addTests_44 ?_
          rintro _ _ _ ⟨rfl, rfl, z29, rfl, hz29⟩
          refine z_ineg C dX7_addTests_47 ?_
          refine z_callV C (cm_X7_addGap l k0 x5 (-z29) (by omega) Hfa_gapFrom Hfa_gapTo Hfa_gapLeast (by omega) (by omega) (by omega)) mv_7_55 (z_atS 18 7 (by decide) rfl rfl rfl) pd_X7_addGap ⟨by omega, by omega⟩ ⟨by omega, by omega⟩ rfl (Nat.le_of_ble_eq_true rfl) dX7_addTests_48 ?_
          rintro _ _ _ ⟨n30, n31, n32, n33, rfl, rfl, h36, h37, h38, h39, rfl⟩
          refine z_aload C 1 dX7_addTests_51 rfl ?_
          refine z_callV C (cm_X5_isFloor l q3 hq3) mv_7_125 (z_atY 5 yd4 rfl rfl) pd_X5_isFloor ⟨by omega, by omega⟩ ⟨by omega, by omega⟩ rfl (Nat.le_of_ble_eq_true rfl) dX7_addTests_53 ?_
          rintro _ _ _ ⟨rfl, rfl, z42, rfl, hz42⟩
          refine z_if_eq (t := 71) C dX7_addTests_56 (by decide) (by omega) (fun c43 => ?_) (fun c43 => ?_)
          · skip
            refine z_iinc (L' := [(3, z_v (i3 + 1)), (5, z_v x5), (4, .ref q3), (0, .ref (ad 18)), (1, .ref q), (2, z_v k0)]) C 5 dX7_addTests_71 rfl (by decide) rfl ?_
            refine z_goto (t := 2) C dX7_addTests_74 (by decide) ?_
            refine z_loc (L' := [(0, .ref (ad 18)), (1, .ref q), (2, z_v k0), (3, z_v (i3 + 1))]) [3, 4, 5, 0] rfl ?_
            exact ih2 (i3 + 1) n30 n31 n32 n33 (by omega) h37 h38 h39 (by omega) (by omega)
          · skip
            refine z_aloadn C 2 dX7_addTests_59 rfl rfl ?_
            refine z_iload C 0 dX7_addTests_60 rfl ?_
            refine z_iloadn C 4 dX7_addTests_62 rfl rfl ?_
            refine z_aload C 1 dX7_addTests_63 rfl ?_
            refine z_callV C (cm_X5_leastParts l q3 hq3) mv_7_128 (z_atY 5 yd4 rfl rfl) pd_X5_leastParts ⟨by omega, by omega⟩ ⟨by omega, by omega⟩ rfl (Nat.le_of_ble_eq_true rfl) dX7_addTests_65 ?_
            rintro _ _ _ ⟨rfl, rfl, z46, rfl, hz46⟩
            refine z_callV C (cm_X7_addGap l x5 k0 z46 (by omega) h37 h38 h39 (by omega) (by omega) (by omega)) mv_7_55 (z_atS 18 7 (by decide) rfl rfl rfl) pd_X7_addGap ⟨by omega, by omega⟩ ⟨by omega, by omega⟩ rfl (Nat.le_of_ble_eq_true rfl) dX7_addTests_68 ?_
            rintro _ _ _ ⟨n47, n48, n49, n50, rfl, rfl, h53, h54, h55, h56, rfl⟩
            refine z_iinc (L' := [(3, z_v (i3 + 1)), (5, z_v x5), (4, .ref q3), (0, .ref (ad 18)), (1, .ref q), (2, z_v k0)]) C 5 dX7_addTests_71 rfl (by decide) rfl ?_
            refine z_goto (t := 2) C dX7_addTests_74 (by decide) ?_
            refine z_loc (L' := [(0, .ref (ad 18)), (1, .ref q), (2, z_v k0), (3, z_v (i3 + 1))]) [3, 4, 5, 0] rfl ?_
            exact ih2 (i3 + 1) n47 n48 n49 n50 (by omega) h54 h55 h56 (by omega) (by omega)
  refine z_loc (L' := [(0, .ref (ad 18)), (1, .ref q), (2, z_v k0), (3, z_v 0)]) [1, 2, 3, 0] rfl ?_
  exact (L2 (((2 : Int) - 0).toNat + 1)) 0 s_gapCount a_gapFrom a_gapTo a_gapLeast (by omega) Ha_gapFrom Ha_gapTo Ha_gapLeast (by omega) (Nat.lt_succ_self _)
set_option maxRecDepth 20000 in
theorem cm_X7_addLimits (l : Launch) {D : va_G} {A : Nat → Prop} {ad : Nat → Nat} {ks : z_Ks} {s_edgeCount s_moveCount s_isNeeded s_timesDone s_size s_isGoing s_allTime s_stepCount s_gapCount : Int} {g_edges g_moves g_limits : Nat → Option Nat} {a_sfacts a_sbounds a_facts a_zone a_most a_places a_amounts a_nextPlaces a_nextAmounts a_earliest a_visited a_lastSet a_gapFrom a_gapTo a_gapLeast a_askedPlaces a_askedAmounts : Nat → Int} {Y : Nat → Option va_E} (m0 k0 : Int) (Hs_gapCount : (0 ≤ s_gapCount ∧ s_gapCount ≤ 615)) (Ha_gapFrom : (∀ j, 0 ≤ a_gapFrom j ∧ a_gapFrom j ≤ 40)) (Ha_gapTo : (∀ j, 0 ≤ a_gapTo j ∧ a_gapTo j ≤ 40)) (Ha_gapLeast : (∀ j, z_rg (a_gapLeast j))) (Ha_lastSet : (∀ j, 0 ≤ a_lastSet j ∧ a_lastSet j ≤ 40)) (Ha_sfacts : (∀ j, (j % 7 < 3 → 0 ≤ a_sfacts j ∧ a_sfacts j ≤ 5) ∧ (j % 7 = 3 → -1 ≤ a_sfacts j ∧ a_sfacts j ≤ 119) ∧ (j % 7 = 6 → 0 ≤ a_sfacts j ∧ a_sfacts j ≤ 40) ∧ z_rg (a_sfacts j))) (hm : 0 ≤ m0 ∧ m0 ≤ 119) (hk : 0 ≤ k0 ∧ k0 ≤ 40) (HL : ∀ j : Nat, (j : Int) < 18 → ∃ q, g_limits j = some q ∧ z_TL ks Y q) : z_Met l yX7_addLimits cX7_addLimits 6 none 2 48 0 0 D A 27 ad ks [.ref (ad 18), .ref (ad 1), .ref (ad 6), z_v m0, z_v k0] (z_zc ad ks s_edgeCount s_moveCount s_isNeeded s_timesDone s_size s_isGoing s_allTime s_stepCount s_gapCount g_edges g_moves g_limits a_sfacts a_sbounds a_facts a_zone a_most a_places a_amounts a_nextPlaces a_nextAmounts a_earliest a_visited a_lastSet a_gapFrom a_gapTo a_gapLeast a_askedPlaces a_askedAmounts) Y (fun r S' Y' => ∃ ns_gapCount : Int, ∃ na_gapFrom : Nat → Int, ∃ na_gapTo : Nat → Int, ∃ na_gapLeast : Nat → Int, S' = (z_zc ad ks s_edgeCount s_moveCount s_isNeeded s_timesDone s_size s_isGoing s_allTime s_stepCount ns_gapCount g_edges g_moves g_limits a_sfacts a_sbounds a_facts a_zone a_most a_places a_amounts a_nextPlaces a_nextAmounts a_earliest a_visited a_lastSet na_gapFrom na_gapTo na_gapLeast a_askedPlaces a_askedAmounts) ∧ Y = Y' ∧ (0 ≤ ns_gapCount ∧ ns_gapCount ≤ 615) ∧ (∀ j, 0 ≤ na_gapFrom j ∧ na_gapFrom j ≤ 40) ∧ (∀ j, 0 ≤ na_gapTo j ∧ na_gapTo j ≤ 40) ∧ (∀ j, z_rg (na_gapLeast j)) ∧ r = none) := by
  refine z_start2 (by decide) (Nat.le_of_ble_eq_true rfl) ?_
  intro p e R s m args below meth c Q C hRf hRc hRs hRl hQ hrt hnm
  refine z_loc (L' := [(0, .ref (ad 18)), (1, .ref (ad 1)), (2, .ref (ad 6)), (3, z_v m0), (4, z_v k0)]) [0, 1, 2, 3, 4] rfl ?_
  refine z_iconst C dX7_addLimits_0 ?_
  refine z_istore (L' := [(5, z_v 0), (0, .ref (ad 18)), (1, .ref (ad 1)), (2, .ref (ad 6)), (3, z_v m0), (4, z_v k0)]) C dX7_addLimits_1 (by decide) rfl ?_
  have L3 : ∀ (n : Nat), ∀ (i5 : Int) (fs_gapCount : Int) (fa_gapFrom : Nat → Int) (fa_gapTo : Nat → Int) (fa_gapLeast : Nat → Int), ((0 ≤ fs_gapCount ∧ fs_gapCount ≤ 615)) → ((∀ j, 0 ≤ fa_gapFrom j ∧ fa_gapFrom j ≤ 40)) → ((∀ j, 0 ≤ fa_gapTo j ∧ fa_gapTo j ≤ 40)) → ((∀ j, z_rg (fa_gapLeast j))) → (0 ≤ i5 ∧ i5 ≤ 3) → ((3 : Int) - i5).toNat < n → z_V p l e R s m args below meth c Q D A 27 ad 6 (z_zc ad ks s_edgeCount s_moveCount s_isNeeded s_timesDone s_size s_isGoing s_allTime s_stepCount fs_gapCount g_edges g_moves g_limits a_sfacts a_sbounds a_facts a_zone a_most a_places a_amounts a_nextPlaces a_nextAmounts a_earliest a_visited a_lastSet fa_gapFrom fa_gapTo fa_gapLeast a_askedPlaces a_askedAmounts) Y 0 0 3 [(0, .ref (ad 18)), (1, .ref (ad 1)), (2, .ref (ad 6)), (3, z_v m0), (4, z_v k0), (5, z_v i5)] [] := by
    intro n
    induction n with
    | zero => intro i5 fs_gapCount fa_gapFrom fa_gapTo fa_gapLeast Hfs_gapCount Hfa_gapFrom Hfa_gapTo Hfa_gapLeast I5 hm; exact absurd hm (Nat.not_lt_zero _)
    | succ n ih3 =>
      intro i5 fs_gapCount fa_gapFrom fa_gapTo fa_gapLeast Hfs_gapCount Hfa_gapFrom Hfa_gapTo Hfa_gapLeast I5 hm
      refine z_iload C 5 dX7_addLimits_3 rfl ?_
      refine z_iconst C dX7_addLimits_5 ?_
      refine z_icmp_ge (t := 34) C dX7_addLimits_6 (by decide) (by omega) (by omega) (fun c1 => ?_) (fun c1 => ?_)
      · skip
        rw [hQ]
        exact z_vret C hrt dX7_addLimits_34 (⟨fs_gapCount, fa_gapFrom, fa_gapTo, fa_gapLeast, rfl, rfl, by omega, Hfa_gapFrom, Hfa_gapTo, Hfa_gapLeast, rfl⟩) (by omega) (by omega)
      · skip
        refine z_aloadn C 0 dX7_addLimits_9 rfl rfl ?_
        refine z_aloadn C 1 dX7_addLimits_10 rfl rfl ?_
        refine z_iload C 5 dX7_addLimits_11 rfl ?_
        refine z_aloadn C 2 dX7_addLimits_13 rfl rfl ?_
        refine z_iloadn C 3 dX7_addLimits_14 rfl rfl ?_
        refine z_iload C 5 dX7_addLimits_15 rfl ?_
        refine z_callV C (cm_X4_fact l m0 i5 Ha_sfacts (by omega) (by omega)) mv_7_30 (z_atS 6 4 (by decide) rfl rfl rfl) pd_X4_fact ⟨by omega, by omega⟩ ⟨by omega, by omega⟩ rfl (Nat.le_of_ble_eq_true rfl) dX7_addLimits_17 ?_
        rintro _ _ _ ⟨rfl, rfl, z4, rfl, hz4⟩
        refine z_callV C (cm_X2_limitsOf l i5 z4 (by omega) (by omega) HL) mv_7_99 (z_atS 1 2 (by decide) rfl rfl rfl) pd_X2_limitsOf ⟨by omega, by omega⟩ ⟨by omega, by omega⟩ rfl (Nat.le_of_ble_eq_true rfl) dX7_addLimits_20 ?_
        rintro _ _ _ ⟨rfl, rfl, q5, rfl, hq5⟩
        refine z_iload C 4 dX7_addLimits_23 rfl ?_
        refine z_callV C (cm_X7_addTests l k0 q5 (by omega) Hfa_gapFrom Hfa_gapTo Hfa_gapLeast Ha_lastSet hq5 (by omega)) mv_7_88 (z_atS 18 7 (by decide) rfl rfl rfl) pd_X7_addTests ⟨by omega, by omega⟩ ⟨by omega, by omega⟩ rfl (Nat.le_of_ble_eq_true rfl) dX7_addLimits_25 ?_
        rintro _ _ _ ⟨n6, n7, n8, n9, rfl, rfl, h12, h13, h14, h15, rfl⟩
        refine z_iinc (L' := [(5, z_v (i5 + 1)), (0, .ref (ad 18)), (1, .ref (ad 1)), (2, .ref (ad 6)), (3, z_v m0), (4, z_v k0)]) C 5 dX7_addLimits_28 rfl (by decide) rfl ?_
        refine z_goto (t := 3) C dX7_addLimits_31 (by decide) ?_
        refine z_loc (L' := [(0, .ref (ad 18)), (1, .ref (ad 1)), (2, .ref (ad 6)), (3, z_v m0), (4, z_v k0), (5, z_v (i5 + 1))]) [1, 2, 3, 4, 5, 0] rfl ?_
        exact ih3 (i5 + 1) n6 n7 n8 n9 (by omega) h13 h14 h15 (by omega) (by omega)
  refine z_loc (L' := [(0, .ref (ad 18)), (1, .ref (ad 1)), (2, .ref (ad 6)), (3, z_v m0), (4, z_v k0), (5, z_v 0)]) [1, 2, 3, 4, 5, 0] rfl ?_
  exact (L3 (((3 : Int) - 0).toNat + 1)) 0 s_gapCount a_gapFrom a_gapTo a_gapLeast (by omega) Ha_gapFrom Ha_gapTo Ha_gapLeast (by omega) (Nat.lt_succ_self _)
set_option maxRecDepth 20000 in
theorem cm_X7_addStep (l : Launch) {D : va_G} {A : Nat → Prop} {ad : Nat → Nat} {ks : z_Ks} {s_edgeCount s_moveCount s_isNeeded s_timesDone s_size s_isGoing s_allTime s_stepCount s_gapCount : Int} {g_edges g_moves g_limits : Nat → Option Nat} {a_sfacts a_sbounds a_facts a_zone a_most a_places a_amounts a_nextPlaces a_nextAmounts a_earliest a_visited a_lastSet a_gapFrom a_gapTo a_gapLeast a_askedPlaces a_askedAmounts : Nat → Int} {Y : Nat → Option va_E} (k0 : Int) (q : Nat) (Hs_gapCount : (0 ≤ s_gapCount ∧ s_gapCount ≤ 615)) (Ha_gapFrom : (∀ j, 0 ≤ a_gapFrom j ∧ a_gapFrom j ≤ 40)) (Ha_gapTo : (∀ j, 0 ≤ a_gapTo j ∧ a_gapTo j ≤ 40)) (Ha_gapLeast : (∀ j, z_rg (a_gapLeast j))) (Ha_lastSet : (∀ j, 0 ≤ a_lastSet j ∧ a_lastSet j ≤ 40)) (hq : z_Mv ks Y q) (hk : 0 ≤ k0 ∧ k0 ≤ 40) : z_Met l yX7_addStep cX7_addStep 4 none 2 48 0 0 D A 27 ad ks [.ref (ad 18), .ref q, z_v k0] (z_zc ad ks s_edgeCount s_moveCount s_isNeeded s_timesDone s_size s_isGoing s_allTime s_stepCount s_gapCount g_edges g_moves g_limits a_sfacts a_sbounds a_facts a_zone a_most a_places a_amounts a_nextPlaces a_nextAmounts a_earliest a_visited a_lastSet a_gapFrom a_gapTo a_gapLeast a_askedPlaces a_askedAmounts) Y (fun r S' Y' => ∃ ns_gapCount : Int, ∃ na_gapFrom : Nat → Int, ∃ na_gapTo : Nat → Int, ∃ na_gapLeast : Nat → Int, ∃ na_lastSet : Nat → Int, S' = (z_zc ad ks s_edgeCount s_moveCount s_isNeeded s_timesDone s_size s_isGoing s_allTime s_stepCount ns_gapCount g_edges g_moves g_limits a_sfacts a_sbounds a_facts a_zone a_most a_places a_amounts a_nextPlaces a_nextAmounts a_earliest a_visited na_lastSet na_gapFrom na_gapTo na_gapLeast a_askedPlaces a_askedAmounts) ∧ Y = Y' ∧ (0 ≤ ns_gapCount ∧ ns_gapCount ≤ 615) ∧ (∀ j, 0 ≤ na_gapFrom j ∧ na_gapFrom j ≤ 40) ∧ (∀ j, 0 ≤ na_gapTo j ∧ na_gapTo j ≤ 40) ∧ (∀ j, z_rg (na_gapLeast j)) ∧ (∀ j, 0 ≤ na_lastSet j ∧ na_lastSet j ≤ 40) ∧ r = none) := by
  refine z_start2 (by decide) (Nat.le_of_ble_eq_true rfl) ?_
  intro p e R s m args below meth c Q C hRf hRc hRs hRl hQ hrt hnm
  refine z_loc (L' := [(0, .ref (ad 18)), (1, .ref q), (2, z_v k0)]) [0, 1, 2] rfl ?_
  refine z_aloadn C 1 dX7_addStep_0 rfl rfl ?_
  refine z_ifnonnull (t := 5) C dX7_addStep_1 (by decide) ?_
  refine z_aloadn C 0 dX7_addStep_5 rfl rfl ?_
  refine z_aloadn C 1 dX7_addStep_6 rfl rfl ?_
  obtain ⟨fd1, sd1, pd1, od1, rd1, yd1, ad1, bd1, kd1⟩ := id hq
  rcases od1 with _ | od1
  · skip
    refine z_getY C yd1 rfl z_it1 2 (by decide) rfl fl_7_76 rfl dX7_addStep_7 ?_
    obtain ⟨md2, fd2, td2, kd2, rd2, gd2, yd2, ad2, bd2⟩ := id bd1
    refine z_getY C yd2 rfl z_it0 5 (by decide) rfl fl_7_82 rfl dX7_addStep_10 ?_
    refine z_iloadn C 2 dX7_addStep_13 rfl rfl ?_
    refine z_callV C (cm_X7_addTests l k0 gd2 (by omega) Ha_gapFrom Ha_gapTo Ha_gapLeast Ha_lastSet bd2 (by omega)) mv_7_88 (z_atS 18 7 (by decide) rfl rfl rfl) pd_X7_addTests ⟨by omega, by omega⟩ ⟨by omega, by omega⟩ rfl (Nat.le_of_ble_eq_true rfl) dX7_addStep_14 ?_
    rintro _ _ _ ⟨n3, n4, n5, n6, rfl, rfl, h9, h10, h11, h12, rfl⟩
    refine z_aloadn C 1 dX7_addStep_17 rfl rfl ?_
    refine z_getY C yd1 rfl z_it1 3 (by decide) rfl fl_7_92 rfl dX7_addStep_18 ?_
    refine z_ifnullN (t := 36) C dX7_addStep_21 (by decide) ?_
    refine z_iconst C dX7_addStep_36 ?_
    refine z_istoren (L' := [(3, z_v 1), (0, .ref (ad 18)), (1, .ref q), (2, z_v k0)]) C dX7_addStep_37 rfl (by decide) rfl ?_
    have L38 : ∀ (n : Nat), ∀ (i3 : Int) (fa_lastSet : Nat → Int), ((∀ j, 0 ≤ fa_lastSet j ∧ fa_lastSet j ≤ 40)) → (1 ≤ i3 ∧ i3 ≤ 4) → ((4 : Int) - i3).toNat < n → z_V p l e R s m args below meth c Q D A 27 ad 4 (z_zc ad ks s_edgeCount s_moveCount s_isNeeded s_timesDone s_size s_isGoing s_allTime s_stepCount n3 g_edges g_moves g_limits a_sfacts a_sbounds a_facts a_zone a_most a_places a_amounts a_nextPlaces a_nextAmounts a_earliest a_visited fa_lastSet n4 n5 n6 a_askedPlaces a_askedAmounts) Y 0 0 38 [(0, .ref (ad 18)), (1, .ref q), (2, z_v k0), (3, z_v i3)] [] := by
      intro n
      induction n with
      | zero => intro i3 fa_lastSet Hfa_lastSet I3 hm; exact absurd hm (Nat.not_lt_zero _)
      | succ n ih38 =>
        intro i3 fa_lastSet Hfa_lastSet I3 hm
        refine z_iloadn C 3 dX7_addStep_38 rfl rfl ?_
        refine z_iconst C dX7_addStep_39 ?_
        refine z_icmp_ge (t := 64) C dX7_addStep_40 (by decide) (by omega) (by omega) (fun c13 => ?_) (fun c13 => ?_)
        · skip
          rw [hQ]
          exact z_vret C hrt dX7_addStep_64 (⟨n3, n4, n5, n6, fa_lastSet, rfl, rfl, by omega, h10, h11, h12, Hfa_lastSet, rfl⟩) (by omega) (by omega)
        · skip
          refine z_aloadn C 1 dX7_addStep_43 rfl rfl ?_
          refine z_iloadn C 3 dX7_addStep_44 rfl rfl ?_
          refine z_callV C (cm_X1_sets l i3 q hq (by omega)) mv_7_95 (z_atY 1 yd1 rfl rfl) pd_X1_sets ⟨by omega, by omega⟩ ⟨by omega, by omega⟩ rfl (Nat.le_of_ble_eq_true rfl) dX7_addStep_45 ?_
          rintro _ _ _ ⟨rfl, rfl, z16, rfl, hz16⟩
          refine z_if_eq (t := 58) C dX7_addStep_48 (by decide) (by omega) (fun c17 => ?_) (fun c17 => ?_)
          · skip
            refine z_iinc (L' := [(3, z_v (i3 + 1)), (0, .ref (ad 18)), (1, .ref q), (2, z_v k0)]) C 3 dX7_addStep_58 rfl (by decide) rfl ?_
            refine z_goto (t := 38) C dX7_addStep_61 (by decide) ?_
            refine z_loc (L' := [(0, .ref (ad 18)), (1, .ref q), (2, z_v k0), (3, z_v (i3 + 1))]) [1, 2, 3, 0] rfl ?_
            exact ih38 (i3 + 1) fa_lastSet Hfa_lastSet (by omega) (by omega)
          · skip
            refine z_aloadn C 0 dX7_addStep_51 rfl rfl ?_
            refine z_get C 18 (by decide) rfl rfl z_it7 2 (by decide) rfl fl_7_18 rfl dX7_addStep_52 ?_
            refine z_iloadn C 3 dX7_addStep_55 rfl rfl ?_
            refine z_iloadn C 2 dX7_addStep_56 rfl rfl ?_
            refine z_iast C 21 (by decide) rfl (by decide) (by omega) (by omega) dX7_addStep_57 ?_
            refine z_ext (S' := (z_zc ad ks s_edgeCount s_moveCount s_isNeeded s_timesDone s_size s_isGoing s_allTime s_stepCount n3 g_edges g_moves g_limits a_sfacts a_sbounds a_facts a_zone a_most a_places a_amounts a_nextPlaces a_nextAmounts a_earliest a_visited (va_up fa_lastSet (i3 : Int).toNat k0) n4 n5 n6 a_askedPlaces a_askedAmounts)) upC_a_lastSet ?_
            have h18 : ∀ j, 0 ≤ (va_up fa_lastSet (i3 : Int).toNat k0) j ∧ (va_up fa_lastSet (i3 : Int).toNat k0) j ≤ 40 := z_upP (P := fun j v => 0 ≤ v ∧ v ≤ 40) Hfa_lastSet (by omega)
            generalize (va_up fa_lastSet (i3 : Int).toNat k0) = f19 at h18 ⊢
            refine z_iinc (L' := [(3, z_v (i3 + 1)), (0, .ref (ad 18)), (1, .ref q), (2, z_v k0)]) C 3 dX7_addStep_58 rfl (by decide) rfl ?_
            refine z_goto (t := 38) C dX7_addStep_61 (by decide) ?_
            refine z_loc (L' := [(0, .ref (ad 18)), (1, .ref q), (2, z_v k0), (3, z_v (i3 + 1))]) [1, 2, 3, 0] rfl ?_
            exact ih38 (i3 + 1) f19 h18 (by omega) (by omega)
    refine z_loc (L' := [(0, .ref (ad 18)), (1, .ref q), (2, z_v k0), (3, z_v 1)]) [1, 2, 3, 0] rfl ?_
    exact (L38 (((4 : Int) - 1).toNat + 1)) 1 a_lastSet Ha_lastSet (by omega) (Nat.lt_succ_self _)
  · skip
    refine z_getY C yd1 rfl z_it1 2 (by decide) rfl fl_7_76 rfl dX7_addStep_7 ?_
    obtain ⟨md20, fd20, td20, kd20, rd20, gd20, yd20, ad20, bd20⟩ := id bd1
    refine z_getY C yd20 rfl z_it0 5 (by decide) rfl fl_7_82 rfl dX7_addStep_10 ?_
    refine z_iloadn C 2 dX7_addStep_13 rfl rfl ?_
    refine z_callV C (cm_X7_addTests l k0 gd20 (by omega) Ha_gapFrom Ha_gapTo Ha_gapLeast Ha_lastSet bd20 (by omega)) mv_7_88 (z_atS 18 7 (by decide) rfl rfl rfl) pd_X7_addTests ⟨by omega, by omega⟩ ⟨by omega, by omega⟩ rfl (Nat.le_of_ble_eq_true rfl) dX7_addStep_14 ?_
    rintro _ _ _ ⟨n21, n22, n23, n24, rfl, rfl, h27, h28, h29, h30, rfl⟩
    refine z_aloadn C 1 dX7_addStep_17 rfl rfl ?_
    refine z_getY C yd1 rfl z_it1 3 (by decide) rfl fl_7_92 rfl dX7_addStep_18 ?_
    refine z_ifnull C dX7_addStep_21 ?_
    refine z_aloadn C 0 dX7_addStep_24 rfl rfl ?_
    refine z_aloadn C 1 dX7_addStep_25 rfl rfl ?_
    refine z_getY C yd1 rfl z_it1 3 (by decide) rfl fl_7_92 rfl dX7_addStep_26 ?_
    obtain ⟨md31, fd31, td31, kd31, rd31, gd31, yd31, ad31, bd31⟩ := id (kd1 _ rfl)
    refine z_getY C yd31 rfl z_it0 5 (by decide) rfl fl_7_82 rfl dX7_addStep_29 ?_
    refine z_iloadn C 2 dX7_addStep_32 rfl rfl ?_
    refine z_callV C (cm_X7_addTests l k0 gd31 (by omega) h28 h29 h30 Ha_lastSet bd31 (by omega)) mv_7_88 (z_atS 18 7 (by decide) rfl rfl rfl) pd_X7_addTests ⟨by omega, by omega⟩ ⟨by omega, by omega⟩ rfl (Nat.le_of_ble_eq_true rfl) dX7_addStep_33 ?_
    rintro _ _ _ ⟨n32, n33, n34, n35, rfl, rfl, h38, h39, h40, h41, rfl⟩
    refine z_iconst C dX7_addStep_36 ?_
    refine z_istoren (L' := [(3, z_v 1), (0, .ref (ad 18)), (1, .ref q), (2, z_v k0)]) C dX7_addStep_37 rfl (by decide) rfl ?_
    have L38 : ∀ (n : Nat), ∀ (i3 : Int) (fa_lastSet : Nat → Int), ((∀ j, 0 ≤ fa_lastSet j ∧ fa_lastSet j ≤ 40)) → (1 ≤ i3 ∧ i3 ≤ 4) → ((4 : Int) - i3).toNat < n → z_V p l e R s m args below meth c Q D A 27 ad 4 (z_zc ad ks s_edgeCount s_moveCount s_isNeeded s_timesDone s_size s_isGoing s_allTime s_stepCount n32 g_edges g_moves g_limits a_sfacts a_sbounds a_facts a_zone a_most a_places a_amounts a_nextPlaces a_nextAmounts a_earliest a_visited fa_lastSet n33 n34 n35 a_askedPlaces a_askedAmounts) Y 0 0 38 [(0, .ref (ad 18)), (1, .ref q), (2, z_v k0), (3, z_v i3)] [] := by
      intro n
      induction n with
      | zero => intro i3 fa_lastSet Hfa_lastSet I3 hm; exact absurd hm (Nat.not_lt_zero _)
      | succ n ih38 =>
        intro i3 fa_lastSet Hfa_lastSet I3 hm
        refine z_iloadn C 3 dX7_addStep_38 rfl rfl ?_
        refine z_iconst C dX7_addStep_39 ?_
        refine z_icmp_ge (t := 64) C dX7_addStep_40 (by decide) (by omega) (by omega) (fun c42 => ?_) (fun c42 => ?_)
        · skip
          rw [hQ]
          exact z_vret C hrt dX7_addStep_64 (⟨n32, n33, n34, n35, fa_lastSet, rfl, rfl, by omega, h39, h40, h41, Hfa_lastSet, rfl⟩) (by omega) (by omega)
        · skip
          refine z_aloadn C 1 dX7_addStep_43 rfl rfl ?_
          refine z_iloadn C 3 dX7_addStep_44 rfl rfl ?_
          refine z_callV C (cm_X1_sets l i3 q hq (by omega)) mv_7_95 (z_atY 1 yd1 rfl rfl) pd_X1_sets ⟨by omega, by omega⟩ ⟨by omega, by omega⟩ rfl (Nat.le_of_ble_eq_true rfl) dX7_addStep_45 ?_
          rintro _ _ _ ⟨rfl, rfl, z45, rfl, hz45⟩
          refine z_if_eq (t := 58) C dX7_addStep_48 (by decide) (by omega) (fun c46 => ?_) (fun c46 => ?_)
          · skip
            refine z_iinc (L' := [(3, z_v (i3 + 1)), (0, .ref (ad 18)), (1, .ref q), (2, z_v k0)]) C 3 dX7_addStep_58 rfl (by decide) rfl ?_
            refine z_goto (t := 38) C dX7_addStep_61 (by decide) ?_
            refine z_loc (L' := [(0, .ref (ad 18)), (1, .ref q), (2, z_v k0), (3, z_v (i3 + 1))]) [1, 2, 3, 0] rfl ?_
            exact ih38 (i3 + 1) fa_lastSet Hfa_lastSet (by omega) (by omega)
          · skip
            refine z_aloadn C 0 dX7_addStep_51 rfl rfl ?_
            refine z_get C 18 (by decide) rfl rfl z_it7 2 (by decide) rfl fl_7_18 rfl dX7_addStep_52 ?_
            refine z_iloadn C 3 dX7_addStep_55 rfl rfl ?_
            refine z_iloadn C 2 dX7_addStep_56 rfl rfl ?_
            refine z_iast C 21 (by decide) rfl (by decide) (by omega) (by omega) dX7_addStep_57 ?_
            refine z_ext (S' := (z_zc ad ks s_edgeCount s_moveCount s_isNeeded s_timesDone s_size s_isGoing s_allTime s_stepCount n32 g_edges g_moves g_limits a_sfacts a_sbounds a_facts a_zone a_most a_places a_amounts a_nextPlaces a_nextAmounts a_earliest a_visited (va_up fa_lastSet (i3 : Int).toNat k0) n33 n34 n35 a_askedPlaces a_askedAmounts)) upC_a_lastSet ?_
            have h47 : ∀ j, 0 ≤ (va_up fa_lastSet (i3 : Int).toNat k0) j ∧ (va_up fa_lastSet (i3 : Int).toNat k0) j ≤ 40 := z_upP (P := fun j v => 0 ≤ v ∧ v ≤ 40) Hfa_lastSet (by omega)
            generalize (va_up fa_lastSet (i3 : Int).toNat k0) = f48 at h47 ⊢
            refine z_iinc (L' := [(3, z_v (i3 + 1)), (0, .ref (ad 18)), (1, .ref q), (2, z_v k0)]) C 3 dX7_addStep_58 rfl (by decide) rfl ?_
            refine z_goto (t := 38) C dX7_addStep_61 (by decide) ?_
            refine z_loc (L' := [(0, .ref (ad 18)), (1, .ref q), (2, z_v k0), (3, z_v (i3 + 1))]) [1, 2, 3, 0] rfl ?_
            exact ih38 (i3 + 1) f48 h47 (by omega) (by omega)
    refine z_loc (L' := [(0, .ref (ad 18)), (1, .ref q), (2, z_v k0), (3, z_v 1)]) [1, 2, 3, 0] rfl ?_
    exact (L38 (((4 : Int) - 1).toNat + 1)) 1 a_lastSet Ha_lastSet (by omega) (Nat.lt_succ_self _)
set_option maxRecDepth 20000 in
theorem cm_X7_addStep_n (l : Launch) {D : va_G} {A : Nat → Prop} {ad : Nat → Nat} {ks : z_Ks} {s_edgeCount s_moveCount s_isNeeded s_timesDone s_size s_isGoing s_allTime s_stepCount s_gapCount : Int} {g_edges g_moves g_limits : Nat → Option Nat} {a_sfacts a_sbounds a_facts a_zone a_most a_places a_amounts a_nextPlaces a_nextAmounts a_earliest a_visited a_lastSet a_gapFrom a_gapTo a_gapLeast a_askedPlaces a_askedAmounts : Nat → Int} {Y : Nat → Option va_E} (k0 : Int) : z_Met l yX7_addStep cX7_addStep 4 none 2 48 0 0 D A 27 ad ks [.ref (ad 18), .null, z_v k0] (z_zc ad ks s_edgeCount s_moveCount s_isNeeded s_timesDone s_size s_isGoing s_allTime s_stepCount s_gapCount g_edges g_moves g_limits a_sfacts a_sbounds a_facts a_zone a_most a_places a_amounts a_nextPlaces a_nextAmounts a_earliest a_visited a_lastSet a_gapFrom a_gapTo a_gapLeast a_askedPlaces a_askedAmounts) Y (fun r S' Y' => S' = (z_zc ad ks s_edgeCount s_moveCount s_isNeeded s_timesDone s_size s_isGoing s_allTime s_stepCount s_gapCount g_edges g_moves g_limits a_sfacts a_sbounds a_facts a_zone a_most a_places a_amounts a_nextPlaces a_nextAmounts a_earliest a_visited a_lastSet a_gapFrom a_gapTo a_gapLeast a_askedPlaces a_askedAmounts) ∧ Y = Y' ∧ r = none) := by
  refine z_start2 (by decide) (Nat.le_of_ble_eq_true rfl) ?_
  intro p e R s m args below meth c Q C hRf hRc hRs hRl hQ hrt hnm
  refine z_loc (L' := [(0, .ref (ad 18)), (1, .null), (2, z_v k0)]) [0, 1, 2] rfl ?_
  refine z_aloadnN C 1 dX7_addStep_0 rfl rfl ?_
  refine z_ifnonnullN C dX7_addStep_1 ?_
  rw [hQ]
  exact z_vret C hrt dX7_addStep_4 (⟨rfl, rfl, rfl⟩) (by omega) (by omega)
set_option maxRecDepth 20000 in
theorem cm_X7_visit (l : Launch) {D : va_G} {A : Nat → Prop} {ad : Nat → Nat} {ks : z_Ks} {s_edgeCount s_moveCount s_isNeeded s_timesDone s_size s_isGoing s_allTime s_stepCount s_gapCount : Int} {g_edges g_moves g_limits : Nat → Option Nat} {a_sfacts a_sbounds a_facts a_zone a_most a_places a_amounts a_nextPlaces a_nextAmounts a_earliest a_visited a_lastSet a_gapFrom a_gapTo a_gapLeast a_askedPlaces a_askedAmounts : Nat → Int} {Y : Nat → Option va_E} (i0 t0 : Int) (Hs_size : (0 ≤ s_size ∧ s_size ≤ 120)) (Ha_sfacts : (∀ j, (j % 7 < 3 → 0 ≤ a_sfacts j ∧ a_sfacts j ≤ 5) ∧ (j % 7 = 3 → -1 ≤ a_sfacts j ∧ a_sfacts j ≤ 119) ∧ (j % 7 = 6 → 0 ≤ a_sfacts j ∧ a_sfacts j ≤ 40) ∧ z_rg (a_sfacts j))) (Ha_visited : (∀ j, 0 ≤ a_visited j ∧ a_visited j ≤ 119)) (hi : 0 ≤ i0 ∧ i0 < s_size) (ht : 0 ≤ t0 ∧ t0 ≤ 40 ∧ t0 ≤ a_sfacts (i0 * 7 + 6 : Int).toNat) (hcc : z_cc s_size a_sfacts) : z_Met l yX7_visit cX7_visit 6 none 1 22 0 0 D A 27 ad ks [.ref (ad 18), .ref (ad 6), z_v i0, z_v t0] (z_zc ad ks s_edgeCount s_moveCount s_isNeeded s_timesDone s_size s_isGoing s_allTime s_stepCount s_gapCount g_edges g_moves g_limits a_sfacts a_sbounds a_facts a_zone a_most a_places a_amounts a_nextPlaces a_nextAmounts a_earliest a_visited a_lastSet a_gapFrom a_gapTo a_gapLeast a_askedPlaces a_askedAmounts) Y (fun r S' Y' => ∃ na_visited : Nat → Int, S' = (z_zc ad ks s_edgeCount s_moveCount s_isNeeded s_timesDone s_size s_isGoing s_allTime s_stepCount s_gapCount g_edges g_moves g_limits a_sfacts a_sbounds a_facts a_zone a_most a_places a_amounts a_nextPlaces a_nextAmounts a_earliest na_visited a_lastSet a_gapFrom a_gapTo a_gapLeast a_askedPlaces a_askedAmounts) ∧ Y = Y' ∧ (∀ j, 0 ≤ na_visited j ∧ na_visited j ≤ 119) ∧ r = none) := by
  refine z_start2 (by decide) (Nat.le_of_ble_eq_true rfl) ?_
  intro p e R s m args below meth c Q C hRf hRc hRs hRl hQ hrt hnm
  refine z_loc (L' := [(0, .ref (ad 18)), (1, .ref (ad 6)), (2, z_v i0), (3, z_v t0)]) [0, 1, 2, 3] rfl ?_
  refine z_iloadn C 2 dX7_visit_0 rfl rfl ?_
  refine z_istore (L' := [(4, z_v i0), (0, .ref (ad 18)), (1, .ref (ad 6)), (2, z_v i0), (3, z_v t0)]) C dX7_visit_1 (by decide) rfl ?_
  refine z_iloadn C 4 dX7_visit_3 rfl rfl ?_
  refine z_istore (L' := [(5, z_v t0), (4, z_v i0), (0, .ref (ad 18)), (1, .ref (ad 6)), (2, z_v i0), (3, z_v t0)]) C dX7_visit_4 (by decide) rfl ?_
  have L6 : ∀ (n : Nat), ∀ (i4 : Int) (i5 : Int) (fa_visited : Nat → Int), ((∀ j, 0 ≤ fa_visited j ∧ fa_visited j ≤ 119)) → (0 ≤ i4 ∧ i4 < s_size) → (i5 ≤ a_sfacts (i4 * 7 + 6 : Int).toNat) → (0 ≤ i5 ∧ i5 ≤ 40) → ((i5 : Int) - (0)).toNat < n → z_V p l e R s m args below meth c Q D A 27 ad 6 (z_zc ad ks s_edgeCount s_moveCount s_isNeeded s_timesDone s_size s_isGoing s_allTime s_stepCount s_gapCount g_edges g_moves g_limits a_sfacts a_sbounds a_facts a_zone a_most a_places a_amounts a_nextPlaces a_nextAmounts a_earliest fa_visited a_lastSet a_gapFrom a_gapTo a_gapLeast a_askedPlaces a_askedAmounts) Y 0 0 6 [(0, .ref (ad 18)), (1, .ref (ad 6)), (4, z_v i4), (5, z_v i5)] [] := by
    intro n
    induction n with
    | zero => intro i4 i5 fa_visited Hfa_visited I4 J I5 hm; exact absurd hm (Nat.not_lt_zero _)
    | succ n ih6 =>
      intro i4 i5 fa_visited Hfa_visited I4 J I5 hm
      refine z_iload C 3 dX7_visit_6 rfl ?_
      refine z_if_le (t := 35) C dX7_visit_8 (by decide) (by omega) (fun c1 => ?_) (fun c1 => ?_)
      · skip
        refine z_aloadn C 0 dX7_visit_35 rfl rfl ?_
        refine z_get C 18 (by decide) rfl rfl z_it7 1 (by decide) rfl fl_7_15 rfl dX7_visit_36 ?_
        refine z_iconst C dX7_visit_39 ?_
        refine z_iload C 2 dX7_visit_40 rfl ?_
        refine z_iast C 20 (by decide) rfl (by decide) (by omega) (by omega) dX7_visit_42 ?_
        refine z_ext (S' := (z_zc ad ks s_edgeCount s_moveCount s_isNeeded s_timesDone s_size s_isGoing s_allTime s_stepCount s_gapCount g_edges g_moves g_limits a_sfacts a_sbounds a_facts a_zone a_most a_places a_amounts a_nextPlaces a_nextAmounts a_earliest (va_up fa_visited (0 : Int).toNat i4) a_lastSet a_gapFrom a_gapTo a_gapLeast a_askedPlaces a_askedAmounts)) upC_a_visited ?_
        have h2 : ∀ j, 0 ≤ (va_up fa_visited (0 : Int).toNat i4) j ∧ (va_up fa_visited (0 : Int).toNat i4) j ≤ 119 := z_upP (P := fun j v => 0 ≤ v ∧ v ≤ 119) Hfa_visited (by omega)
        generalize (va_up fa_visited (0 : Int).toNat i4) = f3 at h2 ⊢
        rw [hQ]
        exact z_vret C hrt dX7_visit_43 (⟨f3, rfl, rfl, h2, rfl⟩) (by omega) (by omega)
      · skip
        refine z_aloadn C 0 dX7_visit_11 rfl rfl ?_
        refine z_get C 18 (by decide) rfl rfl z_it7 1 (by decide) rfl fl_7_15 rfl dX7_visit_12 ?_
        refine z_iload C 3 dX7_visit_15 rfl ?_
        refine z_iload C 2 dX7_visit_17 rfl ?_
        refine z_iast C 20 (by decide) rfl (by decide) (by omega) (by omega) dX7_visit_19 ?_
        refine z_ext (S' := (z_zc ad ks s_edgeCount s_moveCount s_isNeeded s_timesDone s_size s_isGoing s_allTime s_stepCount s_gapCount g_edges g_moves g_limits a_sfacts a_sbounds a_facts a_zone a_most a_places a_amounts a_nextPlaces a_nextAmounts a_earliest (va_up fa_visited (i5 : Int).toNat i4) a_lastSet a_gapFrom a_gapTo a_gapLeast a_askedPlaces a_askedAmounts)) upC_a_visited ?_
        have h4 : ∀ j, 0 ≤ (va_up fa_visited (i5 : Int).toNat i4) j ∧ (va_up fa_visited (i5 : Int).toNat i4) j ≤ 119 := z_upP (P := fun j v => 0 ≤ v ∧ v ≤ 119) Hfa_visited (by omega)
        generalize (va_up fa_visited (i5 : Int).toNat i4) = f5 at h4 ⊢
        refine z_aloadn C 1 dX7_visit_20 rfl rfl ?_
        refine z_iload C 2 dX7_visit_21 rfl ?_
        refine z_iconst C dX7_visit_23 ?_
        refine z_callV C (cm_X4_fact l i4 3 Ha_sfacts (by omega) (by omega)) mv_7_30 (z_atS 6 4 (by decide) rfl rfl rfl) pd_X4_fact ⟨by omega, by omega⟩ ⟨by omega, by omega⟩ rfl (Nat.le_of_ble_eq_true rfl) dX7_visit_24 ?_
        rintro _ _ _ ⟨rfl, rfl, z8, rfl, hz8⟩
        have qf := hz8.1
        refine z_istore (L' := [(4, z_v z8), (0, .ref (ad 18)), (1, .ref (ad 6)), (5, z_v i5)]) C dX7_visit_27 (by decide) rfl ?_
        refine z_iinc (L' := [(5, z_v (i5 + (-1))), (4, z_v z8), (0, .ref (ad 18)), (1, .ref (ad 6))]) C 3 dX7_visit_29 rfl (by decide) rfl ?_
        refine z_goto (t := 6) C dX7_visit_32 (by decide) ?_
        refine z_loc (L' := [(0, .ref (ad 18)), (1, .ref (ad 6)), (4, z_v z8), (5, z_v (i5 + (-1)))]) [2, 3, 1, 0] rfl ?_
        exact ih6 z8 (i5 + (-1)) f5 h4 ((z_cc_vi hcc I4 J (by omega) qf).1) ((z_cc_vi hcc I4 J (by omega) qf).2) (by omega) (by omega)
  refine z_loc (L' := [(0, .ref (ad 18)), (1, .ref (ad 6)), (4, z_v i0), (5, z_v t0)]) [2, 3, 1, 0] rfl ?_
  exact (L6 (((t0 : Int) - (0)).toNat + 1)) i0 t0 a_visited Ha_visited (by omega) (by omega) (by omega) (Nat.lt_succ_self _)
set_option maxRecDepth 20000 in
theorem cm_X7_settle (l : Launch) {D : va_G} {A : Nat → Prop} {ad : Nat → Nat} {ks : z_Ks} {s_edgeCount s_moveCount s_isNeeded s_timesDone s_size s_isGoing s_allTime s_stepCount s_gapCount : Int} {g_edges g_moves g_limits : Nat → Option Nat} {a_sfacts a_sbounds a_facts a_zone a_most a_places a_amounts a_nextPlaces a_nextAmounts a_earliest a_visited a_lastSet a_gapFrom a_gapTo a_gapLeast a_askedPlaces a_askedAmounts : Nat → Int} {Y : Nat → Option va_E} (Hs_gapCount : (0 ≤ s_gapCount ∧ s_gapCount ≤ 615)) (Ha_gapFrom : (∀ j, 0 ≤ a_gapFrom j ∧ a_gapFrom j ≤ 40)) (Ha_gapTo : (∀ j, 0 ≤ a_gapTo j ∧ a_gapTo j ≤ 40)) (Ha_gapLeast : (∀ j, z_rg (a_gapLeast j))) (Ha_earliest : (∀ j, z_rg (a_earliest j))) : z_Met l yX7_settle cX7_settle 5 none 1 23 0 0 D A 27 ad ks [.ref (ad 18)] (z_zc ad ks s_edgeCount s_moveCount s_isNeeded s_timesDone s_size s_isGoing s_allTime s_stepCount s_gapCount g_edges g_moves g_limits a_sfacts a_sbounds a_facts a_zone a_most a_places a_amounts a_nextPlaces a_nextAmounts a_earliest a_visited a_lastSet a_gapFrom a_gapTo a_gapLeast a_askedPlaces a_askedAmounts) Y (fun r S' Y' => ∃ na_earliest : Nat → Int, S' = (z_zc ad ks s_edgeCount s_moveCount s_isNeeded s_timesDone s_size s_isGoing s_allTime s_stepCount s_gapCount g_edges g_moves g_limits a_sfacts a_sbounds a_facts a_zone a_most a_places a_amounts a_nextPlaces a_nextAmounts na_earliest a_visited a_lastSet a_gapFrom a_gapTo a_gapLeast a_askedPlaces a_askedAmounts) ∧ Y = Y' ∧ (∀ j, z_rg (na_earliest j)) ∧ r = none) := by
  refine z_start2 (by decide) (Nat.le_of_ble_eq_true rfl) ?_
  intro p e R s m args below meth c Q C hRf hRc hRs hRl hQ hrt hnm
  refine z_loc (L' := [(0, .ref (ad 18))]) [0] rfl ?_
  refine z_aloadn C 0 dX7_settle_0 rfl rfl ?_
  refine z_get C 18 (by decide) rfl rfl z_it7 0 (by decide) rfl fl_7_9 rfl dX7_settle_1 ?_
  refine z_iconst C dX7_settle_4 ?_
  refine z_callS C (cm_J7_fill_53178_19 l 0 Ha_earliest (by omega)) mv_7_49 pd_J7_fill_53178 ⟨by omega, by omega⟩ ⟨by omega, by omega⟩ rfl (Nat.le_of_ble_eq_true rfl) dX7_settle_5 ?_
  rintro _ _ _ ⟨n1, rfl, rfl, h4, q5_0, rfl⟩
  refine z_iconst C dX7_settle_8 ?_
  refine z_istoren (L' := [(1, z_v 1), (0, .ref (ad 18))]) C dX7_settle_9 rfl (by decide) rfl ?_
  refine z_iconst C dX7_settle_10 ?_
  refine z_istoren (L' := [(2, z_v 0), (1, z_v 1), (0, .ref (ad 18))]) C dX7_settle_11 rfl (by decide) rfl ?_
  have L12 : ∀ (n : Nat), ∀ (i1 : Int) (i2 : Int) (fa_earliest : Nat → Int), ((∀ j, z_rg (fa_earliest j))) → (0 ≤ i2 ∧ i2 ≤ 42) → (i1 = 0 ∨ i1 = 1) → ((42 : Int) - i2).toNat < n → z_V p l e R s m args below meth c Q D A 27 ad 5 (z_zc ad ks s_edgeCount s_moveCount s_isNeeded s_timesDone s_size s_isGoing s_allTime s_stepCount s_gapCount g_edges g_moves g_limits a_sfacts a_sbounds a_facts a_zone a_most a_places a_amounts a_nextPlaces a_nextAmounts fa_earliest a_visited a_lastSet a_gapFrom a_gapTo a_gapLeast a_askedPlaces a_askedAmounts) Y 0 0 12 [(0, .ref (ad 18)), (1, z_v i1), (2, z_v i2)] [] := by
    intro n
    induction n with
    | zero => intro i1 i2 fa_earliest Hfa_earliest I2 B1 hm; exact absurd hm (Nat.not_lt_zero _)
    | succ n ih12 =>
      intro i1 i2 fa_earliest Hfa_earliest I2 B1 hm
      refine z_iloadn C 1 dX7_settle_12 rfl rfl ?_
      refine z_if_eq (t := 97) C dX7_settle_13 (by decide) (by omega) (fun c5 => ?_) (fun c5 => ?_)
      · skip
        rw [hQ]
        exact z_vret C hrt dX7_settle_97 (⟨fa_earliest, rfl, rfl, Hfa_earliest, rfl⟩) (by omega) (by omega)
      · skip
        refine z_iloadn C 2 dX7_settle_16 rfl rfl ?_
        refine z_bipush C dX7_settle_17 (by decide) ?_
        refine z_icmp_gt (t := 97) C dX7_settle_19 (by decide) (by omega) (by omega) (fun c6 => ?_) (fun c6 => ?_)
        · skip
          rw [hQ]
          exact z_vret C hrt dX7_settle_97 (⟨fa_earliest, rfl, rfl, Hfa_earliest, rfl⟩) (by omega) (by omega)
        · skip
          refine z_iconst C dX7_settle_22 ?_
          refine z_istoren (L' := [(1, z_v 0), (0, .ref (ad 18)), (2, z_v i2)]) C dX7_settle_23 rfl (by decide) rfl ?_
          refine z_iconst C dX7_settle_24 ?_
          refine z_istoren (L' := [(3, z_v 0), (1, z_v 0), (0, .ref (ad 18)), (2, z_v i2)]) C dX7_settle_25 rfl (by decide) rfl ?_
          have L26 : ∀ (n : Nat), ∀ (i1 : Int) (i3 : Int) (fa_earliest : Nat → Int), ((∀ j, z_rg (fa_earliest j))) → (0 ≤ i3 ∧ i3 ≤ 615) → (i1 = 0 ∨ i1 = 1) → ((615 : Int) - i3).toNat < n → z_V p l e R s m args below meth c Q D A 27 ad 5 (z_zc ad ks s_edgeCount s_moveCount s_isNeeded s_timesDone s_size s_isGoing s_allTime s_stepCount s_gapCount g_edges g_moves g_limits a_sfacts a_sbounds a_facts a_zone a_most a_places a_amounts a_nextPlaces a_nextAmounts fa_earliest a_visited a_lastSet a_gapFrom a_gapTo a_gapLeast a_askedPlaces a_askedAmounts) Y 0 0 26 [(0, .ref (ad 18)), (1, z_v i1), (2, z_v i2), (3, z_v i3)] [] := by
            intro n
            induction n with
            | zero => intro i1 i3 fa_earliest Hfa_earliest I3 B1 hm; exact absurd hm (Nat.not_lt_zero _)
            | succ n ih26 =>
              intro i1 i3 fa_earliest Hfa_earliest I3 B1 hm
              refine z_iloadn C 3 dX7_settle_26 rfl rfl ?_
              refine z_aloadn C 0 dX7_settle_27 rfl rfl ?_
              refine z_get C 18 (by decide) rfl rfl z_it7 6 (by decide) rfl fl_7_45 rfl dX7_settle_28 ?_
              refine z_icmp_ge (t := 91) C dX7_settle_31 (by decide) (by omega) (by omega) (fun c7 => ?_) (fun c7 => ?_)
              · skip
                refine z_iinc (L' := [(2, z_v (i2 + 1)), (0, .ref (ad 18)), (1, z_v i1), (3, z_v i3)]) C 2 dX7_settle_91 rfl (by decide) rfl ?_
                refine z_goto (t := 12) C dX7_settle_94 (by decide) ?_
                refine z_loc (L' := [(0, .ref (ad 18)), (1, z_v i1), (2, z_v (i2 + 1))]) [1, 2, 0] rfl ?_
                exact ih12 i1 (i2 + 1) fa_earliest Hfa_earliest (by omega) (by omega) (by omega)
              · skip
                refine z_aloadn C 0 dX7_settle_34 rfl rfl ?_
                refine z_get C 18 (by decide) rfl rfl z_it7 0 (by decide) rfl fl_7_9 rfl dX7_settle_35 ?_
                refine z_aloadn C 0 dX7_settle_38 rfl rfl ?_
                refine z_get C 18 (by decide) rfl rfl z_it7 3 (by decide) rfl fl_7_21 rfl dX7_settle_39 ?_
                refine z_iloadn C 3 dX7_settle_42 rfl rfl ?_
                refine z_iald C 22 (by decide) rfl (by decide) (by omega) (by omega) dX7_settle_43 ?_
                have rx8 := Ha_gapFrom (i3 : Int).toNat
                generalize ex8 : a_gapFrom (i3 : Int).toNat = x8 at rx8 ⊢
                refine z_iald C 19 (by decide) rfl (by decide) (by omega) (by omega) dX7_settle_44 ?_
                have rx9 := Hfa_earliest (x8 : Int).toNat
                generalize ex9 : fa_earliest (x8 : Int).toNat = x9 at rx9 ⊢
                refine z_aloadn C 0 dX7_settle_45 rfl rfl ?_
                refine z_get C 18 (by decide) rfl rfl z_it7 5 (by decide) rfl fl_7_27 rfl dX7_settle_46 ?_
                refine z_iloadn C 3 dX7_settle_49 rfl rfl ?_
                refine z_iald C 24 (by decide) rfl (by decide) (by omega) (by omega) dX7_settle_50 ?_
                have rx10 := Ha_gapLeast (i3 : Int).toNat
                generalize ex10 : a_gapLeast (i3 : Int).toNat = x10 at rx10 ⊢
                refine z_iadd C dX7_settle_51 ?_
                refine z_nrm (fun n11 rn11 en11 => ?_)
                refine z_istore (L' := [(4, z_v n11), (0, .ref (ad 18)), (1, z_v i1), (2, z_v i2), (3, z_v i3)]) C dX7_settle_52 (by decide) rfl ?_
                refine z_iload C 0 dX7_settle_54 rfl ?_
                refine z_aloadn C 1 dX7_settle_56 rfl rfl ?_
                refine z_get C 18 (by decide) rfl rfl z_it7 0 (by decide) rfl fl_7_9 rfl dX7_settle_57 ?_
                refine z_aloadn C 1 dX7_settle_60 rfl rfl ?_
                refine z_get C 18 (by decide) rfl rfl z_it7 4 (by decide) rfl fl_7_24 rfl dX7_settle_61 ?_
                refine z_iloadn C 4 dX7_settle_64 rfl rfl ?_
                refine z_iald C 23 (by decide) rfl (by decide) (by omega) (by omega) dX7_settle_65 ?_
                have rx12 := Ha_gapTo (i3 : Int).toNat
                generalize ex12 : a_gapTo (i3 : Int).toNat = x12 at rx12 ⊢
                refine z_iald C 19 (by decide) rfl (by decide) (by omega) (by omega) dX7_settle_66 ?_
                have rx13 := Hfa_earliest (x12 : Int).toNat
                generalize ex13 : fa_earliest (x12 : Int).toNat = x13 at rx13 ⊢
                refine z_icmp_le (t := 85) C dX7_settle_67 (by decide) (by omega) (by omega) (fun c14 => ?_) (fun c14 => ?_)
                · skip
                  refine z_iinc (L' := [(3, z_v (i3 + 1)), (4, z_v n11), (0, .ref (ad 18)), (1, z_v i1), (2, z_v i2)]) C 4 dX7_settle_85 rfl (by decide) rfl ?_
                  refine z_goto (t := 26) C dX7_settle_88 (by decide) ?_
                  refine z_loc (L' := [(0, .ref (ad 18)), (1, z_v i1), (2, z_v i2), (3, z_v (i3 + 1))]) [2, 3, 4, 0] rfl ?_
                  exact ih26 i1 (i3 + 1) fa_earliest Hfa_earliest (by omega) (by omega) (by omega)
                · skip
                  refine z_aloadn C 1 dX7_settle_70 rfl rfl ?_
                  refine z_get C 18 (by decide) rfl rfl z_it7 0 (by decide) rfl fl_7_9 rfl dX7_settle_71 ?_
                  refine z_aloadn C 1 dX7_settle_74 rfl rfl ?_
                  refine z_get C 18 (by decide) rfl rfl z_it7 4 (by decide) rfl fl_7_24 rfl dX7_settle_75 ?_
                  refine z_iloadn C 4 dX7_settle_78 rfl rfl ?_
                  refine z_iald C 23 (by decide) rfl (by decide) (by omega) (by omega) dX7_settle_79 ?_
                  rw [ex12]
                  refine z_iload C 0 dX7_settle_80 rfl ?_
                  refine z_iast C 19 (by decide) rfl (by decide) (by omega) (by omega) dX7_settle_82 ?_
                  refine z_ext (S' := (z_zc ad ks s_edgeCount s_moveCount s_isNeeded s_timesDone s_size s_isGoing s_allTime s_stepCount s_gapCount g_edges g_moves g_limits a_sfacts a_sbounds a_facts a_zone a_most a_places a_amounts a_nextPlaces a_nextAmounts (va_up fa_earliest (x12 : Int).toNat n11) a_visited a_lastSet a_gapFrom a_gapTo a_gapLeast a_askedPlaces a_askedAmounts)) upC_a_earliest ?_
                  have h15 : ∀ j, z_rg ((va_up fa_earliest (x12 : Int).toNat n11) j) := z_upP (P := fun j v => z_rg (v)) Hfa_earliest (by omega)
                  generalize (va_up fa_earliest (x12 : Int).toNat n11) = f16 at h15 ⊢
                  refine z_iconst C dX7_settle_83 ?_
                  refine z_istoren (L' := [(1, z_v 1), (4, z_v n11), (0, .ref (ad 18)), (2, z_v i2), (3, z_v i3)]) C dX7_settle_84 rfl (by decide) rfl ?_
                  refine z_iinc (L' := [(3, z_v (i3 + 1)), (1, z_v 1), (4, z_v n11), (0, .ref (ad 18)), (2, z_v i2)]) C 4 dX7_settle_85 rfl (by decide) rfl ?_
                  refine z_goto (t := 26) C dX7_settle_88 (by decide) ?_
                  refine z_loc (L' := [(0, .ref (ad 18)), (1, z_v 1), (2, z_v i2), (3, z_v (i3 + 1))]) [3, 1, 4, 0] rfl ?_
                  exact ih26 1 (i3 + 1) f16 h15 (by omega) (by omega) (by omega)
          refine z_loc (L' := [(0, .ref (ad 18)), (1, z_v 0), (2, z_v i2), (3, z_v 0)]) [2, 1, 3, 0] rfl ?_
          exact (L26 (((615 : Int) - 0).toNat + 1)) 0 0 fa_earliest Hfa_earliest (by omega) (by omega) (Nat.lt_succ_self _)
  refine z_loc (L' := [(0, .ref (ad 18)), (1, z_v 1), (2, z_v 0)]) [2, 1, 0] rfl ?_
  exact (L12 (((42 : Int) - 0).toNat + 1)) 1 0 n1 h4 (by omega) (by omega) (Nat.lt_succ_self _)
set_option maxRecDepth 20000 in
theorem cm_X7_fill (l : Launch) {D : va_G} {A : Nat → Prop} {ad : Nat → Nat} {ks : z_Ks} {s_edgeCount s_moveCount s_isNeeded s_timesDone s_size s_isGoing s_allTime s_stepCount s_gapCount : Int} {g_edges g_moves g_limits : Nat → Option Nat} {a_sfacts a_sbounds a_facts a_zone a_most a_places a_amounts a_nextPlaces a_nextAmounts a_earliest a_visited a_lastSet a_gapFrom a_gapTo a_gapLeast a_askedPlaces a_askedAmounts : Nat → Int} {Y : Nat → Option va_E} (i0 : Int) (Hs_gapCount : (0 ≤ s_gapCount ∧ s_gapCount ≤ 615)) (Ha_gapFrom : (∀ j, 0 ≤ a_gapFrom j ∧ a_gapFrom j ≤ 40)) (Ha_gapTo : (∀ j, 0 ≤ a_gapTo j ∧ a_gapTo j ≤ 40)) (Ha_gapLeast : (∀ j, z_rg (a_gapLeast j))) (Ha_lastSet : (∀ j, 0 ≤ a_lastSet j ∧ a_lastSet j ≤ 40)) (Ha_visited : (∀ j, 0 ≤ a_visited j ∧ a_visited j ≤ 119)) (Ha_earliest : (∀ j, z_rg (a_earliest j))) (Ha_sfacts : (∀ j, (j % 7 < 3 → 0 ≤ a_sfacts j ∧ a_sfacts j ≤ 5) ∧ (j % 7 = 3 → -1 ≤ a_sfacts j ∧ a_sfacts j ≤ 119) ∧ (j % 7 = 6 → 0 ≤ a_sfacts j ∧ a_sfacts j ≤ 40) ∧ z_rg (a_sfacts j))) (Hs_size : (0 ≤ s_size ∧ s_size ≤ 120)) (Hs_moveCount : (0 ≤ s_moveCount ∧ s_moveCount ≤ 400)) (hi : 0 ≤ i0 ∧ i0 < s_size) (hcc : z_cc s_size a_sfacts) (HM : ∀ j : Nat, (j : Int) < s_moveCount → ∃ q, g_moves j = some q ∧ z_Mv ks Y q) (HL : ∀ j : Nat, (j : Int) < 18 → ∃ q, g_limits j = some q ∧ z_TL ks Y q) : z_Met l yX7_fill cX7_fill 7 none 3 73 0 0 D A 27 ad ks [.ref (ad 18), .ref (ad 1), .ref (ad 6), z_v i0] (z_zc ad ks s_edgeCount s_moveCount s_isNeeded s_timesDone s_size s_isGoing s_allTime s_stepCount s_gapCount g_edges g_moves g_limits a_sfacts a_sbounds a_facts a_zone a_most a_places a_amounts a_nextPlaces a_nextAmounts a_earliest a_visited a_lastSet a_gapFrom a_gapTo a_gapLeast a_askedPlaces a_askedAmounts) Y (fun r S' Y' => ∃ ns_gapCount : Int, ∃ na_gapFrom : Nat → Int, ∃ na_gapTo : Nat → Int, ∃ na_gapLeast : Nat → Int, ∃ na_lastSet : Nat → Int, ∃ na_visited : Nat → Int, ∃ na_earliest : Nat → Int, S' = (z_zc ad ks s_edgeCount s_moveCount s_isNeeded s_timesDone s_size s_isGoing s_allTime s_stepCount ns_gapCount g_edges g_moves g_limits a_sfacts a_sbounds a_facts a_zone a_most a_places a_amounts a_nextPlaces a_nextAmounts na_earliest na_visited na_lastSet na_gapFrom na_gapTo na_gapLeast a_askedPlaces a_askedAmounts) ∧ Y = Y' ∧ (0 ≤ ns_gapCount ∧ ns_gapCount ≤ 615) ∧ (∀ j, 0 ≤ na_gapFrom j ∧ na_gapFrom j ≤ 40) ∧ (∀ j, 0 ≤ na_gapTo j ∧ na_gapTo j ≤ 40) ∧ (∀ j, z_rg (na_gapLeast j)) ∧ (∀ j, 0 ≤ na_lastSet j ∧ na_lastSet j ≤ 40) ∧ (∀ j, 0 ≤ na_visited j ∧ na_visited j ≤ 119) ∧ (∀ j, z_rg (na_earliest j)) ∧ r = none) := by
  refine z_start2 (by decide) (Nat.le_of_ble_eq_true rfl) ?_
  intro p e R s m args below meth c Q C hRf hRc hRs hRl hQ hrt hnm
  refine z_loc (L' := [(0, .ref (ad 18)), (1, .ref (ad 1)), (2, .ref (ad 6)), (3, z_v i0)]) [0, 1, 2, 3] rfl ?_
  refine z_aloadn C 2 dX7_fill_0 rfl rfl ?_
  refine z_iloadn C 3 dX7_fill_1 rfl rfl ?_
  refine z_bipush C dX7_fill_2 (by decide) ?_
  refine z_callV C (cm_X4_fact l i0 6 Ha_sfacts (by omega) (by omega)) mv_7_30 (z_atS 6 4 (by decide) rfl rfl rfl) pd_X4_fact ⟨by omega, by omega⟩ ⟨by omega, by omega⟩ rfl (Nat.le_of_ble_eq_true rfl) dX7_fill_4 ?_
  rintro _ _ _ ⟨rfl, rfl, z3, rfl, hz3⟩
  have qs := hz3.1
  refine z_bipush C dX7_fill_7 (by decide) ?_
  refine z_min C mm_7_36 (by omega) (by omega) (by omega) (by rw [hRl]; exact Nat.le_of_ble_eq_true rfl) (by omega) (by omega) dX7_fill_9 ?_
  obtain ⟨x4, ex4⟩ : ∃ z : Int, z = (if 40 < z3 then 40 else z3) := ⟨_, rfl⟩
  rw [← ex4]
  have rx4 : (x4 = z3 ∨ x4 = 40) ∧ z3 ≥ x4 ∧ 40 ≥ x4 := by split at ex4 <;> omega
  refine z_istore (L' := [(4, z_v x4), (0, .ref (ad 18)), (1, .ref (ad 1)), (2, .ref (ad 6)), (3, z_v i0)]) C dX7_fill_12 (by decide) rfl ?_
  refine z_aloadn C 1 dX7_fill_14 rfl rfl ?_
  refine z_aloadn C 3 dX7_fill_15 rfl rfl ?_
  refine z_iloadn C 4 dX7_fill_16 rfl rfl ?_
  refine z_iload C 0 dX7_fill_17 rfl ?_
  refine z_callV C (cm_X7_visit l i0 x4 (by omega) Ha_sfacts Ha_visited (by omega) (by omega) hcc) mv_7_41 (z_atS 18 7 (by decide) rfl rfl rfl) pd_X7_visit ⟨by omega, by omega⟩ ⟨by omega, by omega⟩ rfl (Nat.le_of_ble_eq_true rfl) dX7_fill_19 ?_
  rintro _ _ _ ⟨n5, rfl, rfl, h8, rfl⟩
  refine z_aloadn C 1 dX7_fill_22 rfl rfl ?_
  refine z_iconst C dX7_fill_23 ?_
  refine z_put C 18 (by decide) rfl rfl z_it7 tyX7 tyX7_ok nmX7 6 (by decide) rfl (Or.inl rfl) fl_7_45 z_pfI rfl rfl (Nat.le_of_ble_eq_true rfl) dX7_fill_24 ?_
  refine z_ext (S' := (z_zc ad ks s_edgeCount s_moveCount s_isNeeded s_timesDone s_size s_isGoing s_allTime s_stepCount 0 g_edges g_moves g_limits a_sfacts a_sbounds a_facts a_zone a_most a_places a_amounts a_nextPlaces a_nextAmounts a_earliest n5 a_lastSet a_gapFrom a_gapTo a_gapLeast a_askedPlaces a_askedAmounts)) upC_s_gapCount ?_
  refine z_aloadn C 1 dX7_fill_27 rfl rfl ?_
  refine z_get C 18 (by decide) rfl rfl z_it7 2 (by decide) rfl fl_7_18 rfl dX7_fill_28 ?_
  refine z_iconst C dX7_fill_31 ?_
  refine z_callS C (cm_J7_fill_53178_21 l 0 Ha_lastSet (by omega)) mv_7_49 pd_J7_fill_53178 ⟨by omega, by omega⟩ ⟨by omega, by omega⟩ rfl (Nat.le_of_ble_eq_true rfl) dX7_fill_32 ?_
  rintro _ _ _ ⟨n9, rfl, rfl, h12, q32_0, rfl⟩
  refine z_iconst C dX7_fill_35 ?_
  refine z_istore (L' := [(5, z_v 1), (4, z_v x4), (0, .ref (ad 18)), (1, .ref (ad 1)), (2, .ref (ad 6)), (3, z_v i0)]) C dX7_fill_36 (by decide) rfl ?_
  have L38 : ∀ (n : Nat), ∀ (i5 : Int) (fs_gapCount : Int) (fa_gapFrom : Nat → Int) (fa_gapTo : Nat → Int) (fa_gapLeast : Nat → Int) (fa_lastSet : Nat → Int), ((0 ≤ fs_gapCount ∧ fs_gapCount ≤ 615)) → ((∀ j, 0 ≤ fa_gapFrom j ∧ fa_gapFrom j ≤ 40)) → ((∀ j, 0 ≤ fa_gapTo j ∧ fa_gapTo j ≤ 40)) → ((∀ j, z_rg (fa_gapLeast j))) → ((∀ j, 0 ≤ fa_lastSet j ∧ fa_lastSet j ≤ 40)) → (1 ≤ i5 ∧ i5 ≤ 41) → ((41 : Int) - i5).toNat < n → z_V p l e R s m args below meth c Q D A 27 ad 7 (z_zc ad ks s_edgeCount s_moveCount s_isNeeded s_timesDone s_size s_isGoing s_allTime s_stepCount fs_gapCount g_edges g_moves g_limits a_sfacts a_sbounds a_facts a_zone a_most a_places a_amounts a_nextPlaces a_nextAmounts a_earliest n5 fa_lastSet fa_gapFrom fa_gapTo fa_gapLeast a_askedPlaces a_askedAmounts) Y 0 0 38 [(0, .ref (ad 18)), (1, .ref (ad 1)), (2, .ref (ad 6)), (4, z_v x4), (5, z_v i5)] [] := by
    intro n
    induction n with
    | zero => intro i5 fs_gapCount fa_gapFrom fa_gapTo fa_gapLeast fa_lastSet Hfs_gapCount Hfa_gapFrom Hfa_gapTo Hfa_gapLeast Hfa_lastSet I5 hm; exact absurd hm (Nat.not_lt_zero _)
    | succ n ih38 =>
      intro i5 fs_gapCount fa_gapFrom fa_gapTo fa_gapLeast fa_lastSet Hfs_gapCount Hfa_gapFrom Hfa_gapTo Hfa_gapLeast Hfa_lastSet I5 hm
      refine z_iload C 4 dX7_fill_38 rfl ?_
      refine z_iload C 3 dX7_fill_40 rfl ?_
      refine z_icmp_gt (t := 112) C dX7_fill_42 (by decide) (by omega) (by omega) (fun c13 => ?_) (fun c13 => ?_)
      · skip
        refine z_aloadn C 0 dX7_fill_112 rfl rfl ?_
        refine z_aloadn C 1 dX7_fill_113 rfl rfl ?_
        refine z_aloadn C 2 dX7_fill_114 rfl rfl ?_
        refine z_aloadn C 0 dX7_fill_115 rfl rfl ?_
        refine z_get C 18 (by decide) rfl rfl z_it7 1 (by decide) rfl fl_7_15 rfl dX7_fill_116 ?_
        refine z_iload C 3 dX7_fill_119 rfl ?_
        refine z_iald C 20 (by decide) rfl (by decide) (by omega) (by omega) dX7_fill_121 ?_
        have rx14 := h8 (x4 : Int).toNat
        generalize ex14 : n5 (x4 : Int).toNat = x14 at rx14 ⊢
        refine z_iload C 3 dX7_fill_122 rfl ?_
        refine z_callV C (cm_X7_addLimits l x14 x4 (by omega) Hfa_gapFrom Hfa_gapTo Hfa_gapLeast Hfa_lastSet Ha_sfacts (by omega) (by omega) HL) mv_7_59 (z_atS 18 7 (by decide) rfl rfl rfl) pd_X7_addLimits ⟨by omega, by omega⟩ ⟨by omega, by omega⟩ rfl (Nat.le_of_ble_eq_true rfl) dX7_fill_124 ?_
        rintro _ _ _ ⟨n15, n16, n17, n18, rfl, rfl, h21, h22, h23, h24, rfl⟩
        refine z_aloadn C 0 dX7_fill_127 rfl rfl ?_
        refine z_callV C (cm_X7_settle l (by omega) h22 h23 h24 Ha_earliest) mv_7_73 (z_atS 18 7 (by decide) rfl rfl rfl) pd_X7_settle ⟨by omega, by omega⟩ ⟨by omega, by omega⟩ rfl (Nat.le_of_ble_eq_true rfl) dX7_fill_128 ?_
        rintro _ _ _ ⟨n25, rfl, rfl, h28, rfl⟩
        rw [hQ]
        exact z_vret C hrt dX7_fill_131 (⟨n15, n16, n17, n18, fa_lastSet, n5, n25, rfl, rfl, by omega, h22, h23, h24, Hfa_lastSet, h8, h28, rfl⟩) (by omega) (by omega)
      · skip
        refine z_aloadn C 0 dX7_fill_45 rfl rfl ?_
        refine z_iload C 4 dX7_fill_46 rfl ?_
        refine z_iconst C dX7_fill_48 ?_
        refine z_isub C dX7_fill_49 ?_
        refine z_iload C 4 dX7_fill_50 rfl ?_
        refine z_iconst C dX7_fill_52 ?_
        refine z_callV C (cm_X7_addGap l (i5 - 1) i5 0 (by omega) Hfa_gapFrom Hfa_gapTo Hfa_gapLeast (by omega) (by omega) (by omega)) mv_7_55 (z_atS 18 7 (by decide) rfl rfl rfl) pd_X7_addGap ⟨by omega, by omega⟩ ⟨by omega, by omega⟩ rfl (Nat.le_of_ble_eq_true rfl) dX7_fill_53 ?_
        rintro _ _ _ ⟨n29, n30, n31, n32, rfl, rfl, h35, h36, h37, h38, rfl⟩
        refine z_aloadn C 0 dX7_fill_56 rfl rfl ?_
        refine z_aloadn C 1 dX7_fill_57 rfl rfl ?_
        refine z_aloadn C 2 dX7_fill_58 rfl rfl ?_
        refine z_aloadn C 0 dX7_fill_59 rfl rfl ?_
        refine z_get C 18 (by decide) rfl rfl z_it7 1 (by decide) rfl fl_7_15 rfl dX7_fill_60 ?_
        refine z_iload C 4 dX7_fill_63 rfl ?_
        refine z_iconst C dX7_fill_65 ?_
        refine z_isub C dX7_fill_66 ?_
        refine z_iald C 20 (by decide) rfl (by decide) (by omega) (by omega) dX7_fill_67 ?_
        have rx39 := h8 ((i5 - 1) : Int).toNat
        generalize ex39 : n5 ((i5 - 1) : Int).toNat = x39 at rx39 ⊢
        refine z_iload C 4 dX7_fill_68 rfl ?_
        refine z_callV C (cm_X7_addLimits l x39 i5 (by omega) h36 h37 h38 Hfa_lastSet Ha_sfacts (by omega) (by omega) HL) mv_7_59 (z_atS 18 7 (by decide) rfl rfl rfl) pd_X7_addLimits ⟨by omega, by omega⟩ ⟨by omega, by omega⟩ rfl (Nat.le_of_ble_eq_true rfl) dX7_fill_70 ?_
        rintro _ _ _ ⟨n40, n41, n42, n43, rfl, rfl, h46, h47, h48, h49, rfl⟩
        refine z_aloadn C 0 dX7_fill_73 rfl rfl ?_
        refine z_get C 18 (by decide) rfl rfl z_it7 1 (by decide) rfl fl_7_15 rfl dX7_fill_74 ?_
        refine z_iload C 4 dX7_fill_77 rfl ?_
        refine z_iald C 20 (by decide) rfl (by decide) (by omega) (by omega) dX7_fill_79 ?_
        have rx50 := h8 (i5 : Int).toNat
        generalize ex50 : n5 (i5 : Int).toNat = x50 at rx50 ⊢
        refine z_istore (L' := [(6, z_v x50), (0, .ref (ad 18)), (1, .ref (ad 1)), (2, .ref (ad 6)), (4, z_v x4), (5, z_v i5)]) C dX7_fill_80 (by decide) rfl ?_
        refine z_aloadn C 1 dX7_fill_82 rfl rfl ?_
        refine z_aloadn C 2 dX7_fill_83 rfl rfl ?_
        refine z_aloadn C 3 dX7_fill_84 rfl rfl ?_
        refine z_iload C 0 dX7_fill_85 rfl ?_
        refine z_iconst C dX7_fill_87 ?_
        refine z_callV C (cm_X4_fact l x50 4 Ha_sfacts (by omega) (by omega)) mv_7_30 (z_atS 6 4 (by decide) rfl rfl rfl) pd_X4_fact ⟨by omega, by omega⟩ ⟨by omega, by omega⟩ rfl (Nat.le_of_ble_eq_true rfl) dX7_fill_88 ?_
        rintro _ _ _ ⟨rfl, rfl, z53, rfl, hz53⟩
        refine z_aloadn C 3 dX7_fill_91 rfl rfl ?_
        refine z_iload C 0 dX7_fill_92 rfl ?_
        refine z_iconst C dX7_fill_94 ?_
        refine z_callV C (cm_X4_fact l x50 5 Ha_sfacts (by omega) (by omega)) mv_7_30 (z_atS 6 4 (by decide) rfl rfl rfl) pd_X4_fact ⟨by omega, by omega⟩ ⟨by omega, by omega⟩ rfl (Nat.le_of_ble_eq_true rfl) dX7_fill_95 ?_
        rintro _ _ _ ⟨rfl, rfl, z56, rfl, hz56⟩
        refine z_callV C (cm_X2_find l z53 z56 (by omega) (by omega) (by omega) HM) mv_7_63 (z_atS 1 2 (by decide) rfl rfl rfl) pd_X2_find ⟨by omega, by omega⟩ ⟨by omega, by omega⟩ rfl (Nat.le_of_ble_eq_true rfl) dX7_fill_98 ?_
        rintro _ _ _ ⟨rfl, rfl, rfl | ⟨q57, rfl, hq57⟩⟩
        · skip
          refine z_iload C 5 dX7_fill_101 rfl ?_
          refine z_callV C (cm_X7_addStep_n l i5) mv_7_69 (z_atS 18 7 (by decide) rfl rfl rfl) pd_X7_addStep ⟨by omega, by omega⟩ ⟨by omega, by omega⟩ rfl (Nat.le_of_ble_eq_true rfl) dX7_fill_103 ?_
          rintro _ _ _ ⟨rfl, rfl, rfl⟩
          refine z_iinc (L' := [(5, z_v (i5 + 1)), (6, z_v x50), (0, .ref (ad 18)), (1, .ref (ad 1)), (2, .ref (ad 6)), (4, z_v x4)]) C 5 dX7_fill_106 rfl (by decide) rfl ?_
          refine z_goto (t := 38) C dX7_fill_109 (by decide) ?_
          refine z_loc (L' := [(0, .ref (ad 18)), (1, .ref (ad 1)), (2, .ref (ad 6)), (4, z_v x4), (5, z_v (i5 + 1))]) [2, 3, 4, 5, 0] rfl ?_
          exact ih38 (i5 + 1) n40 n41 n42 n43 fa_lastSet (by omega) h47 h48 h49 Hfa_lastSet (by omega) (by omega)
        · skip
          refine z_iload C 5 dX7_fill_101 rfl ?_
          refine z_callV C (cm_X7_addStep l i5 q57 (by omega) h47 h48 h49 Hfa_lastSet hq57 (by omega)) mv_7_69 (z_atS 18 7 (by decide) rfl rfl rfl) pd_X7_addStep ⟨by omega, by omega⟩ ⟨by omega, by omega⟩ rfl (Nat.le_of_ble_eq_true rfl) dX7_fill_103 ?_
          rintro _ _ _ ⟨n60, n61, n62, n63, n64, rfl, rfl, h67, h68, h69, h70, h71, rfl⟩
          refine z_iinc (L' := [(5, z_v (i5 + 1)), (6, z_v x50), (0, .ref (ad 18)), (1, .ref (ad 1)), (2, .ref (ad 6)), (4, z_v x4)]) C 5 dX7_fill_106 rfl (by decide) rfl ?_
          refine z_goto (t := 38) C dX7_fill_109 (by decide) ?_
          refine z_loc (L' := [(0, .ref (ad 18)), (1, .ref (ad 1)), (2, .ref (ad 6)), (4, z_v x4), (5, z_v (i5 + 1))]) [2, 3, 4, 5, 0] rfl ?_
          exact ih38 (i5 + 1) n60 n61 n62 n63 n64 (by omega) h68 h69 h70 h71 (by omega) (by omega)
  refine z_loc (L' := [(0, .ref (ad 18)), (1, .ref (ad 1)), (2, .ref (ad 6)), (4, z_v x4), (5, z_v 1)]) [2, 3, 4, 1, 0] rfl ?_
  exact (L38 (((41 : Int) - 1).toNat + 1)) 1 0 a_gapFrom a_gapTo a_gapLeast n9 (by omega) Ha_gapFrom Ha_gapTo Ha_gapLeast h12 (by omega) (Nat.lt_succ_self _)
