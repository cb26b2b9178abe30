theorem z_N.hl {ks : z_Ks} {Y : Nat → Option va_E} {ge gl : Nat → Option Nat} {n : Int} {em ef et ec er gn gt ln lt : Nat → Int} {qe ql qt : Nat → Nat} (h : z_N ks Y ge gl n em ef et ec er gn gt ln lt qe ql qt) : zr_hl ln lt := fun k h0 h1 => ⟨(h.2.1 k h0 h1).2.2.1.1, (h.2.1 k h0 h1).2.tr⟩
theorem z_N.hg {ks : z_Ks} {Y : Nat → Option va_E} {ge gl : Nat → Option Nat} {n : Int} {em ef et ec er gn gt ln lt : Nat → Int} {qe ql qt : Nat → Nat} (h : z_N ks Y ge gl n em ef et ec er gn gt ln lt qe ql qt) : zr_hg n gn gt := fun e h0 h1 => ⟨(h.1 e h0 h1).2.2.2.2.1.1, (h.1 e h0 h1).2.2.2.tr⟩
set_option maxRecDepth 20000 in
theorem cx_X7_addGap (l : Launch) {D : va_G} {A : Nat → Prop} {ad : Nat → Nat} {ks : z_Ks} {s_edgeCount s_moveCount s_isNeeded s_timesDone s_size s_isGoing s_allTime s_stepCount s_gapCount : Int} {g_edges g_moves g_limits : Nat → Option Nat} {a_sfacts a_sbounds a_facts a_zone a_most a_places a_amounts a_nextPlaces a_nextAmounts a_earliest a_visited a_lastSet a_gapFrom a_gapTo a_gapLeast a_askedPlaces a_askedAmounts : Nat → Int} {Y : Nat → Option va_E} (f0 t0 l0 : Int) (Hs_gapCount : (0 ≤ s_gapCount ∧ s_gapCount ≤ 615)) (Ha_gapFrom : (∀ j, 0 ≤ a_gapFrom j ∧ a_gapFrom j ≤ 40)) (Ha_gapTo : (∀ j, 0 ≤ a_gapTo j ∧ a_gapTo j ≤ 40)) (Ha_gapLeast : (∀ j, z_rg (a_gapLeast j))) (hf : 0 ≤ f0 ∧ f0 ≤ 40) (ht : 0 ≤ t0 ∧ t0 ≤ 40) (hl : z_rg l0) (hc : s_gapCount ≤ 614) : z_Met l yX7_addGap cX7_addGap 4 none 0 0 0 0 D A 27 ad ks [.ref (ad 18), z_v f0, z_v t0, z_v l0] (z_zc ad ks s_edgeCount s_moveCount s_isNeeded s_timesDone s_size s_isGoing s_allTime s_stepCount s_gapCount g_edges g_moves g_limits a_sfacts a_sbounds a_facts a_zone a_most a_places a_amounts a_nextPlaces a_nextAmounts a_earliest a_visited a_lastSet a_gapFrom a_gapTo a_gapLeast a_askedPlaces a_askedAmounts) Y (fun r S' Y' => ∃ na_gapFrom : Nat → Int, ∃ na_gapTo : Nat → Int, ∃ na_gapLeast : Nat → Int, S' = (z_zc ad ks s_edgeCount s_moveCount s_isNeeded s_timesDone s_size s_isGoing s_allTime s_stepCount (s_gapCount + 1) g_edges g_moves g_limits a_sfacts a_sbounds a_facts a_zone a_most a_places a_amounts a_nextPlaces a_nextAmounts a_earliest a_visited a_lastSet na_gapFrom na_gapTo na_gapLeast a_askedPlaces a_askedAmounts) ∧ Y = Y' ∧ (∀ j, 0 ≤ na_gapFrom j ∧ na_gapFrom j ≤ 40) ∧ (∀ j, 0 ≤ na_gapTo j ∧ na_gapTo j ≤ 40) ∧ (∀ j, z_rg (na_gapLeast j)) ∧ (∀ b a w, zs_G (s_gapCount + 1) na_gapFrom na_gapTo na_gapLeast b a w ↔ zs_G s_gapCount a_gapFrom a_gapTo a_gapLeast b a w ∨ zs_e1 f0.toNat t0.toNat l0 b a w) ∧ r = none) := by
  refine z_start2 (by decide) (Nat.le_of_ble_eq_true rfl) ?_
  intro p e R s m args below meth c Q C hRf hRc hRs hRl hQ hrt hnm
  refine z_loc (L' := [(0, .ref (ad 18)), (1, z_v f0), (2, z_v t0), (3, z_v l0)]) [0, 1, 2, 3] rfl ?_
  refine z_aloadn C 0 dX7_addGap_0 rfl rfl ?_
  refine z_get C 18 (by decide) rfl rfl z_it7 6 (by decide) rfl fl_7_45 rfl dX7_addGap_1 ?_
  refine z_sipush C dX7_addGap_4 (by decide) ?_
  refine z_icmp_ge (t := 50) C dX7_addGap_7 (by decide) (by omega) (by omega) (fun c1 => ?_) (fun c1 => ?_)
  · skip
    omega
  · skip
    refine z_aloadn C 0 dX7_addGap_10 rfl rfl ?_
    refine z_get C 18 (by decide) rfl rfl z_it7 3 (by decide) rfl fl_7_21 rfl dX7_addGap_11 ?_
    refine z_aloadn C 0 dX7_addGap_14 rfl rfl ?_
    refine z_get C 18 (by decide) rfl rfl z_it7 6 (by decide) rfl fl_7_45 rfl dX7_addGap_15 ?_
    refine z_iloadn C 1 dX7_addGap_18 rfl rfl ?_
    refine z_iast C 22 (by decide) rfl (by decide) (by omega) (by omega) dX7_addGap_19 ?_
    refine z_ext (S' := (z_zc ad ks s_edgeCount s_moveCount s_isNeeded s_timesDone s_size s_isGoing s_allTime s_stepCount s_gapCount g_edges g_moves g_limits a_sfacts a_sbounds a_facts a_zone a_most a_places a_amounts a_nextPlaces a_nextAmounts a_earliest a_visited a_lastSet (va_up a_gapFrom (s_gapCount : Int).toNat f0) a_gapTo a_gapLeast a_askedPlaces a_askedAmounts)) upC_a_gapFrom ?_
    have h2 : ∀ j, 0 ≤ (va_up a_gapFrom (s_gapCount : Int).toNat f0) j ∧ (va_up a_gapFrom (s_gapCount : Int).toNat f0) j ≤ 40 := z_upP (P := fun j v => 0 ≤ v ∧ v ≤ 40) Ha_gapFrom (by omega)
    refine z_aloadn C 0 dX7_addGap_20 rfl rfl ?_
    refine z_get C 18 (by decide) rfl rfl z_it7 4 (by decide) rfl fl_7_24 rfl dX7_addGap_21 ?_
    refine z_aloadn C 0 dX7_addGap_24 rfl rfl ?_
    refine z_get C 18 (by decide) rfl rfl z_it7 6 (by decide) rfl fl_7_45 rfl dX7_addGap_25 ?_
    refine z_iloadn C 2 dX7_addGap_28 rfl rfl ?_
    refine z_iast C 23 (by decide) rfl (by decide) (by omega) (by omega) dX7_addGap_29 ?_
    refine z_ext (S' := (z_zc ad ks s_edgeCount s_moveCount s_isNeeded s_timesDone s_size s_isGoing s_allTime s_stepCount s_gapCount g_edges g_moves g_limits a_sfacts a_sbounds a_facts a_zone a_most a_places a_amounts a_nextPlaces a_nextAmounts a_earliest a_visited a_lastSet (va_up a_gapFrom (s_gapCount : Int).toNat f0) (va_up a_gapTo (s_gapCount : Int).toNat t0) a_gapLeast a_askedPlaces a_askedAmounts)) upC_a_gapTo ?_
    have h3 : ∀ j, 0 ≤ (va_up a_gapTo (s_gapCount : Int).toNat t0) j ∧ (va_up a_gapTo (s_gapCount : Int).toNat t0) j ≤ 40 := z_upP (P := fun j v => 0 ≤ v ∧ v ≤ 40) Ha_gapTo (by omega)
    refine z_aloadn C 0 dX7_addGap_30 rfl rfl ?_
    refine z_get C 18 (by decide) rfl rfl z_it7 5 (by decide) rfl fl_7_27 rfl dX7_addGap_31 ?_
    refine z_aloadn C 0 dX7_addGap_34 rfl rfl ?_
    refine z_get C 18 (by decide) rfl rfl z_it7 6 (by decide) rfl fl_7_45 rfl dX7_addGap_35 ?_
    refine z_iloadn C 3 dX7_addGap_38 rfl rfl ?_
    refine z_iast C 24 (by decide) rfl (by decide) (by omega) (by omega) dX7_addGap_39 ?_
    refine z_ext (S' := (z_zc ad ks s_edgeCount s_moveCount s_isNeeded s_timesDone s_size s_isGoing s_allTime s_stepCount s_gapCount g_edges g_moves g_limits a_sfacts a_sbounds a_facts a_zone a_most a_places a_amounts a_nextPlaces a_nextAmounts a_earliest a_visited a_lastSet (va_up a_gapFrom (s_gapCount : Int).toNat f0) (va_up a_gapTo (s_gapCount : Int).toNat t0) (va_up a_gapLeast (s_gapCount : Int).toNat l0) a_askedPlaces a_askedAmounts)) upC_a_gapLeast ?_
    have h4 : ∀ j, z_rg ((va_up a_gapLeast (s_gapCount : Int).toNat l0) j) := z_upP (P := fun j v => z_rg (v)) Ha_gapLeast (by omega)
    refine z_aloadn C 0 dX7_addGap_40 rfl rfl ?_
    refine z_dup C dX7_addGap_41 rfl ?_
    refine z_get C 18 (by decide) rfl rfl z_it7 6 (by decide) rfl fl_7_45 rfl dX7_addGap_42 ?_
    refine z_iconst C dX7_addGap_45 ?_
    refine z_iadd C dX7_addGap_46 ?_
    refine z_put C 18 (by decide) rfl rfl z_it7 tyX7 tyX7_ok nmX7 6 (by decide) rfl (Or.inl rfl) fl_7_45 z_pfI rfl rfl (Nat.le_of_ble_eq_true rfl) dX7_addGap_47 ?_
    refine z_ext (S' := (z_zc ad ks s_edgeCount s_moveCount s_isNeeded s_timesDone s_size s_isGoing s_allTime s_stepCount (s_gapCount + 1) g_edges g_moves g_limits a_sfacts a_sbounds a_facts a_zone a_most a_places a_amounts a_nextPlaces a_nextAmounts a_earliest a_visited a_lastSet (va_up a_gapFrom (s_gapCount : Int).toNat f0) (va_up a_gapTo (s_gapCount : Int).toNat t0) (va_up a_gapLeast (s_gapCount : Int).toNat l0) a_askedPlaces a_askedAmounts)) upC_s_gapCount ?_
    rw [hQ]
    exact z_vret C hrt dX7_addGap_50 (⟨(va_up a_gapFrom (s_gapCount : Int).toNat f0), (va_up a_gapTo (s_gapCount : Int).toNat t0), (va_up a_gapLeast (s_gapCount : Int).toNat l0), rfl, rfl, h2, h3, h4, fun b a w => zs_G_add (by omega) (by omega) (by omega), rfl⟩) (by omega) (by omega)
set_option maxRecDepth 20000 in
theorem cx_X7_addTests (l : Launch) {D : va_G} {A : Nat → Prop} {ad : Nat → Nat} {ks : z_Ks} {s_edgeCount s_moveCount s_isNeeded s_timesDone s_size s_isGoing s_allTime s_stepCount s_gapCount : Int} {g_edges g_moves g_limits : Nat → Option Nat} {a_sfacts a_sbounds a_facts a_zone a_most a_places a_amounts a_nextPlaces a_nextAmounts a_earliest a_visited a_lastSet a_gapFrom a_gapTo a_gapLeast a_askedPlaces a_askedAmounts : Nat → Int} {Y : Nat → Option va_E} {t : Nat} {n0 o0 : Int} {T : Nat → Int} (k0 : Int) (q : Nat) (Hs_gapCount : (0 ≤ s_gapCount ∧ s_gapCount ≤ 615)) (Ha_gapFrom : (∀ j, 0 ≤ a_gapFrom j ∧ a_gapFrom j ≤ 40)) (Ha_gapTo : (∀ j, 0 ≤ a_gapTo j ∧ a_gapTo j ≤ 40)) (Ha_gapLeast : (∀ j, z_rg (a_gapLeast j))) (Ha_lastSet : (∀ j, 0 ≤ a_lastSet j ∧ a_lastSet j ≤ 40)) (hq : z_TX ks Y q t n0 T o0) (hk : 0 ≤ k0 ∧ k0 ≤ 40) (hcA : s_gapCount + 2 * n0 ≤ 615 ∨ ((∀ j : Int, 0 ≤ j → j < n0 → T (o0 + 3 * j + 1).toNat ≤ 1) ∧ s_gapCount + n0 ≤ 615)) : z_Met l yX7_addTests cX7_addTests 6 none 1 23 0 0 D A 27 ad ks [.ref (ad 18), .ref q, z_v k0] (z_zc ad ks s_edgeCount s_moveCount s_isNeeded s_timesDone s_size s_isGoing s_allTime s_stepCount s_gapCount g_edges g_moves g_limits a_sfacts a_sbounds a_facts a_zone a_most a_places a_amounts a_nextPlaces a_nextAmounts a_earliest a_visited a_lastSet a_gapFrom a_gapTo a_gapLeast a_askedPlaces a_askedAmounts) Y (fun r S' Y' => ∃ ns_gapCount : Int, ∃ na_gapFrom : Nat → Int, ∃ na_gapTo : Nat → Int, ∃ na_gapLeast : Nat → Int, S' = (z_zc ad ks s_edgeCount s_moveCount s_isNeeded s_timesDone s_size s_isGoing s_allTime s_stepCount ns_gapCount g_edges g_moves g_limits a_sfacts a_sbounds a_facts a_zone a_most a_places a_amounts a_nextPlaces a_nextAmounts a_earliest a_visited a_lastSet na_gapFrom na_gapTo na_gapLeast a_askedPlaces a_askedAmounts) ∧ Y = Y' ∧ (0 ≤ ns_gapCount ∧ ns_gapCount ≤ 615) ∧ (∀ j, 0 ≤ na_gapFrom j ∧ na_gapFrom j ≤ 40) ∧ (∀ j, 0 ≤ na_gapTo j ∧ na_gapTo j ≤ 40) ∧ (∀ j, z_rg (na_gapLeast j)) ∧ (∀ b a w, zs_G ns_gapCount na_gapFrom na_gapTo na_gapLeast b a w ↔ zs_G s_gapCount a_gapFrom a_gapTo a_gapLeast b a w ∨ zs_tsE n0 T o0 (fun x => (a_lastSet x).toNat) k0.toNat b a w) ∧ (0 ≤ ns_gapCount ∧ ns_gapCount ≤ s_gapCount + 2 * n0 ∧ ((∀ j : Int, 0 ≤ j → j < n0 → T (o0 + 3 * j + 1).toNat ≤ 1) → ns_gapCount ≤ s_gapCount + n0)) ∧ r = none) := by
  refine z_start2 (by decide) (Nat.le_of_ble_eq_true rfl) ?_
  intro p e R s m args below meth c Q C hRf hRc hRs hRl hQ hrt hnm
  refine z_loc (L' := [(0, .ref (ad 18)), (1, .ref q), (2, z_v k0)]) [0, 1, 2] rfl ?_
  have hn0 := hq.2.1
  refine z_iconst C dX7_addTests_0 ?_
  refine z_istoren (L' := [(3, z_v 0), (0, .ref (ad 18)), (1, .ref q), (2, z_v k0)]) C dX7_addTests_1 rfl (by decide) rfl ?_
  have L2 : ∀ (n : Nat), ∀ (i3 : Int) (fs_gapCount : Int) (fa_gapFrom : Nat → Int) (fa_gapTo : Nat → Int) (fa_gapLeast : Nat → Int), ((0 ≤ fs_gapCount ∧ fs_gapCount ≤ 615)) → ((∀ j, 0 ≤ fa_gapFrom j ∧ fa_gapFrom j ≤ 40)) → ((∀ j, 0 ≤ fa_gapTo j ∧ fa_gapTo j ≤ 40)) → ((∀ j, z_rg (fa_gapLeast j))) → (i3 ≤ n0) → ((∀ b a w, zs_G fs_gapCount fa_gapFrom fa_gapTo fa_gapLeast b a w ↔ zs_G s_gapCount a_gapFrom a_gapTo a_gapLeast b a w ∨ zs_tsE i3 T o0 (fun x => (a_lastSet x).toNat) k0.toNat b a w)) → ((0 ≤ fs_gapCount ∧ fs_gapCount ≤ s_gapCount + 2 * i3 ∧ ((∀ j : Int, 0 ≤ j → j < n0 → T (o0 + 3 * j + 1).toNat ≤ 1) → fs_gapCount ≤ s_gapCount + i3))) → (0 ≤ i3 ∧ i3 ≤ 2) → ((2 : Int) - i3).toNat < n → z_V p l e R s m args below meth c Q D A 27 ad 6 (z_zc ad ks s_edgeCount s_moveCount s_isNeeded s_timesDone s_size s_isGoing s_allTime s_stepCount fs_gapCount g_edges g_moves g_limits a_sfacts a_sbounds a_facts a_zone a_most a_places a_amounts a_nextPlaces a_nextAmounts a_earliest a_visited a_lastSet fa_gapFrom fa_gapTo fa_gapLeast a_askedPlaces a_askedAmounts) Y 0 0 2 [(0, .ref (ad 18)), (1, .ref q), (2, z_v k0), (3, z_v i3)] [] := by
    intro n
    induction n with
    | zero => intro i3 fs_gapCount fa_gapFrom fa_gapTo fa_gapLeast Hfs_gapCount Hfa_gapFrom Hfa_gapTo Hfa_gapLeast J3 GG CG I3 hm; exact absurd hm (Nat.not_lt_zero _)
    | succ n ih2 =>
      intro i3 fs_gapCount fa_gapFrom fa_gapTo fa_gapLeast Hfs_gapCount Hfa_gapFrom Hfa_gapTo Hfa_gapLeast J3 GG CG I3 hm
      refine z_iloadn C 3 dX7_addTests_2 rfl rfl ?_
      refine z_aloadn C 1 dX7_addTests_3 rfl rfl ?_
      obtain ⟨yd1, ad1, gd1, wd1, bd1⟩ := id hq
      refine z_getY C yd1 rfl z_it6 1 (by decide) rfl fl_7_103 rfl dX7_addTests_4 ?_
      refine z_icmp_ge (t := 77) C dX7_addTests_7 (by decide) (by omega) (by omega) (fun c2 => ?_) (fun c2 => ?_)
      · skip
        rw [hQ]
        exact z_vret C hrt dX7_addTests_77 (⟨fs_gapCount, fa_gapFrom, fa_gapTo, fa_gapLeast, rfl, rfl, by omega, Hfa_gapFrom, Hfa_gapTo, Hfa_gapLeast, by rw [show n0 = i3 by omega]; exact GG, by rw [show n0 = i3 by omega] at CG ⊢; exact CG, rfl⟩) (by omega) (by omega)
      · skip
        refine z_aloadn C 1 dX7_addTests_10 rfl rfl ?_
        refine z_getY C yd1 rfl z_it6 0 (by decide) rfl fl_7_108 rfl dX7_addTests_11 ?_
        refine z_iloadn C 3 dX7_addTests_14 rfl rfl ?_
        obtain ⟨q3, cq3, sq3, nq3, eq3, yq3, ⟨ecq3, esq3, enq3⟩, rq3⟩ := bd1 i3 (by omega) (by omega)
        obtain ⟨cQ, hcQ⟩ : ∃ v : Int, v = cq3 := ⟨_, rfl⟩
        obtain ⟨sQ, hsQ⟩ : ∃ v : Int, v = sq3 := ⟨_, rfl⟩
        obtain ⟨mQ, hmQ⟩ : ∃ v : Int, v = nq3 := ⟨_, rfl⟩
        have tQ : (T (o0 + 3 * i3).toNat = cQ ∧ T (o0 + 3 * i3 + 1).toNat = sQ ∧ T (o0 + 3 * i3 + 2).toNat = mQ) ∧ (1 ≤ cQ ∧ cQ ≤ 3) ∧ (0 ≤ sQ ∧ sQ ≤ 4) ∧ 0 ≤ mQ ∧ mQ ≤ 1000 := by rw [hcQ, hsQ, hmQ]; exact ⟨⟨ecq3, esq3, enq3⟩, by omega, by omega, by omega⟩
        refine z_aaldT C 4 wd1 rfl (by decide) (by omega) (by omega) eq3 dX7_addTests_15 ?_
        refine z_astore (L' := [(4, .ref q3), (0, .ref (ad 18)), (1, .ref q), (2, z_v k0), (3, z_v i3)]) C dX7_addTests_16 (by decide) rfl ?_
        refine z_aloadn C 1 dX7_addTests_18 rfl rfl ?_
        refine z_get C 18 (by decide) rfl rfl z_it7 2 (by decide) rfl fl_7_18 rfl dX7_addTests_19 ?_
        refine z_aload C 0 dX7_addTests_22 rfl ?_
        refine z_getY C yq3 rfl z_it5 0 (by decide) rfl fl_7_112 rfl dX7_addTests_24 ?_
        refine z_iald C 21 (by decide) rfl (by decide) (by omega) (by omega) dX7_addTests_27 ?_
        have rx4 := Ha_lastSet (cq3 : Int).toNat
        generalize ex4 : a_lastSet (cq3 : Int).toNat = x4 at rx4 ⊢
        have hsc : (x4 : Int).toNat = (fun x => (a_lastSet x).toNat) cQ.toNat := by rw [hcQ]; show _ = (a_lastSet _).toNat; rw [ex4]
        refine z_istore (L' := [(5, z_v x4), (4, .ref q3), (0, .ref (ad 18)), (1, .ref q), (2, z_v k0), (3, z_v i3)]) C dX7_addTests_28 (by decide) rfl ?_
        refine z_aload C 1 dX7_addTests_30 rfl ?_
        refine z_callV C (cx_X5_isCeiling l q3 yq3 (by omega)) mv_7_117 (z_atY 5 yq3 rfl rfl) pd_X5_isCeiling ⟨by omega, by omega⟩ ⟨by omega, by omega⟩ rfl (Nat.le_of_ble_eq_true rfl) dX7_addTests_32 ?_
        rintro _ _ _ ⟨rfl, rfl, z7, rfl, hz7⟩
        refine z_if_eq (t := 51) C dX7_addTests_35 (by decide) (by omega) (fun c8 => ?_) (fun c8 => ?_)
        · skip
          refine z_aload C 1 dX7_addTests_51 rfl ?_
          refine z_callV C (cx_X5_isFloor l q3 yq3 (by omega)) mv_7_125 (z_atY 5 yq3 rfl rfl) pd_X5_isFloor ⟨by omega, by omega⟩ ⟨by omega, by omega⟩ rfl (Nat.le_of_ble_eq_true rfl) dX7_addTests_53 ?_
          rintro _ _ _ ⟨rfl, rfl, z11, rfl, hz11⟩
          refine z_if_eq (t := 71) C dX7_addTests_56 (by decide) (by omega) (fun c12 => ?_) (fun c12 => ?_)
          · skip
            refine z_iinc (L' := [(3, z_v (i3 + 1)), (5, z_v x4), (4, .ref q3), (0, .ref (ad 18)), (1, .ref q), (2, z_v k0)]) C 5 dX7_addTests_71 rfl (by decide) rfl ?_
            refine z_goto (t := 2) C dX7_addTests_74 (by decide) ?_
            refine z_loc (L' := [(0, .ref (ad 18)), (1, .ref q), (2, z_v k0), (3, z_v (i3 + 1))]) [3, 4, 5, 0] rfl ?_
            exact ih2 (i3 + 1) fs_gapCount fa_gapFrom fa_gapTo fa_gapLeast (by omega) Hfa_gapFrom Hfa_gapTo Hfa_gapLeast (by omega) (by first | exact zs_g2 (by omega) tQ.1 hsc (by omega) (by omega) (by omega) GG q48_0 q68_0 | exact zs_g1 (by omega) tQ.1 hsc (by omega) (by split <;> omega) GG q48_0 | exact zs_g3 (by omega) tQ.1 hsc (by omega) (by split <;> omega) GG q68_0 | (exfalso; omega)) (⟨by omega, by omega, fun q => by have q1 := CG.2.2 q; have q2 := q i3 (by omega) (by omega); rw [tQ.1.2.1] at q2; omega⟩) (by omega) (by omega)
          · skip
            refine z_aloadn C 2 dX7_addTests_59 rfl rfl ?_
            refine z_iload C 0 dX7_addTests_60 rfl ?_
            refine z_iloadn C 4 dX7_addTests_62 rfl rfl ?_
            refine z_aload C 1 dX7_addTests_63 rfl ?_
            refine z_callV C (cx_X5_leastParts l q3 yq3 (by omega)) mv_7_128 (z_atY 5 yq3 rfl rfl) pd_X5_leastParts ⟨by omega, by omega⟩ ⟨by omega, by omega⟩ rfl (Nat.le_of_ble_eq_true rfl) dX7_addTests_65 ?_
            rintro _ _ _ ⟨rfl, rfl, z15, rfl, hz15⟩
            have hc68 : fs_gapCount ≤ 614 := hcA.elim (fun q => by omega) (fun q => by have q1 := CG.2.2 q.1; have q2 := q.1 i3 (by omega) (by omega); rw [tQ.1.2.1] at q2; omega)
            refine z_callV C (cx_X7_addGap l x4 k0 z15 (by omega) Hfa_gapFrom Hfa_gapTo Hfa_gapLeast (by omega) (by omega) (by omega) (by omega)) mv_7_55 (z_atS 18 7 (by decide) rfl rfl rfl) pd_X7_addGap ⟨by omega, by omega⟩ ⟨by omega, by omega⟩ rfl (Nat.le_of_ble_eq_true rfl) dX7_addTests_68 ?_
            rintro _ _ _ ⟨n16, n17, n18, rfl, rfl, h21, h22, h23, q68_0, rfl⟩
            refine z_iinc (L' := [(3, z_v (i3 + 1)), (5, z_v x4), (4, .ref q3), (0, .ref (ad 18)), (1, .ref q), (2, z_v k0)]) C 5 dX7_addTests_71 rfl (by decide) rfl ?_
            refine z_goto (t := 2) C dX7_addTests_74 (by decide) ?_
            refine z_loc (L' := [(0, .ref (ad 18)), (1, .ref q), (2, z_v k0), (3, z_v (i3 + 1))]) [3, 4, 5, 0] rfl ?_
            exact ih2 (i3 + 1) (fs_gapCount + 1) n16 n17 n18 (by omega) h21 h22 h23 (by omega) (by first | exact zs_g2 (by omega) tQ.1 hsc (by omega) (by omega) (by omega) GG q48_0 q68_0 | exact zs_g1 (by omega) tQ.1 hsc (by omega) (by split <;> omega) GG q48_0 | exact zs_g3 (by omega) tQ.1 hsc (by omega) (by split <;> omega) GG q68_0 | (exfalso; omega)) (⟨by omega, by omega, fun q => by have q1 := CG.2.2 q; have q2 := q i3 (by omega) (by omega); rw [tQ.1.2.1] at q2; omega⟩) (by omega) (by omega)
        · skip
          refine z_aloadn C 2 dX7_addTests_38 rfl rfl ?_
          refine z_iloadn C 4 dX7_addTests_39 rfl rfl ?_
          refine z_iload C 0 dX7_addTests_40 rfl ?_
          refine z_aload C 1 dX7_addTests_42 rfl ?_
          refine z_callV C (cx_X5_mostParts l q3 yq3 (by omega)) mv_7_121 (z_atY 5 yq3 rfl rfl) pd_X5_mostParts ⟨by omega, by omega⟩ ⟨by omega, by omega⟩ rfl (Nat.le_of_ble_eq_true rfl) dX7_addTests_44 ?_
          rintro _ _ _ ⟨rfl, rfl, z26, rfl, hz26⟩
          refine z_ineg C dX7_addTests_47 ?_
          have hc48 : fs_gapCount ≤ 614 := hcA.elim (fun q => by omega) (fun q => by have q1 := CG.2.2 q.1; have q2 := q.1 i3 (by omega) (by omega); rw [tQ.1.2.1] at q2; omega)
          refine z_callV C (cx_X7_addGap l k0 x4 (-z26) (by omega) Hfa_gapFrom Hfa_gapTo Hfa_gapLeast (by omega) (by omega) (by omega) (by omega)) mv_7_55 (z_atS 18 7 (by decide) rfl rfl rfl) pd_X7_addGap ⟨by omega, by omega⟩ ⟨by omega, by omega⟩ rfl (Nat.le_of_ble_eq_true rfl) dX7_addTests_48 ?_
          rintro _ _ _ ⟨n27, n28, n29, rfl, rfl, h32, h33, h34, q48_0, rfl⟩
          refine z_aload C 1 dX7_addTests_51 rfl ?_
          refine z_callV C (cx_X5_isFloor l q3 yq3 (by omega)) mv_7_125 (z_atY 5 yq3 rfl rfl) pd_X5_isFloor ⟨by omega, by omega⟩ ⟨by omega, by omega⟩ rfl (Nat.le_of_ble_eq_true rfl) dX7_addTests_53 ?_
          rintro _ _ _ ⟨rfl, rfl, z37, rfl, hz37⟩
          refine z_if_eq (t := 71) C dX7_addTests_56 (by decide) (by omega) (fun c38 => ?_) (fun c38 => ?_)
          · skip
            refine z_iinc (L' := [(3, z_v (i3 + 1)), (5, z_v x4), (4, .ref q3), (0, .ref (ad 18)), (1, .ref q), (2, z_v k0)]) C 5 dX7_addTests_71 rfl (by decide) rfl ?_
            refine z_goto (t := 2) C dX7_addTests_74 (by decide) ?_
            refine z_loc (L' := [(0, .ref (ad 18)), (1, .ref q), (2, z_v k0), (3, z_v (i3 + 1))]) [3, 4, 5, 0] rfl ?_
            exact ih2 (i3 + 1) (fs_gapCount + 1) n27 n28 n29 (by omega) h32 h33 h34 (by omega) (by first | exact zs_g2 (by omega) tQ.1 hsc (by omega) (by omega) (by omega) GG q48_0 q68_0 | exact zs_g1 (by omega) tQ.1 hsc (by omega) (by split <;> omega) GG q48_0 | exact zs_g3 (by omega) tQ.1 hsc (by omega) (by split <;> omega) GG q68_0 | (exfalso; omega)) (⟨by omega, by omega, fun q => by have q1 := CG.2.2 q; have q2 := q i3 (by omega) (by omega); rw [tQ.1.2.1] at q2; omega⟩) (by omega) (by omega)
          · skip
            refine z_aloadn C 2 dX7_addTests_59 rfl rfl ?_
            refine z_iload C 0 dX7_addTests_60 rfl ?_
            refine z_iloadn C 4 dX7_addTests_62 rfl rfl ?_
            refine z_aload C 1 dX7_addTests_63 rfl ?_
            refine z_callV C (cx_X5_leastParts l q3 yq3 (by omega)) mv_7_128 (z_atY 5 yq3 rfl rfl) pd_X5_leastParts ⟨by omega, by omega⟩ ⟨by omega, by omega⟩ rfl (Nat.le_of_ble_eq_true rfl) dX7_addTests_65 ?_
            rintro _ _ _ ⟨rfl, rfl, z41, rfl, hz41⟩
            have hc68 : (fs_gapCount + 1) ≤ 614 := hcA.elim (fun q => by omega) (fun q => by have q1 := CG.2.2 q.1; have q2 := q.1 i3 (by omega) (by omega); rw [tQ.1.2.1] at q2; omega)
            refine z_callV C (cx_X7_addGap l x4 k0 z41 (by omega) h32 h33 h34 (by omega) (by omega) (by omega) (by omega)) mv_7_55 (z_atS 18 7 (by decide) rfl rfl rfl) pd_X7_addGap ⟨by omega, by omega⟩ ⟨by omega, by omega⟩ rfl (Nat.le_of_ble_eq_true rfl) dX7_addTests_68 ?_
            rintro _ _ _ ⟨n42, n43, n44, rfl, rfl, h47, h48, h49, q68_0, rfl⟩
            refine z_iinc (L' := [(3, z_v (i3 + 1)), (5, z_v x4), (4, .ref q3), (0, .ref (ad 18)), (1, .ref q), (2, z_v k0)]) C 5 dX7_addTests_71 rfl (by decide) rfl ?_
            refine z_goto (t := 2) C dX7_addTests_74 (by decide) ?_
            refine z_loc (L' := [(0, .ref (ad 18)), (1, .ref q), (2, z_v k0), (3, z_v (i3 + 1))]) [3, 4, 5, 0] rfl ?_
            exact ih2 (i3 + 1) ((fs_gapCount + 1) + 1) n42 n43 n44 (by omega) h47 h48 h49 (by omega) (by first | exact zs_g2 (by omega) tQ.1 hsc (by omega) (by omega) (by omega) GG q48_0 q68_0 | exact zs_g1 (by omega) tQ.1 hsc (by omega) (by split <;> omega) GG q48_0 | exact zs_g3 (by omega) tQ.1 hsc (by omega) (by split <;> omega) GG q68_0 | (exfalso; omega)) (⟨by omega, by omega, fun q => by have q1 := CG.2.2 q; have q2 := q i3 (by omega) (by omega); rw [tQ.1.2.1] at q2; omega⟩) (by omega) (by omega)
  refine z_loc (L' := [(0, .ref (ad 18)), (1, .ref q), (2, z_v k0), (3, z_v 0)]) [1, 2, 3, 0] rfl ?_
  exact (L2 (((2 : Int) - 0).toNat + 1)) 0 s_gapCount a_gapFrom a_gapTo a_gapLeast (by omega) Ha_gapFrom Ha_gapTo Ha_gapLeast (by omega) (fun b a w => ⟨Or.inl, fun h => Or.resolve_right h (zs_tsE_0 (by omega))⟩) (⟨by omega, by omega, fun _ => by omega⟩) (by omega) (Nat.lt_succ_self _)
set_option maxRecDepth 20000 in
theorem cx_X7_addLimits (l : Launch) {D : va_G} {A : Nat → Prop} {ad : Nat → Nat} {ks : z_Ks} {s_edgeCount s_moveCount s_isNeeded s_timesDone s_size s_isGoing s_allTime s_stepCount s_gapCount : Int} {g_edges g_moves g_limits : Nat → Option Nat} {a_sfacts a_sbounds a_facts a_zone a_most a_places a_amounts a_nextPlaces a_nextAmounts a_earliest a_visited a_lastSet a_gapFrom a_gapTo a_gapLeast a_askedPlaces a_askedAmounts : Nat → Int} {Y : Nat → Option va_E} {em ef et ec er gn gt ln lt : Nat → Int} {qe ql qt : Nat → Nat} (m0 k0 : Int) (Hs_gapCount : (0 ≤ s_gapCount ∧ s_gapCount ≤ 615)) (Ha_gapFrom : (∀ j, 0 ≤ a_gapFrom j ∧ a_gapFrom j ≤ 40)) (Ha_gapTo : (∀ j, 0 ≤ a_gapTo j ∧ a_gapTo j ≤ 40)) (Ha_gapLeast : (∀ j, z_rg (a_gapLeast j))) (Ha_lastSet : (∀ j, 0 ≤ a_lastSet j ∧ a_lastSet j ≤ 40)) (Ha_sfacts : (∀ j, (j % 7 < 3 → 0 ≤ a_sfacts j ∧ a_sfacts j ≤ 5) ∧ (j % 7 = 3 → -1 ≤ a_sfacts j ∧ a_sfacts j ≤ 119) ∧ (j % 7 = 6 → 0 ≤ a_sfacts j ∧ a_sfacts j ≤ 40) ∧ z_rg (a_sfacts j))) (hm : 0 ≤ m0 ∧ m0 ≤ 119) (hk : 0 ≤ k0 ∧ k0 ≤ 40) (HN : z_N ks Y g_edges g_limits s_edgeCount em ef et ec er gn gt ln lt qe ql qt) (hlc : zs_lc ln lt) (hc : s_gapCount ≤ 609) : z_Met l yX7_addLimits cX7_addLimits 6 none 2 48 0 0 D A 27 ad ks [.ref (ad 18), .ref (ad 1), .ref (ad 6), z_v m0, z_v k0] (z_zc ad ks s_edgeCount s_moveCount s_isNeeded s_timesDone s_size s_isGoing s_allTime s_stepCount s_gapCount g_edges g_moves g_limits a_sfacts a_sbounds a_facts a_zone a_most a_places a_amounts a_nextPlaces a_nextAmounts a_earliest a_visited a_lastSet a_gapFrom a_gapTo a_gapLeast a_askedPlaces a_askedAmounts) Y (fun r S' Y' => ∃ ns_gapCount : Int, ∃ na_gapFrom : Nat → Int, ∃ na_gapTo : Nat → Int, ∃ na_gapLeast : Nat → Int, S' = (z_zc ad ks s_edgeCount s_moveCount s_isNeeded s_timesDone s_size s_isGoing s_allTime s_stepCount ns_gapCount g_edges g_moves g_limits a_sfacts a_sbounds a_facts a_zone a_most a_places a_amounts a_nextPlaces a_nextAmounts a_earliest a_visited a_lastSet na_gapFrom na_gapTo na_gapLeast a_askedPlaces a_askedAmounts) ∧ Y = Y' ∧ (0 ≤ ns_gapCount ∧ ns_gapCount ≤ 615) ∧ (∀ j, 0 ≤ na_gapFrom j ∧ na_gapFrom j ≤ 40) ∧ (∀ j, 0 ≤ na_gapTo j ∧ na_gapTo j ≤ 40) ∧ (∀ j, z_rg (na_gapLeast j)) ∧ (∀ b a w, zs_G ns_gapCount na_gapFrom na_gapTo na_gapLeast b a w ↔ zs_G s_gapCount a_gapFrom a_gapTo a_gapLeast b a w ∨ zs_liP 3 ln lt (fun m => a_sfacts (7 * m0.toNat + m)) (fun x => (a_lastSet x).toNat) k0.toNat b a w) ∧ (0 ≤ ns_gapCount ∧ ns_gapCount ≤ s_gapCount + 6) ∧ r = none) := by
  refine z_start2 (by decide) (Nat.le_of_ble_eq_true rfl) ?_
  intro p e R s m args below meth c Q C hRf hRc hRs hRl hQ hrt hnm
  refine z_loc (L' := [(0, .ref (ad 18)), (1, .ref (ad 1)), (2, .ref (ad 6)), (3, z_v m0), (4, z_v k0)]) [0, 1, 2, 3, 4] rfl ?_
  refine z_iconst C dX7_addLimits_0 ?_
  refine z_istore (L' := [(5, z_v 0), (0, .ref (ad 18)), (1, .ref (ad 1)), (2, .ref (ad 6)), (3, z_v m0), (4, z_v k0)]) C dX7_addLimits_1 (by decide) rfl ?_
  have L3 : ∀ (n : Nat), ∀ (i5 : Int) (fs_gapCount : Int) (fa_gapFrom : Nat → Int) (fa_gapTo : Nat → Int) (fa_gapLeast : Nat → Int), ((0 ≤ fs_gapCount ∧ fs_gapCount ≤ 615)) → ((∀ j, 0 ≤ fa_gapFrom j ∧ fa_gapFrom j ≤ 40)) → ((∀ j, 0 ≤ fa_gapTo j ∧ fa_gapTo j ≤ 40)) → ((∀ j, z_rg (fa_gapLeast j))) → ((∀ b a w, zs_G fs_gapCount fa_gapFrom fa_gapTo fa_gapLeast b a w ↔ zs_G s_gapCount a_gapFrom a_gapTo a_gapLeast b a w ∨ zs_liP i5 ln lt (fun m => a_sfacts (7 * m0.toNat + m)) (fun x => (a_lastSet x).toNat) k0.toNat b a w)) → (0 ≤ fs_gapCount ∧ fs_gapCount ≤ s_gapCount + 2 * i5) → (0 ≤ i5 ∧ i5 ≤ 3) → ((3 : Int) - i5).toNat < n → z_V p l e R s m args below meth c Q D A 27 ad 6 (z_zc ad ks s_edgeCount s_moveCount s_isNeeded s_timesDone s_size s_isGoing s_allTime s_stepCount fs_gapCount g_edges g_moves g_limits a_sfacts a_sbounds a_facts a_zone a_most a_places a_amounts a_nextPlaces a_nextAmounts a_earliest a_visited a_lastSet fa_gapFrom fa_gapTo fa_gapLeast a_askedPlaces a_askedAmounts) Y 0 0 3 [(0, .ref (ad 18)), (1, .ref (ad 1)), (2, .ref (ad 6)), (3, z_v m0), (4, z_v k0), (5, z_v i5)] [] := by
    intro n
    induction n with
    | zero => intro i5 fs_gapCount fa_gapFrom fa_gapTo fa_gapLeast Hfs_gapCount Hfa_gapFrom Hfa_gapTo Hfa_gapLeast GG CG I5 hm; exact absurd hm (Nat.not_lt_zero _)
    | succ n ih3 =>
      intro i5 fs_gapCount fa_gapFrom fa_gapTo fa_gapLeast Hfs_gapCount Hfa_gapFrom Hfa_gapTo Hfa_gapLeast GG CG I5 hm
      refine z_iload C 5 dX7_addLimits_3 rfl ?_
      refine z_iconst C dX7_addLimits_5 ?_
      refine z_icmp_ge (t := 34) C dX7_addLimits_6 (by decide) (by omega) (by omega) (fun c1 => ?_) (fun c1 => ?_)
      · skip
        rw [hQ]
        exact z_vret C hrt dX7_addLimits_34 (⟨fs_gapCount, fa_gapFrom, fa_gapTo, fa_gapLeast, rfl, rfl, by omega, Hfa_gapFrom, Hfa_gapTo, Hfa_gapLeast, by rw [show (3 : Int) = i5 by omega]; exact GG, by omega, rfl⟩) (by omega) (by omega)
      · skip
        refine z_aloadn C 0 dX7_addLimits_9 rfl rfl ?_
        refine z_aloadn C 1 dX7_addLimits_10 rfl rfl ?_
        refine z_iload C 5 dX7_addLimits_11 rfl ?_
        refine z_aloadn C 2 dX7_addLimits_13 rfl rfl ?_
        refine z_iloadn C 3 dX7_addLimits_14 rfl rfl ?_
        refine z_iload C 5 dX7_addLimits_15 rfl ?_
        refine z_callV C (cm_X4_fact l m0 i5 Ha_sfacts (by omega) (by omega)) mv_7_30 (z_atS 6 4 (by decide) rfl rfl rfl) pd_X4_fact ⟨by omega, by omega⟩ ⟨by omega, by omega⟩ rfl (Nat.le_of_ble_eq_true rfl) dX7_addLimits_17 ?_
        rintro _ _ _ ⟨rfl, rfl, z4, rfl, hz4⟩
        have ep : a_sfacts (7 * m0.toNat + (i5 : Int).toNat) = z4 := by rw [hz4.1]; congr 1; omega
        have hr17 := hz4.2
        have hl17 := (HN.2.1 (6 * i5 + z4 : Int) (by omega) (by omega)).2.2.1
        refine z_callV C (cx_X2_limitsOf l i5 z4 (by omega) (by omega) HN) mv_7_99 (z_atS 1 2 (by decide) rfl rfl rfl) pd_X2_limitsOf ⟨by omega, by omega⟩ ⟨by omega, by omega⟩ rfl (Nat.le_of_ble_eq_true rfl) dX7_addLimits_20 ?_
        rintro _ _ _ ⟨rfl, rfl, rfl⟩
        have t5 := (HN.2.1 (6 * i5 + z4) (by omega) (by omega)).2
        refine z_iload C 4 dX7_addLimits_23 rfl ?_
        refine z_callV C (cx_X7_addTests l k0 (ql (20 + (6 * i5 + z4 : Int).toNat)) (by omega) Hfa_gapFrom Hfa_gapTo Hfa_gapLeast Ha_lastSet t5 (by omega) (Or.inr ⟨fun j j0 j1 => hlc _ (by omega) (by omega) j j0 j1, by omega⟩)) mv_7_88 (z_atS 18 7 (by decide) rfl rfl rfl) pd_X7_addTests ⟨by omega, by omega⟩ ⟨by omega, by omega⟩ rfl (Nat.le_of_ble_eq_true rfl) dX7_addLimits_25 ?_
        rintro _ _ _ ⟨n6, n7, n8, n9, rfl, rfl, h12, h13, h14, h15, q25_0, q25_1, rfl⟩
        have hn25 := q25_1.2.2 (fun j j0 j1 => hlc _ (by omega) (by omega) j j0 j1)
        refine z_iinc (L' := [(5, z_v (i5 + 1)), (0, .ref (ad 18)), (1, .ref (ad 1)), (2, .ref (ad 6)), (3, z_v m0), (4, z_v k0)]) C 5 dX7_addLimits_28 rfl (by decide) rfl ?_
        refine z_goto (t := 3) C dX7_addLimits_31 (by decide) ?_
        refine z_loc (L' := [(0, .ref (ad 18)), (1, .ref (ad 1)), (2, .ref (ad 6)), (3, z_v m0), (4, z_v k0), (5, z_v (i5 + 1))]) [1, 2, 3, 4, 5, 0] rfl ?_
        exact ih3 (i5 + 1) n6 n7 n8 n9 (by omega) h13 h14 h15 (zs_gL (by omega) GG (by show ∀ b a w, _ ↔ _ ∨ zs_tsE (ln (6 * i5 + a_sfacts (7 * m0.toNat + (i5 : Int).toNat)).toNat) lt (6 * (6 * i5 + a_sfacts (7 * m0.toNat + (i5 : Int).toNat))) _ _ b a w; rw [ep]; exact q25_0)) (by omega) (by omega) (by omega)
  refine z_loc (L' := [(0, .ref (ad 18)), (1, .ref (ad 1)), (2, .ref (ad 6)), (3, z_v m0), (4, z_v k0), (5, z_v 0)]) [1, 2, 3, 4, 5, 0] rfl ?_
  exact (L3 (((3 : Int) - 0).toNat + 1)) 0 s_gapCount a_gapFrom a_gapTo a_gapLeast (by omega) Ha_gapFrom Ha_gapTo Ha_gapLeast (fun b a w => ⟨Or.inl, fun h => Or.resolve_right h (fun ⟨m, m0, m1, _⟩ => by omega)⟩) (by omega) (by omega) (Nat.lt_succ_self _)
set_option maxRecDepth 20000 in
theorem cx_X7_addStep (l : Launch) {D : va_G} {A : Nat → Prop} {ad : Nat → Nat} {ks : z_Ks} {s_edgeCount s_moveCount s_isNeeded s_timesDone s_size s_isGoing s_allTime s_stepCount s_gapCount : Int} {g_edges g_moves g_limits : Nat → Option Nat} {a_sfacts a_sbounds a_facts a_zone a_most a_places a_amounts a_nextPlaces a_nextAmounts a_earliest a_visited a_lastSet a_gapFrom a_gapTo a_gapLeast a_askedPlaces a_askedAmounts : Nat → Int} {Y : Nat → Option va_E} {em ef et ec er gn gt ln lt : Nat → Int} {qe ql qt : Nat → Nat} {f0 s0 : Int} (k0 : Int) (q : Nat) (Hs_gapCount : (0 ≤ s_gapCount ∧ s_gapCount ≤ 615)) (Ha_gapFrom : (∀ j, 0 ≤ a_gapFrom j ∧ a_gapFrom j ≤ 40)) (Ha_gapTo : (∀ j, 0 ≤ a_gapTo j ∧ a_gapTo j ≤ 40)) (Ha_gapLeast : (∀ j, z_rg (a_gapLeast j))) (Ha_lastSet : (∀ j, 0 ≤ a_lastSet j ∧ a_lastSet j ≤ 40)) (Hs_edgeCount : 0 ≤ s_edgeCount ∧ s_edgeCount ≤ 20) (hq : z_MX Y q f0 s0 s_edgeCount qe er) (HN : z_N ks Y g_edges g_limits s_edgeCount em ef et ec er gn gt ln lt qe ql qt) (hk : 0 ≤ k0 ∧ k0 ≤ 40) (hc : s_gapCount ≤ 607) : z_Met l yX7_addStep cX7_addStep 4 none 2 48 0 0 D A 27 ad ks [.ref (ad 18), .ref q, z_v k0] (z_zc ad ks s_edgeCount s_moveCount s_isNeeded s_timesDone s_size s_isGoing s_allTime s_stepCount s_gapCount g_edges g_moves g_limits a_sfacts a_sbounds a_facts a_zone a_most a_places a_amounts a_nextPlaces a_nextAmounts a_earliest a_visited a_lastSet a_gapFrom a_gapTo a_gapLeast a_askedPlaces a_askedAmounts) Y (fun r S' Y' => ∃ ns_gapCount : Int, ∃ na_gapFrom : Nat → Int, ∃ na_gapTo : Nat → Int, ∃ na_gapLeast : Nat → Int, ∃ na_lastSet : Nat → Int, S' = (z_zc ad ks s_edgeCount s_moveCount s_isNeeded s_timesDone s_size s_isGoing s_allTime s_stepCount ns_gapCount g_edges g_moves g_limits a_sfacts a_sbounds a_facts a_zone a_most a_places a_amounts a_nextPlaces a_nextAmounts a_earliest a_visited na_lastSet na_gapFrom na_gapTo na_gapLeast a_askedPlaces a_askedAmounts) ∧ Y = Y' ∧ (0 ≤ ns_gapCount ∧ ns_gapCount ≤ 615) ∧ (∀ j, 0 ≤ na_gapFrom j ∧ na_gapFrom j ≤ 40) ∧ (∀ j, 0 ≤ na_gapTo j ∧ na_gapTo j ≤ 40) ∧ (∀ j, z_rg (na_gapLeast j)) ∧ (∀ j, 0 ≤ na_lastSet j ∧ na_lastSet j ≤ 40) ∧ (∀ b a w, zs_G ns_gapCount na_gapFrom na_gapTo na_gapLeast b a w ↔ zs_G s_gapCount a_gapFrom a_gapTo a_gapLeast b a w ∨ zs_guE gn gt f0 s0 (fun x => (a_lastSet x).toNat) k0.toNat b a w) ∧ (0 ≤ ns_gapCount ∧ ns_gapCount ≤ s_gapCount + 8) ∧ (∀ x : Nat, 1 ≤ x → x < 4 → na_lastSet x = if z_btv (z_or er f0 s0) x ≠ 0 then k0 else a_lastSet x) ∧ r = none) := by
  refine z_start2 (by decide) (Nat.le_of_ble_eq_true rfl) ?_
  intro p e R s m args below meth c Q C hRf hRc hRs hRl hQ hrt hnm
  refine z_loc (L' := [(0, .ref (ad 18)), (1, .ref q), (2, z_v k0)]) [0, 1, 2] rfl ?_
  obtain ⟨rq, yq, aq, bq, cq⟩ := id hq
  obtain ⟨_, ye, re, te⟩ := HN.1 f0 (by omega) (by omega)
  by_cases hs : s0 = -1
  · rw [if_pos hs] at yq
    refine z_aloadn C 1 dX7_addStep_0 rfl rfl ?_
    refine z_ifnonnull (t := 5) C dX7_addStep_1 (by decide) ?_
    refine z_aloadn C 0 dX7_addStep_5 rfl rfl ?_
    refine z_aloadn C 1 dX7_addStep_6 rfl rfl ?_
    refine z_getY C yq rfl z_it1 2 (by decide) rfl fl_7_76 rfl dX7_addStep_7 ?_
    refine z_getY C ye rfl z_it0 5 (by decide) rfl fl_7_82 rfl dX7_addStep_10 ?_
    refine z_iloadn C 2 dX7_addStep_13 rfl rfl ?_
    have hn14 := te.2.1
    refine z_callV C (cx_X7_addTests l k0 (ql f0.toNat) (by omega) Ha_gapFrom Ha_gapTo Ha_gapLeast Ha_lastSet te (by omega) (Or.inl (by omega))) mv_7_88 (z_atS 18 7 (by decide) rfl rfl rfl) pd_X7_addTests ⟨by omega, by omega⟩ ⟨by omega, by omega⟩ rfl (Nat.le_of_ble_eq_true rfl) dX7_addStep_14 ?_
    rintro _ _ _ ⟨n1, n2, n3, n4, rfl, rfl, h7, h8, h9, h10, q14_0, q14_1, rfl⟩
    have cc14 := q14_1.2.1
    have cd14 := q14_1.1
    refine z_aloadn C 1 dX7_addStep_17 rfl rfl ?_
    refine z_getY C yq rfl z_it1 3 (by decide) rfl fl_7_92 rfl dX7_addStep_18 ?_
    refine z_ifnullN (t := 36) C dX7_addStep_21 (by decide) ?_
    first | (have cc33 := q33_1.2.1; have cd33 := q33_1.1) | skip
    refine z_iconst C dX7_addStep_36 ?_
    refine z_istoren (L' := [(3, z_v 1), (0, .ref (ad 18)), (1, .ref q), (2, z_v k0)]) C dX7_addStep_37 rfl (by decide) rfl ?_
    have L38 : ∀ (n : Nat), ∀ (i3 : Int) (fa_lastSet : Nat → Int), ((∀ j, 0 ≤ fa_lastSet j ∧ fa_lastSet j ≤ 40)) → (∀ x : Nat, 1 ≤ x → (x : Int) < i3 → fa_lastSet x = if z_btv (z_or er f0 s0) x ≠ 0 then k0 else a_lastSet x) → (∀ x : Nat, i3 ≤ (x : Int) → fa_lastSet x = a_lastSet x) → (1 ≤ i3 ∧ i3 ≤ 4) → ((4 : Int) - i3).toNat < n → z_V p l e R s m args below meth c Q D A 27 ad 4 (z_zc ad ks s_edgeCount s_moveCount s_isNeeded s_timesDone s_size s_isGoing s_allTime s_stepCount n1 g_edges g_moves g_limits a_sfacts a_sbounds a_facts a_zone a_most a_places a_amounts a_nextPlaces a_nextAmounts a_earliest a_visited fa_lastSet n2 n3 n4 a_askedPlaces a_askedAmounts) Y 0 0 38 [(0, .ref (ad 18)), (1, .ref q), (2, z_v k0), (3, z_v i3)] [] := by
      intro n
      induction n with
      | zero => intro i3 fa_lastSet Hfa_lastSet FL FR I3 hm; exact absurd hm (Nat.not_lt_zero _)
      | succ n ih38 =>
        intro i3 fa_lastSet Hfa_lastSet FL FR I3 hm
        refine z_iloadn C 3 dX7_addStep_38 rfl rfl ?_
        refine z_iconst C dX7_addStep_39 ?_
        refine z_icmp_ge (t := 64) C dX7_addStep_40 (by decide) (by omega) (by omega) (fun c11 => ?_) (fun c11 => ?_)
        · skip
          rw [hQ]
          exact z_vret C hrt dX7_addStep_64 (⟨n1, n2, n3, n4, fa_lastSet, rfl, rfl, by omega, h8, h9, h10, Hfa_lastSet, by first | exact zs_gu2 hs q14_0 q33_0 | exact zs_gu1 hs q14_0, by omega, fun x h1 h4 => FL x h1 (by omega), rfl⟩) (by omega) (by omega)
        · skip
          refine z_aloadn C 1 dX7_addStep_43 rfl rfl ?_
          refine z_iloadn C 3 dX7_addStep_44 rfl rfl ?_
          refine z_callV C (cx_X1_sets l i3 q (by omega) (by omega)) mv_7_95 (z_atY 1 yq rfl rfl) pd_X1_sets ⟨by omega, by omega⟩ ⟨by omega, by omega⟩ rfl (Nat.le_of_ble_eq_true rfl) dX7_addStep_45 ?_
          rintro _ _ _ ⟨rfl, rfl, z14, rfl, hz14⟩
          have hse := hz14
          refine z_if_eq (t := 58) C dX7_addStep_48 (by decide) (by omega) (fun c15 => ?_) (fun c15 => ?_)
          · skip
            refine z_iinc (L' := [(3, z_v (i3 + 1)), (0, .ref (ad 18)), (1, .ref q), (2, z_v k0)]) C 3 dX7_addStep_58 rfl (by decide) rfl ?_
            refine z_goto (t := 38) C dX7_addStep_61 (by decide) ?_
            refine z_loc (L' := [(0, .ref (ad 18)), (1, .ref q), (2, z_v k0), (3, z_v (i3 + 1))]) [1, 2, 3, 0] rfl ?_
            exact ih38 (i3 + 1) fa_lastSet Hfa_lastSet (by first | exact (zs_lsF (c := fun x : Nat => z_btv (z_or er f0 s0) x ≠ 0) FL FR (by omega) (by rw [show (((i3 : Int).toNat : Nat) : Int) = i3 by omega]; exact z_isz1 hse (by omega))).1 | exact zs_lsN (c := fun x : Nat => z_btv (z_or er f0 s0) x ≠ 0) FL FR (by omega) (by rw [show (((i3 : Int).toNat : Nat) : Int) = i3 by omega]; exact z_isz0 hse (by omega))) (by first | exact (zs_lsF (c := fun x : Nat => z_btv (z_or er f0 s0) x ≠ 0) FL FR (by omega) (by rw [show (((i3 : Int).toNat : Nat) : Int) = i3 by omega]; exact z_isz1 hse (by omega))).2 | exact fun x h => FR x (by omega)) (by omega) (by omega)
          · skip
            refine z_aloadn C 0 dX7_addStep_51 rfl rfl ?_
            refine z_get C 18 (by decide) rfl rfl z_it7 2 (by decide) rfl fl_7_18 rfl dX7_addStep_52 ?_
            refine z_iloadn C 3 dX7_addStep_55 rfl rfl ?_
            refine z_iloadn C 2 dX7_addStep_56 rfl rfl ?_
            refine z_iast C 21 (by decide) rfl (by decide) (by omega) (by omega) dX7_addStep_57 ?_
            refine z_ext (S' := (z_zc ad ks s_edgeCount s_moveCount s_isNeeded s_timesDone s_size s_isGoing s_allTime s_stepCount n1 g_edges g_moves g_limits a_sfacts a_sbounds a_facts a_zone a_most a_places a_amounts a_nextPlaces a_nextAmounts a_earliest a_visited (va_up fa_lastSet (i3 : Int).toNat k0) n2 n3 n4 a_askedPlaces a_askedAmounts)) upC_a_lastSet ?_
            have h16 : ∀ j, 0 ≤ (va_up fa_lastSet (i3 : Int).toNat k0) j ∧ (va_up fa_lastSet (i3 : Int).toNat k0) j ≤ 40 := z_upP (P := fun j v => 0 ≤ v ∧ v ≤ 40) Hfa_lastSet (by omega)
            refine z_iinc (L' := [(3, z_v (i3 + 1)), (0, .ref (ad 18)), (1, .ref q), (2, z_v k0)]) C 3 dX7_addStep_58 rfl (by decide) rfl ?_
            refine z_goto (t := 38) C dX7_addStep_61 (by decide) ?_
            refine z_loc (L' := [(0, .ref (ad 18)), (1, .ref q), (2, z_v k0), (3, z_v (i3 + 1))]) [1, 2, 3, 0] rfl ?_
            exact ih38 (i3 + 1) (va_up fa_lastSet (i3 : Int).toNat k0) h16 (by first | exact (zs_lsF (c := fun x : Nat => z_btv (z_or er f0 s0) x ≠ 0) FL FR (by omega) (by rw [show (((i3 : Int).toNat : Nat) : Int) = i3 by omega]; exact z_isz1 hse (by omega))).1 | exact zs_lsN (c := fun x : Nat => z_btv (z_or er f0 s0) x ≠ 0) FL FR (by omega) (by rw [show (((i3 : Int).toNat : Nat) : Int) = i3 by omega]; exact z_isz0 hse (by omega))) (by first | exact (zs_lsF (c := fun x : Nat => z_btv (z_or er f0 s0) x ≠ 0) FL FR (by omega) (by rw [show (((i3 : Int).toNat : Nat) : Int) = i3 by omega]; exact z_isz1 hse (by omega))).2 | exact fun x h => FR x (by omega)) (by omega) (by omega)
    refine z_loc (L' := [(0, .ref (ad 18)), (1, .ref q), (2, z_v k0), (3, z_v 1)]) [1, 2, 3, 0] rfl ?_
    exact (L38 (((4 : Int) - 1).toNat + 1)) 1 a_lastSet Ha_lastSet (fun x h1 h2 => absurd h2 (by omega)) (fun x h => rfl) (by omega) (Nat.lt_succ_self _)
  · rw [if_neg hs] at yq
    obtain ⟨_, yf, rf, tf⟩ := HN.1 s0 (by omega) (by omega)
    refine z_aloadn C 1 dX7_addStep_0 rfl rfl ?_
    refine z_ifnonnull (t := 5) C dX7_addStep_1 (by decide) ?_
    refine z_aloadn C 0 dX7_addStep_5 rfl rfl ?_
    refine z_aloadn C 1 dX7_addStep_6 rfl rfl ?_
    refine z_getY C yq rfl z_it1 2 (by decide) rfl fl_7_76 rfl dX7_addStep_7 ?_
    refine z_getY C ye rfl z_it0 5 (by decide) rfl fl_7_82 rfl dX7_addStep_10 ?_
    refine z_iloadn C 2 dX7_addStep_13 rfl rfl ?_
    have hn14 := te.2.1
    refine z_callV C (cx_X7_addTests l k0 (ql f0.toNat) (by omega) Ha_gapFrom Ha_gapTo Ha_gapLeast Ha_lastSet te (by omega) (Or.inl (by omega))) mv_7_88 (z_atS 18 7 (by decide) rfl rfl rfl) pd_X7_addTests ⟨by omega, by omega⟩ ⟨by omega, by omega⟩ rfl (Nat.le_of_ble_eq_true rfl) dX7_addStep_14 ?_
    rintro _ _ _ ⟨n17, n18, n19, n20, rfl, rfl, h23, h24, h25, h26, q14_0, q14_1, rfl⟩
    have cc14 := q14_1.2.1
    have cd14 := q14_1.1
    refine z_aloadn C 1 dX7_addStep_17 rfl rfl ?_
    refine z_getY C yq rfl z_it1 3 (by decide) rfl fl_7_92 rfl dX7_addStep_18 ?_
    refine z_ifnull C dX7_addStep_21 ?_
    refine z_aloadn C 0 dX7_addStep_24 rfl rfl ?_
    refine z_aloadn C 1 dX7_addStep_25 rfl rfl ?_
    refine z_getY C yq rfl z_it1 3 (by decide) rfl fl_7_92 rfl dX7_addStep_26 ?_
    refine z_getY C yf rfl z_it0 5 (by decide) rfl fl_7_82 rfl dX7_addStep_29 ?_
    refine z_iloadn C 2 dX7_addStep_32 rfl rfl ?_
    have hn33 := tf.2.1
    refine z_callV C (cx_X7_addTests l k0 (ql s0.toNat) (by omega) h24 h25 h26 Ha_lastSet tf (by omega) (Or.inl (by omega))) mv_7_88 (z_atS 18 7 (by decide) rfl rfl rfl) pd_X7_addTests ⟨by omega, by omega⟩ ⟨by omega, by omega⟩ rfl (Nat.le_of_ble_eq_true rfl) dX7_addStep_33 ?_
    rintro _ _ _ ⟨n27, n28, n29, n30, rfl, rfl, h33, h34, h35, h36, q33_0, q33_1, rfl⟩
    first | (have cc33 := q33_1.2.1; have cd33 := q33_1.1) | skip
    refine z_iconst C dX7_addStep_36 ?_
    refine z_istoren (L' := [(3, z_v 1), (0, .ref (ad 18)), (1, .ref q), (2, z_v k0)]) C dX7_addStep_37 rfl (by decide) rfl ?_
    have L38 : ∀ (n : Nat), ∀ (i3 : Int) (fa_lastSet : Nat → Int), ((∀ j, 0 ≤ fa_lastSet j ∧ fa_lastSet j ≤ 40)) → (∀ x : Nat, 1 ≤ x → (x : Int) < i3 → fa_lastSet x = if z_btv (z_or er f0 s0) x ≠ 0 then k0 else a_lastSet x) → (∀ x : Nat, i3 ≤ (x : Int) → fa_lastSet x = a_lastSet x) → (1 ≤ i3 ∧ i3 ≤ 4) → ((4 : Int) - i3).toNat < n → z_V p l e R s m args below meth c Q D A 27 ad 4 (z_zc ad ks s_edgeCount s_moveCount s_isNeeded s_timesDone s_size s_isGoing s_allTime s_stepCount n27 g_edges g_moves g_limits a_sfacts a_sbounds a_facts a_zone a_most a_places a_amounts a_nextPlaces a_nextAmounts a_earliest a_visited fa_lastSet n28 n29 n30 a_askedPlaces a_askedAmounts) Y 0 0 38 [(0, .ref (ad 18)), (1, .ref q), (2, z_v k0), (3, z_v i3)] [] := by
      intro n
      induction n with
      | zero => intro i3 fa_lastSet Hfa_lastSet FL FR I3 hm; exact absurd hm (Nat.not_lt_zero _)
      | succ n ih38 =>
        intro i3 fa_lastSet Hfa_lastSet FL FR I3 hm
        refine z_iloadn C 3 dX7_addStep_38 rfl rfl ?_
        refine z_iconst C dX7_addStep_39 ?_
        refine z_icmp_ge (t := 64) C dX7_addStep_40 (by decide) (by omega) (by omega) (fun c37 => ?_) (fun c37 => ?_)
        · skip
          rw [hQ]
          exact z_vret C hrt dX7_addStep_64 (⟨n27, n28, n29, n30, fa_lastSet, rfl, rfl, by omega, h34, h35, h36, Hfa_lastSet, by first | exact zs_gu2 hs q14_0 q33_0 | exact zs_gu1 hs q14_0, by omega, fun x h1 h4 => FL x h1 (by omega), rfl⟩) (by omega) (by omega)
        · skip
          refine z_aloadn C 1 dX7_addStep_43 rfl rfl ?_
          refine z_iloadn C 3 dX7_addStep_44 rfl rfl ?_
          refine z_callV C (cx_X1_sets l i3 q (by omega) (by omega)) mv_7_95 (z_atY 1 yq rfl rfl) pd_X1_sets ⟨by omega, by omega⟩ ⟨by omega, by omega⟩ rfl (Nat.le_of_ble_eq_true rfl) dX7_addStep_45 ?_
          rintro _ _ _ ⟨rfl, rfl, z40, rfl, hz40⟩
          have hse := hz40
          refine z_if_eq (t := 58) C dX7_addStep_48 (by decide) (by omega) (fun c41 => ?_) (fun c41 => ?_)
          · skip
            refine z_iinc (L' := [(3, z_v (i3 + 1)), (0, .ref (ad 18)), (1, .ref q), (2, z_v k0)]) C 3 dX7_addStep_58 rfl (by decide) rfl ?_
            refine z_goto (t := 38) C dX7_addStep_61 (by decide) ?_
            refine z_loc (L' := [(0, .ref (ad 18)), (1, .ref q), (2, z_v k0), (3, z_v (i3 + 1))]) [1, 2, 3, 0] rfl ?_
            exact ih38 (i3 + 1) fa_lastSet Hfa_lastSet (by first | exact (zs_lsF (c := fun x : Nat => z_btv (z_or er f0 s0) x ≠ 0) FL FR (by omega) (by rw [show (((i3 : Int).toNat : Nat) : Int) = i3 by omega]; exact z_isz1 hse (by omega))).1 | exact zs_lsN (c := fun x : Nat => z_btv (z_or er f0 s0) x ≠ 0) FL FR (by omega) (by rw [show (((i3 : Int).toNat : Nat) : Int) = i3 by omega]; exact z_isz0 hse (by omega))) (by first | exact (zs_lsF (c := fun x : Nat => z_btv (z_or er f0 s0) x ≠ 0) FL FR (by omega) (by rw [show (((i3 : Int).toNat : Nat) : Int) = i3 by omega]; exact z_isz1 hse (by omega))).2 | exact fun x h => FR x (by omega)) (by omega) (by omega)
          · skip
            refine z_aloadn C 0 dX7_addStep_51 rfl rfl ?_
            refine z_get C 18 (by decide) rfl rfl z_it7 2 (by decide) rfl fl_7_18 rfl dX7_addStep_52 ?_
            refine z_iloadn C 3 dX7_addStep_55 rfl rfl ?_
            refine z_iloadn C 2 dX7_addStep_56 rfl rfl ?_
            refine z_iast C 21 (by decide) rfl (by decide) (by omega) (by omega) dX7_addStep_57 ?_
            refine z_ext (S' := (z_zc ad ks s_edgeCount s_moveCount s_isNeeded s_timesDone s_size s_isGoing s_allTime s_stepCount n27 g_edges g_moves g_limits a_sfacts a_sbounds a_facts a_zone a_most a_places a_amounts a_nextPlaces a_nextAmounts a_earliest a_visited (va_up fa_lastSet (i3 : Int).toNat k0) n28 n29 n30 a_askedPlaces a_askedAmounts)) upC_a_lastSet ?_
            have h42 : ∀ j, 0 ≤ (va_up fa_lastSet (i3 : Int).toNat k0) j ∧ (va_up fa_lastSet (i3 : Int).toNat k0) j ≤ 40 := z_upP (P := fun j v => 0 ≤ v ∧ v ≤ 40) Hfa_lastSet (by omega)
            refine z_iinc (L' := [(3, z_v (i3 + 1)), (0, .ref (ad 18)), (1, .ref q), (2, z_v k0)]) C 3 dX7_addStep_58 rfl (by decide) rfl ?_
            refine z_goto (t := 38) C dX7_addStep_61 (by decide) ?_
            refine z_loc (L' := [(0, .ref (ad 18)), (1, .ref q), (2, z_v k0), (3, z_v (i3 + 1))]) [1, 2, 3, 0] rfl ?_
            exact ih38 (i3 + 1) (va_up fa_lastSet (i3 : Int).toNat k0) h42 (by first | exact (zs_lsF (c := fun x : Nat => z_btv (z_or er f0 s0) x ≠ 0) FL FR (by omega) (by rw [show (((i3 : Int).toNat : Nat) : Int) = i3 by omega]; exact z_isz1 hse (by omega))).1 | exact zs_lsN (c := fun x : Nat => z_btv (z_or er f0 s0) x ≠ 0) FL FR (by omega) (by rw [show (((i3 : Int).toNat : Nat) : Int) = i3 by omega]; exact z_isz0 hse (by omega))) (by first | exact (zs_lsF (c := fun x : Nat => z_btv (z_or er f0 s0) x ≠ 0) FL FR (by omega) (by rw [show (((i3 : Int).toNat : Nat) : Int) = i3 by omega]; exact z_isz1 hse (by omega))).2 | exact fun x h => FR x (by omega)) (by omega) (by omega)
    refine z_loc (L' := [(0, .ref (ad 18)), (1, .ref q), (2, z_v k0), (3, z_v 1)]) [1, 2, 3, 0] rfl ?_
    exact (L38 (((4 : Int) - 1).toNat + 1)) 1 a_lastSet Ha_lastSet (fun x h1 h2 => absurd h2 (by omega)) (fun x h => rfl) (by omega) (Nat.lt_succ_self _)
set_option maxRecDepth 20000 in
theorem cx_X7_visit (l : Launch) {D : va_G} {A : Nat → Prop} {ad : Nat → Nat} {ks : z_Ks} {s_edgeCount s_moveCount s_isNeeded s_timesDone s_size s_isGoing s_allTime s_stepCount s_gapCount : Int} {g_edges g_moves g_limits : Nat → Option Nat} {a_sfacts a_sbounds a_facts a_zone a_most a_places a_amounts a_nextPlaces a_nextAmounts a_earliest a_visited a_lastSet a_gapFrom a_gapTo a_gapLeast a_askedPlaces a_askedAmounts : Nat → Int} {Y : Nat → Option va_E} (i0 t0 : Int) (Hs_size : (0 ≤ s_size ∧ s_size ≤ 120)) (Ha_sfacts : (∀ j, (j % 7 < 3 → 0 ≤ a_sfacts j ∧ a_sfacts j ≤ 5) ∧ (j % 7 = 3 → -1 ≤ a_sfacts j ∧ a_sfacts j ≤ 119) ∧ (j % 7 = 6 → 0 ≤ a_sfacts j ∧ a_sfacts j ≤ 40) ∧ z_rg (a_sfacts j))) (Ha_visited : (∀ j, 0 ≤ a_visited j ∧ a_visited j ≤ 119)) (hi : 0 ≤ i0 ∧ i0 < s_size) (ht : 0 ≤ t0 ∧ t0 ≤ 40 ∧ t0 ≤ a_sfacts (i0 * 7 + 6 : Int).toNat) (hcc : z_cc s_size a_sfacts) : z_Met l yX7_visit cX7_visit 6 none 1 22 0 0 D A 27 ad ks [.ref (ad 18), .ref (ad 6), z_v i0, z_v t0] (z_zc ad ks s_edgeCount s_moveCount s_isNeeded s_timesDone s_size s_isGoing s_allTime s_stepCount s_gapCount g_edges g_moves g_limits a_sfacts a_sbounds a_facts a_zone a_most a_places a_amounts a_nextPlaces a_nextAmounts a_earliest a_visited a_lastSet a_gapFrom a_gapTo a_gapLeast a_askedPlaces a_askedAmounts) Y (fun r S' Y' => ∃ na_visited : Nat → Int, S' = (z_zc ad ks s_edgeCount s_moveCount s_isNeeded s_timesDone s_size s_isGoing s_allTime s_stepCount s_gapCount g_edges g_moves g_limits a_sfacts a_sbounds a_facts a_zone a_most a_places a_amounts a_nextPlaces a_nextAmounts a_earliest na_visited a_lastSet a_gapFrom a_gapTo a_gapLeast a_askedPlaces a_askedAmounts) ∧ Y = Y' ∧ (∀ j, 0 ≤ na_visited j ∧ na_visited j ≤ 119) ∧ (∀ k : Nat, (k : Int) ≤ t0 → na_visited k = z_up (fun j => a_sfacts (7 * j + 3)) (t0 - (k : Int)).toNat i0) ∧ (∀ k : Nat, (k : Int) ≤ t0 → 0 ≤ na_visited k ∧ na_visited k < s_size) ∧ r = none) := by
  refine z_start2 (by decide) (Nat.le_of_ble_eq_true rfl) ?_
  intro p e R s m args below meth c Q C hRf hRc hRs hRl hQ hrt hnm
  refine z_loc (L' := [(0, .ref (ad 18)), (1, .ref (ad 6)), (2, z_v i0), (3, z_v t0)]) [0, 1, 2, 3] rfl ?_
  refine z_iloadn C 2 dX7_visit_0 rfl rfl ?_
  refine z_istore (L' := [(4, z_v i0), (0, .ref (ad 18)), (1, .ref (ad 6)), (2, z_v i0), (3, z_v t0)]) C dX7_visit_1 (by decide) rfl ?_
  refine z_iloadn C 4 dX7_visit_3 rfl rfl ?_
  refine z_istore (L' := [(5, z_v t0), (4, z_v i0), (0, .ref (ad 18)), (1, .ref (ad 6)), (2, z_v i0), (3, z_v t0)]) C dX7_visit_4 (by decide) rfl ?_
  have L6 : ∀ (n : Nat), ∀ (i4 : Int) (i5 : Int) (fa_visited : Nat → Int), ((∀ j, 0 ≤ fa_visited j ∧ fa_visited j ≤ 119)) → (0 ≤ i4 ∧ i4 < s_size) → (i5 ≤ a_sfacts (i4 * 7 + 6 : Int).toNat) → (i5 ≤ t0) → (i4 = z_up (fun j => a_sfacts (7 * j + 3)) (t0 - i5).toNat i0) → (∀ k : Nat, i5 < (k : Int) → (k : Int) ≤ t0 → fa_visited k = z_up (fun j => a_sfacts (7 * j + 3)) (t0 - (k : Int)).toNat i0) → (∀ k : Nat, i5 < (k : Int) → (k : Int) ≤ t0 → 0 ≤ fa_visited k ∧ fa_visited k < s_size) → (0 ≤ i5 ∧ i5 ≤ 40) → ((i5 : Int) - (0)).toNat < n → z_V p l e R s m args below meth c Q D A 27 ad 6 (z_zc ad ks s_edgeCount s_moveCount s_isNeeded s_timesDone s_size s_isGoing s_allTime s_stepCount s_gapCount g_edges g_moves g_limits a_sfacts a_sbounds a_facts a_zone a_most a_places a_amounts a_nextPlaces a_nextAmounts a_earliest fa_visited a_lastSet a_gapFrom a_gapTo a_gapLeast a_askedPlaces a_askedAmounts) Y 0 0 6 [(0, .ref (ad 18)), (1, .ref (ad 6)), (4, z_v i4), (5, z_v i5)] [] := by
    intro n
    induction n with
    | zero => intro i4 i5 fa_visited Hfa_visited I4 J JT JU JV JR I5 hm; exact absurd hm (Nat.not_lt_zero _)
    | succ n ih6 =>
      intro i4 i5 fa_visited Hfa_visited I4 J JT JU JV JR I5 hm
      refine z_iload C 3 dX7_visit_6 rfl ?_
      refine z_if_le (t := 35) C dX7_visit_8 (by decide) (by omega) (fun c1 => ?_) (fun c1 => ?_)
      · skip
        refine z_aloadn C 0 dX7_visit_35 rfl rfl ?_
        refine z_get C 18 (by decide) rfl rfl z_it7 1 (by decide) rfl fl_7_15 rfl dX7_visit_36 ?_
        refine z_iconst C dX7_visit_39 ?_
        refine z_iload C 2 dX7_visit_40 rfl ?_
        refine z_iast C 20 (by decide) rfl (by decide) (by omega) (by omega) dX7_visit_42 ?_
        refine z_ext (S' := (z_zc ad ks s_edgeCount s_moveCount s_isNeeded s_timesDone s_size s_isGoing s_allTime s_stepCount s_gapCount g_edges g_moves g_limits a_sfacts a_sbounds a_facts a_zone a_most a_places a_amounts a_nextPlaces a_nextAmounts a_earliest (va_up fa_visited (0 : Int).toNat i4) a_lastSet a_gapFrom a_gapTo a_gapLeast a_askedPlaces a_askedAmounts)) upC_a_visited ?_
        have h2 : ∀ j, 0 ≤ (va_up fa_visited (0 : Int).toNat i4) j ∧ (va_up fa_visited (0 : Int).toNat i4) j ≤ 119 := z_upP (P := fun j v => 0 ≤ v ∧ v ≤ 119) Hfa_visited (by omega)
        rw [hQ]
        exact z_vret C hrt dX7_visit_43 (⟨(va_up fa_visited (0 : Int).toNat i4), rfl, rfl, h2, zs_vi0 JV JU (by omega), zs_vi1 JR I4 (by omega), rfl⟩) (by omega) (by omega)
      · skip
        refine z_aloadn C 0 dX7_visit_11 rfl rfl ?_
        refine z_get C 18 (by decide) rfl rfl z_it7 1 (by decide) rfl fl_7_15 rfl dX7_visit_12 ?_
        refine z_iload C 3 dX7_visit_15 rfl ?_
        refine z_iload C 2 dX7_visit_17 rfl ?_
        refine z_iast C 20 (by decide) rfl (by decide) (by omega) (by omega) dX7_visit_19 ?_
        refine z_ext (S' := (z_zc ad ks s_edgeCount s_moveCount s_isNeeded s_timesDone s_size s_isGoing s_allTime s_stepCount s_gapCount g_edges g_moves g_limits a_sfacts a_sbounds a_facts a_zone a_most a_places a_amounts a_nextPlaces a_nextAmounts a_earliest (va_up fa_visited (i5 : Int).toNat i4) a_lastSet a_gapFrom a_gapTo a_gapLeast a_askedPlaces a_askedAmounts)) upC_a_visited ?_
        have h3 : ∀ j, 0 ≤ (va_up fa_visited (i5 : Int).toNat i4) j ∧ (va_up fa_visited (i5 : Int).toNat i4) j ≤ 119 := z_upP (P := fun j v => 0 ≤ v ∧ v ≤ 119) Hfa_visited (by omega)
        refine z_aloadn C 1 dX7_visit_20 rfl rfl ?_
        refine z_iload C 2 dX7_visit_21 rfl ?_
        refine z_iconst C dX7_visit_23 ?_
        refine z_callV C (cm_X4_fact l i4 3 Ha_sfacts (by omega) (by omega)) mv_7_30 (z_atS 6 4 (by decide) rfl rfl rfl) pd_X4_fact ⟨by omega, by omega⟩ ⟨by omega, by omega⟩ rfl (Nat.le_of_ble_eq_true rfl) dX7_visit_24 ?_
        rintro _ _ _ ⟨rfl, rfl, z6, rfl, hz6⟩
        have qf := hz6.1
        refine z_istore (L' := [(4, z_v z6), (0, .ref (ad 18)), (1, .ref (ad 6)), (5, z_v i5)]) C dX7_visit_27 (by decide) rfl ?_
        refine z_iinc (L' := [(5, z_v (i5 + (-1))), (4, z_v z6), (0, .ref (ad 18)), (1, .ref (ad 6))]) C 3 dX7_visit_29 rfl (by decide) rfl ?_
        refine z_goto (t := 6) C dX7_visit_32 (by decide) ?_
        refine z_loc (L' := [(0, .ref (ad 18)), (1, .ref (ad 6)), (4, z_v z6), (5, z_v (i5 + (-1)))]) [2, 3, 1, 0] rfl ?_
        exact ih6 z6 (i5 + (-1)) (va_up fa_visited (i5 : Int).toNat i4) h3 ((z_cc_vi hcc I4 J (by omega) qf).1) ((z_cc_vi hcc I4 J (by omega) qf).2) (by omega) (z_up_C JU JT I4.1 qf) (z_way_up JV JU (by omega)) (zs_vis JR I4 (by omega)) (by omega) (by omega)
  refine z_loc (L' := [(0, .ref (ad 18)), (1, .ref (ad 6)), (4, z_v i0), (5, z_v t0)]) [2, 3, 1, 0] rfl ?_
  exact (L6 (((t0 : Int) - (0)).toNat + 1)) i0 t0 a_visited Ha_visited (by omega) (by omega) (by omega) (z_up0 (by omega)) (fun k h1 h2 => absurd h2 (by omega)) (fun k h1 h2 => absurd h2 (by omega)) (by omega) (Nat.lt_succ_self _)
set_option maxRecDepth 20000 in
theorem cx_X7_settle (l : Launch) {D : va_G} {A : Nat → Prop} {ad : Nat → Nat} {ks : z_Ks} {s_edgeCount s_moveCount s_isNeeded s_timesDone s_size s_isGoing s_allTime s_stepCount s_gapCount : Int} {g_edges g_moves g_limits : Nat → Option Nat} {a_sfacts a_sbounds a_facts a_zone a_most a_places a_amounts a_nextPlaces a_nextAmounts a_earliest a_visited a_lastSet a_gapFrom a_gapTo a_gapLeast a_askedPlaces a_askedAmounts : Nat → Int} {Y : Nat → Option va_E} {K : Nat → Nat → Int → Prop} {nn : Nat} {L : Nat → Int} (Hs_gapCount : (0 ≤ s_gapCount ∧ s_gapCount ≤ 615)) (Ha_gapFrom : (∀ j, 0 ≤ a_gapFrom j ∧ a_gapFrom j ≤ 40)) (Ha_gapTo : (∀ j, 0 ≤ a_gapTo j ∧ a_gapTo j ≤ 40)) (Ha_gapLeast : (∀ j, z_rg (a_gapLeast j))) (Ha_earliest : (∀ j, z_rg (a_earliest j))) (hnn : nn ≤ 40) (hG : ∀ b a w, zs_G s_gapCount a_gapFrom a_gapTo a_gapLeast b a w ↔ K b a w) (hK : zs_K K nn) (hL : zs_L K nn L) (hL0 : L 0 = 0) : z_Met l yX7_settle cX7_settle 5 none 1 23 0 0 D A 27 ad ks [.ref (ad 18)] (z_zc ad ks s_edgeCount s_moveCount s_isNeeded s_timesDone s_size s_isGoing s_allTime s_stepCount s_gapCount g_edges g_moves g_limits a_sfacts a_sbounds a_facts a_zone a_most a_places a_amounts a_nextPlaces a_nextAmounts a_earliest a_visited a_lastSet a_gapFrom a_gapTo a_gapLeast a_askedPlaces a_askedAmounts) Y (fun r S' Y' => ∃ na_earliest : Nat → Int, S' = (z_zc ad ks s_edgeCount s_moveCount s_isNeeded s_timesDone s_size s_isGoing s_allTime s_stepCount s_gapCount g_edges g_moves g_limits a_sfacts a_sbounds a_facts a_zone a_most a_places a_amounts a_nextPlaces a_nextAmounts na_earliest a_visited a_lastSet a_gapFrom a_gapTo a_gapLeast a_askedPlaces a_askedAmounts) ∧ Y = Y' ∧ (∀ j, z_rg (na_earliest j)) ∧ (∀ v, v ≤ nn → na_earliest v = L v) ∧ r = none) := by
  refine z_start2 (by decide) (Nat.le_of_ble_eq_true rfl) ?_
  intro p e R s m args below meth c Q C hRf hRc hRs hRl hQ hrt hnm
  refine z_loc (L' := [(0, .ref (ad 18))]) [0] rfl ?_
  have hLb : ∀ v, v ≤ nn → L v ≤ 2560040 := fun v hv => by have := zs_bd hL hK hL0 v hv; omega
  refine z_aloadn C 0 dX7_settle_0 rfl rfl ?_
  refine z_get C 18 (by decide) rfl rfl z_it7 0 (by decide) rfl fl_7_9 rfl dX7_settle_1 ?_
  refine z_iconst C dX7_settle_4 ?_
  refine z_callS C (cm_J7_fill_53178_19 l 0 Ha_earliest rfl) mv_7_49 pd_J7_fill_53178 ⟨by omega, by omega⟩ ⟨by omega, by omega⟩ rfl (Nat.le_of_ble_eq_true rfl) dX7_settle_5 ?_
  rintro _ _ _ ⟨n1, rfl, rfl, h4, q5_0, rfl⟩
  refine z_iconst C dX7_settle_8 ?_
  refine z_istoren (L' := [(1, z_v 1), (0, .ref (ad 18))]) C dX7_settle_9 rfl (by decide) rfl ?_
  refine z_iconst C dX7_settle_10 ?_
  refine z_istoren (L' := [(2, z_v 0), (1, z_v 1), (0, .ref (ad 18))]) C dX7_settle_11 rfl (by decide) rfl ?_
  have L12 : ∀ (n : Nat), ∀ (i1 : Int) (i2 : Int) (ga_earliest : Nat → Int), ((∀ j, z_rg (ga_earliest j))) → (zs_I nn L (i2 : Int).toNat ga_earliest) → (i1 = 0 → zs_S K ga_earliest) → (0 ≤ i2 ∧ i2 ≤ 42) → (i1 = 0 ∨ i1 = 1) → ((42 : Int) - i2).toNat < n → z_V p l e R s m args below meth c Q D A 27 ad 5 (z_zc ad ks s_edgeCount s_moveCount s_isNeeded s_timesDone s_size s_isGoing s_allTime s_stepCount s_gapCount g_edges g_moves g_limits a_sfacts a_sbounds a_facts a_zone a_most a_places a_amounts a_nextPlaces a_nextAmounts ga_earliest a_visited a_lastSet a_gapFrom a_gapTo a_gapLeast a_askedPlaces a_askedAmounts) Y 0 0 12 [(0, .ref (ad 18)), (1, z_v i1), (2, z_v i2)] [] := by
    intro n
    induction n with
    | zero => intro i1 i2 ga_earliest Hga_earliest ZI ZS I2 B1 hm; exact absurd hm (Nat.not_lt_zero _)
    | succ n ih12 =>
      intro i1 i2 ga_earliest Hga_earliest ZI ZS I2 B1 hm
      refine z_iloadn C 1 dX7_settle_12 rfl rfl ?_
      refine z_if_eq (t := 97) C dX7_settle_13 (by decide) (by omega) (fun c5 => ?_) (fun c5 => ?_)
      · skip
        rw [hQ]
        exact z_vret C hrt dX7_settle_97 (⟨ga_earliest, rfl, rfl, Hga_earliest, by first | exact zs_I.stop ZI (ZS (by omega)) hL | exact zs_I.fin ZI (by omega), rfl⟩) (by omega) (by omega)
      · skip
        refine z_iloadn C 2 dX7_settle_16 rfl rfl ?_
        refine z_bipush C dX7_settle_17 (by decide) ?_
        refine z_icmp_gt (t := 97) C dX7_settle_19 (by decide) (by omega) (by omega) (fun c6 => ?_) (fun c6 => ?_)
        · skip
          rw [hQ]
          exact z_vret C hrt dX7_settle_97 (⟨ga_earliest, rfl, rfl, Hga_earliest, by first | exact zs_I.stop ZI (ZS (by omega)) hL | exact zs_I.fin ZI (by omega), rfl⟩) (by omega) (by omega)
        · skip
          refine z_iconst C dX7_settle_22 ?_
          refine z_istoren (L' := [(1, z_v 0), (0, .ref (ad 18)), (2, z_v i2)]) C dX7_settle_23 rfl (by decide) rfl ?_
          refine z_iconst C dX7_settle_24 ?_
          refine z_istoren (L' := [(3, z_v 0), (1, z_v 0), (0, .ref (ad 18)), (2, z_v i2)]) C dX7_settle_25 rfl (by decide) rfl ?_
          have L26 : ∀ (n : Nat), ∀ (i1 : Int) (i3 : Int) (fa_earliest : Nat → Int), ((∀ j, z_rg (fa_earliest j))) → (i3 ≤ s_gapCount) → (zs_ad (zs_G i3 a_gapFrom a_gapTo a_gapLeast) nn L ga_earliest fa_earliest 0 i1) → (0 ≤ i3 ∧ i3 ≤ 615) → (i1 = 0 ∨ i1 = 1) → ((615 : Int) - i3).toNat < n → z_V p l e R s m args below meth c Q D A 27 ad 5 (z_zc ad ks s_edgeCount s_moveCount s_isNeeded s_timesDone s_size s_isGoing s_allTime s_stepCount s_gapCount g_edges g_moves g_limits a_sfacts a_sbounds a_facts a_zone a_most a_places a_amounts a_nextPlaces a_nextAmounts fa_earliest a_visited a_lastSet a_gapFrom a_gapTo a_gapLeast a_askedPlaces a_askedAmounts) Y 0 0 26 [(0, .ref (ad 18)), (1, z_v i1), (2, z_v i2), (3, z_v i3)] [] := by
            intro n
            induction n with
            | zero => intro i1 i3 fa_earliest Hfa_earliest J3 FD I3 B1 hm; exact absurd hm (Nat.not_lt_zero _)
            | succ n ih26 =>
              intro i1 i3 fa_earliest Hfa_earliest J3 FD I3 B1 hm
              refine z_iloadn C 3 dX7_settle_26 rfl rfl ?_
              refine z_aloadn C 0 dX7_settle_27 rfl rfl ?_
              refine z_get C 18 (by decide) rfl rfl z_it7 6 (by decide) rfl fl_7_45 rfl dX7_settle_28 ?_
              refine z_icmp_ge (t := 91) C dX7_settle_31 (by decide) (by omega) (by omega) (fun c7 => ?_) (fun c7 => ?_)
              · skip
                refine z_iinc (L' := [(2, z_v (i2 + 1)), (0, .ref (ad 18)), (1, z_v i1), (3, z_v i3)]) C 2 dX7_settle_91 rfl (by decide) rfl ?_
                refine z_goto (t := 12) C dX7_settle_94 (by decide) ?_
                refine z_loc (L' := [(0, .ref (ad 18)), (1, z_v i1), (2, z_v (i2 + 1))]) [1, 2, 0] rfl ?_
                exact ih12 i1 (i2 + 1) fa_earliest Hfa_earliest (by rw [show (i2 + 1 : Int).toNat = (i2 : Int).toNat + 1 by omega]; exact zs_I.step hK hL ZI (zs_adr FD (fun b a w kk => by rw [show i3 = s_gapCount by omega]; exact (hG b a w).mpr kk))) (zs_adS FD (fun b a w kk => by rw [show i3 = s_gapCount by omega]; exact (hG b a w).mpr kk)) (by omega) (by omega) (by omega)
              · skip
                have hV := zs_hV (fun v hv => ⟨ZI.1 v hv, ZI.2.1 v hv, hLb v hv⟩) FD
                have hk : K (a_gapFrom (i3 : Int).toNat).toNat (a_gapTo (i3 : Int).toNat).toNat (a_gapLeast (i3 : Int).toNat) := (hG _ _ _).mp ⟨(i3 : Int).toNat, by omega, by have := Ha_gapFrom (i3 : Int).toNat; omega, by have := Ha_gapTo (i3 : Int).toNat; omega, rfl⟩
                have hkK := hK _ _ _ hk
                refine z_aloadn C 0 dX7_settle_34 rfl rfl ?_
                refine z_get C 18 (by decide) rfl rfl z_it7 0 (by decide) rfl fl_7_9 rfl dX7_settle_35 ?_
                refine z_aloadn C 0 dX7_settle_38 rfl rfl ?_
                refine z_get C 18 (by decide) rfl rfl z_it7 3 (by decide) rfl fl_7_21 rfl dX7_settle_39 ?_
                refine z_iloadn C 3 dX7_settle_42 rfl rfl ?_
                refine z_iald C 22 (by decide) rfl (by decide) (by omega) (by omega) dX7_settle_43 ?_
                have rx8 := Ha_gapFrom (i3 : Int).toNat
                generalize ex8 : a_gapFrom (i3 : Int).toNat = x8 at rx8 ⊢
                have e43 := ex8
                rw [ex8] at hk hkK
                refine z_iald C 19 (by decide) rfl (by decide) (by omega) (by omega) dX7_settle_44 ?_
                have rx9 := Hfa_earliest (x8 : Int).toNat
                generalize ex9 : fa_earliest (x8 : Int).toNat = x9 at rx9 ⊢
                have e44 := ex9
                have l44 := hV _ hkK.1
                rw [ex9] at l44
                refine z_aloadn C 0 dX7_settle_45 rfl rfl ?_
                refine z_get C 18 (by decide) rfl rfl z_it7 5 (by decide) rfl fl_7_27 rfl dX7_settle_46 ?_
                refine z_iloadn C 3 dX7_settle_49 rfl rfl ?_
                refine z_iald C 24 (by decide) rfl (by decide) (by omega) (by omega) dX7_settle_50 ?_
                have rx10 := Ha_gapLeast (i3 : Int).toNat
                generalize ex10 : a_gapLeast (i3 : Int).toNat = x10 at rx10 ⊢
                have e50 := ex10
                rw [ex10] at hk hkK
                refine z_iadd C dX7_settle_51 ?_
                refine z_istore (L' := [(4, z_v (x9 + x10)), (0, .ref (ad 18)), (1, z_v i1), (2, z_v i2), (3, z_v i3)]) C dX7_settle_52 (by decide) rfl ?_
                refine z_iload C 0 dX7_settle_54 rfl ?_
                refine z_aloadn C 1 dX7_settle_56 rfl rfl ?_
                refine z_get C 18 (by decide) rfl rfl z_it7 0 (by decide) rfl fl_7_9 rfl dX7_settle_57 ?_
                refine z_aloadn C 1 dX7_settle_60 rfl rfl ?_
                refine z_get C 18 (by decide) rfl rfl z_it7 4 (by decide) rfl fl_7_24 rfl dX7_settle_61 ?_
                refine z_iloadn C 4 dX7_settle_64 rfl rfl ?_
                refine z_iald C 23 (by decide) rfl (by decide) (by omega) (by omega) dX7_settle_65 ?_
                have rx11 := Ha_gapTo (i3 : Int).toNat
                generalize ex11 : a_gapTo (i3 : Int).toNat = x11 at rx11 ⊢
                have e65 := ex11
                rw [ex11] at hk hkK
                refine z_iald C 19 (by decide) rfl (by decide) (by omega) (by omega) dX7_settle_66 ?_
                have rx12 := Hfa_earliest (x11 : Int).toNat
                generalize ex12 : fa_earliest (x11 : Int).toNat = x12 at rx12 ⊢
                have e66 := ex12
                refine z_icmp_le (t := 85) C dX7_settle_67 (by decide) (by omega) (by omega) (fun c13 => ?_) (fun c13 => ?_)
                · skip
                  refine z_iinc (L' := [(3, z_v (i3 + 1)), (4, z_v (x9 + x10)), (0, .ref (ad 18)), (1, z_v i1), (2, z_v i2)]) C 4 dX7_settle_85 rfl (by decide) rfl ?_
                  refine z_goto (t := 26) C dX7_settle_88 (by decide) ?_
                  refine z_loc (L' := [(0, .ref (ad 18)), (1, z_v i1), (2, z_v i2), (3, z_v (i3 + 1))]) [2, 3, 4, 0] rfl ?_
                  exact ih26 i1 (i3 + 1) fa_earliest Hfa_earliest (by omega) (by first | exact FD.cat (zs_ad.hit (fun v hv => (hV v hv).2.1) (by omega) (by omega) (hL.1 _ _ _ hk) e44 (by omega)) (fun b a w h => (zs_G_s (by omega) h).imp id (fun kk => ⟨by have := kk.1; rw [e43] at this; omega, by have := kk.2.1; rw [e65] at this; omega, by have := kk.2.2; rw [e50] at this; exact this.symm⟩)) | exact FD.cat (zs_missK (fun v hv => (hV v hv).2.1) hk e44 e66 (by omega)) (fun b a w h => (zs_G_s (by omega) h).imp id (fun kk => ⟨by have := kk.1; rw [e43] at this; omega, by have := kk.2.1; rw [e65] at this; omega, by have := kk.2.2; rw [e50] at this; exact this.symm⟩))) (by omega) (by omega) (by omega)
                · skip
                  refine z_aloadn C 1 dX7_settle_70 rfl rfl ?_
                  refine z_get C 18 (by decide) rfl rfl z_it7 0 (by decide) rfl fl_7_9 rfl dX7_settle_71 ?_
                  refine z_aloadn C 1 dX7_settle_74 rfl rfl ?_
                  refine z_get C 18 (by decide) rfl rfl z_it7 4 (by decide) rfl fl_7_24 rfl dX7_settle_75 ?_
                  refine z_iloadn C 4 dX7_settle_78 rfl rfl ?_
                  refine z_iald C 23 (by decide) rfl (by decide) (by omega) (by omega) dX7_settle_79 ?_
                  rw [ex11]
                  refine z_iload C 0 dX7_settle_80 rfl ?_
                  refine z_iast C 19 (by decide) rfl (by decide) (by omega) (by omega) dX7_settle_82 ?_
                  refine z_ext (S' := (z_zc ad ks s_edgeCount s_moveCount s_isNeeded s_timesDone s_size s_isGoing s_allTime s_stepCount s_gapCount g_edges g_moves g_limits a_sfacts a_sbounds a_facts a_zone a_most a_places a_amounts a_nextPlaces a_nextAmounts (va_up fa_earliest (x11 : Int).toNat (x9 + x10)) a_visited a_lastSet a_gapFrom a_gapTo a_gapLeast a_askedPlaces a_askedAmounts)) upC_a_earliest ?_
                  have h14 : ∀ j, z_rg ((va_up fa_earliest (x11 : Int).toNat (x9 + x10)) j) := z_upP (P := fun j v => z_rg (v)) Hfa_earliest (by omega)
                  refine z_iconst C dX7_settle_83 ?_
                  refine z_istoren (L' := [(1, z_v 1), (4, z_v (x9 + x10)), (0, .ref (ad 18)), (2, z_v i2), (3, z_v i3)]) C dX7_settle_84 rfl (by decide) rfl ?_
                  refine z_iinc (L' := [(3, z_v (i3 + 1)), (1, z_v 1), (4, z_v (x9 + x10)), (0, .ref (ad 18)), (2, z_v i2)]) C 4 dX7_settle_85 rfl (by decide) rfl ?_
                  refine z_goto (t := 26) C dX7_settle_88 (by decide) ?_
                  refine z_loc (L' := [(0, .ref (ad 18)), (1, z_v 1), (2, z_v i2), (3, z_v (i3 + 1))]) [3, 1, 4, 0] rfl ?_
                  exact ih26 1 (i3 + 1) (va_up fa_earliest (x11 : Int).toNat (x9 + x10)) h14 (by omega) (by first | exact FD.cat (zs_ad.hit (fun v hv => (hV v hv).2.1) (by omega) (by omega) (hL.1 _ _ _ hk) e44 (by omega)) (fun b a w h => (zs_G_s (by omega) h).imp id (fun kk => ⟨by have := kk.1; rw [e43] at this; omega, by have := kk.2.1; rw [e65] at this; omega, by have := kk.2.2; rw [e50] at this; exact this.symm⟩)) | exact FD.cat (zs_missK (fun v hv => (hV v hv).2.1) hk e44 e66 (by omega)) (fun b a w h => (zs_G_s (by omega) h).imp id (fun kk => ⟨by have := kk.1; rw [e43] at this; omega, by have := kk.2.1; rw [e65] at this; omega, by have := kk.2.2; rw [e50] at this; exact this.symm⟩))) (by omega) (by omega) (by omega)
          refine z_loc (L' := [(0, .ref (ad 18)), (1, z_v 0), (2, z_v i2), (3, z_v 0)]) [2, 1, 3, 0] rfl ?_
          exact (L26 (((615 : Int) - 0).toNat + 1)) 0 0 ga_earliest Hga_earliest (by omega) (zs_ad.nil ZI.2.1 (fun b a w ⟨g, hg, _⟩ => by omega)) (by omega) (by omega) (Nat.lt_succ_self _)
  refine z_loc (L' := [(0, .ref (ad 18)), (1, z_v 1), (2, z_v 0)]) [2, 1, 0] rfl ?_
  exact (L12 (((42 : Int) - 0).toNat + 1)) 1 0 n1 h4 (zs_I.ini (fun v hv => q5_0 v (by omega)) hL.2.1 hL0) (fun q => absurd q (by decide)) (by omega) (by omega) (Nat.lt_succ_self _)
set_option maxRecDepth 20000 in
set_option maxHeartbeats 1000000 in
theorem cx_X7_fill (l : Launch) {D : va_G} {A : Nat → Prop} {ad : Nat → Nat} {ks : z_Ks} {s_edgeCount s_moveCount s_isNeeded s_timesDone s_size s_isGoing s_allTime s_stepCount s_gapCount : Int} {g_edges g_moves g_limits : Nat → Option Nat} {a_sfacts a_sbounds a_facts a_zone a_most a_places a_amounts a_nextPlaces a_nextAmounts a_earliest a_visited a_lastSet a_gapFrom a_gapTo a_gapLeast a_askedPlaces a_askedAmounts : Nat → Int} {Y : Nat → Option va_E} {em ef et ec er gn gt ln lt mf ms : Nat → Int} {qe ql qt : Nat → Nat} (i0 : Int) (Hs_gapCount : (0 ≤ s_gapCount ∧ s_gapCount ≤ 615)) (Ha_gapFrom : (∀ j, 0 ≤ a_gapFrom j ∧ a_gapFrom j ≤ 40)) (Ha_gapTo : (∀ j, 0 ≤ a_gapTo j ∧ a_gapTo j ≤ 40)) (Ha_gapLeast : (∀ j, z_rg (a_gapLeast j))) (Ha_lastSet : (∀ j, 0 ≤ a_lastSet j ∧ a_lastSet j ≤ 40)) (Ha_visited : (∀ j, 0 ≤ a_visited j ∧ a_visited j ≤ 119)) (Ha_earliest : (∀ j, z_rg (a_earliest j))) (Ha_sfacts : (∀ j, (j % 7 < 3 → 0 ≤ a_sfacts j ∧ a_sfacts j ≤ 5) ∧ (j % 7 = 3 → -1 ≤ a_sfacts j ∧ a_sfacts j ≤ 119) ∧ (j % 7 = 6 → 0 ≤ a_sfacts j ∧ a_sfacts j ≤ 40) ∧ z_rg (a_sfacts j))) (Hs_size : (0 ≤ s_size ∧ s_size ≤ 120)) (Hs_moveCount : (0 ≤ s_moveCount ∧ s_moveCount ≤ 400)) (Hs_edgeCount : (0 ≤ s_edgeCount ∧ s_edgeCount ≤ 20)) (hi : 0 ≤ i0 ∧ i0 < s_size) (hcc : z_cc s_size a_sfacts) (HN : z_N ks Y g_edges g_limits s_edgeCount em ef et ec er gn gt ln lt qe ql qt) (HMo : z_Mo Y g_moves s_moveCount mf ms s_edgeCount qe er) (hlc : zs_lc ln lt) (hM : 1 ≤ (a_sfacts (i0 * 7 + 6 : Int).toNat)) (hmv : ∀ j, j < (a_sfacts (i0 * 7 + 6 : Int).toNat).toNat → z_mem s_moveCount mf ms ((zw_E (fun j => a_sfacts (7 * j + 3)) (fun j => a_sfacts (7 * j + 4)) (a_sfacts (i0 * 7 + 6 : Int).toNat) i0) (j + 1)) ((zw_E (fun j => a_sfacts (7 * j + 3)) (fun j => a_sfacts (7 * j + 5)) (a_sfacts (i0 * 7 + 6 : Int).toNat) i0) (j + 1))) (hex : zw_ex s_edgeCount er gn gt ln lt (fun j => a_sfacts (7 * j + 3)) (fun j => a_sfacts (7 * j + 4)) (fun j => a_sfacts (7 * j + 5)) (fun j m => a_sfacts (7 * j + m)) (a_sfacts (i0 * 7 + 6 : Int).toNat) i0) : z_Met l yX7_fill cX7_fill 7 none 3 73 0 0 D A 27 ad ks [.ref (ad 18), .ref (ad 1), .ref (ad 6), z_v i0] (z_zc ad ks s_edgeCount s_moveCount s_isNeeded s_timesDone s_size s_isGoing s_allTime s_stepCount s_gapCount g_edges g_moves g_limits a_sfacts a_sbounds a_facts a_zone a_most a_places a_amounts a_nextPlaces a_nextAmounts a_earliest a_visited a_lastSet a_gapFrom a_gapTo a_gapLeast a_askedPlaces a_askedAmounts) Y (fun r S' Y' => ∃ ns_gapCount : Int, ∃ na_gapFrom : Nat → Int, ∃ na_gapTo : Nat → Int, ∃ na_gapLeast : Nat → Int, ∃ na_lastSet : Nat → Int, ∃ na_visited : Nat → Int, ∃ na_earliest : Nat → Int, S' = (z_zc ad ks s_edgeCount s_moveCount s_isNeeded s_timesDone s_size s_isGoing s_allTime s_stepCount ns_gapCount g_edges g_moves g_limits a_sfacts a_sbounds a_facts a_zone a_most a_places a_amounts a_nextPlaces a_nextAmounts na_earliest na_visited na_lastSet na_gapFrom na_gapTo na_gapLeast a_askedPlaces a_askedAmounts) ∧ Y = Y' ∧ (0 ≤ ns_gapCount ∧ ns_gapCount ≤ 615) ∧ (∀ j, 0 ≤ na_gapFrom j ∧ na_gapFrom j ≤ 40) ∧ (∀ j, 0 ≤ na_gapTo j ∧ na_gapTo j ≤ 40) ∧ (∀ j, z_rg (na_gapLeast j)) ∧ (∀ j, 0 ≤ na_lastSet j ∧ na_lastSet j ≤ 40) ∧ (∀ j, 0 ≤ na_visited j ∧ na_visited j ≤ 119) ∧ (∀ j, z_rg (na_earliest j)) ∧ (∀ L, zs_L (zw_K er gn gt ln lt (fun j => a_sfacts (7 * j + 3)) (fun j => a_sfacts (7 * j + 4)) (fun j => a_sfacts (7 * j + 5)) (fun j m => a_sfacts (7 * j + m)) (a_sfacts (i0 * 7 + 6 : Int).toNat) i0) (a_sfacts (i0 * 7 + 6 : Int).toNat).toNat L → ∀ v, v ≤ (a_sfacts (i0 * 7 + 6 : Int).toNat).toNat → na_earliest v = L v) ∧ r = none) := by
  refine z_start2 (by decide) (Nat.le_of_ble_eq_true rfl) ?_
  intro p e R s m args below meth c Q C hRf hRc hRs hRl hQ hrt hnm
  refine z_loc (L' := [(0, .ref (ad 18)), (1, .ref (ad 1)), (2, .ref (ad 6)), (3, z_v i0)]) [0, 1, 2, 3] rfl ?_
  obtain ⟨L, xK, xL, x0, xE, xP⟩ := hex
  refine z_aloadn C 2 dX7_fill_0 rfl rfl ?_
  refine z_iloadn C 3 dX7_fill_1 rfl rfl ?_
  refine z_bipush C dX7_fill_2 (by decide) ?_
  refine z_callV C (cm_X4_fact l i0 6 Ha_sfacts (by omega) (by omega)) mv_7_30 (z_atS 6 4 (by decide) rfl rfl rfl) pd_X4_fact ⟨by omega, by omega⟩ ⟨by omega, by omega⟩ rfl (Nat.le_of_ble_eq_true rfl) dX7_fill_4 ?_
  rintro _ _ _ ⟨rfl, rfl, z3, rfl, hz3⟩
  have qs := hz3.1
  have hr4 := hz3.2.2.2.1 (by omega)
  refine z_bipush C dX7_fill_7 (by decide) ?_
  refine z_min C mm_7_36 (by omega) (by omega) (by omega) (by rw [hRl]; exact Nat.le_of_ble_eq_true rfl) (by omega) (by omega) dX7_fill_9 ?_
  obtain ⟨x4, ex4⟩ : ∃ z : Int, z = (if 40 < z3 then 40 else z3) := ⟨_, rfl⟩
  rw [← ex4]
  have rx4 : (x4 = z3 ∨ x4 = 40) ∧ z3 ≥ x4 ∧ 40 ≥ x4 := by split at ex4 <;> omega
  refine z_istore (L' := [(4, z_v x4), (0, .ref (ad 18)), (1, .ref (ad 1)), (2, .ref (ad 6)), (3, z_v i0)]) C dX7_fill_12 (by decide) rfl ?_
  refine z_aloadn C 1 dX7_fill_14 rfl rfl ?_
  refine z_aloadn C 3 dX7_fill_15 rfl rfl ?_
  refine z_iloadn C 4 dX7_fill_16 rfl rfl ?_
  refine z_iload C 0 dX7_fill_17 rfl ?_
  refine z_callV C (cx_X7_visit l i0 x4 (by omega) Ha_sfacts Ha_visited (by omega) (by omega) hcc) mv_7_41 (z_atS 18 7 (by decide) rfl rfl rfl) pd_X7_visit ⟨by omega, by omega⟩ ⟨by omega, by omega⟩ rfl (Nat.le_of_ble_eq_true rfl) dX7_fill_19 ?_
  rintro _ _ _ ⟨n5, rfl, rfl, h8, q19_0, q19_1, rfl⟩
  have hq19 : ∀ k : Nat, (k : Int) ≤ (a_sfacts (i0 * 7 + 6 : Int).toNat) → n5 k = z_up (fun j => a_sfacts (7 * j + 3)) ((a_sfacts (i0 * 7 + 6 : Int).toNat) - (k : Int)).toNat i0 := fun k hk => (q19_0 k (by omega)).trans (congrArg (fun t => z_up _ t _) (by omega))
  have hv19 : ∀ k : Nat, (k : Int) ≤ (a_sfacts (i0 * 7 + 6 : Int).toNat) → 0 ≤ n5 k ∧ n5 k < s_size := fun k hk => q19_1 k (by omega)
  refine z_aloadn C 1 dX7_fill_22 rfl rfl ?_
  refine z_iconst C dX7_fill_23 ?_
  refine z_put C 18 (by decide) rfl rfl z_it7 tyX7 tyX7_ok nmX7 6 (by decide) rfl (Or.inl rfl) fl_7_45 z_pfI rfl rfl (Nat.le_of_ble_eq_true rfl) dX7_fill_24 ?_
  refine z_ext (S' := (z_zc ad ks s_edgeCount s_moveCount s_isNeeded s_timesDone s_size s_isGoing s_allTime s_stepCount 0 g_edges g_moves g_limits a_sfacts a_sbounds a_facts a_zone a_most a_places a_amounts a_nextPlaces a_nextAmounts a_earliest n5 a_lastSet a_gapFrom a_gapTo a_gapLeast a_askedPlaces a_askedAmounts)) upC_s_gapCount ?_
  refine z_aloadn C 1 dX7_fill_27 rfl rfl ?_
  refine z_get C 18 (by decide) rfl rfl z_it7 2 (by decide) rfl fl_7_18 rfl dX7_fill_28 ?_
  refine z_iconst C dX7_fill_31 ?_
  refine z_callS C (cm_J7_fill_53178_21 l 0 Ha_lastSet rfl) mv_7_49 pd_J7_fill_53178 ⟨by omega, by omega⟩ ⟨by omega, by omega⟩ rfl (Nat.le_of_ble_eq_true rfl) dX7_fill_32 ?_
  rintro _ _ _ ⟨n9, rfl, rfl, h12, q32_0, rfl⟩
  refine z_iconst C dX7_fill_35 ?_
  refine z_istore (L' := [(5, z_v 1), (4, z_v x4), (0, .ref (ad 18)), (1, .ref (ad 1)), (2, .ref (ad 6)), (3, z_v i0)]) C dX7_fill_36 (by decide) rfl ?_
  have L38 : ∀ (n : Nat), ∀ (i5 : Int) (fs_gapCount : Int) (fa_gapFrom : Nat → Int) (fa_gapTo : Nat → Int) (fa_gapLeast : Nat → Int) (fa_lastSet : Nat → Int), ((0 ≤ fs_gapCount ∧ fs_gapCount ≤ 615)) → ((∀ j, 0 ≤ fa_gapFrom j ∧ fa_gapFrom j ≤ 40)) → ((∀ j, 0 ≤ fa_gapTo j ∧ fa_gapTo j ≤ 40)) → ((∀ j, z_rg (fa_gapLeast j))) → ((∀ j, 0 ≤ fa_lastSet j ∧ fa_lastSet j ≤ 40)) → (i5 ≤ (a_sfacts (i0 * 7 + 6 : Int).toNat) + 1) → (∀ b a w, zs_G fs_gapCount fa_gapFrom fa_gapTo fa_gapLeast b a w ↔ ∃ j : Nat, (j : Int) + 1 < i5 ∧ zs_scE er gn gt ln lt (zw_E (fun j => a_sfacts (7 * j + 3)) (fun j => a_sfacts (7 * j + 4)) (a_sfacts (i0 * 7 + 6 : Int).toNat) i0) (zw_E (fun j => a_sfacts (7 * j + 3)) (fun j => a_sfacts (7 * j + 5)) (a_sfacts (i0 * 7 + 6 : Int).toNat) i0) (zw_A (fun j => a_sfacts (7 * j + 3)) (fun j m => a_sfacts (7 * j + m)) (a_sfacts (i0 * 7 + 6 : Int).toNat) i0) j b a w) → (∀ x : Nat, 1 ≤ x → x < 4 → fa_lastSet x = (zr_ls er (zw_E (fun j => a_sfacts (7 * j + 3)) (fun j => a_sfacts (7 * j + 4)) (a_sfacts (i0 * 7 + 6 : Int).toNat) i0) (zw_E (fun j => a_sfacts (7 * j + 3)) (fun j => a_sfacts (7 * j + 5)) (a_sfacts (i0 * 7 + 6 : Int).toNat) i0) x (i5 - 1).toNat : Int)) → (0 ≤ fs_gapCount ∧ fs_gapCount ≤ 15 * (i5 - 1)) → (1 ≤ i5 ∧ i5 ≤ 41) → ((41 : Int) - i5).toNat < n → z_V p l e R s m args below meth c Q D A 27 ad 7 (z_zc ad ks s_edgeCount s_moveCount s_isNeeded s_timesDone s_size s_isGoing s_allTime s_stepCount fs_gapCount g_edges g_moves g_limits a_sfacts a_sbounds a_facts a_zone a_most a_places a_amounts a_nextPlaces a_nextAmounts a_earliest n5 fa_lastSet fa_gapFrom fa_gapTo fa_gapLeast a_askedPlaces a_askedAmounts) Y 0 0 38 [(0, .ref (ad 18)), (1, .ref (ad 1)), (2, .ref (ad 6)), (4, z_v x4), (5, z_v i5)] [] := by
    intro n
    induction n with
    | zero => intro i5 fs_gapCount fa_gapFrom fa_gapTo fa_gapLeast fa_lastSet Hfs_gapCount Hfa_gapFrom Hfa_gapTo Hfa_gapLeast Hfa_lastSet J5 GG FL CG I5 hm; exact absurd hm (Nat.not_lt_zero _)
    | succ n ih38 =>
      intro i5 fs_gapCount fa_gapFrom fa_gapTo fa_gapLeast fa_lastSet Hfs_gapCount Hfa_gapFrom Hfa_gapTo Hfa_gapLeast Hfa_lastSet J5 GG FL CG I5 hm
      refine z_iload C 4 dX7_fill_38 rfl ?_
      refine z_iload C 3 dX7_fill_40 rfl ?_
      refine z_icmp_gt (t := 112) C dX7_fill_42 (by decide) (by omega) (by omega) (fun c13 => ?_) (fun c13 => ?_)
      · skip
        refine z_aloadn C 0 dX7_fill_112 rfl rfl ?_
        refine z_aloadn C 1 dX7_fill_113 rfl rfl ?_
        refine z_aloadn C 2 dX7_fill_114 rfl rfl ?_
        refine z_aloadn C 0 dX7_fill_115 rfl rfl ?_
        refine z_get C 18 (by decide) rfl rfl z_it7 1 (by decide) rfl fl_7_15 rfl dX7_fill_116 ?_
        refine z_iload C 3 dX7_fill_119 rfl ?_
        refine z_iald C 20 (by decide) rfl (by decide) (by omega) (by omega) dX7_fill_121 ?_
        have rx14 := h8 (x4 : Int).toNat
        generalize ex14 : n5 (x4 : Int).toNat = x14 at rx14 ⊢
        have e121 := ex14
        have hMM : i5 = (a_sfacts (i0 * 7 + 6 : Int).toNat) + 1 := by omega
        have v121 := hv19 (a_sfacts (i0 * 7 + 6 : Int).toNat).toNat (by omega)
        have w121 : n5 (a_sfacts (i0 * 7 + 6 : Int).toNat).toNat = x14 := by rw [← ex14]; congr 1; omega
        rw [w121] at v121
        refine z_iload C 3 dX7_fill_122 rfl ?_
        refine z_callV C (cx_X7_addLimits l x14 x4 (by omega) Hfa_gapFrom Hfa_gapTo Hfa_gapLeast Hfa_lastSet Ha_sfacts (by omega) (by omega) HN (by omega) (by omega)) mv_7_59 (z_atS 18 7 (by decide) rfl rfl rfl) pd_X7_addLimits ⟨by omega, by omega⟩ ⟨by omega, by omega⟩ rfl (Nat.le_of_ble_eq_true rfl) dX7_fill_124 ?_
        rintro _ _ _ ⟨n15, n16, n17, n18, rfl, rfl, h21, h22, h23, h24, q124_0, q124_1, rfl⟩
        have hGG : ∀ b a w, zs_G n15 n16 n17 n18 b a w ↔ (zw_C er gn gt ln lt (fun j => a_sfacts (7 * j + 3)) (fun j => a_sfacts (7 * j + 4)) (fun j => a_sfacts (7 * j + 5)) (fun j m => a_sfacts (7 * j + m)) (a_sfacts (i0 * 7 + 6 : Int).toNat) i0) b a w := zs_cF hMM (by omega) (z_N.hl HN) (by show (fun m => a_sfacts (7 * _ + m)) = (fun m => a_sfacts (7 * (z_up (fun j => a_sfacts (7 * j + 3)) ((a_sfacts (i0 * 7 + 6 : Int).toNat) - (((a_sfacts (i0 * 7 + 6 : Int).toNat).toNat : Nat) : Int)).toNat i0).toNat + m)); rw [← hq19 (a_sfacts (i0 * 7 + 6 : Int).toNat).toNat (by omega), w121]) (by intro m m0 m1; exact (Ha_sfacts _).1 (by omega)) (fun x h1 h4 => by show (fa_lastSet x).toNat = _; rw [FL x h1 h4]; exact Int.toNat_natCast _) GG (by omega) q124_0
        have c124 := q124_1
        refine z_aloadn C 0 dX7_fill_127 rfl rfl ?_
        refine z_callV C (cx_X7_settle l (by omega) h22 h23 h24 Ha_earliest (by omega) hGG (fun b a w h => xK b a w (zs_Kc_r (by omega) h)) (xL.iff (fun M => (zs_Kc_S hlc xP (by omega)).symm)) x0) mv_7_73 (z_atS 18 7 (by decide) rfl rfl rfl) pd_X7_settle ⟨by omega, by omega⟩ ⟨by omega, by omega⟩ rfl (Nat.le_of_ble_eq_true rfl) dX7_fill_128 ?_
        rintro _ _ _ ⟨n25, rfl, rfl, h28, q128_0, rfl⟩
        rw [hQ]
        exact z_vret C hrt dX7_fill_131 (⟨n15, n16, n17, n18, fa_lastSet, n5, n25, rfl, rfl, by omega, h22, h23, h24, Hfa_lastSet, h8, h28, fun L' hL' v hv => (q128_0 v hv).trans (xL.eq hL' (fun _ => Iff.rfl) v hv), rfl⟩) (by omega) (by omega)
      · skip
        refine z_aloadn C 0 dX7_fill_45 rfl rfl ?_
        refine z_iload C 4 dX7_fill_46 rfl ?_
        refine z_iconst C dX7_fill_48 ?_
        refine z_isub C dX7_fill_49 ?_
        refine z_iload C 4 dX7_fill_50 rfl ?_
        refine z_iconst C dX7_fill_52 ?_
        refine z_callV C (cx_X7_addGap l (i5 - 1) i5 0 (by omega) Hfa_gapFrom Hfa_gapTo Hfa_gapLeast (by omega) (by omega) (by omega) (by omega)) mv_7_55 (z_atS 18 7 (by decide) rfl rfl rfl) pd_X7_addGap ⟨by omega, by omega⟩ ⟨by omega, by omega⟩ rfl (Nat.le_of_ble_eq_true rfl) dX7_fill_53 ?_
        rintro _ _ _ ⟨n29, n30, n31, rfl, rfl, h34, h35, h36, q53_0, rfl⟩
        refine z_aloadn C 0 dX7_fill_56 rfl rfl ?_
        refine z_aloadn C 1 dX7_fill_57 rfl rfl ?_
        refine z_aloadn C 2 dX7_fill_58 rfl rfl ?_
        refine z_aloadn C 0 dX7_fill_59 rfl rfl ?_
        refine z_get C 18 (by decide) rfl rfl z_it7 1 (by decide) rfl fl_7_15 rfl dX7_fill_60 ?_
        refine z_iload C 4 dX7_fill_63 rfl ?_
        refine z_iconst C dX7_fill_65 ?_
        refine z_isub C dX7_fill_66 ?_
        refine z_iald C 20 (by decide) rfl (by decide) (by omega) (by omega) dX7_fill_67 ?_
        have rx37 := h8 ((i5 - 1) : Int).toNat
        generalize ex37 : n5 ((i5 - 1) : Int).toNat = x37 at rx37 ⊢
        have e67 := ex37
        have v67 := hv19 (i5 - 1 : Int).toNat (by omega)
        rw [e67] at v67
        refine z_iload C 4 dX7_fill_68 rfl ?_
        refine z_callV C (cx_X7_addLimits l x37 i5 (by omega) h34 h35 h36 Hfa_lastSet Ha_sfacts (by omega) (by omega) HN (by omega) (by omega)) mv_7_59 (z_atS 18 7 (by decide) rfl rfl rfl) pd_X7_addLimits ⟨by omega, by omega⟩ ⟨by omega, by omega⟩ rfl (Nat.le_of_ble_eq_true rfl) dX7_fill_70 ?_
        rintro _ _ _ ⟨n38, n39, n40, n41, rfl, rfl, h44, h45, h46, h47, q70_0, q70_1, rfl⟩
        have c70 := q70_1
        refine z_aloadn C 0 dX7_fill_73 rfl rfl ?_
        refine z_get C 18 (by decide) rfl rfl z_it7 1 (by decide) rfl fl_7_15 rfl dX7_fill_74 ?_
        refine z_iload C 4 dX7_fill_77 rfl ?_
        refine z_iald C 20 (by decide) rfl (by decide) (by omega) (by omega) dX7_fill_79 ?_
        have rx48 := h8 (i5 : Int).toNat
        generalize ex48 : n5 (i5 : Int).toNat = x48 at rx48 ⊢
        have e79 := ex48
        have v79 := hv19 (i5 : Int).toNat (by omega)
        rw [e79] at v79
        refine z_istore (L' := [(6, z_v x48), (0, .ref (ad 18)), (1, .ref (ad 1)), (2, .ref (ad 6)), (4, z_v x4), (5, z_v i5)]) C dX7_fill_80 (by decide) rfl ?_
        refine z_aloadn C 1 dX7_fill_82 rfl rfl ?_
        refine z_aloadn C 2 dX7_fill_83 rfl rfl ?_
        refine z_aloadn C 3 dX7_fill_84 rfl rfl ?_
        refine z_iload C 0 dX7_fill_85 rfl ?_
        refine z_iconst C dX7_fill_87 ?_
        refine z_callV C (cm_X4_fact l x48 4 Ha_sfacts (by omega) (by omega)) mv_7_30 (z_atS 6 4 (by decide) rfl rfl rfl) pd_X4_fact ⟨by omega, by omega⟩ ⟨by omega, by omega⟩ rfl (Nat.le_of_ble_eq_true rfl) dX7_fill_88 ?_
        rintro _ _ _ ⟨rfl, rfl, z51, rfl, hz51⟩
        have h88 : z51 = (zw_E (fun j => a_sfacts (7 * j + 3)) (fun j => a_sfacts (7 * j + 4)) (a_sfacts (i0 * 7 + 6 : Int).toNat) i0) (i5 : Int).toNat := by rw [hz51.1]; show a_sfacts _ = a_sfacts (7 * (z_up (fun j => a_sfacts (7 * j + 3)) ((a_sfacts (i0 * 7 + 6 : Int).toNat) - (((i5 : Int).toNat : Nat) : Int)).toNat i0).toNat + 4); rw [← hq19 (i5 : Int).toNat (by omega), e79]; congr 1; omega
        refine z_aloadn C 3 dX7_fill_91 rfl rfl ?_
        refine z_iload C 0 dX7_fill_92 rfl ?_
        refine z_iconst C dX7_fill_94 ?_
        refine z_callV C (cm_X4_fact l x48 5 Ha_sfacts (by omega) (by omega)) mv_7_30 (z_atS 6 4 (by decide) rfl rfl rfl) pd_X4_fact ⟨by omega, by omega⟩ ⟨by omega, by omega⟩ rfl (Nat.le_of_ble_eq_true rfl) dX7_fill_95 ?_
        rintro _ _ _ ⟨rfl, rfl, z54, rfl, hz54⟩
        have h95 : z54 = (zw_E (fun j => a_sfacts (7 * j + 3)) (fun j => a_sfacts (7 * j + 5)) (a_sfacts (i0 * 7 + 6 : Int).toNat) i0) (i5 : Int).toNat := by rw [hz54.1]; show a_sfacts _ = a_sfacts (7 * (z_up (fun j => a_sfacts (7 * j + 3)) ((a_sfacts (i0 * 7 + 6 : Int).toNat) - (((i5 : Int).toNat : Nat) : Int)).toNat i0).toNat + 5); rw [← hq19 (i5 : Int).toNat (by omega), e79]; congr 1; omega
        have hmem := hmv (i5 - 1 : Int).toNat (by omega)
        rw [show (i5 - 1 : Int).toNat + 1 = (i5 : Int).toNat by omega, ← h88, ← h95] at hmem
        refine z_callV C (cx_X2_find l z51 z54 (by omega) (by omega) (by omega) (by omega) HMo) mv_7_63 (z_atS 1 2 (by decide) rfl rfl rfl) pd_X2_find ⟨by omega, by omega⟩ ⟨by omega, by omega⟩ rfl (Nat.le_of_ble_eq_true rfl) dX7_fill_98 ?_
        rintro _ _ _ ⟨rfl, rfl, ⟨rfl, hnm⟩ | ⟨q55, rfl, hq55, hmm⟩⟩
        · skip
          refine z_iload C 5 dX7_fill_101 rfl ?_
          refine z_callV C (cm_X7_addStep_n l i5) mv_7_69 (z_atS 18 7 (by decide) rfl rfl rfl) pd_X7_addStep ⟨by omega, by omega⟩ ⟨by omega, by omega⟩ rfl (Nat.le_of_ble_eq_true rfl) dX7_fill_103 ?_
          rintro _ _ _ ⟨rfl, rfl, rfl⟩
          refine z_iinc (L' := [(5, z_v (i5 + 1)), (6, z_v x48), (0, .ref (ad 18)), (1, .ref (ad 1)), (2, .ref (ad 6)), (4, z_v x4)]) C 5 dX7_fill_106 rfl (by decide) rfl ?_
          refine z_goto (t := 38) C dX7_fill_109 (by decide) ?_
          refine z_loc (L' := [(0, .ref (ad 18)), (1, .ref (ad 1)), (2, .ref (ad 6)), (4, z_v x4), (5, z_v (i5 + 1))]) [2, 3, 4, 5, 0] rfl ?_
          exact ih38 (i5 + 1) n38 n39 n40 n41 fa_lastSet (by omega) h45 h46 h47 Hfa_lastSet (by omega) (by first | exact zs_cS (by omega) (z_N.hl HN) (z_N.hg HN) (by show (fun m => a_sfacts (7 * _ + m)) = (fun m => a_sfacts (7 * (z_up (fun j => a_sfacts (7 * j + 3)) ((a_sfacts (i0 * 7 + 6 : Int).toNat) - (((i5 - 1 : Int).toNat : Nat) : Int)).toNat i0).toNat + m)); rw [← hq19 (i5 - 1 : Int).toNat (by omega), e67]) (by intro m m0 m1; exact (Ha_sfacts _).1 (by omega)) h88 h95 (by have := xE (i5 - 1 : Int).toNat (by omega); rw [show (i5 - 1 : Int).toNat + 1 = (i5 : Int).toNat by omega, ← h88, ← h95] at this; exact this.1) (by have := xE (i5 - 1 : Int).toNat (by omega); rw [show (i5 - 1 : Int).toNat + 1 = (i5 : Int).toNat by omega, ← h88, ← h95] at this; exact this.2) (fun x h1 h4 => by show (fa_lastSet x).toNat = _; rw [FL x h1 h4]; exact Int.toNat_natCast _) GG q53_0 q70_0 q103_0 | exact absurd hmem hnm) (by first | exact fun x h1 h4 => zs_cL (by omega) h88 h95 (q103_2 x h1 h4) (FL x h1 h4) | exact absurd hmem hnm) (by first | (have := q103_1; omega) | exact absurd hmem hnm) (by omega) (by omega)
        · skip
          refine z_iload C 5 dX7_fill_101 rfl ?_
          refine z_callV C (cx_X7_addStep l i5 q55 (by omega) h45 h46 h47 Hfa_lastSet (by omega) hq55 HN (by omega) (by omega)) mv_7_69 (z_atS 18 7 (by decide) rfl rfl rfl) pd_X7_addStep ⟨by omega, by omega⟩ ⟨by omega, by omega⟩ rfl (Nat.le_of_ble_eq_true rfl) dX7_fill_103 ?_
          rintro _ _ _ ⟨n58, n59, n60, n61, n62, rfl, rfl, h65, h66, h67, h68, h69, q103_0, q103_1, q103_2, rfl⟩
          refine z_iinc (L' := [(5, z_v (i5 + 1)), (6, z_v x48), (0, .ref (ad 18)), (1, .ref (ad 1)), (2, .ref (ad 6)), (4, z_v x4)]) C 5 dX7_fill_106 rfl (by decide) rfl ?_
          refine z_goto (t := 38) C dX7_fill_109 (by decide) ?_
          refine z_loc (L' := [(0, .ref (ad 18)), (1, .ref (ad 1)), (2, .ref (ad 6)), (4, z_v x4), (5, z_v (i5 + 1))]) [2, 3, 4, 5, 0] rfl ?_
          exact ih38 (i5 + 1) n58 n59 n60 n61 n62 (by omega) h66 h67 h68 h69 (by omega) (by first | exact zs_cS (by omega) (z_N.hl HN) (z_N.hg HN) (by show (fun m => a_sfacts (7 * _ + m)) = (fun m => a_sfacts (7 * (z_up (fun j => a_sfacts (7 * j + 3)) ((a_sfacts (i0 * 7 + 6 : Int).toNat) - (((i5 - 1 : Int).toNat : Nat) : Int)).toNat i0).toNat + m)); rw [← hq19 (i5 - 1 : Int).toNat (by omega), e67]) (by intro m m0 m1; exact (Ha_sfacts _).1 (by omega)) h88 h95 (by have := xE (i5 - 1 : Int).toNat (by omega); rw [show (i5 - 1 : Int).toNat + 1 = (i5 : Int).toNat by omega, ← h88, ← h95] at this; exact this.1) (by have := xE (i5 - 1 : Int).toNat (by omega); rw [show (i5 - 1 : Int).toNat + 1 = (i5 : Int).toNat by omega, ← h88, ← h95] at this; exact this.2) (fun x h1 h4 => by show (fa_lastSet x).toNat = _; rw [FL x h1 h4]; exact Int.toNat_natCast _) GG q53_0 q70_0 q103_0 | exact absurd hmem hnm) (by first | exact fun x h1 h4 => zs_cL (by omega) h88 h95 (q103_2 x h1 h4) (FL x h1 h4) | exact absurd hmem hnm) (by first | (have := q103_1; omega) | exact absurd hmem hnm) (by omega) (by omega)
  refine z_loc (L' := [(0, .ref (ad 18)), (1, .ref (ad 1)), (2, .ref (ad 6)), (4, z_v x4), (5, z_v 1)]) [2, 3, 4, 1, 0] rfl ?_
  exact (L38 (((41 : Int) - 1).toNat + 1)) 1 0 a_gapFrom a_gapTo a_gapLeast n9 (by omega) Ha_gapFrom Ha_gapTo Ha_gapLeast h12 (by omega) (fun b a w => ⟨fun ⟨g, hg, _⟩ => by omega, fun ⟨j, hj, _⟩ => by omega⟩) (fun x h1 h4 => (q32_0 x (by omega)).trans rfl) (by omega) (by omega) (Nat.lt_succ_self _)
set_option maxRecDepth 20000 in
theorem cx_X10_moment (l : Launch) {D : va_G} {A : Nat → Prop} {ad : Nat → Nat} {ks : z_Ks} {s_edgeCount s_moveCount s_isNeeded s_timesDone s_size s_isGoing s_allTime s_stepCount s_gapCount : Int} {g_edges g_moves g_limits : Nat → Option Nat} {a_sfacts a_sbounds a_facts a_zone a_most a_places a_amounts a_nextPlaces a_nextAmounts a_earliest a_visited a_lastSet a_gapFrom a_gapTo a_gapLeast a_askedPlaces a_askedAmounts : Nat → Int} {Y : Nat → Option va_E} {em ef et ec er gn gt ln lt mf ms : Nat → Int} {qe ql qt : Nat → Nat} (i0 k0 : Int) (Hs_gapCount : (0 ≤ s_gapCount ∧ s_gapCount ≤ 615)) (Ha_gapFrom : (∀ j, 0 ≤ a_gapFrom j ∧ a_gapFrom j ≤ 40)) (Ha_gapTo : (∀ j, 0 ≤ a_gapTo j ∧ a_gapTo j ≤ 40)) (Ha_gapLeast : (∀ j, z_rg (a_gapLeast j))) (Ha_lastSet : (∀ j, 0 ≤ a_lastSet j ∧ a_lastSet j ≤ 40)) (Ha_visited : (∀ j, 0 ≤ a_visited j ∧ a_visited j ≤ 119)) (Ha_earliest : (∀ j, z_rg (a_earliest j))) (Ha_sfacts : (∀ j, (j % 7 < 3 → 0 ≤ a_sfacts j ∧ a_sfacts j ≤ 5) ∧ (j % 7 = 3 → -1 ≤ a_sfacts j ∧ a_sfacts j ≤ 119) ∧ (j % 7 = 6 → 0 ≤ a_sfacts j ∧ a_sfacts j ≤ 40) ∧ z_rg (a_sfacts j))) (Hs_size : (0 ≤ s_size ∧ s_size ≤ 120)) (Hs_moveCount : (0 ≤ s_moveCount ∧ s_moveCount ≤ 400)) (Hs_edgeCount : (0 ≤ s_edgeCount ∧ s_edgeCount ≤ 20)) (Hs_isNeeded : (s_isNeeded = 0 ∨ s_isNeeded = 1)) (hi0 : z_rg i0) (hk0 : z_rg k0) (hcc : z_cc s_size a_sfacts) (HN : z_N ks Y g_edges g_limits s_edgeCount em ef et ec er gn gt ln lt qe ql qt) (HMo : z_Mo Y g_moves s_moveCount mf ms s_edgeCount qe er) (hlc : zs_lc ln lt) (hex : s_isNeeded = 0 → 0 ≤ i0 → i0 < s_size → zw_ex s_edgeCount er gn gt ln lt (fun j => a_sfacts (7 * j + 3)) (fun j => a_sfacts (7 * j + 4)) (fun j => a_sfacts (7 * j + 5)) (fun j m => a_sfacts (7 * j + m)) (a_sfacts (i0 * 7 + 6 : Int).toNat) i0 ∧ ∀ j, j < (a_sfacts (i0 * 7 + 6 : Int).toNat).toNat → z_mem s_moveCount mf ms ((zw_E (fun j => a_sfacts (7 * j + 3)) (fun j => a_sfacts (7 * j + 4)) (a_sfacts (i0 * 7 + 6 : Int).toNat) i0) (j + 1)) ((zw_E (fun j => a_sfacts (7 * j + 3)) (fun j => a_sfacts (7 * j + 5)) (a_sfacts (i0 * 7 + 6 : Int).toNat) i0) (j + 1))) : z_Met l yX10_moment cX10_moment 3 (some .int) 4 99 0 0 D A 27 ad ks [.ref (ad 0), z_v i0, z_v k0] (z_zc ad ks s_edgeCount s_moveCount s_isNeeded s_timesDone s_size s_isGoing s_allTime s_stepCount s_gapCount g_edges g_moves g_limits a_sfacts a_sbounds a_facts a_zone a_most a_places a_amounts a_nextPlaces a_nextAmounts a_earliest a_visited a_lastSet a_gapFrom a_gapTo a_gapLeast a_askedPlaces a_askedAmounts) Y (fun r S' Y' => ∃ ns_gapCount : Int, ∃ na_gapFrom : Nat → Int, ∃ na_gapTo : Nat → Int, ∃ na_gapLeast : Nat → Int, ∃ na_lastSet : Nat → Int, ∃ na_visited : Nat → Int, ∃ na_earliest : Nat → Int, S' = (z_zc ad ks s_edgeCount s_moveCount s_isNeeded s_timesDone s_size s_isGoing s_allTime s_stepCount ns_gapCount g_edges g_moves g_limits a_sfacts a_sbounds a_facts a_zone a_most a_places a_amounts a_nextPlaces a_nextAmounts na_earliest na_visited na_lastSet na_gapFrom na_gapTo na_gapLeast a_askedPlaces a_askedAmounts) ∧ Y = Y' ∧ (0 ≤ ns_gapCount ∧ ns_gapCount ≤ 615) ∧ (∀ j, 0 ≤ na_gapFrom j ∧ na_gapFrom j ≤ 40) ∧ (∀ j, 0 ≤ na_gapTo j ∧ na_gapTo j ≤ 40) ∧ (∀ j, z_rg (na_gapLeast j)) ∧ (∀ j, 0 ≤ na_lastSet j ∧ na_lastSet j ≤ 40) ∧ (∀ j, 0 ≤ na_visited j ∧ na_visited j ≤ 119) ∧ (∀ j, z_rg (na_earliest j)) ∧ ∃ z : Int, r = some (z_v z) ∧ (zw_R (zw_K er gn gt ln lt (fun j => a_sfacts (7 * j + 3)) (fun j => a_sfacts (7 * j + 4)) (fun j => a_sfacts (7 * j + 5)) (fun j m => a_sfacts (7 * j + m)) (a_sfacts (i0 * 7 + 6 : Int).toNat) i0) i0 k0 s_isNeeded s_size (a_sfacts (i0 * 7 + 6 : Int).toNat) z)) := by
  refine z_start2 (by decide) (Nat.le_of_ble_eq_true rfl) ?_
  intro p e R s m args below meth c Q C hRf hRc hRs hRl hQ hrt hnm
  refine z_loc (L' := [(0, .ref (ad 0)), (1, z_v i0), (2, z_v k0)]) [0, 1, 2] rfl ?_
  refine z_aloadn C 0 dX10_moment_0 rfl rfl ?_
  refine z_get C 0 (by decide) rfl rfl z_it10 1 (by decide) rfl fl_10_19 rfl dX10_moment_1 ?_
  refine z_get C 5 (by decide) rfl rfl z_it3 1 (by decide) rfl fl_10_102 rfl dX10_moment_4 ?_
  refine z_if_eq (t := 13) C dX10_moment_7 (by decide) (by omega) (fun c1 => ?_) (fun c1 => ?_)
  · skip
    refine z_aloadn C 0 dX10_moment_13 rfl rfl ?_
    refine z_get C 0 (by decide) rfl rfl z_it10 1 (by decide) rfl fl_10_19 rfl dX10_moment_14 ?_
    refine z_get C 5 (by decide) rfl rfl z_it3 0 (by decide) rfl fl_10_106 rfl dX10_moment_17 ?_
    refine z_iloadn C 1 dX10_moment_20 rfl rfl ?_
    refine z_iloadn C 2 dX10_moment_21 rfl rfl ?_
    refine z_callV C (cm_X4_isStep l i0 k0 (by omega) Ha_sfacts (by omega) (by omega)) mv_10_142 (z_atS 6 4 (by decide) rfl rfl rfl) pd_X4_isStep ⟨by omega, by omega⟩ ⟨by omega, by omega⟩ rfl (Nat.le_of_ble_eq_true rfl) dX10_moment_22 ?_
    rintro _ _ _ ⟨rfl, rfl, z4, rfl, hz4⟩
    refine z_if_ne (t := 31) C dX10_moment_25 (by decide) (by omega) (fun c5 => ?_) (fun c5 => ?_)
    · skip
      refine z_aloadn C 0 dX10_moment_31 rfl rfl ?_
      refine z_get C 0 (by decide) rfl rfl z_it10 3 (by decide) rfl fl_10_33 rfl dX10_moment_32 ?_
      refine z_aloadn C 0 dX10_moment_35 rfl rfl ?_
      refine z_get C 0 (by decide) rfl rfl z_it10 0 (by decide) rfl fl_10_12 rfl dX10_moment_36 ?_
      refine z_aloadn C 0 dX10_moment_39 rfl rfl ?_
      refine z_get C 0 (by decide) rfl rfl z_it10 1 (by decide) rfl fl_10_19 rfl dX10_moment_40 ?_
      refine z_get C 5 (by decide) rfl rfl z_it3 0 (by decide) rfl fl_10_106 rfl dX10_moment_43 ?_
      refine z_iloadn C 1 dX10_moment_46 rfl rfl ?_
      obtain ⟨yx, ym⟩ := hex (by omega) (by omega) (by omega)
      refine z_callV C (cx_X7_fill l i0 (by omega) Ha_gapFrom Ha_gapTo Ha_gapLeast Ha_lastSet Ha_visited Ha_earliest Ha_sfacts (by omega) (by omega) (by omega) (by omega) hcc HN HMo hlc (by omega) ym yx) mv_10_149 (z_atS 18 7 (by decide) rfl rfl rfl) pd_X7_fill ⟨by omega, by omega⟩ ⟨by omega, by omega⟩ rfl (Nat.le_of_ble_eq_true rfl) dX10_moment_47 ?_
      rintro _ _ _ ⟨n6, n7, n8, n9, n10, n11, n12, rfl, rfl, h15, h16, h17, h18, h19, h20, h21, q47_0, rfl⟩
      have hm40 := (Ha_sfacts (i0 * 7 + 6 : Int).toNat).2.2.1 (by omega)
      refine z_aloadn C 0 dX10_moment_50 rfl rfl ?_
      refine z_get C 0 (by decide) rfl rfl z_it10 3 (by decide) rfl fl_10_33 rfl dX10_moment_51 ?_
      refine z_get C 18 (by decide) rfl rfl z_it7 0 (by decide) rfl fl_10_153 rfl dX10_moment_54 ?_
      refine z_iloadn C 2 dX10_moment_57 rfl rfl ?_
      refine z_iconst C dX10_moment_58 ?_
      refine z_iadd C dX10_moment_59 ?_
      refine z_iald C 19 (by decide) rfl (by decide) (by omega) (by omega) dX10_moment_60 ?_
      have rx22 := h21 ((k0 + 1) : Int).toNat
      generalize ex22 : n12 ((k0 + 1) : Int).toNat = x22 at rx22 ⊢
      have e60 := ex22
      rw [hQ]
      exact z_iret C hrt dX10_moment_61 (⟨n6, n7, n8, n9, n10, n11, n12, rfl, rfl, by omega, h16, h17, h18, h19, h20, h21, _, rfl, Or.inr (Or.inr ⟨by omega, fun L' hL' => e60.symm.trans (q47_0 L' hL' _ (by omega))⟩)⟩) (by omega) (by omega)
    · skip
      refine z_bipush C dX10_moment_28 (by decide) ?_
      rw [hQ]
      exact z_iret C hrt dX10_moment_30 (⟨s_gapCount, a_gapFrom, a_gapTo, a_gapLeast, a_lastSet, a_visited, a_earliest, rfl, rfl, by omega, Ha_gapFrom, Ha_gapTo, Ha_gapLeast, Ha_lastSet, Ha_visited, Ha_earliest, _, rfl, Or.inr (Or.inl ⟨by omega, by omega, rfl⟩)⟩) (by omega) (by omega)
  · skip
    refine z_bipush C dX10_moment_10 (by decide) ?_
    rw [hQ]
    exact z_iret C hrt dX10_moment_12 (⟨s_gapCount, a_gapFrom, a_gapTo, a_gapLeast, a_lastSet, a_visited, a_earliest, rfl, rfl, by omega, Ha_gapFrom, Ha_gapTo, Ha_gapLeast, Ha_lastSet, Ha_visited, Ha_earliest, _, rfl, Or.inl ⟨by omega, rfl⟩⟩) (by omega) (by omega)
