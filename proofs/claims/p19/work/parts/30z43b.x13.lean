def zo_cw (sf sb fa z : Nat → Int) (i : Int) : Prop := (∀ m : Int, 0 ≤ m → m < 3 → fa m.toNat = sf (7 * i.toNat + m.toNat)) ∧ ∀ k : Int, 0 ≤ k → k < 16 → z k.toNat ≤ sb (16 * i + k).toNat
theorem zo_cw_iff {N : Int} {sf sb fa z : Nat → Int} (hN : 0 ≤ N) : (∃ i : Int, 0 ≤ i ∧ i < N ∧ zo_cw sf sb fa z i) ↔ zo_cov (zo_ab N (zo_sC sf sb)) (zo_n3 fa) (zo_n16 z) := by
  rw [zo_ab_cov hN]
  constructor
  · rintro ⟨i, h0, h1, h2, h3⟩
    refine ⟨i.toNat, by omega, fun m hm => ?_, fun k hk => ?_⟩
    · show zo_n3 (fun m => sf (7 * i.toNat + m)) m = zo_n3 fa m
      rw [zo_n3_at hm, zo_n3_at hm]
      exact (h2 m (by omega) (by omega)).symm
    · show zo_n16 z k ≤ zo_n16 (fun k => sb (16 * i.toNat + k)) k
      rw [zo_n16_at hk, zo_n16_at hk]
      have := h3 k (by omega) (by omega)
      rw [show (16 * i + (k : Int)).toNat = 16 * i.toNat + k by omega] at this
      exact this
  · rintro ⟨i, h1, h2, h3⟩
    refine ⟨i, by omega, h1, fun m h0 hm => ?_, fun k h0 hk => ?_⟩
    · have e : zo_n3 (fun m => sf (7 * i + m)) m.toNat = zo_n3 fa m.toNat := h2 m.toNat (by omega)
      rw [zo_n3_at (by omega), zo_n3_at (by omega)] at e
      exact e.symm
    · have e : zo_n16 z k.toNat ≤ zo_n16 (fun k => sb (16 * i + k)) k.toNat := h3 k.toNat (by omega)
      rw [zo_n16_at (by omega), zo_n16_at (by omega)] at e
      rw [show (16 * (i : Int) + k).toNat = 16 * i + k.toNat by omega]
      exact e
theorem zo_fa {fa sf : Nat → Int} {i m x z : Int} (e : fa m.toNat = x) (h : z = sf (i * 7 + m).toNat) (hm : 0 ≤ i ∧ 0 ≤ m) (q : x = z) : fa m.toNat = sf (7 * i.toNat + m.toNat) := by
  rw [e, q, h]
  congr 1
  omega
theorem zo_fb {fa sf : Nat → Int} {i m x z : Int} (e : fa m.toNat = x) (h : z = sf (i * 7 + m).toNat) (hm : 0 ≤ i ∧ 0 ≤ m) (q : ¬ x = z) : ¬ fa m.toNat = sf (7 * i.toNat + m.toNat) := by
  rw [e]
  intro r
  apply q
  rw [r, h]
  congr 1
  omega
theorem zo_addC {N : Int} {sf sb fa z : Nat → Int} (hN : 0 ≤ N) : zo_ab (N + 1) (zo_sC (va_cpy fa sf (0 : Int).toNat (N * 7 : Int).toNat (7 : Int).toNat) (va_cpy z sb (0 : Int).toNat (N * 16 : Int).toNat (16 : Int).toNat)) = zo_ab N (zo_sC sf sb) ++ [(zo_n3 fa, zo_n16 z, fa 3, fa 4, fa 5, fa 6)] := by
  have e1 : ∀ j : Nat, (j : Int) < N * 7 → va_cpy fa sf (0 : Int).toNat (N * 7 : Int).toNat (7 : Int).toNat j = sf j := fun j hj => pk_cpy_out (Or.inl (by omega))
  have e2 : ∀ j : Nat, j < 7 → va_cpy fa sf (0 : Int).toNat (N * 7 : Int).toNat (7 : Int).toNat (7 * N.toNat + j) = fa j := fun j hj => by
    rw [pk_cpy_in (by omega) (by omega)]
    congr 1
    omega
  have e3 : ∀ j : Nat, (j : Int) < N * 16 → va_cpy z sb (0 : Int).toNat (N * 16 : Int).toNat (16 : Int).toNat j = sb j := fun j hj => pk_cpy_out (Or.inl (by omega))
  have e4 : ∀ j : Nat, j < 16 → va_cpy z sb (0 : Int).toNat (N * 16 : Int).toNat (16 : Int).toNat (16 * N.toNat + j) = z j := fun j hj => by
    rw [pk_cpy_in (by omega) (by omega)]
    congr 1
    omega
  refine zo_ab_add hN (fun k hk => ?_) ?_
  · unfold zo_sC
    rw [zo_n3_eq (fun m hm => e1 (7 * k + m) (by omega)), zo_n16_eq (fun m hm => e3 (16 * k + m) (by omega)), e1 (7 * k + 3) (by omega), e1 (7 * k + 4) (by omega), e1 (7 * k + 5) (by omega), e1 (7 * k + 6) (by omega)]
  · unfold zo_sC
    rw [zo_n3_eq (fun m hm => e2 m (by omega)), zo_n16_eq (fun m hm => e4 m hm), e2 3 (by omega), e2 4 (by omega), e2 5 (by omega), e2 6 (by omega)]
theorem zo_prX {P : Int → Int → Prop} {f : Nat → Int} {i v : Int} (FX : ∀ x : Int, 1 ≤ x → x < i → P x (f x.toNat)) (h : P i v) (hi : 1 ≤ i) : ∀ x : Int, 1 ≤ x → x < i + 1 → P x (va_up f i.toNat v x.toNat) := by
  intro x h0 h1
  unfold va_up
  by_cases c : x = i
  · subst c
    rw [if_pos rfl]
    exact h
  · rw [if_neg (by omega)]
    exact FX x h0 (by omega)
theorem zo_seN {ln lt at0 mo z c5 n : Nat → Int} (g5 : zo_GC (fun w => zo_le w z ∧ zo_sl ln lt at0 w) c5) (q : ∀ k, k < 16 → n k = zo_tm c5 k) (h : zo_none (fun w => zo_le w n ∧ zo_sl ln lt at0 w)) : ∀ c, ¬ zo_settle ln lt at0 mo z c := by
  rintro c ⟨d, g, ⟨d3, g3, _⟩⟩
  have e4 := g.uniq g5
  exact h d3 g3.1 ⟨(zo_le_pt (fun k hk => (q k hk).trans (zo_tm_pt e4 k hk).symm) d3).mpr g3.2.1.1, g3.2.1.2⟩
set_option maxRecDepth 20000 in
theorem cx_X9_putAllClocksAtZero (l : Launch) {D : va_G} {A : Nat → Prop} {ad : Nat → Nat} {ks : z_Ks} {s_edgeCount s_moveCount s_isNeeded s_timesDone s_size s_isGoing s_allTime s_stepCount s_gapCount : Int} {g_edges g_moves g_limits : Nat → Option Nat} {a_sfacts a_sbounds a_facts a_zone a_most a_places a_amounts a_nextPlaces a_nextAmounts a_earliest a_visited a_lastSet a_gapFrom a_gapTo a_gapLeast a_askedPlaces a_askedAmounts : Nat → Int} {Y : Nat → Option va_E} (Ha_zone : (∀ j, z_rg (a_zone j))) : z_Met l yX9_putAllClocksAtZero cX9_putAllClocksAtZero 1 none 1 23 0 0 D A 27 ad ks [.ref (ad 10)] (z_zc ad ks s_edgeCount s_moveCount s_isNeeded s_timesDone s_size s_isGoing s_allTime s_stepCount s_gapCount g_edges g_moves g_limits a_sfacts a_sbounds a_facts a_zone a_most a_places a_amounts a_nextPlaces a_nextAmounts a_earliest a_visited a_lastSet a_gapFrom a_gapTo a_gapLeast a_askedPlaces a_askedAmounts) Y (fun r S' Y' => ∃ na_zone : Nat → Int, S' = (z_zc ad ks s_edgeCount s_moveCount s_isNeeded s_timesDone s_size s_isGoing s_allTime s_stepCount s_gapCount g_edges g_moves g_limits a_sfacts a_sbounds a_facts na_zone a_most a_places a_amounts a_nextPlaces a_nextAmounts a_earliest a_visited a_lastSet a_gapFrom a_gapTo a_gapLeast a_askedPlaces a_askedAmounts) ∧ Y = Y' ∧ (∀ j, z_rg (na_zone j)) ∧ (∀ k, k < 16 → na_zone k = 1) ∧ r = none) := by
  refine z_start2 (by decide) (Nat.le_of_ble_eq_true rfl) ?_
  intro p e R s m args below meth c Q C hRf hRc hRs hRl hQ hrt hnm
  refine z_loc (L' := [(0, .ref (ad 10))]) [0] rfl ?_
  refine z_aloadn C 0 dX9_putAllClocksAtZero_0 rfl rfl ?_
  refine z_get C 10 (by decide) rfl rfl z_it9 0 (by decide) rfl fl_9_9 rfl dX9_putAllClocksAtZero_1 ?_
  refine z_iconst C dX9_putAllClocksAtZero_4 ?_
  refine z_callS C (cm_J7_fill_53178_11 l 1 Ha_zone (by omega)) mv_9_16 pd_J7_fill_53178 ⟨by omega, by omega⟩ ⟨by omega, by omega⟩ rfl (Nat.le_of_ble_eq_true rfl) dX9_putAllClocksAtZero_5 ?_
  rintro _ _ _ ⟨n1, rfl, rfl, h4, q5_0, rfl⟩
  rw [hQ]
  exact z_vret C hrt dX9_putAllClocksAtZero_8 (⟨n1, rfl, rfl, h4, q5_0, rfl⟩) (by omega) (by omega)
set_option maxRecDepth 20000 in
theorem cx_X4_copyZone (l : Launch) {D : va_G} {A : Nat → Prop} {ad : Nat → Nat} {ks : z_Ks} {s_edgeCount s_moveCount s_isNeeded s_timesDone s_size s_isGoing s_allTime s_stepCount s_gapCount : Int} {g_edges g_moves g_limits : Nat → Option Nat} {a_sfacts a_sbounds a_facts a_zone a_most a_places a_amounts a_nextPlaces a_nextAmounts a_earliest a_visited a_lastSet a_gapFrom a_gapTo a_gapLeast a_askedPlaces a_askedAmounts : Nat → Int} {Y : Nat → Option va_E} (i0 : Int) (Ha_sbounds : (∀ j, z_rg (a_sbounds j))) (Ha_zone : (∀ j, z_rg (a_zone j))) (hi : 0 ≤ i0 ∧ i0 ≤ 119) : z_Met l yX4_copyZone cX4_copyZone 3 none 1 40 0 0 D A 27 ad ks [.ref (ad 6), z_v i0, .ref (ad 10)] (z_zc ad ks s_edgeCount s_moveCount s_isNeeded s_timesDone s_size s_isGoing s_allTime s_stepCount s_gapCount g_edges g_moves g_limits a_sfacts a_sbounds a_facts a_zone a_most a_places a_amounts a_nextPlaces a_nextAmounts a_earliest a_visited a_lastSet a_gapFrom a_gapTo a_gapLeast a_askedPlaces a_askedAmounts) Y (fun r S' Y' => ∃ na_zone : Nat → Int, S' = (z_zc ad ks s_edgeCount s_moveCount s_isNeeded s_timesDone s_size s_isGoing s_allTime s_stepCount s_gapCount g_edges g_moves g_limits a_sfacts a_sbounds a_facts na_zone a_most a_places a_amounts a_nextPlaces a_nextAmounts a_earliest a_visited a_lastSet a_gapFrom a_gapTo a_gapLeast a_askedPlaces a_askedAmounts) ∧ Y = Y' ∧ (∀ j, z_rg (na_zone j)) ∧ (∀ k, k < 16 → na_zone k = a_sbounds (16 * i0.toNat + k)) ∧ r = none) := by
  refine z_start2 (by decide) (Nat.le_of_ble_eq_true rfl) ?_
  intro p e R s m args below meth c Q C hRf hRc hRs hRl hQ hrt hnm
  refine z_loc (L' := [(0, .ref (ad 6)), (1, z_v i0), (2, .ref (ad 10))]) [0, 1, 2] rfl ?_
  refine z_aloadn C 0 dX4_copyZone_0 rfl rfl ?_
  refine z_get C 6 (by decide) rfl rfl z_it4 2 (by decide) rfl fl_4_15 rfl dX4_copyZone_1 ?_
  refine z_iloadn C 1 dX4_copyZone_4 rfl rfl ?_
  refine z_bipush C dX4_copyZone_5 (by decide) ?_
  refine z_imul C dX4_copyZone_7 ?_
  refine z_aloadn C 2 dX4_copyZone_8 rfl rfl ?_
  refine z_get C 10 (by decide) rfl rfl z_it9 0 (by decide) rfl fl_4_36 rfl dX4_copyZone_9 ?_
  refine z_iconst C dX4_copyZone_12 ?_
  refine z_bipush C dX4_copyZone_13 (by decide) ?_
  refine z_copy C 8 11 (by decide) (by decide) rfl rfl mc_4_30 (by omega) (by omega) (by omega) (by omega) (by omega) (by decide) (by decide) (by omega) (by rw [hRl]; exact Nat.le_of_ble_eq_true rfl) dX4_copyZone_15 ?_
  refine z_ext (S' := (z_zc ad ks s_edgeCount s_moveCount s_isNeeded s_timesDone s_size s_isGoing s_allTime s_stepCount s_gapCount g_edges g_moves g_limits a_sfacts a_sbounds a_facts (va_cpy a_sbounds a_zone ((i0 * 16) : Int).toNat (0 : Int).toNat (16 : Int).toNat) a_most a_places a_amounts a_nextPlaces a_nextAmounts a_earliest a_visited a_lastSet a_gapFrom a_gapTo a_gapLeast a_askedPlaces a_askedAmounts)) upC_a_zone ?_
  have h1 : ∀ j, z_rg ((va_cpy a_sbounds a_zone ((i0 * 16) : Int).toNat (0 : Int).toNat (16 : Int).toNat) j) := z_cpyP (P := fun v => z_rg (v)) Ha_sbounds Ha_zone
  rw [hQ]
  exact z_vret C hrt dX4_copyZone_18 (⟨(va_cpy a_sbounds a_zone ((i0 * 16) : Int).toNat (0 : Int).toNat (16 : Int).toNat), rfl, rfl, h1, fun k hk => (pk_cpy_in (Nat.zero_le _) (by omega)).trans (by congr 1; omega), rfl⟩) (by omega) (by omega)
set_option maxRecDepth 20000 in
theorem cx_X4_add (l : Launch) {D : va_G} {A : Nat → Prop} {ad : Nat → Nat} {ks : z_Ks} {s_edgeCount s_moveCount s_isNeeded s_timesDone s_size s_isGoing s_allTime s_stepCount s_gapCount : Int} {g_edges g_moves g_limits : Nat → Option Nat} {a_sfacts a_sbounds a_facts a_zone a_most a_places a_amounts a_nextPlaces a_nextAmounts a_earliest a_visited a_lastSet a_gapFrom a_gapTo a_gapLeast a_askedPlaces a_askedAmounts : Nat → Int} {Y : Nat → Option va_E} (Hs_size : (0 ≤ s_size ∧ s_size ≤ 120)) (Ha_facts : (∀ j, (j % 7 < 3 → 0 ≤ a_facts j ∧ a_facts j ≤ 5) ∧ (j % 7 = 3 → -1 ≤ a_facts j ∧ a_facts j ≤ 119) ∧ (j % 7 = 6 → 0 ≤ a_facts j ∧ a_facts j ≤ 40) ∧ z_rg (a_facts j))) (Ha_sfacts : (∀ j, (j % 7 < 3 → 0 ≤ a_sfacts j ∧ a_sfacts j ≤ 5) ∧ (j % 7 = 3 → -1 ≤ a_sfacts j ∧ a_sfacts j ≤ 119) ∧ (j % 7 = 6 → 0 ≤ a_sfacts j ∧ a_sfacts j ≤ 40) ∧ z_rg (a_sfacts j))) (Ha_sbounds : (∀ j, z_rg (a_sbounds j))) (Ha_zone : (∀ j, z_rg (a_zone j))) (hs : s_size ≤ 119) (hcc : z_cc s_size a_sfacts) (hc : a_facts 6 = 0 ∨ 0 ≤ a_facts 3 ∧ a_facts 3 < s_size ∧ a_sfacts (7 * (a_facts 3).toNat + 6) = a_facts 6 - 1) : z_Met l yX4_add cX4_add 3 none 1 40 0 0 D A 27 ad ks [.ref (ad 6), .ref (ad 9), .ref (ad 10)] (z_zc ad ks s_edgeCount s_moveCount s_isNeeded s_timesDone s_size s_isGoing s_allTime s_stepCount s_gapCount g_edges g_moves g_limits a_sfacts a_sbounds a_facts a_zone a_most a_places a_amounts a_nextPlaces a_nextAmounts a_earliest a_visited a_lastSet a_gapFrom a_gapTo a_gapLeast a_askedPlaces a_askedAmounts) Y (fun r S' Y' => ∃ na_sfacts : Nat → Int, ∃ na_sbounds : Nat → Int, S' = (z_zc ad ks s_edgeCount s_moveCount s_isNeeded s_timesDone (s_size + 1) s_isGoing s_allTime s_stepCount s_gapCount g_edges g_moves g_limits na_sfacts na_sbounds a_facts a_zone a_most a_places a_amounts a_nextPlaces a_nextAmounts a_earliest a_visited a_lastSet a_gapFrom a_gapTo a_gapLeast a_askedPlaces a_askedAmounts) ∧ Y = Y' ∧ (∀ j, (j % 7 < 3 → 0 ≤ na_sfacts j ∧ na_sfacts j ≤ 5) ∧ (j % 7 = 3 → -1 ≤ na_sfacts j ∧ na_sfacts j ≤ 119) ∧ (j % 7 = 6 → 0 ≤ na_sfacts j ∧ na_sfacts j ≤ 40) ∧ z_rg (na_sfacts j)) ∧ (∀ j, z_rg (na_sbounds j)) ∧ z_cc (s_size + 1) na_sfacts ∧ (∀ j : Nat, (j : Int) < s_size * 7 → na_sfacts j = a_sfacts j) ∧ (zo_ab (s_size + 1) (zo_sC na_sfacts na_sbounds) = zo_ab s_size (zo_sC a_sfacts a_sbounds) ++ [(zo_n3 a_facts, zo_n16 a_zone, a_facts 3, a_facts 4, a_facts 5, a_facts 6)]) ∧ (∀ k, k < 16 → na_sbounds (16 * s_size.toNat + k) = a_zone k) ∧ (∀ j : Nat, (j : Int) < 16 * s_size → na_sbounds j = a_sbounds j) ∧ r = none) := by
  refine z_start2 (by decide) (Nat.le_of_ble_eq_true rfl) ?_
  intro p e R s m args below meth c Q C hRf hRc hRs hRl hQ hrt hnm
  refine z_loc (L' := [(0, .ref (ad 6)), (1, .ref (ad 9)), (2, .ref (ad 10))]) [0, 1, 2] rfl ?_
  refine z_aloadn C 0 dX4_add_0 rfl rfl ?_
  refine z_get C 6 (by decide) rfl rfl z_it4 0 (by decide) rfl fl_4_18 rfl dX4_add_1 ?_
  refine z_bipush C dX4_add_4 (by decide) ?_
  refine z_icmp_ge (t := 58) C dX4_add_6 (by decide) (by omega) (by omega) (fun c1 => ?_) (fun c1 => ?_)
  · skip
    omega
  · skip
    refine z_aloadn C 1 dX4_add_9 rfl rfl ?_
    refine z_iconst C dX4_add_10 ?_
    refine z_aloadn C 0 dX4_add_11 rfl rfl ?_
    refine z_get C 6 (by decide) rfl rfl z_it4 1 (by decide) rfl fl_4_9 rfl dX4_add_12 ?_
    refine z_aloadn C 0 dX4_add_15 rfl rfl ?_
    refine z_get C 6 (by decide) rfl rfl z_it4 0 (by decide) rfl fl_4_18 rfl dX4_add_16 ?_
    refine z_bipush C dX4_add_19 (by decide) ?_
    refine z_imul C dX4_add_21 ?_
    refine z_bipush C dX4_add_22 (by decide) ?_
    refine z_copy C 9 7 (by decide) (by decide) rfl rfl mc_4_30 (by omega) (by omega) (by omega) (by omega) (by omega) (by decide) (by decide) (by omega) (by rw [hRl]; exact Nat.le_of_ble_eq_true rfl) dX4_add_24 ?_
    refine z_ext (S' := (z_zc ad ks s_edgeCount s_moveCount s_isNeeded s_timesDone s_size s_isGoing s_allTime s_stepCount s_gapCount g_edges g_moves g_limits (va_cpy a_facts a_sfacts (0 : Int).toNat ((s_size * 7) : Int).toNat (7 : Int).toNat) a_sbounds a_facts a_zone a_most a_places a_amounts a_nextPlaces a_nextAmounts a_earliest a_visited a_lastSet a_gapFrom a_gapTo a_gapLeast a_askedPlaces a_askedAmounts)) upC_a_sfacts ?_
    have h2 : ∀ j, (j % 7 < 3 → 0 ≤ (va_cpy a_facts a_sfacts (0 : Int).toNat ((s_size * 7) : Int).toNat (7 : Int).toNat) j ∧ (va_cpy a_facts a_sfacts (0 : Int).toNat ((s_size * 7) : Int).toNat (7 : Int).toNat) j ≤ 5) ∧ (j % 7 = 3 → -1 ≤ (va_cpy a_facts a_sfacts (0 : Int).toNat ((s_size * 7) : Int).toNat (7 : Int).toNat) j ∧ (va_cpy a_facts a_sfacts (0 : Int).toNat ((s_size * 7) : Int).toNat (7 : Int).toNat) j ≤ 119) ∧ (j % 7 = 6 → 0 ≤ (va_cpy a_facts a_sfacts (0 : Int).toNat ((s_size * 7) : Int).toNat (7 : Int).toNat) j ∧ (va_cpy a_facts a_sfacts (0 : Int).toNat ((s_size * 7) : Int).toNat (7 : Int).toNat) j ≤ 40) ∧ z_rg ((va_cpy a_facts a_sfacts (0 : Int).toNat ((s_size * 7) : Int).toNat (7 : Int).toNat) j) := z_p7c Ha_facts Ha_sfacts (by omega)
    refine z_aloadn C 2 dX4_add_27 rfl rfl ?_
    refine z_get C 10 (by decide) rfl rfl z_it9 0 (by decide) rfl fl_4_36 rfl dX4_add_28 ?_
    refine z_iconst C dX4_add_31 ?_
    refine z_aloadn C 0 dX4_add_32 rfl rfl ?_
    refine z_get C 6 (by decide) rfl rfl z_it4 2 (by decide) rfl fl_4_15 rfl dX4_add_33 ?_
    refine z_aloadn C 0 dX4_add_36 rfl rfl ?_
    refine z_get C 6 (by decide) rfl rfl z_it4 0 (by decide) rfl fl_4_18 rfl dX4_add_37 ?_
    refine z_bipush C dX4_add_40 (by decide) ?_
    refine z_imul C dX4_add_42 ?_
    refine z_bipush C dX4_add_43 (by decide) ?_
    refine z_copy C 11 8 (by decide) (by decide) rfl rfl mc_4_30 (by omega) (by omega) (by omega) (by omega) (by omega) (by decide) (by decide) (by omega) (by rw [hRl]; exact Nat.le_of_ble_eq_true rfl) dX4_add_45 ?_
    refine z_ext (S' := (z_zc ad ks s_edgeCount s_moveCount s_isNeeded s_timesDone s_size s_isGoing s_allTime s_stepCount s_gapCount g_edges g_moves g_limits (va_cpy a_facts a_sfacts (0 : Int).toNat ((s_size * 7) : Int).toNat (7 : Int).toNat) (va_cpy a_zone a_sbounds (0 : Int).toNat ((s_size * 16) : Int).toNat (16 : Int).toNat) a_facts a_zone a_most a_places a_amounts a_nextPlaces a_nextAmounts a_earliest a_visited a_lastSet a_gapFrom a_gapTo a_gapLeast a_askedPlaces a_askedAmounts)) upC_a_sbounds ?_
    have h3 : ∀ j, z_rg ((va_cpy a_zone a_sbounds (0 : Int).toNat ((s_size * 16) : Int).toNat (16 : Int).toNat) j) := z_cpyP (P := fun v => z_rg (v)) Ha_zone Ha_sbounds
    refine z_aloadn C 0 dX4_add_48 rfl rfl ?_
    refine z_dup C dX4_add_49 rfl ?_
    refine z_get C 6 (by decide) rfl rfl z_it4 0 (by decide) rfl fl_4_18 rfl dX4_add_50 ?_
    refine z_iconst C dX4_add_53 ?_
    refine z_iadd C dX4_add_54 ?_
    refine z_put C 6 (by decide) rfl rfl z_it4 tyX4 tyX4_ok nmX4 0 (by decide) rfl (Or.inl rfl) fl_4_18 z_pfI rfl rfl (Nat.le_of_ble_eq_true rfl) dX4_add_55 ?_
    refine z_ext (S' := (z_zc ad ks s_edgeCount s_moveCount s_isNeeded s_timesDone (s_size + 1) s_isGoing s_allTime s_stepCount s_gapCount g_edges g_moves g_limits (va_cpy a_facts a_sfacts (0 : Int).toNat ((s_size * 7) : Int).toNat (7 : Int).toNat) (va_cpy a_zone a_sbounds (0 : Int).toNat ((s_size * 16) : Int).toNat (16 : Int).toNat) a_facts a_zone a_most a_places a_amounts a_nextPlaces a_nextAmounts a_earliest a_visited a_lastSet a_gapFrom a_gapTo a_gapLeast a_askedPlaces a_askedAmounts)) upC_s_size ?_
    rw [hQ]
    exact z_vret C hrt dX4_add_58 (⟨(va_cpy a_facts a_sfacts (0 : Int).toNat ((s_size * 7) : Int).toNat (7 : Int).toNat), (va_cpy a_zone a_sbounds (0 : Int).toNat ((s_size * 16) : Int).toNat (16 : Int).toNat), rfl, rfl, h2, h3, z_cc_add hcc (by omega) hc, fun j hj => pk_cpy_out (Or.inl (by omega)), zo_addC (by omega), fun k hk => (pk_cpy_in (by omega) (by omega)).trans (by congr 1; omega), fun j hj => pk_cpy_out (Or.inl (by omega)), rfl⟩) (by omega) (by omega)
set_option maxRecDepth 20000 in
theorem cx_X4_isAt_9 (l : Launch) {D : va_G} {A : Nat → Prop} {ad : Nat → Nat} {ks : z_Ks} {s_edgeCount s_moveCount s_isNeeded s_timesDone s_size s_isGoing s_allTime s_stepCount s_gapCount : Int} {g_edges g_moves g_limits : Nat → Option Nat} {a_sfacts a_sbounds a_facts a_zone a_most a_places a_amounts a_nextPlaces a_nextAmounts a_earliest a_visited a_lastSet a_gapFrom a_gapTo a_gapLeast a_askedPlaces a_askedAmounts : Nat → Int} {Y : Nat → Option va_E} (i0 : Int) (Ha_sfacts : (∀ j, (j % 7 < 3 → 0 ≤ a_sfacts j ∧ a_sfacts j ≤ 5) ∧ (j % 7 = 3 → -1 ≤ a_sfacts j ∧ a_sfacts j ≤ 119) ∧ (j % 7 = 6 → 0 ≤ a_sfacts j ∧ a_sfacts j ≤ 40) ∧ z_rg (a_sfacts j))) (Ha_facts : (∀ j, (j % 7 < 3 → 0 ≤ a_facts j ∧ a_facts j ≤ 5) ∧ (j % 7 = 3 → -1 ≤ a_facts j ∧ a_facts j ≤ 119) ∧ (j % 7 = 6 → 0 ≤ a_facts j ∧ a_facts j ≤ 40) ∧ z_rg (a_facts j))) (hi : 0 ≤ i0 ∧ i0 ≤ 119) : z_Met l yX4_isAt cX4_isAt 4 (some .boolean) 1 22 0 0 D A 27 ad ks [.ref (ad 6), z_v i0, .ref (ad 9)] (z_zc ad ks s_edgeCount s_moveCount s_isNeeded s_timesDone s_size s_isGoing s_allTime s_stepCount s_gapCount g_edges g_moves g_limits a_sfacts a_sbounds a_facts a_zone a_most a_places a_amounts a_nextPlaces a_nextAmounts a_earliest a_visited a_lastSet a_gapFrom a_gapTo a_gapLeast a_askedPlaces a_askedAmounts) Y (fun r S' Y' => S' = (z_zc ad ks s_edgeCount s_moveCount s_isNeeded s_timesDone s_size s_isGoing s_allTime s_stepCount s_gapCount g_edges g_moves g_limits a_sfacts a_sbounds a_facts a_zone a_most a_places a_amounts a_nextPlaces a_nextAmounts a_earliest a_visited a_lastSet a_gapFrom a_gapTo a_gapLeast a_askedPlaces a_askedAmounts) ∧ Y = Y' ∧ ∃ z : Int, r = some (z_v z) ∧ (z = 1 ∧ ((∀ m : Int, 0 ≤ m → m < 3 → a_facts m.toNat = a_sfacts (7 * i0.toNat + m.toNat))) ∨ z = 0 ∧ ¬ ((∀ m : Int, 0 ≤ m → m < 3 → a_facts m.toNat = a_sfacts (7 * i0.toNat + m.toNat))))) := by
  refine z_start2 (by decide) (Nat.le_of_ble_eq_true rfl) ?_
  intro p e R s m args below meth c Q C hRf hRc hRs hRl hQ hrt hnm
  refine z_loc (L' := [(0, .ref (ad 6)), (1, z_v i0), (2, .ref (ad 9))]) [0, 1, 2] rfl ?_
  refine z_iconst C dX4_isAt_0 ?_
  refine z_istoren (L' := [(3, z_v 0), (0, .ref (ad 6)), (1, z_v i0), (2, .ref (ad 9))]) C dX4_isAt_1 rfl (by decide) rfl ?_
  have L2 : ∀ (n : Nat), ∀ (i3 : Int), ((∀ m : Int, 0 ≤ m → m < i3 → a_facts m.toNat = a_sfacts (7 * i0.toNat + m.toNat))) → (0 ≤ i3 ∧ i3 ≤ 3) → ((3 : Int) - i3).toNat < n → z_V p l e R s m args below meth c Q D A 27 ad 4 (z_zc ad ks s_edgeCount s_moveCount s_isNeeded s_timesDone s_size s_isGoing s_allTime s_stepCount s_gapCount g_edges g_moves g_limits a_sfacts a_sbounds a_facts a_zone a_most a_places a_amounts a_nextPlaces a_nextAmounts a_earliest a_visited a_lastSet a_gapFrom a_gapTo a_gapLeast a_askedPlaces a_askedAmounts) Y 0 0 2 [(0, .ref (ad 6)), (1, z_v i0), (2, .ref (ad 9)), (3, z_v i3)] [] := by
    intro n
    induction n with
    | zero => intro i3 FM I3 hm; exact absurd hm (Nat.not_lt_zero _)
    | succ n ih2 =>
      intro i3 FM I3 hm
      refine z_iloadn C 3 dX4_isAt_2 rfl rfl ?_
      refine z_iconst C dX4_isAt_3 ?_
      refine z_icmp_ge (t := 34) C dX4_isAt_4 (by decide) (by omega) (by omega) (fun c1 => ?_) (fun c1 => ?_)
      · skip
        refine z_iconst C dX4_isAt_34 ?_
        rw [hQ]
        exact z_zret C hrt (by omega) dX4_isAt_35 (⟨rfl, rfl, _, rfl, Or.inl ⟨rfl, fun m h0 h1 => FM m h0 (by omega)⟩⟩) (by omega) (by omega)
      · skip
        refine z_aloadn C 2 dX4_isAt_7 rfl rfl ?_
        refine z_iloadn C 3 dX4_isAt_8 rfl rfl ?_
        refine z_iald C 9 (by decide) rfl (by decide) (by omega) (by omega) dX4_isAt_9 ?_
        have rx2 := Ha_facts (i3 : Int).toNat
        generalize ex2 : a_facts (i3 : Int).toNat = x2 at rx2 ⊢
        have e9 := ex2
        refine z_iconst C dX4_isAt_10 ?_
        refine z_icmp_eq (t := 28) C dX4_isAt_11 (by decide) (by omega) (by omega) (fun c3 => ?_) (fun c3 => ?_)
        · skip
          refine z_iinc (L' := [(3, z_v (i3 + 1)), (0, .ref (ad 6)), (1, z_v i0), (2, .ref (ad 9))]) C 3 dX4_isAt_28 rfl (by decide) rfl ?_
          refine z_goto (t := 2) C dX4_isAt_31 (by decide) ?_
          refine z_loc (L' := [(0, .ref (ad 6)), (1, z_v i0), (2, .ref (ad 9)), (3, z_v (i3 + 1))]) [1, 2, 3, 0] rfl ?_
          exact ih2 (i3 + 1) (by first | exact z_snoc FM (zo_fa e9 hf20 (by omega) (by omega)) | (exfalso; have := (Ha_facts (i3 : Int).toNat).1 (by omega); omega)) (by omega) (by omega)
        · skip
          refine z_aloadn C 2 dX4_isAt_14 rfl rfl ?_
          refine z_iloadn C 3 dX4_isAt_15 rfl rfl ?_
          refine z_iald C 9 (by decide) rfl (by decide) (by omega) (by omega) dX4_isAt_16 ?_
          rw [ex2]
          refine z_aloadn C 0 dX4_isAt_17 rfl rfl ?_
          refine z_iloadn C 1 dX4_isAt_18 rfl rfl ?_
          refine z_iloadn C 3 dX4_isAt_19 rfl rfl ?_
          refine z_callV C (cm_X4_fact l i0 i3 Ha_sfacts (by omega) (by omega)) mv_4_26 (z_atS 6 4 (by decide) rfl rfl rfl) pd_X4_fact ⟨by omega, by omega⟩ ⟨by omega, by omega⟩ rfl (Nat.le_of_ble_eq_true rfl) dX4_isAt_20 ?_
          rintro _ _ _ ⟨rfl, rfl, z6, rfl, hz6⟩
          have hf20 := hz6.1
          refine z_icmp_eq (t := 28) C dX4_isAt_23 (by decide) (by omega) (by omega) (fun c7 => ?_) (fun c7 => ?_)
          · skip
            refine z_iinc (L' := [(3, z_v (i3 + 1)), (0, .ref (ad 6)), (1, z_v i0), (2, .ref (ad 9))]) C 3 dX4_isAt_28 rfl (by decide) rfl ?_
            refine z_goto (t := 2) C dX4_isAt_31 (by decide) ?_
            refine z_loc (L' := [(0, .ref (ad 6)), (1, z_v i0), (2, .ref (ad 9)), (3, z_v (i3 + 1))]) [1, 2, 3, 0] rfl ?_
            exact ih2 (i3 + 1) (by first | exact z_snoc FM (zo_fa e9 hf20 (by omega) (by omega)) | (exfalso; have := (Ha_facts (i3 : Int).toNat).1 (by omega); omega)) (by omega) (by omega)
          · skip
            refine z_iconst C dX4_isAt_26 ?_
            rw [hQ]
            exact z_zret C hrt (by omega) dX4_isAt_27 (⟨rfl, rfl, _, rfl, Or.inr ⟨rfl, fun h => absurd (h i3 (by omega) (by omega)) (zo_fb e9 hf20 (by omega) (by omega))⟩⟩) (by omega) (by omega)
  refine z_loc (L' := [(0, .ref (ad 6)), (1, z_v i0), (2, .ref (ad 9)), (3, z_v 0)]) [1, 2, 3, 0] rfl ?_
  exact (L2 (((3 : Int) - 0).toNat + 1)) 0 (z_vac) (by omega) (Nat.lt_succ_self _)
set_option maxRecDepth 20000 in
theorem cx_X4_takesIn (l : Launch) {D : va_G} {A : Nat → Prop} {ad : Nat → Nat} {ks : z_Ks} {s_edgeCount s_moveCount s_isNeeded s_timesDone s_size s_isGoing s_allTime s_stepCount s_gapCount : Int} {g_edges g_moves g_limits : Nat → Option Nat} {a_sfacts a_sbounds a_facts a_zone a_most a_places a_amounts a_nextPlaces a_nextAmounts a_earliest a_visited a_lastSet a_gapFrom a_gapTo a_gapLeast a_askedPlaces a_askedAmounts : Nat → Int} {Y : Nat → Option va_E} (i0 : Int) (Ha_sbounds : (∀ j, z_rg (a_sbounds j))) (Ha_zone : (∀ j, z_rg (a_zone j))) (hi : 0 ≤ i0 ∧ i0 ≤ 119) : z_Met l yX4_takesIn cX4_takesIn 4 (some .boolean) 0 0 0 0 D A 27 ad ks [.ref (ad 6), z_v i0, .ref (ad 10)] (z_zc ad ks s_edgeCount s_moveCount s_isNeeded s_timesDone s_size s_isGoing s_allTime s_stepCount s_gapCount g_edges g_moves g_limits a_sfacts a_sbounds a_facts a_zone a_most a_places a_amounts a_nextPlaces a_nextAmounts a_earliest a_visited a_lastSet a_gapFrom a_gapTo a_gapLeast a_askedPlaces a_askedAmounts) Y (fun r S' Y' => S' = (z_zc ad ks s_edgeCount s_moveCount s_isNeeded s_timesDone s_size s_isGoing s_allTime s_stepCount s_gapCount g_edges g_moves g_limits a_sfacts a_sbounds a_facts a_zone a_most a_places a_amounts a_nextPlaces a_nextAmounts a_earliest a_visited a_lastSet a_gapFrom a_gapTo a_gapLeast a_askedPlaces a_askedAmounts) ∧ Y = Y' ∧ ∃ z : Int, r = some (z_v z) ∧ (z = 1 ∧ ((∀ k : Int, 0 ≤ k → k < 16 → a_zone k.toNat ≤ a_sbounds (16 * i0 + k).toNat)) ∨ z = 0 ∧ ¬ ((∀ k : Int, 0 ≤ k → k < 16 → a_zone k.toNat ≤ a_sbounds (16 * i0 + k).toNat)))) := by
  refine z_start2 (by decide) (Nat.le_of_ble_eq_true rfl) ?_
  intro p e R s m args below meth c Q C hRf hRc hRs hRl hQ hrt hnm
  refine z_loc (L' := [(0, .ref (ad 6)), (1, z_v i0), (2, .ref (ad 10))]) [0, 1, 2] rfl ?_
  refine z_iconst C dX4_takesIn_0 ?_
  refine z_istoren (L' := [(3, z_v 0), (0, .ref (ad 6)), (1, z_v i0), (2, .ref (ad 10))]) C dX4_takesIn_1 rfl (by decide) rfl ?_
  have L2 : ∀ (n : Nat), ∀ (i3 : Int), ((∀ k : Int, 0 ≤ k → k < i3 → a_zone k.toNat ≤ a_sbounds (16 * i0 + k).toNat)) → (0 ≤ i3 ∧ i3 ≤ 16) → ((16 : Int) - i3).toNat < n → z_V p l e R s m args below meth c Q D A 27 ad 4 (z_zc ad ks s_edgeCount s_moveCount s_isNeeded s_timesDone s_size s_isGoing s_allTime s_stepCount s_gapCount g_edges g_moves g_limits a_sfacts a_sbounds a_facts a_zone a_most a_places a_amounts a_nextPlaces a_nextAmounts a_earliest a_visited a_lastSet a_gapFrom a_gapTo a_gapLeast a_askedPlaces a_askedAmounts) Y 0 0 2 [(0, .ref (ad 6)), (1, z_v i0), (2, .ref (ad 10)), (3, z_v i3)] [] := by
    intro n
    induction n with
    | zero => intro i3 FK I3 hm; exact absurd hm (Nat.not_lt_zero _)
    | succ n ih2 =>
      intro i3 FK I3 hm
      refine z_iloadn C 3 dX4_takesIn_2 rfl rfl ?_
      refine z_bipush C dX4_takesIn_3 (by decide) ?_
      refine z_icmp_ge (t := 36) C dX4_takesIn_5 (by decide) (by omega) (by omega) (fun c1 => ?_) (fun c1 => ?_)
      · skip
        refine z_iconst C dX4_takesIn_36 ?_
        rw [hQ]
        exact z_zret C hrt (by omega) dX4_takesIn_37 (⟨rfl, rfl, _, rfl, Or.inl ⟨rfl, fun m h0 h1 => FK m h0 (by omega)⟩⟩) (by omega) (by omega)
      · skip
        refine z_aloadn C 2 dX4_takesIn_8 rfl rfl ?_
        refine z_get C 10 (by decide) rfl rfl z_it9 0 (by decide) rfl fl_4_36 rfl dX4_takesIn_9 ?_
        refine z_iloadn C 3 dX4_takesIn_12 rfl rfl ?_
        refine z_iald C 11 (by decide) rfl (by decide) (by omega) (by omega) dX4_takesIn_13 ?_
        have rx2 := Ha_zone (i3 : Int).toNat
        generalize ex2 : a_zone (i3 : Int).toNat = x2 at rx2 ⊢
        refine z_aloadn C 0 dX4_takesIn_14 rfl rfl ?_
        refine z_get C 6 (by decide) rfl rfl z_it4 2 (by decide) rfl fl_4_15 rfl dX4_takesIn_15 ?_
        refine z_iloadn C 1 dX4_takesIn_18 rfl rfl ?_
        refine z_bipush C dX4_takesIn_19 (by decide) ?_
        refine z_imul C dX4_takesIn_21 ?_
        refine z_iloadn C 3 dX4_takesIn_22 rfl rfl ?_
        refine z_iadd C dX4_takesIn_23 ?_
        refine z_iald C 8 (by decide) rfl (by decide) (by omega) (by omega) dX4_takesIn_24 ?_
        have rx3 := Ha_sbounds (((i0 * 16) + i3) : Int).toNat
        generalize ex3 : a_sbounds (((i0 * 16) + i3) : Int).toNat = x3 at rx3 ⊢
        refine z_icmp_le (t := 30) C dX4_takesIn_25 (by decide) (by omega) (by omega) (fun c4 => ?_) (fun c4 => ?_)
        · skip
          refine z_iinc (L' := [(3, z_v (i3 + 1)), (0, .ref (ad 6)), (1, z_v i0), (2, .ref (ad 10))]) C 3 dX4_takesIn_30 rfl (by decide) rfl ?_
          refine z_goto (t := 2) C dX4_takesIn_33 (by decide) ?_
          refine z_loc (L' := [(0, .ref (ad 6)), (1, z_v i0), (2, .ref (ad 10)), (3, z_v (i3 + 1))]) [1, 2, 3, 0] rfl ?_
          exact ih2 (i3 + 1) (z_snoc FK (by rw [show 16 * i0 + i3 = i0 * 16 + i3 by omega]; omega)) (by omega) (by omega)
        · skip
          refine z_iconst C dX4_takesIn_28 ?_
          rw [hQ]
          exact z_zret C hrt (by omega) dX4_takesIn_29 (⟨rfl, rfl, _, rfl, Or.inr ⟨rfl, fun h => by have q := h i3 (by omega) (by omega); rw [show 16 * i0 + i3 = i0 * 16 + i3 by omega] at q; omega⟩⟩) (by omega) (by omega)
  refine z_loc (L' := [(0, .ref (ad 6)), (1, z_v i0), (2, .ref (ad 10)), (3, z_v 0)]) [1, 2, 3, 0] rfl ?_
  exact (L2 (((16 : Int) - 0).toNat + 1)) 0 (z_vac) (by omega) (Nat.lt_succ_self _)
set_option maxRecDepth 20000 in
theorem cx_X4_cover_9_10 (l : Launch) {D : va_G} {A : Nat → Prop} {ad : Nat → Nat} {ks : z_Ks} {s_edgeCount s_moveCount s_isNeeded s_timesDone s_size s_isGoing s_allTime s_stepCount s_gapCount : Int} {g_edges g_moves g_limits : Nat → Option Nat} {a_sfacts a_sbounds a_facts a_zone a_most a_places a_amounts a_nextPlaces a_nextAmounts a_earliest a_visited a_lastSet a_gapFrom a_gapTo a_gapLeast a_askedPlaces a_askedAmounts : Nat → Int} {Y : Nat → Option va_E} (Hs_size : (0 ≤ s_size ∧ s_size ≤ 120)) (Ha_sfacts : (∀ j, (j % 7 < 3 → 0 ≤ a_sfacts j ∧ a_sfacts j ≤ 5) ∧ (j % 7 = 3 → -1 ≤ a_sfacts j ∧ a_sfacts j ≤ 119) ∧ (j % 7 = 6 → 0 ≤ a_sfacts j ∧ a_sfacts j ≤ 40) ∧ z_rg (a_sfacts j))) (Ha_facts : (∀ j, (j % 7 < 3 → 0 ≤ a_facts j ∧ a_facts j ≤ 5) ∧ (j % 7 = 3 → -1 ≤ a_facts j ∧ a_facts j ≤ 119) ∧ (j % 7 = 6 → 0 ≤ a_facts j ∧ a_facts j ≤ 40) ∧ z_rg (a_facts j))) (Ha_sbounds : (∀ j, z_rg (a_sbounds j))) (Ha_zone : (∀ j, z_rg (a_zone j))) : z_Met l yX4_cover cX4_cover 4 (some .boolean) 2 45 0 0 D A 27 ad ks [.ref (ad 6), .ref (ad 9), .ref (ad 10)] (z_zc ad ks s_edgeCount s_moveCount s_isNeeded s_timesDone s_size s_isGoing s_allTime s_stepCount s_gapCount g_edges g_moves g_limits a_sfacts a_sbounds a_facts a_zone a_most a_places a_amounts a_nextPlaces a_nextAmounts a_earliest a_visited a_lastSet a_gapFrom a_gapTo a_gapLeast a_askedPlaces a_askedAmounts) Y (fun r S' Y' => S' = (z_zc ad ks s_edgeCount s_moveCount s_isNeeded s_timesDone s_size s_isGoing s_allTime s_stepCount s_gapCount g_edges g_moves g_limits a_sfacts a_sbounds a_facts a_zone a_most a_places a_amounts a_nextPlaces a_nextAmounts a_earliest a_visited a_lastSet a_gapFrom a_gapTo a_gapLeast a_askedPlaces a_askedAmounts) ∧ Y = Y' ∧ ∃ z : Int, r = some (z_v z) ∧ (z = 1 ∧ (zo_cov (zo_ab s_size (zo_sC a_sfacts a_sbounds)) (zo_n3 a_facts) (zo_n16 a_zone)) ∨ z = 0 ∧ ¬ (zo_cov (zo_ab s_size (zo_sC a_sfacts a_sbounds)) (zo_n3 a_facts) (zo_n16 a_zone)))) := by
  refine z_start2 (by decide) (Nat.le_of_ble_eq_true rfl) ?_
  intro p e R s m args below meth c Q C hRf hRc hRs hRl hQ hrt hnm
  refine z_loc (L' := [(0, .ref (ad 6)), (1, .ref (ad 9)), (2, .ref (ad 10))]) [0, 1, 2] rfl ?_
  refine z_iconst C dX4_cover_0 ?_
  refine z_istoren (L' := [(3, z_v 0), (0, .ref (ad 6)), (1, .ref (ad 9)), (2, .ref (ad 10))]) C dX4_cover_1 rfl (by decide) rfl ?_
  have L2 : ∀ (n : Nat), ∀ (i3 : Int), (∀ i : Int, 0 ≤ i → i < i3 → ¬ zo_cw a_sfacts a_sbounds a_facts a_zone i) → (0 ≤ i3 ∧ i3 ≤ s_size) → ((s_size : Int) - i3).toNat < n → z_V p l e R s m args below meth c Q D A 27 ad 4 (z_zc ad ks s_edgeCount s_moveCount s_isNeeded s_timesDone s_size s_isGoing s_allTime s_stepCount s_gapCount g_edges g_moves g_limits a_sfacts a_sbounds a_facts a_zone a_most a_places a_amounts a_nextPlaces a_nextAmounts a_earliest a_visited a_lastSet a_gapFrom a_gapTo a_gapLeast a_askedPlaces a_askedAmounts) Y 0 0 2 [(0, .ref (ad 6)), (1, .ref (ad 9)), (2, .ref (ad 10)), (3, z_v i3)] [] := by
    intro n
    induction n with
    | zero => intro i3 NF I3 hm; exact absurd hm (Nat.not_lt_zero _)
    | succ n ih2 =>
      intro i3 NF I3 hm
      refine z_iloadn C 3 dX4_cover_2 rfl rfl ?_
      refine z_aloadn C 0 dX4_cover_3 rfl rfl ?_
      refine z_get C 6 (by decide) rfl rfl z_it4 0 (by decide) rfl fl_4_18 rfl dX4_cover_4 ?_
      refine z_icmp_ge (t := 36) C dX4_cover_7 (by decide) (by omega) (by omega) (fun c1 => ?_) (fun c1 => ?_)
      · skip
        refine z_iconst C dX4_cover_36 ?_
        rw [hQ]
        exact z_zret C hrt (by omega) dX4_cover_37 (⟨rfl, rfl, _, rfl, Or.inr ⟨rfl, fun q => by obtain ⟨i, h0, h1, h2⟩ := (zo_cw_iff (by omega)).mpr q; exact NF i h0 (by omega) h2⟩⟩) (by omega) (by omega)
      · skip
        refine z_aloadn C 0 dX4_cover_10 rfl rfl ?_
        refine z_iloadn C 3 dX4_cover_11 rfl rfl ?_
        refine z_aloadn C 1 dX4_cover_12 rfl rfl ?_
        refine z_callV C (cx_X4_isAt_9 l i3 Ha_sfacts Ha_facts (by omega)) mv_4_39 (z_atS 6 4 (by decide) rfl rfl rfl) pd_X4_isAt ⟨by omega, by omega⟩ ⟨by omega, by omega⟩ rfl (Nat.le_of_ble_eq_true rfl) dX4_cover_13 ?_
        rintro _ _ _ ⟨rfl, rfl, z4, rfl, hz4⟩
        have hat := hz4
        refine z_if_eq (t := 30) C dX4_cover_16 (by decide) (by omega) (fun c5 => ?_) (fun c5 => ?_)
        · skip
          refine z_iinc (L' := [(3, z_v (i3 + 1)), (0, .ref (ad 6)), (1, .ref (ad 9)), (2, .ref (ad 10))]) C 3 dX4_cover_30 rfl (by decide) rfl ?_
          refine z_goto (t := 2) C dX4_cover_33 (by decide) ?_
          refine z_loc (L' := [(0, .ref (ad 6)), (1, .ref (ad 9)), (2, .ref (ad 10)), (3, z_v (i3 + 1))]) [1, 2, 3, 0] rfl ?_
          exact ih2 (i3 + 1) (by first | exact z_snoc NF (fun q => z_isz0 hta (by omega) q.2) | exact z_snoc NF (fun q => z_isz0 hat (by omega) q.1)) (by omega) (by omega)
        · skip
          refine z_aloadn C 0 dX4_cover_19 rfl rfl ?_
          refine z_iloadn C 3 dX4_cover_20 rfl rfl ?_
          refine z_aloadn C 2 dX4_cover_21 rfl rfl ?_
          refine z_callV C (cx_X4_takesIn l i3 Ha_sbounds Ha_zone (by omega)) mv_4_46 (z_atS 6 4 (by decide) rfl rfl rfl) pd_X4_takesIn ⟨by omega, by omega⟩ ⟨by omega, by omega⟩ rfl (Nat.le_of_ble_eq_true rfl) dX4_cover_22 ?_
          rintro _ _ _ ⟨rfl, rfl, z8, rfl, hz8⟩
          have hta := hz8
          refine z_if_eq (t := 30) C dX4_cover_25 (by decide) (by omega) (fun c9 => ?_) (fun c9 => ?_)
          · skip
            refine z_iinc (L' := [(3, z_v (i3 + 1)), (0, .ref (ad 6)), (1, .ref (ad 9)), (2, .ref (ad 10))]) C 3 dX4_cover_30 rfl (by decide) rfl ?_
            refine z_goto (t := 2) C dX4_cover_33 (by decide) ?_
            refine z_loc (L' := [(0, .ref (ad 6)), (1, .ref (ad 9)), (2, .ref (ad 10)), (3, z_v (i3 + 1))]) [1, 2, 3, 0] rfl ?_
            exact ih2 (i3 + 1) (by first | exact z_snoc NF (fun q => z_isz0 hta (by omega) q.2) | exact z_snoc NF (fun q => z_isz0 hat (by omega) q.1)) (by omega) (by omega)
          · skip
            refine z_iconst C dX4_cover_28 ?_
            rw [hQ]
            exact z_zret C hrt (by omega) dX4_cover_29 (⟨rfl, rfl, _, rfl, Or.inl ⟨rfl, (zo_cw_iff (by omega)).mp ⟨i3, by omega, by omega, z_isz1 hat (by omega), z_isz1 hta (by omega)⟩⟩⟩) (by omega) (by omega)
  refine z_loc (L' := [(0, .ref (ad 6)), (1, .ref (ad 9)), (2, .ref (ad 10)), (3, z_v 0)]) [1, 2, 3, 0] rfl ?_
  exact (L2 (((s_size : Int) - 0).toNat + 1)) 0 (z_vac) (by omega) (Nat.lt_succ_self _)
set_option maxRecDepth 20000 in
theorem cx_X3_prepare (l : Launch) {D : va_G} {A : Nat → Prop} {ad : Nat → Nat} {ks : z_Ks} {s_edgeCount s_moveCount s_isNeeded s_timesDone s_size s_isGoing s_allTime s_stepCount s_gapCount : Int} {g_edges g_moves g_limits : Nat → Option Nat} {a_sfacts a_sbounds a_facts a_zone a_most a_places a_amounts a_nextPlaces a_nextAmounts a_earliest a_visited a_lastSet a_gapFrom a_gapTo a_gapLeast a_askedPlaces a_askedAmounts : Nat → Int} {Y : Nat → Option va_E} {em ef et ec er gn gt ln lt : Nat → Int} {qe ql qt : Nat → Nat} (Hs_edgeCount : (0 ≤ s_edgeCount ∧ s_edgeCount ≤ 20)) (Hs_timesDone : (0 ≤ s_timesDone ∧ s_timesDone ≤ 40)) (Ha_most : (∀ j, 0 ≤ a_most j ∧ a_most j ≤ 1000)) (ht : s_timesDone ≤ 39) (HN : z_N ks Y g_edges g_limits s_edgeCount em ef et ec er gn gt ln lt qe ql qt) : z_Met l yX3_prepare cX3_prepare 3 none 3 67 0 0 D A 27 ad ks [.ref (ad 5), .ref (ad 1)] (z_zc ad ks s_edgeCount s_moveCount s_isNeeded s_timesDone s_size s_isGoing s_allTime s_stepCount s_gapCount g_edges g_moves g_limits a_sfacts a_sbounds a_facts a_zone a_most a_places a_amounts a_nextPlaces a_nextAmounts a_earliest a_visited a_lastSet a_gapFrom a_gapTo a_gapLeast a_askedPlaces a_askedAmounts) Y (fun r S' Y' => ∃ na_most : Nat → Int, S' = (z_zc ad ks s_edgeCount s_moveCount 0 (s_timesDone + 1) 0 s_isGoing s_allTime s_stepCount s_gapCount g_edges g_moves g_limits a_sfacts a_sbounds a_facts a_zone na_most a_places a_amounts a_nextPlaces a_nextAmounts a_earliest a_visited a_lastSet a_gapFrom a_gapTo a_gapLeast a_askedPlaces a_askedAmounts) ∧ Y = Y' ∧ (∀ j, 0 ≤ na_most j ∧ na_most j ≤ 1000) ∧ (∀ x : Int, 1 ≤ x → x ≤ 3 → z_gr x s_edgeCount gn gt ln lt (na_most x.toNat)) ∧ r = none) := by
  refine z_start2 (by decide) (Nat.le_of_ble_eq_true rfl) ?_
  intro p e R s m args below meth c Q C hRf hRc hRs hRl hQ hrt hnm
  refine z_loc (L' := [(0, .ref (ad 5)), (1, .ref (ad 1))]) [0, 1] rfl ?_
  refine z_aloadn C 0 dX3_prepare_0 rfl rfl ?_
  refine z_get C 5 (by decide) rfl rfl z_it3 0 (by decide) rfl fl_3_12 rfl dX3_prepare_1 ?_
  refine z_iconst C dX3_prepare_4 ?_
  refine z_put C 6 (by decide) rfl rfl z_it4 tyX4 tyX4_ok nmX4 0 (by decide) rfl (Or.inl rfl) fl_3_51 z_pfI rfl rfl (Nat.le_of_ble_eq_true rfl) dX3_prepare_5 ?_
  refine z_ext (S' := (z_zc ad ks s_edgeCount s_moveCount s_isNeeded s_timesDone 0 s_isGoing s_allTime s_stepCount s_gapCount g_edges g_moves g_limits a_sfacts a_sbounds a_facts a_zone a_most a_places a_amounts a_nextPlaces a_nextAmounts a_earliest a_visited a_lastSet a_gapFrom a_gapTo a_gapLeast a_askedPlaces a_askedAmounts)) upC_s_size ?_
  refine z_aloadn C 0 dX3_prepare_8 rfl rfl ?_
  refine z_iconst C dX3_prepare_9 ?_
  refine z_put C 5 (by decide) rfl rfl z_it3 tyX3 tyX3_ok nmX3 1 (by decide) rfl (Or.inl rfl) fl_3_18 z_pfZ (z_nbZ (by omega)).1 (z_nbZ (by omega)).2 (Nat.le_of_ble_eq_true rfl) dX3_prepare_10 ?_
  refine z_ext (S' := (z_zc ad ks s_edgeCount s_moveCount 0 s_timesDone 0 s_isGoing s_allTime s_stepCount s_gapCount g_edges g_moves g_limits a_sfacts a_sbounds a_facts a_zone a_most a_places a_amounts a_nextPlaces a_nextAmounts a_earliest a_visited a_lastSet a_gapFrom a_gapTo a_gapLeast a_askedPlaces a_askedAmounts)) upC_s_isNeeded ?_
  refine z_aloadn C 0 dX3_prepare_13 rfl rfl ?_
  refine z_dup C dX3_prepare_14 rfl ?_
  refine z_get C 5 (by decide) rfl rfl z_it3 2 (by decide) rfl fl_3_72 rfl dX3_prepare_15 ?_
  refine z_iconst C dX3_prepare_18 ?_
  refine z_iadd C dX3_prepare_19 ?_
  refine z_put C 5 (by decide) rfl rfl z_it3 tyX3 tyX3_ok nmX3 2 (by decide) rfl (Or.inl rfl) fl_3_72 z_pfI rfl rfl (Nat.le_of_ble_eq_true rfl) dX3_prepare_20 ?_
  refine z_ext (S' := (z_zc ad ks s_edgeCount s_moveCount 0 (s_timesDone + 1) 0 s_isGoing s_allTime s_stepCount s_gapCount g_edges g_moves g_limits a_sfacts a_sbounds a_facts a_zone a_most a_places a_amounts a_nextPlaces a_nextAmounts a_earliest a_visited a_lastSet a_gapFrom a_gapTo a_gapLeast a_askedPlaces a_askedAmounts)) upC_s_timesDone ?_
  refine z_iconst C dX3_prepare_23 ?_
  refine z_istoren (L' := [(2, z_v 1), (0, .ref (ad 5)), (1, .ref (ad 1))]) C dX3_prepare_24 rfl (by decide) rfl ?_
  have L25 : ∀ (n : Nat), ∀ (i2 : Int) (fa_most : Nat → Int), ((∀ j, 0 ≤ fa_most j ∧ fa_most j ≤ 1000)) → (∀ x : Int, 1 ≤ x → x < i2 → z_gr x s_edgeCount gn gt ln lt (fa_most x.toNat)) → (1 ≤ i2 ∧ i2 ≤ 4) → ((4 : Int) - i2).toNat < n → z_V p l e R s m args below meth c Q D A 27 ad 3 (z_zc ad ks s_edgeCount s_moveCount 0 (s_timesDone + 1) 0 s_isGoing s_allTime s_stepCount s_gapCount g_edges g_moves g_limits a_sfacts a_sbounds a_facts a_zone fa_most a_places a_amounts a_nextPlaces a_nextAmounts a_earliest a_visited a_lastSet a_gapFrom a_gapTo a_gapLeast a_askedPlaces a_askedAmounts) Y 0 0 25 [(0, .ref (ad 5)), (1, .ref (ad 1)), (2, z_v i2)] [] := by
    intro n
    induction n with
    | zero => intro i2 fa_most Hfa_most FX I2 hm; exact absurd hm (Nat.not_lt_zero _)
    | succ n ih25 =>
      intro i2 fa_most Hfa_most FX I2 hm
      refine z_iloadn C 2 dX3_prepare_25 rfl rfl ?_
      refine z_iconst C dX3_prepare_26 ?_
      refine z_icmp_ge (t := 47) C dX3_prepare_27 (by decide) (by omega) (by omega) (fun c1 => ?_) (fun c1 => ?_)
      · skip
        rw [hQ]
        exact z_vret C hrt dX3_prepare_47 (⟨fa_most, rfl, rfl, Hfa_most, fun x h0 h1 => FX x h0 (by omega), rfl⟩) (by omega) (by omega)
      · skip
        refine z_aloadn C 0 dX3_prepare_30 rfl rfl ?_
        refine z_get C 5 (by decide) rfl rfl z_it3 5 (by decide) rfl fl_3_33 rfl dX3_prepare_31 ?_
        refine z_iloadn C 2 dX3_prepare_34 rfl rfl ?_
        refine z_aloadn C 1 dX3_prepare_35 rfl rfl ?_
        refine z_iloadn C 2 dX3_prepare_36 rfl rfl ?_
        refine z_callV C (cx_X2_greatestOf l i2 (by omega) (by omega) HN) mv_3_75 (z_atS 1 2 (by decide) rfl rfl rfl) pd_X2_greatestOf ⟨by omega, by omega⟩ ⟨by omega, by omega⟩ rfl (Nat.le_of_ble_eq_true rfl) dX3_prepare_37 ?_
        rintro _ _ _ ⟨rfl, rfl, z4, rfl, hz4⟩
        have hgr := hz4.2.2
        refine z_iast C 12 (by decide) rfl (by decide) (by omega) (by omega) dX3_prepare_40 ?_
        refine z_ext (S' := (z_zc ad ks s_edgeCount s_moveCount 0 (s_timesDone + 1) 0 s_isGoing s_allTime s_stepCount s_gapCount g_edges g_moves g_limits a_sfacts a_sbounds a_facts a_zone (va_up fa_most (i2 : Int).toNat z4) a_places a_amounts a_nextPlaces a_nextAmounts a_earliest a_visited a_lastSet a_gapFrom a_gapTo a_gapLeast a_askedPlaces a_askedAmounts)) upC_a_most ?_
        have h5 : ∀ j, 0 ≤ (va_up fa_most (i2 : Int).toNat z4) j ∧ (va_up fa_most (i2 : Int).toNat z4) j ≤ 1000 := z_upP (P := fun j v => 0 ≤ v ∧ v ≤ 1000) Hfa_most (by omega)
        refine z_iinc (L' := [(2, z_v (i2 + 1)), (0, .ref (ad 5)), (1, .ref (ad 1))]) C 2 dX3_prepare_41 rfl (by decide) rfl ?_
        refine z_goto (t := 25) C dX3_prepare_44 (by decide) ?_
        refine z_loc (L' := [(0, .ref (ad 5)), (1, .ref (ad 1)), (2, z_v (i2 + 1))]) [1, 2, 0] rfl ?_
        exact ih25 (i2 + 1) (va_up fa_most (i2 : Int).toNat z4) h5 (zo_prX FX hgr (by omega)) (by omega) (by omega)
  refine z_loc (L' := [(0, .ref (ad 5)), (1, .ref (ad 1)), (2, z_v 1)]) [1, 2, 0] rfl ?_
  exact (L25 (((4 : Int) - 1).toNat + 1)) 1 a_most Ha_most (fun x h0 h1 => absurd h1 (by omega)) (by omega) (Nat.lt_succ_self _)
set_option maxRecDepth 20000 in
theorem cx_X3_standAtStart (l : Launch) {D : va_G} {A : Nat → Prop} {ad : Nat → Nat} {ks : z_Ks} {s_edgeCount s_moveCount s_isNeeded s_timesDone s_size s_isGoing s_allTime s_stepCount s_gapCount : Int} {g_edges g_moves g_limits : Nat → Option Nat} {a_sfacts a_sbounds a_facts a_zone a_most a_places a_amounts a_nextPlaces a_nextAmounts a_earliest a_visited a_lastSet a_gapFrom a_gapTo a_gapLeast a_askedPlaces a_askedAmounts : Nat → Int} {Y : Nat → Option va_E} (Ha_facts : (∀ j, (j % 7 < 3 → 0 ≤ a_facts j ∧ a_facts j ≤ 5) ∧ (j % 7 = 3 → -1 ≤ a_facts j ∧ a_facts j ≤ 119) ∧ (j % 7 = 6 → 0 ≤ a_facts j ∧ a_facts j ≤ 40) ∧ z_rg (a_facts j))) (Ha_zone : (∀ j, z_rg (a_zone j))) : z_Met l yX3_standAtStart cX3_standAtStart 1 none 2 43 0 0 D A 27 ad ks [.ref (ad 5)] (z_zc ad ks s_edgeCount s_moveCount s_isNeeded s_timesDone s_size s_isGoing s_allTime s_stepCount s_gapCount g_edges g_moves g_limits a_sfacts a_sbounds a_facts a_zone a_most a_places a_amounts a_nextPlaces a_nextAmounts a_earliest a_visited a_lastSet a_gapFrom a_gapTo a_gapLeast a_askedPlaces a_askedAmounts) Y (fun r S' Y' => ∃ na_facts : Nat → Int, ∃ na_zone : Nat → Int, S' = (z_zc ad ks s_edgeCount s_moveCount s_isNeeded s_timesDone s_size s_isGoing s_allTime s_stepCount s_gapCount g_edges g_moves g_limits a_sfacts a_sbounds na_facts na_zone a_most a_places a_amounts a_nextPlaces a_nextAmounts a_earliest a_visited a_lastSet a_gapFrom a_gapTo a_gapLeast a_askedPlaces a_askedAmounts) ∧ Y = Y' ∧ (∀ j, (j % 7 < 3 → 0 ≤ na_facts j ∧ na_facts j ≤ 5) ∧ (j % 7 = 3 → -1 ≤ na_facts j ∧ na_facts j ≤ 119) ∧ (j % 7 = 6 → 0 ≤ na_facts j ∧ na_facts j ≤ 40) ∧ z_rg (na_facts j)) ∧ (∀ j, z_rg (na_zone j)) ∧ (∀ m, m < 3 → na_facts m = 0) ∧ (na_facts 3 = -1 ∧ na_facts 4 = -1 ∧ na_facts 5 = -1 ∧ na_facts 6 = 0) ∧ (∀ k, k < 16 → na_zone k = 1) ∧ r = none) := by
  refine z_start2 (by decide) (Nat.le_of_ble_eq_true rfl) ?_
  intro p e R s m args below meth c Q C hRf hRc hRs hRl hQ hrt hnm
  refine z_loc (L' := [(0, .ref (ad 5))]) [0] rfl ?_
  refine z_aloadn C 0 dX3_standAtStart_0 rfl rfl ?_
  refine z_get C 5 (by decide) rfl rfl z_it3 3 (by decide) rfl fl_3_22 rfl dX3_standAtStart_1 ?_
  refine z_iconst C dX3_standAtStart_4 ?_
  refine z_callS C (cm_J7_fill_53178_9 l 0 Ha_facts rfl) mv_3_79 pd_J7_fill_53178 ⟨by omega, by omega⟩ ⟨by omega, by omega⟩ rfl (Nat.le_of_ble_eq_true rfl) dX3_standAtStart_5 ?_
  rintro _ _ _ ⟨n1, rfl, rfl, h4, q5_0, rfl⟩
  refine z_aloadn C 0 dX3_standAtStart_8 rfl rfl ?_
  refine z_get C 5 (by decide) rfl rfl z_it3 3 (by decide) rfl fl_3_22 rfl dX3_standAtStart_9 ?_
  refine z_iconst C dX3_standAtStart_12 ?_
  refine z_iconst C dX3_standAtStart_13 ?_
  refine z_iast C 9 (by decide) rfl (by decide) (by omega) (by omega) dX3_standAtStart_14 ?_
  refine z_ext (S' := (z_zc ad ks s_edgeCount s_moveCount s_isNeeded s_timesDone s_size s_isGoing s_allTime s_stepCount s_gapCount g_edges g_moves g_limits a_sfacts a_sbounds (va_up n1 (3 : Int).toNat (-1)) a_zone a_most a_places a_amounts a_nextPlaces a_nextAmounts a_earliest a_visited a_lastSet a_gapFrom a_gapTo a_gapLeast a_askedPlaces a_askedAmounts)) upC_a_facts ?_
  have h5 : ∀ j, (j % 7 < 3 → 0 ≤ (va_up n1 (3 : Int).toNat (-1)) j ∧ (va_up n1 (3 : Int).toNat (-1)) j ≤ 5) ∧ (j % 7 = 3 → -1 ≤ (va_up n1 (3 : Int).toNat (-1)) j ∧ (va_up n1 (3 : Int).toNat (-1)) j ≤ 119) ∧ (j % 7 = 6 → 0 ≤ (va_up n1 (3 : Int).toNat (-1)) j ∧ (va_up n1 (3 : Int).toNat (-1)) j ≤ 40) ∧ z_rg ((va_up n1 (3 : Int).toNat (-1)) j) := z_upP (P := fun j v => (j % 7 < 3 → 0 ≤ v ∧ v ≤ 5) ∧ (j % 7 = 3 → -1 ≤ v ∧ v ≤ 119) ∧ (j % 7 = 6 → 0 ≤ v ∧ v ≤ 40) ∧ z_rg (v)) h4 (by omega)
  refine z_aloadn C 0 dX3_standAtStart_15 rfl rfl ?_
  refine z_get C 5 (by decide) rfl rfl z_it3 3 (by decide) rfl fl_3_22 rfl dX3_standAtStart_16 ?_
  refine z_iconst C dX3_standAtStart_19 ?_
  refine z_iconst C dX3_standAtStart_20 ?_
  refine z_iast C 9 (by decide) rfl (by decide) (by omega) (by omega) dX3_standAtStart_21 ?_
  refine z_ext (S' := (z_zc ad ks s_edgeCount s_moveCount s_isNeeded s_timesDone s_size s_isGoing s_allTime s_stepCount s_gapCount g_edges g_moves g_limits a_sfacts a_sbounds (va_up (va_up n1 (3 : Int).toNat (-1)) (4 : Int).toNat (-1)) a_zone a_most a_places a_amounts a_nextPlaces a_nextAmounts a_earliest a_visited a_lastSet a_gapFrom a_gapTo a_gapLeast a_askedPlaces a_askedAmounts)) upC_a_facts ?_
  have h6 : ∀ j, (j % 7 < 3 → 0 ≤ (va_up (va_up n1 (3 : Int).toNat (-1)) (4 : Int).toNat (-1)) j ∧ (va_up (va_up n1 (3 : Int).toNat (-1)) (4 : Int).toNat (-1)) j ≤ 5) ∧ (j % 7 = 3 → -1 ≤ (va_up (va_up n1 (3 : Int).toNat (-1)) (4 : Int).toNat (-1)) j ∧ (va_up (va_up n1 (3 : Int).toNat (-1)) (4 : Int).toNat (-1)) j ≤ 119) ∧ (j % 7 = 6 → 0 ≤ (va_up (va_up n1 (3 : Int).toNat (-1)) (4 : Int).toNat (-1)) j ∧ (va_up (va_up n1 (3 : Int).toNat (-1)) (4 : Int).toNat (-1)) j ≤ 40) ∧ z_rg ((va_up (va_up n1 (3 : Int).toNat (-1)) (4 : Int).toNat (-1)) j) := z_upP (P := fun j v => (j % 7 < 3 → 0 ≤ v ∧ v ≤ 5) ∧ (j % 7 = 3 → -1 ≤ v ∧ v ≤ 119) ∧ (j % 7 = 6 → 0 ≤ v ∧ v ≤ 40) ∧ z_rg (v)) h5 (by omega)
  refine z_aloadn C 0 dX3_standAtStart_22 rfl rfl ?_
  refine z_get C 5 (by decide) rfl rfl z_it3 3 (by decide) rfl fl_3_22 rfl dX3_standAtStart_23 ?_
  refine z_iconst C dX3_standAtStart_26 ?_
  refine z_iconst C dX3_standAtStart_27 ?_
  refine z_iast C 9 (by decide) rfl (by decide) (by omega) (by omega) dX3_standAtStart_28 ?_
  refine z_ext (S' := (z_zc ad ks s_edgeCount s_moveCount s_isNeeded s_timesDone s_size s_isGoing s_allTime s_stepCount s_gapCount g_edges g_moves g_limits a_sfacts a_sbounds (va_up (va_up (va_up n1 (3 : Int).toNat (-1)) (4 : Int).toNat (-1)) (5 : Int).toNat (-1)) a_zone a_most a_places a_amounts a_nextPlaces a_nextAmounts a_earliest a_visited a_lastSet a_gapFrom a_gapTo a_gapLeast a_askedPlaces a_askedAmounts)) upC_a_facts ?_
  have h7 : ∀ j, (j % 7 < 3 → 0 ≤ (va_up (va_up (va_up n1 (3 : Int).toNat (-1)) (4 : Int).toNat (-1)) (5 : Int).toNat (-1)) j ∧ (va_up (va_up (va_up n1 (3 : Int).toNat (-1)) (4 : Int).toNat (-1)) (5 : Int).toNat (-1)) j ≤ 5) ∧ (j % 7 = 3 → -1 ≤ (va_up (va_up (va_up n1 (3 : Int).toNat (-1)) (4 : Int).toNat (-1)) (5 : Int).toNat (-1)) j ∧ (va_up (va_up (va_up n1 (3 : Int).toNat (-1)) (4 : Int).toNat (-1)) (5 : Int).toNat (-1)) j ≤ 119) ∧ (j % 7 = 6 → 0 ≤ (va_up (va_up (va_up n1 (3 : Int).toNat (-1)) (4 : Int).toNat (-1)) (5 : Int).toNat (-1)) j ∧ (va_up (va_up (va_up n1 (3 : Int).toNat (-1)) (4 : Int).toNat (-1)) (5 : Int).toNat (-1)) j ≤ 40) ∧ z_rg ((va_up (va_up (va_up n1 (3 : Int).toNat (-1)) (4 : Int).toNat (-1)) (5 : Int).toNat (-1)) j) := z_upP (P := fun j v => (j % 7 < 3 → 0 ≤ v ∧ v ≤ 5) ∧ (j % 7 = 3 → -1 ≤ v ∧ v ≤ 119) ∧ (j % 7 = 6 → 0 ≤ v ∧ v ≤ 40) ∧ z_rg (v)) h6 (by omega)
  refine z_aloadn C 0 dX3_standAtStart_29 rfl rfl ?_
  refine z_get C 5 (by decide) rfl rfl z_it3 4 (by decide) rfl fl_3_29 rfl dX3_standAtStart_30 ?_
  refine z_callV C (cx_X9_putAllClocksAtZero l Ha_zone) mv_3_85 (z_atS 10 9 (by decide) rfl rfl rfl) pd_X9_putAllClocksAtZero ⟨by omega, by omega⟩ ⟨by omega, by omega⟩ rfl (Nat.le_of_ble_eq_true rfl) dX3_standAtStart_33 ?_
  rintro _ _ _ ⟨n8, rfl, rfl, h11, q33_0, rfl⟩
  rw [hQ]
  exact z_vret C hrt dX3_standAtStart_36 (⟨(va_up (va_up (va_up n1 (3 : Int).toNat (-1)) (4 : Int).toNat (-1)) (5 : Int).toNat (-1)), n8, rfl, rfl, h7, h11, fun m hm => by simp only [va_up]; rw [if_neg (by simp; omega), if_neg (by simp; omega), if_neg (by simp; omega)]; exact q5_0 m (by omega), ⟨rfl, rfl, rfl, q5_0 6 (by omega)⟩, q33_0, rfl⟩) (by omega) (by omega)
set_option maxRecDepth 20000 in
theorem cx_X3_settles (l : Launch) {D : va_G} {A : Nat → Prop} {ad : Nat → Nat} {ks : z_Ks} {s_edgeCount s_moveCount s_isNeeded s_timesDone s_size s_isGoing s_allTime s_stepCount s_gapCount : Int} {g_edges g_moves g_limits : Nat → Option Nat} {a_sfacts a_sbounds a_facts a_zone a_most a_places a_amounts a_nextPlaces a_nextAmounts a_earliest a_visited a_lastSet a_gapFrom a_gapTo a_gapLeast a_askedPlaces a_askedAmounts : Nat → Int} {Y : Nat → Option va_E} {em ef et ec er gn gt ln lt : Nat → Int} {qe ql qt : Nat → Nat} {U V L : Int} (Ha_facts : (∀ j, (j % 7 < 3 → 0 ≤ a_facts j ∧ a_facts j ≤ 5) ∧ (j % 7 = 3 → -1 ≤ a_facts j ∧ a_facts j ≤ 119) ∧ (j % 7 = 6 → 0 ≤ a_facts j ∧ a_facts j ≤ 40) ∧ z_rg (a_facts j))) (Ha_zone : (∀ j, z_rg (a_zone j))) (Ha_most : (∀ j, 0 ≤ a_most j ∧ a_most j ≤ 1000)) (HN : z_N ks Y g_edges g_limits s_edgeCount em ef et ec er gn gt ln lt qe ql qt) (hZ : zo_Z U V L a_zone) (hUV : 2001 ≤ U ∧ U ≤ V ∧ V + 4004 ≤ 24000) (hL : 0 ≤ L ∧ L ≤ 54000) : z_Met l yX3_settles cX3_settles 2 (some .boolean) 4 94 0 0 D A 27 ad ks [.ref (ad 5), .ref (ad 1)] (z_zc ad ks s_edgeCount s_moveCount s_isNeeded s_timesDone s_size s_isGoing s_allTime s_stepCount s_gapCount g_edges g_moves g_limits a_sfacts a_sbounds a_facts a_zone a_most a_places a_amounts a_nextPlaces a_nextAmounts a_earliest a_visited a_lastSet a_gapFrom a_gapTo a_gapLeast a_askedPlaces a_askedAmounts) Y (fun r S' Y' => ∃ na_zone : Nat → Int, S' = (z_zc ad ks s_edgeCount s_moveCount s_isNeeded s_timesDone s_size s_isGoing s_allTime s_stepCount s_gapCount g_edges g_moves g_limits a_sfacts a_sbounds a_facts na_zone a_most a_places a_amounts a_nextPlaces a_nextAmounts a_earliest a_visited a_lastSet a_gapFrom a_gapTo a_gapLeast a_askedPlaces a_askedAmounts) ∧ Y = Y' ∧ (∀ j, z_rg (na_zone j)) ∧ ∃ z : Int, r = some (z_v z) ∧ (z = 1 ∧ zo_settle ln lt a_facts a_most a_zone na_zone ∧ zo_Z 16016 16016 32015 na_zone ∨ z = 0 ∧ ∀ c, ¬ zo_settle ln lt a_facts a_most a_zone c)) := by
  refine z_start2 (by decide) (Nat.le_of_ble_eq_true rfl) ?_
  intro p e R s m args below meth c Q C hRf hRc hRs hRl hQ hrt hnm
  refine z_loc (L' := [(0, .ref (ad 5)), (1, .ref (ad 1))]) [0, 1] rfl ?_
  refine z_aloadn C 1 dX3_settles_0 rfl rfl ?_
  refine z_aloadn C 0 dX3_settles_1 rfl rfl ?_
  refine z_get C 5 (by decide) rfl rfl z_it3 3 (by decide) rfl fl_3_22 rfl dX3_settles_2 ?_
  refine z_aloadn C 0 dX3_settles_5 rfl rfl ?_
  refine z_get C 5 (by decide) rfl rfl z_it3 4 (by decide) rfl fl_3_29 rfl dX3_settles_6 ?_
  have hZa : zo_Z V (V + 2002) L a_zone := (hZ.flat (by omega)).mono (Int.le_refl _) (by omega) (Int.le_refl _)
  refine z_callV C (cx_X2_limitsNarrow l Ha_facts Ha_zone HN hZa (by omega) (by omega)) mv_3_124 (z_atS 1 2 (by decide) rfl rfl rfl) pd_X2_limitsNarrow ⟨by omega, by omega⟩ ⟨by omega, by omega⟩ rfl (Nat.le_of_ble_eq_true rfl) dX3_settles_9 ?_
  rintro _ _ _ ⟨n1, rfl, rfl, h4, z5, rfl, hz5⟩
  have hn9 := hz5
  have hb9 := zo_rb hn9
  refine z_if_ne (t := 17) C dX3_settles_12 (by decide) (by omega) (fun c6 => ?_) (fun c6 => ?_)
  · skip
    refine z_aloadn C 0 dX3_settles_17 rfl rfl ?_
    refine z_get C 5 (by decide) rfl rfl z_it3 4 (by decide) rfl fl_3_29 rfl dX3_settles_18 ?_
    obtain ⟨_, hG9, hZ9⟩ := zo_kl hn9 (by omega)
    refine z_callV C (cx_X9_letTimeGoBy l h4) mv_3_127 (z_atS 10 9 (by decide) rfl rfl rfl) pd_X9_letTimeGoBy ⟨by omega, by omega⟩ ⟨by omega, by omega⟩ rfl (Nat.le_of_ble_eq_true rfl) dX3_settles_21 ?_
    rintro _ _ _ ⟨n7, rfl, rfl, h10, q21_0, rfl⟩
    refine z_aloadn C 1 dX3_settles_24 rfl rfl ?_
    refine z_aloadn C 0 dX3_settles_25 rfl rfl ?_
    refine z_get C 5 (by decide) rfl rfl z_it3 3 (by decide) rfl fl_3_22 rfl dX3_settles_26 ?_
    refine z_aloadn C 0 dX3_settles_29 rfl rfl ?_
    refine z_get C 5 (by decide) rfl rfl z_it3 4 (by decide) rfl fl_3_29 rfl dX3_settles_30 ?_
    have hZb : zo_Z (V + 2002) (V + 4004) (L + 12018) n7 := ((zo_tm_Z (by omega) (by omega) hZ9).mono (Int.le_refl _) (by omega) (Int.le_refl _)).congr (fun k hk => (q21_0 k hk).symm)
    refine z_callV C (cx_X2_limitsNarrow l Ha_facts h10 HN hZb (by omega) (by omega)) mv_3_124 (z_atS 1 2 (by decide) rfl rfl rfl) pd_X2_limitsNarrow ⟨by omega, by omega⟩ ⟨by omega, by omega⟩ rfl (Nat.le_of_ble_eq_true rfl) dX3_settles_33 ?_
    rintro _ _ _ ⟨n11, rfl, rfl, h14, z15, rfl, hz15⟩
    have hn33 := hz15
    have hb33 := zo_rb hn33
    refine z_if_ne (t := 41) C dX3_settles_36 (by decide) (by omega) (fun c16 => ?_) (fun c16 => ?_)
    · skip
      refine z_aloadn C 0 dX3_settles_41 rfl rfl ?_
      refine z_get C 5 (by decide) rfl rfl z_it3 4 (by decide) rfl fl_3_29 rfl dX3_settles_42 ?_
      refine z_aloadn C 0 dX3_settles_45 rfl rfl ?_
      refine z_get C 5 (by decide) rfl rfl z_it3 5 (by decide) rfl fl_3_33 rfl dX3_settles_46 ?_
      obtain ⟨_, hG33, hZ33⟩ := zo_kl hn33 (by omega)
      refine z_callV C (cx_X9_widen l h14 Ha_most hZ33) mv_3_130 (z_atS 10 9 (by decide) rfl rfl rfl) pd_X9_widen ⟨by omega, by omega⟩ ⟨by omega, by omega⟩ rfl (Nat.le_of_ble_eq_true rfl) dX3_settles_49 ?_
      rintro _ _ _ ⟨n17, rfl, rfl, h20, q49_0, q49_1, rfl⟩
      refine z_iconst C dX3_settles_52 ?_
      rw [hQ]
      exact z_zret C hrt (by omega) dX3_settles_53 (⟨n17, rfl, rfl, h20, _, rfl, Or.inl ⟨rfl, ⟨_, hG9, ⟨_, zo_tmG q21_0 hG33, q49_0⟩⟩, q49_1⟩⟩) (by omega) (by omega)
    · skip
      refine z_iconst C dX3_settles_39 ?_
      rw [hQ]
      exact z_zret C hrt (by omega) dX3_settles_40 (⟨n11, rfl, rfl, h14, _, rfl, Or.inr ⟨rfl, zo_seN hG9 q21_0 (hn33.elim (fun q => absurd q.1 (by omega)) (fun q => q.2))⟩⟩) (by omega) (by omega)
  · skip
    refine z_iconst C dX3_settles_15 ?_
    rw [hQ]
    exact z_zret C hrt (by omega) dX3_settles_16 (⟨n1, rfl, rfl, h4, _, rfl, Or.inr ⟨rfl, fun c ⟨d, g, _⟩ => hn9.elim (fun q => by omega) (fun q => q.2 d g.1 g.2.1)⟩⟩) (by omega) (by omega)
