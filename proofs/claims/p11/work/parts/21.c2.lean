theorem z_fill_add {f : Nat → Int} {i v : Int} (h : ∀ j : Nat, (j : Int) < i → f j = v) (h0 : 0 ≤ i) : ∀ j : Nat, (j : Int) < i + 1 → va_up f i.toNat v j = v := by
  intro j hj
  by_cases he : j = i.toNat
  · subst he
    simp [va_up]
  · simp only [va_up, if_neg he]
    exact h j (by omega)
theorem z_p7c {f g : Nat → Int} {a b n : Nat} (hf : ∀ j, (j % 7 < 3 → 0 ≤ f j ∧ f j ≤ 5) ∧ (j % 7 = 3 → -1 ≤ f j ∧ f j ≤ 119) ∧ (j % 7 = 6 → 0 ≤ f j ∧ f j ≤ 40) ∧ z_rg (f j)) (hg : ∀ j, (j % 7 < 3 → 0 ≤ g j ∧ g j ≤ 5) ∧ (j % 7 = 3 → -1 ≤ g j ∧ g j ≤ 119) ∧ (j % 7 = 6 → 0 ≤ g j ∧ g j ≤ 40) ∧ z_rg (g j)) (ha : a % 7 = b % 7) : ∀ j, (j % 7 < 3 → 0 ≤ va_cpy f g a b n j ∧ va_cpy f g a b n j ≤ 5) ∧ (j % 7 = 3 → -1 ≤ va_cpy f g a b n j ∧ va_cpy f g a b n j ≤ 119) ∧ (j % 7 = 6 → 0 ≤ va_cpy f g a b n j ∧ va_cpy f g a b n j ≤ 40) ∧ z_rg (va_cpy f g a b n j) := by
  intro j
  unfold va_cpy
  split
  · have h := hf (a + (j - b))
    have e : (a + (j - b)) % 7 = j % 7 := by omega
    rw [e] at h
    exact h
  · exact hg j
set_option maxRecDepth 20000 in
theorem cm_J7_fill_53178_9 (l : Launch) {D : va_G} {A : Nat → Prop} {ad : Nat → Nat} {ks : z_Ks} {s_edgeCount s_moveCount s_isNeeded s_timesDone s_size s_isGoing s_allTime s_stepCount s_gapCount : Int} {g_edges g_moves g_limits : Nat → Option Nat} {a_sfacts a_sbounds a_facts a_zone a_most a_places a_amounts a_nextPlaces a_nextAmounts a_earliest a_visited a_lastSet a_gapFrom a_gapTo a_gapLeast a_askedPlaces a_askedAmounts : Nat → Int} {Y : Nat → Option va_E} (v : Int) (Ha_facts : (∀ j, (j % 7 < 3 → 0 ≤ a_facts j ∧ a_facts j ≤ 5) ∧ (j % 7 = 3 → -1 ≤ a_facts j ∧ a_facts j ≤ 119) ∧ (j % 7 = 6 → 0 ≤ a_facts j ∧ a_facts j ≤ 40) ∧ z_rg (a_facts j))) (hv : v = 0) : z_Met l yJ7_fill_53178 cJ7_fill_53178 4 none 0 0 0 0 D A 27 ad ks [.ref (ad 9), z_v v] (z_zc ad ks s_edgeCount s_moveCount s_isNeeded s_timesDone s_size s_isGoing s_allTime s_stepCount s_gapCount g_edges g_moves g_limits a_sfacts a_sbounds a_facts a_zone a_most a_places a_amounts a_nextPlaces a_nextAmounts a_earliest a_visited a_lastSet a_gapFrom a_gapTo a_gapLeast a_askedPlaces a_askedAmounts) Y (fun r S' Y' => ∃ na_facts : Nat → Int, S' = (z_zc ad ks s_edgeCount s_moveCount s_isNeeded s_timesDone s_size s_isGoing s_allTime s_stepCount s_gapCount g_edges g_moves g_limits a_sfacts a_sbounds na_facts a_zone a_most a_places a_amounts a_nextPlaces a_nextAmounts a_earliest a_visited a_lastSet a_gapFrom a_gapTo a_gapLeast a_askedPlaces a_askedAmounts) ∧ Y = Y' ∧ (∀ j, (j % 7 < 3 → 0 ≤ na_facts j ∧ na_facts j ≤ 5) ∧ (j % 7 = 3 → -1 ≤ na_facts j ∧ na_facts j ≤ 119) ∧ (j % 7 = 6 → 0 ≤ na_facts j ∧ na_facts j ≤ 40) ∧ z_rg (na_facts j)) ∧ (∀ j : Nat, j < 7 → na_facts j = v) ∧ r = none) := by
  refine z_start2 (by decide) (Nat.le_of_ble_eq_true rfl) ?_
  intro p e R s m args below meth c Q C hRf hRc hRs hRl hQ hrt hnm
  refine z_loc (L' := [(0, .ref (ad 9)), (1, z_v v)]) [0, 1] rfl ?_
  refine z_iconst C dJ7_fill_53178_0 ?_
  refine z_istoren (L' := [(2, z_v 0), (0, .ref (ad 9)), (1, z_v v)]) C dJ7_fill_53178_1 rfl (by decide) rfl ?_
  refine z_aloadn C 1 dJ7_fill_53178_2 rfl rfl ?_
  refine z_alen (n := 7) C 9 0 (by decide) rfl rfl rfl dJ7_fill_53178_3 ?_
  refine z_istoren (L' := [(3, z_v ((7 : Nat) : Int)), (2, z_v 0), (0, .ref (ad 9)), (1, z_v v)]) C dJ7_fill_53178_4 rfl (by decide) rfl ?_
  have L5 : ∀ (n : Nat), ∀ (i2 : Int) (fa_facts : Nat → Int), ((∀ j, (j % 7 < 3 → 0 ≤ fa_facts j ∧ fa_facts j ≤ 5) ∧ (j % 7 = 3 → -1 ≤ fa_facts j ∧ fa_facts j ≤ 119) ∧ (j % 7 = 6 → 0 ≤ fa_facts j ∧ fa_facts j ≤ 40) ∧ z_rg (fa_facts j))) → (∀ j : Nat, (j : Int) < i2 → fa_facts j = v) → (0 ≤ i2 ∧ i2 ≤ 7) → ((7 : Int) - i2).toNat < n → z_V p l e R s m args below meth c Q D A 27 ad 4 (z_zc ad ks s_edgeCount s_moveCount s_isNeeded s_timesDone s_size s_isGoing s_allTime s_stepCount s_gapCount g_edges g_moves g_limits a_sfacts a_sbounds fa_facts a_zone a_most a_places a_amounts a_nextPlaces a_nextAmounts a_earliest a_visited a_lastSet a_gapFrom a_gapTo a_gapLeast a_askedPlaces a_askedAmounts) Y 0 0 5 [(0, .ref (ad 9)), (1, z_v v), (2, z_v i2), (3, z_v ((7 : Nat) : Int))] [] := by
    intro n
    induction n with
    | zero => intro i2 fa_facts Hfa_facts FJ I2 hm; exact absurd hm (Nat.not_lt_zero _)
    | succ n ih5 =>
      intro i2 fa_facts Hfa_facts FJ I2 hm
      refine z_iloadn C 2 dJ7_fill_53178_5 rfl rfl ?_
      refine z_iloadn C 3 dJ7_fill_53178_6 rfl rfl ?_
      refine z_icmp_ge (t := 20) C dJ7_fill_53178_7 (by decide) (by omega) (by omega) (fun c1 => ?_) (fun c1 => ?_)
      · skip
        rw [hQ]
        exact z_vret C hrt dJ7_fill_53178_20 (⟨fa_facts, rfl, rfl, Hfa_facts, fun j hj => FJ j (by omega), rfl⟩) (by omega) (by omega)
      · skip
        refine z_aloadn C 0 dJ7_fill_53178_10 rfl rfl ?_
        refine z_iloadn C 2 dJ7_fill_53178_11 rfl rfl ?_
        refine z_iloadn C 1 dJ7_fill_53178_12 rfl rfl ?_
        refine z_iast C 9 (by decide) rfl (by decide) (by omega) (by omega) dJ7_fill_53178_13 ?_
        refine z_ext (S' := (z_zc ad ks s_edgeCount s_moveCount s_isNeeded s_timesDone s_size s_isGoing s_allTime s_stepCount s_gapCount g_edges g_moves g_limits a_sfacts a_sbounds (va_up fa_facts (i2 : Int).toNat v) a_zone a_most a_places a_amounts a_nextPlaces a_nextAmounts a_earliest a_visited a_lastSet a_gapFrom a_gapTo a_gapLeast a_askedPlaces a_askedAmounts)) upC_a_facts ?_
        have h2 : ∀ j, (j % 7 < 3 → 0 ≤ (va_up fa_facts (i2 : Int).toNat v) j ∧ (va_up fa_facts (i2 : Int).toNat v) j ≤ 5) ∧ (j % 7 = 3 → -1 ≤ (va_up fa_facts (i2 : Int).toNat v) j ∧ (va_up fa_facts (i2 : Int).toNat v) j ≤ 119) ∧ (j % 7 = 6 → 0 ≤ (va_up fa_facts (i2 : Int).toNat v) j ∧ (va_up fa_facts (i2 : Int).toNat v) j ≤ 40) ∧ z_rg ((va_up fa_facts (i2 : Int).toNat v) j) := z_upP (P := fun j v => (j % 7 < 3 → 0 ≤ v ∧ v ≤ 5) ∧ (j % 7 = 3 → -1 ≤ v ∧ v ≤ 119) ∧ (j % 7 = 6 → 0 ≤ v ∧ v ≤ 40) ∧ z_rg (v)) Hfa_facts (by omega)
        refine z_iinc (L' := [(2, z_v (i2 + 1)), (0, .ref (ad 9)), (1, z_v v), (3, z_v ((7 : Nat) : Int))]) C 2 dJ7_fill_53178_14 rfl (by decide) rfl ?_
        refine z_goto (t := 5) C dJ7_fill_53178_17 (by decide) ?_
        refine z_loc (L' := [(0, .ref (ad 9)), (1, z_v v), (2, z_v (i2 + 1)), (3, z_v ((7 : Nat) : Int))]) [1, 2, 0, 3] rfl ?_
        exact ih5 (i2 + 1) (va_up fa_facts (i2 : Int).toNat v) h2 (z_fill_add FJ (by omega)) (by omega) (by omega)
  refine z_loc (L' := [(0, .ref (ad 9)), (1, z_v v), (2, z_v 0), (3, z_v ((7 : Nat) : Int))]) [2, 3, 1, 0] rfl ?_
  exact (L5 (((7 : Int) - 0).toNat + 1)) 0 a_facts Ha_facts (fun j hj => absurd hj (by omega)) (by omega) (Nat.lt_succ_self _)
set_option maxRecDepth 20000 in
theorem cm_J7_fill_53178_11 (l : Launch) {D : va_G} {A : Nat → Prop} {ad : Nat → Nat} {ks : z_Ks} {s_edgeCount s_moveCount s_isNeeded s_timesDone s_size s_isGoing s_allTime s_stepCount s_gapCount : Int} {g_edges g_moves g_limits : Nat → Option Nat} {a_sfacts a_sbounds a_facts a_zone a_most a_places a_amounts a_nextPlaces a_nextAmounts a_earliest a_visited a_lastSet a_gapFrom a_gapTo a_gapLeast a_askedPlaces a_askedAmounts : Nat → Int} {Y : Nat → Option va_E} (v : Int) (Ha_zone : (∀ j, z_rg (a_zone j))) (hv : z_rg v) : z_Met l yJ7_fill_53178 cJ7_fill_53178 4 none 0 0 0 0 D A 27 ad ks [.ref (ad 11), z_v v] (z_zc ad ks s_edgeCount s_moveCount s_isNeeded s_timesDone s_size s_isGoing s_allTime s_stepCount s_gapCount g_edges g_moves g_limits a_sfacts a_sbounds a_facts a_zone a_most a_places a_amounts a_nextPlaces a_nextAmounts a_earliest a_visited a_lastSet a_gapFrom a_gapTo a_gapLeast a_askedPlaces a_askedAmounts) Y (fun r S' Y' => ∃ na_zone : Nat → Int, S' = (z_zc ad ks s_edgeCount s_moveCount s_isNeeded s_timesDone s_size s_isGoing s_allTime s_stepCount s_gapCount g_edges g_moves g_limits a_sfacts a_sbounds a_facts na_zone a_most a_places a_amounts a_nextPlaces a_nextAmounts a_earliest a_visited a_lastSet a_gapFrom a_gapTo a_gapLeast a_askedPlaces a_askedAmounts) ∧ Y = Y' ∧ (∀ j, z_rg (na_zone j)) ∧ (∀ j : Nat, j < 16 → na_zone j = v) ∧ r = none) := by
  refine z_start2 (by decide) (Nat.le_of_ble_eq_true rfl) ?_
  intro p e R s m args below meth c Q C hRf hRc hRs hRl hQ hrt hnm
  refine z_loc (L' := [(0, .ref (ad 11)), (1, z_v v)]) [0, 1] rfl ?_
  refine z_iconst C dJ7_fill_53178_0 ?_
  refine z_istoren (L' := [(2, z_v 0), (0, .ref (ad 11)), (1, z_v v)]) C dJ7_fill_53178_1 rfl (by decide) rfl ?_
  refine z_aloadn C 1 dJ7_fill_53178_2 rfl rfl ?_
  refine z_alen (n := 16) C 11 0 (by decide) rfl rfl rfl dJ7_fill_53178_3 ?_
  refine z_istoren (L' := [(3, z_v ((16 : Nat) : Int)), (2, z_v 0), (0, .ref (ad 11)), (1, z_v v)]) C dJ7_fill_53178_4 rfl (by decide) rfl ?_
  have L5 : ∀ (n : Nat), ∀ (i2 : Int) (fa_zone : Nat → Int), ((∀ j, z_rg (fa_zone j))) → (∀ j : Nat, (j : Int) < i2 → fa_zone j = v) → (0 ≤ i2 ∧ i2 ≤ 16) → ((16 : Int) - i2).toNat < n → z_V p l e R s m args below meth c Q D A 27 ad 4 (z_zc ad ks s_edgeCount s_moveCount s_isNeeded s_timesDone s_size s_isGoing s_allTime s_stepCount s_gapCount g_edges g_moves g_limits a_sfacts a_sbounds a_facts fa_zone a_most a_places a_amounts a_nextPlaces a_nextAmounts a_earliest a_visited a_lastSet a_gapFrom a_gapTo a_gapLeast a_askedPlaces a_askedAmounts) Y 0 0 5 [(0, .ref (ad 11)), (1, z_v v), (2, z_v i2), (3, z_v ((16 : Nat) : Int))] [] := by
    intro n
    induction n with
    | zero => intro i2 fa_zone Hfa_zone FJ I2 hm; exact absurd hm (Nat.not_lt_zero _)
    | succ n ih5 =>
      intro i2 fa_zone Hfa_zone FJ I2 hm
      refine z_iloadn C 2 dJ7_fill_53178_5 rfl rfl ?_
      refine z_iloadn C 3 dJ7_fill_53178_6 rfl rfl ?_
      refine z_icmp_ge (t := 20) C dJ7_fill_53178_7 (by decide) (by omega) (by omega) (fun c1 => ?_) (fun c1 => ?_)
      · skip
        rw [hQ]
        exact z_vret C hrt dJ7_fill_53178_20 (⟨fa_zone, rfl, rfl, Hfa_zone, fun j hj => FJ j (by omega), rfl⟩) (by omega) (by omega)
      · skip
        refine z_aloadn C 0 dJ7_fill_53178_10 rfl rfl ?_
        refine z_iloadn C 2 dJ7_fill_53178_11 rfl rfl ?_
        refine z_iloadn C 1 dJ7_fill_53178_12 rfl rfl ?_
        refine z_iast C 11 (by decide) rfl (by decide) (by omega) (by omega) dJ7_fill_53178_13 ?_
        refine z_ext (S' := (z_zc ad ks s_edgeCount s_moveCount s_isNeeded s_timesDone s_size s_isGoing s_allTime s_stepCount s_gapCount g_edges g_moves g_limits a_sfacts a_sbounds a_facts (va_up fa_zone (i2 : Int).toNat v) a_most a_places a_amounts a_nextPlaces a_nextAmounts a_earliest a_visited a_lastSet a_gapFrom a_gapTo a_gapLeast a_askedPlaces a_askedAmounts)) upC_a_zone ?_
        have h2 : ∀ j, z_rg ((va_up fa_zone (i2 : Int).toNat v) j) := z_upP (P := fun j v => z_rg (v)) Hfa_zone (by omega)
        refine z_iinc (L' := [(2, z_v (i2 + 1)), (0, .ref (ad 11)), (1, z_v v), (3, z_v ((16 : Nat) : Int))]) C 2 dJ7_fill_53178_14 rfl (by decide) rfl ?_
        refine z_goto (t := 5) C dJ7_fill_53178_17 (by decide) ?_
        refine z_loc (L' := [(0, .ref (ad 11)), (1, z_v v), (2, z_v (i2 + 1)), (3, z_v ((16 : Nat) : Int))]) [1, 2, 0, 3] rfl ?_
        exact ih5 (i2 + 1) (va_up fa_zone (i2 : Int).toNat v) h2 (z_fill_add FJ (by omega)) (by omega) (by omega)
  refine z_loc (L' := [(0, .ref (ad 11)), (1, z_v v), (2, z_v 0), (3, z_v ((16 : Nat) : Int))]) [2, 3, 1, 0] rfl ?_
  exact (L5 (((16 : Int) - 0).toNat + 1)) 0 a_zone Ha_zone (fun j hj => absurd hj (by omega)) (by omega) (Nat.lt_succ_self _)
set_option maxRecDepth 20000 in
theorem cm_J7_fill_53178_14 (l : Launch) {D : va_G} {A : Nat → Prop} {ad : Nat → Nat} {ks : z_Ks} {s_edgeCount s_moveCount s_isNeeded s_timesDone s_size s_isGoing s_allTime s_stepCount s_gapCount : Int} {g_edges g_moves g_limits : Nat → Option Nat} {a_sfacts a_sbounds a_facts a_zone a_most a_places a_amounts a_nextPlaces a_nextAmounts a_earliest a_visited a_lastSet a_gapFrom a_gapTo a_gapLeast a_askedPlaces a_askedAmounts : Nat → Int} {Y : Nat → Option va_E} (v : Int) (Ha_places : (∀ j, 0 ≤ a_places j ∧ a_places j ≤ 5)) (hv : v = 0) : z_Met l yJ7_fill_53178 cJ7_fill_53178 4 none 0 0 0 0 D A 27 ad ks [.ref (ad 14), z_v v] (z_zc ad ks s_edgeCount s_moveCount s_isNeeded s_timesDone s_size s_isGoing s_allTime s_stepCount s_gapCount g_edges g_moves g_limits a_sfacts a_sbounds a_facts a_zone a_most a_places a_amounts a_nextPlaces a_nextAmounts a_earliest a_visited a_lastSet a_gapFrom a_gapTo a_gapLeast a_askedPlaces a_askedAmounts) Y (fun r S' Y' => ∃ na_places : Nat → Int, S' = (z_zc ad ks s_edgeCount s_moveCount s_isNeeded s_timesDone s_size s_isGoing s_allTime s_stepCount s_gapCount g_edges g_moves g_limits a_sfacts a_sbounds a_facts a_zone a_most na_places a_amounts a_nextPlaces a_nextAmounts a_earliest a_visited a_lastSet a_gapFrom a_gapTo a_gapLeast a_askedPlaces a_askedAmounts) ∧ Y = Y' ∧ (∀ j, 0 ≤ na_places j ∧ na_places j ≤ 5) ∧ (∀ j : Nat, j < 3 → na_places j = v) ∧ r = none) := by
  refine z_start2 (by decide) (Nat.le_of_ble_eq_true rfl) ?_
  intro p e R s m args below meth c Q C hRf hRc hRs hRl hQ hrt hnm
  refine z_loc (L' := [(0, .ref (ad 14)), (1, z_v v)]) [0, 1] rfl ?_
  refine z_iconst C dJ7_fill_53178_0 ?_
  refine z_istoren (L' := [(2, z_v 0), (0, .ref (ad 14)), (1, z_v v)]) C dJ7_fill_53178_1 rfl (by decide) rfl ?_
  refine z_aloadn C 1 dJ7_fill_53178_2 rfl rfl ?_
  refine z_alen (n := 3) C 14 0 (by decide) rfl rfl rfl dJ7_fill_53178_3 ?_
  refine z_istoren (L' := [(3, z_v ((3 : Nat) : Int)), (2, z_v 0), (0, .ref (ad 14)), (1, z_v v)]) C dJ7_fill_53178_4 rfl (by decide) rfl ?_
  have L5 : ∀ (n : Nat), ∀ (i2 : Int) (fa_places : Nat → Int), ((∀ j, 0 ≤ fa_places j ∧ fa_places j ≤ 5)) → (∀ j : Nat, (j : Int) < i2 → fa_places j = v) → (0 ≤ i2 ∧ i2 ≤ 3) → ((3 : Int) - i2).toNat < n → z_V p l e R s m args below meth c Q D A 27 ad 4 (z_zc ad ks s_edgeCount s_moveCount s_isNeeded s_timesDone s_size s_isGoing s_allTime s_stepCount s_gapCount g_edges g_moves g_limits a_sfacts a_sbounds a_facts a_zone a_most fa_places a_amounts a_nextPlaces a_nextAmounts a_earliest a_visited a_lastSet a_gapFrom a_gapTo a_gapLeast a_askedPlaces a_askedAmounts) Y 0 0 5 [(0, .ref (ad 14)), (1, z_v v), (2, z_v i2), (3, z_v ((3 : Nat) : Int))] [] := by
    intro n
    induction n with
    | zero => intro i2 fa_places Hfa_places FJ I2 hm; exact absurd hm (Nat.not_lt_zero _)
    | succ n ih5 =>
      intro i2 fa_places Hfa_places FJ I2 hm
      refine z_iloadn C 2 dJ7_fill_53178_5 rfl rfl ?_
      refine z_iloadn C 3 dJ7_fill_53178_6 rfl rfl ?_
      refine z_icmp_ge (t := 20) C dJ7_fill_53178_7 (by decide) (by omega) (by omega) (fun c1 => ?_) (fun c1 => ?_)
      · skip
        rw [hQ]
        exact z_vret C hrt dJ7_fill_53178_20 (⟨fa_places, rfl, rfl, Hfa_places, fun j hj => FJ j (by omega), rfl⟩) (by omega) (by omega)
      · skip
        refine z_aloadn C 0 dJ7_fill_53178_10 rfl rfl ?_
        refine z_iloadn C 2 dJ7_fill_53178_11 rfl rfl ?_
        refine z_iloadn C 1 dJ7_fill_53178_12 rfl rfl ?_
        refine z_iast C 14 (by decide) rfl (by decide) (by omega) (by omega) dJ7_fill_53178_13 ?_
        refine z_ext (S' := (z_zc ad ks s_edgeCount s_moveCount s_isNeeded s_timesDone s_size s_isGoing s_allTime s_stepCount s_gapCount g_edges g_moves g_limits a_sfacts a_sbounds a_facts a_zone a_most (va_up fa_places (i2 : Int).toNat v) a_amounts a_nextPlaces a_nextAmounts a_earliest a_visited a_lastSet a_gapFrom a_gapTo a_gapLeast a_askedPlaces a_askedAmounts)) upC_a_places ?_
        have h2 : ∀ j, 0 ≤ (va_up fa_places (i2 : Int).toNat v) j ∧ (va_up fa_places (i2 : Int).toNat v) j ≤ 5 := z_upP (P := fun j v => 0 ≤ v ∧ v ≤ 5) Hfa_places (by omega)
        refine z_iinc (L' := [(2, z_v (i2 + 1)), (0, .ref (ad 14)), (1, z_v v), (3, z_v ((3 : Nat) : Int))]) C 2 dJ7_fill_53178_14 rfl (by decide) rfl ?_
        refine z_goto (t := 5) C dJ7_fill_53178_17 (by decide) ?_
        refine z_loc (L' := [(0, .ref (ad 14)), (1, z_v v), (2, z_v (i2 + 1)), (3, z_v ((3 : Nat) : Int))]) [1, 2, 0, 3] rfl ?_
        exact ih5 (i2 + 1) (va_up fa_places (i2 : Int).toNat v) h2 (z_fill_add FJ (by omega)) (by omega) (by omega)
  refine z_loc (L' := [(0, .ref (ad 14)), (1, z_v v), (2, z_v 0), (3, z_v ((3 : Nat) : Int))]) [2, 3, 1, 0] rfl ?_
  exact (L5 (((3 : Int) - 0).toNat + 1)) 0 a_places Ha_places (fun j hj => absurd hj (by omega)) (by omega) (Nat.lt_succ_self _)
set_option maxRecDepth 20000 in
theorem cm_J7_fill_53178_15 (l : Launch) {D : va_G} {A : Nat → Prop} {ad : Nat → Nat} {ks : z_Ks} {s_edgeCount s_moveCount s_isNeeded s_timesDone s_size s_isGoing s_allTime s_stepCount s_gapCount : Int} {g_edges g_moves g_limits : Nat → Option Nat} {a_sfacts a_sbounds a_facts a_zone a_most a_places a_amounts a_nextPlaces a_nextAmounts a_earliest a_visited a_lastSet a_gapFrom a_gapTo a_gapLeast a_askedPlaces a_askedAmounts : Nat → Int} {Y : Nat → Option va_E} (v : Int) (Ha_amounts : (∀ j, 0 ≤ a_amounts j ∧ a_amounts j ≤ 1000000)) (hv : v = 0) : z_Met l yJ7_fill_53178 cJ7_fill_53178 4 none 0 0 0 0 D A 27 ad ks [.ref (ad 15), z_v v] (z_zc ad ks s_edgeCount s_moveCount s_isNeeded s_timesDone s_size s_isGoing s_allTime s_stepCount s_gapCount g_edges g_moves g_limits a_sfacts a_sbounds a_facts a_zone a_most a_places a_amounts a_nextPlaces a_nextAmounts a_earliest a_visited a_lastSet a_gapFrom a_gapTo a_gapLeast a_askedPlaces a_askedAmounts) Y (fun r S' Y' => ∃ na_amounts : Nat → Int, S' = (z_zc ad ks s_edgeCount s_moveCount s_isNeeded s_timesDone s_size s_isGoing s_allTime s_stepCount s_gapCount g_edges g_moves g_limits a_sfacts a_sbounds a_facts a_zone a_most a_places na_amounts a_nextPlaces a_nextAmounts a_earliest a_visited a_lastSet a_gapFrom a_gapTo a_gapLeast a_askedPlaces a_askedAmounts) ∧ Y = Y' ∧ (∀ j, 0 ≤ na_amounts j ∧ na_amounts j ≤ 1000000) ∧ (∀ j : Nat, j < 4 → na_amounts j = v) ∧ r = none) := by
  refine z_start2 (by decide) (Nat.le_of_ble_eq_true rfl) ?_
  intro p e R s m args below meth c Q C hRf hRc hRs hRl hQ hrt hnm
  refine z_loc (L' := [(0, .ref (ad 15)), (1, z_v v)]) [0, 1] rfl ?_
  refine z_iconst C dJ7_fill_53178_0 ?_
  refine z_istoren (L' := [(2, z_v 0), (0, .ref (ad 15)), (1, z_v v)]) C dJ7_fill_53178_1 rfl (by decide) rfl ?_
  refine z_aloadn C 1 dJ7_fill_53178_2 rfl rfl ?_
  refine z_alen (n := 4) C 15 0 (by decide) rfl rfl rfl dJ7_fill_53178_3 ?_
  refine z_istoren (L' := [(3, z_v ((4 : Nat) : Int)), (2, z_v 0), (0, .ref (ad 15)), (1, z_v v)]) C dJ7_fill_53178_4 rfl (by decide) rfl ?_
  have L5 : ∀ (n : Nat), ∀ (i2 : Int) (fa_amounts : Nat → Int), ((∀ j, 0 ≤ fa_amounts j ∧ fa_amounts j ≤ 1000000)) → (∀ j : Nat, (j : Int) < i2 → fa_amounts j = v) → (0 ≤ i2 ∧ i2 ≤ 4) → ((4 : Int) - i2).toNat < n → z_V p l e R s m args below meth c Q D A 27 ad 4 (z_zc ad ks s_edgeCount s_moveCount s_isNeeded s_timesDone s_size s_isGoing s_allTime s_stepCount s_gapCount g_edges g_moves g_limits a_sfacts a_sbounds a_facts a_zone a_most a_places fa_amounts a_nextPlaces a_nextAmounts a_earliest a_visited a_lastSet a_gapFrom a_gapTo a_gapLeast a_askedPlaces a_askedAmounts) Y 0 0 5 [(0, .ref (ad 15)), (1, z_v v), (2, z_v i2), (3, z_v ((4 : Nat) : Int))] [] := by
    intro n
    induction n with
    | zero => intro i2 fa_amounts Hfa_amounts FJ I2 hm; exact absurd hm (Nat.not_lt_zero _)
    | succ n ih5 =>
      intro i2 fa_amounts Hfa_amounts FJ I2 hm
      refine z_iloadn C 2 dJ7_fill_53178_5 rfl rfl ?_
      refine z_iloadn C 3 dJ7_fill_53178_6 rfl rfl ?_
      refine z_icmp_ge (t := 20) C dJ7_fill_53178_7 (by decide) (by omega) (by omega) (fun c1 => ?_) (fun c1 => ?_)
      · skip
        rw [hQ]
        exact z_vret C hrt dJ7_fill_53178_20 (⟨fa_amounts, rfl, rfl, Hfa_amounts, fun j hj => FJ j (by omega), rfl⟩) (by omega) (by omega)
      · skip
        refine z_aloadn C 0 dJ7_fill_53178_10 rfl rfl ?_
        refine z_iloadn C 2 dJ7_fill_53178_11 rfl rfl ?_
        refine z_iloadn C 1 dJ7_fill_53178_12 rfl rfl ?_
        refine z_iast C 15 (by decide) rfl (by decide) (by omega) (by omega) dJ7_fill_53178_13 ?_
        refine z_ext (S' := (z_zc ad ks s_edgeCount s_moveCount s_isNeeded s_timesDone s_size s_isGoing s_allTime s_stepCount s_gapCount g_edges g_moves g_limits a_sfacts a_sbounds a_facts a_zone a_most a_places (va_up fa_amounts (i2 : Int).toNat v) a_nextPlaces a_nextAmounts a_earliest a_visited a_lastSet a_gapFrom a_gapTo a_gapLeast a_askedPlaces a_askedAmounts)) upC_a_amounts ?_
        have h2 : ∀ j, 0 ≤ (va_up fa_amounts (i2 : Int).toNat v) j ∧ (va_up fa_amounts (i2 : Int).toNat v) j ≤ 1000000 := z_upP (P := fun j v => 0 ≤ v ∧ v ≤ 1000000) Hfa_amounts (by omega)
        refine z_iinc (L' := [(2, z_v (i2 + 1)), (0, .ref (ad 15)), (1, z_v v), (3, z_v ((4 : Nat) : Int))]) C 2 dJ7_fill_53178_14 rfl (by decide) rfl ?_
        refine z_goto (t := 5) C dJ7_fill_53178_17 (by decide) ?_
        refine z_loc (L' := [(0, .ref (ad 15)), (1, z_v v), (2, z_v (i2 + 1)), (3, z_v ((4 : Nat) : Int))]) [1, 2, 0, 3] rfl ?_
        exact ih5 (i2 + 1) (va_up fa_amounts (i2 : Int).toNat v) h2 (z_fill_add FJ (by omega)) (by omega) (by omega)
  refine z_loc (L' := [(0, .ref (ad 15)), (1, z_v v), (2, z_v 0), (3, z_v ((4 : Nat) : Int))]) [2, 3, 1, 0] rfl ?_
  exact (L5 (((4 : Int) - 0).toNat + 1)) 0 a_amounts Ha_amounts (fun j hj => absurd hj (by omega)) (by omega) (Nat.lt_succ_self _)
set_option maxRecDepth 20000 in
theorem cm_J7_fill_53178_19 (l : Launch) {D : va_G} {A : Nat → Prop} {ad : Nat → Nat} {ks : z_Ks} {s_edgeCount s_moveCount s_isNeeded s_timesDone s_size s_isGoing s_allTime s_stepCount s_gapCount : Int} {g_edges g_moves g_limits : Nat → Option Nat} {a_sfacts a_sbounds a_facts a_zone a_most a_places a_amounts a_nextPlaces a_nextAmounts a_earliest a_visited a_lastSet a_gapFrom a_gapTo a_gapLeast a_askedPlaces a_askedAmounts : Nat → Int} {Y : Nat → Option va_E} (v : Int) (Ha_earliest : (∀ j, z_rg (a_earliest j))) (hv : v = 0) : z_Met l yJ7_fill_53178 cJ7_fill_53178 4 none 0 0 0 0 D A 27 ad ks [.ref (ad 19), z_v v] (z_zc ad ks s_edgeCount s_moveCount s_isNeeded s_timesDone s_size s_isGoing s_allTime s_stepCount s_gapCount g_edges g_moves g_limits a_sfacts a_sbounds a_facts a_zone a_most a_places a_amounts a_nextPlaces a_nextAmounts a_earliest a_visited a_lastSet a_gapFrom a_gapTo a_gapLeast a_askedPlaces a_askedAmounts) Y (fun r S' Y' => ∃ na_earliest : Nat → Int, S' = (z_zc ad ks s_edgeCount s_moveCount s_isNeeded s_timesDone s_size s_isGoing s_allTime s_stepCount s_gapCount g_edges g_moves g_limits a_sfacts a_sbounds a_facts a_zone a_most a_places a_amounts a_nextPlaces a_nextAmounts na_earliest a_visited a_lastSet a_gapFrom a_gapTo a_gapLeast a_askedPlaces a_askedAmounts) ∧ Y = Y' ∧ (∀ j, z_rg (na_earliest j)) ∧ (∀ j : Nat, j < 41 → na_earliest j = v) ∧ r = none) := by
  refine z_start2 (by decide) (Nat.le_of_ble_eq_true rfl) ?_
  intro p e R s m args below meth c Q C hRf hRc hRs hRl hQ hrt hnm
  refine z_loc (L' := [(0, .ref (ad 19)), (1, z_v v)]) [0, 1] rfl ?_
  refine z_iconst C dJ7_fill_53178_0 ?_
  refine z_istoren (L' := [(2, z_v 0), (0, .ref (ad 19)), (1, z_v v)]) C dJ7_fill_53178_1 rfl (by decide) rfl ?_
  refine z_aloadn C 1 dJ7_fill_53178_2 rfl rfl ?_
  refine z_alen (n := 41) C 19 0 (by decide) rfl rfl rfl dJ7_fill_53178_3 ?_
  refine z_istoren (L' := [(3, z_v ((41 : Nat) : Int)), (2, z_v 0), (0, .ref (ad 19)), (1, z_v v)]) C dJ7_fill_53178_4 rfl (by decide) rfl ?_
  have L5 : ∀ (n : Nat), ∀ (i2 : Int) (fa_earliest : Nat → Int), ((∀ j, z_rg (fa_earliest j))) → (∀ j : Nat, (j : Int) < i2 → fa_earliest j = v) → (0 ≤ i2 ∧ i2 ≤ 41) → ((41 : Int) - i2).toNat < n → z_V p l e R s m args below meth c Q D A 27 ad 4 (z_zc ad ks s_edgeCount s_moveCount s_isNeeded s_timesDone s_size s_isGoing s_allTime s_stepCount s_gapCount g_edges g_moves g_limits a_sfacts a_sbounds a_facts a_zone a_most a_places a_amounts a_nextPlaces a_nextAmounts fa_earliest a_visited a_lastSet a_gapFrom a_gapTo a_gapLeast a_askedPlaces a_askedAmounts) Y 0 0 5 [(0, .ref (ad 19)), (1, z_v v), (2, z_v i2), (3, z_v ((41 : Nat) : Int))] [] := by
    intro n
    induction n with
    | zero => intro i2 fa_earliest Hfa_earliest FJ I2 hm; exact absurd hm (Nat.not_lt_zero _)
    | succ n ih5 =>
      intro i2 fa_earliest Hfa_earliest FJ I2 hm
      refine z_iloadn C 2 dJ7_fill_53178_5 rfl rfl ?_
      refine z_iloadn C 3 dJ7_fill_53178_6 rfl rfl ?_
      refine z_icmp_ge (t := 20) C dJ7_fill_53178_7 (by decide) (by omega) (by omega) (fun c1 => ?_) (fun c1 => ?_)
      · skip
        rw [hQ]
        exact z_vret C hrt dJ7_fill_53178_20 (⟨fa_earliest, rfl, rfl, Hfa_earliest, fun j hj => FJ j (by omega), rfl⟩) (by omega) (by omega)
      · skip
        refine z_aloadn C 0 dJ7_fill_53178_10 rfl rfl ?_
        refine z_iloadn C 2 dJ7_fill_53178_11 rfl rfl ?_
        refine z_iloadn C 1 dJ7_fill_53178_12 rfl rfl ?_
        refine z_iast C 19 (by decide) rfl (by decide) (by omega) (by omega) dJ7_fill_53178_13 ?_
        refine z_ext (S' := (z_zc ad ks s_edgeCount s_moveCount s_isNeeded s_timesDone s_size s_isGoing s_allTime s_stepCount s_gapCount g_edges g_moves g_limits a_sfacts a_sbounds a_facts a_zone a_most a_places a_amounts a_nextPlaces a_nextAmounts (va_up fa_earliest (i2 : Int).toNat v) a_visited a_lastSet a_gapFrom a_gapTo a_gapLeast a_askedPlaces a_askedAmounts)) upC_a_earliest ?_
        have h2 : ∀ j, z_rg ((va_up fa_earliest (i2 : Int).toNat v) j) := z_upP (P := fun j v => z_rg (v)) Hfa_earliest (by omega)
        refine z_iinc (L' := [(2, z_v (i2 + 1)), (0, .ref (ad 19)), (1, z_v v), (3, z_v ((41 : Nat) : Int))]) C 2 dJ7_fill_53178_14 rfl (by decide) rfl ?_
        refine z_goto (t := 5) C dJ7_fill_53178_17 (by decide) ?_
        refine z_loc (L' := [(0, .ref (ad 19)), (1, z_v v), (2, z_v (i2 + 1)), (3, z_v ((41 : Nat) : Int))]) [1, 2, 0, 3] rfl ?_
        exact ih5 (i2 + 1) (va_up fa_earliest (i2 : Int).toNat v) h2 (z_fill_add FJ (by omega)) (by omega) (by omega)
  refine z_loc (L' := [(0, .ref (ad 19)), (1, z_v v), (2, z_v 0), (3, z_v ((41 : Nat) : Int))]) [2, 3, 1, 0] rfl ?_
  exact (L5 (((41 : Int) - 0).toNat + 1)) 0 a_earliest Ha_earliest (fun j hj => absurd hj (by omega)) (by omega) (Nat.lt_succ_self _)
set_option maxRecDepth 20000 in
theorem cm_J7_fill_53178_21 (l : Launch) {D : va_G} {A : Nat → Prop} {ad : Nat → Nat} {ks : z_Ks} {s_edgeCount s_moveCount s_isNeeded s_timesDone s_size s_isGoing s_allTime s_stepCount s_gapCount : Int} {g_edges g_moves g_limits : Nat → Option Nat} {a_sfacts a_sbounds a_facts a_zone a_most a_places a_amounts a_nextPlaces a_nextAmounts a_earliest a_visited a_lastSet a_gapFrom a_gapTo a_gapLeast a_askedPlaces a_askedAmounts : Nat → Int} {Y : Nat → Option va_E} (v : Int) (Ha_lastSet : (∀ j, 0 ≤ a_lastSet j ∧ a_lastSet j ≤ 40)) (hv : v = 0) : z_Met l yJ7_fill_53178 cJ7_fill_53178 4 none 0 0 0 0 D A 27 ad ks [.ref (ad 21), z_v v] (z_zc ad ks s_edgeCount s_moveCount s_isNeeded s_timesDone s_size s_isGoing s_allTime s_stepCount s_gapCount g_edges g_moves g_limits a_sfacts a_sbounds a_facts a_zone a_most a_places a_amounts a_nextPlaces a_nextAmounts a_earliest a_visited a_lastSet a_gapFrom a_gapTo a_gapLeast a_askedPlaces a_askedAmounts) Y (fun r S' Y' => ∃ na_lastSet : Nat → Int, S' = (z_zc ad ks s_edgeCount s_moveCount s_isNeeded s_timesDone s_size s_isGoing s_allTime s_stepCount s_gapCount g_edges g_moves g_limits a_sfacts a_sbounds a_facts a_zone a_most a_places a_amounts a_nextPlaces a_nextAmounts a_earliest a_visited na_lastSet a_gapFrom a_gapTo a_gapLeast a_askedPlaces a_askedAmounts) ∧ Y = Y' ∧ (∀ j, 0 ≤ na_lastSet j ∧ na_lastSet j ≤ 40) ∧ (∀ j : Nat, j < 4 → na_lastSet j = v) ∧ r = none) := by
  refine z_start2 (by decide) (Nat.le_of_ble_eq_true rfl) ?_
  intro p e R s m args below meth c Q C hRf hRc hRs hRl hQ hrt hnm
  refine z_loc (L' := [(0, .ref (ad 21)), (1, z_v v)]) [0, 1] rfl ?_
  refine z_iconst C dJ7_fill_53178_0 ?_
  refine z_istoren (L' := [(2, z_v 0), (0, .ref (ad 21)), (1, z_v v)]) C dJ7_fill_53178_1 rfl (by decide) rfl ?_
  refine z_aloadn C 1 dJ7_fill_53178_2 rfl rfl ?_
  refine z_alen (n := 4) C 21 0 (by decide) rfl rfl rfl dJ7_fill_53178_3 ?_
  refine z_istoren (L' := [(3, z_v ((4 : Nat) : Int)), (2, z_v 0), (0, .ref (ad 21)), (1, z_v v)]) C dJ7_fill_53178_4 rfl (by decide) rfl ?_
  have L5 : ∀ (n : Nat), ∀ (i2 : Int) (fa_lastSet : Nat → Int), ((∀ j, 0 ≤ fa_lastSet j ∧ fa_lastSet j ≤ 40)) → (∀ j : Nat, (j : Int) < i2 → fa_lastSet j = v) → (0 ≤ i2 ∧ i2 ≤ 4) → ((4 : Int) - i2).toNat < n → z_V p l e R s m args below meth c Q D A 27 ad 4 (z_zc ad ks s_edgeCount s_moveCount s_isNeeded s_timesDone s_size s_isGoing s_allTime s_stepCount s_gapCount g_edges g_moves g_limits a_sfacts a_sbounds a_facts a_zone a_most a_places a_amounts a_nextPlaces a_nextAmounts a_earliest a_visited fa_lastSet a_gapFrom a_gapTo a_gapLeast a_askedPlaces a_askedAmounts) Y 0 0 5 [(0, .ref (ad 21)), (1, z_v v), (2, z_v i2), (3, z_v ((4 : Nat) : Int))] [] := by
    intro n
    induction n with
    | zero => intro i2 fa_lastSet Hfa_lastSet FJ I2 hm; exact absurd hm (Nat.not_lt_zero _)
    | succ n ih5 =>
      intro i2 fa_lastSet Hfa_lastSet FJ I2 hm
      refine z_iloadn C 2 dJ7_fill_53178_5 rfl rfl ?_
      refine z_iloadn C 3 dJ7_fill_53178_6 rfl rfl ?_
      refine z_icmp_ge (t := 20) C dJ7_fill_53178_7 (by decide) (by omega) (by omega) (fun c1 => ?_) (fun c1 => ?_)
      · skip
        rw [hQ]
        exact z_vret C hrt dJ7_fill_53178_20 (⟨fa_lastSet, rfl, rfl, Hfa_lastSet, fun j hj => FJ j (by omega), rfl⟩) (by omega) (by omega)
      · skip
        refine z_aloadn C 0 dJ7_fill_53178_10 rfl rfl ?_
        refine z_iloadn C 2 dJ7_fill_53178_11 rfl rfl ?_
        refine z_iloadn C 1 dJ7_fill_53178_12 rfl rfl ?_
        refine z_iast C 21 (by decide) rfl (by decide) (by omega) (by omega) dJ7_fill_53178_13 ?_
        refine z_ext (S' := (z_zc ad ks s_edgeCount s_moveCount s_isNeeded s_timesDone s_size s_isGoing s_allTime s_stepCount s_gapCount g_edges g_moves g_limits a_sfacts a_sbounds a_facts a_zone a_most a_places a_amounts a_nextPlaces a_nextAmounts a_earliest a_visited (va_up fa_lastSet (i2 : Int).toNat v) a_gapFrom a_gapTo a_gapLeast a_askedPlaces a_askedAmounts)) upC_a_lastSet ?_
        have h2 : ∀ j, 0 ≤ (va_up fa_lastSet (i2 : Int).toNat v) j ∧ (va_up fa_lastSet (i2 : Int).toNat v) j ≤ 40 := z_upP (P := fun j v => 0 ≤ v ∧ v ≤ 40) Hfa_lastSet (by omega)
        refine z_iinc (L' := [(2, z_v (i2 + 1)), (0, .ref (ad 21)), (1, z_v v), (3, z_v ((4 : Nat) : Int))]) C 2 dJ7_fill_53178_14 rfl (by decide) rfl ?_
        refine z_goto (t := 5) C dJ7_fill_53178_17 (by decide) ?_
        refine z_loc (L' := [(0, .ref (ad 21)), (1, z_v v), (2, z_v (i2 + 1)), (3, z_v ((4 : Nat) : Int))]) [1, 2, 0, 3] rfl ?_
        exact ih5 (i2 + 1) (va_up fa_lastSet (i2 : Int).toNat v) h2 (z_fill_add FJ (by omega)) (by omega) (by omega)
  refine z_loc (L' := [(0, .ref (ad 21)), (1, z_v v), (2, z_v 0), (3, z_v ((4 : Nat) : Int))]) [2, 3, 1, 0] rfl ?_
  exact (L5 (((4 : Int) - 0).toNat + 1)) 0 a_lastSet Ha_lastSet (fun j hj => absurd hj (by omega)) (by omega) (Nat.lt_succ_self _)
set_option maxRecDepth 20000 in
theorem cm_X1_sets (l : Launch) {D : va_G} {A : Nat → Prop} {ad : Nat → Nat} {ks : z_Ks} {N : Nat} {S : Nat → va_E} {Y : Nat → Option va_E} (x : Int) (q : Nat) (hq : z_Mv ks Y q) (hx : z_rg x) : z_Met l yX1_sets cX1_sets 2 (some .boolean) 0 0 0 0 D A N ad ks [.ref q, z_v x] S Y (fun r S' Y' => S' = S ∧ Y = Y' ∧ ∃ z : Int, r = some (z_v z) ∧ (z = 0 ∨ z = 1)) := by
  refine z_start2 (by decide) (Nat.le_of_ble_eq_true rfl) ?_
  intro p e R s m args below meth c Q C hRf hRc hRs hRl hQ hrt hnm
  refine z_loc (L' := [(0, .ref q), (1, z_v x)]) [0, 1] rfl ?_
  refine z_aloadn C 0 dX1_sets_0 rfl rfl ?_
  obtain ⟨fd1, sd1, pd1, od1, rd1, yd1, ad1, bd1, kd1⟩ := id hq
  rcases od1 with _ | od1
  · skip
    refine z_getY C yd1 rfl z_it1 4 (by decide) rfl fl_1_28 rfl dX1_sets_1 ?_
    refine z_iloadn C 1 dX1_sets_4 rfl rfl ?_
    obtain ⟨b2, hb2, rb2⟩ := z_bits (z_i rd1 >>> (z_i x &&& 31))
    refine z_ishr C hb2 dX1_sets_5 ?_
    have qb2 := z_bitsE hb2 rb2
    refine z_iconst C dX1_sets_6 ?_
    obtain ⟨b3, hb3, rb3⟩ := z_bits (z_i b2 &&& z_i 1)
    refine z_iand C hb3 dX1_sets_7 ?_
    have qb3 := z_bitsE hb3 rb3
    refine z_if_eq (t := 15) C dX1_sets_8 (by decide) (by omega) (fun c4 => ?_) (fun c4 => ?_)
    · skip
      refine z_iconst C dX1_sets_15 ?_
      rw [hQ]
      exact z_zret C hrt (by omega) dX1_sets_16 (⟨rfl, rfl, _, rfl, by omega⟩) (by omega) (by omega)
    · skip
      refine z_iconst C dX1_sets_11 ?_
      refine z_goto (t := 16) C dX1_sets_12 (by decide) ?_
      rw [hQ]
      exact z_zret C hrt (by omega) dX1_sets_16 (⟨rfl, rfl, _, rfl, by omega⟩) (by omega) (by omega)
  · skip
    refine z_getY C yd1 rfl z_it1 4 (by decide) rfl fl_1_28 rfl dX1_sets_1 ?_
    refine z_iloadn C 1 dX1_sets_4 rfl rfl ?_
    obtain ⟨b5, hb5, rb5⟩ := z_bits (z_i rd1 >>> (z_i x &&& 31))
    refine z_ishr C hb5 dX1_sets_5 ?_
    have qb5 := z_bitsE hb5 rb5
    refine z_iconst C dX1_sets_6 ?_
    obtain ⟨b6, hb6, rb6⟩ := z_bits (z_i b5 &&& z_i 1)
    refine z_iand C hb6 dX1_sets_7 ?_
    have qb6 := z_bitsE hb6 rb6
    refine z_if_eq (t := 15) C dX1_sets_8 (by decide) (by omega) (fun c7 => ?_) (fun c7 => ?_)
    · skip
      refine z_iconst C dX1_sets_15 ?_
      rw [hQ]
      exact z_zret C hrt (by omega) dX1_sets_16 (⟨rfl, rfl, _, rfl, by omega⟩) (by omega) (by omega)
    · skip
      refine z_iconst C dX1_sets_11 ?_
      refine z_goto (t := 16) C dX1_sets_12 (by decide) ?_
      rw [hQ]
      exact z_zret C hrt (by omega) dX1_sets_16 (⟨rfl, rfl, _, rfl, by omega⟩) (by omega) (by omega)
set_option maxRecDepth 20000 in
theorem cm_X2_isEdge (l : Launch) {D : va_G} {A : Nat → Prop} {ad : Nat → Nat} {ks : z_Ks} {s_edgeCount s_moveCount s_isNeeded s_timesDone s_size s_isGoing s_allTime s_stepCount s_gapCount : Int} {g_edges g_moves g_limits : Nat → Option Nat} {a_sfacts a_sbounds a_facts a_zone a_most a_places a_amounts a_nextPlaces a_nextAmounts a_earliest a_visited a_lastSet a_gapFrom a_gapTo a_gapLeast a_askedPlaces a_askedAmounts : Nat → Int} {Y : Nat → Option va_E} (v : Int) (Hs_edgeCount : (0 ≤ s_edgeCount ∧ s_edgeCount ≤ 20)) (hv : z_rg v) : z_Met l yX2_isEdge cX2_isEdge 2 (some .boolean) 0 0 0 0 D A 27 ad ks [.ref (ad 1), z_v v] (z_zc ad ks s_edgeCount s_moveCount s_isNeeded s_timesDone s_size s_isGoing s_allTime s_stepCount s_gapCount g_edges g_moves g_limits a_sfacts a_sbounds a_facts a_zone a_most a_places a_amounts a_nextPlaces a_nextAmounts a_earliest a_visited a_lastSet a_gapFrom a_gapTo a_gapLeast a_askedPlaces a_askedAmounts) Y (fun r S' Y' => S' = (z_zc ad ks s_edgeCount s_moveCount s_isNeeded s_timesDone s_size s_isGoing s_allTime s_stepCount s_gapCount g_edges g_moves g_limits a_sfacts a_sbounds a_facts a_zone a_most a_places a_amounts a_nextPlaces a_nextAmounts a_earliest a_visited a_lastSet a_gapFrom a_gapTo a_gapLeast a_askedPlaces a_askedAmounts) ∧ Y = Y' ∧ ∃ z : Int, r = some (z_v z) ∧ (z = 1 ∧ (0 ≤ v ∧ v < s_edgeCount) ∨ z = 0 ∧ ¬ (0 ≤ v ∧ v < s_edgeCount))) := by
  refine z_start2 (by decide) (Nat.le_of_ble_eq_true rfl) ?_
  intro p e R s m args below meth c Q C hRf hRc hRs hRl hQ hrt hnm
  refine z_loc (L' := [(0, .ref (ad 1)), (1, z_v v)]) [0, 1] rfl ?_
  refine z_iloadn C 1 dX2_isEdge_0 rfl rfl ?_
  refine z_if_lt (t := 16) C dX2_isEdge_1 (by decide) (by omega) (fun c1 => ?_) (fun c1 => ?_)
  · skip
    refine z_iconst C dX2_isEdge_16 ?_
    rw [hQ]
    exact z_zret C hrt (by omega) dX2_isEdge_17 (⟨rfl, rfl, _, rfl, by omega⟩) (by omega) (by omega)
  · skip
    refine z_iloadn C 1 dX2_isEdge_4 rfl rfl ?_
    refine z_aloadn C 0 dX2_isEdge_5 rfl rfl ?_
    refine z_get C 1 (by decide) rfl rfl z_it2 1 (by decide) rfl fl_2_30 rfl dX2_isEdge_6 ?_
    refine z_icmp_ge (t := 16) C dX2_isEdge_9 (by decide) (by omega) (by omega) (fun c2 => ?_) (fun c2 => ?_)
    · skip
      refine z_iconst C dX2_isEdge_16 ?_
      rw [hQ]
      exact z_zret C hrt (by omega) dX2_isEdge_17 (⟨rfl, rfl, _, rfl, by omega⟩) (by omega) (by omega)
    · skip
      refine z_iconst C dX2_isEdge_12 ?_
      refine z_goto (t := 17) C dX2_isEdge_13 (by decide) ?_
      rw [hQ]
      exact z_zret C hrt (by omega) dX2_isEdge_17 (⟨rfl, rfl, _, rfl, by omega⟩) (by omega) (by omega)
set_option maxRecDepth 20000 in
theorem cm_X2_limitsOf (l : Launch) {D : va_G} {A : Nat → Prop} {ad : Nat → Nat} {ks : z_Ks} {s_edgeCount s_moveCount s_isNeeded s_timesDone s_size s_isGoing s_allTime s_stepCount s_gapCount : Int} {g_edges g_moves g_limits : Nat → Option Nat} {a_sfacts a_sbounds a_facts a_zone a_most a_places a_amounts a_nextPlaces a_nextAmounts a_earliest a_visited a_lastSet a_gapFrom a_gapTo a_gapLeast a_askedPlaces a_askedAmounts : Nat → Int} {Y : Nat → Option va_E} (m0 p0 : Int) (hm : 0 ≤ m0 ∧ m0 ≤ 2) (hp : 0 ≤ p0 ∧ p0 ≤ 5) (HL : ∀ j : Nat, (j : Int) < 18 → ∃ q, g_limits j = some q ∧ z_TL ks Y q) : z_Met l yX2_limitsOf cX2_limitsOf 3 (some (.object "ClockZones$TestList")) 0 0 0 0 D A 27 ad ks [.ref (ad 1), z_v m0, z_v p0] (z_zc ad ks s_edgeCount s_moveCount s_isNeeded s_timesDone s_size s_isGoing s_allTime s_stepCount s_gapCount g_edges g_moves g_limits a_sfacts a_sbounds a_facts a_zone a_most a_places a_amounts a_nextPlaces a_nextAmounts a_earliest a_visited a_lastSet a_gapFrom a_gapTo a_gapLeast a_askedPlaces a_askedAmounts) Y (fun r S' Y' => S' = (z_zc ad ks s_edgeCount s_moveCount s_isNeeded s_timesDone s_size s_isGoing s_allTime s_stepCount s_gapCount g_edges g_moves g_limits a_sfacts a_sbounds a_facts a_zone a_most a_places a_amounts a_nextPlaces a_nextAmounts a_earliest a_visited a_lastSet a_gapFrom a_gapTo a_gapLeast a_askedPlaces a_askedAmounts) ∧ Y = Y' ∧ ∃ q : Nat, r = some (.ref q) ∧ z_TL ks Y q) := by
  refine z_start2 (by decide) (Nat.le_of_ble_eq_true rfl) ?_
  intro p e R s m args below meth c Q C hRf hRc hRs hRl hQ hrt hnm
  refine z_loc (L' := [(0, .ref (ad 1)), (1, z_v m0), (2, z_v p0)]) [0, 1, 2] rfl ?_
  refine z_aloadn C 0 dX2_limitsOf_0 rfl rfl ?_
  refine z_get C 1 (by decide) rfl rfl z_it2 4 (by decide) rfl fl_2_25 rfl dX2_limitsOf_1 ?_
  refine z_iloadn C 1 dX2_limitsOf_4 rfl rfl ?_
  refine z_bipush C dX2_limitsOf_5 (by decide) ?_
  refine z_imul C dX2_limitsOf_7 ?_
  refine z_iloadn C 2 dX2_limitsOf_8 rfl rfl ?_
  refine z_iadd C dX2_limitsOf_9 ?_
  obtain ⟨q1, eq1, hq1⟩ := HL (((m0 * 6) + p0) : Int).toNat (by omega)
  refine z_aaldS C 4 3 (by decide) rfl rfl (by decide) (by omega) (by omega) eq1 dX2_limitsOf_10 ?_
  rw [hQ]
  exact z_aret C hrt (Or.inr ⟨_, rfl⟩) dX2_limitsOf_11 (⟨rfl, rfl, _, rfl, hq1⟩) (by omega) (by omega)
set_option maxRecDepth 20000 in
theorem cm_X2_find (l : Launch) {D : va_G} {A : Nat → Prop} {ad : Nat → Nat} {ks : z_Ks} {s_edgeCount s_moveCount s_isNeeded s_timesDone s_size s_isGoing s_allTime s_stepCount s_gapCount : Int} {g_edges g_moves g_limits : Nat → Option Nat} {a_sfacts a_sbounds a_facts a_zone a_most a_places a_amounts a_nextPlaces a_nextAmounts a_earliest a_visited a_lastSet a_gapFrom a_gapTo a_gapLeast a_askedPlaces a_askedAmounts : Nat → Int} {Y : Nat → Option va_E} (f0 s0 : Int) (Hs_moveCount : (0 ≤ s_moveCount ∧ s_moveCount ≤ 400)) (hf : z_rg f0) (hs : z_rg s0) (HM : ∀ j : Nat, (j : Int) < s_moveCount → ∃ q, g_moves j = some q ∧ z_Mv ks Y q) : z_Met l yX2_find cX2_find 4 (some (.object "ClockZones$Move")) 0 0 0 0 D A 27 ad ks [.ref (ad 1), z_v f0, z_v s0] (z_zc ad ks s_edgeCount s_moveCount s_isNeeded s_timesDone s_size s_isGoing s_allTime s_stepCount s_gapCount g_edges g_moves g_limits a_sfacts a_sbounds a_facts a_zone a_most a_places a_amounts a_nextPlaces a_nextAmounts a_earliest a_visited a_lastSet a_gapFrom a_gapTo a_gapLeast a_askedPlaces a_askedAmounts) Y (fun r S' Y' => S' = (z_zc ad ks s_edgeCount s_moveCount s_isNeeded s_timesDone s_size s_isGoing s_allTime s_stepCount s_gapCount g_edges g_moves g_limits a_sfacts a_sbounds a_facts a_zone a_most a_places a_amounts a_nextPlaces a_nextAmounts a_earliest a_visited a_lastSet a_gapFrom a_gapTo a_gapLeast a_askedPlaces a_askedAmounts) ∧ Y = Y' ∧ (r = some .null ∨ ∃ q : Nat, r = some (.ref q) ∧ z_Mv ks Y q)) := by
  refine z_start2 (by decide) (Nat.le_of_ble_eq_true rfl) ?_
  intro p e R s m args below meth c Q C hRf hRc hRs hRl hQ hrt hnm
  refine z_loc (L' := [(0, .ref (ad 1)), (1, z_v f0), (2, z_v s0)]) [0, 1, 2] rfl ?_
  refine z_iconst C dX2_find_0 ?_
  refine z_istoren (L' := [(3, z_v 0), (0, .ref (ad 1)), (1, z_v f0), (2, z_v s0)]) C dX2_find_1 rfl (by decide) rfl ?_
  have L2 : ∀ (n : Nat), ∀ (i3 : Int), (0 ≤ i3 ∧ i3 ≤ 400) → ((400 : Int) - i3).toNat < n → z_V p l e R s m args below meth c Q D A 27 ad 4 (z_zc ad ks s_edgeCount s_moveCount s_isNeeded s_timesDone s_size s_isGoing s_allTime s_stepCount s_gapCount g_edges g_moves g_limits a_sfacts a_sbounds a_facts a_zone a_most a_places a_amounts a_nextPlaces a_nextAmounts a_earliest a_visited a_lastSet a_gapFrom a_gapTo a_gapLeast a_askedPlaces a_askedAmounts) Y 0 0 2 [(0, .ref (ad 1)), (1, z_v f0), (2, z_v s0), (3, z_v i3)] [] := by
    intro n
    induction n with
    | zero => intro i3 I3 hm; exact absurd hm (Nat.not_lt_zero _)
    | succ n ih2 =>
      intro i3 I3 hm
      refine z_iloadn C 3 dX2_find_2 rfl rfl ?_
      refine z_aloadn C 0 dX2_find_3 rfl rfl ?_
      refine z_get C 1 (by decide) rfl rfl z_it2 3 (by decide) rfl fl_2_48 rfl dX2_find_4 ?_
      refine z_icmp_ge (t := 49) C dX2_find_7 (by decide) (by omega) (by omega) (fun c1 => ?_) (fun c1 => ?_)
      · skip
        refine z_null C dX2_find_49 ?_
        rw [hQ]
        exact z_aret C hrt (Or.inl rfl) dX2_find_50 (⟨rfl, rfl, Or.inl rfl⟩) (by omega) (by omega)
      · skip
        refine z_aloadn C 0 dX2_find_10 rfl rfl ?_
        refine z_get C 1 (by decide) rfl rfl z_it2 2 (by decide) rfl fl_2_19 rfl dX2_find_11 ?_
        refine z_iloadn C 3 dX2_find_14 rfl rfl ?_
        obtain ⟨q2, eq2, hq2⟩ := HM (i3 : Int).toNat (by omega)
        refine z_aaldS C 3 2 (by decide) rfl rfl (by decide) (by omega) (by omega) eq2 dX2_find_15 ?_
        obtain ⟨fd3, sd3, pd3, od3, rd3, yd3, ad3, bd3, kd3⟩ := id hq2
        rcases od3 with _ | od3
        · skip
          refine z_getY C yd3 rfl z_it1 0 (by decide) rfl fl_2_55 rfl dX2_find_16 ?_
          refine z_iloadn C 1 dX2_find_19 rfl rfl ?_
          refine z_icmp_ne (t := 43) C dX2_find_20 (by decide) (by omega) (by omega) (fun c4 => ?_) (fun c4 => ?_)
          · skip
            refine z_iinc (L' := [(3, z_v (i3 + 1)), (0, .ref (ad 1)), (1, z_v f0), (2, z_v s0)]) C 3 dX2_find_43 rfl (by decide) rfl ?_
            refine z_goto (t := 2) C dX2_find_46 (by decide) ?_
            refine z_loc (L' := [(0, .ref (ad 1)), (1, z_v f0), (2, z_v s0), (3, z_v (i3 + 1))]) [1, 2, 3, 0] rfl ?_
            exact ih2 (i3 + 1) (by omega) (by omega)
          · skip
            refine z_aloadn C 0 dX2_find_23 rfl rfl ?_
            refine z_get C 1 (by decide) rfl rfl z_it2 2 (by decide) rfl fl_2_19 rfl dX2_find_24 ?_
            refine z_iloadn C 3 dX2_find_27 rfl rfl ?_
            obtain ⟨q5, eq5, hq5⟩ := HM (i3 : Int).toNat (by omega)
            refine z_aaldS C 3 2 (by decide) rfl rfl (by decide) (by omega) (by omega) eq5 dX2_find_28 ?_
            obtain ⟨fd6, sd6, pd6, od6, rd6, yd6, ad6, bd6, kd6⟩ := id hq5
            rcases od6 with _ | od6
            · skip
              refine z_getY C yd6 rfl z_it1 1 (by decide) rfl fl_2_58 rfl dX2_find_29 ?_
              refine z_iloadn C 2 dX2_find_32 rfl rfl ?_
              refine z_icmp_ne (t := 43) C dX2_find_33 (by decide) (by omega) (by omega) (fun c7 => ?_) (fun c7 => ?_)
              · skip
                refine z_iinc (L' := [(3, z_v (i3 + 1)), (0, .ref (ad 1)), (1, z_v f0), (2, z_v s0)]) C 3 dX2_find_43 rfl (by decide) rfl ?_
                refine z_goto (t := 2) C dX2_find_46 (by decide) ?_
                refine z_loc (L' := [(0, .ref (ad 1)), (1, z_v f0), (2, z_v s0), (3, z_v (i3 + 1))]) [1, 2, 3, 0] rfl ?_
                exact ih2 (i3 + 1) (by omega) (by omega)
              · skip
                refine z_aloadn C 0 dX2_find_36 rfl rfl ?_
                refine z_get C 1 (by decide) rfl rfl z_it2 2 (by decide) rfl fl_2_19 rfl dX2_find_37 ?_
                refine z_iloadn C 3 dX2_find_40 rfl rfl ?_
                obtain ⟨q8, eq8, hq8⟩ := HM (i3 : Int).toNat (by omega)
                refine z_aaldS C 3 2 (by decide) rfl rfl (by decide) (by omega) (by omega) eq8 dX2_find_41 ?_
                rw [hQ]
                exact z_aret C hrt (Or.inr ⟨_, rfl⟩) dX2_find_42 (⟨rfl, rfl, Or.inr ⟨_, rfl, hq8⟩⟩) (by omega) (by omega)
            · skip
              refine z_getY C yd6 rfl z_it1 1 (by decide) rfl fl_2_58 rfl dX2_find_29 ?_
              refine z_iloadn C 2 dX2_find_32 rfl rfl ?_
              refine z_icmp_ne (t := 43) C dX2_find_33 (by decide) (by omega) (by omega) (fun c9 => ?_) (fun c9 => ?_)
              · skip
                refine z_iinc (L' := [(3, z_v (i3 + 1)), (0, .ref (ad 1)), (1, z_v f0), (2, z_v s0)]) C 3 dX2_find_43 rfl (by decide) rfl ?_
                refine z_goto (t := 2) C dX2_find_46 (by decide) ?_
                refine z_loc (L' := [(0, .ref (ad 1)), (1, z_v f0), (2, z_v s0), (3, z_v (i3 + 1))]) [1, 2, 3, 0] rfl ?_
                exact ih2 (i3 + 1) (by omega) (by omega)
              · skip
                refine z_aloadn C 0 dX2_find_36 rfl rfl ?_
                refine z_get C 1 (by decide) rfl rfl z_it2 2 (by decide) rfl fl_2_19 rfl dX2_find_37 ?_
                refine z_iloadn C 3 dX2_find_40 rfl rfl ?_
                obtain ⟨q10, eq10, hq10⟩ := HM (i3 : Int).toNat (by omega)
                refine z_aaldS C 3 2 (by decide) rfl rfl (by decide) (by omega) (by omega) eq10 dX2_find_41 ?_
                rw [hQ]
                exact z_aret C hrt (Or.inr ⟨_, rfl⟩) dX2_find_42 (⟨rfl, rfl, Or.inr ⟨_, rfl, hq10⟩⟩) (by omega) (by omega)
        · skip
          refine z_getY C yd3 rfl z_it1 0 (by decide) rfl fl_2_55 rfl dX2_find_16 ?_
          refine z_iloadn C 1 dX2_find_19 rfl rfl ?_
          refine z_icmp_ne (t := 43) C dX2_find_20 (by decide) (by omega) (by omega) (fun c11 => ?_) (fun c11 => ?_)
          · skip
            refine z_iinc (L' := [(3, z_v (i3 + 1)), (0, .ref (ad 1)), (1, z_v f0), (2, z_v s0)]) C 3 dX2_find_43 rfl (by decide) rfl ?_
            refine z_goto (t := 2) C dX2_find_46 (by decide) ?_
            refine z_loc (L' := [(0, .ref (ad 1)), (1, z_v f0), (2, z_v s0), (3, z_v (i3 + 1))]) [1, 2, 3, 0] rfl ?_
            exact ih2 (i3 + 1) (by omega) (by omega)
          · skip
            refine z_aloadn C 0 dX2_find_23 rfl rfl ?_
            refine z_get C 1 (by decide) rfl rfl z_it2 2 (by decide) rfl fl_2_19 rfl dX2_find_24 ?_
            refine z_iloadn C 3 dX2_find_27 rfl rfl ?_
            obtain ⟨q12, eq12, hq12⟩ := HM (i3 : Int).toNat (by omega)
            refine z_aaldS C 3 2 (by decide) rfl rfl (by decide) (by omega) (by omega) eq12 dX2_find_28 ?_
            obtain ⟨fd13, sd13, pd13, od13, rd13, yd13, ad13, bd13, kd13⟩ := id hq12
            rcases od13 with _ | od13
            · skip
              refine z_getY C yd13 rfl z_it1 1 (by decide) rfl fl_2_58 rfl dX2_find_29 ?_
              refine z_iloadn C 2 dX2_find_32 rfl rfl ?_
              refine z_icmp_ne (t := 43) C dX2_find_33 (by decide) (by omega) (by omega) (fun c14 => ?_) (fun c14 => ?_)
              · skip
                refine z_iinc (L' := [(3, z_v (i3 + 1)), (0, .ref (ad 1)), (1, z_v f0), (2, z_v s0)]) C 3 dX2_find_43 rfl (by decide) rfl ?_
                refine z_goto (t := 2) C dX2_find_46 (by decide) ?_
                refine z_loc (L' := [(0, .ref (ad 1)), (1, z_v f0), (2, z_v s0), (3, z_v (i3 + 1))]) [1, 2, 3, 0] rfl ?_
                exact ih2 (i3 + 1) (by omega) (by omega)
              · skip
                refine z_aloadn C 0 dX2_find_36 rfl rfl ?_
                refine z_get C 1 (by decide) rfl rfl z_it2 2 (by decide) rfl fl_2_19 rfl dX2_find_37 ?_
                refine z_iloadn C 3 dX2_find_40 rfl rfl ?_
                obtain ⟨q15, eq15, hq15⟩ := HM (i3 : Int).toNat (by omega)
                refine z_aaldS C 3 2 (by decide) rfl rfl (by decide) (by omega) (by omega) eq15 dX2_find_41 ?_
                rw [hQ]
                exact z_aret C hrt (Or.inr ⟨_, rfl⟩) dX2_find_42 (⟨rfl, rfl, Or.inr ⟨_, rfl, hq15⟩⟩) (by omega) (by omega)
            · skip
              refine z_getY C yd13 rfl z_it1 1 (by decide) rfl fl_2_58 rfl dX2_find_29 ?_
              refine z_iloadn C 2 dX2_find_32 rfl rfl ?_
              refine z_icmp_ne (t := 43) C dX2_find_33 (by decide) (by omega) (by omega) (fun c16 => ?_) (fun c16 => ?_)
              · skip
                refine z_iinc (L' := [(3, z_v (i3 + 1)), (0, .ref (ad 1)), (1, z_v f0), (2, z_v s0)]) C 3 dX2_find_43 rfl (by decide) rfl ?_
                refine z_goto (t := 2) C dX2_find_46 (by decide) ?_
                refine z_loc (L' := [(0, .ref (ad 1)), (1, z_v f0), (2, z_v s0), (3, z_v (i3 + 1))]) [1, 2, 3, 0] rfl ?_
                exact ih2 (i3 + 1) (by omega) (by omega)
              · skip
                refine z_aloadn C 0 dX2_find_36 rfl rfl ?_
                refine z_get C 1 (by decide) rfl rfl z_it2 2 (by decide) rfl fl_2_19 rfl dX2_find_37 ?_
                refine z_iloadn C 3 dX2_find_40 rfl rfl ?_
                obtain ⟨q17, eq17, hq17⟩ := HM (i3 : Int).toNat (by omega)
                refine z_aaldS C 3 2 (by decide) rfl rfl (by decide) (by omega) (by omega) eq17 dX2_find_41 ?_
                rw [hQ]
                exact z_aret C hrt (Or.inr ⟨_, rfl⟩) dX2_find_42 (⟨rfl, rfl, Or.inr ⟨_, rfl, hq17⟩⟩) (by omega) (by omega)
  refine z_loc (L' := [(0, .ref (ad 1)), (1, z_v f0), (2, z_v s0), (3, z_v 0)]) [1, 2, 3, 0] rfl ?_
  exact (L2 (((400 : Int) - 0).toNat + 1)) 0 (by omega) (Nat.lt_succ_self _)