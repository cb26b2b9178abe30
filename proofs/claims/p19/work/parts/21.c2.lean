theorem z_fill_add {f : Nat → Int} {i v : Int} (h : ∀ j : Nat, (j : Int) < i → f j = v) (h0 : 0 ≤ i) : ∀ j : Nat, (j : Int) < i + 1 → va_up f i.toNat v j = v := by
  intro j hj
  by_cases he : j = i.toNat
  · subst he
    simp [va_up]
  · simp only [va_up, if_neg he]
    exact h j (by omega)
theorem z_p7c {f g : Nat → Int} {a b n : Nat} (hf : ∀ j, (j % 7 < 3 → 0 ≤ f j ∧ f j ≤ 5) ∧ (j % 7 = 3 → -1 ≤ f j ∧ f j ≤ 119) ∧ (j % 7 = 6 → 0 ≤ f j ∧ f j ≤ 40) ∧ z_rg (f j)) (hg : ∀ j, (j % 7 < 3 → 0 ≤ g j ∧ g j ≤ 5) ∧ (j % 7 = 3 → -1 ≤ g j ∧ g j ≤ 119) ∧ (j % 7 = 6 → 0 ≤ g j ∧ g j ≤ 40) ∧ z_rg (g j)) (ha : a % 7 = b % 7) : ∀ j, (j % 7 < 3 → 0 ≤ va_cpy f g a b n j ∧ va_cpy f g a b n j ≤ 5) ∧ (j % 7 = 3 → -1 ≤ va_cpy f g a b n j ∧ va_cpy f g a b n j ≤ 119) ∧ (j % 7 = 6 → 0 ≤ va_cpy f g a b n j ∧ va_cpy f g a b n j ≤ 40) ∧ z_rg (va_cpy f g a b n j) := by
  intro j
  unfold va_cpy
  split
  · have h := hf (a + (j - b))
    have e : (a + (j - b)) % 7 = j % 7 := by omega
    rw [e] at h
    exact h
  · exact hg j
set_option maxRecDepth 20000 in
theorem cm_J7_fill_53178_9 (l : Launch) {D : va_G} {A : Nat → Prop} {ad : Nat → Nat} {ks : z_Ks} {s_edgeCount s_moveCount s_isNeeded s_timesDone s_size s_isGoing s_allTime s_stepCount s_gapCount : Int} {g_edges g_moves g_limits : Nat → Option Nat} {a_sfacts a_sbounds a_facts a_zone a_most a_places a_amounts a_nextPlaces a_nextAmounts a_earliest a_visited a_lastSet a_gapFrom a_gapTo a_gapLeast a_askedPlaces a_askedAmounts : Nat → Int} {Y : Nat → Option va_E} (v : Int) (Ha_facts : (∀ j, (j % 7 < 3 → 0 ≤ a_facts j ∧ a_facts j ≤ 5) ∧ (j % 7 = 3 → -1 ≤ a_facts j ∧ a_facts j ≤ 119) ∧ (j % 7 = 6 → 0 ≤ a_facts j ∧ a_facts j ≤ 40) ∧ z_rg (a_facts j))) (hv : v = 0) : z_Met l yJ7_fill_53178 cJ7_fill_53178 4 none 0 0 0 0 D A 27 ad ks [.ref (ad 9), z_v v] (z_zc ad ks s_edgeCount s_moveCount s_isNeeded s_timesDone s_size s_isGoing s_allTime s_stepCount s_gapCount g_edges g_moves g_limits a_sfacts a_sbounds a_facts a_zone a_most a_places a_amounts a_nextPlaces a_nextAmounts a_earliest a_visited a_lastSet a_gapFrom a_gapTo a_gapLeast a_askedPlaces a_askedAmounts) Y (fun r S' Y' => ∃ na_facts : Nat → Int, S' = (z_zc ad ks s_edgeCount s_moveCount s_isNeeded s_timesDone s_size s_isGoing s_allTime s_stepCount s_gapCount g_edges g_moves g_limits a_sfacts a_sbounds na_facts a_zone a_most a_places a_amounts a_nextPlaces a_nextAmounts a_earliest a_visited a_lastSet a_gapFrom a_gapTo a_gapLeast a_askedPlaces a_askedAmounts) ∧ Y = Y' ∧ (∀ j, (j % 7 < 3 → 0 ≤ na_facts j ∧ na_facts j ≤ 5) ∧ (j % 7 = 3 → -1 ≤ na_facts j ∧ na_facts j ≤ 119) ∧ (j % 7 = 6 → 0 ≤ na_facts j ∧ na_facts j ≤ 40) ∧ z_rg (na_facts j)) ∧ (∀ j : Nat, j < 7 → na_facts j = v) ∧ r = none) := by
  refine z_start2 (by decide) (Nat.le_of_ble_eq_true rfl) ?_
  intro p e R s m args below meth c Q C hRf hRc hRs hRl hQ hrt hnm
  refine z_loc (L' := [(0, .ref (ad 9)), (1, z_v v)]) [0, 1] rfl ?_
  refine z_iconst C dJ7_fill_53178_0 ?_
  refine z_istoren (L' := [(2, z_v 0), (0, .ref (ad 9)), (1, z_v v)]) C dJ7_fill_53178_1 rfl (by decide) rfl ?_
  refine z_aloadn C 1 dJ7_fill_53178_2 rfl rfl ?_
  refine z_alen (n := 7) C 9 0 (by decide) rfl rfl rfl dJ7_fill_53178_3 ?_
  refine z_istoren (L' := [(3, z_v ((7 : Nat) : Int)), (2, z_v 0), (0, .ref (ad 9)), (1, z_v v)]) C dJ7_fill_53178_4 rfl (by decide) rfl ?_
  have L5 : ∀ (n : Nat), ∀ (i2 : Int) (fa_facts : Nat → Int), ((∀ j, (j % 7 < 3 → 0 ≤ fa_facts j ∧ fa_facts j ≤ 5) ∧ (j % 7 = 3 → -1 ≤ fa_facts j ∧ fa_facts j ≤ 119) ∧ (j % 7 = 6 → 0 ≤ fa_facts j ∧ fa_facts j ≤ 40) ∧ z_rg (fa_facts j))) → (∀ j : Nat, (j : Int) < i2 → fa_facts j = v) → (0 ≤ i2 ∧ i2 ≤ 7) → ((7 : Int) - i2).toNat < n → z_V p l e R s m args below meth c Q D A 27 ad 4 (z_zc ad ks s_edgeCount s_moveCount s_isNeeded s_timesDone s_size s_isGoing s_allTime s_stepCount s_gapCount g_edges g_moves g_limits a_sfacts a_sbounds fa_facts a_zone a_most a_places a_amounts a_nextPlaces a_nextAmounts a_earliest a_visited a_lastSet a_gapFrom a_gapTo a_gapLeast a_askedPlaces a_askedAmounts) Y 0 0 5 [(0, .ref (ad 9)), (1, z_v v), (2, z_v i2), (3, z_v ((7 : Nat) : Int))] [] := by
    intro n
    induction n with
    | zero => intro i2 fa_facts Hfa_facts FJ I2 hm; exact absurd hm (Nat.not_lt_zero _)
    | succ n ih5 =>
      intro i2 fa_facts Hfa_facts FJ I2 hm
      refine z_iloadn C 2 dJ7_fill_53178_5 rfl rfl ?_
      refine z_iloadn C 3 dJ7_fill_53178_6 rfl rfl ?_
      refine z_icmp_ge (t := 20) C dJ7_fill_53178_7 (by decide) (by omega) (by omega) (fun c1 => ?_) (fun c1 => ?_)
      · skip
        rw [hQ]
        exact z_vret C hrt dJ7_fill_53178_20 (⟨fa_facts, rfl, rfl, Hfa_facts, fun j hj => FJ j (by omega), rfl⟩) (by omega) (by omega)
      · skip
        refine z_aloadn C 0 dJ7_fill_53178_10 rfl rfl ?_
        refine z_iloadn C 2 dJ7_fill_53178_11 rfl rfl ?_
        refine z_iloadn C 1 dJ7_fill_53178_12 rfl rfl ?_
        refine z_iast C 9 (by decide) rfl (by decide) (by omega) (by omega) dJ7_fill_53178_13 ?_
        refine z_ext (S' := (z_zc ad ks s_edgeCount s_moveCount s_isNeeded s_timesDone s_size s_isGoing s_allTime s_stepCount s_gapCount g_edges g_moves g_limits a_sfacts a_sbounds (va_up fa_facts (i2 : Int).toNat v) a_zone a_most a_places a_amounts a_nextPlaces a_nextAmounts a_earliest a_visited a_lastSet a_gapFrom a_gapTo a_gapLeast a_askedPlaces a_askedAmounts)) upC_a_facts ?_
        have h2 : ∀ j, (j % 7 < 3 → 0 ≤ (va_up fa_facts (i2 : Int).toNat v) j ∧ (va_up fa_facts (i2 : Int).toNat v) j ≤ 5) ∧ (j % 7 = 3 → -1 ≤ (va_up fa_facts (i2 : Int).toNat v) j ∧ (va_up fa_facts (i2 : Int).toNat v) j ≤ 119) ∧ (j % 7 = 6 → 0 ≤ (va_up fa_facts (i2 : Int).toNat v) j ∧ (va_up fa_facts (i2 : Int).toNat v) j ≤ 40) ∧ z_rg ((va_up fa_facts (i2 : Int).toNat v) j) := z_upP (P := fun j v => (j % 7 < 3 → 0 ≤ v ∧ v ≤ 5) ∧ (j % 7 = 3 → -1 ≤ v ∧ v ≤ 119) ∧ (j % 7 = 6 → 0 ≤ v ∧ v ≤ 40) ∧ z_rg (v)) Hfa_facts (by omega)
        refine z_iinc (L' := [(2, z_v (i2 + 1)), (0, .ref (ad 9)), (1, z_v v), (3, z_v ((7 : Nat) : Int))]) C 2 dJ7_fill_53178_14 rfl (by decide) rfl ?_
        refine z_goto (t := 5) C dJ7_fill_53178_17 (by decide) ?_
        refine z_loc (L' := [(0, .ref (ad 9)), (1, z_v v), (2, z_v (i2 + 1)), (3, z_v ((7 : Nat) : Int))]) [1, 2, 0, 3] rfl ?_
        exact ih5 (i2 + 1) (va_up fa_facts (i2 : Int).toNat v) h2 (z_fill_add FJ (by omega)) (by omega) (by omega)
  refine z_loc (L' := [(0, .ref (ad 9)), (1, z_v v), (2, z_v 0), (3, z_v ((7 : Nat) : Int))]) [2, 3, 1, 0] rfl ?_
  exact (L5 (((7 : Int) - 0).toNat + 1)) 0 a_facts Ha_facts (fun j hj => absurd hj (by omega)) (by omega) (Nat.lt_succ_self _)
set_option maxRecDepth 20000 in
theorem cm_J7_fill_53178_11 (l : Launch) {D : va_G} {A : Nat → Prop} {ad : Nat → Nat} {ks : z_Ks} {s_edgeCount s_moveCount s_isNeeded s_timesDone s_size s_isGoing s_allTime s_stepCount s_gapCount : Int} {g_edges g_moves g_limits : Nat → Option Nat} {a_sfacts a_sbounds a_facts a_zone a_most a_places a_amounts a_nextPlaces a_nextAmounts a_earliest a_visited a_lastSet a_gapFrom a_gapTo a_gapLeast a_askedPlaces a_askedAmounts : Nat → Int} {Y : Nat → Option va_E} (v : Int) (Ha_zone : (∀ j, z_rg (a_zone j))) (hv : z_rg v) : z_Met l yJ7_fill_53178 cJ7_fill_53178 4 none 0 0 0 0 D A 27 ad ks [.ref (ad 11), z_v v] (z_zc ad ks s_edgeCount s_moveCount s_isNeeded s_timesDone s_size s_isGoing s_allTime s_stepCount s_gapCount g_edges g_moves g_limits a_sfacts a_sbounds a_facts a_zone a_most a_places a_amounts a_nextPlaces a_nextAmounts a_earliest a_visited a_lastSet a_gapFrom a_gapTo a_gapLeast a_askedPlaces a_askedAmounts) Y (fun r S' Y' => ∃ na_zone : Nat → Int, S' = (z_zc ad ks s_edgeCount s_moveCount s_isNeeded s_timesDone s_size s_isGoing s_allTime s_stepCount s_gapCount g_edges g_moves g_limits a_sfacts a_sbounds a_facts na_zone a_most a_places a_amounts a_nextPlaces a_nextAmounts a_earliest a_visited a_lastSet a_gapFrom a_gapTo a_gapLeast a_askedPlaces a_askedAmounts) ∧ Y = Y' ∧ (∀ j, z_rg (na_zone j)) ∧ (∀ j : Nat, j < 16 → na_zone j = v) ∧ r = none) := by
  refine z_start2 (by decide) (Nat.le_of_ble_eq_true rfl) ?_
  intro p e R s m args below meth c Q C hRf hRc hRs hRl hQ hrt hnm
  refine z_loc (L' := [(0, .ref (ad 11)), (1, z_v v)]) [0, 1] rfl ?_
  refine z_iconst C dJ7_fill_53178_0 ?_
  refine z_istoren (L' := [(2, z_v 0), (0, .ref (ad 11)), (1, z_v v)]) C dJ7_fill_53178_1 rfl (by decide) rfl ?_
  refine z_aloadn C 1 dJ7_fill_53178_2 rfl rfl ?_
  refine z_alen (n := 16) C 11 0 (by decide) rfl rfl rfl dJ7_fill_53178_3 ?_
  refine z_istoren (L' := [(3, z_v ((16 : Nat) : Int)), (2, z_v 0), (0, .ref (ad 11)), (1, z_v v)]) C dJ7_fill_53178_4 rfl (by decide) rfl ?_
  have L5 : ∀ (n : Nat), ∀ (i2 : Int) (fa_zone : Nat → Int), ((∀ j, z_rg (fa_zone j))) → (∀ j : Nat, (j : Int) < i2 → fa_zone j = v) → (0 ≤ i2 ∧ i2 ≤ 16) → ((16 : Int) - i2).toNat < n → z_V p l e R s m args below meth c Q D A 27 ad 4 (z_zc ad ks s_edgeCount s_moveCount s_isNeeded s_timesDone s_size s_isGoing s_allTime s_stepCount s_gapCount g_edges g_moves g_limits a_sfacts a_sbounds a_facts fa_zone a_most a_places a_amounts a_nextPlaces a_nextAmounts a_earliest a_visited a_lastSet a_gapFrom a_gapTo a_gapLeast a_askedPlaces a_askedAmounts) Y 0 0 5 [(0, .ref (ad 11)), (1, z_v v), (2, z_v i2), (3, z_v ((16 : Nat) : Int))] [] := by
    intro n
    induction n with
    | zero => intro i2 fa_zone Hfa_zone FJ I2 hm; exact absurd hm (Nat.not_lt_zero _)
    | succ n ih5 =>
      intro i2 fa_zone Hfa_zone FJ I2 hm
      refine z_iloadn C 2 dJ7_fill_53178_5 rfl rfl ?_
      refine z_iloadn C 3 dJ7_fill_53178_6 rfl rfl ?_
      refine z_icmp_ge (t := 20) C dJ7_fill_53178_7 (by decide) (by omega) (by omega) (fun c1 => ?_) (fun c1 => ?_)
      · skip
        rw [hQ]
        exact z_vret C hrt dJ7_fill_53178_20 (⟨fa_zone, rfl, rfl, Hfa_zone, fun j hj => FJ j (by omega), rfl⟩) (by omega) (by omega)
      · skip
        refine z_aloadn C 0 dJ7_fill_53178_10 rfl rfl ?_
        refine z_iloadn C 2 dJ7_fill_53178_11 rfl rfl ?_
        refine z_iloadn C 1 dJ7_fill_53178_12 rfl rfl ?_
        refine z_iast C 11 (by decide) rfl (by decide) (by omega) (by omega) dJ7_fill_53178_13 ?_
        refine z_ext (S' := (z_zc ad ks s_edgeCount s_moveCount s_isNeeded s_timesDone s_size s_isGoing s_allTime s_stepCount s_gapCount g_edges g_moves g_limits a_sfacts a_sbounds a_facts (va_up fa_zone (i2 : Int).toNat v) a_most a_places a_amounts a_nextPlaces a_nextAmounts a_earliest a_visited a_lastSet a_gapFrom a_gapTo a_gapLeast a_askedPlaces a_askedAmounts)) upC_a_zone ?_
        have h2 : ∀ j, z_rg ((va_up fa_zone (i2 : Int).toNat v) j) := z_upP (P := fun j v => z_rg (v)) Hfa_zone (by omega)
        refine z_iinc (L' := [(2, z_v (i2 + 1)), (0, .ref (ad 11)), (1, z_v v), (3, z_v ((16 : Nat) : Int))]) C 2 dJ7_fill_53178_14 rfl (by decide) rfl ?_
        refine z_goto (t := 5) C dJ7_fill_53178_17 (by decide) ?_
        refine z_loc (L' := [(0, .ref (ad 11)), (1, z_v v), (2, z_v (i2 + 1)), (3, z_v ((16 : Nat) : Int))]) [1, 2, 0, 3] rfl ?_
        exact ih5 (i2 + 1) (va_up fa_zone (i2 : Int).toNat v) h2 (z_fill_add FJ (by omega)) (by omega) (by omega)
  refine z_loc (L' := [(0, .ref (ad 11)), (1, z_v v), (2, z_v 0), (3, z_v ((16 : Nat) : Int))]) [2, 3, 1, 0] rfl ?_
  exact (L5 (((16 : Int) - 0).toNat + 1)) 0 a_zone Ha_zone (fun j hj => absurd hj (by omega)) (by omega) (Nat.lt_succ_self _)
set_option maxRecDepth 20000 in
theorem cm_J7_fill_53178_14 (l : Launch) {D : va_G} {A : Nat → Prop} {ad : Nat → Nat} {ks : z_Ks} {s_edgeCount s_moveCount s_isNeeded s_timesDone s_size s_isGoing s_allTime s_stepCount s_gapCount : Int} {g_edges g_moves g_limits : Nat → Option Nat} {a_sfacts a_sbounds a_facts a_zone a_most a_places a_amounts a_nextPlaces a_nextAmounts a_earliest a_visited a_lastSet a_gapFrom a_gapTo a_gapLeast a_askedPlaces a_askedAmounts : Nat → Int} {Y : Nat → Option va_E} (v : Int) (Ha_places : (∀ j, 0 ≤ a_places j ∧ a_places j ≤ 5)) (hv : v = 0) : z_Met l yJ7_fill_53178 cJ7_fill_53178 4 none 0 0 0 0 D A 27 ad ks [.ref (ad 14), z_v v] (z_zc ad ks s_edgeCount s_moveCount s_isNeeded s_timesDone s_size s_isGoing s_allTime s_stepCount s_gapCount g_edges g_moves g_limits a_sfacts a_sbounds a_facts a_zone a_most a_places a_amounts a_nextPlaces a_nextAmounts a_earliest a_visited a_lastSet a_gapFrom a_gapTo a_gapLeast a_askedPlaces a_askedAmounts) Y (fun r S' Y' => ∃ na_places : Nat → Int, S' = (z_zc ad ks s_edgeCount s_moveCount s_isNeeded s_timesDone s_size s_isGoing s_allTime s_stepCount s_gapCount g_edges g_moves g_limits a_sfacts a_sbounds a_facts a_zone a_most na_places a_amounts a_nextPlaces a_nextAmounts a_earliest a_visited a_lastSet a_gapFrom a_gapTo a_gapLeast a_askedPlaces a_askedAmounts) ∧ Y = Y' ∧ (∀ j, 0 ≤ na_places j ∧ na_places j ≤ 5) ∧ (∀ j : Nat, j < 3 → na_places j = v) ∧ r = none) := by
  refine z_start2 (by decide) (Nat.le_of_ble_eq_true rfl) ?_
  intro p e R s m args below meth c Q C hRf hRc hRs hRl hQ hrt hnm
  refine z_loc (L' := [(0, .ref (ad 14)), (1, z_v v)]) [0, 1] rfl ?_
  refine z_iconst C dJ7_fill_53178_0 ?_
  refine z_istoren (L' := [(2, z_v 0), (0, .ref (ad 14)), (1, z_v v)]) C dJ7_fill_53178_1 rfl (by decide) rfl ?_
  refine z_aloadn C 1 dJ7_fill_53178_2 rfl rfl ?_
  refine z_alen (n := 3) C 14 0 (by decide) rfl rfl rfl dJ7_fill_53178_3 ?_
  refine z_istoren (L' := [(3, z_v ((3 : Nat) : Int)), (2, z_v 0), (0, .ref (ad 14)), (1, z_v v)]) C dJ7_fill_53178_4 rfl (by decide) rfl ?_
  have L5 : ∀ (n : Nat), ∀ (i2 : Int) (fa_places : Nat → Int), ((∀ j, 0 ≤ fa_places j ∧ fa_places j ≤ 5)) → (∀ j : Nat, (j : Int) < i2 → fa_places j = v) → (0 ≤ i2 ∧ i2 ≤ 3) → ((3 : Int) - i2).toNat < n → z_V p l e R s m args below meth c Q D A 27 ad 4 (z_zc ad ks s_edgeCount s_moveCount s_isNeeded s_timesDone s_size s_isGoing s_allTime s_stepCount s_gapCount g_edges g_moves g_limits a_sfacts a_sbounds a_facts a_zone a_most fa_places a_amounts a_nextPlaces a_nextAmounts a_earliest a_visited a_lastSet a_gapFrom a_gapTo a_gapLeast a_askedPlaces a_askedAmounts) Y 0 0 5 [(0, .ref (ad 14)), (1, z_v v), (2, z_v i2), (3, z_v ((3 : Nat) : Int))] [] := by
    intro n
    induction n with
    | zero => intro i2 fa_places Hfa_places FJ I2 hm; exact absurd hm (Nat.not_lt_zero _)
    | succ n ih5 =>
      intro i2 fa_places Hfa_places FJ I2 hm
      refine z_iloadn C 2 dJ7_fill_53178_5 rfl rfl ?_
      refine z_iloadn C 3 dJ7_fill_53178_6 rfl rfl ?_
      refine z_icmp_ge (t := 20) C dJ7_fill_53178_7 (by decide) (by omega) (by omega) (fun c1 => ?_) (fun c1 => ?_)
      · skip
        rw [hQ]
        exact z_vret C hrt dJ7_fill_53178_20 (⟨fa_places, rfl, rfl, Hfa_places, fun j hj => FJ j (by omega), rfl⟩) (by omega) (by omega)
      · skip
        refine z_aloadn C 0 dJ7_fill_53178_10 rfl rfl ?_
        refine z_iloadn C 2 dJ7_fill_53178_11 rfl rfl ?_
        refine z_iloadn C 1 dJ7_fill_53178_12 rfl rfl ?_
        refine z_iast C 14 (by decide) rfl (by decide) (by omega) (by omega) dJ7_fill_53178_13 ?_
        refine z_ext (S' := (z_zc ad ks s_edgeCount s_moveCount s_isNeeded s_timesDone s_size s_isGoing s_allTime s_stepCount s_gapCount g_edges g_moves g_limits a_sfacts a_sbounds a_facts a_zone a_most (va_up fa_places (i2 : Int).toNat v) a_amounts a_nextPlaces a_nextAmounts a_earliest a_visited a_lastSet a_gapFrom a_gapTo a_gapLeast a_askedPlaces a_askedAmounts)) upC_a_places ?_
        have h2 : ∀ j, 0 ≤ (va_up fa_places (i2 : Int).toNat v) j ∧ (va_up fa_places (i2 : Int).toNat v) j ≤ 5 := z_upP (P := fun j v => 0 ≤ v ∧ v ≤ 5) Hfa_places (by omega)
        refine z_iinc (L' := [(2, z_v (i2 + 1)), (0, .ref (ad 14)), (1, z_v v), (3, z_v ((3 : Nat) : Int))]) C 2 dJ7_fill_53178_14 rfl (by decide) rfl ?_
        refine z_goto (t := 5) C dJ7_fill_53178_17 (by decide) ?_
        refine z_loc (L' := [(0, .ref (ad 14)), (1, z_v v), (2, z_v (i2 + 1)), (3, z_v ((3 : Nat) : Int))]) [1, 2, 0, 3] rfl ?_
        exact ih5 (i2 + 1) (va_up fa_places (i2 : Int).toNat v) h2 (z_fill_add FJ (by omega)) (by omega) (by omega)
  refine z_loc (L' := [(0, .ref (ad 14)), (1, z_v v), (2, z_v 0), (3, z_v ((3 : Nat) : Int))]) [2, 3, 1, 0] rfl ?_
  exact (L5 (((3 : Int) - 0).toNat + 1)) 0 a_places Ha_places (fun j hj => absurd hj (by omega)) (by omega) (Nat.lt_succ_self _)
set_option maxRecDepth 20000 in
theorem cm_J7_fill_53178_15 (l : Launch) {D : va_G} {A : Nat → Prop} {ad : Nat → Nat} {ks : z_Ks} {s_edgeCount s_moveCount s_isNeeded s_timesDone s_size s_isGoing s_allTime s_stepCount s_gapCount : Int} {g_edges g_moves g_limits : Nat → Option Nat} {a_sfacts a_sbounds a_facts a_zone a_most a_places a_amounts a_nextPlaces a_nextAmounts a_earliest a_visited a_lastSet a_gapFrom a_gapTo a_gapLeast a_askedPlaces a_askedAmounts : Nat → Int} {Y : Nat → Option va_E} (v : Int) (Ha_amounts : (∀ j, 0 ≤ a_amounts j ∧ a_amounts j ≤ 1000000)) (hv : v = 0) : z_Met l yJ7_fill_53178 cJ7_fill_53178 4 none 0 0 0 0 D A 27 ad ks [.ref (ad 15), z_v v] (z_zc ad ks s_edgeCount s_moveCount s_isNeeded s_timesDone s_size s_isGoing s_allTime s_stepCount s_gapCount g_edges g_moves g_limits a_sfacts a_sbounds a_facts a_zone a_most a_places a_amounts a_nextPlaces a_nextAmounts a_earliest a_visited a_lastSet a_gapFrom a_gapTo a_gapLeast a_askedPlaces a_askedAmounts) Y (fun r S' Y' => ∃ na_amounts : Nat → Int, S' = (z_zc ad ks s_edgeCount s_moveCount s_isNeeded s_timesDone s_size s_isGoing s_allTime s_stepCount s_gapCount g_edges g_moves g_limits a_sfacts a_sbounds a_facts a_zone a_most a_places na_amounts a_nextPlaces a_nextAmounts a_earliest a_visited a_lastSet a_gapFrom a_gapTo a_gapLeast a_askedPlaces a_askedAmounts) ∧ Y = Y' ∧ (∀ j, 0 ≤ na_amounts j ∧ na_amounts j ≤ 1000000) ∧ (∀ j : Nat, j < 4 → na_amounts j = v) ∧ r = none) := by
  refine z_start2 (by decide) (Nat.le_of_ble_eq_true rfl) ?_
  intro p e R s m args below meth c Q C hRf hRc hRs hRl hQ hrt hnm
  refine z_loc (L' := [(0, .ref (ad 15)), (1, z_v v)]) [0, 1] rfl ?_
  refine z_iconst C dJ7_fill_53178_0 ?_
  refine z_istoren (L' := [(2, z_v 0), (0, .ref (ad 15)), (1, z_v v)]) C dJ7_fill_53178_1 rfl (by decide) rfl ?_
  refine z_aloadn C 1 dJ7_fill_53178_2 rfl rfl ?_
  refine z_alen (n := 4) C 15 0 (by decide) rfl rfl rfl dJ7_fill_53178_3 ?_
  refine z_istoren (L' := [(3, z_v ((4 : Nat) : Int)), (2, z_v 0), (0, .ref (ad 15)), (1, z_v v)]) C dJ7_fill_53178_4 rfl (by decide) rfl ?_
  have L5 : ∀ (n : Nat), ∀ (i2 : Int) (fa_amounts : Nat → Int), ((∀ j, 0 ≤ fa_amounts j ∧ fa_amounts j ≤ 1000000)) → (∀ j : Nat, (j : Int) < i2 → fa_amounts j = v) → (0 ≤ i2 ∧ i2 ≤ 4) → ((4 : Int) - i2).toNat < n → z_V p l e R s m args below meth c Q D A 27 ad 4 (z_zc ad ks s_edgeCount s_moveCount s_isNeeded s_timesDone s_size s_isGoing s_allTime s_stepCount s_gapCount g_edges g_moves g_limits a_sfacts a_sbounds a_facts a_zone a_most a_places fa_amounts a_nextPlaces a_nextAmounts a_earliest a_visited a_lastSet a_gapFrom a_gapTo a_gapLeast a_askedPlaces a_askedAmounts) Y 0 0 5 [(0, .ref (ad 15)), (1, z_v v), (2, z_v i2), (3, z_v ((4 : Nat) : Int))] [] := by
    intro n
    induction n with
    | zero => intro i2 fa_amounts Hfa_amounts FJ I2 hm; exact absurd hm (Nat.not_lt_zero _)
    | succ n ih5 =>
      intro i2 fa_amounts Hfa_amounts FJ I2 hm
      refine z_iloadn C 2 dJ7_fill_53178_5 rfl rfl ?_
      refine z_iloadn C 3 dJ7_fill_53178_6 rfl rfl ?_
      refine z_icmp_ge (t := 20) C dJ7_fill_53178_7 (by decide) (by omega) (by omega) (fun c1 => ?_) (fun c1 => ?_)
      · skip
        rw [hQ]
        exact z_vret C hrt dJ7_fill_53178_20 (⟨fa_amounts, rfl, rfl, Hfa_amounts, fun j hj => FJ j (by omega), rfl⟩) (by omega) (by omega)
      · skip
        refine z_aloadn C 0 dJ7_fill_53178_10 rfl rfl ?_
        refine z_iloadn C 2 dJ7_fill_53178_11 rfl rfl ?_
        refine z_iloadn C 1 dJ7_fill_53178_12 rfl rfl ?_
        refine z_iast C 15 (by decide) rfl (by decide) (by omega) (by omega) dJ7_fill_53178_13 ?_
        refine z_ext (S' := (z_zc ad ks s_edgeCount s_moveCount s_isNeeded s_timesDone s_size s_isGoing s_allTime s_stepCount s_gapCount g_edges g_moves g_limits a_sfacts a_sbounds a_facts a_zone a_most a_places (va_up fa_amounts (i2 : Int).toNat v) a_nextPlaces a_nextAmounts a_earliest a_visited a_lastSet a_gapFrom a_gapTo a_gapLeast a_askedPlaces a_askedAmounts)) upC_a_amounts ?_
        have h2 : ∀ j, 0 ≤ (va_up fa_amounts (i2 : Int).toNat v) j ∧ (va_up fa_amounts (i2 : Int).toNat v) j ≤ 1000000 := z_upP (P := fun j v => 0 ≤ v ∧ v ≤ 1000000) Hfa_amounts (by omega)
        refine z_iinc (L' := [(2, z_v (i2 + 1)), (0, .ref (ad 15)), (1, z_v v), (3, z_v ((4 : Nat) : Int))]) C 2 dJ7_fill_53178_14 rfl (by decide) rfl ?_
        refine z_goto (t := 5) C dJ7_fill_53178_17 (by decide) ?_
        refine z_loc (L' := [(0, .ref (ad 15)), (1, z_v v), (2, z_v (i2 + 1)), (3, z_v ((4 : Nat) : Int))]) [1, 2, 0, 3] rfl ?_
        exact ih5 (i2 + 1) (va_up fa_amounts (i2 : Int).toNat v) h2 (z_fill_add FJ (by omega)) (by omega) (by omega)
  refine z_loc (L' := [(0, .ref (ad 15)), (1, z_v v), (2, z_v 0), (3, z_v ((4 : Nat) : Int))]) [2, 3, 1, 0] rfl ?_
  exact (L5 (((4 : Int) - 0).toNat + 1)) 0 a_amounts Ha_amounts (fun j hj => absurd hj (by omega)) (by omega) (Nat.lt_succ_self _)
set_option maxRecDepth 20000 in
theorem cm_J7_fill_53178_19 (l : Launch) {D : va_G} {A : Nat → Prop} {ad : Nat → Nat} {ks : z_Ks} {s_edgeCount s_moveCount s_isNeeded s_timesDone s_size s_isGoing s_allTime s_stepCount s_gapCount : Int} {g_edges g_moves g_limits : Nat → Option Nat} {a_sfacts a_sbounds a_facts a_zone a_most a_places a_amounts a_nextPlaces a_nextAmounts a_earliest a_visited a_lastSet a_gapFrom a_gapTo a_gapLeast a_askedPlaces a_askedAmounts : Nat → Int} {Y : Nat → Option va_E} (v : Int) (Ha_earliest : (∀ j, z_rg (a_earliest j))) (hv : v = 0) : z_Met l yJ7_fill_53178 cJ7_fill_53178 4 none 0 0 0 0 D A 27 ad ks [.ref (ad 19), z_v v] (z_zc ad ks s_edgeCount s_moveCount s_isNeeded s_timesDone s_size s_isGoing s_allTime s_stepCount s_gapCount g_edges g_moves g_limits a_sfacts a_sbounds a_facts a_zone a_most a_places a_amounts a_nextPlaces a_nextAmounts a_earliest a_visited a_lastSet a_gapFrom a_gapTo a_gapLeast a_askedPlaces a_askedAmounts) Y (fun r S' Y' => ∃ na_earliest : Nat → Int, S' = (z_zc ad ks s_edgeCount s_moveCount s_isNeeded s_timesDone s_size s_isGoing s_allTime s_stepCount s_gapCount g_edges g_moves g_limits a_sfacts a_sbounds a_facts a_zone a_most a_places a_amounts a_nextPlaces a_nextAmounts na_earliest a_visited a_lastSet a_gapFrom a_gapTo a_gapLeast a_askedPlaces a_askedAmounts) ∧ Y = Y' ∧ (∀ j, z_rg (na_earliest j)) ∧ (∀ j : Nat, j < 41 → na_earliest j = v) ∧ r = none) := by
  refine z_start2 (by decide) (Nat.le_of_ble_eq_true rfl) ?_
  intro p e R s m args below meth c Q C hRf hRc hRs hRl hQ hrt hnm
  refine z_loc (L' := [(0, .ref (ad 19)), (1, z_v v)]) [0, 1] rfl ?_
  refine z_iconst C dJ7_fill_53178_0 ?_
  refine z_istoren (L' := [(2, z_v 0), (0, .ref (ad 19)), (1, z_v v)]) C dJ7_fill_53178_1 rfl (by decide) rfl ?_
  refine z_aloadn C 1 dJ7_fill_53178_2 rfl rfl ?_
  refine z_alen (n := 41) C 19 0 (by decide) rfl rfl rfl dJ7_fill_53178_3 ?_
  refine z_istoren (L' := [(3, z_v ((41 : Nat) : Int)), (2, z_v 0), (0, .ref (ad 19)), (1, z_v v)]) C dJ7_fill_53178_4 rfl (by decide) rfl ?_
  have L5 : ∀ (n : Nat), ∀ (i2 : Int) (fa_earliest : Nat → Int), ((∀ j, z_rg (fa_earliest j))) → (∀ j : Nat, (j : Int) < i2 → fa_earliest j = v) → (0 ≤ i2 ∧ i2 ≤ 41) → ((41 : Int) - i2).toNat < n → z_V p l e R s m args below meth c Q D A 27 ad 4 (z_zc ad ks s_edgeCount s_moveCount s_isNeeded s_timesDone s_size s_isGoing s_allTime s_stepCount s_gapCount g_edges g_moves g_limits a_sfacts a_sbounds a_facts a_zone a_most a_places a_amounts a_nextPlaces a_nextAmounts fa_earliest a_visited a_lastSet a_gapFrom a_gapTo a_gapLeast a_askedPlaces a_askedAmounts) Y 0 0 5 [(0, .ref (ad 19)), (1, z_v v), (2, z_v i2), (3, z_v ((41 : Nat) : Int))] [] := by
    intro n
    induction n with
    | zero => intro i2 fa_earliest Hfa_earliest FJ I2 hm; exact absurd hm (Nat.not_lt_zero _)
    | succ n ih5 =>
      intro i2 fa_earliest Hfa_earliest FJ I2 hm
      refine z_iloadn C 2 dJ7_fill_53178_5 rfl rfl ?_
      refine z_iloadn C 3 dJ7_fill_53178_6 rfl rfl ?_
      refine z_icmp_ge (t := 20) C dJ7_fill_53178_7 (by decide) (by omega) (by omega) (fun c1 => ?_) (fun c1 => ?_)
      · skip
        rw [hQ]
        exact z_vret C hrt dJ7_fill_53178_20 (⟨fa_earliest, rfl, rfl, Hfa_earliest, fun j hj => FJ j (by omega), rfl⟩) (by omega) (by omega)
      · skip
        refine z_aloadn C 0 dJ7_fill_53178_10 rfl rfl ?_
        refine z_iloadn C 2 dJ7_fill_53178_11 rfl rfl ?_
        refine z_iloadn C 1 dJ7_fill_53178_12 rfl rfl ?_
        refine z_iast C 19 (by decide) rfl (by decide) (by omega) (by omega) dJ7_fill_53178_13 ?_
        refine z_ext (S' := (z_zc ad ks s_edgeCount s_moveCount s_isNeeded s_timesDone s_size s_isGoing s_allTime s_stepCount s_gapCount g_edges g_moves g_limits a_sfacts a_sbounds a_facts a_zone a_most a_places a_amounts a_nextPlaces a_nextAmounts (va_up fa_earliest (i2 : Int).toNat v) a_visited a_lastSet a_gapFrom a_gapTo a_gapLeast a_askedPlaces a_askedAmounts)) upC_a_earliest ?_
        have h2 : ∀ j, z_rg ((va_up fa_earliest (i2 : Int).toNat v) j) := z_upP (P := fun j v => z_rg (v)) Hfa_earliest (by omega)
        refine z_iinc (L' := [(2, z_v (i2 + 1)), (0, .ref (ad 19)), (1, z_v v), (3, z_v ((41 : Nat) : Int))]) C 2 dJ7_fill_53178_14 rfl (by decide) rfl ?_
        refine z_goto (t := 5) C dJ7_fill_53178_17 (by decide) ?_
        refine z_loc (L' := [(0, .ref (ad 19)), (1, z_v v), (2, z_v (i2 + 1)), (3, z_v ((41 : Nat) : Int))]) [1, 2, 0, 3] rfl ?_
        exact ih5 (i2 + 1) (va_up fa_earliest (i2 : Int).toNat v) h2 (z_fill_add FJ (by omega)) (by omega) (by omega)
  refine z_loc (L' := [(0, .ref (ad 19)), (1, z_v v), (2, z_v 0), (3, z_v ((41 : Nat) : Int))]) [2, 3, 1, 0] rfl ?_
  exact (L5 (((41 : Int) - 0).toNat + 1)) 0 a_earliest Ha_earliest (fun j hj => absurd hj (by omega)) (by omega) (Nat.lt_succ_self _)
set_option maxRecDepth 20000 in
theorem cm_J7_fill_53178_21 (l : Launch) {D : va_G} {A : Nat → Prop} {ad : Nat → Nat} {ks : z_Ks} {s_edgeCount s_moveCount s_isNeeded s_timesDone s_size s_isGoing s_allTime s_stepCount s_gapCount : Int} {g_edges g_moves g_limits : Nat → Option Nat} {a_sfacts a_sbounds a_facts a_zone a_most a_places a_amounts a_nextPlaces a_nextAmounts a_earliest a_visited a_lastSet a_gapFrom a_gapTo a_gapLeast a_askedPlaces a_askedAmounts : Nat → Int} {Y : Nat → Option va_E} (v : Int) (Ha_lastSet : (∀ j, 0 ≤ a_lastSet j ∧ a_lastSet j ≤ 40)) (hv : v = 0) : z_Met l yJ7_fill_53178 cJ7_fill_53178 4 none 0 0 0 0 D A 27 ad ks [.ref (ad 21), z_v v] (z_zc ad ks s_edgeCount s_moveCount s_isNeeded s_timesDone s_size s_isGoing s_allTime s_stepCount s_gapCount g_edges g_moves g_limits a_sfacts a_sbounds a_facts a_zone a_most a_places a_amounts a_nextPlaces a_nextAmounts a_earliest a_visited a_lastSet a_gapFrom a_gapTo a_gapLeast a_askedPlaces a_askedAmounts) Y (fun r S' Y' => ∃ na_lastSet : Nat → Int, S' = (z_zc ad ks s_edgeCount s_moveCount s_isNeeded s_timesDone s_size s_isGoing s_allTime s_stepCount s_gapCount g_edges g_moves g_limits a_sfacts a_sbounds a_facts a_zone a_most a_places a_amounts a_nextPlaces a_nextAmounts a_earliest a_visited na_lastSet a_gapFrom a_gapTo a_gapLeast a_askedPlaces a_askedAmounts) ∧ Y = Y' ∧ (∀ j, 0 ≤ na_lastSet j ∧ na_lastSet j ≤ 40) ∧ (∀ j : Nat, j < 4 → na_lastSet j = v) ∧ r = none) := by
  refine z_start2 (by decide) (Nat.le_of_ble_eq_true rfl) ?_
  intro p e R s m args below meth c Q C hRf hRc hRs hRl hQ hrt hnm
  refine z_loc (L' := [(0, .ref (ad 21)), (1, z_v v)]) [0, 1] rfl ?_
  refine z_iconst C dJ7_fill_53178_0 ?_
  refine z_istoren (L' := [(2, z_v 0), (0, .ref (ad 21)), (1, z_v v)]) C dJ7_fill_53178_1 rfl (by decide) rfl ?_
  refine z_aloadn C 1 dJ7_fill_53178_2 rfl rfl ?_
  refine z_alen (n := 4) C 21 0 (by decide) rfl rfl rfl dJ7_fill_53178_3 ?_
  refine z_istoren (L' := [(3, z_v ((4 : Nat) : Int)), (2, z_v 0), (0, .ref (ad 21)), (1, z_v v)]) C dJ7_fill_53178_4 rfl (by decide) rfl ?_
  have L5 : ∀ (n : Nat), ∀ (i2 : Int) (fa_lastSet : Nat → Int), ((∀ j, 0 ≤ fa_lastSet j ∧ fa_lastSet j ≤ 40)) → (∀ j : Nat, (j : Int) < i2 → fa_lastSet j = v) → (0 ≤ i2 ∧ i2 ≤ 4) → ((4 : Int) - i2).toNat < n → z_V p l e R s m args below meth c Q D A 27 ad 4 (z_zc ad ks s_edgeCount s_moveCount s_isNeeded s_timesDone s_size s_isGoing s_allTime s_stepCount s_gapCount g_edges g_moves g_limits a_sfacts a_sbounds a_facts a_zone a_most a_places a_amounts a_nextPlaces a_nextAmounts a_earliest a_visited fa_lastSet a_gapFrom a_gapTo a_gapLeast a_askedPlaces a_askedAmounts) Y 0 0 5 [(0, .ref (ad 21)), (1, z_v v), (2, z_v i2), (3, z_v ((4 : Nat) : Int))] [] := by
    intro n
    induction n with
    | zero => intro i2 fa_lastSet Hfa_lastSet FJ I2 hm; exact absurd hm (Nat.not_lt_zero _)
    | succ n ih5 =>
      intro i2 fa_lastSet Hfa_lastSet FJ I2 hm
      refine z_iloadn C 2 dJ7_fill_53178_5 rfl rfl ?_
      refine z_iloadn C 3 dJ7_fill_53178_6 rfl rfl ?_
      refine z_icmp_ge (t := 20) C dJ7_fill_53178_7 (by decide) (by omega) (by omega) (fun c1 => ?_) (fun c1 => ?_)
      · skip
        rw [hQ]
        exact z_vret C hrt dJ7_fill_53178_20 (⟨fa_lastSet, rfl, rfl, Hfa_lastSet, fun j hj => FJ j (by omega), rfl⟩) (by omega) (by omega)
      · skip
        refine z_aloadn C 0 dJ7_fill_53178_10 rfl rfl ?_
        refine z_iloadn C 2 dJ7_fill_53178_11 rfl rfl ?_
        refine z_iloadn C 1 dJ7_fill_53178_12 rfl rfl ?_
        refine z_iast C 21 (by decide) rfl (by decide) (by omega) (by omega) dJ7_fill_53178_13 ?_
        refine z_ext (S' := (z_zc ad ks s_edgeCount s_moveCount s_isNeeded s_timesDone s_size s_isGoing s_allTime s_stepCount s_gapCount g_edges g_moves g_limits a_sfacts a_sbounds a_facts a_zone a_most a_places a_amounts a_nextPlaces a_nextAmounts a_earliest a_visited (va_up fa_lastSet (i2 : Int).toNat v) a_gapFrom a_gapTo a_gapLeast a_askedPlaces a_askedAmounts)) upC_a_lastSet ?_
        have h2 : ∀ j, 0 ≤ (va_up fa_lastSet (i2 : Int).toNat v) j ∧ (va_up fa_lastSet (i2 : Int).toNat v) j ≤ 40 := z_upP (P := fun j v => 0 ≤ v ∧ v ≤ 40) Hfa_lastSet (by omega)
        refine z_iinc (L' := [(2, z_v (i2 + 1)), (0, .ref (ad 21)), (1, z_v v), (3, z_v ((4 : Nat) : Int))]) C 2 dJ7_fill_53178_14 rfl (by decide) rfl ?_
        refine z_goto (t := 5) C dJ7_fill_53178_17 (by decide) ?_
        refine z_loc (L' := [(0, .ref (ad 21)), (1, z_v v), (2, z_v (i2 + 1)), (3, z_v ((4 : Nat) : Int))]) [1, 2, 0, 3] rfl ?_
        exact ih5 (i2 + 1) (va_up fa_lastSet (i2 : Int).toNat v) h2 (z_fill_add FJ (by omega)) (by omega) (by omega)
  refine z_loc (L' := [(0, .ref (ad 21)), (1, z_v v), (2, z_v 0), (3, z_v ((4 : Nat) : Int))]) [2, 3, 1, 0] rfl ?_
  exact (L5 (((4 : Int) - 0).toNat + 1)) 0 a_lastSet Ha_lastSet (fun j hj => absurd hj (by omega)) (by omega) (Nat.lt_succ_self _)
set_option maxRecDepth 20000 in
theorem cm_X2_isEdge (l : Launch) {D : va_G} {A : Nat → Prop} {ad : Nat → Nat} {ks : z_Ks} {s_edgeCount s_moveCount s_isNeeded s_timesDone s_size s_isGoing s_allTime s_stepCount s_gapCount : Int} {g_edges g_moves g_limits : Nat → Option Nat} {a_sfacts a_sbounds a_facts a_zone a_most a_places a_amounts a_nextPlaces a_nextAmounts a_earliest a_visited a_lastSet a_gapFrom a_gapTo a_gapLeast a_askedPlaces a_askedAmounts : Nat → Int} {Y : Nat → Option va_E} (v : Int) (Hs_edgeCount : (0 ≤ s_edgeCount ∧ s_edgeCount ≤ 20)) (hv : z_rg v) : z_Met l yX2_isEdge cX2_isEdge 2 (some .boolean) 0 0 0 0 D A 27 ad ks [.ref (ad 1), z_v v] (z_zc ad ks s_edgeCount s_moveCount s_isNeeded s_timesDone s_size s_isGoing s_allTime s_stepCount s_gapCount g_edges g_moves g_limits a_sfacts a_sbounds a_facts a_zone a_most a_places a_amounts a_nextPlaces a_nextAmounts a_earliest a_visited a_lastSet a_gapFrom a_gapTo a_gapLeast a_askedPlaces a_askedAmounts) Y (fun r S' Y' => S' = (z_zc ad ks s_edgeCount s_moveCount s_isNeeded s_timesDone s_size s_isGoing s_allTime s_stepCount s_gapCount g_edges g_moves g_limits a_sfacts a_sbounds a_facts a_zone a_most a_places a_amounts a_nextPlaces a_nextAmounts a_earliest a_visited a_lastSet a_gapFrom a_gapTo a_gapLeast a_askedPlaces a_askedAmounts) ∧ Y = Y' ∧ ∃ z : Int, r = some (z_v z) ∧ (z = 1 ∧ (0 ≤ v ∧ v < s_edgeCount) ∨ z = 0 ∧ ¬ (0 ≤ v ∧ v < s_edgeCount))) := by
  refine z_start2 (by decide) (Nat.le_of_ble_eq_true rfl) ?_
  intro p e R s m args below meth c Q C hRf hRc hRs hRl hQ hrt hnm
  refine z_loc (L' := [(0, .ref (ad 1)), (1, z_v v)]) [0, 1] rfl ?_
  refine z_iloadn C 1 dX2_isEdge_0 rfl rfl ?_
  refine z_if_lt (t := 16) C dX2_isEdge_1 (by decide) (by omega) (fun c1 => ?_) (fun c1 => ?_)
  · skip
    refine z_iconst C dX2_isEdge_16 ?_
    rw [hQ]
    exact z_zret C hrt (by omega) dX2_isEdge_17 (⟨rfl, rfl, _, rfl, by omega⟩) (by omega) (by omega)
  · skip
    refine z_iloadn C 1 dX2_isEdge_4 rfl rfl ?_
    refine z_aloadn C 0 dX2_isEdge_5 rfl rfl ?_
    refine z_get C 1 (by decide) rfl rfl z_it2 1 (by decide) rfl fl_2_30 rfl dX2_isEdge_6 ?_
    refine z_icmp_ge (t := 16) C dX2_isEdge_9 (by decide) (by omega) (by omega) (fun c2 => ?_) (fun c2 => ?_)
    · skip
      refine z_iconst C dX2_isEdge_16 ?_
      rw [hQ]
      exact z_zret C hrt (by omega) dX2_isEdge_17 (⟨rfl, rfl, _, rfl, by omega⟩) (by omega) (by omega)
    · skip
      refine z_iconst C dX2_isEdge_12 ?_
      refine z_goto (t := 17) C dX2_isEdge_13 (by decide) ?_
      rw [hQ]
      exact z_zret C hrt (by omega) dX2_isEdge_17 (⟨rfl, rfl, _, rfl, by omega⟩) (by omega) (by omega)
set_option maxRecDepth 20000 in
theorem cm_X2_limitsOf (l : Launch) {D : va_G} {A : Nat → Prop} {ad : Nat → Nat} {ks : z_Ks} {s_edgeCount s_moveCount s_isNeeded s_timesDone s_size s_isGoing s_allTime s_stepCount s_gapCount : Int} {g_edges g_moves g_limits : Nat → Option Nat} {a_sfacts a_sbounds a_facts a_zone a_most a_places a_amounts a_nextPlaces a_nextAmounts a_earliest a_visited a_lastSet a_gapFrom a_gapTo a_gapLeast a_askedPlaces a_askedAmounts : Nat → Int} {Y : Nat → Option va_E} (m0 p0 : Int) (hm : 0 ≤ m0 ∧ m0 ≤ 2) (hp : 0 ≤ p0 ∧ p0 ≤ 5) (HL : ∀ j : Nat, (j : Int) < 18 → ∃ q, g_limits j = some q ∧ z_TL ks Y q) : z_Met l yX2_limitsOf cX2_limitsOf 3 (some (.object "ClockZones$TestList")) 0 0 0 0 D A 27 ad ks [.ref (ad 1), z_v m0, z_v p0] (z_zc ad ks s_edgeCount s_moveCount s_isNeeded s_timesDone s_size s_isGoing s_allTime s_stepCount s_gapCount g_edges g_moves g_limits a_sfacts a_sbounds a_facts a_zone a_most a_places a_amounts a_nextPlaces a_nextAmounts a_earliest a_visited a_lastSet a_gapFrom a_gapTo a_gapLeast a_askedPlaces a_askedAmounts) Y (fun r S' Y' => S' = (z_zc ad ks s_edgeCount s_moveCount s_isNeeded s_timesDone s_size s_isGoing s_allTime s_stepCount s_gapCount g_edges g_moves g_limits a_sfacts a_sbounds a_facts a_zone a_most a_places a_amounts a_nextPlaces a_nextAmounts a_earliest a_visited a_lastSet a_gapFrom a_gapTo a_gapLeast a_askedPlaces a_askedAmounts) ∧ Y = Y' ∧ ∃ q : Nat, r = some (.ref q) ∧ z_TL ks Y q) := by
  refine z_start2 (by decide) (Nat.le_of_ble_eq_true rfl) ?_
  intro p e R s m args below meth c Q C hRf hRc hRs hRl hQ hrt hnm
  refine z_loc (L' := [(0, .ref (ad 1)), (1, z_v m0), (2, z_v p0)]) [0, 1, 2] rfl ?_
  refine z_aloadn C 0 dX2_limitsOf_0 rfl rfl ?_
  refine z_get C 1 (by decide) rfl rfl z_it2 4 (by decide) rfl fl_2_25 rfl dX2_limitsOf_1 ?_
  refine z_iloadn C 1 dX2_limitsOf_4 rfl rfl ?_
  refine z_bipush C dX2_limitsOf_5 (by decide) ?_
  refine z_imul C dX2_limitsOf_7 ?_
  refine z_iloadn C 2 dX2_limitsOf_8 rfl rfl ?_
  refine z_iadd C dX2_limitsOf_9 ?_
  obtain ⟨q1, eq1, hq1⟩ := HL (((m0 * 6) + p0) : Int).toNat (by omega)
  refine z_aaldS C 4 3 (by decide) rfl rfl (by decide) (by omega) (by omega) eq1 dX2_limitsOf_10 ?_
  rw [hQ]
  exact z_aret C hrt (Or.inr ⟨_, rfl⟩) dX2_limitsOf_11 (⟨rfl, rfl, _, rfl, hq1⟩) (by omega) (by omega)