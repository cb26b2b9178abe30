theorem z_fill_add {f : Nat → Int} {i v : Int} (h : ∀ j : Nat, (j : Int) < i → f j = v) (h0 : 0 ≤ i) : ∀ j : Nat, (j : Int) < i + 1 → va_up f i.toNat v j = v := by
  intro j hj
  by_cases he : j = i.toNat
  · subst he
    simp [va_up]
  · simp only [va_up, if_neg he]
    exact h j (by omega)
theorem z_p7c {f g : Nat → Int} {a b n : Nat} (hf : ∀ j, (j % 7 < 3 → 0 ≤ f j ∧ f j ≤ 5) ∧ (j % 7 = 3 → -1 ≤ f j ∧ f j ≤ 119) ∧ (j % 7 = 6 → 0 ≤ f j ∧ f j ≤ 40) ∧ z_rg (f j)) (hg : ∀ j, (j % 7 < 3 → 0 ≤ g j ∧ g j ≤ 5) ∧ (j % 7 = 3 → -1 ≤ g j ∧ g j ≤ 119) ∧ (j % 7 = 6 → 0 ≤ g j ∧ g j ≤ 40) ∧ z_rg (g j)) (ha : a % 7 = b % 7) : ∀ j, (j % 7 < 3 → 0 ≤ va_cpy f g a b n j ∧ va_cpy f g a b n j ≤ 5) ∧ (j % 7 = 3 → -1 ≤ va_cpy f g a b n j ∧ va_cpy f g a b n j ≤ 119) ∧ (j % 7 = 6 → 0 ≤ va_cpy f g a b n j ∧ va_cpy f g a b n j ≤ 40) ∧ z_rg (va_cpy f g a b n j) := by
  intro j
  unfold va_cpy
  split
  · have h := hf (a + (j - b))
    have e : (a + (j - b)) % 7 = j % 7 := by omega
    rw [e] at h
    exact h
  · exact hg j
set_option maxRecDepth 20000 in
theorem cm_J7_fill_53178_9 (l : Launch) {D : va_G} {A : Nat → Prop} {ad : Nat → Nat} {ks : z_Ks} {s_edgeCount s_moveCount s_isNeeded s_timesDone s_size s_isGoing s_allTime s_stepCount s_gapCount : Int} {g_edges g_moves g_limits : Nat → Option Nat} {a_sfacts a_sbounds a_facts a_zone a_most a_places a_amounts a_nextPlaces a_nextAmounts a_earliest a_visited a_lastSet a_gapFrom a_gapTo a_gapLeast a_askedPlaces a_askedAmounts : Nat → Int} {Y : Nat → Option va_E} (v : Int) (Ha_facts : (∀ j, (j % 7 < 3 → 0 ≤ a_facts j ∧ a_facts j ≤ 5) ∧ (j % 7 = 3 → -1 ≤ a_facts j ∧ a_facts j ≤ 119) ∧ (j % 7 = 6 → 0 ≤ a_facts j ∧ a_facts j ≤ 40) ∧ z_rg (a_facts j))) (hv : v = 0) : z_Met l yJ7_fill_53178 cJ7_fill_53178 4 none 0 0 0 0 D A 27 ad ks [.ref (ad 9), z_v v] (z_zc ad ks s_edgeCount s_moveCount s_isNeeded s_timesDone s_size s_isGoing s_allTime s_stepCount s_gapCount g_edges g_moves g_limits a_sfacts a_sbounds a_facts a_zone a_most a_places a_amounts a_nextPlaces a_nextAmounts a_earliest a_visited a_lastSet a_gapFrom a_gapTo a_gapLeast a_askedPlaces a_askedAmounts) Y (fun r S' Y' => ∃ na_facts : Nat → Int, S' = (z_zc ad ks s_edgeCount s_moveCount s_isNeeded s_timesDone s_size s_isGoing s_allTime s_stepCount s_gapCount g_edges g_moves g_limits a_sfacts a_sbounds na_facts a_zone a_most a_places a_amounts a_nextPlaces a_nextAmounts a_earliest a_visited a_lastSet a_gapFrom a_gapTo a_gapLeast a_askedPlaces a_askedAmounts) ∧ Y = Y' ∧ (∀ j, (j % 7 < 3 → 0 ≤ na_facts j ∧ na_facts j ≤ 5) ∧ (j % 7 = 3 → -1 ≤ na_facts j ∧ na_facts j ≤ 119) ∧ (j % 7 = 6 → 0 ≤ na_facts j ∧ na_facts j ≤ 40) ∧ z_rg (na_facts j)) ∧ (∀ j : Nat, j < 7 → na_facts j = v) ∧ r = none) := by
  refine z_start2 (by decide) (Nat.le_of_ble_eq_true rfl) ?_
  intro p e R s m args below meth c Q C hRf hRc hRs hRl hQ hrt hnm
  refine z_loc (L' := [(0, .ref (ad 9)), (1, z_v v)]) [0, 1] rfl ?_
  refine z_iconst C dJ7_fill_53178_0 ?_
  refine z_istoren (L' := [(2, z_v 0), (0, .ref (ad 9)), (1, z_v v)]) C dJ7_fill_53178_1 rfl (by decide) rfl ?_
  refine z_aloadn C 1 dJ7_fill_53178_2 rfl rfl ?_
  refine z_alen (n := 7) C 9 0 (by decide) rfl rfl rfl dJ7_fill_53178_3 ?_
  refine z_istoren (L' := [(3, z_v ((7 : Nat) : Int)), (2, z_v 0), (0, .ref (ad 9)), (1, z_v v)]) C dJ7_fill_53178_4 rfl (by decide) rfl ?_
  have L5 : ∀ (n : Nat), ∀ (i2 : Int) (fa_facts : Nat → Int), ((∀ j, (j % 7 < 3 → 0 ≤ fa_facts j ∧ fa_facts j ≤ 5) ∧ (j % 7 = 3 → -1 ≤ fa_facts j ∧ fa_facts j ≤ 119) ∧ (j % 7 = 6 → 0 ≤ fa_facts j ∧ fa_facts j ≤ 40) ∧ z_rg (fa_facts j))) → (∀ j : Nat, (j : Int) < i2 → fa_facts j = v) → (0 ≤ i2 ∧ i2 ≤ 7) → ((7 : Int) - i2).toNat < n → z_V p l e R s m args below meth c Q D A 27 ad 4 (z_zc ad ks s_edgeCount s_moveCount s_isNeeded s_timesDone s_size s_isGoing s_allTime s_stepCount s_gapCount g_edges g_moves g_limits a_sfacts a_sbounds fa_facts a_zone a_most a_places a_amounts a_nextPlaces a_nextAmounts a_earliest a_visited a_lastSet a_gapFrom a_gapTo a_gapLeast a_askedPlaces a_askedAmounts) Y 0 0 5 [(0, .ref (ad 9)), (1, z_v v), (2, z_v i2), (3, z_v ((7 : Nat) : Int))] [] := by
    intro n
    induction n with
    | zero => intro i2 fa_facts Hfa_facts FJ I2 hm; exact absurd hm (Nat.not_lt_zero _)
    | succ n ih5 =>
      intro i2 fa_facts Hfa_facts FJ I2 hm
      refine z_iloadn C 2 dJ7_fill_53178_5 rfl rfl ?_
      refine z_iloadn C 3 dJ7_fill_53178_6 rfl rfl ?_
      refine z_icmp_ge (t := 20) C dJ7_fill_53178_7 (by decide) (by omega) (by omega) (fun c1 => ?_) (fun c1 => ?_)
      · skip
        rw [hQ]
        exact z_vret C hrt dJ7_fill_53178_20 (⟨fa_facts, rfl, rfl, Hfa_facts, fun j hj => FJ j (by omega), rfl⟩) (by omega) (by omega)
      · skip
        refine z_aloadn C 0 dJ7_fill_53178_10 rfl rfl ?_
        refine z_iloadn C 2 dJ7_fill_53178_11 rfl rfl ?_
        refine z_iloadn C 1 dJ7_fill_53178_12 rfl rfl ?_
        refine z_iast C 9 (by decide) rfl (by decide) (by omega) (by omega) dJ7_fill_53178_13 ?_
        refine z_ext (S' := (z_zc ad ks s_edgeCount s_moveCount s_isNeeded s_timesDone s_size s_isGoing s_allTime s_stepCount s_gapCount g_edges g_moves g_limits a_sfacts a_sbounds (va_up fa_facts (i2 : Int).toNat v) a_zone a_most a_places a_amounts a_nextPlaces a_nextAmounts a_earliest a_visited a_lastSet a_gapFrom a_gapTo a_gapLeast a_askedPlaces a_askedAmounts)) upC_a_facts ?_
        have h2 : ∀ j, (j % 7 < 3 → 0 ≤ (va_up fa_facts (i2 : Int).toNat v) j ∧ (va_up fa_facts (i2 : Int).toNat v) j ≤ 5) ∧ (j % 7 = 3 → -1 ≤ (va_up fa_facts (i2 : Int).toNat v) j ∧ (va_up fa_facts (i2 : Int).toNat v) j ≤ 119) ∧ (j % 7 = 6 → 0 ≤ (va_up fa_facts (i2 : Int).toNat v) j ∧ (va_up fa_facts (i2 : Int).toNat v) j ≤ 40) ∧ z_rg ((va_up fa_facts (i2 : Int).toNat v) j) := z_upP (P := fun j v => (j % 7 < 3 → 0 ≤ v ∧ v ≤ 5) ∧ (j % 7 = 3 → -1 ≤ v ∧ v ≤ 119) ∧ (j % 7 = 6 → 0 ≤ v ∧ v ≤ 40) ∧ z_rg (v)) Hfa_facts (by omega)
        refine z_iinc (L' := [(2, z_v (i2 + 1)), (0, .ref (ad 9)), (1, z_v v), (3, z_v ((7 : Nat) : Int))]) C 2 dJ7_fill_53178_14 rfl (by decide) rfl ?_
        refine z_goto (t := 5) C dJ7_fill_53178_17 (by decide) ?_
        refine z_loc (L' := [(0, .ref (ad 9)), (1, z_v v), (2, z_v (i2 + 1)), (3, z_v ((7 : Nat) : Int))]) [1, 2, 0, 3] rfl ?_
        exact ih5 (i2 + 1) (va_up fa_facts (i2 : Int).toNat v) h2 (z_fill_add FJ (by omega)) (by omega) (by omega)
  refine z_loc (L' := [(0, .ref (ad 9)), (1, z_v v), (2, z_v 0), (3, z_v ((7 : Nat) : Int))]) [2, 3, 1, 0] rfl ?_
  exact (L5 (((7 : Int) - 0).toNat + 1)) 0 a_facts Ha_facts (fun j hj => absurd hj (by omega)) (by omega) (Nat.lt_succ_self _)
set_option maxRecDepth 20000 in
theorem cm_J7_fill_53178_11 (l : Launch) {D : va_G} {A : Nat → Prop} {ad : Nat → Nat} {ks : z_Ks} {s_edgeCount s_moveCount s_isNeeded s_timesDone s_size s_isGoing s_allTime s_stepCount s_gapCount : Int} {g_edges g_moves g_limits : Nat → Option Nat} {a_sfacts a_sbounds a_facts a_zone a_most a_places a_amounts a_nextPlaces a_nextAmounts a_earliest a_visited a_lastSet a_gapFrom a_gapTo a_gapLeast a_askedPlaces a_askedAmounts : Nat → Int} {Y : Nat → Option va_E} (v : Int) (Ha_zone : (∀ j, z_rg (a_zone j))) (hv : z_rg v) : z_Met l yJ7_fill_53178 cJ7_fill_53178 4 none 0 0 0 0 D A 27 ad ks [.ref (ad 11), z_v v] (z_zc ad ks s_edgeCount s_moveCount s_isNeeded s_timesDone s_size s_isGoing s_allTime s_stepCount s_gapCount g_edges g_moves g_limits a_sfacts a_sbounds a_facts a_zone a_most a_places a_amounts a_nextPlaces a_nextAmounts a_earliest a_visited a_lastSet a_gapFrom a_gapTo a_gapLeast a_askedPlaces a_askedAmounts) Y (fun r S' Y' => ∃ na_zone : Nat → Int, S' = (z_zc ad ks s_edgeCount s_moveCount s_isNeeded s_timesDone s_size s_isGoing s_allTime s_stepCount s_gapCount g_edges g_moves g_limits a_sfacts a_sbounds a_facts na_zone a_most a_places a_amounts a_nextPlaces a_nextAmounts a_earliest a_visited a_lastSet a_gapFrom a_gapTo a_gapLeast a_askedPlaces a_askedAmounts) ∧ Y = Y' ∧ (∀ j, z_rg (na_zone j)) ∧ (∀ j : Nat, j < 16 → na_zone j = v) ∧ r = none) := by
  refine z_start2 (by decide) (Nat.le_of_ble_eq_true rfl) ?_
  intro p e R s m args below meth c Q C hRf hRc hRs hRl hQ hrt hnm
  refine z_loc (L' := [(0, .ref (ad 11)), (1, z_v v)]) [0, 1] rfl ?_
  refine z_iconst C dJ7_fill_53178_0 ?_
  refine z_istoren (L' := [(2, z_v 0), (0, .ref (ad 11)), (1, z_v v)]) C dJ7_fill_53178_1 rfl (by decide) rfl ?_
  refine z_aloadn C 1 dJ7_fill_53178_2 rfl rfl ?_
  refine z_alen (n := 16) C 11 0 (by decide) rfl rfl rfl dJ7_fill_53178_3 ?_
  refine z_istoren (L' := [(3, z_v ((16 : Nat) : Int)), (2, z_v 0), (0, .ref (ad 11)), (1, z_v v)]) C dJ7_fill_53178_4 rfl (by decide) rfl ?_
  have L5 : ∀ (n : Nat), ∀ (i2 : Int) (fa_zone : Nat → Int), ((∀ j, z_rg (fa_zone j))) → (∀ j : Nat, (j : Int) < i2 → fa_zone j = v) → (0 ≤ i2 ∧ i2 ≤ 16) → ((16 : Int) - i2).toNat < n → z_V p l e R s m args below meth c Q D A 27 ad 4 (z_zc ad ks s_edgeCount s_moveCount s_isNeeded s_timesDone s_size s_isGoing s_allTime s_stepCount s_gapCount g_edges g_moves g_limits a_sfacts a_sbounds a_facts fa_zone a_most a_places a_amounts a_nextPlaces a_nextAmounts a_earliest a_visited a_lastSet a_gapFrom a_gapTo a_gapLeast a_askedPlaces a_askedAmounts) Y 0 0 5 [(0, .ref (ad 11)), (1, z_v v), (2, z_v i2), (3, z_v ((16 : Nat) : Int))] [] := by
    intro n
    induction n with
    | zero => intro i2 fa_zone Hfa_zone FJ I2 hm; exact absurd hm (Nat.not_lt_zero _)
    | succ n ih5 =>
      intro i2 fa_zone Hfa_zone FJ I2 hm
      refine z_iloadn C 2 dJ7_fill_53178_5 rfl rfl ?_
      refine z_iloadn C 3 dJ7_fill_53178_6 rfl rfl ?_
      refine z_icmp_ge (t := 20) C dJ7_fill_53178_7 (by decide) (by omega) (by omega) (fun c1 => ?_) (fun c1 => ?_)
      · skip
        rw [hQ]
        exact z_vret C hrt dJ7_fill_53178_20 (⟨fa_zone, rfl, rfl, Hfa_zone, fun j hj => FJ j (by omega), rfl⟩) (by omega) (by omega)
      · skip
        refine z_aloadn C 0 dJ7_fill_53178_10 rfl rfl ?_
        refine z_iloadn C 2 dJ7_fill_53178_11 rfl rfl ?_
        refine z_iloadn C 1 dJ7_fill_53178_12 rfl rfl ?_
        refine z_iast C 11 (by decide) rfl (by decide) (by omega) (by omega) dJ7_fill_53178_13 ?_
        refine z_ext (S' := (z_zc ad ks s_edgeCount s_moveCount s_isNeeded s_timesDone s_size s_isGoing s_allTime s_stepCount s_gapCount g_edges g_moves g_limits a_sfacts a_sbounds a_facts (va_up fa_zone (i2 : Int).toNat v) a_most a_places a_amounts a_nextPlaces a_nextAmounts a_earliest a_visited a_lastSet a_gapFrom a_gapTo a_gapLeast a_askedPlaces a_askedAmounts)) upC_a_zone ?_
        have h2 : ∀ j, z_rg ((va_up fa_zone (i2 : Int).toNat v) j) := z_upP (P := fun j v => z_rg (v)) Hfa_zone (by omega)
        refine z_iinc (L' := [(2, z_v (i2 + 1)), (0, .ref (ad 11)), (1, z_v v), (3, z_v ((16 : Nat) : Int))]) C 2 dJ7_fill_53178_14 rfl (by decide) rfl ?_
        refine z_goto (t := 5) C dJ7_fill_53178_17 (by decide) ?_
        refine z_loc (L' := [(0, .ref (ad 11)), (1, z_v v), (2, z_v (i2 + 1)), (3, z_v ((16 : Nat) : Int))]) [1, 2, 0, 3] rfl ?_
        exact ih5 (i2 + 1) (va_up fa_zone (i2 : Int).toNat v) h2 (z_fill_add FJ (by omega)) (by omega) (by omega)
  refine z_loc (L' := [(0, .ref (ad 11)), (1, z_v v), (2, z_v 0), (3, z_v ((16 : Nat) : Int))]) [2, 3, 1, 0] rfl ?_
  exact (L5 (((16 : Int) - 0).toNat + 1)) 0 a_zone Ha_zone (fun j hj => absurd hj (by omega)) (by omega) (Nat.lt_succ_self _)
set_option maxRecDepth 20000 in
theorem cm_J7_fill_53178_14 (l : Launch) {D : va_G} {A : Nat → Prop} {ad : Nat → Nat} {ks : z_Ks} {s_edgeCount s_moveCount s_isNeeded s_timesDone s_size s_isGoing s_allTime s_stepCount s_gapCount : Int} {g_edges g_moves g_limits : Nat → Option Nat} {a_sfacts a_sbounds a_facts a_zone a_most a_places a_amounts a_nextPlaces a_nextAmounts a_earliest a_visited a_lastSet a_gapFrom a_gapTo a_gapLeast a_askedPlaces a_askedAmounts : Nat → Int} {Y : Nat → Option va_E} (v : Int) (Ha_places : (∀ j, 0 ≤ a_places j ∧ a_places j ≤ 5)) (hv : v = 0) : z_Met l yJ7_fill_53178 cJ7_fill_53178 4 none 0 0 0 0 D A 27 ad ks [.ref (ad 14), z_v v] (z_zc ad ks s_edgeCount s_moveCount s_isNeeded s_timesDone s_size s_isGoing s_allTime s_stepCount s_gapCount g_edges g_moves g_limits a_sfacts a_sbounds a_facts a_zone a_most a_places a_amounts a_nextPlaces a_nextAmounts a_earliest a_visited a_lastSet a_gapFrom a_gapTo a_gapLeast a_askedPlaces a_askedAmounts) Y (fun r S' Y' => ∃ na_places : Nat → Int, S' = (z_zc ad ks s_edgeCount s_moveCount s_isNeeded s_timesDone s_size s_isGoing s_allTime s_stepCount s_gapCount g_edges g_moves g_limits a_sfacts a_sbounds a_facts a_zone a_most na_places a_amounts a_nextPlaces a_nextAmounts a_earliest a_visited a_lastSet a_gapFrom a_gapTo a_gapLeast a_askedPlaces a_askedAmounts) ∧ Y = Y' ∧ (∀ j, 0 ≤ na_places j ∧ na_places j ≤ 5) ∧ (∀ j : Nat, j < 3 → na_places j = v) ∧ r = none) := by
  refine z_start2 (by decide) (Nat.le_of_ble_eq_true rfl) ?_
  intro p e R s m args below meth c Q C hRf hRc hRs hRl hQ hrt hnm
  refine z_loc (L' := [(0, .ref (ad 14)), (1, z_v v)]) [0, 1] rfl ?_
  refine z_iconst C dJ7_fill_53178_0 ?_
  refine z_istoren (L' := [(2, z_v 0), (0, .ref (ad 14)), (1, z_v v)]) C dJ7_fill_53178_1 rfl (by decide) rfl ?_
  refine z_aloadn C 1 dJ7_fill_53178_2 rfl rfl ?_
  refine z_alen (n := 3) C 14 0 (by decide) rfl rfl rfl dJ7_fill_53178_3 ?_
  refine z_istoren (L' := [(3, z_v ((3 : Nat) : Int)), (2, z_v 0), (0, .ref (ad 14)), (1, z_v v)]) C dJ7_fill_53178_4 rfl (by decide) rfl ?_
  have L5 : ∀ (n : Nat), ∀ (i2 : Int) (fa_places : Nat → Int), ((∀ j, 0 ≤ fa_places j ∧ fa_places j ≤ 5)) → (∀ j : Nat, (j : Int) < i2 → fa_places j = v) → (0 ≤ i2 ∧ i2 ≤ 3) → ((3 : Int) - i2).toNat < n → z_V p l e R s m args below meth c Q D A 27 ad 4 (z_zc ad ks s_edgeCount s_moveCount s_isNeeded s_timesDone s_size s_isGoing s_allTime s_stepCount s_gapCount g_edges g_moves g_limits a_sfacts a_sbounds a_facts a_zone a_most fa_places a_amounts a_nextPlaces a_nextAmounts a_earliest a_visited a_lastSet a_gapFrom a_gapTo a_gapLeast a_askedPlaces a_askedAmounts) Y 0 0 5 [(0, .ref (ad 14)), (1, z_v v), (2, z_v i2), (3, z_v ((3 : Nat) : Int))] [] := by
    intro n
    induction n with
    | zero => intro i2 fa_places Hfa_places FJ I2 hm; exact absurd hm (Nat.not_lt_zero _)
    | succ n ih5 =>
      intro i2 fa_places Hfa_places FJ I2 hm
      refine z_iloadn C 2 dJ7_fill_53178_5 rfl rfl ?_
      refine z_iloadn C 3 dJ7_fill_53178_6 rfl rfl ?_
      refine z_icmp_ge (t := 20) C dJ7_fill_53178_7 (by decide) (by omega) (by omega) (fun c1 => ?_) (fun c1 => ?_)
      · skip
        rw [hQ]
        exact z_vret C hrt dJ7_fill_53178_20 (⟨fa_places, rfl, rfl, Hfa_places, fun j hj => FJ j (by omega), rfl⟩) (by omega) (by omega)
      · skip
        refine z_aloadn C 0 dJ7_fill_53178_10 rfl rfl ?_
        refine z_iloadn C 2 dJ7_fill_53178_11 rfl rfl ?_
        refine z_iloadn C 1 dJ7_fill_53178_12 rfl rfl ?_
        refine z_iast C 14 (by decide) rfl (by decide) (by omega) (by omega) dJ7_fill_53178_13 ?_
        refine z_ext (S' := (z_zc ad ks s_edgeCount s_moveCount s_isNeeded s_timesDone s_size s_isGoing s_allTime s_stepCount s_gapCount g_edges g_moves g_limits a_sfacts a_sbounds a_facts a_zone a_most (va_up fa_places (i2 : Int).toNat v) a_amounts a_nextPlaces a_nextAmounts a_earliest a_visited a_lastSet a_gapFrom a_gapTo a_gapLeast a_askedPlaces a_askedAmounts)) upC_a_places ?_
        have h2 : ∀ j, 0 ≤ (va_up fa_places (i2 : Int).toNat v) j ∧ (va_up fa_places (i2 : Int).toNat v) j ≤ 5 := z_upP (P := fun j v => 0 ≤ v ∧ v ≤ 5) Hfa_places (by omega)
        refine z_iinc (L' := [(2, z_v (i2 + 1)), (0, .ref (ad 14)), (1, z_v v), (3, z_v ((3 : Nat) : Int))]) C 2 dJ7_fill_53178_14 rfl (by decide) rfl ?_
        refine z_goto (t := 5) C dJ7_fill_53178_17 (by decide) ?_
        refine z_loc (L' := [(0, .ref (ad 14)), (1, z_v v), (2, z_v (i2 + 1)), (3, z_v ((3 : Nat) : Int))]) [1, 2, 0, 3] rfl ?_
        exact ih5 (i2 + 1) (va_up fa_places (i2 : Int).toNat v) h2 (z_fill_add FJ (by omega)) (by omega) (by omega)
  refine z_loc (L' := [(0, .ref (ad 14)), (1, z_v v), (2, z_v 0), (3, z_v ((3 : Nat) : Int))]) [2, 3, 1, 0] rfl ?_
  exact (L5 (((3 : Int) - 0).toNat + 1)) 0 a_places Ha_places (fun j hj => absurd hj (by omega)) (by omega) (Nat.lt_succ_self _)
set_option maxRecDepth 20000 in
theorem cm_J7_fill_53178_15 (l : Launch) {D : va_G} {A : Nat → Prop} {ad : Nat → Nat} {ks : z_Ks} {s_edgeCount s_moveCount s_isNeeded s_timesDone s_size s_isGoing s_allTime s_stepCount s_gapCount : Int} {g_edges g_moves g_limits : Nat → Option Nat} {a_sfacts a_sbounds a_facts a_zone a_most a_places a_amounts a_nextPlaces a_nextAmounts a_earliest a_visited a_lastSet a_gapFrom a_gapTo a_gapLeast a_askedPlaces a_askedAmounts : Nat → Int} {Y : Nat → Option va_E} (v : Int) (Ha_amounts : (∀ j, 0 ≤ a_amounts j ∧ a_amounts j ≤ 1000000)) (hv : v = 0) : z_Met l yJ7_fill_53178 cJ7_fill_53178 4 none 0 0 0 0 D A 27 ad ks [.ref (ad 15), z_v v] (z_zc ad ks s_edgeCount s_moveCount s_isNeeded s_timesDone s_size s_isGoing s_allTime s_stepCount s_gapCount g_edges g_moves g_limits a_sfacts a_sbounds a_facts a_zone a_most a_places a_amounts a_nextPlaces a_nextAmounts a_earliest a_visited a_lastSet a_gapFrom a_gapTo a_gapLeast a_askedPlaces a_askedAmounts) Y (fun r S' Y' => ∃ na_amounts : Nat → Int, S' = (z_zc ad ks s_edgeCount s_moveCount s_isNeeded s_timesDone s_size s_isGoing s_allTime s_stepCount s_gapCount g_edges g_moves g_limits a_sfacts a_sbounds a_facts a_zone a_most a_places na_amounts a_nextPlaces a_nextAmounts a_earliest a_visited a_lastSet a_gapFrom a_gapTo a_gapLeast a_askedPlaces a_askedAmounts) ∧ Y = Y' ∧ (∀ j, 0 ≤ na_amounts j ∧ na_amounts j ≤ 1000000) ∧ (∀ j : Nat, j < 4 → na_amounts j = v) ∧ r = none) := by
  refine z_start2 (by decide) (Nat.le_of_ble_eq_true rfl) ?_
  intro p e R s m args below meth c Q C hRf hRc hRs hRl hQ hrt hnm
  refine z_loc (L' := [(0, .ref (ad 15)), (1, z_v v)]) [0, 1] rfl ?_
  refine z_iconst C dJ7_fill_53178_0 ?_
  refine z_istoren (L' := [(2, z_v 0), (0, .ref (ad 15)), (1, z_v v)]) C dJ7_fill_53178_1 rfl (by decide) rfl ?_
  refine z_aloadn C 1 dJ7_fill_53178_2 rfl rfl ?_
  refine z_alen (n := 4) C 15 0 (by decide) rfl rfl rfl dJ7_fill_53178_3 ?_
  refine z_istoren (L' := [(3, z_v ((4 : Nat) : Int)), (2, z_v 0), (0, .ref (ad 15)), (1, z_v v)]) C dJ7_fill_53178_4 rfl (by decide) rfl ?_
  have L5 : ∀ (n : Nat), ∀ (i2 : Int) (fa_amounts : Nat → Int), ((∀ j, 0 ≤ fa_amounts j ∧ fa_amounts j ≤ 1000000)) → (∀ j : Nat, (j : Int) < i2 → fa_amounts j = v) → (0 ≤ i2 ∧ i2 ≤ 4) → ((4 : Int) - i2).toNat < n → z_V p l e R s m args below meth c Q D A 27 ad 4 (z_zc ad ks s_edgeCount s_moveCount s_isNeeded s_timesDone s_size s_isGoing s_allTime s_stepCount s_gapCount g_edges g_moves g_limits a_sfacts a_sbounds a_facts a_zone a_most a_places fa_amounts a_nextPlaces a_nextAmounts a_earliest a_visited a_lastSet a_gapFrom a_gapTo a_gapLeast a_askedPlaces a_askedAmounts) Y 0 0 5 [(0, .ref (ad 15)), (1, z_v v), (2, z_v i2), (3, z_v ((4 : Nat) : Int))] [] := by
    intro n
    induction n with
    | zero => intro i2 fa_amounts Hfa_amounts FJ I2 hm; exact absurd hm (Nat.not_lt_zero _)
    | succ n ih5 =>
      intro i2 fa_amounts Hfa_amounts FJ I2 hm
      refine z_iloadn C 2 dJ7_fill_53178_5 rfl rfl ?_
      refine z_iloadn C 3 dJ7_fill_53178_6 rfl rfl ?_
      refine z_icmp_ge (t := 20) C dJ7_fill_53178_7 (by decide) (by omega) (by omega) (fun c1 => ?_) (fun c1 => ?_)
      · skip
        rw [hQ]
        exact z_vret C hrt dJ7_fill_53178_20 (⟨fa_amounts, rfl, rfl, Hfa_amounts, fun j hj => FJ j (by omega), rfl⟩) (by omega) (by omega)
      · skip
        refine z_aloadn C 0 dJ7_fill_53178_10 rfl rfl ?_
        refine z_iloadn C 2 dJ7_fill_53178_11 rfl rfl ?_
        refine z_iloadn C 1 dJ7_fill_53178_12 rfl rfl ?_
        refine z_iast C 15 (by decide) rfl (by decide) (by omega) (by omega) dJ7_fill_53178_13 ?_
        refine z_ext (S' := (z_zc ad ks s_edgeCount s_moveCount s_isNeeded s_timesDone s_size s_isGoing s_allTime s_stepCount s_gapCount g_edges g_moves g_limits a_sfacts a_sbounds a_facts a_zone a_most a_places (va_up fa_amounts (i2 : Int).toNat v) a_nextPlaces a_nextAmounts a_earliest a_visited a_lastSet a_gapFrom a_gapTo a_gapLeast a_askedPlaces a_askedAmounts)) upC_a_amounts ?_
        have h2 : ∀ j, 0 ≤ (va_up fa_amounts (i2 : Int).toNat v) j ∧ (va_up fa_amounts (i2 : Int).toNat v) j ≤ 1000000 := z_upP (P := fun j v => 0 ≤ v ∧ v ≤ 1000000) Hfa_amounts (by omega)
        refine z_iinc (L' := [(2, z_v (i2 + 1)), (0, .ref (ad 15)), (1, z_v v), (3, z_v ((4 : Nat) : Int))]) C 2 dJ7_fill_53178_14 rfl (by decide) rfl ?_
        refine z_goto (t := 5) C dJ7_fill_53178_17 (by decide) ?_
        refine z_loc (L' := [(0, .ref (ad 15)), (1, z_v v), (2, z_v (i2 + 1)), (3, z_v ((4 : Nat) : Int))]) [1, 2, 0, 3] rfl ?_
        exact ih5 (i2 + 1) (va_up fa_amounts (i2 : Int).toNat v) h2 (z_fill_add FJ (by omega)) (by omega) (by omega)
  refine z_loc (L' := [(0, .ref (ad 15)), (1, z_v v), (2, z_v 0), (3, z_v ((4 : Nat) : Int))]) [2, 3, 1, 0] rfl ?_
  exact (L5 (((4 : Int) - 0).toNat + 1)) 0 a_amounts Ha_amounts (fun j hj => absurd hj (by omega)) (by omega) (Nat.lt_succ_self _)
set_option maxRecDepth 20000 in
theorem cm_J7_fill_53178_19 (l : Launch) {D : va_G} {A : Nat → Prop} {ad : Nat → Nat} {ks : z_Ks} {s_edgeCount s_moveCount s_isNeeded s_timesDone s_size s_isGoing s_allTime s_stepCount s_gapCount : Int} {g_edges g_moves g_limits : Nat → Option Nat} {a_sfacts a_sbounds a_facts a_zone a_most a_places a_amounts a_nextPlaces a_nextAmounts a_earliest a_visited a_lastSet a_gapFrom a_gapTo a_gapLeast a_askedPlaces a_askedAmounts : Nat → Int} {Y : Nat → Option va_E} (v : Int) (Ha_earliest : (∀ j, z_rg (a_earliest j))) (hv : v = 0) : z_Met l yJ7_fill_53178 cJ7_fill_53178 4 none 0 0 0 0 D A 27 ad ks [.ref (ad 19), z_v v] (z_zc ad ks s_edgeCount s_moveCount s_isNeeded s_timesDone s_size s_isGoing s_allTime s_stepCount s_gapCount g_edges g_moves g_limits a_sfacts a_sbounds a_facts a_zone a_most a_places a_amounts a_nextPlaces a_nextAmounts a_earliest a_visited a_lastSet a_gapFrom a_gapTo a_gapLeast a_askedPlaces a_askedAmounts) Y (fun r S' Y' => ∃ na_earliest : Nat → Int, S' = (z_zc ad ks s_edgeCount s_moveCount s_isNeeded s_timesDone s_size s_isGoing s_allTime s_stepCount s_gapCount g_edges g_moves g_limits a_sfacts a_sbounds a_facts a_zone a_most a_places a_amounts a_nextPlaces a_nextAmounts na_earliest a_visited a_lastSet a_gapFrom a_gapTo a_gapLeast a_askedPlaces a_askedAmounts) ∧ Y = Y' ∧ (∀ j, z_rg (na_earliest j)) ∧ (∀ j : Nat, j < 41 → na_earliest j = v) ∧ r = none) := by
  refine z_start2 (by decide) (Nat.le_of_ble_eq_true rfl) ?_
  intro p e R s m args below meth c Q C hRf hRc hRs hRl hQ hrt hnm
  refine z_loc (L' := [(0, .ref (ad 19)), (1, z_v v)]) [0, 1] rfl ?_
  refine z_iconst C dJ7_fill_53178_0 ?_
  refine z_istoren (L' := [(2, z_v 0), (0, .ref (ad 19)), (1, z_v v)]) C dJ7_fill_53178_1 rfl (by decide) rfl ?_
  refine z_aloadn C 1 dJ7_fill_53178_2 rfl rfl ?_
  refine z_alen (n := 41) C 19 0 (by decide) rfl rfl rfl dJ7_fill_53178_3 ?_
  refine z_istoren (L' := [(3, z_v ((41 : Nat) : Int)), (2, z_v 0), (0, .ref (ad 19)), (1, z_v v)]) C dJ7_fill_53178_4 rfl (by decide) rfl ?_
  have L5 : ∀ (n : Nat), ∀ (i2 : Int) (fa_earliest : Nat → Int), ((∀ j, z_rg (fa_earliest j))) → (∀ j : Nat, (j : Int) < i2 → fa_earliest j = v) → (0 ≤ i2 ∧ i2 ≤ 41) → ((41 : Int) - i2).toNat < n → z_V p l e R s m args below meth c Q D A 27 ad 4 (z_zc ad ks s_edgeCount s_moveCount s_isNeeded s_timesDone s_size s_isGoing s_allTime s_stepCount s_gapCount g_edges g_moves g_limits a_sfacts a_sbounds a_facts a_zone a_most a_places a_amounts a_nextPlaces a_nextAmounts fa_earliest a_visited a_lastSet a_gapFrom a_gapTo a_gapLeast a_askedPlaces a_askedAmounts) Y 0 0 5 [(0, .ref (ad 19)), (1, z_v v), (2, z_v i2), (3, z_v ((41 : Nat) : Int))] [] := by
    intro n
    induction n with
    | zero => intro i2 fa_earliest Hfa_earliest FJ I2 hm; exact absurd hm (Nat.not_lt_zero _)
    | succ n ih5 =>
      intro i2 fa_earliest Hfa_earliest FJ I2 hm
      refine z_iloadn C 2 dJ7_fill_53178_5 rfl rfl ?_
      refine z_iloadn C 3 dJ7_fill_53178_6 rfl rfl ?_
      refine z_icmp_ge (t := 20) C dJ7_fill_53178_7 (by decide) (by omega) (by omega) (fun c1 => ?_) (fun c1 => ?_)
      · skip
        rw [hQ]
        exact z_vret C hrt dJ7_fill_53178_20 (⟨fa_earliest, rfl, rfl, Hfa_earliest, fun j hj => FJ j (by omega), rfl⟩) (by omega) (by omega)
      · skip
        refine z_aloadn C 0 dJ7_fill_53178_10 rfl rfl ?_
        refine z_iloadn C 2 dJ7_fill_53178_11 rfl rfl ?_
        refine z_iloadn C 1 dJ7_fill_53178_12 rfl rfl ?_
        refine z_iast C 19 (by decide) rfl (by decide) (by omega) (by omega) dJ7_fill_53178_13 ?_
        refine z_ext (S' := (z_zc ad ks s_edgeCount s_moveCount s_isNeeded s_timesDone s_size s_isGoing s_allTime s_stepCount s_gapCount g_edges g_moves g_limits a_sfacts a_sbounds a_facts a_zone a_most a_places a_amounts a_nextPlaces a_nextAmounts (va_up fa_earliest (i2 : Int).toNat v) a_visited a_lastSet a_gapFrom a_gapTo a_gapLeast a_askedPlaces a_askedAmounts)) upC_a_earliest ?_
        have h2 : ∀ j, z_rg ((va_up fa_earliest (i2 : Int).toNat v) j) := z_upP (P := fun j v => z_rg (v)) Hfa_earliest (by omega)
        refine z_iinc (L' := [(2, z_v (i2 + 1)), (0, .ref (ad 19)), (1, z_v v), (3, z_v ((41 : Nat) : Int))]) C 2 dJ7_fill_53178_14 rfl (by decide) rfl ?_
        refine z_goto (t := 5) C dJ7_fill_53178_17 (by decide) ?_
        refine z_loc (L' := [(0, .ref (ad 19)), (1, z_v v), (2, z_v (i2 + 1)), (3, z_v ((41 : Nat) : Int))]) [1, 2, 0, 3] rfl ?_
        exact ih5 (i2 + 1) (va_up fa_earliest (i2 : Int).toNat v) h2 (z_fill_add FJ (by omega)) (by omega) (by omega)
  refine z_loc (L' := [(0, .ref (ad 19)), (1, z_v v), (2, z_v 0), (3, z_v ((41 : Nat) : Int))]) [2, 3, 1, 0] rfl ?_
  exact (L5 (((41 : Int) - 0).toNat + 1)) 0 a_earliest Ha_earliest (fun j hj => absurd hj (by omega)) (by omega) (Nat.lt_succ_self _)
set_option maxRecDepth 20000 in
theorem cm_J7_fill_53178_21 (l : Launch) {D : va_G} {A : Nat → Prop} {ad : Nat → Nat} {ks : z_Ks} {s_edgeCount s_moveCount s_isNeeded s_timesDone s_size s_isGoing s_allTime s_stepCount s_gapCount : Int} {g_edges g_moves g_limits : Nat → Option Nat} {a_sfacts a_sbounds a_facts a_zone a_most a_places a_amounts a_nextPlaces a_nextAmounts a_earliest a_visited a_lastSet a_gapFrom a_gapTo a_gapLeast a_askedPlaces a_askedAmounts : Nat → Int} {Y : Nat → Option va_E} (v : Int) (Ha_lastSet : (∀ j, 0 ≤ a_lastSet j ∧ a_lastSet j ≤ 40)) (hv : v = 0) : z_Met l yJ7_fill_53178 cJ7_fill_53178 4 none 0 0 0 0 D A 27 ad ks [.ref (ad 21), z_v v] (z_zc ad ks s_edgeCount s_moveCount s_isNeeded s_timesDone s_size s_isGoing s_allTime s_stepCount s_gapCount g_edges g_moves g_limits a_sfacts a_sbounds a_facts a_zone a_most a_places a_amounts a_nextPlaces a_nextAmounts a_earliest a_visited a_lastSet a_gapFrom a_gapTo a_gapLeast a_askedPlaces a_askedAmounts) Y (fun r S' Y' => ∃ na_lastSet : Nat → Int, S' = (z_zc ad ks s_edgeCount s_moveCount s_isNeeded s_timesDone s_size s_isGoing s_allTime s_stepCount s_gapCount g_edges g_moves g_limits a_sfacts a_sbounds a_facts a_zone a_most a_places a_amounts a_nextPlaces a_nextAmounts a_earliest a_visited na_lastSet a_gapFrom a_gapTo a_gapLeast a_askedPlaces a_askedAmounts) ∧ Y = Y' ∧ (∀ j, 0 ≤ na_lastSet j ∧ na_lastSet j ≤ 40) ∧ (∀ j : Nat, j < 4 → na_lastSet j = v) ∧ r = none) := by
  refine z_start2 (by decide) (Nat.le_of_ble_eq_true rfl) ?_
  intro p e R s m args below meth c Q C hRf hRc hRs hRl hQ hrt hnm
  refine z_loc (L' := [(0, .ref (ad 21)), (1, z_v v)]) [0, 1] rfl ?_
  refine z_iconst C dJ7_fill_53178_0 ?_
  refine z_istoren (L' := [(2, z_v 0), (0, .ref (ad 21)), (1, z_v v)]) C dJ7_fill_53178_1 rfl (by decide) rfl ?_
  refine z_aloadn C 1 dJ7_fill_53178_2 rfl rfl ?_
  refine z_alen (n := 4) C 21 0 (by decide) rfl rfl rfl dJ7_fill_53178_3 ?_
  refine z_istoren (L' := [(3, z_v ((4 : Nat) : Int)), (2, z_v 0), (0, .ref (ad 21)), (1, z_v v)]) C dJ7_fill_53178_4 rfl (by decide) rfl ?_
  have L5 : ∀ (n : Nat), ∀ (i2 : Int) (fa_lastSet : Nat → Int), ((∀ j, 0 ≤ fa_lastSet j ∧ fa_lastSet j ≤ 40)) → (∀ j : Nat, (j : Int) < i2 → fa_lastSet j = v) → (0 ≤ i2 ∧ i2 ≤ 4) → ((4 : Int) - i2).toNat < n → z_V p l e R s m args below meth c Q D A 27 ad 4 (z_zc ad ks s_edgeCount s_moveCount s_isNeeded s_timesDone s_size s_isGoing s_allTime s_stepCount s_gapCount g_edges g_moves g_limits a_sfacts a_sbounds a_facts a_zone a_most a_places a_amounts a_nextPlaces a_nextAmounts a_earliest a_visited fa_lastSet a_gapFrom a_gapTo a_gapLeast a_askedPlaces a_askedAmounts) Y 0 0 5 [(0, .ref (ad 21)), (1, z_v v), (2, z_v i2), (3, z_v ((4 : Nat) : Int))] [] := by
    intro n
    induction n with
    | zero => intro i2 fa_lastSet Hfa_lastSet FJ I2 hm; exact absurd hm (Nat.not_lt_zero _)
    | succ n ih5 =>
      intro i2 fa_lastSet Hfa_lastSet FJ I2 hm
      refine z_iloadn C 2 dJ7_fill_53178_5 rfl rfl ?_
      refine z_iloadn C 3 dJ7_fill_53178_6 rfl rfl ?_
      refine z_icmp_ge (t := 20) C dJ7_fill_53178_7 (by decide) (by omega) (by omega) (fun c1 => ?_) (fun c1 => ?_)
      · skip
        rw [hQ]
        exact z_vret C hrt dJ7_fill_53178_20 (⟨fa_lastSet, rfl, rfl, Hfa_lastSet, fun j hj => FJ j (by omega), rfl⟩) (by omega) (by omega)
      · skip
        refine z_aloadn C 0 dJ7_fill_53178_10 rfl rfl ?_
        refine z_iloadn C 2 dJ7_fill_53178_11 rfl rfl ?_
        refine z_iloadn C 1 dJ7_fill_53178_12 rfl rfl ?_
        refine z_iast C 21 (by decide) rfl (by decide) (by omega) (by omega) dJ7_fill_53178_13 ?_
        refine z_ext (S' := (z_zc ad ks s_edgeCount s_moveCount s_isNeeded s_timesDone s_size s_isGoing s_allTime s_stepCount s_gapCount g_edges g_moves g_limits a_sfacts a_sbounds a_facts a_zone a_most a_places a_amounts a_nextPlaces a_nextAmounts a_earliest a_visited (va_up fa_lastSet (i2 : Int).toNat v) a_gapFrom a_gapTo a_gapLeast a_askedPlaces a_askedAmounts)) upC_a_lastSet ?_
        have h2 : ∀ j, 0 ≤ (va_up fa_lastSet (i2 : Int).toNat v) j ∧ (va_up fa_lastSet (i2 : Int).toNat v) j ≤ 40 := z_upP (P := fun j v => 0 ≤ v ∧ v ≤ 40) Hfa_lastSet (by omega)
        refine z_iinc (L' := [(2, z_v (i2 + 1)), (0, .ref (ad 21)), (1, z_v v), (3, z_v ((4 : Nat) : Int))]) C 2 dJ7_fill_53178_14 rfl (by decide) rfl ?_
        refine z_goto (t := 5) C dJ7_fill_53178_17 (by decide) ?_
        refine z_loc (L' := [(0, .ref (ad 21)), (1, z_v v), (2, z_v (i2 + 1)), (3, z_v ((4 : Nat) : Int))]) [1, 2, 0, 3] rfl ?_
        exact ih5 (i2 + 1) (va_up fa_lastSet (i2 : Int).toNat v) h2 (z_fill_add FJ (by omega)) (by omega) (by omega)
  refine z_loc (L' := [(0, .ref (ad 21)), (1, z_v v), (2, z_v 0), (3, z_v ((4 : Nat) : Int))]) [2, 3, 1, 0] rfl ?_
  exact (L5 (((4 : Int) - 0).toNat + 1)) 0 a_lastSet Ha_lastSet (fun j hj => absurd hj (by omega)) (by omega) (Nat.lt_succ_self _)
set_option maxRecDepth 20000 in
theorem cm_X9_putAllClocksAtZero (l : Launch) {D : va_G} {A : Nat → Prop} {ad : Nat → Nat} {ks : z_Ks} {s_edgeCount s_moveCount s_isNeeded s_timesDone s_size s_isGoing s_allTime s_stepCount s_gapCount : Int} {g_edges g_moves g_limits : Nat → Option Nat} {a_sfacts a_sbounds a_facts a_zone a_most a_places a_amounts a_nextPlaces a_nextAmounts a_earliest a_visited a_lastSet a_gapFrom a_gapTo a_gapLeast a_askedPlaces a_askedAmounts : Nat → Int} {Y : Nat → Option va_E} (Ha_zone : (∀ j, z_rg (a_zone j))) : z_Met l yX9_putAllClocksAtZero cX9_putAllClocksAtZero 1 none 1 23 0 0 D A 27 ad ks [.ref (ad 10)] (z_zc ad ks s_edgeCount s_moveCount s_isNeeded s_timesDone s_size s_isGoing s_allTime s_stepCount s_gapCount g_edges g_moves g_limits a_sfacts a_sbounds a_facts a_zone a_most a_places a_amounts a_nextPlaces a_nextAmounts a_earliest a_visited a_lastSet a_gapFrom a_gapTo a_gapLeast a_askedPlaces a_askedAmounts) Y (fun r S' Y' => ∃ na_zone : Nat → Int, S' = (z_zc ad ks s_edgeCount s_moveCount s_isNeeded s_timesDone s_size s_isGoing s_allTime s_stepCount s_gapCount g_edges g_moves g_limits a_sfacts a_sbounds a_facts na_zone a_most a_places a_amounts a_nextPlaces a_nextAmounts a_earliest a_visited a_lastSet a_gapFrom a_gapTo a_gapLeast a_askedPlaces a_askedAmounts) ∧ Y = Y' ∧ (∀ j, z_rg (na_zone j)) ∧ r = none) := by
  refine z_start2 (by decide) (Nat.le_of_ble_eq_true rfl) ?_
  intro p e R s m args below meth c Q C hRf hRc hRs hRl hQ hrt hnm
  refine z_loc (L' := [(0, .ref (ad 10))]) [0] rfl ?_
  refine z_aloadn C 0 dX9_putAllClocksAtZero_0 rfl rfl ?_
  refine z_get C 10 (by decide) rfl rfl z_it9 0 (by decide) rfl fl_9_9 rfl dX9_putAllClocksAtZero_1 ?_
  refine z_iconst C dX9_putAllClocksAtZero_4 ?_
  refine z_callS C (cm_J7_fill_53178_11 l 1 Ha_zone (by omega)) mv_9_16 pd_J7_fill_53178 ⟨by omega, by omega⟩ ⟨by omega, by omega⟩ rfl (Nat.le_of_ble_eq_true rfl) dX9_putAllClocksAtZero_5 ?_
  rintro _ _ _ ⟨n1, rfl, rfl, h4, q5_0, rfl⟩
  rw [hQ]
  exact z_vret C hrt dX9_putAllClocksAtZero_8 (⟨n1, rfl, rfl, h4, rfl⟩) (by omega) (by omega)
set_option maxRecDepth 20000 in
theorem cm_X6_allow_15 (l : Launch) {D : va_G} {A : Nat → Prop} {ad : Nat → Nat} {ks : z_Ks} {s_edgeCount s_moveCount s_isNeeded s_timesDone s_size s_isGoing s_allTime s_stepCount s_gapCount : Int} {g_edges g_moves g_limits : Nat → Option Nat} {a_sfacts a_sbounds a_facts a_zone a_most a_places a_amounts a_nextPlaces a_nextAmounts a_earliest a_visited a_lastSet a_gapFrom a_gapTo a_gapLeast a_askedPlaces a_askedAmounts : Nat → Int} {Y : Nat → Option va_E} (q : Nat) (Ha_amounts : (∀ j, 0 ≤ a_amounts j ∧ a_amounts j ≤ 1000000)) (hq : z_TL ks Y q) : z_Met l yX6_allow cX6_allow 3 (some .boolean) 2 41 0 0 D A 27 ad ks [.ref q, .ref (ad 15)] (z_zc ad ks s_edgeCount s_moveCount s_isNeeded s_timesDone s_size s_isGoing s_allTime s_stepCount s_gapCount g_edges g_moves g_limits a_sfacts a_sbounds a_facts a_zone a_most a_places a_amounts a_nextPlaces a_nextAmounts a_earliest a_visited a_lastSet a_gapFrom a_gapTo a_gapLeast a_askedPlaces a_askedAmounts) Y (fun r S' Y' => S' = (z_zc ad ks s_edgeCount s_moveCount s_isNeeded s_timesDone s_size s_isGoing s_allTime s_stepCount s_gapCount g_edges g_moves g_limits a_sfacts a_sbounds a_facts a_zone a_most a_places a_amounts a_nextPlaces a_nextAmounts a_earliest a_visited a_lastSet a_gapFrom a_gapTo a_gapLeast a_askedPlaces a_askedAmounts) ∧ Y = Y' ∧ ∃ z : Int, r = some (z_v z) ∧ (z = 0 ∨ z = 1)) := by
  refine z_start2 (by decide) (Nat.le_of_ble_eq_true rfl) ?_
  intro p e R s m args below meth c Q C hRf hRc hRs hRl hQ hrt hnm
  refine z_loc (L' := [(0, .ref q), (1, .ref (ad 15))]) [0, 1] rfl ?_
  refine z_iconst C dX6_allow_0 ?_
  refine z_istoren (L' := [(2, z_v 0), (0, .ref q), (1, .ref (ad 15))]) C dX6_allow_1 rfl (by decide) rfl ?_
  have L2 : ∀ (n : Nat), ∀ (i2 : Int), (0 ≤ i2 ∧ i2 ≤ 2) → ((2 : Int) - i2).toNat < n → z_V p l e R s m args below meth c Q D A 27 ad 3 (z_zc ad ks s_edgeCount s_moveCount s_isNeeded s_timesDone s_size s_isGoing s_allTime s_stepCount s_gapCount g_edges g_moves g_limits a_sfacts a_sbounds a_facts a_zone a_most a_places a_amounts a_nextPlaces a_nextAmounts a_earliest a_visited a_lastSet a_gapFrom a_gapTo a_gapLeast a_askedPlaces a_askedAmounts) Y 0 0 2 [(0, .ref q), (1, .ref (ad 15)), (2, z_v i2)] [] := by
    intro n
    induction n with
    | zero => intro i2 I2 hm; exact absurd hm (Nat.not_lt_zero _)
    | succ n ih2 =>
      intro i2 I2 hm
      refine z_iloadn C 2 dX6_allow_2 rfl rfl ?_
      refine z_aloadn C 0 dX6_allow_3 rfl rfl ?_
      obtain ⟨td1, nd1, gd1, yd1, wd1, ad1, bd1⟩ := id hq
      refine z_getY C yd1 rfl z_it6 1 (by decide) rfl fl_6_17 rfl dX6_allow_4 ?_
      refine z_icmp_ge (t := 41) C dX6_allow_7 (by decide) (by omega) (by omega) (fun c2 => ?_) (fun c2 => ?_)
      · skip
        refine z_iconst C dX6_allow_41 ?_
        rw [hQ]
        exact z_zret C hrt (by omega) dX6_allow_42 (⟨rfl, rfl, _, rfl, by omega⟩) (by omega) (by omega)
      · skip
        refine z_aloadn C 0 dX6_allow_10 rfl rfl ?_
        refine z_getY C yd1 rfl z_it6 0 (by decide) rfl fl_6_11 rfl dX6_allow_11 ?_
        refine z_iloadn C 2 dX6_allow_14 rfl rfl ?_
        obtain ⟨q3, eq3, hq3⟩ := bd1 (i2 : Int).toNat (by omega)
        refine z_aaldT C 4 wd1 rfl (by decide) (by omega) (by omega) eq3 dX6_allow_15 ?_
        refine z_aloadn C 1 dX6_allow_16 rfl rfl ?_
        refine z_aloadn C 0 dX6_allow_17 rfl rfl ?_
        refine z_getY C yd1 rfl z_it6 0 (by decide) rfl fl_6_11 rfl dX6_allow_18 ?_
        refine z_iloadn C 2 dX6_allow_21 rfl rfl ?_
        obtain ⟨q4, eq4, hq4⟩ := bd1 (i2 : Int).toNat (by omega)
        refine z_aaldT C 4 wd1 rfl (by decide) (by omega) (by omega) eq4 dX6_allow_22 ?_
        obtain ⟨cd5, sd5, nd5, yd5, ad5⟩ := id hq4
        refine z_getY C yd5 rfl z_it5 0 (by decide) rfl fl_6_21 rfl dX6_allow_23 ?_
        refine z_iald C 15 (by decide) rfl (by decide) (by omega) (by omega) dX6_allow_26 ?_
        have rx6 := Ha_amounts (cd5 : Int).toNat
        generalize ex6 : a_amounts (cd5 : Int).toNat = x6 at rx6 ⊢
        obtain ⟨cd7, sd7, nd7, yd7, ad7⟩ := id hq3
        refine z_callV C (cm_X5_allows l x6 q3 hq3 (by omega)) mv_6_24 (z_atY 5 yd7 rfl rfl) pd_X5_allows ⟨by omega, by omega⟩ ⟨by omega, by omega⟩ rfl (Nat.le_of_ble_eq_true rfl) dX6_allow_27 ?_
        rintro _ _ _ ⟨rfl, rfl, z10, rfl, hz10⟩
        refine z_if_ne (t := 35) C dX6_allow_30 (by decide) (by omega) (fun c11 => ?_) (fun c11 => ?_)
        · skip
          refine z_iinc (L' := [(2, z_v (i2 + 1)), (0, .ref q), (1, .ref (ad 15))]) C 2 dX6_allow_35 rfl (by decide) rfl ?_
          refine z_goto (t := 2) C dX6_allow_38 (by decide) ?_
          refine z_loc (L' := [(0, .ref q), (1, .ref (ad 15)), (2, z_v (i2 + 1))]) [1, 2, 0] rfl ?_
          exact ih2 (i2 + 1) (by omega) (by omega)
        · skip
          refine z_iconst C dX6_allow_33 ?_
          rw [hQ]
          exact z_zret C hrt (by omega) dX6_allow_34 (⟨rfl, rfl, _, rfl, by omega⟩) (by omega) (by omega)
  refine z_loc (L' := [(0, .ref q), (1, .ref (ad 15)), (2, z_v 0)]) [1, 2, 0] rfl ?_
  exact (L2 (((2 : Int) - 0).toNat + 1)) 0 (by omega) (Nat.lt_succ_self _)
set_option maxRecDepth 20000 in
theorem cm_X6_allow_17 (l : Launch) {D : va_G} {A : Nat → Prop} {ad : Nat → Nat} {ks : z_Ks} {s_edgeCount s_moveCount s_isNeeded s_timesDone s_size s_isGoing s_allTime s_stepCount s_gapCount : Int} {g_edges g_moves g_limits : Nat → Option Nat} {a_sfacts a_sbounds a_facts a_zone a_most a_places a_amounts a_nextPlaces a_nextAmounts a_earliest a_visited a_lastSet a_gapFrom a_gapTo a_gapLeast a_askedPlaces a_askedAmounts : Nat → Int} {Y : Nat → Option va_E} (q : Nat) (Ha_nextAmounts : (∀ j, 0 ≤ a_nextAmounts j ∧ a_nextAmounts j ≤ 1064000)) (hq : z_TL ks Y q) : z_Met l yX6_allow cX6_allow 3 (some .boolean) 2 41 0 0 D A 27 ad ks [.ref q, .ref (ad 17)] (z_zc ad ks s_edgeCount s_moveCount s_isNeeded s_timesDone s_size s_isGoing s_allTime s_stepCount s_gapCount g_edges g_moves g_limits a_sfacts a_sbounds a_facts a_zone a_most a_places a_amounts a_nextPlaces a_nextAmounts a_earliest a_visited a_lastSet a_gapFrom a_gapTo a_gapLeast a_askedPlaces a_askedAmounts) Y (fun r S' Y' => S' = (z_zc ad ks s_edgeCount s_moveCount s_isNeeded s_timesDone s_size s_isGoing s_allTime s_stepCount s_gapCount g_edges g_moves g_limits a_sfacts a_sbounds a_facts a_zone a_most a_places a_amounts a_nextPlaces a_nextAmounts a_earliest a_visited a_lastSet a_gapFrom a_gapTo a_gapLeast a_askedPlaces a_askedAmounts) ∧ Y = Y' ∧ ∃ z : Int, r = some (z_v z) ∧ (z = 0 ∨ z = 1)) := by
  refine z_start2 (by decide) (Nat.le_of_ble_eq_true rfl) ?_
  intro p e R s m args below meth c Q C hRf hRc hRs hRl hQ hrt hnm
  refine z_loc (L' := [(0, .ref q), (1, .ref (ad 17))]) [0, 1] rfl ?_
  refine z_iconst C dX6_allow_0 ?_
  refine z_istoren (L' := [(2, z_v 0), (0, .ref q), (1, .ref (ad 17))]) C dX6_allow_1 rfl (by decide) rfl ?_
  have L2 : ∀ (n : Nat), ∀ (i2 : Int), (0 ≤ i2 ∧ i2 ≤ 2) → ((2 : Int) - i2).toNat < n → z_V p l e R s m args below meth c Q D A 27 ad 3 (z_zc ad ks s_edgeCount s_moveCount s_isNeeded s_timesDone s_size s_isGoing s_allTime s_stepCount s_gapCount g_edges g_moves g_limits a_sfacts a_sbounds a_facts a_zone a_most a_places a_amounts a_nextPlaces a_nextAmounts a_earliest a_visited a_lastSet a_gapFrom a_gapTo a_gapLeast a_askedPlaces a_askedAmounts) Y 0 0 2 [(0, .ref q), (1, .ref (ad 17)), (2, z_v i2)] [] := by
    intro n
    induction n with
    | zero => intro i2 I2 hm; exact absurd hm (Nat.not_lt_zero _)
    | succ n ih2 =>
      intro i2 I2 hm
      refine z_iloadn C 2 dX6_allow_2 rfl rfl ?_
      refine z_aloadn C 0 dX6_allow_3 rfl rfl ?_
      obtain ⟨td1, nd1, gd1, yd1, wd1, ad1, bd1⟩ := id hq
      refine z_getY C yd1 rfl z_it6 1 (by decide) rfl fl_6_17 rfl dX6_allow_4 ?_
      refine z_icmp_ge (t := 41) C dX6_allow_7 (by decide) (by omega) (by omega) (fun c2 => ?_) (fun c2 => ?_)
      · skip
        refine z_iconst C dX6_allow_41 ?_
        rw [hQ]
        exact z_zret C hrt (by omega) dX6_allow_42 (⟨rfl, rfl, _, rfl, by omega⟩) (by omega) (by omega)
      · skip
        refine z_aloadn C 0 dX6_allow_10 rfl rfl ?_
        refine z_getY C yd1 rfl z_it6 0 (by decide) rfl fl_6_11 rfl dX6_allow_11 ?_
        refine z_iloadn C 2 dX6_allow_14 rfl rfl ?_
        obtain ⟨q3, eq3, hq3⟩ := bd1 (i2 : Int).toNat (by omega)
        refine z_aaldT C 4 wd1 rfl (by decide) (by omega) (by omega) eq3 dX6_allow_15 ?_
        refine z_aloadn C 1 dX6_allow_16 rfl rfl ?_
        refine z_aloadn C 0 dX6_allow_17 rfl rfl ?_
        refine z_getY C yd1 rfl z_it6 0 (by decide) rfl fl_6_11 rfl dX6_allow_18 ?_
        refine z_iloadn C 2 dX6_allow_21 rfl rfl ?_
        obtain ⟨q4, eq4, hq4⟩ := bd1 (i2 : Int).toNat (by omega)
        refine z_aaldT C 4 wd1 rfl (by decide) (by omega) (by omega) eq4 dX6_allow_22 ?_
        obtain ⟨cd5, sd5, nd5, yd5, ad5⟩ := id hq4
        refine z_getY C yd5 rfl z_it5 0 (by decide) rfl fl_6_21 rfl dX6_allow_23 ?_
        refine z_iald C 17 (by decide) rfl (by decide) (by omega) (by omega) dX6_allow_26 ?_
        have rx6 := Ha_nextAmounts (cd5 : Int).toNat
        generalize ex6 : a_nextAmounts (cd5 : Int).toNat = x6 at rx6 ⊢
        obtain ⟨cd7, sd7, nd7, yd7, ad7⟩ := id hq3
        refine z_callV C (cm_X5_allows l x6 q3 hq3 (by omega)) mv_6_24 (z_atY 5 yd7 rfl rfl) pd_X5_allows ⟨by omega, by omega⟩ ⟨by omega, by omega⟩ rfl (Nat.le_of_ble_eq_true rfl) dX6_allow_27 ?_
        rintro _ _ _ ⟨rfl, rfl, z10, rfl, hz10⟩
        refine z_if_ne (t := 35) C dX6_allow_30 (by decide) (by omega) (fun c11 => ?_) (fun c11 => ?_)
        · skip
          refine z_iinc (L' := [(2, z_v (i2 + 1)), (0, .ref q), (1, .ref (ad 17))]) C 2 dX6_allow_35 rfl (by decide) rfl ?_
          refine z_goto (t := 2) C dX6_allow_38 (by decide) ?_
          refine z_loc (L' := [(0, .ref q), (1, .ref (ad 17)), (2, z_v (i2 + 1))]) [1, 2, 0] rfl ?_
          exact ih2 (i2 + 1) (by omega) (by omega)
        · skip
          refine z_iconst C dX6_allow_33 ?_
          rw [hQ]
          exact z_zret C hrt (by omega) dX6_allow_34 (⟨rfl, rfl, _, rfl, by omega⟩) (by omega) (by omega)
  refine z_loc (L' := [(0, .ref q), (1, .ref (ad 17)), (2, z_v 0)]) [1, 2, 0] rfl ?_
  exact (L2 (((2 : Int) - 0).toNat + 1)) 0 (by omega) (Nat.lt_succ_self _)
set_option maxRecDepth 20000 in
theorem cm_X6_narrow (l : Launch) {D : va_G} {A : Nat → Prop} {ad : Nat → Nat} {ks : z_Ks} {s_edgeCount s_moveCount s_isNeeded s_timesDone s_size s_isGoing s_allTime s_stepCount s_gapCount : Int} {g_edges g_moves g_limits : Nat → Option Nat} {a_sfacts a_sbounds a_facts a_zone a_most a_places a_amounts a_nextPlaces a_nextAmounts a_earliest a_visited a_lastSet a_gapFrom a_gapTo a_gapLeast a_askedPlaces a_askedAmounts : Nat → Int} {Y : Nat → Option va_E} (q : Nat) (Ha_zone : (∀ j, z_rg (a_zone j))) (hq : z_TL ks Y q) : z_Met l yX6_narrow cX6_narrow 4 (some .boolean) 2 48 0 0 D A 27 ad ks [.ref q, .ref (ad 10)] (z_zc ad ks s_edgeCount s_moveCount s_isNeeded s_timesDone s_size s_isGoing s_allTime s_stepCount s_gapCount g_edges g_moves g_limits a_sfacts a_sbounds a_facts a_zone a_most a_places a_amounts a_nextPlaces a_nextAmounts a_earliest a_visited a_lastSet a_gapFrom a_gapTo a_gapLeast a_askedPlaces a_askedAmounts) Y (fun r S' Y' => ∃ na_zone : Nat → Int, S' = (z_zc ad ks s_edgeCount s_moveCount s_isNeeded s_timesDone s_size s_isGoing s_allTime s_stepCount s_gapCount g_edges g_moves g_limits a_sfacts a_sbounds a_facts na_zone a_most a_places a_amounts a_nextPlaces a_nextAmounts a_earliest a_visited a_lastSet a_gapFrom a_gapTo a_gapLeast a_askedPlaces a_askedAmounts) ∧ Y = Y' ∧ (∀ j, z_rg (na_zone j)) ∧ ∃ z : Int, r = some (z_v z) ∧ (z = 0 ∨ z = 1)) := by
  refine z_start2 (by decide) (Nat.le_of_ble_eq_true rfl) ?_
  intro p e R s m args below meth c Q C hRf hRc hRs hRl hQ hrt hnm
  refine z_loc (L' := [(0, .ref q), (1, .ref (ad 10))]) [0, 1] rfl ?_
  refine z_iconst C dX6_narrow_0 ?_
  refine z_istoren (L' := [(2, z_v 0), (0, .ref q), (1, .ref (ad 10))]) C dX6_narrow_1 rfl (by decide) rfl ?_
  have L2 : ∀ (n : Nat), ∀ (i2 : Int) (fa_zone : Nat → Int), ((∀ j, z_rg (fa_zone j))) → (0 ≤ i2 ∧ i2 ≤ 2) → ((2 : Int) - i2).toNat < n → z_V p l e R s m args below meth c Q D A 27 ad 4 (z_zc ad ks s_edgeCount s_moveCount s_isNeeded s_timesDone s_size s_isGoing s_allTime s_stepCount s_gapCount g_edges g_moves g_limits a_sfacts a_sbounds a_facts fa_zone a_most a_places a_amounts a_nextPlaces a_nextAmounts a_earliest a_visited a_lastSet a_gapFrom a_gapTo a_gapLeast a_askedPlaces a_askedAmounts) Y 0 0 2 [(0, .ref q), (1, .ref (ad 10)), (2, z_v i2)] [] := by
    intro n
    induction n with
    | zero => intro i2 fa_zone Hfa_zone I2 hm; exact absurd hm (Nat.not_lt_zero _)
    | succ n ih2 =>
      intro i2 fa_zone Hfa_zone I2 hm
      refine z_iloadn C 2 dX6_narrow_2 rfl rfl ?_
      refine z_aloadn C 0 dX6_narrow_3 rfl rfl ?_
      obtain ⟨td1, nd1, gd1, yd1, wd1, ad1, bd1⟩ := id hq
      refine z_getY C yd1 rfl z_it6 1 (by decide) rfl fl_6_17 rfl dX6_narrow_4 ?_
      refine z_icmp_ge (t := 73) C dX6_narrow_7 (by decide) (by omega) (by omega) (fun c2 => ?_) (fun c2 => ?_)
      · skip
        refine z_iconst C dX6_narrow_73 ?_
        rw [hQ]
        exact z_zret C hrt (by omega) dX6_narrow_74 (⟨fa_zone, rfl, rfl, Hfa_zone, _, rfl, by omega⟩) (by omega) (by omega)
      · skip
        refine z_aloadn C 0 dX6_narrow_10 rfl rfl ?_
        refine z_getY C yd1 rfl z_it6 0 (by decide) rfl fl_6_11 rfl dX6_narrow_11 ?_
        refine z_iloadn C 2 dX6_narrow_14 rfl rfl ?_
        obtain ⟨q3, eq3, hq3⟩ := bd1 (i2 : Int).toNat (by omega)
        refine z_aaldT C 4 wd1 rfl (by decide) (by omega) (by omega) eq3 dX6_narrow_15 ?_
        refine z_astoren (L' := [(3, .ref q3), (0, .ref q), (1, .ref (ad 10)), (2, z_v i2)]) C dX6_narrow_16 rfl (by decide) rfl ?_
        refine z_aloadn C 0 dX6_narrow_17 rfl rfl ?_
        obtain ⟨cd4, sd4, nd4, yd4, ad4⟩ := id hq3
        refine z_callV C (cm_X5_isCeiling l q3 hq3) mv_6_28 (z_atY 5 yd4 rfl rfl) pd_X5_isCeiling ⟨by omega, by omega⟩ ⟨by omega, by omega⟩ rfl (Nat.le_of_ble_eq_true rfl) dX6_narrow_18 ?_
        rintro _ _ _ ⟨rfl, rfl, z7, rfl, hz7⟩
        refine z_if_eq (t := 42) C dX6_narrow_21 (by decide) (by omega) (fun c8 => ?_) (fun c8 => ?_)
        · skip
          refine z_aloadn C 0 dX6_narrow_42 rfl rfl ?_
          refine z_callV C (cm_X5_isFloor l q3 hq3) mv_6_42 (z_atY 5 yd4 rfl rfl) pd_X5_isFloor ⟨by omega, by omega⟩ ⟨by omega, by omega⟩ rfl (Nat.le_of_ble_eq_true rfl) dX6_narrow_43 ?_
          rintro _ _ _ ⟨rfl, rfl, z11, rfl, hz11⟩
          refine z_if_eq (t := 67) C dX6_narrow_46 (by decide) (by omega) (fun c12 => ?_) (fun c12 => ?_)
          · skip
            refine z_iinc (L' := [(2, z_v (i2 + 1)), (3, .ref q3), (0, .ref q), (1, .ref (ad 10))]) C 3 dX6_narrow_67 rfl (by decide) rfl ?_
            refine z_goto (t := 2) C dX6_narrow_70 (by decide) ?_
            refine z_loc (L' := [(0, .ref q), (1, .ref (ad 10)), (2, z_v (i2 + 1))]) [2, 3, 0] rfl ?_
            exact ih2 (i2 + 1) fa_zone Hfa_zone (by omega) (by omega)
          · skip
            refine z_aloadn C 2 dX6_narrow_49 rfl rfl ?_
            refine z_iconst C dX6_narrow_50 ?_
            refine z_aloadn C 0 dX6_narrow_51 rfl rfl ?_
            refine z_getY C yd4 rfl z_it5 0 (by decide) rfl fl_6_21 rfl dX6_narrow_52 ?_
            refine z_aloadn C 0 dX6_narrow_55 rfl rfl ?_
            refine z_callV C (cm_X5_floor l q3 hq3) mv_6_45 (z_atY 5 yd4 rfl rfl) pd_X5_floor ⟨by omega, by omega⟩ ⟨by omega, by omega⟩ rfl (Nat.le_of_ble_eq_true rfl) dX6_narrow_56 ?_
            rintro _ _ _ ⟨rfl, rfl, z15, rfl, hz15⟩
            refine z_callV C (cm_X9_narrow l 0 cd4 z15 Hfa_zone (by omega) (by omega) (by omega)) mv_6_36 (z_atS 10 9 (by decide) rfl rfl rfl) pd_X9_narrow ⟨by omega, by omega⟩ ⟨by omega, by omega⟩ rfl (Nat.le_of_ble_eq_true rfl) dX6_narrow_59 ?_
            rintro _ _ _ ⟨n16, rfl, rfl, h19, z20, rfl, hz20⟩
            refine z_if_ne (t := 67) C dX6_narrow_62 (by decide) (by omega) (fun c21 => ?_) (fun c21 => ?_)
            · skip
              refine z_iinc (L' := [(2, z_v (i2 + 1)), (3, .ref q3), (0, .ref q), (1, .ref (ad 10))]) C 3 dX6_narrow_67 rfl (by decide) rfl ?_
              refine z_goto (t := 2) C dX6_narrow_70 (by decide) ?_
              refine z_loc (L' := [(0, .ref q), (1, .ref (ad 10)), (2, z_v (i2 + 1))]) [2, 3, 0] rfl ?_
              exact ih2 (i2 + 1) n16 h19 (by omega) (by omega)
            · skip
              refine z_iconst C dX6_narrow_65 ?_
              rw [hQ]
              exact z_zret C hrt (by omega) dX6_narrow_66 (⟨n16, rfl, rfl, h19, _, rfl, by omega⟩) (by omega) (by omega)
        · skip
          refine z_aloadn C 2 dX6_narrow_24 rfl rfl ?_
          refine z_aloadn C 0 dX6_narrow_25 rfl rfl ?_
          refine z_getY C yd4 rfl z_it5 0 (by decide) rfl fl_6_21 rfl dX6_narrow_26 ?_
          refine z_iconst C dX6_narrow_29 ?_
          refine z_aloadn C 0 dX6_narrow_30 rfl rfl ?_
          refine z_callV C (cm_X5_ceiling l q3 hq3) mv_6_32 (z_atY 5 yd4 rfl rfl) pd_X5_ceiling ⟨by omega, by omega⟩ ⟨by omega, by omega⟩ rfl (Nat.le_of_ble_eq_true rfl) dX6_narrow_31 ?_
          rintro _ _ _ ⟨rfl, rfl, z24, rfl, hz24⟩
          refine z_callV C (cm_X9_narrow l cd4 0 z24 Hfa_zone (by omega) (by omega) (by omega)) mv_6_36 (z_atS 10 9 (by decide) rfl rfl rfl) pd_X9_narrow ⟨by omega, by omega⟩ ⟨by omega, by omega⟩ rfl (Nat.le_of_ble_eq_true rfl) dX6_narrow_34 ?_
          rintro _ _ _ ⟨n25, rfl, rfl, h28, z29, rfl, hz29⟩
          refine z_if_ne (t := 42) C dX6_narrow_37 (by decide) (by omega) (fun c30 => ?_) (fun c30 => ?_)
          · skip
            refine z_aloadn C 0 dX6_narrow_42 rfl rfl ?_
            refine z_callV C (cm_X5_isFloor l q3 hq3) mv_6_42 (z_atY 5 yd4 rfl rfl) pd_X5_isFloor ⟨by omega, by omega⟩ ⟨by omega, by omega⟩ rfl (Nat.le_of_ble_eq_true rfl) dX6_narrow_43 ?_
            rintro _ _ _ ⟨rfl, rfl, z33, rfl, hz33⟩
            refine z_if_eq (t := 67) C dX6_narrow_46 (by decide) (by omega) (fun c34 => ?_) (fun c34 => ?_)
            · skip
              refine z_iinc (L' := [(2, z_v (i2 + 1)), (3, .ref q3), (0, .ref q), (1, .ref (ad 10))]) C 3 dX6_narrow_67 rfl (by decide) rfl ?_
              refine z_goto (t := 2) C dX6_narrow_70 (by decide) ?_
              refine z_loc (L' := [(0, .ref q), (1, .ref (ad 10)), (2, z_v (i2 + 1))]) [2, 3, 0] rfl ?_
              exact ih2 (i2 + 1) n25 h28 (by omega) (by omega)
            · skip
              refine z_aloadn C 2 dX6_narrow_49 rfl rfl ?_
              refine z_iconst C dX6_narrow_50 ?_
              refine z_aloadn C 0 dX6_narrow_51 rfl rfl ?_
              refine z_getY C yd4 rfl z_it5 0 (by decide) rfl fl_6_21 rfl dX6_narrow_52 ?_
              refine z_aloadn C 0 dX6_narrow_55 rfl rfl ?_
              refine z_callV C (cm_X5_floor l q3 hq3) mv_6_45 (z_atY 5 yd4 rfl rfl) pd_X5_floor ⟨by omega, by omega⟩ ⟨by omega, by omega⟩ rfl (Nat.le_of_ble_eq_true rfl) dX6_narrow_56 ?_
              rintro _ _ _ ⟨rfl, rfl, z37, rfl, hz37⟩
              refine z_callV C (cm_X9_narrow l 0 cd4 z37 h28 (by omega) (by omega) (by omega)) mv_6_36 (z_atS 10 9 (by decide) rfl rfl rfl) pd_X9_narrow ⟨by omega, by omega⟩ ⟨by omega, by omega⟩ rfl (Nat.le_of_ble_eq_true rfl) dX6_narrow_59 ?_
              rintro _ _ _ ⟨n38, rfl, rfl, h41, z42, rfl, hz42⟩
              refine z_if_ne (t := 67) C dX6_narrow_62 (by decide) (by omega) (fun c43 => ?_) (fun c43 => ?_)
              · skip
                refine z_iinc (L' := [(2, z_v (i2 + 1)), (3, .ref q3), (0, .ref q), (1, .ref (ad 10))]) C 3 dX6_narrow_67 rfl (by decide) rfl ?_
                refine z_goto (t := 2) C dX6_narrow_70 (by decide) ?_
                refine z_loc (L' := [(0, .ref q), (1, .ref (ad 10)), (2, z_v (i2 + 1))]) [2, 3, 0] rfl ?_
                exact ih2 (i2 + 1) n38 h41 (by omega) (by omega)
              · skip
                refine z_iconst C dX6_narrow_65 ?_
                rw [hQ]
                exact z_zret C hrt (by omega) dX6_narrow_66 (⟨n38, rfl, rfl, h41, _, rfl, by omega⟩) (by omega) (by omega)
          · skip
            refine z_iconst C dX6_narrow_40 ?_
            rw [hQ]
            exact z_zret C hrt (by omega) dX6_narrow_41 (⟨n25, rfl, rfl, h28, _, rfl, by omega⟩) (by omega) (by omega)
  refine z_loc (L' := [(0, .ref q), (1, .ref (ad 10)), (2, z_v 0)]) [1, 2, 0] rfl ?_
  exact (L2 (((2 : Int) - 0).toNat + 1)) 0 a_zone Ha_zone (by omega) (Nat.lt_succ_self _)
set_option maxRecDepth 20000 in
theorem cm_X6_greatestNumber (l : Launch) {D : va_G} {A : Nat → Prop} {ad : Nat → Nat} {ks : z_Ks} {N : Nat} {S : Nat → va_E} {Y : Nat → Option va_E} (x : Int) (q : Nat) (hq : z_TL ks Y q) (hx : z_rg x) : z_Met l yX6_greatestNumber cX6_greatestNumber 4 (some .int) 1 21 0 0 D A N ad ks [.ref q, z_v x] S Y (fun r S' Y' => S' = S ∧ Y = Y' ∧ ∃ z : Int, r = some (z_v z) ∧ (0 ≤ z ∧ z ≤ 1000)) := by
  refine z_start2 (by decide) (Nat.le_of_ble_eq_true rfl) ?_
  intro p e R s m args below meth c Q C hRf hRc hRs hRl hQ hrt hnm
  refine z_loc (L' := [(0, .ref q), (1, z_v x)]) [0, 1] rfl ?_
  refine z_iconst C dX6_greatestNumber_0 ?_
  refine z_istoren (L' := [(2, z_v 0), (0, .ref q), (1, z_v x)]) C dX6_greatestNumber_1 rfl (by decide) rfl ?_
  refine z_iconst C dX6_greatestNumber_2 ?_
  refine z_istoren (L' := [(3, z_v 0), (2, z_v 0), (0, .ref q), (1, z_v x)]) C dX6_greatestNumber_3 rfl (by decide) rfl ?_
  have L4 : ∀ (n : Nat), ∀ (i2 : Int) (i3 : Int), (0 ≤ i3 ∧ i3 ≤ 2) → (0 ≤ i2 ∧ i2 ≤ 1000) → ((2 : Int) - i3).toNat < n → z_V p l e R s m args below meth c Q D A N ad 4 S Y 0 0 4 [(0, .ref q), (1, z_v x), (2, z_v i2), (3, z_v i3)] [] := by
    intro n
    induction n with
    | zero => intro i2 i3 I3 I2 hm; exact absurd hm (Nat.not_lt_zero _)
    | succ n ih4 =>
      intro i2 i3 I3 I2 hm
      refine z_iloadn C 3 dX6_greatestNumber_4 rfl rfl ?_
      refine z_aloadn C 0 dX6_greatestNumber_5 rfl rfl ?_
      obtain ⟨td1, nd1, gd1, yd1, wd1, ad1, bd1⟩ := id hq
      refine z_getY C yd1 rfl z_it6 1 (by decide) rfl fl_6_17 rfl dX6_greatestNumber_6 ?_
      refine z_icmp_ge (t := 45) C dX6_greatestNumber_9 (by decide) (by omega) (by omega) (fun c2 => ?_) (fun c2 => ?_)
      · skip
        refine z_iloadn C 2 dX6_greatestNumber_45 rfl rfl ?_
        rw [hQ]
        exact z_iret C hrt dX6_greatestNumber_46 (⟨rfl, rfl, _, rfl, by omega⟩) (by omega) (by omega)
      · skip
        refine z_aloadn C 0 dX6_greatestNumber_12 rfl rfl ?_
        refine z_getY C yd1 rfl z_it6 0 (by decide) rfl fl_6_11 rfl dX6_greatestNumber_13 ?_
        refine z_iloadn C 3 dX6_greatestNumber_16 rfl rfl ?_
        obtain ⟨q3, eq3, hq3⟩ := bd1 (i3 : Int).toNat (by omega)
        refine z_aaldT C 4 wd1 rfl (by decide) (by omega) (by omega) eq3 dX6_greatestNumber_17 ?_
        obtain ⟨cd4, sd4, nd4, yd4, ad4⟩ := id hq3
        refine z_getY C yd4 rfl z_it5 0 (by decide) rfl fl_6_21 rfl dX6_greatestNumber_18 ?_
        refine z_iloadn C 1 dX6_greatestNumber_21 rfl rfl ?_
        refine z_icmp_ne (t := 39) C dX6_greatestNumber_22 (by decide) (by omega) (by omega) (fun c5 => ?_) (fun c5 => ?_)
        · skip
          refine z_iinc (L' := [(3, z_v (i3 + 1)), (0, .ref q), (1, z_v x), (2, z_v i2)]) C 3 dX6_greatestNumber_39 rfl (by decide) rfl ?_
          refine z_goto (t := 4) C dX6_greatestNumber_42 (by decide) ?_
          refine z_loc (L' := [(0, .ref q), (1, z_v x), (2, z_v i2), (3, z_v (i3 + 1))]) [1, 2, 3, 0] rfl ?_
          exact ih4 i2 (i3 + 1) (by omega) (by omega) (by omega)
        · skip
          refine z_iloadn C 2 dX6_greatestNumber_25 rfl rfl ?_
          refine z_aloadn C 0 dX6_greatestNumber_26 rfl rfl ?_
          refine z_getY C yd1 rfl z_it6 0 (by decide) rfl fl_6_11 rfl dX6_greatestNumber_27 ?_
          refine z_iloadn C 3 dX6_greatestNumber_30 rfl rfl ?_
          obtain ⟨q6, eq6, hq6⟩ := bd1 (i3 : Int).toNat (by omega)
          refine z_aaldT C 4 wd1 rfl (by decide) (by omega) (by omega) eq6 dX6_greatestNumber_31 ?_
          obtain ⟨cd7, sd7, nd7, yd7, ad7⟩ := id hq6
          refine z_getY C yd7 rfl z_it5 2 (by decide) rfl fl_6_48 rfl dX6_greatestNumber_32 ?_
          refine z_max C mm_6_51 (by omega) (by omega) (by omega) (by rw [hRl]; exact Nat.le_of_ble_eq_true rfl) (by omega) (by omega) dX6_greatestNumber_35 ?_
          obtain ⟨x8, ex8⟩ : ∃ z : Int, z = (if i2 < nd7 then nd7 else i2) := ⟨_, rfl⟩
          rw [← ex8]
          have rx8 : (x8 = i2 ∨ x8 = nd7) ∧ i2 ≤ x8 ∧ nd7 ≤ x8 := by split at ex8 <;> omega
          refine z_istoren (L' := [(2, z_v x8), (0, .ref q), (1, z_v x), (3, z_v i3)]) C dX6_greatestNumber_38 rfl (by decide) rfl ?_
          refine z_iinc (L' := [(3, z_v (i3 + 1)), (2, z_v x8), (0, .ref q), (1, z_v x)]) C 3 dX6_greatestNumber_39 rfl (by decide) rfl ?_
          refine z_goto (t := 4) C dX6_greatestNumber_42 (by decide) ?_
          refine z_loc (L' := [(0, .ref q), (1, z_v x), (2, z_v x8), (3, z_v (i3 + 1))]) [2, 3, 1, 0] rfl ?_
          exact ih4 x8 (i3 + 1) (by omega) (by omega) (by omega)
  refine z_loc (L' := [(0, .ref q), (1, z_v x), (2, z_v 0), (3, z_v 0)]) [2, 3, 1, 0] rfl ?_
  exact (L4 (((2 : Int) - 0).toNat + 1)) 0 0 (by omega) (by omega) (Nat.lt_succ_self _)
set_option maxRecDepth 20000 in
theorem cm_X1_startsAt_9 (l : Launch) {D : va_G} {A : Nat → Prop} {ad : Nat → Nat} {ks : z_Ks} {s_edgeCount s_moveCount s_isNeeded s_timesDone s_size s_isGoing s_allTime s_stepCount s_gapCount : Int} {g_edges g_moves g_limits : Nat → Option Nat} {a_sfacts a_sbounds a_facts a_zone a_most a_places a_amounts a_nextPlaces a_nextAmounts a_earliest a_visited a_lastSet a_gapFrom a_gapTo a_gapLeast a_askedPlaces a_askedAmounts : Nat → Int} {Y : Nat → Option va_E} (q : Nat) (Ha_facts : (∀ j, (j % 7 < 3 → 0 ≤ a_facts j ∧ a_facts j ≤ 5) ∧ (j % 7 = 3 → -1 ≤ a_facts j ∧ a_facts j ≤ 119) ∧ (j % 7 = 6 → 0 ≤ a_facts j ∧ a_facts j ≤ 40) ∧ z_rg (a_facts j))) (hq : z_Mv ks Y q) : z_Met l yX1_startsAt cX1_startsAt 2 (some .boolean) 0 0 0 0 D A 27 ad ks [.ref q, .ref (ad 9)] (z_zc ad ks s_edgeCount s_moveCount s_isNeeded s_timesDone s_size s_isGoing s_allTime s_stepCount s_gapCount g_edges g_moves g_limits a_sfacts a_sbounds a_facts a_zone a_most a_places a_amounts a_nextPlaces a_nextAmounts a_earliest a_visited a_lastSet a_gapFrom a_gapTo a_gapLeast a_askedPlaces a_askedAmounts) Y (fun r S' Y' => S' = (z_zc ad ks s_edgeCount s_moveCount s_isNeeded s_timesDone s_size s_isGoing s_allTime s_stepCount s_gapCount g_edges g_moves g_limits a_sfacts a_sbounds a_facts a_zone a_most a_places a_amounts a_nextPlaces a_nextAmounts a_earliest a_visited a_lastSet a_gapFrom a_gapTo a_gapLeast a_askedPlaces a_askedAmounts) ∧ Y = Y' ∧ ∃ z : Int, r = some (z_v z) ∧ (z = 0 ∨ z = 1)) := by
  refine z_start2 (by decide) (Nat.le_of_ble_eq_true rfl) ?_
  intro p e R s m args below meth c Q C hRf hRc hRs hRl hQ hrt hnm
  refine z_loc (L' := [(0, .ref q), (1, .ref (ad 9))]) [0, 1] rfl ?_
  refine z_aloadn C 1 dX1_startsAt_0 rfl rfl ?_
  refine z_aloadn C 0 dX1_startsAt_1 rfl rfl ?_
  obtain ⟨fd1, sd1, pd1, od1, rd1, yd1, ad1, bd1, kd1⟩ := id hq
  rcases od1 with _ | od1
  · skip
    refine z_getY C yd1 rfl z_it1 2 (by decide) rfl fl_1_16 rfl dX1_startsAt_2 ?_
    obtain ⟨md2, fd2, td2, kd2, rd2, gd2, yd2, ad2, bd2⟩ := id bd1
    refine z_getY C yd2 rfl z_it0 0 (by decide) rfl fl_1_29 rfl dX1_startsAt_5 ?_
    refine z_iald C 9 (by decide) rfl (by decide) (by omega) (by omega) dX1_startsAt_8 ?_
    have rx3 := Ha_facts (md2 : Int).toNat
    generalize ex3 : a_facts (md2 : Int).toNat = x3 at rx3 ⊢
    refine z_aloadn C 0 dX1_startsAt_9 rfl rfl ?_
    refine z_getY C yd1 rfl z_it1 2 (by decide) rfl fl_1_16 rfl dX1_startsAt_10 ?_
    refine z_getY C yd2 rfl z_it0 1 (by decide) rfl fl_1_32 rfl dX1_startsAt_13 ?_
    refine z_icmp_ne (t := 49) C dX1_startsAt_16 (by decide) (by omega) (by omega) (fun c4 => ?_) (fun c4 => ?_)
    · skip
      refine z_iconst C dX1_startsAt_49 ?_
      rw [hQ]
      exact z_zret C hrt (by omega) dX1_startsAt_50 (⟨rfl, rfl, _, rfl, by omega⟩) (by omega) (by omega)
    · skip
      refine z_aloadn C 0 dX1_startsAt_19 rfl rfl ?_
      refine z_getY C yd1 rfl z_it1 3 (by decide) rfl fl_1_20 rfl dX1_startsAt_20 ?_
      refine z_ifnullN (t := 45) C dX1_startsAt_23 (by decide) ?_
      refine z_iconst C dX1_startsAt_45 ?_
      refine z_goto (t := 50) C dX1_startsAt_46 (by decide) ?_
      rw [hQ]
      exact z_zret C hrt (by omega) dX1_startsAt_50 (⟨rfl, rfl, _, rfl, by omega⟩) (by omega) (by omega)
  · skip
    refine z_getY C yd1 rfl z_it1 2 (by decide) rfl fl_1_16 rfl dX1_startsAt_2 ?_
    obtain ⟨md5, fd5, td5, kd5, rd5, gd5, yd5, ad5, bd5⟩ := id bd1
    refine z_getY C yd5 rfl z_it0 0 (by decide) rfl fl_1_29 rfl dX1_startsAt_5 ?_
    refine z_iald C 9 (by decide) rfl (by decide) (by omega) (by omega) dX1_startsAt_8 ?_
    have rx6 := Ha_facts (md5 : Int).toNat
    generalize ex6 : a_facts (md5 : Int).toNat = x6 at rx6 ⊢
    refine z_aloadn C 0 dX1_startsAt_9 rfl rfl ?_
    refine z_getY C yd1 rfl z_it1 2 (by decide) rfl fl_1_16 rfl dX1_startsAt_10 ?_
    refine z_getY C yd5 rfl z_it0 1 (by decide) rfl fl_1_32 rfl dX1_startsAt_13 ?_
    refine z_icmp_ne (t := 49) C dX1_startsAt_16 (by decide) (by omega) (by omega) (fun c7 => ?_) (fun c7 => ?_)
    · skip
      refine z_iconst C dX1_startsAt_49 ?_
      rw [hQ]
      exact z_zret C hrt (by omega) dX1_startsAt_50 (⟨rfl, rfl, _, rfl, by omega⟩) (by omega) (by omega)
    · skip
      refine z_aloadn C 0 dX1_startsAt_19 rfl rfl ?_
      refine z_getY C yd1 rfl z_it1 3 (by decide) rfl fl_1_20 rfl dX1_startsAt_20 ?_
      refine z_ifnull C dX1_startsAt_23 ?_
      refine z_aloadn C 1 dX1_startsAt_26 rfl rfl ?_
      refine z_aloadn C 0 dX1_startsAt_27 rfl rfl ?_
      refine z_getY C yd1 rfl z_it1 3 (by decide) rfl fl_1_20 rfl dX1_startsAt_28 ?_
      obtain ⟨md8, fd8, td8, kd8, rd8, gd8, yd8, ad8, bd8⟩ := id (kd1 _ rfl)
      refine z_getY C yd8 rfl z_it0 0 (by decide) rfl fl_1_29 rfl dX1_startsAt_31 ?_
      refine z_iald C 9 (by decide) rfl (by decide) (by omega) (by omega) dX1_startsAt_34 ?_
      have rx9 := Ha_facts (md8 : Int).toNat
      generalize ex9 : a_facts (md8 : Int).toNat = x9 at rx9 ⊢
      refine z_aloadn C 0 dX1_startsAt_35 rfl rfl ?_
      refine z_getY C yd1 rfl z_it1 3 (by decide) rfl fl_1_20 rfl dX1_startsAt_36 ?_
      refine z_getY C yd8 rfl z_it0 1 (by decide) rfl fl_1_32 rfl dX1_startsAt_39 ?_
      refine z_icmp_ne (t := 49) C dX1_startsAt_42 (by decide) (by omega) (by omega) (fun c10 => ?_) (fun c10 => ?_)
      · skip
        refine z_iconst C dX1_startsAt_49 ?_
        rw [hQ]
        exact z_zret C hrt (by omega) dX1_startsAt_50 (⟨rfl, rfl, _, rfl, by omega⟩) (by omega) (by omega)
      · skip
        refine z_iconst C dX1_startsAt_45 ?_
        refine z_goto (t := 50) C dX1_startsAt_46 (by decide) ?_
        rw [hQ]
        exact z_zret C hrt (by omega) dX1_startsAt_50 (⟨rfl, rfl, _, rfl, by omega⟩) (by omega) (by omega)
set_option maxRecDepth 20000 in
theorem cm_X1_startsAt_14 (l : Launch) {D : va_G} {A : Nat → Prop} {ad : Nat → Nat} {ks : z_Ks} {s_edgeCount s_moveCount s_isNeeded s_timesDone s_size s_isGoing s_allTime s_stepCount s_gapCount : Int} {g_edges g_moves g_limits : Nat → Option Nat} {a_sfacts a_sbounds a_facts a_zone a_most a_places a_amounts a_nextPlaces a_nextAmounts a_earliest a_visited a_lastSet a_gapFrom a_gapTo a_gapLeast a_askedPlaces a_askedAmounts : Nat → Int} {Y : Nat → Option va_E} (q : Nat) (Ha_places : (∀ j, 0 ≤ a_places j ∧ a_places j ≤ 5)) (hq : z_Mv ks Y q) : z_Met l yX1_startsAt cX1_startsAt 2 (some .boolean) 0 0 0 0 D A 27 ad ks [.ref q, .ref (ad 14)] (z_zc ad ks s_edgeCount s_moveCount s_isNeeded s_timesDone s_size s_isGoing s_allTime s_stepCount s_gapCount g_edges g_moves g_limits a_sfacts a_sbounds a_facts a_zone a_most a_places a_amounts a_nextPlaces a_nextAmounts a_earliest a_visited a_lastSet a_gapFrom a_gapTo a_gapLeast a_askedPlaces a_askedAmounts) Y (fun r S' Y' => S' = (z_zc ad ks s_edgeCount s_moveCount s_isNeeded s_timesDone s_size s_isGoing s_allTime s_stepCount s_gapCount g_edges g_moves g_limits a_sfacts a_sbounds a_facts a_zone a_most a_places a_amounts a_nextPlaces a_nextAmounts a_earliest a_visited a_lastSet a_gapFrom a_gapTo a_gapLeast a_askedPlaces a_askedAmounts) ∧ Y = Y' ∧ ∃ z : Int, r = some (z_v z) ∧ (z = 0 ∨ z = 1)) := by
  refine z_start2 (by decide) (Nat.le_of_ble_eq_true rfl) ?_
  intro p e R s m args below meth c Q C hRf hRc hRs hRl hQ hrt hnm
  refine z_loc (L' := [(0, .ref q), (1, .ref (ad 14))]) [0, 1] rfl ?_
  refine z_aloadn C 1 dX1_startsAt_0 rfl rfl ?_
  refine z_aloadn C 0 dX1_startsAt_1 rfl rfl ?_
  obtain ⟨fd1, sd1, pd1, od1, rd1, yd1, ad1, bd1, kd1⟩ := id hq
  rcases od1 with _ | od1
  · skip
    refine z_getY C yd1 rfl z_it1 2 (by decide) rfl fl_1_16 rfl dX1_startsAt_2 ?_
    obtain ⟨md2, fd2, td2, kd2, rd2, gd2, yd2, ad2, bd2⟩ := id bd1
    refine z_getY C yd2 rfl z_it0 0 (by decide) rfl fl_1_29 rfl dX1_startsAt_5 ?_
    refine z_iald C 14 (by decide) rfl (by decide) (by omega) (by omega) dX1_startsAt_8 ?_
    have rx3 := Ha_places (md2 : Int).toNat
    generalize ex3 : a_places (md2 : Int).toNat = x3 at rx3 ⊢
    refine z_aloadn C 0 dX1_startsAt_9 rfl rfl ?_
    refine z_getY C yd1 rfl z_it1 2 (by decide) rfl fl_1_16 rfl dX1_startsAt_10 ?_
    refine z_getY C yd2 rfl z_it0 1 (by decide) rfl fl_1_32 rfl dX1_startsAt_13 ?_
    refine z_icmp_ne (t := 49) C dX1_startsAt_16 (by decide) (by omega) (by omega) (fun c4 => ?_) (fun c4 => ?_)
    · skip
      refine z_iconst C dX1_startsAt_49 ?_
      rw [hQ]
      exact z_zret C hrt (by omega) dX1_startsAt_50 (⟨rfl, rfl, _, rfl, by omega⟩) (by omega) (by omega)
    · skip
      refine z_aloadn C 0 dX1_startsAt_19 rfl rfl ?_
      refine z_getY C yd1 rfl z_it1 3 (by decide) rfl fl_1_20 rfl dX1_startsAt_20 ?_
      refine z_ifnullN (t := 45) C dX1_startsAt_23 (by decide) ?_
      refine z_iconst C dX1_startsAt_45 ?_
      refine z_goto (t := 50) C dX1_startsAt_46 (by decide) ?_
      rw [hQ]
      exact z_zret C hrt (by omega) dX1_startsAt_50 (⟨rfl, rfl, _, rfl, by omega⟩) (by omega) (by omega)
  · skip
    refine z_getY C yd1 rfl z_it1 2 (by decide) rfl fl_1_16 rfl dX1_startsAt_2 ?_
    obtain ⟨md5, fd5, td5, kd5, rd5, gd5, yd5, ad5, bd5⟩ := id bd1
    refine z_getY C yd5 rfl z_it0 0 (by decide) rfl fl_1_29 rfl dX1_startsAt_5 ?_
    refine z_iald C 14 (by decide) rfl (by decide) (by omega) (by omega) dX1_startsAt_8 ?_
    have rx6 := Ha_places (md5 : Int).toNat
    generalize ex6 : a_places (md5 : Int).toNat = x6 at rx6 ⊢
    refine z_aloadn C 0 dX1_startsAt_9 rfl rfl ?_
    refine z_getY C yd1 rfl z_it1 2 (by decide) rfl fl_1_16 rfl dX1_startsAt_10 ?_
    refine z_getY C yd5 rfl z_it0 1 (by decide) rfl fl_1_32 rfl dX1_startsAt_13 ?_
    refine z_icmp_ne (t := 49) C dX1_startsAt_16 (by decide) (by omega) (by omega) (fun c7 => ?_) (fun c7 => ?_)
    · skip
      refine z_iconst C dX1_startsAt_49 ?_
      rw [hQ]
      exact z_zret C hrt (by omega) dX1_startsAt_50 (⟨rfl, rfl, _, rfl, by omega⟩) (by omega) (by omega)
    · skip
      refine z_aloadn C 0 dX1_startsAt_19 rfl rfl ?_
      refine z_getY C yd1 rfl z_it1 3 (by decide) rfl fl_1_20 rfl dX1_startsAt_20 ?_
      refine z_ifnull C dX1_startsAt_23 ?_
      refine z_aloadn C 1 dX1_startsAt_26 rfl rfl ?_
      refine z_aloadn C 0 dX1_startsAt_27 rfl rfl ?_
      refine z_getY C yd1 rfl z_it1 3 (by decide) rfl fl_1_20 rfl dX1_startsAt_28 ?_
      obtain ⟨md8, fd8, td8, kd8, rd8, gd8, yd8, ad8, bd8⟩ := id (kd1 _ rfl)
      refine z_getY C yd8 rfl z_it0 0 (by decide) rfl fl_1_29 rfl dX1_startsAt_31 ?_
      refine z_iald C 14 (by decide) rfl (by decide) (by omega) (by omega) dX1_startsAt_34 ?_
      have rx9 := Ha_places (md8 : Int).toNat
      generalize ex9 : a_places (md8 : Int).toNat = x9 at rx9 ⊢
      refine z_aloadn C 0 dX1_startsAt_35 rfl rfl ?_
      refine z_getY C yd1 rfl z_it1 3 (by decide) rfl fl_1_20 rfl dX1_startsAt_36 ?_
      refine z_getY C yd8 rfl z_it0 1 (by decide) rfl fl_1_32 rfl dX1_startsAt_39 ?_
      refine z_icmp_ne (t := 49) C dX1_startsAt_42 (by decide) (by omega) (by omega) (fun c10 => ?_) (fun c10 => ?_)
      · skip
        refine z_iconst C dX1_startsAt_49 ?_
        rw [hQ]
        exact z_zret C hrt (by omega) dX1_startsAt_50 (⟨rfl, rfl, _, rfl, by omega⟩) (by omega) (by omega)
      · skip
        refine z_iconst C dX1_startsAt_45 ?_
        refine z_goto (t := 50) C dX1_startsAt_46 (by decide) ?_
        rw [hQ]
        exact z_zret C hrt (by omega) dX1_startsAt_50 (⟨rfl, rfl, _, rfl, by omega⟩) (by omega) (by omega)
set_option maxRecDepth 20000 in
theorem cm_X1_carry_9 (l : Launch) {D : va_G} {A : Nat → Prop} {ad : Nat → Nat} {ks : z_Ks} {s_edgeCount s_moveCount s_isNeeded s_timesDone s_size s_isGoing s_allTime s_stepCount s_gapCount : Int} {g_edges g_moves g_limits : Nat → Option Nat} {a_sfacts a_sbounds a_facts a_zone a_most a_places a_amounts a_nextPlaces a_nextAmounts a_earliest a_visited a_lastSet a_gapFrom a_gapTo a_gapLeast a_askedPlaces a_askedAmounts : Nat → Int} {Y : Nat → Option va_E} (q : Nat) (Ha_facts : (∀ j, (j % 7 < 3 → 0 ≤ a_facts j ∧ a_facts j ≤ 5) ∧ (j % 7 = 3 → -1 ≤ a_facts j ∧ a_facts j ≤ 119) ∧ (j % 7 = 6 → 0 ≤ a_facts j ∧ a_facts j ≤ 40) ∧ z_rg (a_facts j))) (hq : z_Mv ks Y q) : z_Met l yX1_carry cX1_carry 2 none 0 0 0 0 D A 27 ad ks [.ref q, .ref (ad 9)] (z_zc ad ks s_edgeCount s_moveCount s_isNeeded s_timesDone s_size s_isGoing s_allTime s_stepCount s_gapCount g_edges g_moves g_limits a_sfacts a_sbounds a_facts a_zone a_most a_places a_amounts a_nextPlaces a_nextAmounts a_earliest a_visited a_lastSet a_gapFrom a_gapTo a_gapLeast a_askedPlaces a_askedAmounts) Y (fun r S' Y' => ∃ na_facts : Nat → Int, S' = (z_zc ad ks s_edgeCount s_moveCount s_isNeeded s_timesDone s_size s_isGoing s_allTime s_stepCount s_gapCount g_edges g_moves g_limits a_sfacts a_sbounds na_facts a_zone a_most a_places a_amounts a_nextPlaces a_nextAmounts a_earliest a_visited a_lastSet a_gapFrom a_gapTo a_gapLeast a_askedPlaces a_askedAmounts) ∧ Y = Y' ∧ (∀ j, (j % 7 < 3 → 0 ≤ na_facts j ∧ na_facts j ≤ 5) ∧ (j % 7 = 3 → -1 ≤ na_facts j ∧ na_facts j ≤ 119) ∧ (j % 7 = 6 → 0 ≤ na_facts j ∧ na_facts j ≤ 40) ∧ z_rg (na_facts j)) ∧ (∀ j : Nat, 3 ≤ j → na_facts j = a_facts j) ∧ r = none) := by
  refine z_start2 (by decide) (Nat.le_of_ble_eq_true rfl) ?_
  intro p e R s m args below meth c Q C hRf hRc hRs hRl hQ hrt hnm
  refine z_loc (L' := [(0, .ref q), (1, .ref (ad 9))]) [0, 1] rfl ?_
  refine z_aloadn C 1 dX1_carry_0 rfl rfl ?_
  refine z_aloadn C 0 dX1_carry_1 rfl rfl ?_
  obtain ⟨fd1, sd1, pd1, od1, rd1, yd1, ad1, bd1, kd1⟩ := id hq
  rcases od1 with _ | od1
  · skip
    refine z_getY C yd1 rfl z_it1 2 (by decide) rfl fl_1_16 rfl dX1_carry_2 ?_
    obtain ⟨md2, fd2, td2, kd2, rd2, gd2, yd2, ad2, bd2⟩ := id bd1
    refine z_getY C yd2 rfl z_it0 0 (by decide) rfl fl_1_29 rfl dX1_carry_5 ?_
    refine z_aloadn C 0 dX1_carry_8 rfl rfl ?_
    refine z_getY C yd1 rfl z_it1 2 (by decide) rfl fl_1_16 rfl dX1_carry_9 ?_
    refine z_getY C yd2 rfl z_it0 2 (by decide) rfl fl_1_35 rfl dX1_carry_12 ?_
    refine z_iast C 9 (by decide) rfl (by decide) (by omega) (by omega) dX1_carry_15 ?_
    refine z_ext (S' := (z_zc ad ks s_edgeCount s_moveCount s_isNeeded s_timesDone s_size s_isGoing s_allTime s_stepCount s_gapCount g_edges g_moves g_limits a_sfacts a_sbounds (va_up a_facts (md2 : Int).toNat td2) a_zone a_most a_places a_amounts a_nextPlaces a_nextAmounts a_earliest a_visited a_lastSet a_gapFrom a_gapTo a_gapLeast a_askedPlaces a_askedAmounts)) upC_a_facts ?_
    have h3 : ∀ j, (j % 7 < 3 → 0 ≤ (va_up a_facts (md2 : Int).toNat td2) j ∧ (va_up a_facts (md2 : Int).toNat td2) j ≤ 5) ∧ (j % 7 = 3 → -1 ≤ (va_up a_facts (md2 : Int).toNat td2) j ∧ (va_up a_facts (md2 : Int).toNat td2) j ≤ 119) ∧ (j % 7 = 6 → 0 ≤ (va_up a_facts (md2 : Int).toNat td2) j ∧ (va_up a_facts (md2 : Int).toNat td2) j ≤ 40) ∧ z_rg ((va_up a_facts (md2 : Int).toNat td2) j) := z_upP (P := fun j v => (j % 7 < 3 → 0 ≤ v ∧ v ≤ 5) ∧ (j % 7 = 3 → -1 ≤ v ∧ v ≤ 119) ∧ (j % 7 = 6 → 0 ≤ v ∧ v ≤ 40) ∧ z_rg (v)) Ha_facts (by omega)
    refine z_aloadn C 0 dX1_carry_16 rfl rfl ?_
    refine z_getY C yd1 rfl z_it1 3 (by decide) rfl fl_1_20 rfl dX1_carry_17 ?_
    refine z_ifnullN (t := 39) C dX1_carry_20 (by decide) ?_
    rw [hQ]
    exact z_vret C hrt dX1_carry_39 (⟨(va_up a_facts (md2 : Int).toNat td2), rfl, rfl, h3, fun j hj => by simp only [va_up]; (repeat rw [if_neg (by omega)]), rfl⟩) (by omega) (by omega)
  · skip
    refine z_getY C yd1 rfl z_it1 2 (by decide) rfl fl_1_16 rfl dX1_carry_2 ?_
    obtain ⟨md4, fd4, td4, kd4, rd4, gd4, yd4, ad4, bd4⟩ := id bd1
    refine z_getY C yd4 rfl z_it0 0 (by decide) rfl fl_1_29 rfl dX1_carry_5 ?_
    refine z_aloadn C 0 dX1_carry_8 rfl rfl ?_
    refine z_getY C yd1 rfl z_it1 2 (by decide) rfl fl_1_16 rfl dX1_carry_9 ?_
    refine z_getY C yd4 rfl z_it0 2 (by decide) rfl fl_1_35 rfl dX1_carry_12 ?_
    refine z_iast C 9 (by decide) rfl (by decide) (by omega) (by omega) dX1_carry_15 ?_
    refine z_ext (S' := (z_zc ad ks s_edgeCount s_moveCount s_isNeeded s_timesDone s_size s_isGoing s_allTime s_stepCount s_gapCount g_edges g_moves g_limits a_sfacts a_sbounds (va_up a_facts (md4 : Int).toNat td4) a_zone a_most a_places a_amounts a_nextPlaces a_nextAmounts a_earliest a_visited a_lastSet a_gapFrom a_gapTo a_gapLeast a_askedPlaces a_askedAmounts)) upC_a_facts ?_
    have h5 : ∀ j, (j % 7 < 3 → 0 ≤ (va_up a_facts (md4 : Int).toNat td4) j ∧ (va_up a_facts (md4 : Int).toNat td4) j ≤ 5) ∧ (j % 7 = 3 → -1 ≤ (va_up a_facts (md4 : Int).toNat td4) j ∧ (va_up a_facts (md4 : Int).toNat td4) j ≤ 119) ∧ (j % 7 = 6 → 0 ≤ (va_up a_facts (md4 : Int).toNat td4) j ∧ (va_up a_facts (md4 : Int).toNat td4) j ≤ 40) ∧ z_rg ((va_up a_facts (md4 : Int).toNat td4) j) := z_upP (P := fun j v => (j % 7 < 3 → 0 ≤ v ∧ v ≤ 5) ∧ (j % 7 = 3 → -1 ≤ v ∧ v ≤ 119) ∧ (j % 7 = 6 → 0 ≤ v ∧ v ≤ 40) ∧ z_rg (v)) Ha_facts (by omega)
    refine z_aloadn C 0 dX1_carry_16 rfl rfl ?_
    refine z_getY C yd1 rfl z_it1 3 (by decide) rfl fl_1_20 rfl dX1_carry_17 ?_
    refine z_ifnull C dX1_carry_20 ?_
    refine z_aloadn C 1 dX1_carry_23 rfl rfl ?_
    refine z_aloadn C 0 dX1_carry_24 rfl rfl ?_
    refine z_getY C yd1 rfl z_it1 3 (by decide) rfl fl_1_20 rfl dX1_carry_25 ?_
    obtain ⟨md6, fd6, td6, kd6, rd6, gd6, yd6, ad6, bd6⟩ := id (kd1 _ rfl)
    refine z_getY C yd6 rfl z_it0 0 (by decide) rfl fl_1_29 rfl dX1_carry_28 ?_
    refine z_aloadn C 0 dX1_carry_31 rfl rfl ?_
    refine z_getY C yd1 rfl z_it1 3 (by decide) rfl fl_1_20 rfl dX1_carry_32 ?_
    refine z_getY C yd6 rfl z_it0 2 (by decide) rfl fl_1_35 rfl dX1_carry_35 ?_
    refine z_iast C 9 (by decide) rfl (by decide) (by omega) (by omega) dX1_carry_38 ?_
    refine z_ext (S' := (z_zc ad ks s_edgeCount s_moveCount s_isNeeded s_timesDone s_size s_isGoing s_allTime s_stepCount s_gapCount g_edges g_moves g_limits a_sfacts a_sbounds (va_up (va_up a_facts (md4 : Int).toNat td4) (md6 : Int).toNat td6) a_zone a_most a_places a_amounts a_nextPlaces a_nextAmounts a_earliest a_visited a_lastSet a_gapFrom a_gapTo a_gapLeast a_askedPlaces a_askedAmounts)) upC_a_facts ?_
    have h7 : ∀ j, (j % 7 < 3 → 0 ≤ (va_up (va_up a_facts (md4 : Int).toNat td4) (md6 : Int).toNat td6) j ∧ (va_up (va_up a_facts (md4 : Int).toNat td4) (md6 : Int).toNat td6) j ≤ 5) ∧ (j % 7 = 3 → -1 ≤ (va_up (va_up a_facts (md4 : Int).toNat td4) (md6 : Int).toNat td6) j ∧ (va_up (va_up a_facts (md4 : Int).toNat td4) (md6 : Int).toNat td6) j ≤ 119) ∧ (j % 7 = 6 → 0 ≤ (va_up (va_up a_facts (md4 : Int).toNat td4) (md6 : Int).toNat td6) j ∧ (va_up (va_up a_facts (md4 : Int).toNat td4) (md6 : Int).toNat td6) j ≤ 40) ∧ z_rg ((va_up (va_up a_facts (md4 : Int).toNat td4) (md6 : Int).toNat td6) j) := z_upP (P := fun j v => (j % 7 < 3 → 0 ≤ v ∧ v ≤ 5) ∧ (j % 7 = 3 → -1 ≤ v ∧ v ≤ 119) ∧ (j % 7 = 6 → 0 ≤ v ∧ v ≤ 40) ∧ z_rg (v)) h5 (by omega)
    rw [hQ]
    exact z_vret C hrt dX1_carry_39 (⟨(va_up (va_up a_facts (md4 : Int).toNat td4) (md6 : Int).toNat td6), rfl, rfl, h7, fun j hj => by simp only [va_up]; (repeat rw [if_neg (by omega)]), rfl⟩) (by omega) (by omega)
set_option maxRecDepth 20000 in
theorem cm_X1_carry_16 (l : Launch) {D : va_G} {A : Nat → Prop} {ad : Nat → Nat} {ks : z_Ks} {s_edgeCount s_moveCount s_isNeeded s_timesDone s_size s_isGoing s_allTime s_stepCount s_gapCount : Int} {g_edges g_moves g_limits : Nat → Option Nat} {a_sfacts a_sbounds a_facts a_zone a_most a_places a_amounts a_nextPlaces a_nextAmounts a_earliest a_visited a_lastSet a_gapFrom a_gapTo a_gapLeast a_askedPlaces a_askedAmounts : Nat → Int} {Y : Nat → Option va_E} (q : Nat) (Ha_nextPlaces : (∀ j, 0 ≤ a_nextPlaces j ∧ a_nextPlaces j ≤ 5)) (hq : z_Mv ks Y q) : z_Met l yX1_carry cX1_carry 2 none 0 0 0 0 D A 27 ad ks [.ref q, .ref (ad 16)] (z_zc ad ks s_edgeCount s_moveCount s_isNeeded s_timesDone s_size s_isGoing s_allTime s_stepCount s_gapCount g_edges g_moves g_limits a_sfacts a_sbounds a_facts a_zone a_most a_places a_amounts a_nextPlaces a_nextAmounts a_earliest a_visited a_lastSet a_gapFrom a_gapTo a_gapLeast a_askedPlaces a_askedAmounts) Y (fun r S' Y' => ∃ na_nextPlaces : Nat → Int, S' = (z_zc ad ks s_edgeCount s_moveCount s_isNeeded s_timesDone s_size s_isGoing s_allTime s_stepCount s_gapCount g_edges g_moves g_limits a_sfacts a_sbounds a_facts a_zone a_most a_places a_amounts na_nextPlaces a_nextAmounts a_earliest a_visited a_lastSet a_gapFrom a_gapTo a_gapLeast a_askedPlaces a_askedAmounts) ∧ Y = Y' ∧ (∀ j, 0 ≤ na_nextPlaces j ∧ na_nextPlaces j ≤ 5) ∧ (∀ j : Nat, 3 ≤ j → na_nextPlaces j = a_nextPlaces j) ∧ r = none) := by
  refine z_start2 (by decide) (Nat.le_of_ble_eq_true rfl) ?_
  intro p e R s m args below meth c Q C hRf hRc hRs hRl hQ hrt hnm
  refine z_loc (L' := [(0, .ref q), (1, .ref (ad 16))]) [0, 1] rfl ?_
  refine z_aloadn C 1 dX1_carry_0 rfl rfl ?_
  refine z_aloadn C 0 dX1_carry_1 rfl rfl ?_
  obtain ⟨fd1, sd1, pd1, od1, rd1, yd1, ad1, bd1, kd1⟩ := id hq
  rcases od1 with _ | od1
  · skip
    refine z_getY C yd1 rfl z_it1 2 (by decide) rfl fl_1_16 rfl dX1_carry_2 ?_
    obtain ⟨md2, fd2, td2, kd2, rd2, gd2, yd2, ad2, bd2⟩ := id bd1
    refine z_getY C yd2 rfl z_it0 0 (by decide) rfl fl_1_29 rfl dX1_carry_5 ?_
    refine z_aloadn C 0 dX1_carry_8 rfl rfl ?_
    refine z_getY C yd1 rfl z_it1 2 (by decide) rfl fl_1_16 rfl dX1_carry_9 ?_
    refine z_getY C yd2 rfl z_it0 2 (by decide) rfl fl_1_35 rfl dX1_carry_12 ?_
    refine z_iast C 16 (by decide) rfl (by decide) (by omega) (by omega) dX1_carry_15 ?_
    refine z_ext (S' := (z_zc ad ks s_edgeCount s_moveCount s_isNeeded s_timesDone s_size s_isGoing s_allTime s_stepCount s_gapCount g_edges g_moves g_limits a_sfacts a_sbounds a_facts a_zone a_most a_places a_amounts (va_up a_nextPlaces (md2 : Int).toNat td2) a_nextAmounts a_earliest a_visited a_lastSet a_gapFrom a_gapTo a_gapLeast a_askedPlaces a_askedAmounts)) upC_a_nextPlaces ?_
    have h3 : ∀ j, 0 ≤ (va_up a_nextPlaces (md2 : Int).toNat td2) j ∧ (va_up a_nextPlaces (md2 : Int).toNat td2) j ≤ 5 := z_upP (P := fun j v => 0 ≤ v ∧ v ≤ 5) Ha_nextPlaces (by omega)
    refine z_aloadn C 0 dX1_carry_16 rfl rfl ?_
    refine z_getY C yd1 rfl z_it1 3 (by decide) rfl fl_1_20 rfl dX1_carry_17 ?_
    refine z_ifnullN (t := 39) C dX1_carry_20 (by decide) ?_
    rw [hQ]
    exact z_vret C hrt dX1_carry_39 (⟨(va_up a_nextPlaces (md2 : Int).toNat td2), rfl, rfl, h3, fun j hj => by simp only [va_up]; (repeat rw [if_neg (by omega)]), rfl⟩) (by omega) (by omega)
  · skip
    refine z_getY C yd1 rfl z_it1 2 (by decide) rfl fl_1_16 rfl dX1_carry_2 ?_
    obtain ⟨md4, fd4, td4, kd4, rd4, gd4, yd4, ad4, bd4⟩ := id bd1
    refine z_getY C yd4 rfl z_it0 0 (by decide) rfl fl_1_29 rfl dX1_carry_5 ?_
    refine z_aloadn C 0 dX1_carry_8 rfl rfl ?_
    refine z_getY C yd1 rfl z_it1 2 (by decide) rfl fl_1_16 rfl dX1_carry_9 ?_
    refine z_getY C yd4 rfl z_it0 2 (by decide) rfl fl_1_35 rfl dX1_carry_12 ?_
    refine z_iast C 16 (by decide) rfl (by decide) (by omega) (by omega) dX1_carry_15 ?_
    refine z_ext (S' := (z_zc ad ks s_edgeCount s_moveCount s_isNeeded s_timesDone s_size s_isGoing s_allTime s_stepCount s_gapCount g_edges g_moves g_limits a_sfacts a_sbounds a_facts a_zone a_most a_places a_amounts (va_up a_nextPlaces (md4 : Int).toNat td4) a_nextAmounts a_earliest a_visited a_lastSet a_gapFrom a_gapTo a_gapLeast a_askedPlaces a_askedAmounts)) upC_a_nextPlaces ?_
    have h5 : ∀ j, 0 ≤ (va_up a_nextPlaces (md4 : Int).toNat td4) j ∧ (va_up a_nextPlaces (md4 : Int).toNat td4) j ≤ 5 := z_upP (P := fun j v => 0 ≤ v ∧ v ≤ 5) Ha_nextPlaces (by omega)
    refine z_aloadn C 0 dX1_carry_16 rfl rfl ?_
    refine z_getY C yd1 rfl z_it1 3 (by decide) rfl fl_1_20 rfl dX1_carry_17 ?_
    refine z_ifnull C dX1_carry_20 ?_
    refine z_aloadn C 1 dX1_carry_23 rfl rfl ?_
    refine z_aloadn C 0 dX1_carry_24 rfl rfl ?_
    refine z_getY C yd1 rfl z_it1 3 (by decide) rfl fl_1_20 rfl dX1_carry_25 ?_
    obtain ⟨md6, fd6, td6, kd6, rd6, gd6, yd6, ad6, bd6⟩ := id (kd1 _ rfl)
    refine z_getY C yd6 rfl z_it0 0 (by decide) rfl fl_1_29 rfl dX1_carry_28 ?_
    refine z_aloadn C 0 dX1_carry_31 rfl rfl ?_
    refine z_getY C yd1 rfl z_it1 3 (by decide) rfl fl_1_20 rfl dX1_carry_32 ?_
    refine z_getY C yd6 rfl z_it0 2 (by decide) rfl fl_1_35 rfl dX1_carry_35 ?_
    refine z_iast C 16 (by decide) rfl (by decide) (by omega) (by omega) dX1_carry_38 ?_
    refine z_ext (S' := (z_zc ad ks s_edgeCount s_moveCount s_isNeeded s_timesDone s_size s_isGoing s_allTime s_stepCount s_gapCount g_edges g_moves g_limits a_sfacts a_sbounds a_facts a_zone a_most a_places a_amounts (va_up (va_up a_nextPlaces (md4 : Int).toNat td4) (md6 : Int).toNat td6) a_nextAmounts a_earliest a_visited a_lastSet a_gapFrom a_gapTo a_gapLeast a_askedPlaces a_askedAmounts)) upC_a_nextPlaces ?_
    have h7 : ∀ j, 0 ≤ (va_up (va_up a_nextPlaces (md4 : Int).toNat td4) (md6 : Int).toNat td6) j ∧ (va_up (va_up a_nextPlaces (md4 : Int).toNat td4) (md6 : Int).toNat td6) j ≤ 5 := z_upP (P := fun j v => 0 ≤ v ∧ v ≤ 5) h5 (by omega)
    rw [hQ]
    exact z_vret C hrt dX1_carry_39 (⟨(va_up (va_up a_nextPlaces (md4 : Int).toNat td4) (md6 : Int).toNat td6), rfl, rfl, h7, fun j hj => by simp only [va_up]; (repeat rw [if_neg (by omega)]), rfl⟩) (by omega) (by omega)
set_option maxRecDepth 20000 in
theorem cm_X1_sets (l : Launch) {D : va_G} {A : Nat → Prop} {ad : Nat → Nat} {ks : z_Ks} {N : Nat} {S : Nat → va_E} {Y : Nat → Option va_E} (x : Int) (q : Nat) (hq : z_Mv ks Y q) (hx : z_rg x) : z_Met l yX1_sets cX1_sets 2 (some .boolean) 0 0 0 0 D A N ad ks [.ref q, z_v x] S Y (fun r S' Y' => S' = S ∧ Y = Y' ∧ ∃ z : Int, r = some (z_v z) ∧ (z = 0 ∨ z = 1)) := by
  refine z_start2 (by decide) (Nat.le_of_ble_eq_true rfl) ?_
  intro p e R s m args below meth c Q C hRf hRc hRs hRl hQ hrt hnm
  refine z_loc (L' := [(0, .ref q), (1, z_v x)]) [0, 1] rfl ?_
  refine z_aloadn C 0 dX1_sets_0 rfl rfl ?_
  obtain ⟨fd1, sd1, pd1, od1, rd1, yd1, ad1, bd1, kd1⟩ := id hq
  rcases od1 with _ | od1
  · skip
    refine z_getY C yd1 rfl z_it1 4 (by decide) rfl fl_1_28 rfl dX1_sets_1 ?_
    refine z_iloadn C 1 dX1_sets_4 rfl rfl ?_
    obtain ⟨b2, hb2, rb2⟩ := z_bits (z_i rd1 >>> (z_i x &&& 31))
    refine z_ishr C hb2 dX1_sets_5 ?_
    have qb2 := z_bitsE hb2 rb2
    refine z_iconst C dX1_sets_6 ?_
    obtain ⟨b3, hb3, rb3⟩ := z_bits (z_i b2 &&& z_i 1)
    refine z_iand C hb3 dX1_sets_7 ?_
    have qb3 := z_bitsE hb3 rb3
    refine z_if_eq (t := 15) C dX1_sets_8 (by decide) (by omega) (fun c4 => ?_) (fun c4 => ?_)
    · skip
      refine z_iconst C dX1_sets_15 ?_
      rw [hQ]
      exact z_zret C hrt (by omega) dX1_sets_16 (⟨rfl, rfl, _, rfl, by omega⟩) (by omega) (by omega)
    · skip
      refine z_iconst C dX1_sets_11 ?_
      refine z_goto (t := 16) C dX1_sets_12 (by decide) ?_
      rw [hQ]
      exact z_zret C hrt (by omega) dX1_sets_16 (⟨rfl, rfl, _, rfl, by omega⟩) (by omega) (by omega)
  · skip
    refine z_getY C yd1 rfl z_it1 4 (by decide) rfl fl_1_28 rfl dX1_sets_1 ?_
    refine z_iloadn C 1 dX1_sets_4 rfl rfl ?_
    obtain ⟨b5, hb5, rb5⟩ := z_bits (z_i rd1 >>> (z_i x &&& 31))
    refine z_ishr C hb5 dX1_sets_5 ?_
    have qb5 := z_bitsE hb5 rb5
    refine z_iconst C dX1_sets_6 ?_
    obtain ⟨b6, hb6, rb6⟩ := z_bits (z_i b5 &&& z_i 1)
    refine z_iand C hb6 dX1_sets_7 ?_
    have qb6 := z_bitsE hb6 rb6
    refine z_if_eq (t := 15) C dX1_sets_8 (by decide) (by omega) (fun c7 => ?_) (fun c7 => ?_)
    · skip
      refine z_iconst C dX1_sets_15 ?_
      rw [hQ]
      exact z_zret C hrt (by omega) dX1_sets_16 (⟨rfl, rfl, _, rfl, by omega⟩) (by omega) (by omega)
    · skip
      refine z_iconst C dX1_sets_11 ?_
      refine z_goto (t := 16) C dX1_sets_12 (by decide) ?_
      rw [hQ]
      exact z_zret C hrt (by omega) dX1_sets_16 (⟨rfl, rfl, _, rfl, by omega⟩) (by omega) (by omega)
set_option maxRecDepth 20000 in
theorem cm_X1_guardsAllow_15 (l : Launch) {D : va_G} {A : Nat → Prop} {ad : Nat → Nat} {ks : z_Ks} {s_edgeCount s_moveCount s_isNeeded s_timesDone s_size s_isGoing s_allTime s_stepCount s_gapCount : Int} {g_edges g_moves g_limits : Nat → Option Nat} {a_sfacts a_sbounds a_facts a_zone a_most a_places a_amounts a_nextPlaces a_nextAmounts a_earliest a_visited a_lastSet a_gapFrom a_gapTo a_gapLeast a_askedPlaces a_askedAmounts : Nat → Int} {Y : Nat → Option va_E} (q : Nat) (Ha_amounts : (∀ j, 0 ≤ a_amounts j ∧ a_amounts j ≤ 1000000)) (hq : z_Mv ks Y q) : z_Met l yX1_guardsAllow cX1_guardsAllow 2 (some .boolean) 3 63 0 0 D A 27 ad ks [.ref q, .ref (ad 15)] (z_zc ad ks s_edgeCount s_moveCount s_isNeeded s_timesDone s_size s_isGoing s_allTime s_stepCount s_gapCount g_edges g_moves g_limits a_sfacts a_sbounds a_facts a_zone a_most a_places a_amounts a_nextPlaces a_nextAmounts a_earliest a_visited a_lastSet a_gapFrom a_gapTo a_gapLeast a_askedPlaces a_askedAmounts) Y (fun r S' Y' => S' = (z_zc ad ks s_edgeCount s_moveCount s_isNeeded s_timesDone s_size s_isGoing s_allTime s_stepCount s_gapCount g_edges g_moves g_limits a_sfacts a_sbounds a_facts a_zone a_most a_places a_amounts a_nextPlaces a_nextAmounts a_earliest a_visited a_lastSet a_gapFrom a_gapTo a_gapLeast a_askedPlaces a_askedAmounts) ∧ Y = Y' ∧ ∃ z : Int, r = some (z_v z) ∧ (z = 0 ∨ z = 1)) := by
  refine z_start2 (by decide) (Nat.le_of_ble_eq_true rfl) ?_
  intro p e R s m args below meth c Q C hRf hRc hRs hRl hQ hrt hnm
  refine z_loc (L' := [(0, .ref q), (1, .ref (ad 15))]) [0, 1] rfl ?_
  refine z_aloadn C 0 dX1_guardsAllow_0 rfl rfl ?_
  obtain ⟨fd1, sd1, pd1, od1, rd1, yd1, ad1, bd1, kd1⟩ := id hq
  rcases od1 with _ | od1
  · skip
    refine z_getY C yd1 rfl z_it1 2 (by decide) rfl fl_1_16 rfl dX1_guardsAllow_1 ?_
    obtain ⟨md2, fd2, td2, kd2, rd2, gd2, yd2, ad2, bd2⟩ := id bd1
    refine z_getY C yd2 rfl z_it0 5 (by decide) rfl fl_1_38 rfl dX1_guardsAllow_4 ?_
    refine z_aloadn C 1 dX1_guardsAllow_7 rfl rfl ?_
    obtain ⟨td3, nd3, gd3, yd3, wd3, ad3, bd3⟩ := id bd2
    refine z_callV C (cm_X6_allow_15 l gd2 Ha_amounts bd2) mv_1_42 (z_atY 6 yd3 rfl rfl) pd_X6_allow ⟨by omega, by omega⟩ ⟨by omega, by omega⟩ rfl (Nat.le_of_ble_eq_true rfl) dX1_guardsAllow_8 ?_
    rintro _ _ _ ⟨rfl, rfl, z6, rfl, hz6⟩
    refine z_if_eq (t := 39) C dX1_guardsAllow_11 (by decide) (by omega) (fun c7 => ?_) (fun c7 => ?_)
    · skip
      refine z_iconst C dX1_guardsAllow_39 ?_
      rw [hQ]
      exact z_zret C hrt (by omega) dX1_guardsAllow_40 (⟨rfl, rfl, _, rfl, by omega⟩) (by omega) (by omega)
    · skip
      refine z_aloadn C 0 dX1_guardsAllow_14 rfl rfl ?_
      refine z_getY C yd1 rfl z_it1 3 (by decide) rfl fl_1_20 rfl dX1_guardsAllow_15 ?_
      refine z_ifnullN (t := 35) C dX1_guardsAllow_18 (by decide) ?_
      refine z_iconst C dX1_guardsAllow_35 ?_
      refine z_goto (t := 40) C dX1_guardsAllow_36 (by decide) ?_
      rw [hQ]
      exact z_zret C hrt (by omega) dX1_guardsAllow_40 (⟨rfl, rfl, _, rfl, by omega⟩) (by omega) (by omega)
  · skip
    refine z_getY C yd1 rfl z_it1 2 (by decide) rfl fl_1_16 rfl dX1_guardsAllow_1 ?_
    obtain ⟨md8, fd8, td8, kd8, rd8, gd8, yd8, ad8, bd8⟩ := id bd1
    refine z_getY C yd8 rfl z_it0 5 (by decide) rfl fl_1_38 rfl dX1_guardsAllow_4 ?_
    refine z_aloadn C 1 dX1_guardsAllow_7 rfl rfl ?_
    obtain ⟨td9, nd9, gd9, yd9, wd9, ad9, bd9⟩ := id bd8
    refine z_callV C (cm_X6_allow_15 l gd8 Ha_amounts bd8) mv_1_42 (z_atY 6 yd9 rfl rfl) pd_X6_allow ⟨by omega, by omega⟩ ⟨by omega, by omega⟩ rfl (Nat.le_of_ble_eq_true rfl) dX1_guardsAllow_8 ?_
    rintro _ _ _ ⟨rfl, rfl, z12, rfl, hz12⟩
    refine z_if_eq (t := 39) C dX1_guardsAllow_11 (by decide) (by omega) (fun c13 => ?_) (fun c13 => ?_)
    · skip
      refine z_iconst C dX1_guardsAllow_39 ?_
      rw [hQ]
      exact z_zret C hrt (by omega) dX1_guardsAllow_40 (⟨rfl, rfl, _, rfl, by omega⟩) (by omega) (by omega)
    · skip
      refine z_aloadn C 0 dX1_guardsAllow_14 rfl rfl ?_
      refine z_getY C yd1 rfl z_it1 3 (by decide) rfl fl_1_20 rfl dX1_guardsAllow_15 ?_
      refine z_ifnull C dX1_guardsAllow_18 ?_
      refine z_aloadn C 0 dX1_guardsAllow_21 rfl rfl ?_
      refine z_getY C yd1 rfl z_it1 3 (by decide) rfl fl_1_20 rfl dX1_guardsAllow_22 ?_
      obtain ⟨md14, fd14, td14, kd14, rd14, gd14, yd14, ad14, bd14⟩ := id (kd1 _ rfl)
      refine z_getY C yd14 rfl z_it0 5 (by decide) rfl fl_1_38 rfl dX1_guardsAllow_25 ?_
      refine z_aloadn C 1 dX1_guardsAllow_28 rfl rfl ?_
      obtain ⟨td15, nd15, gd15, yd15, wd15, ad15, bd15⟩ := id bd14
      refine z_callV C (cm_X6_allow_15 l gd14 Ha_amounts bd14) mv_1_42 (z_atY 6 yd15 rfl rfl) pd_X6_allow ⟨by omega, by omega⟩ ⟨by omega, by omega⟩ rfl (Nat.le_of_ble_eq_true rfl) dX1_guardsAllow_29 ?_
      rintro _ _ _ ⟨rfl, rfl, z18, rfl, hz18⟩
      refine z_if_eq (t := 39) C dX1_guardsAllow_32 (by decide) (by omega) (fun c19 => ?_) (fun c19 => ?_)
      · skip
        refine z_iconst C dX1_guardsAllow_39 ?_
        rw [hQ]
        exact z_zret C hrt (by omega) dX1_guardsAllow_40 (⟨rfl, rfl, _, rfl, by omega⟩) (by omega) (by omega)
      · skip
        refine z_iconst C dX1_guardsAllow_35 ?_
        refine z_goto (t := 40) C dX1_guardsAllow_36 (by decide) ?_
        rw [hQ]
        exact z_zret C hrt (by omega) dX1_guardsAllow_40 (⟨rfl, rfl, _, rfl, by omega⟩) (by omega) (by omega)
set_option maxRecDepth 20000 in
theorem cm_X1_guardsNarrow (l : Launch) {D : va_G} {A : Nat → Prop} {ad : Nat → Nat} {ks : z_Ks} {s_edgeCount s_moveCount s_isNeeded s_timesDone s_size s_isGoing s_allTime s_stepCount s_gapCount : Int} {g_edges g_moves g_limits : Nat → Option Nat} {a_sfacts a_sbounds a_facts a_zone a_most a_places a_amounts a_nextPlaces a_nextAmounts a_earliest a_visited a_lastSet a_gapFrom a_gapTo a_gapLeast a_askedPlaces a_askedAmounts : Nat → Int} {Y : Nat → Option va_E} (q : Nat) (Ha_zone : (∀ j, z_rg (a_zone j))) (hq : z_Mv ks Y q) : z_Met l yX1_guardsNarrow cX1_guardsNarrow 2 (some .boolean) 3 71 0 0 D A 27 ad ks [.ref q, .ref (ad 10)] (z_zc ad ks s_edgeCount s_moveCount s_isNeeded s_timesDone s_size s_isGoing s_allTime s_stepCount s_gapCount g_edges g_moves g_limits a_sfacts a_sbounds a_facts a_zone a_most a_places a_amounts a_nextPlaces a_nextAmounts a_earliest a_visited a_lastSet a_gapFrom a_gapTo a_gapLeast a_askedPlaces a_askedAmounts) Y (fun r S' Y' => ∃ na_zone : Nat → Int, S' = (z_zc ad ks s_edgeCount s_moveCount s_isNeeded s_timesDone s_size s_isGoing s_allTime s_stepCount s_gapCount g_edges g_moves g_limits a_sfacts a_sbounds a_facts na_zone a_most a_places a_amounts a_nextPlaces a_nextAmounts a_earliest a_visited a_lastSet a_gapFrom a_gapTo a_gapLeast a_askedPlaces a_askedAmounts) ∧ Y = Y' ∧ (∀ j, z_rg (na_zone j)) ∧ ∃ z : Int, r = some (z_v z) ∧ (z = 0 ∨ z = 1)) := by
  refine z_start2 (by decide) (Nat.le_of_ble_eq_true rfl) ?_
  intro p e R s m args below meth c Q C hRf hRc hRs hRl hQ hrt hnm
  refine z_loc (L' := [(0, .ref q), (1, .ref (ad 10))]) [0, 1] rfl ?_
  refine z_aloadn C 0 dX1_guardsNarrow_0 rfl rfl ?_
  obtain ⟨fd1, sd1, pd1, od1, rd1, yd1, ad1, bd1, kd1⟩ := id hq
  rcases od1 with _ | od1
  · skip
    refine z_getY C yd1 rfl z_it1 2 (by decide) rfl fl_1_16 rfl dX1_guardsNarrow_1 ?_
    obtain ⟨md2, fd2, td2, kd2, rd2, gd2, yd2, ad2, bd2⟩ := id bd1
    refine z_getY C yd2 rfl z_it0 5 (by decide) rfl fl_1_38 rfl dX1_guardsNarrow_4 ?_
    refine z_aloadn C 1 dX1_guardsNarrow_7 rfl rfl ?_
    obtain ⟨td3, nd3, gd3, yd3, wd3, ad3, bd3⟩ := id bd2
    refine z_callV C (cm_X6_narrow l gd2 Ha_zone bd2) mv_1_48 (z_atY 6 yd3 rfl rfl) pd_X6_narrow ⟨by omega, by omega⟩ ⟨by omega, by omega⟩ rfl (Nat.le_of_ble_eq_true rfl) dX1_guardsNarrow_8 ?_
    rintro _ _ _ ⟨n4, rfl, rfl, h7, z8, rfl, hz8⟩
    refine z_if_eq (t := 39) C dX1_guardsNarrow_11 (by decide) (by omega) (fun c9 => ?_) (fun c9 => ?_)
    · skip
      refine z_iconst C dX1_guardsNarrow_39 ?_
      rw [hQ]
      exact z_zret C hrt (by omega) dX1_guardsNarrow_40 (⟨n4, rfl, rfl, h7, _, rfl, by omega⟩) (by omega) (by omega)
    · skip
      refine z_aloadn C 0 dX1_guardsNarrow_14 rfl rfl ?_
      refine z_getY C yd1 rfl z_it1 3 (by decide) rfl fl_1_20 rfl dX1_guardsNarrow_15 ?_
      refine z_ifnullN (t := 35) C dX1_guardsNarrow_18 (by decide) ?_
      refine z_iconst C dX1_guardsNarrow_35 ?_
      refine z_goto (t := 40) C dX1_guardsNarrow_36 (by decide) ?_
      rw [hQ]
      exact z_zret C hrt (by omega) dX1_guardsNarrow_40 (⟨n4, rfl, rfl, h7, _, rfl, by omega⟩) (by omega) (by omega)
  · skip
    refine z_getY C yd1 rfl z_it1 2 (by decide) rfl fl_1_16 rfl dX1_guardsNarrow_1 ?_
    obtain ⟨md10, fd10, td10, kd10, rd10, gd10, yd10, ad10, bd10⟩ := id bd1
    refine z_getY C yd10 rfl z_it0 5 (by decide) rfl fl_1_38 rfl dX1_guardsNarrow_4 ?_
    refine z_aloadn C 1 dX1_guardsNarrow_7 rfl rfl ?_
    obtain ⟨td11, nd11, gd11, yd11, wd11, ad11, bd11⟩ := id bd10
    refine z_callV C (cm_X6_narrow l gd10 Ha_zone bd10) mv_1_48 (z_atY 6 yd11 rfl rfl) pd_X6_narrow ⟨by omega, by omega⟩ ⟨by omega, by omega⟩ rfl (Nat.le_of_ble_eq_true rfl) dX1_guardsNarrow_8 ?_
    rintro _ _ _ ⟨n12, rfl, rfl, h15, z16, rfl, hz16⟩
    refine z_if_eq (t := 39) C dX1_guardsNarrow_11 (by decide) (by omega) (fun c17 => ?_) (fun c17 => ?_)
    · skip
      refine z_iconst C dX1_guardsNarrow_39 ?_
      rw [hQ]
      exact z_zret C hrt (by omega) dX1_guardsNarrow_40 (⟨n12, rfl, rfl, h15, _, rfl, by omega⟩) (by omega) (by omega)
    · skip
      refine z_aloadn C 0 dX1_guardsNarrow_14 rfl rfl ?_
      refine z_getY C yd1 rfl z_it1 3 (by decide) rfl fl_1_20 rfl dX1_guardsNarrow_15 ?_
      refine z_ifnull C dX1_guardsNarrow_18 ?_
      refine z_aloadn C 0 dX1_guardsNarrow_21 rfl rfl ?_
      refine z_getY C yd1 rfl z_it1 3 (by decide) rfl fl_1_20 rfl dX1_guardsNarrow_22 ?_
      obtain ⟨md18, fd18, td18, kd18, rd18, gd18, yd18, ad18, bd18⟩ := id (kd1 _ rfl)
      refine z_getY C yd18 rfl z_it0 5 (by decide) rfl fl_1_38 rfl dX1_guardsNarrow_25 ?_
      refine z_aloadn C 1 dX1_guardsNarrow_28 rfl rfl ?_
      obtain ⟨td19, nd19, gd19, yd19, wd19, ad19, bd19⟩ := id bd18
      refine z_callV C (cm_X6_narrow l gd18 h15 bd18) mv_1_48 (z_atY 6 yd19 rfl rfl) pd_X6_narrow ⟨by omega, by omega⟩ ⟨by omega, by omega⟩ rfl (Nat.le_of_ble_eq_true rfl) dX1_guardsNarrow_29 ?_
      rintro _ _ _ ⟨n20, rfl, rfl, h23, z24, rfl, hz24⟩
      refine z_if_eq (t := 39) C dX1_guardsNarrow_32 (by decide) (by omega) (fun c25 => ?_) (fun c25 => ?_)
      · skip
        refine z_iconst C dX1_guardsNarrow_39 ?_
        rw [hQ]
        exact z_zret C hrt (by omega) dX1_guardsNarrow_40 (⟨n20, rfl, rfl, h23, _, rfl, by omega⟩) (by omega) (by omega)
      · skip
        refine z_iconst C dX1_guardsNarrow_35 ?_
        refine z_goto (t := 40) C dX1_guardsNarrow_36 (by decide) ?_
        rw [hQ]
        exact z_zret C hrt (by omega) dX1_guardsNarrow_40 (⟨n20, rfl, rfl, h23, _, rfl, by omega⟩) (by omega) (by omega)
set_option maxRecDepth 20000 in
theorem cm_X1_comesAfter (l : Launch) {D : va_G} {A : Nat → Prop} {ad : Nat → Nat} {ks : z_Ks} {N : Nat} {S : Nat → va_E} {Y : Nat → Option va_E} (q o : Nat) (hq : z_Mv ks Y q) (ho : z_Mv ks Y o) : z_Met l yX1_comesAfter cX1_comesAfter 2 (some .boolean) 0 0 0 0 D A N ad ks [.ref q, .ref o] S Y (fun r S' Y' => S' = S ∧ Y = Y' ∧ ∃ z : Int, r = some (z_v z) ∧ (z = 0 ∨ z = 1)) := by
  refine z_start2 (by decide) (Nat.le_of_ble_eq_true rfl) ?_
  intro p e R s m args below meth c Q C hRf hRc hRs hRl hQ hrt hnm
  refine z_loc (L' := [(0, .ref q), (1, .ref o)]) [0, 1] rfl ?_
  refine z_aloadn C 0 dX1_comesAfter_0 rfl rfl ?_
  obtain ⟨fd1, sd1, pd1, od1, rd1, yd1, ad1, bd1, kd1⟩ := id hq
  rcases od1 with _ | od1
  · skip
    refine z_getY C yd1 rfl z_it1 0 (by decide) rfl fl_1_7 rfl dX1_comesAfter_1 ?_
    refine z_aloadn C 1 dX1_comesAfter_4 rfl rfl ?_
    obtain ⟨fd2, sd2, pd2, od2, rd2, yd2, ad2, bd2, kd2⟩ := id ho
    rcases od2 with _ | od2
    · skip
      refine z_getY C yd2 rfl z_it1 0 (by decide) rfl fl_1_7 rfl dX1_comesAfter_5 ?_
      refine z_icmp_eq (t := 30) C dX1_comesAfter_8 (by decide) (by omega) (by omega) (fun c3 => ?_) (fun c3 => ?_)
      · skip
        refine z_aloadn C 0 dX1_comesAfter_30 rfl rfl ?_
        refine z_getY C yd1 rfl z_it1 1 (by decide) rfl fl_1_13 rfl dX1_comesAfter_31 ?_
        refine z_aloadn C 1 dX1_comesAfter_34 rfl rfl ?_
        refine z_getY C yd2 rfl z_it1 1 (by decide) rfl fl_1_13 rfl dX1_comesAfter_35 ?_
        refine z_icmp_le (t := 45) C dX1_comesAfter_38 (by decide) (by omega) (by omega) (fun c4 => ?_) (fun c4 => ?_)
        · skip
          refine z_iconst C dX1_comesAfter_45 ?_
          rw [hQ]
          exact z_zret C hrt (by omega) dX1_comesAfter_46 (⟨rfl, rfl, _, rfl, by omega⟩) (by omega) (by omega)
        · skip
          refine z_iconst C dX1_comesAfter_41 ?_
          refine z_goto (t := 46) C dX1_comesAfter_42 (by decide) ?_
          rw [hQ]
          exact z_zret C hrt (by omega) dX1_comesAfter_46 (⟨rfl, rfl, _, rfl, by omega⟩) (by omega) (by omega)
      · skip
        refine z_aloadn C 0 dX1_comesAfter_11 rfl rfl ?_
        refine z_getY C yd1 rfl z_it1 0 (by decide) rfl fl_1_7 rfl dX1_comesAfter_12 ?_
        refine z_aloadn C 1 dX1_comesAfter_15 rfl rfl ?_
        refine z_getY C yd2 rfl z_it1 0 (by decide) rfl fl_1_7 rfl dX1_comesAfter_16 ?_
        refine z_icmp_le (t := 26) C dX1_comesAfter_19 (by decide) (by omega) (by omega) (fun c5 => ?_) (fun c5 => ?_)
        · skip
          refine z_iconst C dX1_comesAfter_26 ?_
          refine z_goto (t := 46) C dX1_comesAfter_27 (by decide) ?_
          rw [hQ]
          exact z_zret C hrt (by omega) dX1_comesAfter_46 (⟨rfl, rfl, _, rfl, by omega⟩) (by omega) (by omega)
        · skip
          refine z_iconst C dX1_comesAfter_22 ?_
          refine z_goto (t := 46) C dX1_comesAfter_23 (by decide) ?_
          rw [hQ]
          exact z_zret C hrt (by omega) dX1_comesAfter_46 (⟨rfl, rfl, _, rfl, by omega⟩) (by omega) (by omega)
    · skip
      refine z_getY C yd2 rfl z_it1 0 (by decide) rfl fl_1_7 rfl dX1_comesAfter_5 ?_
      refine z_icmp_eq (t := 30) C dX1_comesAfter_8 (by decide) (by omega) (by omega) (fun c6 => ?_) (fun c6 => ?_)
      · skip
        refine z_aloadn C 0 dX1_comesAfter_30 rfl rfl ?_
        refine z_getY C yd1 rfl z_it1 1 (by decide) rfl fl_1_13 rfl dX1_comesAfter_31 ?_
        refine z_aloadn C 1 dX1_comesAfter_34 rfl rfl ?_
        refine z_getY C yd2 rfl z_it1 1 (by decide) rfl fl_1_13 rfl dX1_comesAfter_35 ?_
        refine z_icmp_le (t := 45) C dX1_comesAfter_38 (by decide) (by omega) (by omega) (fun c7 => ?_) (fun c7 => ?_)
        · skip
          refine z_iconst C dX1_comesAfter_45 ?_
          rw [hQ]
          exact z_zret C hrt (by omega) dX1_comesAfter_46 (⟨rfl, rfl, _, rfl, by omega⟩) (by omega) (by omega)
        · skip
          refine z_iconst C dX1_comesAfter_41 ?_
          refine z_goto (t := 46) C dX1_comesAfter_42 (by decide) ?_
          rw [hQ]
          exact z_zret C hrt (by omega) dX1_comesAfter_46 (⟨rfl, rfl, _, rfl, by omega⟩) (by omega) (by omega)
      · skip
        refine z_aloadn C 0 dX1_comesAfter_11 rfl rfl ?_
        refine z_getY C yd1 rfl z_it1 0 (by decide) rfl fl_1_7 rfl dX1_comesAfter_12 ?_
        refine z_aloadn C 1 dX1_comesAfter_15 rfl rfl ?_
        refine z_getY C yd2 rfl z_it1 0 (by decide) rfl fl_1_7 rfl dX1_comesAfter_16 ?_
        refine z_icmp_le (t := 26) C dX1_comesAfter_19 (by decide) (by omega) (by omega) (fun c8 => ?_) (fun c8 => ?_)
        · skip
          refine z_iconst C dX1_comesAfter_26 ?_
          refine z_goto (t := 46) C dX1_comesAfter_27 (by decide) ?_
          rw [hQ]
          exact z_zret C hrt (by omega) dX1_comesAfter_46 (⟨rfl, rfl, _, rfl, by omega⟩) (by omega) (by omega)
        · skip
          refine z_iconst C dX1_comesAfter_22 ?_
          refine z_goto (t := 46) C dX1_comesAfter_23 (by decide) ?_
          rw [hQ]
          exact z_zret C hrt (by omega) dX1_comesAfter_46 (⟨rfl, rfl, _, rfl, by omega⟩) (by omega) (by omega)
  · skip
    refine z_getY C yd1 rfl z_it1 0 (by decide) rfl fl_1_7 rfl dX1_comesAfter_1 ?_
    refine z_aloadn C 1 dX1_comesAfter_4 rfl rfl ?_
    obtain ⟨fd9, sd9, pd9, od9, rd9, yd9, ad9, bd9, kd9⟩ := id ho
    rcases od9 with _ | od9
    · skip
      refine z_getY C yd9 rfl z_it1 0 (by decide) rfl fl_1_7 rfl dX1_comesAfter_5 ?_
      refine z_icmp_eq (t := 30) C dX1_comesAfter_8 (by decide) (by omega) (by omega) (fun c10 => ?_) (fun c10 => ?_)
      · skip
        refine z_aloadn C 0 dX1_comesAfter_30 rfl rfl ?_
        refine z_getY C yd1 rfl z_it1 1 (by decide) rfl fl_1_13 rfl dX1_comesAfter_31 ?_
        refine z_aloadn C 1 dX1_comesAfter_34 rfl rfl ?_
        refine z_getY C yd9 rfl z_it1 1 (by decide) rfl fl_1_13 rfl dX1_comesAfter_35 ?_
        refine z_icmp_le (t := 45) C dX1_comesAfter_38 (by decide) (by omega) (by omega) (fun c11 => ?_) (fun c11 => ?_)
        · skip
          refine z_iconst C dX1_comesAfter_45 ?_
          rw [hQ]
          exact z_zret C hrt (by omega) dX1_comesAfter_46 (⟨rfl, rfl, _, rfl, by omega⟩) (by omega) (by omega)
        · skip
          refine z_iconst C dX1_comesAfter_41 ?_
          refine z_goto (t := 46) C dX1_comesAfter_42 (by decide) ?_
          rw [hQ]
          exact z_zret C hrt (by omega) dX1_comesAfter_46 (⟨rfl, rfl, _, rfl, by omega⟩) (by omega) (by omega)
      · skip
        refine z_aloadn C 0 dX1_comesAfter_11 rfl rfl ?_
        refine z_getY C yd1 rfl z_it1 0 (by decide) rfl fl_1_7 rfl dX1_comesAfter_12 ?_
        refine z_aloadn C 1 dX1_comesAfter_15 rfl rfl ?_
        refine z_getY C yd9 rfl z_it1 0 (by decide) rfl fl_1_7 rfl dX1_comesAfter_16 ?_
        refine z_icmp_le (t := 26) C dX1_comesAfter_19 (by decide) (by omega) (by omega) (fun c12 => ?_) (fun c12 => ?_)
        · skip
          refine z_iconst C dX1_comesAfter_26 ?_
          refine z_goto (t := 46) C dX1_comesAfter_27 (by decide) ?_
          rw [hQ]
          exact z_zret C hrt (by omega) dX1_comesAfter_46 (⟨rfl, rfl, _, rfl, by omega⟩) (by omega) (by omega)
        · skip
          refine z_iconst C dX1_comesAfter_22 ?_
          refine z_goto (t := 46) C dX1_comesAfter_23 (by decide) ?_
          rw [hQ]
          exact z_zret C hrt (by omega) dX1_comesAfter_46 (⟨rfl, rfl, _, rfl, by omega⟩) (by omega) (by omega)
    · skip
      refine z_getY C yd9 rfl z_it1 0 (by decide) rfl fl_1_7 rfl dX1_comesAfter_5 ?_
      refine z_icmp_eq (t := 30) C dX1_comesAfter_8 (by decide) (by omega) (by omega) (fun c13 => ?_) (fun c13 => ?_)
      · skip
        refine z_aloadn C 0 dX1_comesAfter_30 rfl rfl ?_
        refine z_getY C yd1 rfl z_it1 1 (by decide) rfl fl_1_13 rfl dX1_comesAfter_31 ?_
        refine z_aloadn C 1 dX1_comesAfter_34 rfl rfl ?_
        refine z_getY C yd9 rfl z_it1 1 (by decide) rfl fl_1_13 rfl dX1_comesAfter_35 ?_
        refine z_icmp_le (t := 45) C dX1_comesAfter_38 (by decide) (by omega) (by omega) (fun c14 => ?_) (fun c14 => ?_)
        · skip
          refine z_iconst C dX1_comesAfter_45 ?_
          rw [hQ]
          exact z_zret C hrt (by omega) dX1_comesAfter_46 (⟨rfl, rfl, _, rfl, by omega⟩) (by omega) (by omega)
        · skip
          refine z_iconst C dX1_comesAfter_41 ?_
          refine z_goto (t := 46) C dX1_comesAfter_42 (by decide) ?_
          rw [hQ]
          exact z_zret C hrt (by omega) dX1_comesAfter_46 (⟨rfl, rfl, _, rfl, by omega⟩) (by omega) (by omega)
      · skip
        refine z_aloadn C 0 dX1_comesAfter_11 rfl rfl ?_
        refine z_getY C yd1 rfl z_it1 0 (by decide) rfl fl_1_7 rfl dX1_comesAfter_12 ?_
        refine z_aloadn C 1 dX1_comesAfter_15 rfl rfl ?_
        refine z_getY C yd9 rfl z_it1 0 (by decide) rfl fl_1_7 rfl dX1_comesAfter_16 ?_
        refine z_icmp_le (t := 26) C dX1_comesAfter_19 (by decide) (by omega) (by omega) (fun c15 => ?_) (fun c15 => ?_)
        · skip
          refine z_iconst C dX1_comesAfter_26 ?_
          refine z_goto (t := 46) C dX1_comesAfter_27 (by decide) ?_
          rw [hQ]
          exact z_zret C hrt (by omega) dX1_comesAfter_46 (⟨rfl, rfl, _, rfl, by omega⟩) (by omega) (by omega)
        · skip
          refine z_iconst C dX1_comesAfter_22 ?_
          refine z_goto (t := 46) C dX1_comesAfter_23 (by decide) ?_
          rw [hQ]
          exact z_zret C hrt (by omega) dX1_comesAfter_46 (⟨rfl, rfl, _, rfl, by omega⟩) (by omega) (by omega)
set_option maxRecDepth 20000 in
theorem cm_X2_isEdge (l : Launch) {D : va_G} {A : Nat → Prop} {ad : Nat → Nat} {ks : z_Ks} {s_edgeCount s_moveCount s_isNeeded s_timesDone s_size s_isGoing s_allTime s_stepCount s_gapCount : Int} {g_edges g_moves g_limits : Nat → Option Nat} {a_sfacts a_sbounds a_facts a_zone a_most a_places a_amounts a_nextPlaces a_nextAmounts a_earliest a_visited a_lastSet a_gapFrom a_gapTo a_gapLeast a_askedPlaces a_askedAmounts : Nat → Int} {Y : Nat → Option va_E} (v : Int) (Hs_edgeCount : (0 ≤ s_edgeCount ∧ s_edgeCount ≤ 20)) (hv : z_rg v) : z_Met l yX2_isEdge cX2_isEdge 2 (some .boolean) 0 0 0 0 D A 27 ad ks [.ref (ad 1), z_v v] (z_zc ad ks s_edgeCount s_moveCount s_isNeeded s_timesDone s_size s_isGoing s_allTime s_stepCount s_gapCount g_edges g_moves g_limits a_sfacts a_sbounds a_facts a_zone a_most a_places a_amounts a_nextPlaces a_nextAmounts a_earliest a_visited a_lastSet a_gapFrom a_gapTo a_gapLeast a_askedPlaces a_askedAmounts) Y (fun r S' Y' => S' = (z_zc ad ks s_edgeCount s_moveCount s_isNeeded s_timesDone s_size s_isGoing s_allTime s_stepCount s_gapCount g_edges g_moves g_limits a_sfacts a_sbounds a_facts a_zone a_most a_places a_amounts a_nextPlaces a_nextAmounts a_earliest a_visited a_lastSet a_gapFrom a_gapTo a_gapLeast a_askedPlaces a_askedAmounts) ∧ Y = Y' ∧ ∃ z : Int, r = some (z_v z) ∧ (z = 1 ∧ (0 ≤ v ∧ v < s_edgeCount) ∨ z = 0 ∧ ¬ (0 ≤ v ∧ v < s_edgeCount))) := by
  refine z_start2 (by decide) (Nat.le_of_ble_eq_true rfl) ?_
  intro p e R s m args below meth c Q C hRf hRc hRs hRl hQ hrt hnm
  refine z_loc (L' := [(0, .ref (ad 1)), (1, z_v v)]) [0, 1] rfl ?_
  refine z_iloadn C 1 dX2_isEdge_0 rfl rfl ?_
  refine z_if_lt (t := 16) C dX2_isEdge_1 (by decide) (by omega) (fun c1 => ?_) (fun c1 => ?_)
  · skip
    refine z_iconst C dX2_isEdge_16 ?_
    rw [hQ]
    exact z_zret C hrt (by omega) dX2_isEdge_17 (⟨rfl, rfl, _, rfl, by omega⟩) (by omega) (by omega)
  · skip
    refine z_iloadn C 1 dX2_isEdge_4 rfl rfl ?_
    refine z_aloadn C 0 dX2_isEdge_5 rfl rfl ?_
    refine z_get C 1 (by decide) rfl rfl z_it2 1 (by decide) rfl fl_2_30 rfl dX2_isEdge_6 ?_
    refine z_icmp_ge (t := 16) C dX2_isEdge_9 (by decide) (by omega) (by omega) (fun c2 => ?_) (fun c2 => ?_)
    · skip
      refine z_iconst C dX2_isEdge_16 ?_
      rw [hQ]
      exact z_zret C hrt (by omega) dX2_isEdge_17 (⟨rfl, rfl, _, rfl, by omega⟩) (by omega) (by omega)
    · skip
      refine z_iconst C dX2_isEdge_12 ?_
      refine z_goto (t := 17) C dX2_isEdge_13 (by decide) ?_
      rw [hQ]
      exact z_zret C hrt (by omega) dX2_isEdge_17 (⟨rfl, rfl, _, rfl, by omega⟩) (by omega) (by omega)
set_option maxRecDepth 20000 in
theorem cm_X2_limitsOf (l : Launch) {D : va_G} {A : Nat → Prop} {ad : Nat → Nat} {ks : z_Ks} {s_edgeCount s_moveCount s_isNeeded s_timesDone s_size s_isGoing s_allTime s_stepCount s_gapCount : Int} {g_edges g_moves g_limits : Nat → Option Nat} {a_sfacts a_sbounds a_facts a_zone a_most a_places a_amounts a_nextPlaces a_nextAmounts a_earliest a_visited a_lastSet a_gapFrom a_gapTo a_gapLeast a_askedPlaces a_askedAmounts : Nat → Int} {Y : Nat → Option va_E} (m0 p0 : Int) (hm : 0 ≤ m0 ∧ m0 ≤ 2) (hp : 0 ≤ p0 ∧ p0 ≤ 5) (HL : ∀ j : Nat, (j : Int) < 18 → ∃ q, g_limits j = some q ∧ z_TL ks Y q) : z_Met l yX2_limitsOf cX2_limitsOf 3 (some (.object "ClockZones$TestList")) 0 0 0 0 D A 27 ad ks [.ref (ad 1), z_v m0, z_v p0] (z_zc ad ks s_edgeCount s_moveCount s_isNeeded s_timesDone s_size s_isGoing s_allTime s_stepCount s_gapCount g_edges g_moves g_limits a_sfacts a_sbounds a_facts a_zone a_most a_places a_amounts a_nextPlaces a_nextAmounts a_earliest a_visited a_lastSet a_gapFrom a_gapTo a_gapLeast a_askedPlaces a_askedAmounts) Y (fun r S' Y' => S' = (z_zc ad ks s_edgeCount s_moveCount s_isNeeded s_timesDone s_size s_isGoing s_allTime s_stepCount s_gapCount g_edges g_moves g_limits a_sfacts a_sbounds a_facts a_zone a_most a_places a_amounts a_nextPlaces a_nextAmounts a_earliest a_visited a_lastSet a_gapFrom a_gapTo a_gapLeast a_askedPlaces a_askedAmounts) ∧ Y = Y' ∧ ∃ q : Nat, r = some (.ref q) ∧ z_TL ks Y q) := by
  refine z_start2 (by decide) (Nat.le_of_ble_eq_true rfl) ?_
  intro p e R s m args below meth c Q C hRf hRc hRs hRl hQ hrt hnm
  refine z_loc (L' := [(0, .ref (ad 1)), (1, z_v m0), (2, z_v p0)]) [0, 1, 2] rfl ?_
  refine z_aloadn C 0 dX2_limitsOf_0 rfl rfl ?_
  refine z_get C 1 (by decide) rfl rfl z_it2 4 (by decide) rfl fl_2_25 rfl dX2_limitsOf_1 ?_
  refine z_iloadn C 1 dX2_limitsOf_4 rfl rfl ?_
  refine z_bipush C dX2_limitsOf_5 (by decide) ?_
  refine z_imul C dX2_limitsOf_7 ?_
  refine z_iloadn C 2 dX2_limitsOf_8 rfl rfl ?_
  refine z_iadd C dX2_limitsOf_9 ?_
  obtain ⟨q1, eq1, hq1⟩ := HL (((m0 * 6) + p0) : Int).toNat (by omega)
  refine z_aaldS C 4 3 (by decide) rfl rfl (by decide) (by omega) (by omega) eq1 dX2_limitsOf_10 ?_
  rw [hQ]
  exact z_aret C hrt (Or.inr ⟨_, rfl⟩) dX2_limitsOf_11 (⟨rfl, rfl, _, rfl, hq1⟩) (by omega) (by omega)
set_option maxRecDepth 20000 in
theorem cm_X2_find (l : Launch) {D : va_G} {A : Nat → Prop} {ad : Nat → Nat} {ks : z_Ks} {s_edgeCount s_moveCount s_isNeeded s_timesDone s_size s_isGoing s_allTime s_stepCount s_gapCount : Int} {g_edges g_moves g_limits : Nat → Option Nat} {a_sfacts a_sbounds a_facts a_zone a_most a_places a_amounts a_nextPlaces a_nextAmounts a_earliest a_visited a_lastSet a_gapFrom a_gapTo a_gapLeast a_askedPlaces a_askedAmounts : Nat → Int} {Y : Nat → Option va_E} (f0 s0 : Int) (Hs_moveCount : (0 ≤ s_moveCount ∧ s_moveCount ≤ 400)) (hf : z_rg f0) (hs : z_rg s0) (HM : ∀ j : Nat, (j : Int) < s_moveCount → ∃ q, g_moves j = some q ∧ z_Mv ks Y q) : z_Met l yX2_find cX2_find 4 (some (.object "ClockZones$Move")) 0 0 0 0 D A 27 ad ks [.ref (ad 1), z_v f0, z_v s0] (z_zc ad ks s_edgeCount s_moveCount s_isNeeded s_timesDone s_size s_isGoing s_allTime s_stepCount s_gapCount g_edges g_moves g_limits a_sfacts a_sbounds a_facts a_zone a_most a_places a_amounts a_nextPlaces a_nextAmounts a_earliest a_visited a_lastSet a_gapFrom a_gapTo a_gapLeast a_askedPlaces a_askedAmounts) Y (fun r S' Y' => S' = (z_zc ad ks s_edgeCount s_moveCount s_isNeeded s_timesDone s_size s_isGoing s_allTime s_stepCount s_gapCount g_edges g_moves g_limits a_sfacts a_sbounds a_facts a_zone a_most a_places a_amounts a_nextPlaces a_nextAmounts a_earliest a_visited a_lastSet a_gapFrom a_gapTo a_gapLeast a_askedPlaces a_askedAmounts) ∧ Y = Y' ∧ (r = some .null ∨ ∃ q : Nat, r = some (.ref q) ∧ z_Mv ks Y q)) := by
  refine z_start2 (by decide) (Nat.le_of_ble_eq_true rfl) ?_
  intro p e R s m args below meth c Q C hRf hRc hRs hRl hQ hrt hnm
  refine z_loc (L' := [(0, .ref (ad 1)), (1, z_v f0), (2, z_v s0)]) [0, 1, 2] rfl ?_
  refine z_iconst C dX2_find_0 ?_
  refine z_istoren (L' := [(3, z_v 0), (0, .ref (ad 1)), (1, z_v f0), (2, z_v s0)]) C dX2_find_1 rfl (by decide) rfl ?_
  have L2 : ∀ (n : Nat), ∀ (i3 : Int), (0 ≤ i3 ∧ i3 ≤ 400) → ((400 : Int) - i3).toNat < n → z_V p l e R s m args below meth c Q D A 27 ad 4 (z_zc ad ks s_edgeCount s_moveCount s_isNeeded s_timesDone s_size s_isGoing s_allTime s_stepCount s_gapCount g_edges g_moves g_limits a_sfacts a_sbounds a_facts a_zone a_most a_places a_amounts a_nextPlaces a_nextAmounts a_earliest a_visited a_lastSet a_gapFrom a_gapTo a_gapLeast a_askedPlaces a_askedAmounts) Y 0 0 2 [(0, .ref (ad 1)), (1, z_v f0), (2, z_v s0), (3, z_v i3)] [] := by
    intro n
    induction n with
    | zero => intro i3 I3 hm; exact absurd hm (Nat.not_lt_zero _)
    | succ n ih2 =>
      intro i3 I3 hm
      refine z_iloadn C 3 dX2_find_2 rfl rfl ?_
      refine z_aloadn C 0 dX2_find_3 rfl rfl ?_
      refine z_get C 1 (by decide) rfl rfl z_it2 3 (by decide) rfl fl_2_48 rfl dX2_find_4 ?_
      refine z_icmp_ge (t := 49) C dX2_find_7 (by decide) (by omega) (by omega) (fun c1 => ?_) (fun c1 => ?_)
      · skip
        refine z_null C dX2_find_49 ?_
        rw [hQ]
        exact z_aret C hrt (Or.inl rfl) dX2_find_50 (⟨rfl, rfl, Or.inl rfl⟩) (by omega) (by omega)
      · skip
        refine z_aloadn C 0 dX2_find_10 rfl rfl ?_
        refine z_get C 1 (by decide) rfl rfl z_it2 2 (by decide) rfl fl_2_19 rfl dX2_find_11 ?_
        refine z_iloadn C 3 dX2_find_14 rfl rfl ?_
        obtain ⟨q2, eq2, hq2⟩ := HM (i3 : Int).toNat (by omega)
        refine z_aaldS C 3 2 (by decide) rfl rfl (by decide) (by omega) (by omega) eq2 dX2_find_15 ?_
        obtain ⟨fd3, sd3, pd3, od3, rd3, yd3, ad3, bd3, kd3⟩ := id hq2
        rcases od3 with _ | od3
        · skip
          refine z_getY C yd3 rfl z_it1 0 (by decide) rfl fl_2_55 rfl dX2_find_16 ?_
          refine z_iloadn C 1 dX2_find_19 rfl rfl ?_
          refine z_icmp_ne (t := 43) C dX2_find_20 (by decide) (by omega) (by omega) (fun c4 => ?_) (fun c4 => ?_)
          · skip
            refine z_iinc (L' := [(3, z_v (i3 + 1)), (0, .ref (ad 1)), (1, z_v f0), (2, z_v s0)]) C 3 dX2_find_43 rfl (by decide) rfl ?_
            refine z_goto (t := 2) C dX2_find_46 (by decide) ?_
            refine z_loc (L' := [(0, .ref (ad 1)), (1, z_v f0), (2, z_v s0), (3, z_v (i3 + 1))]) [1, 2, 3, 0] rfl ?_
            exact ih2 (i3 + 1) (by omega) (by omega)
          · skip
            refine z_aloadn C 0 dX2_find_23 rfl rfl ?_
            refine z_get C 1 (by decide) rfl rfl z_it2 2 (by decide) rfl fl_2_19 rfl dX2_find_24 ?_
            refine z_iloadn C 3 dX2_find_27 rfl rfl ?_
            obtain ⟨q5, eq5, hq5⟩ := HM (i3 : Int).toNat (by omega)
            refine z_aaldS C 3 2 (by decide) rfl rfl (by decide) (by omega) (by omega) eq5 dX2_find_28 ?_
            obtain ⟨fd6, sd6, pd6, od6, rd6, yd6, ad6, bd6, kd6⟩ := id hq5
            rcases od6 with _ | od6
            · skip
              refine z_getY C yd6 rfl z_it1 1 (by decide) rfl fl_2_58 rfl dX2_find_29 ?_
              refine z_iloadn C 2 dX2_find_32 rfl rfl ?_
              refine z_icmp_ne (t := 43) C dX2_find_33 (by decide) (by omega) (by omega) (fun c7 => ?_) (fun c7 => ?_)
              · skip
                refine z_iinc (L' := [(3, z_v (i3 + 1)), (0, .ref (ad 1)), (1, z_v f0), (2, z_v s0)]) C 3 dX2_find_43 rfl (by decide) rfl ?_
                refine z_goto (t := 2) C dX2_find_46 (by decide) ?_
                refine z_loc (L' := [(0, .ref (ad 1)), (1, z_v f0), (2, z_v s0), (3, z_v (i3 + 1))]) [1, 2, 3, 0] rfl ?_
                exact ih2 (i3 + 1) (by omega) (by omega)
              · skip
                refine z_aloadn C 0 dX2_find_36 rfl rfl ?_
                refine z_get C 1 (by decide) rfl rfl z_it2 2 (by decide) rfl fl_2_19 rfl dX2_find_37 ?_
                refine z_iloadn C 3 dX2_find_40 rfl rfl ?_
                obtain ⟨q8, eq8, hq8⟩ := HM (i3 : Int).toNat (by omega)
                refine z_aaldS C 3 2 (by decide) rfl rfl (by decide) (by omega) (by omega) eq8 dX2_find_41 ?_
                rw [hQ]
                exact z_aret C hrt (Or.inr ⟨_, rfl⟩) dX2_find_42 (⟨rfl, rfl, Or.inr ⟨_, rfl, hq8⟩⟩) (by omega) (by omega)
            · skip
              refine z_getY C yd6 rfl z_it1 1 (by decide) rfl fl_2_58 rfl dX2_find_29 ?_
              refine z_iloadn C 2 dX2_find_32 rfl rfl ?_
              refine z_icmp_ne (t := 43) C dX2_find_33 (by decide) (by omega) (by omega) (fun c9 => ?_) (fun c9 => ?_)
              · skip
                refine z_iinc (L' := [(3, z_v (i3 + 1)), (0, .ref (ad 1)), (1, z_v f0), (2, z_v s0)]) C 3 dX2_find_43 rfl (by decide) rfl ?_
                refine z_goto (t := 2) C dX2_find_46 (by decide) ?_
                refine z_loc (L' := [(0, .ref (ad 1)), (1, z_v f0), (2, z_v s0), (3, z_v (i3 + 1))]) [1, 2, 3, 0] rfl ?_
                exact ih2 (i3 + 1) (by omega) (by omega)
              · skip
                refine z_aloadn C 0 dX2_find_36 rfl rfl ?_
                refine z_get C 1 (by decide) rfl rfl z_it2 2 (by decide) rfl fl_2_19 rfl dX2_find_37 ?_
                refine z_iloadn C 3 dX2_find_40 rfl rfl ?_
                obtain ⟨q10, eq10, hq10⟩ := HM (i3 : Int).toNat (by omega)
                refine z_aaldS C 3 2 (by decide) rfl rfl (by decide) (by omega) (by omega) eq10 dX2_find_41 ?_
                rw [hQ]
                exact z_aret C hrt (Or.inr ⟨_, rfl⟩) dX2_find_42 (⟨rfl, rfl, Or.inr ⟨_, rfl, hq10⟩⟩) (by omega) (by omega)
        · skip
          refine z_getY C yd3 rfl z_it1 0 (by decide) rfl fl_2_55 rfl dX2_find_16 ?_
          refine z_iloadn C 1 dX2_find_19 rfl rfl ?_
          refine z_icmp_ne (t := 43) C dX2_find_20 (by decide) (by omega) (by omega) (fun c11 => ?_) (fun c11 => ?_)
          · skip
            refine z_iinc (L' := [(3, z_v (i3 + 1)), (0, .ref (ad 1)), (1, z_v f0), (2, z_v s0)]) C 3 dX2_find_43 rfl (by decide) rfl ?_
            refine z_goto (t := 2) C dX2_find_46 (by decide) ?_
            refine z_loc (L' := [(0, .ref (ad 1)), (1, z_v f0), (2, z_v s0), (3, z_v (i3 + 1))]) [1, 2, 3, 0] rfl ?_
            exact ih2 (i3 + 1) (by omega) (by omega)
          · skip
            refine z_aloadn C 0 dX2_find_23 rfl rfl ?_
            refine z_get C 1 (by decide) rfl rfl z_it2 2 (by decide) rfl fl_2_19 rfl dX2_find_24 ?_
            refine z_iloadn C 3 dX2_find_27 rfl rfl ?_
            obtain ⟨q12, eq12, hq12⟩ := HM (i3 : Int).toNat (by omega)
            refine z_aaldS C 3 2 (by decide) rfl rfl (by decide) (by omega) (by omega) eq12 dX2_find_28 ?_
            obtain ⟨fd13, sd13, pd13, od13, rd13, yd13, ad13, bd13, kd13⟩ := id hq12
            rcases od13 with _ | od13
            · skip
              refine z_getY C yd13 rfl z_it1 1 (by decide) rfl fl_2_58 rfl dX2_find_29 ?_
              refine z_iloadn C 2 dX2_find_32 rfl rfl ?_
              refine z_icmp_ne (t := 43) C dX2_find_33 (by decide) (by omega) (by omega) (fun c14 => ?_) (fun c14 => ?_)
              · skip
                refine z_iinc (L' := [(3, z_v (i3 + 1)), (0, .ref (ad 1)), (1, z_v f0), (2, z_v s0)]) C 3 dX2_find_43 rfl (by decide) rfl ?_
                refine z_goto (t := 2) C dX2_find_46 (by decide) ?_
                refine z_loc (L' := [(0, .ref (ad 1)), (1, z_v f0), (2, z_v s0), (3, z_v (i3 + 1))]) [1, 2, 3, 0] rfl ?_
                exact ih2 (i3 + 1) (by omega) (by omega)
              · skip
                refine z_aloadn C 0 dX2_find_36 rfl rfl ?_
                refine z_get C 1 (by decide) rfl rfl z_it2 2 (by decide) rfl fl_2_19 rfl dX2_find_37 ?_
                refine z_iloadn C 3 dX2_find_40 rfl rfl ?_
                obtain ⟨q15, eq15, hq15⟩ := HM (i3 : Int).toNat (by omega)
                refine z_aaldS C 3 2 (by decide) rfl rfl (by decide) (by omega) (by omega) eq15 dX2_find_41 ?_
                rw [hQ]
                exact z_aret C hrt (Or.inr ⟨_, rfl⟩) dX2_find_42 (⟨rfl, rfl, Or.inr ⟨_, rfl, hq15⟩⟩) (by omega) (by omega)
            · skip
              refine z_getY C yd13 rfl z_it1 1 (by decide) rfl fl_2_58 rfl dX2_find_29 ?_
              refine z_iloadn C 2 dX2_find_32 rfl rfl ?_
              refine z_icmp_ne (t := 43) C dX2_find_33 (by decide) (by omega) (by omega) (fun c16 => ?_) (fun c16 => ?_)
              · skip
                refine z_iinc (L' := [(3, z_v (i3 + 1)), (0, .ref (ad 1)), (1, z_v f0), (2, z_v s0)]) C 3 dX2_find_43 rfl (by decide) rfl ?_
                refine z_goto (t := 2) C dX2_find_46 (by decide) ?_
                refine z_loc (L' := [(0, .ref (ad 1)), (1, z_v f0), (2, z_v s0), (3, z_v (i3 + 1))]) [1, 2, 3, 0] rfl ?_
                exact ih2 (i3 + 1) (by omega) (by omega)
              · skip
                refine z_aloadn C 0 dX2_find_36 rfl rfl ?_
                refine z_get C 1 (by decide) rfl rfl z_it2 2 (by decide) rfl fl_2_19 rfl dX2_find_37 ?_
                refine z_iloadn C 3 dX2_find_40 rfl rfl ?_
                obtain ⟨q17, eq17, hq17⟩ := HM (i3 : Int).toNat (by omega)
                refine z_aaldS C 3 2 (by decide) rfl rfl (by decide) (by omega) (by omega) eq17 dX2_find_41 ?_
                rw [hQ]
                exact z_aret C hrt (Or.inr ⟨_, rfl⟩) dX2_find_42 (⟨rfl, rfl, Or.inr ⟨_, rfl, hq17⟩⟩) (by omega) (by omega)
  refine z_loc (L' := [(0, .ref (ad 1)), (1, z_v f0), (2, z_v s0), (3, z_v 0)]) [1, 2, 3, 0] rfl ?_
  exact (L2 (((400 : Int) - 0).toNat + 1)) 0 (by omega) (Nat.lt_succ_self _)
set_option maxRecDepth 20000 in
theorem cm_X2_limitsAllow_14_15 (l : Launch) {D : va_G} {A : Nat → Prop} {ad : Nat → Nat} {ks : z_Ks} {s_edgeCount s_moveCount s_isNeeded s_timesDone s_size s_isGoing s_allTime s_stepCount s_gapCount : Int} {g_edges g_moves g_limits : Nat → Option Nat} {a_sfacts a_sbounds a_facts a_zone a_most a_places a_amounts a_nextPlaces a_nextAmounts a_earliest a_visited a_lastSet a_gapFrom a_gapTo a_gapLeast a_askedPlaces a_askedAmounts : Nat → Int} {Y : Nat → Option va_E} (Ha_places : (∀ j, 0 ≤ a_places j ∧ a_places j ≤ 5)) (Ha_amounts : (∀ j, 0 ≤ a_amounts j ∧ a_amounts j ≤ 1000000)) (HL : ∀ j : Nat, (j : Int) < 18 → ∃ q, g_limits j = some q ∧ z_TL ks Y q) : z_Met l yX2_limitsAllow cX2_limitsAllow 4 (some .boolean) 3 63 0 0 D A 27 ad ks [.ref (ad 1), .ref (ad 14), .ref (ad 15)] (z_zc ad ks s_edgeCount s_moveCount s_isNeeded s_timesDone s_size s_isGoing s_allTime s_stepCount s_gapCount g_edges g_moves g_limits a_sfacts a_sbounds a_facts a_zone a_most a_places a_amounts a_nextPlaces a_nextAmounts a_earliest a_visited a_lastSet a_gapFrom a_gapTo a_gapLeast a_askedPlaces a_askedAmounts) Y (fun r S' Y' => S' = (z_zc ad ks s_edgeCount s_moveCount s_isNeeded s_timesDone s_size s_isGoing s_allTime s_stepCount s_gapCount g_edges g_moves g_limits a_sfacts a_sbounds a_facts a_zone a_most a_places a_amounts a_nextPlaces a_nextAmounts a_earliest a_visited a_lastSet a_gapFrom a_gapTo a_gapLeast a_askedPlaces a_askedAmounts) ∧ Y = Y' ∧ ∃ z : Int, r = some (z_v z) ∧ (z = 0 ∨ z = 1)) := by
  refine z_start2 (by decide) (Nat.le_of_ble_eq_true rfl) ?_
  intro p e R s m args below meth c Q C hRf hRc hRs hRl hQ hrt hnm
  refine z_loc (L' := [(0, .ref (ad 1)), (1, .ref (ad 14)), (2, .ref (ad 15))]) [0, 1, 2] rfl ?_
  refine z_iconst C dX2_limitsAllow_0 ?_
  refine z_istoren (L' := [(3, z_v 0), (0, .ref (ad 1)), (1, .ref (ad 14)), (2, .ref (ad 15))]) C dX2_limitsAllow_1 rfl (by decide) rfl ?_
  have L2 : ∀ (n : Nat), ∀ (i3 : Int), (0 ≤ i3 ∧ i3 ≤ 3) → ((3 : Int) - i3).toNat < n → z_V p l e R s m args below meth c Q D A 27 ad 4 (z_zc ad ks s_edgeCount s_moveCount s_isNeeded s_timesDone s_size s_isGoing s_allTime s_stepCount s_gapCount g_edges g_moves g_limits a_sfacts a_sbounds a_facts a_zone a_most a_places a_amounts a_nextPlaces a_nextAmounts a_earliest a_visited a_lastSet a_gapFrom a_gapTo a_gapLeast a_askedPlaces a_askedAmounts) Y 0 0 2 [(0, .ref (ad 1)), (1, .ref (ad 14)), (2, .ref (ad 15)), (3, z_v i3)] [] := by
    intro n
    induction n with
    | zero => intro i3 I3 hm; exact absurd hm (Nat.not_lt_zero _)
    | succ n ih2 =>
      intro i3 I3 hm
      refine z_iloadn C 3 dX2_limitsAllow_2 rfl rfl ?_
      refine z_iconst C dX2_limitsAllow_3 ?_
      refine z_icmp_ge (t := 30) C dX2_limitsAllow_4 (by decide) (by omega) (by omega) (fun c1 => ?_) (fun c1 => ?_)
      · skip
        refine z_iconst C dX2_limitsAllow_30 ?_
        rw [hQ]
        exact z_zret C hrt (by omega) dX2_limitsAllow_31 (⟨rfl, rfl, _, rfl, by omega⟩) (by omega) (by omega)
      · skip
        refine z_aloadn C 0 dX2_limitsAllow_7 rfl rfl ?_
        refine z_iloadn C 3 dX2_limitsAllow_8 rfl rfl ?_
        refine z_aloadn C 1 dX2_limitsAllow_9 rfl rfl ?_
        refine z_iloadn C 3 dX2_limitsAllow_10 rfl rfl ?_
        refine z_iald C 14 (by decide) rfl (by decide) (by omega) (by omega) dX2_limitsAllow_11 ?_
        have rx2 := Ha_places (i3 : Int).toNat
        generalize ex2 : a_places (i3 : Int).toNat = x2 at rx2 ⊢
        refine z_callV C (cm_X2_limitsOf l i3 x2 (by omega) (by omega) HL) mv_2_64 (z_atS 1 2 (by decide) rfl rfl rfl) pd_X2_limitsOf ⟨by omega, by omega⟩ ⟨by omega, by omega⟩ rfl (Nat.le_of_ble_eq_true rfl) dX2_limitsAllow_12 ?_
        rintro _ _ _ ⟨rfl, rfl, q3, rfl, hq3⟩
        refine z_aloadn C 2 dX2_limitsAllow_15 rfl rfl ?_
        obtain ⟨td4, nd4, gd4, yd4, wd4, ad4, bd4⟩ := id hq3
        refine z_callV C (cm_X6_allow_15 l q3 Ha_amounts hq3) mv_2_68 (z_atY 6 yd4 rfl rfl) pd_X6_allow ⟨by omega, by omega⟩ ⟨by omega, by omega⟩ rfl (Nat.le_of_ble_eq_true rfl) dX2_limitsAllow_16 ?_
        rintro _ _ _ ⟨rfl, rfl, z7, rfl, hz7⟩
        refine z_if_ne (t := 24) C dX2_limitsAllow_19 (by decide) (by omega) (fun c8 => ?_) (fun c8 => ?_)
        · skip
          refine z_iinc (L' := [(3, z_v (i3 + 1)), (0, .ref (ad 1)), (1, .ref (ad 14)), (2, .ref (ad 15))]) C 3 dX2_limitsAllow_24 rfl (by decide) rfl ?_
          refine z_goto (t := 2) C dX2_limitsAllow_27 (by decide) ?_
          refine z_loc (L' := [(0, .ref (ad 1)), (1, .ref (ad 14)), (2, .ref (ad 15)), (3, z_v (i3 + 1))]) [1, 2, 3, 0] rfl ?_
          exact ih2 (i3 + 1) (by omega) (by omega)
        · skip
          refine z_iconst C dX2_limitsAllow_22 ?_
          rw [hQ]
          exact z_zret C hrt (by omega) dX2_limitsAllow_23 (⟨rfl, rfl, _, rfl, by omega⟩) (by omega) (by omega)
  refine z_loc (L' := [(0, .ref (ad 1)), (1, .ref (ad 14)), (2, .ref (ad 15)), (3, z_v 0)]) [1, 2, 3, 0] rfl ?_
  exact (L2 (((3 : Int) - 0).toNat + 1)) 0 (by omega) (Nat.lt_succ_self _)
set_option maxRecDepth 20000 in
theorem cm_X2_limitsAllow_14_17 (l : Launch) {D : va_G} {A : Nat → Prop} {ad : Nat → Nat} {ks : z_Ks} {s_edgeCount s_moveCount s_isNeeded s_timesDone s_size s_isGoing s_allTime s_stepCount s_gapCount : Int} {g_edges g_moves g_limits : Nat → Option Nat} {a_sfacts a_sbounds a_facts a_zone a_most a_places a_amounts a_nextPlaces a_nextAmounts a_earliest a_visited a_lastSet a_gapFrom a_gapTo a_gapLeast a_askedPlaces a_askedAmounts : Nat → Int} {Y : Nat → Option va_E} (Ha_places : (∀ j, 0 ≤ a_places j ∧ a_places j ≤ 5)) (Ha_nextAmounts : (∀ j, 0 ≤ a_nextAmounts j ∧ a_nextAmounts j ≤ 1064000)) (HL : ∀ j : Nat, (j : Int) < 18 → ∃ q, g_limits j = some q ∧ z_TL ks Y q) : z_Met l yX2_limitsAllow cX2_limitsAllow 4 (some .boolean) 3 63 0 0 D A 27 ad ks [.ref (ad 1), .ref (ad 14), .ref (ad 17)] (z_zc ad ks s_edgeCount s_moveCount s_isNeeded s_timesDone s_size s_isGoing s_allTime s_stepCount s_gapCount g_edges g_moves g_limits a_sfacts a_sbounds a_facts a_zone a_most a_places a_amounts a_nextPlaces a_nextAmounts a_earliest a_visited a_lastSet a_gapFrom a_gapTo a_gapLeast a_askedPlaces a_askedAmounts) Y (fun r S' Y' => S' = (z_zc ad ks s_edgeCount s_moveCount s_isNeeded s_timesDone s_size s_isGoing s_allTime s_stepCount s_gapCount g_edges g_moves g_limits a_sfacts a_sbounds a_facts a_zone a_most a_places a_amounts a_nextPlaces a_nextAmounts a_earliest a_visited a_lastSet a_gapFrom a_gapTo a_gapLeast a_askedPlaces a_askedAmounts) ∧ Y = Y' ∧ ∃ z : Int, r = some (z_v z) ∧ (z = 0 ∨ z = 1)) := by
  refine z_start2 (by decide) (Nat.le_of_ble_eq_true rfl) ?_
  intro p e R s m args below meth c Q C hRf hRc hRs hRl hQ hrt hnm
  refine z_loc (L' := [(0, .ref (ad 1)), (1, .ref (ad 14)), (2, .ref (ad 17))]) [0, 1, 2] rfl ?_
  refine z_iconst C dX2_limitsAllow_0 ?_
  refine z_istoren (L' := [(3, z_v 0), (0, .ref (ad 1)), (1, .ref (ad 14)), (2, .ref (ad 17))]) C dX2_limitsAllow_1 rfl (by decide) rfl ?_
  have L2 : ∀ (n : Nat), ∀ (i3 : Int), (0 ≤ i3 ∧ i3 ≤ 3) → ((3 : Int) - i3).toNat < n → z_V p l e R s m args below meth c Q D A 27 ad 4 (z_zc ad ks s_edgeCount s_moveCount s_isNeeded s_timesDone s_size s_isGoing s_allTime s_stepCount s_gapCount g_edges g_moves g_limits a_sfacts a_sbounds a_facts a_zone a_most a_places a_amounts a_nextPlaces a_nextAmounts a_earliest a_visited a_lastSet a_gapFrom a_gapTo a_gapLeast a_askedPlaces a_askedAmounts) Y 0 0 2 [(0, .ref (ad 1)), (1, .ref (ad 14)), (2, .ref (ad 17)), (3, z_v i3)] [] := by
    intro n
    induction n with
    | zero => intro i3 I3 hm; exact absurd hm (Nat.not_lt_zero _)
    | succ n ih2 =>
      intro i3 I3 hm
      refine z_iloadn C 3 dX2_limitsAllow_2 rfl rfl ?_
      refine z_iconst C dX2_limitsAllow_3 ?_
      refine z_icmp_ge (t := 30) C dX2_limitsAllow_4 (by decide) (by omega) (by omega) (fun c1 => ?_) (fun c1 => ?_)
      · skip
        refine z_iconst C dX2_limitsAllow_30 ?_
        rw [hQ]
        exact z_zret C hrt (by omega) dX2_limitsAllow_31 (⟨rfl, rfl, _, rfl, by omega⟩) (by omega) (by omega)
      · skip
        refine z_aloadn C 0 dX2_limitsAllow_7 rfl rfl ?_
        refine z_iloadn C 3 dX2_limitsAllow_8 rfl rfl ?_
        refine z_aloadn C 1 dX2_limitsAllow_9 rfl rfl ?_
        refine z_iloadn C 3 dX2_limitsAllow_10 rfl rfl ?_
        refine z_iald C 14 (by decide) rfl (by decide) (by omega) (by omega) dX2_limitsAllow_11 ?_
        have rx2 := Ha_places (i3 : Int).toNat
        generalize ex2 : a_places (i3 : Int).toNat = x2 at rx2 ⊢
        refine z_callV C (cm_X2_limitsOf l i3 x2 (by omega) (by omega) HL) mv_2_64 (z_atS 1 2 (by decide) rfl rfl rfl) pd_X2_limitsOf ⟨by omega, by omega⟩ ⟨by omega, by omega⟩ rfl (Nat.le_of_ble_eq_true rfl) dX2_limitsAllow_12 ?_
        rintro _ _ _ ⟨rfl, rfl, q3, rfl, hq3⟩
        refine z_aloadn C 2 dX2_limitsAllow_15 rfl rfl ?_
        obtain ⟨td4, nd4, gd4, yd4, wd4, ad4, bd4⟩ := id hq3
        refine z_callV C (cm_X6_allow_17 l q3 Ha_nextAmounts hq3) mv_2_68 (z_atY 6 yd4 rfl rfl) pd_X6_allow ⟨by omega, by omega⟩ ⟨by omega, by omega⟩ rfl (Nat.le_of_ble_eq_true rfl) dX2_limitsAllow_16 ?_
        rintro _ _ _ ⟨rfl, rfl, z7, rfl, hz7⟩
        refine z_if_ne (t := 24) C dX2_limitsAllow_19 (by decide) (by omega) (fun c8 => ?_) (fun c8 => ?_)
        · skip
          refine z_iinc (L' := [(3, z_v (i3 + 1)), (0, .ref (ad 1)), (1, .ref (ad 14)), (2, .ref (ad 17))]) C 3 dX2_limitsAllow_24 rfl (by decide) rfl ?_
          refine z_goto (t := 2) C dX2_limitsAllow_27 (by decide) ?_
          refine z_loc (L' := [(0, .ref (ad 1)), (1, .ref (ad 14)), (2, .ref (ad 17)), (3, z_v (i3 + 1))]) [1, 2, 3, 0] rfl ?_
          exact ih2 (i3 + 1) (by omega) (by omega)
        · skip
          refine z_iconst C dX2_limitsAllow_22 ?_
          rw [hQ]
          exact z_zret C hrt (by omega) dX2_limitsAllow_23 (⟨rfl, rfl, _, rfl, by omega⟩) (by omega) (by omega)
  refine z_loc (L' := [(0, .ref (ad 1)), (1, .ref (ad 14)), (2, .ref (ad 17)), (3, z_v 0)]) [1, 2, 3, 0] rfl ?_
  exact (L2 (((3 : Int) - 0).toNat + 1)) 0 (by omega) (Nat.lt_succ_self _)
set_option maxRecDepth 20000 in
theorem cm_X2_limitsAllow_16_17 (l : Launch) {D : va_G} {A : Nat → Prop} {ad : Nat → Nat} {ks : z_Ks} {s_edgeCount s_moveCount s_isNeeded s_timesDone s_size s_isGoing s_allTime s_stepCount s_gapCount : Int} {g_edges g_moves g_limits : Nat → Option Nat} {a_sfacts a_sbounds a_facts a_zone a_most a_places a_amounts a_nextPlaces a_nextAmounts a_earliest a_visited a_lastSet a_gapFrom a_gapTo a_gapLeast a_askedPlaces a_askedAmounts : Nat → Int} {Y : Nat → Option va_E} (Ha_nextPlaces : (∀ j, 0 ≤ a_nextPlaces j ∧ a_nextPlaces j ≤ 5)) (Ha_nextAmounts : (∀ j, 0 ≤ a_nextAmounts j ∧ a_nextAmounts j ≤ 1064000)) (HL : ∀ j : Nat, (j : Int) < 18 → ∃ q, g_limits j = some q ∧ z_TL ks Y q) : z_Met l yX2_limitsAllow cX2_limitsAllow 4 (some .boolean) 3 63 0 0 D A 27 ad ks [.ref (ad 1), .ref (ad 16), .ref (ad 17)] (z_zc ad ks s_edgeCount s_moveCount s_isNeeded s_timesDone s_size s_isGoing s_allTime s_stepCount s_gapCount g_edges g_moves g_limits a_sfacts a_sbounds a_facts a_zone a_most a_places a_amounts a_nextPlaces a_nextAmounts a_earliest a_visited a_lastSet a_gapFrom a_gapTo a_gapLeast a_askedPlaces a_askedAmounts) Y (fun r S' Y' => S' = (z_zc ad ks s_edgeCount s_moveCount s_isNeeded s_timesDone s_size s_isGoing s_allTime s_stepCount s_gapCount g_edges g_moves g_limits a_sfacts a_sbounds a_facts a_zone a_most a_places a_amounts a_nextPlaces a_nextAmounts a_earliest a_visited a_lastSet a_gapFrom a_gapTo a_gapLeast a_askedPlaces a_askedAmounts) ∧ Y = Y' ∧ ∃ z : Int, r = some (z_v z) ∧ (z = 0 ∨ z = 1)) := by
  refine z_start2 (by decide) (Nat.le_of_ble_eq_true rfl) ?_
  intro p e R s m args below meth c Q C hRf hRc hRs hRl hQ hrt hnm
  refine z_loc (L' := [(0, .ref (ad 1)), (1, .ref (ad 16)), (2, .ref (ad 17))]) [0, 1, 2] rfl ?_
  refine z_iconst C dX2_limitsAllow_0 ?_
  refine z_istoren (L' := [(3, z_v 0), (0, .ref (ad 1)), (1, .ref (ad 16)), (2, .ref (ad 17))]) C dX2_limitsAllow_1 rfl (by decide) rfl ?_
  have L2 : ∀ (n : Nat), ∀ (i3 : Int), (0 ≤ i3 ∧ i3 ≤ 3) → ((3 : Int) - i3).toNat < n → z_V p l e R s m args below meth c Q D A 27 ad 4 (z_zc ad ks s_edgeCount s_moveCount s_isNeeded s_timesDone s_size s_isGoing s_allTime s_stepCount s_gapCount g_edges g_moves g_limits a_sfacts a_sbounds a_facts a_zone a_most a_places a_amounts a_nextPlaces a_nextAmounts a_earliest a_visited a_lastSet a_gapFrom a_gapTo a_gapLeast a_askedPlaces a_askedAmounts) Y 0 0 2 [(0, .ref (ad 1)), (1, .ref (ad 16)), (2, .ref (ad 17)), (3, z_v i3)] [] := by
    intro n
    induction n with
    | zero => intro i3 I3 hm; exact absurd hm (Nat.not_lt_zero _)
    | succ n ih2 =>
      intro i3 I3 hm
      refine z_iloadn C 3 dX2_limitsAllow_2 rfl rfl ?_
      refine z_iconst C dX2_limitsAllow_3 ?_
      refine z_icmp_ge (t := 30) C dX2_limitsAllow_4 (by decide) (by omega) (by omega) (fun c1 => ?_) (fun c1 => ?_)
      · skip
        refine z_iconst C dX2_limitsAllow_30 ?_
        rw [hQ]
        exact z_zret C hrt (by omega) dX2_limitsAllow_31 (⟨rfl, rfl, _, rfl, by omega⟩) (by omega) (by omega)
      · skip
        refine z_aloadn C 0 dX2_limitsAllow_7 rfl rfl ?_
        refine z_iloadn C 3 dX2_limitsAllow_8 rfl rfl ?_
        refine z_aloadn C 1 dX2_limitsAllow_9 rfl rfl ?_
        refine z_iloadn C 3 dX2_limitsAllow_10 rfl rfl ?_
        refine z_iald C 16 (by decide) rfl (by decide) (by omega) (by omega) dX2_limitsAllow_11 ?_
        have rx2 := Ha_nextPlaces (i3 : Int).toNat
        generalize ex2 : a_nextPlaces (i3 : Int).toNat = x2 at rx2 ⊢
        refine z_callV C (cm_X2_limitsOf l i3 x2 (by omega) (by omega) HL) mv_2_64 (z_atS 1 2 (by decide) rfl rfl rfl) pd_X2_limitsOf ⟨by omega, by omega⟩ ⟨by omega, by omega⟩ rfl (Nat.le_of_ble_eq_true rfl) dX2_limitsAllow_12 ?_
        rintro _ _ _ ⟨rfl, rfl, q3, rfl, hq3⟩
        refine z_aloadn C 2 dX2_limitsAllow_15 rfl rfl ?_
        obtain ⟨td4, nd4, gd4, yd4, wd4, ad4, bd4⟩ := id hq3
        refine z_callV C (cm_X6_allow_17 l q3 Ha_nextAmounts hq3) mv_2_68 (z_atY 6 yd4 rfl rfl) pd_X6_allow ⟨by omega, by omega⟩ ⟨by omega, by omega⟩ rfl (Nat.le_of_ble_eq_true rfl) dX2_limitsAllow_16 ?_
        rintro _ _ _ ⟨rfl, rfl, z7, rfl, hz7⟩
        refine z_if_ne (t := 24) C dX2_limitsAllow_19 (by decide) (by omega) (fun c8 => ?_) (fun c8 => ?_)
        · skip
          refine z_iinc (L' := [(3, z_v (i3 + 1)), (0, .ref (ad 1)), (1, .ref (ad 16)), (2, .ref (ad 17))]) C 3 dX2_limitsAllow_24 rfl (by decide) rfl ?_
          refine z_goto (t := 2) C dX2_limitsAllow_27 (by decide) ?_
          refine z_loc (L' := [(0, .ref (ad 1)), (1, .ref (ad 16)), (2, .ref (ad 17)), (3, z_v (i3 + 1))]) [1, 2, 3, 0] rfl ?_
          exact ih2 (i3 + 1) (by omega) (by omega)
        · skip
          refine z_iconst C dX2_limitsAllow_22 ?_
          rw [hQ]
          exact z_zret C hrt (by omega) dX2_limitsAllow_23 (⟨rfl, rfl, _, rfl, by omega⟩) (by omega) (by omega)
  refine z_loc (L' := [(0, .ref (ad 1)), (1, .ref (ad 16)), (2, .ref (ad 17)), (3, z_v 0)]) [1, 2, 3, 0] rfl ?_
  exact (L2 (((3 : Int) - 0).toNat + 1)) 0 (by omega) (Nat.lt_succ_self _)
set_option maxRecDepth 20000 in
theorem cm_X2_limitsNarrow (l : Launch) {D : va_G} {A : Nat → Prop} {ad : Nat → Nat} {ks : z_Ks} {s_edgeCount s_moveCount s_isNeeded s_timesDone s_size s_isGoing s_allTime s_stepCount s_gapCount : Int} {g_edges g_moves g_limits : Nat → Option Nat} {a_sfacts a_sbounds a_facts a_zone a_most a_places a_amounts a_nextPlaces a_nextAmounts a_earliest a_visited a_lastSet a_gapFrom a_gapTo a_gapLeast a_askedPlaces a_askedAmounts : Nat → Int} {Y : Nat → Option va_E} (Ha_facts : (∀ j, (j % 7 < 3 → 0 ≤ a_facts j ∧ a_facts j ≤ 5) ∧ (j % 7 = 3 → -1 ≤ a_facts j ∧ a_facts j ≤ 119) ∧ (j % 7 = 6 → 0 ≤ a_facts j ∧ a_facts j ≤ 40) ∧ z_rg (a_facts j))) (Ha_zone : (∀ j, z_rg (a_zone j))) (HL : ∀ j : Nat, (j : Int) < 18 → ∃ q, g_limits j = some q ∧ z_TL ks Y q) : z_Met l yX2_limitsNarrow cX2_limitsNarrow 4 (some .boolean) 3 71 0 0 D A 27 ad ks [.ref (ad 1), .ref (ad 9), .ref (ad 10)] (z_zc ad ks s_edgeCount s_moveCount s_isNeeded s_timesDone s_size s_isGoing s_allTime s_stepCount s_gapCount g_edges g_moves g_limits a_sfacts a_sbounds a_facts a_zone a_most a_places a_amounts a_nextPlaces a_nextAmounts a_earliest a_visited a_lastSet a_gapFrom a_gapTo a_gapLeast a_askedPlaces a_askedAmounts) Y (fun r S' Y' => ∃ na_zone : Nat → Int, S' = (z_zc ad ks s_edgeCount s_moveCount s_isNeeded s_timesDone s_size s_isGoing s_allTime s_stepCount s_gapCount g_edges g_moves g_limits a_sfacts a_sbounds a_facts na_zone a_most a_places a_amounts a_nextPlaces a_nextAmounts a_earliest a_visited a_lastSet a_gapFrom a_gapTo a_gapLeast a_askedPlaces a_askedAmounts) ∧ Y = Y' ∧ (∀ j, z_rg (na_zone j)) ∧ ∃ z : Int, r = some (z_v z) ∧ (z = 0 ∨ z = 1)) := by
  refine z_start2 (by decide) (Nat.le_of_ble_eq_true rfl) ?_
  intro p e R s m args below meth c Q C hRf hRc hRs hRl hQ hrt hnm
  refine z_loc (L' := [(0, .ref (ad 1)), (1, .ref (ad 9)), (2, .ref (ad 10))]) [0, 1, 2] rfl ?_
  refine z_iconst C dX2_limitsNarrow_0 ?_
  refine z_istoren (L' := [(3, z_v 0), (0, .ref (ad 1)), (1, .ref (ad 9)), (2, .ref (ad 10))]) C dX2_limitsNarrow_1 rfl (by decide) rfl ?_
  have L2 : ∀ (n : Nat), ∀ (i3 : Int) (fa_zone : Nat → Int), ((∀ j, z_rg (fa_zone j))) → (0 ≤ i3 ∧ i3 ≤ 3) → ((3 : Int) - i3).toNat < n → z_V p l e R s m args below meth c Q D A 27 ad 4 (z_zc ad ks s_edgeCount s_moveCount s_isNeeded s_timesDone s_size s_isGoing s_allTime s_stepCount s_gapCount g_edges g_moves g_limits a_sfacts a_sbounds a_facts fa_zone a_most a_places a_amounts a_nextPlaces a_nextAmounts a_earliest a_visited a_lastSet a_gapFrom a_gapTo a_gapLeast a_askedPlaces a_askedAmounts) Y 0 0 2 [(0, .ref (ad 1)), (1, .ref (ad 9)), (2, .ref (ad 10)), (3, z_v i3)] [] := by
    intro n
    induction n with
    | zero => intro i3 fa_zone Hfa_zone I3 hm; exact absurd hm (Nat.not_lt_zero _)
    | succ n ih2 =>
      intro i3 fa_zone Hfa_zone I3 hm
      refine z_iloadn C 3 dX2_limitsNarrow_2 rfl rfl ?_
      refine z_iconst C dX2_limitsNarrow_3 ?_
      refine z_icmp_ge (t := 30) C dX2_limitsNarrow_4 (by decide) (by omega) (by omega) (fun c1 => ?_) (fun c1 => ?_)
      · skip
        refine z_iconst C dX2_limitsNarrow_30 ?_
        rw [hQ]
        exact z_zret C hrt (by omega) dX2_limitsNarrow_31 (⟨fa_zone, rfl, rfl, Hfa_zone, _, rfl, by omega⟩) (by omega) (by omega)
      · skip
        refine z_aloadn C 0 dX2_limitsNarrow_7 rfl rfl ?_
        refine z_iloadn C 3 dX2_limitsNarrow_8 rfl rfl ?_
        refine z_aloadn C 1 dX2_limitsNarrow_9 rfl rfl ?_
        refine z_iloadn C 3 dX2_limitsNarrow_10 rfl rfl ?_
        refine z_iald C 9 (by decide) rfl (by decide) (by omega) (by omega) dX2_limitsNarrow_11 ?_
        have rx2 := Ha_facts (i3 : Int).toNat
        generalize ex2 : a_facts (i3 : Int).toNat = x2 at rx2 ⊢
        refine z_callV C (cm_X2_limitsOf l i3 x2 (by omega) (by omega) HL) mv_2_64 (z_atS 1 2 (by decide) rfl rfl rfl) pd_X2_limitsOf ⟨by omega, by omega⟩ ⟨by omega, by omega⟩ rfl (Nat.le_of_ble_eq_true rfl) dX2_limitsNarrow_12 ?_
        rintro _ _ _ ⟨rfl, rfl, q3, rfl, hq3⟩
        refine z_aloadn C 2 dX2_limitsNarrow_15 rfl rfl ?_
        obtain ⟨td4, nd4, gd4, yd4, wd4, ad4, bd4⟩ := id hq3
        refine z_callV C (cm_X6_narrow l q3 Hfa_zone hq3) mv_2_72 (z_atY 6 yd4 rfl rfl) pd_X6_narrow ⟨by omega, by omega⟩ ⟨by omega, by omega⟩ rfl (Nat.le_of_ble_eq_true rfl) dX2_limitsNarrow_16 ?_
        rintro _ _ _ ⟨n5, rfl, rfl, h8, z9, rfl, hz9⟩
        refine z_if_ne (t := 24) C dX2_limitsNarrow_19 (by decide) (by omega) (fun c10 => ?_) (fun c10 => ?_)
        · skip
          refine z_iinc (L' := [(3, z_v (i3 + 1)), (0, .ref (ad 1)), (1, .ref (ad 9)), (2, .ref (ad 10))]) C 3 dX2_limitsNarrow_24 rfl (by decide) rfl ?_
          refine z_goto (t := 2) C dX2_limitsNarrow_27 (by decide) ?_
          refine z_loc (L' := [(0, .ref (ad 1)), (1, .ref (ad 9)), (2, .ref (ad 10)), (3, z_v (i3 + 1))]) [1, 2, 3, 0] rfl ?_
          exact ih2 (i3 + 1) n5 h8 (by omega) (by omega)
        · skip
          refine z_iconst C dX2_limitsNarrow_22 ?_
          rw [hQ]
          exact z_zret C hrt (by omega) dX2_limitsNarrow_23 (⟨n5, rfl, rfl, h8, _, rfl, by omega⟩) (by omega) (by omega)
  refine z_loc (L' := [(0, .ref (ad 1)), (1, .ref (ad 9)), (2, .ref (ad 10)), (3, z_v 0)]) [1, 2, 3, 0] rfl ?_
  exact (L2 (((3 : Int) - 0).toNat + 1)) 0 a_zone Ha_zone (by omega) (Nat.lt_succ_self _)
set_option maxRecDepth 20000 in
theorem cm_X2_greatestOf (l : Launch) {D : va_G} {A : Nat → Prop} {ad : Nat → Nat} {ks : z_Ks} {s_edgeCount s_moveCount s_isNeeded s_timesDone s_size s_isGoing s_allTime s_stepCount s_gapCount : Int} {g_edges g_moves g_limits : Nat → Option Nat} {a_sfacts a_sbounds a_facts a_zone a_most a_places a_amounts a_nextPlaces a_nextAmounts a_earliest a_visited a_lastSet a_gapFrom a_gapTo a_gapLeast a_askedPlaces a_askedAmounts : Nat → Int} {Y : Nat → Option va_E} (x : Int) (Hs_edgeCount : (0 ≤ s_edgeCount ∧ s_edgeCount ≤ 20)) (hx : z_rg x) (HE : ∀ j : Nat, (j : Int) < s_edgeCount → ∃ q, g_edges j = some q ∧ z_E ks Y q) (HL : ∀ j : Nat, (j : Int) < 18 → ∃ q, g_limits j = some q ∧ z_TL ks Y q) : z_Met l yX2_greatestOf cX2_greatestOf 4 (some .int) 2 44 0 0 D A 27 ad ks [.ref (ad 1), z_v x] (z_zc ad ks s_edgeCount s_moveCount s_isNeeded s_timesDone s_size s_isGoing s_allTime s_stepCount s_gapCount g_edges g_moves g_limits a_sfacts a_sbounds a_facts a_zone a_most a_places a_amounts a_nextPlaces a_nextAmounts a_earliest a_visited a_lastSet a_gapFrom a_gapTo a_gapLeast a_askedPlaces a_askedAmounts) Y (fun r S' Y' => S' = (z_zc ad ks s_edgeCount s_moveCount s_isNeeded s_timesDone s_size s_isGoing s_allTime s_stepCount s_gapCount g_edges g_moves g_limits a_sfacts a_sbounds a_facts a_zone a_most a_places a_amounts a_nextPlaces a_nextAmounts a_earliest a_visited a_lastSet a_gapFrom a_gapTo a_gapLeast a_askedPlaces a_askedAmounts) ∧ Y = Y' ∧ ∃ z : Int, r = some (z_v z) ∧ (0 ≤ z ∧ z ≤ 1000)) := by
  refine z_start2 (by decide) (Nat.le_of_ble_eq_true rfl) ?_
  intro p e R s m args below meth c Q C hRf hRc hRs hRl hQ hrt hnm
  refine z_loc (L' := [(0, .ref (ad 1)), (1, z_v x)]) [0, 1] rfl ?_
  refine z_iconst C dX2_greatestOf_0 ?_
  refine z_istoren (L' := [(2, z_v 0), (0, .ref (ad 1)), (1, z_v x)]) C dX2_greatestOf_1 rfl (by decide) rfl ?_
  refine z_iconst C dX2_greatestOf_2 ?_
  refine z_istoren (L' := [(3, z_v 0), (2, z_v 0), (0, .ref (ad 1)), (1, z_v x)]) C dX2_greatestOf_3 rfl (by decide) rfl ?_
  have L4 : ∀ (n : Nat), ∀ (i2 : Int) (i3 : Int), (0 ≤ i3 ∧ i3 ≤ 20) → (0 ≤ i2 ∧ i2 ≤ 1000) → ((20 : Int) - i3).toNat < n → z_V p l e R s m args below meth c Q D A 27 ad 4 (z_zc ad ks s_edgeCount s_moveCount s_isNeeded s_timesDone s_size s_isGoing s_allTime s_stepCount s_gapCount g_edges g_moves g_limits a_sfacts a_sbounds a_facts a_zone a_most a_places a_amounts a_nextPlaces a_nextAmounts a_earliest a_visited a_lastSet a_gapFrom a_gapTo a_gapLeast a_askedPlaces a_askedAmounts) Y 0 0 4 [(0, .ref (ad 1)), (1, z_v x), (2, z_v i2), (3, z_v i3)] [] := by
    intro n
    induction n with
    | zero => intro i2 i3 I3 I2 hm; exact absurd hm (Nat.not_lt_zero _)
    | succ n ih4 =>
      intro i2 i3 I3 I2 hm
      refine z_iloadn C 3 dX2_greatestOf_4 rfl rfl ?_
      refine z_aloadn C 0 dX2_greatestOf_5 rfl rfl ?_
      refine z_get C 1 (by decide) rfl rfl z_it2 1 (by decide) rfl fl_2_30 rfl dX2_greatestOf_6 ?_
      refine z_icmp_ge (t := 36) C dX2_greatestOf_9 (by decide) (by omega) (by omega) (fun c1 => ?_) (fun c1 => ?_)
      · skip
        refine z_iconst C dX2_greatestOf_36 ?_
        refine z_istoren (L' := [(3, z_v 0), (0, .ref (ad 1)), (1, z_v x), (2, z_v i2)]) C dX2_greatestOf_37 rfl (by decide) rfl ?_
        have L38 : ∀ (n : Nat), ∀ (i2 : Int) (i3 : Int), (0 ≤ i3 ∧ i3 ≤ 18) → (0 ≤ i2 ∧ i2 ≤ 1000) → ((18 : Int) - i3).toNat < n → z_V p l e R s m args below meth c Q D A 27 ad 4 (z_zc ad ks s_edgeCount s_moveCount s_isNeeded s_timesDone s_size s_isGoing s_allTime s_stepCount s_gapCount g_edges g_moves g_limits a_sfacts a_sbounds a_facts a_zone a_most a_places a_amounts a_nextPlaces a_nextAmounts a_earliest a_visited a_lastSet a_gapFrom a_gapTo a_gapLeast a_askedPlaces a_askedAmounts) Y 0 0 38 [(0, .ref (ad 1)), (1, z_v x), (2, z_v i2), (3, z_v i3)] [] := by
          intro n
          induction n with
          | zero => intro i2 i3 I3 I2 hm; exact absurd hm (Nat.not_lt_zero _)
          | succ n ih38 =>
            intro i2 i3 I3 I2 hm
            refine z_iloadn C 3 dX2_greatestOf_38 rfl rfl ?_
            refine z_bipush C dX2_greatestOf_39 (by decide) ?_
            refine z_icmp_ge (t := 65) C dX2_greatestOf_41 (by decide) (by omega) (by omega) (fun c2 => ?_) (fun c2 => ?_)
            · skip
              refine z_iloadn C 2 dX2_greatestOf_65 rfl rfl ?_
              rw [hQ]
              exact z_iret C hrt dX2_greatestOf_66 (⟨rfl, rfl, _, rfl, by omega⟩) (by omega) (by omega)
            · skip
              refine z_iloadn C 2 dX2_greatestOf_44 rfl rfl ?_
              refine z_aloadn C 0 dX2_greatestOf_45 rfl rfl ?_
              refine z_get C 1 (by decide) rfl rfl z_it2 4 (by decide) rfl fl_2_25 rfl dX2_greatestOf_46 ?_
              refine z_iloadn C 3 dX2_greatestOf_49 rfl rfl ?_
              obtain ⟨q3, eq3, hq3⟩ := HL (i3 : Int).toNat (by omega)
              refine z_aaldS C 4 3 (by decide) rfl rfl (by decide) (by omega) (by omega) eq3 dX2_greatestOf_50 ?_
              refine z_iloadn C 1 dX2_greatestOf_51 rfl rfl ?_
              obtain ⟨td4, nd4, gd4, yd4, wd4, ad4, bd4⟩ := id hq3
              refine z_callV C (cm_X6_greatestNumber l x q3 hq3 (by omega)) mv_2_80 (z_atY 6 yd4 rfl rfl) pd_X6_greatestNumber ⟨by omega, by omega⟩ ⟨by omega, by omega⟩ rfl (Nat.le_of_ble_eq_true rfl) dX2_greatestOf_52 ?_
              rintro _ _ _ ⟨rfl, rfl, z7, rfl, hz7⟩
              refine z_max C mm_2_84 (by omega) (by omega) (by omega) (by rw [hRl]; exact Nat.le_of_ble_eq_true rfl) (by omega) (by omega) dX2_greatestOf_55 ?_
              obtain ⟨x8, ex8⟩ : ∃ z : Int, z = (if i2 < z7 then z7 else i2) := ⟨_, rfl⟩
              rw [← ex8]
              have rx8 : (x8 = i2 ∨ x8 = z7) ∧ i2 ≤ x8 ∧ z7 ≤ x8 := by split at ex8 <;> omega
              refine z_istoren (L' := [(2, z_v x8), (0, .ref (ad 1)), (1, z_v x), (3, z_v i3)]) C dX2_greatestOf_58 rfl (by decide) rfl ?_
              refine z_iinc (L' := [(3, z_v (i3 + 1)), (2, z_v x8), (0, .ref (ad 1)), (1, z_v x)]) C 3 dX2_greatestOf_59 rfl (by decide) rfl ?_
              refine z_goto (t := 38) C dX2_greatestOf_62 (by decide) ?_
              refine z_loc (L' := [(0, .ref (ad 1)), (1, z_v x), (2, z_v x8), (3, z_v (i3 + 1))]) [2, 3, 1, 0] rfl ?_
              exact ih38 x8 (i3 + 1) (by omega) (by omega) (by omega)
        refine z_loc (L' := [(0, .ref (ad 1)), (1, z_v x), (2, z_v i2), (3, z_v 0)]) [1, 2, 3, 0] rfl ?_
        exact (L38 (((18 : Int) - 0).toNat + 1)) i2 0 (by omega) (by omega) (Nat.lt_succ_self _)
      · skip
        refine z_iloadn C 2 dX2_greatestOf_12 rfl rfl ?_
        refine z_aloadn C 0 dX2_greatestOf_13 rfl rfl ?_
        refine z_get C 1 (by decide) rfl rfl z_it2 0 (by decide) rfl fl_2_11 rfl dX2_greatestOf_14 ?_
        refine z_iloadn C 3 dX2_greatestOf_17 rfl rfl ?_
        obtain ⟨q9, eq9, hq9⟩ := HE (i3 : Int).toNat (by omega)
        refine z_aaldS C 2 1 (by decide) rfl rfl (by decide) (by omega) (by omega) eq9 dX2_greatestOf_18 ?_
        obtain ⟨md10, fd10, td10, kd10, rd10, gd10, yd10, ad10, bd10⟩ := id hq9
        refine z_getY C yd10 rfl z_it0 5 (by decide) rfl fl_2_76 rfl dX2_greatestOf_19 ?_
        refine z_iloadn C 1 dX2_greatestOf_22 rfl rfl ?_
        obtain ⟨td11, nd11, gd11, yd11, wd11, ad11, bd11⟩ := id bd10
        refine z_callV C (cm_X6_greatestNumber l x gd10 bd10 (by omega)) mv_2_80 (z_atY 6 yd11 rfl rfl) pd_X6_greatestNumber ⟨by omega, by omega⟩ ⟨by omega, by omega⟩ rfl (Nat.le_of_ble_eq_true rfl) dX2_greatestOf_23 ?_
        rintro _ _ _ ⟨rfl, rfl, z14, rfl, hz14⟩
        refine z_max C mm_2_84 (by omega) (by omega) (by omega) (by rw [hRl]; exact Nat.le_of_ble_eq_true rfl) (by omega) (by omega) dX2_greatestOf_26 ?_
        obtain ⟨x15, ex15⟩ : ∃ z : Int, z = (if i2 < z14 then z14 else i2) := ⟨_, rfl⟩
        rw [← ex15]
        have rx15 : (x15 = i2 ∨ x15 = z14) ∧ i2 ≤ x15 ∧ z14 ≤ x15 := by split at ex15 <;> omega
        refine z_istoren (L' := [(2, z_v x15), (0, .ref (ad 1)), (1, z_v x), (3, z_v i3)]) C dX2_greatestOf_29 rfl (by decide) rfl ?_
        refine z_iinc (L' := [(3, z_v (i3 + 1)), (2, z_v x15), (0, .ref (ad 1)), (1, z_v x)]) C 3 dX2_greatestOf_30 rfl (by decide) rfl ?_
        refine z_goto (t := 4) C dX2_greatestOf_33 (by decide) ?_
        refine z_loc (L' := [(0, .ref (ad 1)), (1, z_v x), (2, z_v x15), (3, z_v (i3 + 1))]) [2, 3, 1, 0] rfl ?_
        exact ih4 x15 (i3 + 1) (by omega) (by omega) (by omega)
  refine z_loc (L' := [(0, .ref (ad 1)), (1, z_v x), (2, z_v 0), (3, z_v 0)]) [2, 3, 1, 0] rfl ?_
  exact (L4 (((20 : Int) - 0).toNat + 1)) 0 0 (by omega) (by omega) (Nat.lt_succ_self _)
set_option maxRecDepth 20000 in
theorem cm_X2_guardCount (l : Launch) {D : va_G} {A : Nat → Prop} {ad : Nat → Nat} {ks : z_Ks} {s_edgeCount s_moveCount s_isNeeded s_timesDone s_size s_isGoing s_allTime s_stepCount s_gapCount : Int} {g_edges g_moves g_limits : Nat → Option Nat} {a_sfacts a_sbounds a_facts a_zone a_most a_places a_amounts a_nextPlaces a_nextAmounts a_earliest a_visited a_lastSet a_gapFrom a_gapTo a_gapLeast a_askedPlaces a_askedAmounts : Nat → Int} {Y : Nat → Option va_E} (Hs_edgeCount : (0 ≤ s_edgeCount ∧ s_edgeCount ≤ 20)) (HE : ∀ j : Nat, (j : Int) < s_edgeCount → ∃ q, g_edges j = some q ∧ z_E ks Y q) : z_Met l yX2_guardCount cX2_guardCount 3 (some .int) 0 0 0 0 D A 27 ad ks [.ref (ad 1)] (z_zc ad ks s_edgeCount s_moveCount s_isNeeded s_timesDone s_size s_isGoing s_allTime s_stepCount s_gapCount g_edges g_moves g_limits a_sfacts a_sbounds a_facts a_zone a_most a_places a_amounts a_nextPlaces a_nextAmounts a_earliest a_visited a_lastSet a_gapFrom a_gapTo a_gapLeast a_askedPlaces a_askedAmounts) Y (fun r S' Y' => S' = (z_zc ad ks s_edgeCount s_moveCount s_isNeeded s_timesDone s_size s_isGoing s_allTime s_stepCount s_gapCount g_edges g_moves g_limits a_sfacts a_sbounds a_facts a_zone a_most a_places a_amounts a_nextPlaces a_nextAmounts a_earliest a_visited a_lastSet a_gapFrom a_gapTo a_gapLeast a_askedPlaces a_askedAmounts) ∧ Y = Y' ∧ ∃ z : Int, r = some (z_v z) ∧ (True)) := by
  refine z_start2 (by decide) (Nat.le_of_ble_eq_true rfl) ?_
  intro p e R s m args below meth c Q C hRf hRc hRs hRl hQ hrt hnm
  refine z_loc (L' := [(0, .ref (ad 1))]) [0] rfl ?_
  refine z_iconst C dX2_guardCount_0 ?_
  refine z_istoren (L' := [(1, z_v 0), (0, .ref (ad 1))]) C dX2_guardCount_1 rfl (by decide) rfl ?_
  refine z_iconst C dX2_guardCount_2 ?_
  refine z_istoren (L' := [(2, z_v 0), (1, z_v 0), (0, .ref (ad 1))]) C dX2_guardCount_3 rfl (by decide) rfl ?_
  have L4 : ∀ (n : Nat), ∀ (i1 : Int) (i2 : Int), (0 ≤ i2 ∧ i2 ≤ 20) → ((20 : Int) - i2).toNat < n → z_V p l e R s m args below meth c Q D A 27 ad 3 (z_zc ad ks s_edgeCount s_moveCount s_isNeeded s_timesDone s_size s_isGoing s_allTime s_stepCount s_gapCount g_edges g_moves g_limits a_sfacts a_sbounds a_facts a_zone a_most a_places a_amounts a_nextPlaces a_nextAmounts a_earliest a_visited a_lastSet a_gapFrom a_gapTo a_gapLeast a_askedPlaces a_askedAmounts) Y 0 0 4 [(0, .ref (ad 1)), (1, z_v i1), (2, z_v i2)] [] := by
    intro n
    induction n with
    | zero => intro i1 i2 I2 hm; exact absurd hm (Nat.not_lt_zero _)
    | succ n ih4 =>
      intro i1 i2 I2 hm
      refine z_iloadn C 2 dX2_guardCount_4 rfl rfl ?_
      refine z_aloadn C 0 dX2_guardCount_5 rfl rfl ?_
      refine z_get C 1 (by decide) rfl rfl z_it2 1 (by decide) rfl fl_2_30 rfl dX2_guardCount_6 ?_
      refine z_icmp_ge (t := 33) C dX2_guardCount_9 (by decide) (by omega) (by omega) (fun c1 => ?_) (fun c1 => ?_)
      · skip
        refine z_iloadn C 1 dX2_guardCount_33 rfl rfl ?_
        rw [hQ]
        exact z_iret C hrt dX2_guardCount_34 (⟨rfl, rfl, _, rfl, trivial⟩) (by omega) (by omega)
      · skip
        refine z_iloadn C 1 dX2_guardCount_12 rfl rfl ?_
        refine z_aloadn C 0 dX2_guardCount_13 rfl rfl ?_
        refine z_get C 1 (by decide) rfl rfl z_it2 0 (by decide) rfl fl_2_11 rfl dX2_guardCount_14 ?_
        refine z_iloadn C 2 dX2_guardCount_17 rfl rfl ?_
        obtain ⟨q2, eq2, hq2⟩ := HE (i2 : Int).toNat (by omega)
        refine z_aaldS C 2 1 (by decide) rfl rfl (by decide) (by omega) (by omega) eq2 dX2_guardCount_18 ?_
        obtain ⟨md3, fd3, td3, kd3, rd3, gd3, yd3, ad3, bd3⟩ := id hq2
        refine z_getY C yd3 rfl z_it0 5 (by decide) rfl fl_2_76 rfl dX2_guardCount_19 ?_
        obtain ⟨td4, nd4, gd4, yd4, wd4, ad4, bd4⟩ := id bd3
        refine z_getY C yd4 rfl z_it6 1 (by decide) rfl fl_2_61 rfl dX2_guardCount_22 ?_
        refine z_iadd C dX2_guardCount_25 ?_
        refine z_istoren (L' := [(1, z_v (i1 + nd4)), (0, .ref (ad 1)), (2, z_v i2)]) C dX2_guardCount_26 rfl (by decide) rfl ?_
        refine z_iinc (L' := [(2, z_v (i2 + 1)), (1, z_v (i1 + nd4)), (0, .ref (ad 1))]) C 2 dX2_guardCount_27 rfl (by decide) rfl ?_
        refine z_goto (t := 4) C dX2_guardCount_30 (by decide) ?_
        refine z_loc (L' := [(0, .ref (ad 1)), (1, z_v (i1 + nd4)), (2, z_v (i2 + 1))]) [2, 1, 0] rfl ?_
        exact ih4 (i1 + nd4) (i2 + 1) (by omega) (by omega)
  refine z_loc (L' := [(0, .ref (ad 1)), (1, z_v 0), (2, z_v 0)]) [2, 1, 0] rfl ?_
  exact (L4 (((20 : Int) - 0).toNat + 1)) 0 0 (by omega) (Nat.lt_succ_self _)
set_option maxRecDepth 20000 in
theorem cm_X2_limitCount (l : Launch) {D : va_G} {A : Nat → Prop} {ad : Nat → Nat} {ks : z_Ks} {s_edgeCount s_moveCount s_isNeeded s_timesDone s_size s_isGoing s_allTime s_stepCount s_gapCount : Int} {g_edges g_moves g_limits : Nat → Option Nat} {a_sfacts a_sbounds a_facts a_zone a_most a_places a_amounts a_nextPlaces a_nextAmounts a_earliest a_visited a_lastSet a_gapFrom a_gapTo a_gapLeast a_askedPlaces a_askedAmounts : Nat → Int} {Y : Nat → Option va_E} (HL : ∀ j : Nat, (j : Int) < 18 → ∃ q, g_limits j = some q ∧ z_TL ks Y q) : z_Met l yX2_limitCount cX2_limitCount 3 (some .int) 0 0 0 0 D A 27 ad ks [.ref (ad 1)] (z_zc ad ks s_edgeCount s_moveCount s_isNeeded s_timesDone s_size s_isGoing s_allTime s_stepCount s_gapCount g_edges g_moves g_limits a_sfacts a_sbounds a_facts a_zone a_most a_places a_amounts a_nextPlaces a_nextAmounts a_earliest a_visited a_lastSet a_gapFrom a_gapTo a_gapLeast a_askedPlaces a_askedAmounts) Y (fun r S' Y' => S' = (z_zc ad ks s_edgeCount s_moveCount s_isNeeded s_timesDone s_size s_isGoing s_allTime s_stepCount s_gapCount g_edges g_moves g_limits a_sfacts a_sbounds a_facts a_zone a_most a_places a_amounts a_nextPlaces a_nextAmounts a_earliest a_visited a_lastSet a_gapFrom a_gapTo a_gapLeast a_askedPlaces a_askedAmounts) ∧ Y = Y' ∧ ∃ z : Int, r = some (z_v z) ∧ (True)) := by
  refine z_start2 (by decide) (Nat.le_of_ble_eq_true rfl) ?_
  intro p e R s m args below meth c Q C hRf hRc hRs hRl hQ hrt hnm
  refine z_loc (L' := [(0, .ref (ad 1))]) [0] rfl ?_
  refine z_iconst C dX2_limitCount_0 ?_
  refine z_istoren (L' := [(1, z_v 0), (0, .ref (ad 1))]) C dX2_limitCount_1 rfl (by decide) rfl ?_
  refine z_iconst C dX2_limitCount_2 ?_
  refine z_istoren (L' := [(2, z_v 0), (1, z_v 0), (0, .ref (ad 1))]) C dX2_limitCount_3 rfl (by decide) rfl ?_
  have L4 : ∀ (n : Nat), ∀ (i1 : Int) (i2 : Int), (0 ≤ i2 ∧ i2 ≤ 18) → ((18 : Int) - i2).toNat < n → z_V p l e R s m args below meth c Q D A 27 ad 3 (z_zc ad ks s_edgeCount s_moveCount s_isNeeded s_timesDone s_size s_isGoing s_allTime s_stepCount s_gapCount g_edges g_moves g_limits a_sfacts a_sbounds a_facts a_zone a_most a_places a_amounts a_nextPlaces a_nextAmounts a_earliest a_visited a_lastSet a_gapFrom a_gapTo a_gapLeast a_askedPlaces a_askedAmounts) Y 0 0 4 [(0, .ref (ad 1)), (1, z_v i1), (2, z_v i2)] [] := by
    intro n
    induction n with
    | zero => intro i1 i2 I2 hm; exact absurd hm (Nat.not_lt_zero _)
    | succ n ih4 =>
      intro i1 i2 I2 hm
      refine z_iloadn C 2 dX2_limitCount_4 rfl rfl ?_
      refine z_bipush C dX2_limitCount_5 (by decide) ?_
      refine z_icmp_ge (t := 28) C dX2_limitCount_7 (by decide) (by omega) (by omega) (fun c1 => ?_) (fun c1 => ?_)
      · skip
        refine z_iloadn C 1 dX2_limitCount_28 rfl rfl ?_
        rw [hQ]
        exact z_iret C hrt dX2_limitCount_29 (⟨rfl, rfl, _, rfl, trivial⟩) (by omega) (by omega)
      · skip
        refine z_iloadn C 1 dX2_limitCount_10 rfl rfl ?_
        refine z_aloadn C 0 dX2_limitCount_11 rfl rfl ?_
        refine z_get C 1 (by decide) rfl rfl z_it2 4 (by decide) rfl fl_2_25 rfl dX2_limitCount_12 ?_
        refine z_iloadn C 2 dX2_limitCount_15 rfl rfl ?_
        obtain ⟨q2, eq2, hq2⟩ := HL (i2 : Int).toNat (by omega)
        refine z_aaldS C 4 3 (by decide) rfl rfl (by decide) (by omega) (by omega) eq2 dX2_limitCount_16 ?_
        obtain ⟨td3, nd3, gd3, yd3, wd3, ad3, bd3⟩ := id hq2
        refine z_getY C yd3 rfl z_it6 1 (by decide) rfl fl_2_61 rfl dX2_limitCount_17 ?_
        refine z_iadd C dX2_limitCount_20 ?_
        refine z_istoren (L' := [(1, z_v (i1 + nd3)), (0, .ref (ad 1)), (2, z_v i2)]) C dX2_limitCount_21 rfl (by decide) rfl ?_
        refine z_iinc (L' := [(2, z_v (i2 + 1)), (1, z_v (i1 + nd3)), (0, .ref (ad 1))]) C 2 dX2_limitCount_22 rfl (by decide) rfl ?_
        refine z_goto (t := 4) C dX2_limitCount_25 (by decide) ?_
        refine z_loc (L' := [(0, .ref (ad 1)), (1, z_v (i1 + nd3)), (2, z_v (i2 + 1))]) [2, 1, 0] rfl ?_
        exact ih4 (i1 + nd3) (i2 + 1) (by omega) (by omega)
  refine z_loc (L' := [(0, .ref (ad 1)), (1, z_v 0), (2, z_v 0)]) [2, 1, 0] rfl ?_
  exact (L4 (((18 : Int) - 0).toNat + 1)) 0 0 (by omega) (Nat.lt_succ_self _)
