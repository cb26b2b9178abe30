section ZYL
variable {ks : z_Ks} {Y Y' : Nat → Option va_E}
/-- a test put into a list's array -/
theorem z_yl_arr {t b : Nat} {g : Nat → Option Nat} {i : Nat} (h : Y t = some (z_rr ks.2.2.2.2 2 g)) (h' : Y' t = some (z_rr ks.2.2.2.2 2 (va_up g i (some b)))) (hb : z_T Y b) (hk : ∀ x y, Y x = some y → x ≠ t → Y' x = some y) : z_yl ks Y Y' := by
  have ne : ∀ x c fs, Y x = some (.inr (c, fs)) → x ≠ t := fun x c fs hx => z_ne hx h (fun z => by cases z)
  have hT : ∀ q, z_T Y q → z_T Y' q := fun q ⟨c, s, n, hq, hr⟩ => ⟨c, s, n, hk q _ hq (ne q _ _ hq), hr⟩
  have hTL : ∀ q, z_TL ks Y q → z_TL ks Y' q := by
    rintro q ⟨t2, n, g2, hq, ht, hr, hg⟩
    by_cases he : t2 = t
    · subst he
      have eg : g2 = g := by
        have e := Option.some.inj (ht.symm.trans h)
        simpa using e
      subst eg
      refine ⟨t2, n, _, hk q _ hq (ne q _ _ hq), h', hr, fun j hj => ?_⟩
      by_cases hj2 : j = i
      · subst hj2
        exact ⟨b, by simp [va_up], hT b hb⟩
      · obtain ⟨b2, hb2, hb3⟩ := hg j hj
        exact ⟨b2, by simp [va_up, hj2, hb2], hT b2 hb3⟩
    · exact ⟨t2, n, g2, hk q _ hq (ne q _ _ hq), hk t2 _ ht he, hr, fun j hj => let ⟨b2, h2, h3⟩ := hg j hj; ⟨b2, h2, hT b2 h3⟩⟩
  have hE : ∀ q, z_E ks Y q → z_E ks Y' q := fun q ⟨m, f, t2, k, r, g2, hq, hr, hg⟩ => ⟨m, f, t2, k, r, g2, hk q _ hq (ne q _ _ hq), hr, hTL g2 hg⟩
  exact ⟨hT, hTL, hE, fun q ⟨f, s, a, b2, r, hq, hr, ha, hb2⟩ => ⟨f, s, a, b2, r, hk q _ hq (ne q _ _ hq), hr, hE a ha, fun x hx => hE x (hb2 x hx)⟩⟩
/-- a list's size put: its first places hold tests -/
theorem z_yl_size {q t : Nat} {n n2 : Int} {g : Nat → Option Nat} (h : Y q = some (z_ob 6 [.ref t, z_v n])) (h' : Y' q = some (z_ob 6 [.ref t, z_v n2])) (hk : ∀ x y, Y x = some y → x ≠ q → Y' x = some y) (ht : Y t = some (z_rr ks.2.2.2.2 2 g)) (hr : 0 ≤ n2 ∧ n2 ≤ 2) (hg : ∀ j : Nat, (j : Int) < n2 → ∃ b, g j = some b ∧ z_T Y b) : z_yl ks Y Y' := by
  have hT : ∀ x, z_T Y x → z_T Y' x := fun x ⟨c, s, k, hx, hc⟩ => ⟨c, s, k, hk x _ hx (z_ne hx h (fun z => by cases z)), hc⟩
  have hTL : ∀ x, z_TL ks Y x → z_TL ks Y' x := by
    rintro x ⟨t2, k, g2, hx, hx2, hc, hg2⟩
    by_cases he : x = q
    · subst he
      exact ⟨t, n2, g, h', hk t _ ht (z_ne ht h (fun z => by cases z)), hr, fun j hj => let ⟨b2, h2, h3⟩ := hg j hj; ⟨b2, h2, hT b2 h3⟩⟩
    · exact ⟨t2, k, g2, hk x _ hx he, hk t2 _ hx2 (z_ne hx2 h (fun z => by cases z)), hc, fun j hj => let ⟨b2, h2, h3⟩ := hg2 j hj; ⟨b2, h2, hT b2 h3⟩⟩
  have hE : ∀ x, z_E ks Y x → z_E ks Y' x := fun x ⟨m, f, t2, k, r, g2, hx, hc, hg2⟩ => ⟨m, f, t2, k, r, g2, hk x _ hx (z_ne hx h (fun z => by cases z)), hc, hTL g2 hg2⟩
  exact ⟨hT, hTL, hE, fun x ⟨f, s, a, b2, r, hx, hc, ha, hb2⟩ => ⟨f, s, a, b2, r, hk x _ hx (z_ne hx h (fun z => by cases z)), hc, hE a ha, fun y hy => hE y (hb2 y hy)⟩⟩
theorem z_tl_up {g : Nat → Option Nat} {n : Int} {b : Nat} (h0 : 0 ≤ n) (hg : ∀ j : Nat, (j : Int) < n → ∃ b, g j = some b ∧ z_T Y b) (hb : z_T Y b) : ∀ j : Nat, (j : Int) < n + 1 → ∃ x, va_up g n.toNat (some b) j = some x ∧ z_T Y x := by
  intro j hj
  by_cases he : j = n.toNat
  · subst he
    exact ⟨b, by simp [va_up], hb⟩
  · obtain ⟨x, h1, h2⟩ := hg j (by omega)
    exact ⟨x, by simp [va_up, he, h1], h2⟩
theorem z_shift {P : Nat → Prop} {g : Nat → Option Nat} {i n : Int} {q : Nat} (h : ∀ j : Nat, (j : Int) ≤ n → (j : Int) ≠ i → ∃ x, g j = some x ∧ P x) (h0 : 0 < i) (hq : P q) : ∀ j : Nat, (j : Int) ≤ n → (j : Int) ≠ i + (-1) → ∃ x, va_up g i.toNat (some q) j = some x ∧ P x := by
  intro j h1 h2
  by_cases he : j = i.toNat
  · subst he
    exact ⟨q, by simp [va_up], hq⟩
  · obtain ⟨x, a, b⟩ := h j h1 (by omega)
    exact ⟨x, by simp [va_up, he, a], b⟩
theorem z_ins {P : Nat → Prop} {g : Nat → Option Nat} {i n : Int} {q : Nat} (h : ∀ j : Nat, (j : Int) ≤ n → (j : Int) ≠ i → ∃ x, g j = some x ∧ P x) (hq : P q) (h0 : 0 ≤ i) : ∀ j : Nat, (j : Int) < n + 1 → ∃ x, va_up g i.toNat (some q) j = some x ∧ P x := by
  intro j h1
  by_cases he : j = i.toNat
  · subst he
    exact ⟨q, by simp [va_up], hq⟩
  · obtain ⟨x, a, b⟩ := h j (by omega) (by omega)
    exact ⟨x, by simp [va_up, he, a], b⟩
end ZYL
set_option maxRecDepth 20000 in
theorem cm_X6_add (l : Launch) {D : va_G} {A : Nat → Prop} {ad : Nat → Nat} {ks : z_Ks} {N : Nat} {S : Nat → va_E} {Y : Nat → Option va_E} (q b : Nat) (hq : z_TL ks Y q) (hb : z_T Y b) : z_Met l yX6_add cX6_add 2 none 0 0 0 0 D A N ad ks [.ref q, .ref b] S Y (fun r S' Y' => S' = S ∧ z_yl ks Y Y' ∧ r = none) := by
  refine z_start2 (by decide) (Nat.le_of_ble_eq_true rfl) ?_
  intro p e R s m args below meth c Q C hRf hRc hRs hRl hQ hrt hnm
  refine z_loc (L' := [(0, .ref q), (1, .ref b)]) [0, 1] rfl ?_
  refine z_aloadn C 0 dX6_add_0 rfl rfl ?_
  obtain ⟨td1, nd1, gd1, yd1, wd1, ad1, bd1⟩ := id hq
  refine z_getY C yd1 rfl z_it6 1 (by decide) rfl fl_6_17 rfl dX6_add_1 ?_
  refine z_iconst C dX6_add_4 ?_
  refine z_icmp_ge (t := 28) C dX6_add_5 (by decide) (by omega) (by omega) (fun c2 => ?_) (fun c2 => ?_)
  · skip
    rw [hQ]
    exact z_vret C hrt dX6_add_28 (⟨rfl, z_yl.rf, rfl⟩) (by omega) (by omega)
  · skip
    refine z_aloadn C 0 dX6_add_8 rfl rfl ?_
    refine z_getY C yd1 rfl z_it6 0 (by decide) rfl fl_6_11 rfl dX6_add_9 ?_
    refine z_aloadn C 0 dX6_add_12 rfl rfl ?_
    refine z_getY C yd1 rfl z_it6 1 (by decide) rfl fl_6_17 rfl dX6_add_13 ?_
    refine z_aloadn C 1 dX6_add_16 rfl rfl ?_
    obtain ⟨cd3, sd3, nd3, yd3, ad3⟩ := id hb
    refine z_aast3 C 4 wd1 rfl yd3 rfl (by decide) (by omega) (by omega) dX6_add_17 (fun Y4 w5 hk6 => ?_)
    have y7 := hk6 _ _ yd1 (z_ne yd1 wd1 (fun z => by first | cases z | simp at z))
    have y8 := hk6 _ _ yd3 (z_ne yd3 wd1 (fun z => by first | cases z | simp at z))
    have lx : z_yl ks Y Y4 := z_yl_arr wd1 w5 hb hk6
    have le9 : z_yl ks Y Y4 := lx
    have p10 := lx.2.1 _ hq
    have p11 := lx.1 _ hb
    refine z_aloadn C 0 dX6_add_18 rfl rfl ?_
    refine z_dup C dX6_add_19 rfl ?_
    refine z_getY C y7 rfl z_it6 1 (by decide) rfl fl_6_17 rfl dX6_add_20 ?_
    refine z_iconst C dX6_add_23 ?_
    refine z_iadd C dX6_add_24 ?_
    refine z_put3 (fs' := [.ref td1, z_v (nd1 + 1)]) C y7 rfl z_it6 tyX6 tyX6_ok nmX6 1 (by decide) rfl (Or.inl rfl) fl_6_17 z_pfI rfl rfl (Nat.le_of_ble_eq_true rfl) dX6_add_25 rfl (fun Y12 y13 hk14 => ?_)
    have y15 := hk14 _ _ y8 (z_ne y8 y7 (fun z => by first | cases z | simp at z))
    have w16 := hk14 _ _ w5 (z_ne w5 y7 (fun z => by first | cases z | simp at z))
    have lz : z_yl ks Y4 Y12 := z_yl_size y7 y13 hk14 w5 (by omega) (z_tl_up (by omega) (fun j hj => let ⟨x, h1, h2⟩ := bd1 j hj; ⟨x, h1, lx.1 x h2⟩) p11)
    have le17 : z_yl ks Y Y12 := le9.tr lz
    have p18 := lz.2.1 _ p10
    have p19 := lz.1 _ p11
    rw [hQ]
    exact z_vret C hrt dX6_add_28 (⟨rfl, le17, rfl⟩) (by omega) (by omega)
set_option maxRecDepth 20000 in
theorem cm_X2_clear (l : Launch) {D : va_G} {A : Nat → Prop} {ad : Nat → Nat} {ks : z_Ks} {s_edgeCount s_moveCount s_isNeeded s_timesDone s_size s_isGoing s_allTime s_stepCount s_gapCount : Int} {g_edges g_moves g_limits : Nat → Option Nat} {a_sfacts a_sbounds a_facts a_zone a_most a_places a_amounts a_nextPlaces a_nextAmounts a_earliest a_visited a_lastSet a_gapFrom a_gapTo a_gapLeast a_askedPlaces a_askedAmounts : Nat → Int} {Y : Nat → Option va_E} (HL : ∀ j : Nat, (j : Int) < 18 → ∃ q, g_limits j = some q ∧ z_TL ks Y q) : z_Met l yX2_clear cX2_clear 2 none 0 0 0 0 D A 27 ad ks [.ref (ad 1)] (z_zc ad ks s_edgeCount s_moveCount s_isNeeded s_timesDone s_size s_isGoing s_allTime s_stepCount s_gapCount g_edges g_moves g_limits a_sfacts a_sbounds a_facts a_zone a_most a_places a_amounts a_nextPlaces a_nextAmounts a_earliest a_visited a_lastSet a_gapFrom a_gapTo a_gapLeast a_askedPlaces a_askedAmounts) Y (fun r S' Y' => S' = (z_zc ad ks 0 0 s_isNeeded s_timesDone s_size s_isGoing s_allTime s_stepCount s_gapCount g_edges g_moves g_limits a_sfacts a_sbounds a_facts a_zone a_most a_places a_amounts a_nextPlaces a_nextAmounts a_earliest a_visited a_lastSet a_gapFrom a_gapTo a_gapLeast a_askedPlaces a_askedAmounts) ∧ z_yl ks Y Y' ∧ r = none) := by
  refine z_start2 (by decide) (Nat.le_of_ble_eq_true rfl) ?_
  intro p e R s m args below meth c Q C hRf hRc hRs hRl hQ hrt hnm
  refine z_loc (L' := [(0, .ref (ad 1))]) [0] rfl ?_
  refine z_aloadn C 0 dX2_clear_0 rfl rfl ?_
  refine z_iconst C dX2_clear_1 ?_
  refine z_put C 1 (by decide) rfl rfl z_it2 tyX2 tyX2_ok nmX2 1 (by decide) rfl (Or.inl rfl) fl_2_30 z_pfI rfl rfl (Nat.le_of_ble_eq_true rfl) dX2_clear_2 ?_
  refine z_ext (S' := (z_zc ad ks 0 s_moveCount s_isNeeded s_timesDone s_size s_isGoing s_allTime s_stepCount s_gapCount g_edges g_moves g_limits a_sfacts a_sbounds a_facts a_zone a_most a_places a_amounts a_nextPlaces a_nextAmounts a_earliest a_visited a_lastSet a_gapFrom a_gapTo a_gapLeast a_askedPlaces a_askedAmounts)) upC_s_edgeCount ?_
  refine z_aloadn C 0 dX2_clear_5 rfl rfl ?_
  refine z_iconst C dX2_clear_6 ?_
  refine z_put C 1 (by decide) rfl rfl z_it2 tyX2 tyX2_ok nmX2 3 (by decide) rfl (Or.inl rfl) fl_2_48 z_pfI rfl rfl (Nat.le_of_ble_eq_true rfl) dX2_clear_7 ?_
  refine z_ext (S' := (z_zc ad ks 0 0 s_isNeeded s_timesDone s_size s_isGoing s_allTime s_stepCount s_gapCount g_edges g_moves g_limits a_sfacts a_sbounds a_facts a_zone a_most a_places a_amounts a_nextPlaces a_nextAmounts a_earliest a_visited a_lastSet a_gapFrom a_gapTo a_gapLeast a_askedPlaces a_askedAmounts)) upC_s_moveCount ?_
  refine z_iconst C dX2_clear_10 ?_
  refine z_istoren (L' := [(1, z_v 0), (0, .ref (ad 1))]) C dX2_clear_11 rfl (by decide) rfl ?_
  have L12 : ∀ (n : Nat), ∀ (i1 : Int) (FY : Nat → Option va_E), (0 ≤ i1 ∧ i1 ≤ 18) → (z_yl ks Y FY) → ((18 : Int) - i1).toNat < n → z_V p l e R s m args below meth c Q D A 27 ad 2 (z_zc ad ks 0 0 s_isNeeded s_timesDone s_size s_isGoing s_allTime s_stepCount s_gapCount g_edges g_moves g_limits a_sfacts a_sbounds a_facts a_zone a_most a_places a_amounts a_nextPlaces a_nextAmounts a_earliest a_visited a_lastSet a_gapFrom a_gapTo a_gapLeast a_askedPlaces a_askedAmounts) FY 0 0 12 [(0, .ref (ad 1)), (1, z_v i1)] [] := by
    intro n
    induction n with
    | zero => intro i1 FY I1 LE hm; exact absurd hm (Nat.not_lt_zero _)
    | succ n ih12 =>
      intro i1 FY I1 LE hm
      have LHL := z_netL LE HL
      refine z_iloadn C 1 dX2_clear_12 rfl rfl ?_
      refine z_bipush C dX2_clear_13 (by decide) ?_
      refine z_icmp_ge (t := 34) C dX2_clear_15 (by decide) (by omega) (by omega) (fun c1 => ?_) (fun c1 => ?_)
      · skip
        rw [hQ]
        exact z_vret C hrt dX2_clear_34 (⟨rfl, LE, rfl⟩) (by omega) (by omega)
      · skip
        refine z_aloadn C 0 dX2_clear_18 rfl rfl ?_
        refine z_get C 1 (by decide) rfl rfl z_it2 4 (by decide) rfl fl_2_25 rfl dX2_clear_19 ?_
        refine z_iloadn C 1 dX2_clear_22 rfl rfl ?_
        obtain ⟨q2, eq2, hq2⟩ := LHL (i1 : Int).toNat (by omega)
        refine z_aaldS C 4 3 (by decide) rfl rfl (by decide) (by omega) (by omega) eq2 dX2_clear_23 ?_
        refine z_iconst C dX2_clear_24 ?_
        obtain ⟨td3, nd3, gd3, yd3, wd3, ad3, bd3⟩ := id hq2
        refine z_put3 (fs' := [.ref td3, z_v 0]) C yd3 rfl z_it6 tyX6 tyX6_ok nmX6 1 (by decide) rfl (Or.inl rfl) fl_2_61 z_pfI rfl rfl (Nat.le_of_ble_eq_true rfl) dX2_clear_25 rfl (fun Y4 y5 hk6 => ?_)
        have w7 := hk6 _ _ wd3 (z_ne wd3 yd3 (fun z => by first | cases z | simp at z))
        have lz : z_yl ks FY Y4 := z_yl_size yd3 y5 hk6 wd3 (by omega) (fun j hj => absurd hj (by omega))
        have le8 : z_yl ks Y Y4 := LE.tr lz
        have p9 := lz.2.1 _ hq2
        have HL10 := z_netL lz LHL
        refine z_iinc (L' := [(1, z_v (i1 + 1)), (0, .ref (ad 1))]) C 1 dX2_clear_28 rfl (by decide) rfl ?_
        refine z_goto (t := 12) C dX2_clear_31 (by decide) ?_
        refine z_loc (L' := [(0, .ref (ad 1)), (1, z_v (i1 + 1))]) [1, 0] rfl ?_
        exact ih12 (i1 + 1) Y4 (by omega) (le8) (by omega)
  refine z_loc (L' := [(0, .ref (ad 1)), (1, z_v 0)]) [1, 0] rfl ?_
  exact (L12 (((18 : Int) - 0).toNat + 1)) 0 Y (by omega) (z_yl.rf) (Nat.lt_succ_self _)
set_option maxRecDepth 20000 in
theorem cm_X2_insert (l : Launch) {D : va_G} {A : Nat → Prop} {ad : Nat → Nat} {ks : z_Ks} {s_edgeCount s_moveCount s_isNeeded s_timesDone s_size s_isGoing s_allTime s_stepCount s_gapCount : Int} {g_edges g_moves g_limits : Nat → Option Nat} {a_sfacts a_sbounds a_facts a_zone a_most a_places a_amounts a_nextPlaces a_nextAmounts a_earliest a_visited a_lastSet a_gapFrom a_gapTo a_gapLeast a_askedPlaces a_askedAmounts : Nat → Int} {Y : Nat → Option va_E} (q : Nat) (Hs_moveCount : (0 ≤ s_moveCount ∧ s_moveCount ≤ 400)) (hq : z_Mv ks Y q) (HM : ∀ j : Nat, (j : Int) < s_moveCount → ∃ q, g_moves j = some q ∧ z_Mv ks Y q) : z_Met l yX2_insert cX2_insert 3 none 1 21 0 0 D A 27 ad ks [.ref (ad 1), .ref q] (z_zc ad ks s_edgeCount s_moveCount s_isNeeded s_timesDone s_size s_isGoing s_allTime s_stepCount s_gapCount g_edges g_moves g_limits a_sfacts a_sbounds a_facts a_zone a_most a_places a_amounts a_nextPlaces a_nextAmounts a_earliest a_visited a_lastSet a_gapFrom a_gapTo a_gapLeast a_askedPlaces a_askedAmounts) Y (fun r S' Y' => ∃ ns_moveCount : Int, ∃ ng_moves : Nat → Option Nat, S' = (z_zc ad ks s_edgeCount ns_moveCount s_isNeeded s_timesDone s_size s_isGoing s_allTime s_stepCount s_gapCount g_edges ng_moves g_limits a_sfacts a_sbounds a_facts a_zone a_most a_places a_amounts a_nextPlaces a_nextAmounts a_earliest a_visited a_lastSet a_gapFrom a_gapTo a_gapLeast a_askedPlaces a_askedAmounts) ∧ Y = Y' ∧ (0 ≤ ns_moveCount ∧ ns_moveCount ≤ 400) ∧ (∀ j : Nat, (j : Int) < ns_moveCount → ∃ x, ng_moves j = some x ∧ z_Mv ks Y x) ∧ r = none) := by
  refine z_start2 (by decide) (Nat.le_of_ble_eq_true rfl) ?_
  intro p e R s m args below meth c Q C hRf hRc hRs hRl hQ hrt hnm
  refine z_loc (L' := [(0, .ref (ad 1)), (1, .ref q)]) [0, 1] rfl ?_
  refine z_aloadn C 0 dX2_insert_0 rfl rfl ?_
  refine z_get C 1 (by decide) rfl rfl z_it2 3 (by decide) rfl fl_2_48 rfl dX2_insert_1 ?_
  refine z_aloadn C 0 dX2_insert_4 rfl rfl ?_
  refine z_get C 1 (by decide) rfl rfl z_it2 2 (by decide) rfl fl_2_19 rfl dX2_insert_5 ?_
  refine z_alen (n := 400) C 3 2 (by decide) rfl rfl rfl dX2_insert_8 ?_
  refine z_icmp_lt (t := 13) C dX2_insert_9 (by decide) (by omega) (by omega) (fun c1 => ?_) (fun c1 => ?_)
  · skip
    refine z_aloadn C 0 dX2_insert_13 rfl rfl ?_
    refine z_get C 1 (by decide) rfl rfl z_it2 3 (by decide) rfl fl_2_48 rfl dX2_insert_14 ?_
    refine z_istoren (L' := [(2, z_v s_moveCount), (0, .ref (ad 1)), (1, .ref q)]) C dX2_insert_17 rfl (by decide) rfl ?_
    have L18 : ∀ (n : Nat), ∀ (i2 : Int) (fg_moves : Nat → Option Nat), (∀ j : Nat, (j : Int) ≤ s_moveCount → (j : Int) ≠ i2 → ∃ x, fg_moves j = some x ∧ z_Mv ks Y x) → (0 ≤ i2 ∧ i2 ≤ s_moveCount) → ((i2 : Int) - (0)).toNat < n → z_V p l e R s m args below meth c Q D A 27 ad 3 (z_zc ad ks s_edgeCount s_moveCount s_isNeeded s_timesDone s_size s_isGoing s_allTime s_stepCount s_gapCount g_edges fg_moves g_limits a_sfacts a_sbounds a_facts a_zone a_most a_places a_amounts a_nextPlaces a_nextAmounts a_earliest a_visited a_lastSet a_gapFrom a_gapTo a_gapLeast a_askedPlaces a_askedAmounts) Y 0 0 18 [(0, .ref (ad 1)), (1, .ref q), (2, z_v i2)] [] := by
      intro n
      induction n with
      | zero => intro i2 fg_moves MV I2 hm; exact absurd hm (Nat.not_lt_zero _)
      | succ n ih18 =>
        intro i2 fg_moves MV I2 hm
        refine z_iloadn C 2 dX2_insert_18 rfl rfl ?_
        refine z_if_le (t := 57) C dX2_insert_19 (by decide) (by omega) (fun c2 => ?_) (fun c2 => ?_)
        · skip
          refine z_aloadn C 0 dX2_insert_57 rfl rfl ?_
          refine z_get C 1 (by decide) rfl rfl z_it2 2 (by decide) rfl fl_2_19 rfl dX2_insert_58 ?_
          refine z_iloadn C 2 dX2_insert_61 rfl rfl ?_
          refine z_aloadn C 1 dX2_insert_62 rfl rfl ?_
          obtain ⟨fd3, sd3, pd3, od3, rd3, yd3, ad3, bd3, kd3⟩ := id hq
          refine z_aast C 3 2 (by decide) rfl rfl yd3 rfl (by decide) (by omega) (by omega) dX2_insert_63 ?_
          refine z_ext (S' := (z_zc ad ks s_edgeCount s_moveCount s_isNeeded s_timesDone s_size s_isGoing s_allTime s_stepCount s_gapCount g_edges (va_up fg_moves (i2 : Int).toNat (some q)) g_limits a_sfacts a_sbounds a_facts a_zone a_most a_places a_amounts a_nextPlaces a_nextAmounts a_earliest a_visited a_lastSet a_gapFrom a_gapTo a_gapLeast a_askedPlaces a_askedAmounts)) upC_g_moves ?_
          refine z_aloadn C 0 dX2_insert_64 rfl rfl ?_
          refine z_dup C dX2_insert_65 rfl ?_
          refine z_get C 1 (by decide) rfl rfl z_it2 3 (by decide) rfl fl_2_48 rfl dX2_insert_66 ?_
          refine z_iconst C dX2_insert_69 ?_
          refine z_iadd C dX2_insert_70 ?_
          refine z_put C 1 (by decide) rfl rfl z_it2 tyX2 tyX2_ok nmX2 3 (by decide) rfl (Or.inl rfl) fl_2_48 z_pfI rfl rfl (Nat.le_of_ble_eq_true rfl) dX2_insert_71 ?_
          refine z_ext (S' := (z_zc ad ks s_edgeCount (s_moveCount + 1) s_isNeeded s_timesDone s_size s_isGoing s_allTime s_stepCount s_gapCount g_edges (va_up fg_moves (i2 : Int).toNat (some q)) g_limits a_sfacts a_sbounds a_facts a_zone a_most a_places a_amounts a_nextPlaces a_nextAmounts a_earliest a_visited a_lastSet a_gapFrom a_gapTo a_gapLeast a_askedPlaces a_askedAmounts)) upC_s_moveCount ?_
          rw [hQ]
          exact z_vret C hrt dX2_insert_74 (⟨(s_moveCount + 1), (va_up fg_moves (i2 : Int).toNat (some q)), rfl, rfl, by omega, by first | exact HM | exact z_ins MV hq (by omega), rfl⟩) (by omega) (by omega)
        · skip
          refine z_aloadn C 0 dX2_insert_22 rfl rfl ?_
          refine z_get C 1 (by decide) rfl rfl z_it2 2 (by decide) rfl fl_2_19 rfl dX2_insert_23 ?_
          refine z_iloadn C 2 dX2_insert_26 rfl rfl ?_
          refine z_iconst C dX2_insert_27 ?_
          refine z_isub C dX2_insert_28 ?_
          obtain ⟨q4, eq4, hq4⟩ := (fun (j : Nat) (hj : (j : Int) ≤ s_moveCount ∧ (j : Int) ≠ i2) => MV j hj.1 hj.2) ((i2 - 1) : Int).toNat (⟨by omega, by omega⟩)
          refine z_aaldS C 3 2 (by decide) rfl rfl (by decide) (by omega) (by omega) eq4 dX2_insert_29 ?_
          refine z_aloadn C 1 dX2_insert_30 rfl rfl ?_
          obtain ⟨fd5, sd5, pd5, od5, rd5, yd5, ad5, bd5, kd5⟩ := id hq4
          refine z_callV C (cm_X1_comesAfter l q4 q hq4 hq) mv_2_51 (z_atY 1 yd5 rfl rfl) pd_X1_comesAfter ⟨by omega, by omega⟩ ⟨by omega, by omega⟩ rfl (Nat.le_of_ble_eq_true rfl) dX2_insert_31 ?_
          rintro _ _ _ ⟨rfl, rfl, z8, rfl, hz8⟩
          refine z_if_eq (t := 57) C dX2_insert_34 (by decide) (by omega) (fun c9 => ?_) (fun c9 => ?_)
          · skip
            refine z_aloadn C 0 dX2_insert_57 rfl rfl ?_
            refine z_get C 1 (by decide) rfl rfl z_it2 2 (by decide) rfl fl_2_19 rfl dX2_insert_58 ?_
            refine z_iloadn C 2 dX2_insert_61 rfl rfl ?_
            refine z_aloadn C 1 dX2_insert_62 rfl rfl ?_
            obtain ⟨fd10, sd10, pd10, od10, rd10, yd10, ad10, bd10, kd10⟩ := id hq
            refine z_aast C 3 2 (by decide) rfl rfl yd10 rfl (by decide) (by omega) (by omega) dX2_insert_63 ?_
            refine z_ext (S' := (z_zc ad ks s_edgeCount s_moveCount s_isNeeded s_timesDone s_size s_isGoing s_allTime s_stepCount s_gapCount g_edges (va_up fg_moves (i2 : Int).toNat (some q)) g_limits a_sfacts a_sbounds a_facts a_zone a_most a_places a_amounts a_nextPlaces a_nextAmounts a_earliest a_visited a_lastSet a_gapFrom a_gapTo a_gapLeast a_askedPlaces a_askedAmounts)) upC_g_moves ?_
            refine z_aloadn C 0 dX2_insert_64 rfl rfl ?_
            refine z_dup C dX2_insert_65 rfl ?_
            refine z_get C 1 (by decide) rfl rfl z_it2 3 (by decide) rfl fl_2_48 rfl dX2_insert_66 ?_
            refine z_iconst C dX2_insert_69 ?_
            refine z_iadd C dX2_insert_70 ?_
            refine z_put C 1 (by decide) rfl rfl z_it2 tyX2 tyX2_ok nmX2 3 (by decide) rfl (Or.inl rfl) fl_2_48 z_pfI rfl rfl (Nat.le_of_ble_eq_true rfl) dX2_insert_71 ?_
            refine z_ext (S' := (z_zc ad ks s_edgeCount (s_moveCount + 1) s_isNeeded s_timesDone s_size s_isGoing s_allTime s_stepCount s_gapCount g_edges (va_up fg_moves (i2 : Int).toNat (some q)) g_limits a_sfacts a_sbounds a_facts a_zone a_most a_places a_amounts a_nextPlaces a_nextAmounts a_earliest a_visited a_lastSet a_gapFrom a_gapTo a_gapLeast a_askedPlaces a_askedAmounts)) upC_s_moveCount ?_
            rw [hQ]
            exact z_vret C hrt dX2_insert_74 (⟨(s_moveCount + 1), (va_up fg_moves (i2 : Int).toNat (some q)), rfl, rfl, by omega, by first | exact HM | exact z_ins MV hq (by omega), rfl⟩) (by omega) (by omega)
          · skip
            refine z_aloadn C 0 dX2_insert_37 rfl rfl ?_
            refine z_get C 1 (by decide) rfl rfl z_it2 2 (by decide) rfl fl_2_19 rfl dX2_insert_38 ?_
            refine z_iloadn C 2 dX2_insert_41 rfl rfl ?_
            refine z_aloadn C 0 dX2_insert_42 rfl rfl ?_
            refine z_get C 1 (by decide) rfl rfl z_it2 2 (by decide) rfl fl_2_19 rfl dX2_insert_43 ?_
            refine z_iloadn C 2 dX2_insert_46 rfl rfl ?_
            refine z_iconst C dX2_insert_47 ?_
            refine z_isub C dX2_insert_48 ?_
            obtain ⟨q11, eq11, hq11⟩ := (fun (j : Nat) (hj : (j : Int) ≤ s_moveCount ∧ (j : Int) ≠ i2) => MV j hj.1 hj.2) ((i2 - 1) : Int).toNat (⟨by omega, by omega⟩)
            refine z_aaldS C 3 2 (by decide) rfl rfl (by decide) (by omega) (by omega) eq11 dX2_insert_49 ?_
            obtain ⟨fd12, sd12, pd12, od12, rd12, yd12, ad12, bd12, kd12⟩ := id hq11
            refine z_aast C 3 2 (by decide) rfl rfl yd12 rfl (by decide) (by omega) (by omega) dX2_insert_50 ?_
            refine z_ext (S' := (z_zc ad ks s_edgeCount s_moveCount s_isNeeded s_timesDone s_size s_isGoing s_allTime s_stepCount s_gapCount g_edges (va_up fg_moves (i2 : Int).toNat (some q11)) g_limits a_sfacts a_sbounds a_facts a_zone a_most a_places a_amounts a_nextPlaces a_nextAmounts a_earliest a_visited a_lastSet a_gapFrom a_gapTo a_gapLeast a_askedPlaces a_askedAmounts)) upC_g_moves ?_
            refine z_iinc (L' := [(2, z_v (i2 + (-1))), (0, .ref (ad 1)), (1, .ref q)]) C 2 dX2_insert_51 rfl (by decide) rfl ?_
            refine z_goto (t := 18) C dX2_insert_54 (by decide) ?_
            refine z_loc (L' := [(0, .ref (ad 1)), (1, .ref q), (2, z_v (i2 + (-1)))]) [1, 2, 0] rfl ?_
            exact ih18 (i2 + (-1)) (va_up fg_moves (i2 : Int).toNat (some q11)) (z_shift MV (by omega) (by assumption)) (by omega) (by omega)
    refine z_loc (L' := [(0, .ref (ad 1)), (1, .ref q), (2, z_v s_moveCount)]) [1, 2, 0] rfl ?_
    exact (L18 (((s_moveCount : Int) - (0)).toNat + 1)) s_moveCount g_moves (fun j h1 h2 => HM j (by omega)) (by omega) (Nat.lt_succ_self _)
  · skip
    rw [hQ]
    exact z_vret C hrt dX2_insert_12 (⟨s_moveCount, g_moves, rfl, rfl, by omega, by first | exact HM | exact z_ins MV hq (by omega), rfl⟩) (by omega) (by omega)
set_option maxRecDepth 20000 in
theorem cm_X10_addTest (l : Launch) {D : va_G} {A : Nat → Prop} {ad : Nat → Nat} {ks : z_Ks} {s_edgeCount s_moveCount s_isNeeded s_timesDone s_size s_isGoing s_allTime s_stepCount s_gapCount : Int} {g_edges g_moves g_limits : Nat → Option Nat} {a_sfacts a_sbounds a_facts a_zone a_most a_places a_amounts a_nextPlaces a_nextAmounts a_earliest a_visited a_lastSet a_gapFrom a_gapTo a_gapLeast a_askedPlaces a_askedAmounts : Nat → Int} {Y : Nat → Option va_E} (x0 s0 c0 : Int) (q : Nat) (Hs_isNeeded : (s_isNeeded = 0 ∨ s_isNeeded = 1)) (Hs_isGoing : (s_isGoing = 0 ∨ s_isGoing = 1)) (hq : z_TL ks Y q) (hx : 1 ≤ x0 ∧ x0 ≤ 3) (hs : 0 ≤ s0 ∧ s0 ≤ 4) (hc : 0 ≤ c0 ∧ c0 ≤ 1000) : z_Met l yX10_addTest cX10_addTest 5 (some .int) 2 43 1 3 D A 27 ad ks [.ref (ad 0), .ref q, z_v x0, z_v s0, z_v c0] (z_zc ad ks s_edgeCount s_moveCount s_isNeeded s_timesDone s_size s_isGoing s_allTime s_stepCount s_gapCount g_edges g_moves g_limits a_sfacts a_sbounds a_facts a_zone a_most a_places a_amounts a_nextPlaces a_nextAmounts a_earliest a_visited a_lastSet a_gapFrom a_gapTo a_gapLeast a_askedPlaces a_askedAmounts) Y (fun r S' Y' => ∃ ns_isNeeded : Int, ∃ ns_isGoing : Int, S' = (z_zc ad ks s_edgeCount s_moveCount ns_isNeeded s_timesDone s_size ns_isGoing s_allTime s_stepCount s_gapCount g_edges g_moves g_limits a_sfacts a_sbounds a_facts a_zone a_most a_places a_amounts a_nextPlaces a_nextAmounts a_earliest a_visited a_lastSet a_gapFrom a_gapTo a_gapLeast a_askedPlaces a_askedAmounts) ∧ z_yl ks Y Y' ∧ (ns_isNeeded = 0 ∨ ns_isNeeded = 1) ∧ (ns_isGoing = 0 ∨ ns_isGoing = 1) ∧ ∃ z : Int, r = some (z_v z) ∧ (True)) := by
  refine z_start2 (by decide) (Nat.le_of_ble_eq_true rfl) ?_
  intro p e R s m args below meth c Q C hRf hRc hRs hRl hQ hrt hnm
  refine z_loc (L' := [(0, .ref (ad 0)), (1, .ref q), (2, z_v x0), (3, z_v s0), (4, z_v c0)]) [0, 1, 2, 3, 4] rfl ?_
  refine z_aloadn C 1 dX10_addTest_0 rfl rfl ?_
  obtain ⟨td1, nd1, gd1, yd1, wd1, ad1, bd1⟩ := id hq
  refine z_getY C yd1 rfl z_it6 1 (by decide) rfl fl_10_216 rfl dX10_addTest_1 ?_
  refine z_iconst C dX10_addTest_4 ?_
  refine z_icmp_lt (t := 11) C dX10_addTest_5 (by decide) (by omega) (by omega) (fun c2 => ?_) (fun c2 => ?_)
  · skip
    refine z_aloadn C 0 dX10_addTest_11 rfl rfl ?_
    refine z_callV C (cm_X10_forgetFindings l ) mv_10_55 (z_atS 0 10 (by decide) rfl rfl rfl) pd_X10_forgetFindings ⟨by omega, by omega⟩ ⟨by omega, by omega⟩ rfl (Nat.le_of_ble_eq_true rfl) dX10_addTest_12 ?_
    rintro _ _ _ ⟨rfl, rfl, rfl⟩
    refine z_aloadn C 1 dX10_addTest_15 rfl rfl ?_
    refine z_new3 (r := (RX5, TX5, 3)) (ci := 5) (fs := [z_v 0, z_v 0, z_v 0]) C rfl z_it5 tyX5 tyX5_ok nw_10_246 (fun j hj => match j, hj with | 0, _ => rfl | 1, _ => rfl | 2, _ => rfl | n + 3, h => absurd h (by show ¬ (n + 3 < 3); omega)) (by omega) (by show _ + 3 ≤ _; omega) dX10_addTest_16 (fun q5 Y6 y7 hs8 hf9 => ?_)
    have y10 := hs8 _ _ yd1
    have w11 := hs8 _ _ wd1
    have l12 : z_yl ks Y Y6 := z_yl_sub hs8
    have le13 : z_yl ks Y Y6 := l12
    have p14 := l12.2.1 _ hq
    refine z_wide (k := 1) (n := 3) (Nat.le_refl _) (Nat.le_refl _) ?_
    refine z_dup C dX10_addTest_19 rfl ?_
    refine z_iloadn C 2 dX10_addTest_20 rfl rfl ?_
    refine z_iloadn C 3 dX10_addTest_21 rfl rfl ?_
    refine z_iload C 4 dX10_addTest_22 rfl ?_
    refine z_callI C (cm_X5_init l x0 s0 c0 q5 y7) mv_10_248 rfl pd_X5_init ⟨by omega, by omega⟩ ⟨by omega, by omega⟩ rfl (Nat.le_of_ble_eq_true rfl) dX10_addTest_24 ?_
    rintro _ _ Y15 ⟨rfl, hk16, y17, rfl⟩
    have y18 := hk16 _ _ y10 (z_ne y10 y7 (fun z => by first | cases z | simp at z))
    have w19 := hk16 _ _ w11 (z_ne w11 y7 (fun z => by first | cases z | simp at z))
    have l20 : z_yl ks Y6 Y15 := z_yl_raw y7 (Or.inl rfl) hk16
    have le21 : z_yl ks Y Y15 := le13.tr l20
    have p22 := l20.2.1 _ p14
    have p23 : z_T Y15 q5 := ⟨_, _, _, y17, by omega, by omega, by omega, by omega, by omega, by omega⟩
    refine z_callV C (cm_X6_add l q q5 p22 p23) mv_10_251 (z_atY 6 y18 rfl rfl) pd_X6_add ⟨by omega, by omega⟩ ⟨by omega, by omega⟩ rfl (Nat.le_of_ble_eq_true rfl) dX10_addTest_27 ?_
    rintro _ _ Y24 ⟨rfl, le25, rfl⟩
    have le26 : z_yl ks Y Y24 := le21.tr le25
    have p27 := le25.2.1 _ p22
    have p28 := le25.1 _ p23
    refine z_aloadn C 1 dX10_addTest_30 rfl rfl ?_
    obtain ⟨td29, nd29, gd29, yd29, wd29, ad29, bd29⟩ := id p27
    refine z_getY C yd29 rfl z_it6 1 (by decide) rfl fl_10_216 rfl dX10_addTest_31 ?_
    rw [hQ]
    exact z_iret C hrt dX10_addTest_34 (⟨1, 0, rfl, le26, by omega, by omega, _, rfl, trivial⟩) (by omega) (by omega)
  · skip
    refine z_bipush C dX10_addTest_8 (by decide) ?_
    rw [hQ]
    exact z_iret C hrt dX10_addTest_10 (⟨s_isNeeded, s_isGoing, rfl, z_yl.rf, by omega, by omega, _, rfl, trivial⟩) (by omega) (by omega)
set_option maxRecDepth 20000 in
theorem cm_X10_guard (l : Launch) {D : va_G} {A : Nat → Prop} {ad : Nat → Nat} {ks : z_Ks} {s_edgeCount s_moveCount s_isNeeded s_timesDone s_size s_isGoing s_allTime s_stepCount s_gapCount : Int} {g_edges g_moves g_limits : Nat → Option Nat} {a_sfacts a_sbounds a_facts a_zone a_most a_places a_amounts a_nextPlaces a_nextAmounts a_earliest a_visited a_lastSet a_gapFrom a_gapTo a_gapLeast a_askedPlaces a_askedAmounts : Nat → Int} {Y : Nat → Option va_E} (e0 x0 s0 c0 : Int) (Hs_edgeCount : (0 ≤ s_edgeCount ∧ s_edgeCount ≤ 20)) (Hs_isNeeded : (s_isNeeded = 0 ∨ s_isNeeded = 1)) (Hs_isGoing : (s_isGoing = 0 ∨ s_isGoing = 1)) (he0 : z_rg e0) (hx0 : z_rg x0) (hs0 : z_rg s0) (hc0 : z_rg c0) (HE : ∀ j : Nat, (j : Int) < s_edgeCount → ∃ q, g_edges j = some q ∧ z_E ks Y q) : z_Met l yX10_guard cX10_guard 5 (some .int) 3 67 1 3 D A 27 ad ks [.ref (ad 0), z_v e0, z_v x0, z_v s0, z_v c0] (z_zc ad ks s_edgeCount s_moveCount s_isNeeded s_timesDone s_size s_isGoing s_allTime s_stepCount s_gapCount g_edges g_moves g_limits a_sfacts a_sbounds a_facts a_zone a_most a_places a_amounts a_nextPlaces a_nextAmounts a_earliest a_visited a_lastSet a_gapFrom a_gapTo a_gapLeast a_askedPlaces a_askedAmounts) Y (fun r S' Y' => ∃ ns_isNeeded : Int, ∃ ns_isGoing : Int, S' = (z_zc ad ks s_edgeCount s_moveCount ns_isNeeded s_timesDone s_size ns_isGoing s_allTime s_stepCount s_gapCount g_edges g_moves g_limits a_sfacts a_sbounds a_facts a_zone a_most a_places a_amounts a_nextPlaces a_nextAmounts a_earliest a_visited a_lastSet a_gapFrom a_gapTo a_gapLeast a_askedPlaces a_askedAmounts) ∧ z_yl ks Y Y' ∧ (ns_isNeeded = 0 ∨ ns_isNeeded = 1) ∧ (ns_isGoing = 0 ∨ ns_isGoing = 1) ∧ ∃ z : Int, r = some (z_v z) ∧ (True)) := by
  refine z_start2 (by decide) (Nat.le_of_ble_eq_true rfl) ?_
  intro p e R s m args below meth c Q C hRf hRc hRs hRl hQ hrt hnm
  refine z_loc (L' := [(0, .ref (ad 0)), (1, z_v e0), (2, z_v x0), (3, z_v s0), (4, z_v c0)]) [0, 1, 2, 3, 4] rfl ?_
  refine z_aloadn C 0 dX10_guard_0 rfl rfl ?_
  refine z_get C 0 (by decide) rfl rfl z_it10 0 (by decide) rfl fl_10_12 rfl dX10_guard_1 ?_
  refine z_iloadn C 1 dX10_guard_4 rfl rfl ?_
  refine z_callV C (cm_X2_isEdge l e0 (by omega) (by omega)) mv_10_67 (z_atS 1 2 (by decide) rfl rfl rfl) pd_X2_isEdge ⟨by omega, by omega⟩ ⟨by omega, by omega⟩ rfl (Nat.le_of_ble_eq_true rfl) dX10_guard_5 ?_
  rintro _ _ _ ⟨rfl, rfl, z3, rfl, hz3⟩
  refine z_if_eq (t := 18) C dX10_guard_8 (by decide) (by omega) (fun c4 => ?_) (fun c4 => ?_)
  · skip
    refine z_bipush C dX10_guard_18 (by decide) ?_
    rw [hQ]
    exact z_iret C hrt dX10_guard_20 (⟨s_isNeeded, s_isGoing, rfl, z_yl.rf, by omega, by omega, _, rfl, trivial⟩) (by omega) (by omega)
  · skip
    refine z_iloadn C 2 dX10_guard_11 rfl rfl ?_
    refine z_callS C (cm_X10_isClock l x0 (by omega)) mv_10_70 pd_X10_isClock ⟨by omega, by omega⟩ ⟨by omega, by omega⟩ rfl (Nat.le_of_ble_eq_true rfl) dX10_guard_12 ?_
    rintro _ _ _ ⟨rfl, rfl, z7, rfl, hz7⟩
    refine z_if_ne (t := 21) C dX10_guard_15 (by decide) (by omega) (fun c8 => ?_) (fun c8 => ?_)
    · skip
      refine z_iloadn C 3 dX10_guard_21 rfl rfl ?_
      refine z_if_lt (t := 38) C dX10_guard_22 (by decide) (by omega) (fun c9 => ?_) (fun c9 => ?_)
      · skip
        refine z_bipush C dX10_guard_38 (by decide) ?_
        rw [hQ]
        exact z_iret C hrt dX10_guard_40 (⟨s_isNeeded, s_isGoing, rfl, z_yl.rf, by omega, by omega, _, rfl, trivial⟩) (by omega) (by omega)
      · skip
        refine z_iloadn C 3 dX10_guard_25 rfl rfl ?_
        refine z_iconst C dX10_guard_26 ?_
        refine z_icmp_gt (t := 38) C dX10_guard_27 (by decide) (by omega) (by omega) (fun c10 => ?_) (fun c10 => ?_)
        · skip
          refine z_bipush C dX10_guard_38 (by decide) ?_
          rw [hQ]
          exact z_iret C hrt dX10_guard_40 (⟨s_isNeeded, s_isGoing, rfl, z_yl.rf, by omega, by omega, _, rfl, trivial⟩) (by omega) (by omega)
        · skip
          refine z_iload C 4 dX10_guard_30 rfl ?_
          refine z_callS C (cm_X10_isNumber l c0 (by omega)) mv_10_73 pd_X10_isNumber ⟨by omega, by omega⟩ ⟨by omega, by omega⟩ rfl (Nat.le_of_ble_eq_true rfl) dX10_guard_32 ?_
          rintro _ _ _ ⟨rfl, rfl, z13, rfl, hz13⟩
          refine z_if_ne (t := 41) C dX10_guard_35 (by decide) (by omega) (fun c14 => ?_) (fun c14 => ?_)
          · skip
            refine z_aloadn C 0 dX10_guard_41 rfl rfl ?_
            refine z_aloadn C 0 dX10_guard_42 rfl rfl ?_
            refine z_get C 0 (by decide) rfl rfl z_it10 0 (by decide) rfl fl_10_12 rfl dX10_guard_43 ?_
            refine z_get C 1 (by decide) rfl rfl z_it2 0 (by decide) rfl fl_10_76 rfl dX10_guard_46 ?_
            refine z_iloadn C 1 dX10_guard_49 rfl rfl ?_
            obtain ⟨q15, eq15, hq15⟩ := HE (e0 : Int).toNat (by omega)
            refine z_aaldS C 2 1 (by decide) rfl rfl (by decide) (by omega) (by omega) eq15 dX10_guard_50 ?_
            obtain ⟨md16, fd16, td16, kd16, rd16, gd16, yd16, ad16, bd16⟩ := id hq15
            refine z_getY C yd16 rfl z_it0 5 (by decide) rfl fl_10_80 rfl dX10_guard_51 ?_
            refine z_iloadn C 2 dX10_guard_54 rfl rfl ?_
            refine z_iloadn C 3 dX10_guard_55 rfl rfl ?_
            refine z_iload C 4 dX10_guard_56 rfl ?_
            refine z_callV C (cm_X10_addTest l x0 s0 c0 gd16 (by omega) (by omega) bd16 (by omega) (by omega) (by omega)) mv_10_84 (z_atS 0 10 (by decide) rfl rfl rfl) pd_X10_addTest ⟨by omega, by omega⟩ ⟨by omega, by omega⟩ rfl (Nat.le_of_ble_eq_true rfl) dX10_guard_58 ?_
            rintro _ _ Y19 ⟨n17, n18, rfl, le20, h21, h22, z23, rfl, hz23⟩
            have le24 : z_yl ks Y Y19 := le20
            have p25 := le20.2.2.1 _ hq15
            have p26 := le20.2.1 _ bd16
            have HE27 := z_netE le20 HE
            refine z_wide (k := 1) (n := 3) (Nat.le_refl _) (Nat.le_refl _) ?_
            rw [hQ]
            exact z_iret C hrt dX10_guard_61 (⟨n17, n18, rfl, le24, by omega, by omega, _, rfl, trivial⟩) (by omega) (by omega)
          · skip
            refine z_bipush C dX10_guard_38 (by decide) ?_
            rw [hQ]
            exact z_iret C hrt dX10_guard_40 (⟨s_isNeeded, s_isGoing, rfl, z_yl.rf, by omega, by omega, _, rfl, trivial⟩) (by omega) (by omega)
    · skip
      refine z_bipush C dX10_guard_18 (by decide) ?_
      rw [hQ]
      exact z_iret C hrt dX10_guard_20 (⟨s_isNeeded, s_isGoing, rfl, z_yl.rf, by omega, by omega, _, rfl, trivial⟩) (by omega) (by omega)
set_option maxRecDepth 20000 in
theorem cm_X10_limit (l : Launch) {D : va_G} {A : Nat → Prop} {ad : Nat → Nat} {ks : z_Ks} {s_edgeCount s_moveCount s_isNeeded s_timesDone s_size s_isGoing s_allTime s_stepCount s_gapCount : Int} {g_edges g_moves g_limits : Nat → Option Nat} {a_sfacts a_sbounds a_facts a_zone a_most a_places a_amounts a_nextPlaces a_nextAmounts a_earliest a_visited a_lastSet a_gapFrom a_gapTo a_gapLeast a_askedPlaces a_askedAmounts : Nat → Int} {Y : Nat → Option va_E} (m0 p0 x0 s0 c0 : Int) (Hs_isNeeded : (s_isNeeded = 0 ∨ s_isNeeded = 1)) (Hs_isGoing : (s_isGoing = 0 ∨ s_isGoing = 1)) (hm0 : z_rg m0) (hp0 : z_rg p0) (hx0 : z_rg x0) (hs0 : z_rg s0) (hc0 : z_rg c0) (HL : ∀ j : Nat, (j : Int) < 18 → ∃ q, g_limits j = some q ∧ z_TL ks Y q) : z_Met l yX10_limit cX10_limit 6 (some .int) 3 67 1 3 D A 27 ad ks [.ref (ad 0), z_v m0, z_v p0, z_v x0, z_v s0, z_v c0] (z_zc ad ks s_edgeCount s_moveCount s_isNeeded s_timesDone s_size s_isGoing s_allTime s_stepCount s_gapCount g_edges g_moves g_limits a_sfacts a_sbounds a_facts a_zone a_most a_places a_amounts a_nextPlaces a_nextAmounts a_earliest a_visited a_lastSet a_gapFrom a_gapTo a_gapLeast a_askedPlaces a_askedAmounts) Y (fun r S' Y' => ∃ ns_isNeeded : Int, ∃ ns_isGoing : Int, S' = (z_zc ad ks s_edgeCount s_moveCount ns_isNeeded s_timesDone s_size ns_isGoing s_allTime s_stepCount s_gapCount g_edges g_moves g_limits a_sfacts a_sbounds a_facts a_zone a_most a_places a_amounts a_nextPlaces a_nextAmounts a_earliest a_visited a_lastSet a_gapFrom a_gapTo a_gapLeast a_askedPlaces a_askedAmounts) ∧ z_yl ks Y Y' ∧ (ns_isNeeded = 0 ∨ ns_isNeeded = 1) ∧ (ns_isGoing = 0 ∨ ns_isGoing = 1) ∧ ∃ z : Int, r = some (z_v z) ∧ (True)) := by
  refine z_start2 (by decide) (Nat.le_of_ble_eq_true rfl) ?_
  intro p e R s m args below meth c Q C hRf hRc hRs hRl hQ hrt hnm
  refine z_loc (L' := [(0, .ref (ad 0)), (1, z_v m0), (2, z_v p0), (3, z_v x0), (4, z_v s0), (5, z_v c0)]) [0, 1, 2, 3, 4, 5] rfl ?_
  refine z_iloadn C 1 dX10_limit_0 rfl rfl ?_
  refine z_callS C (cm_X10_isMachine l m0 (by omega)) mv_10_44 pd_X10_isMachine ⟨by omega, by omega⟩ ⟨by omega, by omega⟩ rfl (Nat.le_of_ble_eq_true rfl) dX10_limit_1 ?_
  rintro _ _ _ ⟨rfl, rfl, z3, rfl, hz3⟩
  refine z_if_eq (t := 21) C dX10_limit_4 (by decide) (by omega) (fun c4 => ?_) (fun c4 => ?_)
  · skip
    refine z_bipush C dX10_limit_21 (by decide) ?_
    rw [hQ]
    exact z_iret C hrt dX10_limit_23 (⟨s_isNeeded, s_isGoing, rfl, z_yl.rf, by omega, by omega, _, rfl, trivial⟩) (by omega) (by omega)
  · skip
    refine z_iloadn C 2 dX10_limit_7 rfl rfl ?_
    refine z_callS C (cm_X10_isPlace l p0 (by omega)) mv_10_48 pd_X10_isPlace ⟨by omega, by omega⟩ ⟨by omega, by omega⟩ rfl (Nat.le_of_ble_eq_true rfl) dX10_limit_8 ?_
    rintro _ _ _ ⟨rfl, rfl, z7, rfl, hz7⟩
    refine z_if_eq (t := 21) C dX10_limit_11 (by decide) (by omega) (fun c8 => ?_) (fun c8 => ?_)
    · skip
      refine z_bipush C dX10_limit_21 (by decide) ?_
      rw [hQ]
      exact z_iret C hrt dX10_limit_23 (⟨s_isNeeded, s_isGoing, rfl, z_yl.rf, by omega, by omega, _, rfl, trivial⟩) (by omega) (by omega)
    · skip
      refine z_iloadn C 3 dX10_limit_14 rfl rfl ?_
      refine z_callS C (cm_X10_isClock l x0 (by omega)) mv_10_70 pd_X10_isClock ⟨by omega, by omega⟩ ⟨by omega, by omega⟩ rfl (Nat.le_of_ble_eq_true rfl) dX10_limit_15 ?_
      rintro _ _ _ ⟨rfl, rfl, z11, rfl, hz11⟩
      refine z_if_ne (t := 24) C dX10_limit_18 (by decide) (by omega) (fun c12 => ?_) (fun c12 => ?_)
      · skip
        refine z_iload C 4 dX10_limit_24 rfl ?_
        refine z_if_lt (t := 43) C dX10_limit_26 (by decide) (by omega) (fun c13 => ?_) (fun c13 => ?_)
        · skip
          refine z_bipush C dX10_limit_43 (by decide) ?_
          rw [hQ]
          exact z_iret C hrt dX10_limit_45 (⟨s_isNeeded, s_isGoing, rfl, z_yl.rf, by omega, by omega, _, rfl, trivial⟩) (by omega) (by omega)
        · skip
          refine z_iload C 4 dX10_limit_29 rfl ?_
          refine z_iconst C dX10_limit_31 ?_
          refine z_icmp_gt (t := 43) C dX10_limit_32 (by decide) (by omega) (by omega) (fun c14 => ?_) (fun c14 => ?_)
          · skip
            refine z_bipush C dX10_limit_43 (by decide) ?_
            rw [hQ]
            exact z_iret C hrt dX10_limit_45 (⟨s_isNeeded, s_isGoing, rfl, z_yl.rf, by omega, by omega, _, rfl, trivial⟩) (by omega) (by omega)
          · skip
            refine z_iload C 5 dX10_limit_35 rfl ?_
            refine z_callS C (cm_X10_isNumber l c0 (by omega)) mv_10_73 pd_X10_isNumber ⟨by omega, by omega⟩ ⟨by omega, by omega⟩ rfl (Nat.le_of_ble_eq_true rfl) dX10_limit_37 ?_
            rintro _ _ _ ⟨rfl, rfl, z17, rfl, hz17⟩
            refine z_if_ne (t := 46) C dX10_limit_40 (by decide) (by omega) (fun c18 => ?_) (fun c18 => ?_)
            · skip
              refine z_aloadn C 0 dX10_limit_46 rfl rfl ?_
              refine z_aloadn C 0 dX10_limit_47 rfl rfl ?_
              refine z_get C 0 (by decide) rfl rfl z_it10 0 (by decide) rfl fl_10_12 rfl dX10_limit_48 ?_
              refine z_iloadn C 1 dX10_limit_51 rfl rfl ?_
              refine z_iloadn C 2 dX10_limit_52 rfl rfl ?_
              refine z_callV C (cm_X2_limitsOf l m0 p0 (by omega) (by omega) HL) mv_10_88 (z_atS 1 2 (by decide) rfl rfl rfl) pd_X2_limitsOf ⟨by omega, by omega⟩ ⟨by omega, by omega⟩ rfl (Nat.le_of_ble_eq_true rfl) dX10_limit_53 ?_
              rintro _ _ _ ⟨rfl, rfl, q19, rfl, hq19⟩
              refine z_iloadn C 3 dX10_limit_56 rfl rfl ?_
              refine z_iload C 4 dX10_limit_57 rfl ?_
              refine z_iload C 5 dX10_limit_59 rfl ?_
              refine z_callV C (cm_X10_addTest l x0 s0 c0 q19 (by omega) (by omega) hq19 (by omega) (by omega) (by omega)) mv_10_84 (z_atS 0 10 (by decide) rfl rfl rfl) pd_X10_addTest ⟨by omega, by omega⟩ ⟨by omega, by omega⟩ rfl (Nat.le_of_ble_eq_true rfl) dX10_limit_61 ?_
              rintro _ _ Y22 ⟨n20, n21, rfl, le23, h24, h25, z26, rfl, hz26⟩
              have le27 : z_yl ks Y Y22 := le23
              have p28 := le23.2.1 _ hq19
              have HL29 := z_netL le23 HL
              refine z_wide (k := 1) (n := 3) (Nat.le_refl _) (Nat.le_refl _) ?_
              rw [hQ]
              exact z_iret C hrt dX10_limit_64 (⟨n20, n21, rfl, le27, by omega, by omega, _, rfl, trivial⟩) (by omega) (by omega)
            · skip
              refine z_bipush C dX10_limit_43 (by decide) ?_
              rw [hQ]
              exact z_iret C hrt dX10_limit_45 (⟨s_isNeeded, s_isGoing, rfl, z_yl.rf, by omega, by omega, _, rfl, trivial⟩) (by omega) (by omega)
      · skip
        refine z_bipush C dX10_limit_21 (by decide) ?_
        rw [hQ]
        exact z_iret C hrt dX10_limit_23 (⟨s_isNeeded, s_isGoing, rfl, z_yl.rf, by omega, by omega, _, rfl, trivial⟩) (by omega) (by omega)
set_option maxRecDepth 20000 in
theorem cm_X10_wipe (l : Launch) {D : va_G} {A : Nat → Prop} {ad : Nat → Nat} {ks : z_Ks} {s_edgeCount s_moveCount s_isNeeded s_timesDone s_size s_isGoing s_allTime s_stepCount s_gapCount : Int} {g_edges g_moves g_limits : Nat → Option Nat} {a_sfacts a_sbounds a_facts a_zone a_most a_places a_amounts a_nextPlaces a_nextAmounts a_earliest a_visited a_lastSet a_gapFrom a_gapTo a_gapLeast a_askedPlaces a_askedAmounts : Nat → Int} {Y : Nat → Option va_E} (Hs_edgeCount : (0 ≤ s_edgeCount ∧ s_edgeCount ≤ 20)) (HL : ∀ j : Nat, (j : Int) < 18 → ∃ q, g_limits j = some q ∧ z_TL ks Y q) : z_Met l yX10_wipe cX10_wipe 2 (some .int) 1 21 0 0 D A 27 ad ks [.ref (ad 0)] (z_zc ad ks s_edgeCount s_moveCount s_isNeeded s_timesDone s_size s_isGoing s_allTime s_stepCount s_gapCount g_edges g_moves g_limits a_sfacts a_sbounds a_facts a_zone a_most a_places a_amounts a_nextPlaces a_nextAmounts a_earliest a_visited a_lastSet a_gapFrom a_gapTo a_gapLeast a_askedPlaces a_askedAmounts) Y (fun r S' Y' => S' = (z_zc ad ks 0 0 1 s_timesDone s_size 0 s_allTime s_stepCount s_gapCount g_edges g_moves g_limits a_sfacts a_sbounds a_facts a_zone a_most a_places a_amounts a_nextPlaces a_nextAmounts a_earliest a_visited a_lastSet a_gapFrom a_gapTo a_gapLeast a_askedPlaces a_askedAmounts) ∧ z_yl ks Y Y' ∧ ∃ z : Int, r = some (z_v z) ∧ (z = s_edgeCount)) := by
  refine z_start2 (by decide) (Nat.le_of_ble_eq_true rfl) ?_
  intro p e R s m args below meth c Q C hRf hRc hRs hRl hQ hrt hnm
  refine z_loc (L' := [(0, .ref (ad 0))]) [0] rfl ?_
  refine z_aloadn C 0 dX10_wipe_0 rfl rfl ?_
  refine z_get C 0 (by decide) rfl rfl z_it10 0 (by decide) rfl fl_10_12 rfl dX10_wipe_1 ?_
  refine z_get C 1 (by decide) rfl rfl z_it2 1 (by decide) rfl fl_10_51 rfl dX10_wipe_4 ?_
  refine z_istoren (L' := [(1, z_v s_edgeCount), (0, .ref (ad 0))]) C dX10_wipe_7 rfl (by decide) rfl ?_
  refine z_aloadn C 1 dX10_wipe_8 rfl rfl ?_
  refine z_get C 0 (by decide) rfl rfl z_it10 0 (by decide) rfl fl_10_12 rfl dX10_wipe_9 ?_
  refine z_callV C (cm_X2_clear l HL) mv_10_92 (z_atS 1 2 (by decide) rfl rfl rfl) pd_X2_clear ⟨by omega, by omega⟩ ⟨by omega, by omega⟩ rfl (Nat.le_of_ble_eq_true rfl) dX10_wipe_12 ?_
  rintro _ _ Y1 ⟨rfl, le2, rfl⟩
  have le3 : z_yl ks Y Y1 := le2
  have HL4 := z_netL le2 HL
  refine z_aloadn C 1 dX10_wipe_15 rfl rfl ?_
  refine z_callV C (cm_X10_forgetFindings l ) mv_10_55 (z_atS 0 10 (by decide) rfl rfl rfl) pd_X10_forgetFindings ⟨by omega, by omega⟩ ⟨by omega, by omega⟩ rfl (Nat.le_of_ble_eq_true rfl) dX10_wipe_16 ?_
  rintro _ _ _ ⟨rfl, rfl, rfl⟩
  refine z_iloadn C 0 dX10_wipe_19 rfl rfl ?_
  rw [hQ]
  exact z_iret C hrt dX10_wipe_20 (⟨rfl, le3, _, rfl, by omega⟩) (by omega) (by omega)
