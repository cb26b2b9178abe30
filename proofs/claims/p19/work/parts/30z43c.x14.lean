theorem zo_sp_n {i r : Int} {z f : Nat → Int} (FS : ∀ k, k < 16 → f k = zo_sp i r z k) (h : 1 ≤ i ∧ i ≤ 3) (hn : ¬ z_btv r i ≠ 0) : ∀ k, k < 16 → f k = zo_sp (i + 1) r z k := zo_sp_no FS h rfl (by omega)
theorem zo_sp_y {i r : Int} {z f g : Nat → Int} (FS : ∀ k, k < 16 → f k = zo_sp i r z k) (h : 1 ≤ i ∧ i ≤ 3) (hn : z_btv r i ≠ 0) (hg : ∀ k, k < 16 → g k = zo_rs f i.toNat k) : ∀ k, k < 16 → g k = zo_sp (i + 1) r z k := zo_sp_yes FS h rfl (by have := z_btv01 r i; omega) hg
theorem zo_st2_iff {ks : z_Ks} {Y : Nat → Option va_E} {ge gl : Nat → Option Nat} {n e f : Int} {em ef et ec er gn gt ln lt a b : Nat → Int} {qe ql qt : Nat → Nat} (h : z_N ks Y ge gl n em ef et ec er gn gt ln lt qe ql qt) (he : 0 ≤ e ∧ e < n) (hf : -1 ≤ f ∧ f < n) (q : ∀ m, m < 3 → a m = b m) : (a (em e.toNat).toNat = ef e.toNat ∧ (f = -1 ∨ f ≠ -1 ∧ a (em f.toNat).toNat = ef f.toNat)) ↔ zo_st2 em ef b e f := by
  unfold zo_st2
  have r1 := (h.1 e he.1 he.2).2.2.1
  rw [q (em e.toNat).toNat (by omega)]
  by_cases c : f = -1
  · constructor
    · exact fun k => ⟨k.1, Or.inl c⟩
    · exact fun k => ⟨k.1, Or.inl c⟩
  · have r2 := (h.1 f (by omega) hf.2).2.2.1
    rw [q (em f.toNat).toNat (by omega)]
theorem zo_g2_pt {r U V L e f : Int} {gn gt a b c : Nat → Int} (q : ∀ k, k < 16 → a k = b k) (h : r = 1 ∧ zo_g2 gn gt e f a c ∧ zo_Z U V L c ∨ r = 0 ∧ ∀ c, ¬ zo_g2 gn gt e f a c) : r = 1 ∧ zo_g2 gn gt e f b c ∧ zo_Z U V L c ∨ r = 0 ∧ ∀ c, ¬ zo_g2 gn gt e f b c := by
  have key : ∀ {x y d : Nat → Int}, (∀ k, k < 16 → x k = y k) → zo_g2 gn gt e f x d → zo_g2 gn gt e f y d := fun qq ⟨c1, g, k⟩ => ⟨c1, g.iff (fun w _ => by rw [zo_le_pt qq w]), k⟩
  exact h.elim (fun k => Or.inl ⟨k.1, key q k.2.1, k.2.2⟩) (fun k => Or.inr ⟨k.1, fun c g => k.2 c (key (fun i hi => (q i hi).symm) g)⟩)
theorem zo_rb2 {r : Int} {A B : Prop} (h : r = 1 ∧ A ∨ r = 0 ∧ B) : r = 0 ∨ r = 1 := h.elim (fun q => Or.inr q.1) (fun q => Or.inl q.1)
theorem zo_f6 {ks : z_Ks} {Y : Nat → Option va_E} {ge gl : Nat → Option Nat} {n e f i : Int} {em ef et ec er gn gt ln lt a sf : Nat → Int} {qe ql qt : Nat → Nat} (hc : ∀ j : Nat, j < 7 → a j = sf ((i * 7 : Int).toNat + j)) (h : z_N ks Y ge gl n em ef et ec er gn gt ln lt qe ql qt) (hi : 0 ≤ i ∧ (0 ≤ e ∧ e < n) ∧ -1 ≤ f ∧ f < n) : z_goA a em et e f 6 = sf (7 * i.toNat + 6) := by
  have r1 := (h.1 e hi.2.1.1 hi.2.1.2).2.2.1
  have k : a 6 = sf (7 * i.toNat + 6) := (hc 6 (by omega)).trans (by congr 1; omega)
  unfold z_goA va_up
  split
  · dsimp only; rw [if_neg (by omega)]; exact k
  · have r2 := (h.1 f (by omega) hi.2.2.2).2.2.1
    dsimp only; rw [if_neg (by omega), if_neg (by omega)]; exact k
set_option maxRecDepth 20000 in
theorem cx_X1_startsAt_9 (l : Launch) {D : va_G} {A : Nat → Prop} {ad : Nat → Nat} {ks : z_Ks} {s_edgeCount s_moveCount s_isNeeded s_timesDone s_size s_isGoing s_allTime s_stepCount s_gapCount : Int} {g_edges g_moves g_limits : Nat → Option Nat} {a_sfacts a_sbounds a_facts a_zone a_most a_places a_amounts a_nextPlaces a_nextAmounts a_earliest a_visited a_lastSet a_gapFrom a_gapTo a_gapLeast a_askedPlaces a_askedAmounts : Nat → Int} {Y : Nat → Option va_E} {em ef et ec er gn gt ln lt : Nat → Int} {qe ql qt : Nat → Nat} {f0 s0 : Int} (q : Nat) (Ha_facts : (∀ j, (j % 7 < 3 → 0 ≤ a_facts j ∧ a_facts j ≤ 5) ∧ (j % 7 = 3 → -1 ≤ a_facts j ∧ a_facts j ≤ 119) ∧ (j % 7 = 6 → 0 ≤ a_facts j ∧ a_facts j ≤ 40) ∧ z_rg (a_facts j))) (Hs_edgeCount : 0 ≤ s_edgeCount ∧ s_edgeCount ≤ 20) (hq : z_MX Y q f0 s0 s_edgeCount qe er) (HN : z_N ks Y g_edges g_limits s_edgeCount em ef et ec er gn gt ln lt qe ql qt) : z_Met l yX1_startsAt cX1_startsAt 2 (some .boolean) 0 0 0 0 D A 27 ad ks [.ref q, .ref (ad 9)] (z_zc ad ks s_edgeCount s_moveCount s_isNeeded s_timesDone s_size s_isGoing s_allTime s_stepCount s_gapCount g_edges g_moves g_limits a_sfacts a_sbounds a_facts a_zone a_most a_places a_amounts a_nextPlaces a_nextAmounts a_earliest a_visited a_lastSet a_gapFrom a_gapTo a_gapLeast a_askedPlaces a_askedAmounts) Y (fun r S' Y' => S' = (z_zc ad ks s_edgeCount s_moveCount s_isNeeded s_timesDone s_size s_isGoing s_allTime s_stepCount s_gapCount g_edges g_moves g_limits a_sfacts a_sbounds a_facts a_zone a_most a_places a_amounts a_nextPlaces a_nextAmounts a_earliest a_visited a_lastSet a_gapFrom a_gapTo a_gapLeast a_askedPlaces a_askedAmounts) ∧ Y = Y' ∧ ∃ z : Int, r = some (z_v z) ∧ (z = 1 ∧ (a_facts (em f0.toNat).toNat = ef f0.toNat ∧ (s0 = -1 ∨ s0 ≠ -1 ∧ a_facts (em s0.toNat).toNat = ef s0.toNat)) ∨ z = 0 ∧ ¬ (a_facts (em f0.toNat).toNat = ef f0.toNat ∧ (s0 = -1 ∨ s0 ≠ -1 ∧ a_facts (em s0.toNat).toNat = ef s0.toNat)))) := by
  refine z_start2 (by decide) (Nat.le_of_ble_eq_true rfl) ?_
  intro p e R s m args below meth c Q C hRf hRc hRs hRl hQ hrt hnm
  refine z_loc (L' := [(0, .ref q), (1, .ref (ad 9))]) [0, 1] rfl ?_
  obtain ⟨rq, yq, aq, bq, cq⟩ := id hq
  obtain ⟨_, ye, re, te⟩ := HN.1 f0 (by omega) (by omega)
  by_cases hs : s0 = -1
  · rw [if_pos hs] at yq
    refine z_aloadn C 1 dX1_startsAt_0 rfl rfl ?_
    refine z_aloadn C 0 dX1_startsAt_1 rfl rfl ?_
    refine z_getY C yq rfl z_it1 2 (by decide) rfl fl_1_16 rfl dX1_startsAt_2 ?_
    refine z_getY C ye rfl z_it0 0 (by decide) rfl fl_1_29 rfl dX1_startsAt_5 ?_
    refine z_iald C 9 (by decide) rfl (by decide) (by omega) (by omega) dX1_startsAt_8 ?_
    have rx1 := Ha_facts ((em f0.toNat) : Int).toNat
    generalize ex1 : a_facts ((em f0.toNat) : Int).toNat = x1 at rx1 ⊢
    refine z_aloadn C 0 dX1_startsAt_9 rfl rfl ?_
    refine z_getY C yq rfl z_it1 2 (by decide) rfl fl_1_16 rfl dX1_startsAt_10 ?_
    refine z_getY C ye rfl z_it0 1 (by decide) rfl fl_1_32 rfl dX1_startsAt_13 ?_
    refine z_icmp_ne (t := 49) C dX1_startsAt_16 (by decide) (by omega) (by omega) (fun c2 => ?_) (fun c2 => ?_)
    · skip
      refine z_iconst C dX1_startsAt_49 ?_
      rw [hQ]
      exact z_zret C hrt (by omega) dX1_startsAt_50 (⟨rfl, rfl, _, rfl, by omega⟩) (by omega) (by omega)
    · skip
      refine z_aloadn C 0 dX1_startsAt_19 rfl rfl ?_
      refine z_getY C yq rfl z_it1 3 (by decide) rfl fl_1_20 rfl dX1_startsAt_20 ?_
      refine z_ifnullN (t := 45) C dX1_startsAt_23 (by decide) ?_
      refine z_iconst C dX1_startsAt_45 ?_
      refine z_goto (t := 50) C dX1_startsAt_46 (by decide) ?_
      rw [hQ]
      exact z_zret C hrt (by omega) dX1_startsAt_50 (⟨rfl, rfl, _, rfl, by omega⟩) (by omega) (by omega)
  · rw [if_neg hs] at yq
    obtain ⟨_, yf, rf, tf⟩ := HN.1 s0 (by omega) (by omega)
    refine z_aloadn C 1 dX1_startsAt_0 rfl rfl ?_
    refine z_aloadn C 0 dX1_startsAt_1 rfl rfl ?_
    refine z_getY C yq rfl z_it1 2 (by decide) rfl fl_1_16 rfl dX1_startsAt_2 ?_
    refine z_getY C ye rfl z_it0 0 (by decide) rfl fl_1_29 rfl dX1_startsAt_5 ?_
    refine z_iald C 9 (by decide) rfl (by decide) (by omega) (by omega) dX1_startsAt_8 ?_
    have rx3 := Ha_facts ((em f0.toNat) : Int).toNat
    generalize ex3 : a_facts ((em f0.toNat) : Int).toNat = x3 at rx3 ⊢
    refine z_aloadn C 0 dX1_startsAt_9 rfl rfl ?_
    refine z_getY C yq rfl z_it1 2 (by decide) rfl fl_1_16 rfl dX1_startsAt_10 ?_
    refine z_getY C ye rfl z_it0 1 (by decide) rfl fl_1_32 rfl dX1_startsAt_13 ?_
    refine z_icmp_ne (t := 49) C dX1_startsAt_16 (by decide) (by omega) (by omega) (fun c4 => ?_) (fun c4 => ?_)
    · skip
      refine z_iconst C dX1_startsAt_49 ?_
      rw [hQ]
      exact z_zret C hrt (by omega) dX1_startsAt_50 (⟨rfl, rfl, _, rfl, by omega⟩) (by omega) (by omega)
    · skip
      refine z_aloadn C 0 dX1_startsAt_19 rfl rfl ?_
      refine z_getY C yq rfl z_it1 3 (by decide) rfl fl_1_20 rfl dX1_startsAt_20 ?_
      refine z_ifnull C dX1_startsAt_23 ?_
      refine z_aloadn C 1 dX1_startsAt_26 rfl rfl ?_
      refine z_aloadn C 0 dX1_startsAt_27 rfl rfl ?_
      refine z_getY C yq rfl z_it1 3 (by decide) rfl fl_1_20 rfl dX1_startsAt_28 ?_
      refine z_getY C yf rfl z_it0 0 (by decide) rfl fl_1_29 rfl dX1_startsAt_31 ?_
      refine z_iald C 9 (by decide) rfl (by decide) (by omega) (by omega) dX1_startsAt_34 ?_
      have rx5 := Ha_facts ((em s0.toNat) : Int).toNat
      generalize ex5 : a_facts ((em s0.toNat) : Int).toNat = x5 at rx5 ⊢
      refine z_aloadn C 0 dX1_startsAt_35 rfl rfl ?_
      refine z_getY C yq rfl z_it1 3 (by decide) rfl fl_1_20 rfl dX1_startsAt_36 ?_
      refine z_getY C yf rfl z_it0 1 (by decide) rfl fl_1_32 rfl dX1_startsAt_39 ?_
      refine z_icmp_ne (t := 49) C dX1_startsAt_42 (by decide) (by omega) (by omega) (fun c6 => ?_) (fun c6 => ?_)
      · skip
        refine z_iconst C dX1_startsAt_49 ?_
        rw [hQ]
        exact z_zret C hrt (by omega) dX1_startsAt_50 (⟨rfl, rfl, _, rfl, by omega⟩) (by omega) (by omega)
      · skip
        refine z_iconst C dX1_startsAt_45 ?_
        refine z_goto (t := 50) C dX1_startsAt_46 (by decide) ?_
        rw [hQ]
        exact z_zret C hrt (by omega) dX1_startsAt_50 (⟨rfl, rfl, _, rfl, by omega⟩) (by omega) (by omega)
set_option maxRecDepth 20000 in
theorem cx_X1_carry_9 (l : Launch) {D : va_G} {A : Nat → Prop} {ad : Nat → Nat} {ks : z_Ks} {s_edgeCount s_moveCount s_isNeeded s_timesDone s_size s_isGoing s_allTime s_stepCount s_gapCount : Int} {g_edges g_moves g_limits : Nat → Option Nat} {a_sfacts a_sbounds a_facts a_zone a_most a_places a_amounts a_nextPlaces a_nextAmounts a_earliest a_visited a_lastSet a_gapFrom a_gapTo a_gapLeast a_askedPlaces a_askedAmounts : Nat → Int} {Y : Nat → Option va_E} {em ef et ec er gn gt ln lt : Nat → Int} {qe ql qt : Nat → Nat} {f0 s0 : Int} (q : Nat) (Ha_facts : (∀ j, (j % 7 < 3 → 0 ≤ a_facts j ∧ a_facts j ≤ 5) ∧ (j % 7 = 3 → -1 ≤ a_facts j ∧ a_facts j ≤ 119) ∧ (j % 7 = 6 → 0 ≤ a_facts j ∧ a_facts j ≤ 40) ∧ z_rg (a_facts j))) (Hs_edgeCount : 0 ≤ s_edgeCount ∧ s_edgeCount ≤ 20) (hq : z_MX Y q f0 s0 s_edgeCount qe er) (HN : z_N ks Y g_edges g_limits s_edgeCount em ef et ec er gn gt ln lt qe ql qt) : z_Met l yX1_carry cX1_carry 2 none 0 0 0 0 D A 27 ad ks [.ref q, .ref (ad 9)] (z_zc ad ks s_edgeCount s_moveCount s_isNeeded s_timesDone s_size s_isGoing s_allTime s_stepCount s_gapCount g_edges g_moves g_limits a_sfacts a_sbounds a_facts a_zone a_most a_places a_amounts a_nextPlaces a_nextAmounts a_earliest a_visited a_lastSet a_gapFrom a_gapTo a_gapLeast a_askedPlaces a_askedAmounts) Y (fun r S' Y' => ∃ na_facts : Nat → Int, S' = (z_zc ad ks s_edgeCount s_moveCount s_isNeeded s_timesDone s_size s_isGoing s_allTime s_stepCount s_gapCount g_edges g_moves g_limits a_sfacts a_sbounds na_facts a_zone a_most a_places a_amounts a_nextPlaces a_nextAmounts a_earliest a_visited a_lastSet a_gapFrom a_gapTo a_gapLeast a_askedPlaces a_askedAmounts) ∧ Y = Y' ∧ (∀ j, (j % 7 < 3 → 0 ≤ na_facts j ∧ na_facts j ≤ 5) ∧ (j % 7 = 3 → -1 ≤ na_facts j ∧ na_facts j ≤ 119) ∧ (j % 7 = 6 → 0 ≤ na_facts j ∧ na_facts j ≤ 40) ∧ z_rg (na_facts j)) ∧ na_facts = z_goA a_facts em et f0 s0 ∧ r = none) := by
  refine z_start2 (by decide) (Nat.le_of_ble_eq_true rfl) ?_
  intro p e R s m args below meth c Q C hRf hRc hRs hRl hQ hrt hnm
  refine z_loc (L' := [(0, .ref q), (1, .ref (ad 9))]) [0, 1] rfl ?_
  obtain ⟨rq, yq, aq, bq, cq⟩ := id hq
  obtain ⟨_, ye, re, te⟩ := HN.1 f0 (by omega) (by omega)
  by_cases hs : s0 = -1
  · rw [if_pos hs] at yq
    refine z_aloadn C 1 dX1_carry_0 rfl rfl ?_
    refine z_aloadn C 0 dX1_carry_1 rfl rfl ?_
    refine z_getY C yq rfl z_it1 2 (by decide) rfl fl_1_16 rfl dX1_carry_2 ?_
    refine z_getY C ye rfl z_it0 0 (by decide) rfl fl_1_29 rfl dX1_carry_5 ?_
    refine z_aloadn C 0 dX1_carry_8 rfl rfl ?_
    refine z_getY C yq rfl z_it1 2 (by decide) rfl fl_1_16 rfl dX1_carry_9 ?_
    refine z_getY C ye rfl z_it0 2 (by decide) rfl fl_1_35 rfl dX1_carry_12 ?_
    refine z_iast C 9 (by decide) rfl (by decide) (by omega) (by omega) dX1_carry_15 ?_
    refine z_ext (S' := (z_zc ad ks s_edgeCount s_moveCount s_isNeeded s_timesDone s_size s_isGoing s_allTime s_stepCount s_gapCount g_edges g_moves g_limits a_sfacts a_sbounds (va_up a_facts ((em f0.toNat) : Int).toNat (et f0.toNat)) a_zone a_most a_places a_amounts a_nextPlaces a_nextAmounts a_earliest a_visited a_lastSet a_gapFrom a_gapTo a_gapLeast a_askedPlaces a_askedAmounts)) upC_a_facts ?_
    have h1 : ∀ j, (j % 7 < 3 → 0 ≤ (va_up a_facts ((em f0.toNat) : Int).toNat (et f0.toNat)) j ∧ (va_up a_facts ((em f0.toNat) : Int).toNat (et f0.toNat)) j ≤ 5) ∧ (j % 7 = 3 → -1 ≤ (va_up a_facts ((em f0.toNat) : Int).toNat (et f0.toNat)) j ∧ (va_up a_facts ((em f0.toNat) : Int).toNat (et f0.toNat)) j ≤ 119) ∧ (j % 7 = 6 → 0 ≤ (va_up a_facts ((em f0.toNat) : Int).toNat (et f0.toNat)) j ∧ (va_up a_facts ((em f0.toNat) : Int).toNat (et f0.toNat)) j ≤ 40) ∧ z_rg ((va_up a_facts ((em f0.toNat) : Int).toNat (et f0.toNat)) j) := z_upP (P := fun j v => (j % 7 < 3 → 0 ≤ v ∧ v ≤ 5) ∧ (j % 7 = 3 → -1 ≤ v ∧ v ≤ 119) ∧ (j % 7 = 6 → 0 ≤ v ∧ v ≤ 40) ∧ z_rg (v)) Ha_facts (by omega)
    refine z_aloadn C 0 dX1_carry_16 rfl rfl ?_
    refine z_getY C yq rfl z_it1 3 (by decide) rfl fl_1_20 rfl dX1_carry_17 ?_
    refine z_ifnullN (t := 39) C dX1_carry_20 (by decide) ?_
    rw [hQ]
    exact z_vret C hrt dX1_carry_39 (⟨(va_up a_facts ((em f0.toNat) : Int).toNat (et f0.toNat)), rfl, rfl, h1, by first | exact (z_goA1 hs).symm | exact (z_goA2 hs).symm, rfl⟩) (by omega) (by omega)
  · rw [if_neg hs] at yq
    obtain ⟨_, yf, rf, tf⟩ := HN.1 s0 (by omega) (by omega)
    refine z_aloadn C 1 dX1_carry_0 rfl rfl ?_
    refine z_aloadn C 0 dX1_carry_1 rfl rfl ?_
    refine z_getY C yq rfl z_it1 2 (by decide) rfl fl_1_16 rfl dX1_carry_2 ?_
    refine z_getY C ye rfl z_it0 0 (by decide) rfl fl_1_29 rfl dX1_carry_5 ?_
    refine z_aloadn C 0 dX1_carry_8 rfl rfl ?_
    refine z_getY C yq rfl z_it1 2 (by decide) rfl fl_1_16 rfl dX1_carry_9 ?_
    refine z_getY C ye rfl z_it0 2 (by decide) rfl fl_1_35 rfl dX1_carry_12 ?_
    refine z_iast C 9 (by decide) rfl (by decide) (by omega) (by omega) dX1_carry_15 ?_
    refine z_ext (S' := (z_zc ad ks s_edgeCount s_moveCount s_isNeeded s_timesDone s_size s_isGoing s_allTime s_stepCount s_gapCount g_edges g_moves g_limits a_sfacts a_sbounds (va_up a_facts ((em f0.toNat) : Int).toNat (et f0.toNat)) a_zone a_most a_places a_amounts a_nextPlaces a_nextAmounts a_earliest a_visited a_lastSet a_gapFrom a_gapTo a_gapLeast a_askedPlaces a_askedAmounts)) upC_a_facts ?_
    have h2 : ∀ j, (j % 7 < 3 → 0 ≤ (va_up a_facts ((em f0.toNat) : Int).toNat (et f0.toNat)) j ∧ (va_up a_facts ((em f0.toNat) : Int).toNat (et f0.toNat)) j ≤ 5) ∧ (j % 7 = 3 → -1 ≤ (va_up a_facts ((em f0.toNat) : Int).toNat (et f0.toNat)) j ∧ (va_up a_facts ((em f0.toNat) : Int).toNat (et f0.toNat)) j ≤ 119) ∧ (j % 7 = 6 → 0 ≤ (va_up a_facts ((em f0.toNat) : Int).toNat (et f0.toNat)) j ∧ (va_up a_facts ((em f0.toNat) : Int).toNat (et f0.toNat)) j ≤ 40) ∧ z_rg ((va_up a_facts ((em f0.toNat) : Int).toNat (et f0.toNat)) j) := z_upP (P := fun j v => (j % 7 < 3 → 0 ≤ v ∧ v ≤ 5) ∧ (j % 7 = 3 → -1 ≤ v ∧ v ≤ 119) ∧ (j % 7 = 6 → 0 ≤ v ∧ v ≤ 40) ∧ z_rg (v)) Ha_facts (by omega)
    refine z_aloadn C 0 dX1_carry_16 rfl rfl ?_
    refine z_getY C yq rfl z_it1 3 (by decide) rfl fl_1_20 rfl dX1_carry_17 ?_
    refine z_ifnull C dX1_carry_20 ?_
    refine z_aloadn C 1 dX1_carry_23 rfl rfl ?_
    refine z_aloadn C 0 dX1_carry_24 rfl rfl ?_
    refine z_getY C yq rfl z_it1 3 (by decide) rfl fl_1_20 rfl dX1_carry_25 ?_
    refine z_getY C yf rfl z_it0 0 (by decide) rfl fl_1_29 rfl dX1_carry_28 ?_
    refine z_aloadn C 0 dX1_carry_31 rfl rfl ?_
    refine z_getY C yq rfl z_it1 3 (by decide) rfl fl_1_20 rfl dX1_carry_32 ?_
    refine z_getY C yf rfl z_it0 2 (by decide) rfl fl_1_35 rfl dX1_carry_35 ?_
    refine z_iast C 9 (by decide) rfl (by decide) (by omega) (by omega) dX1_carry_38 ?_
    refine z_ext (S' := (z_zc ad ks s_edgeCount s_moveCount s_isNeeded s_timesDone s_size s_isGoing s_allTime s_stepCount s_gapCount g_edges g_moves g_limits a_sfacts a_sbounds (va_up (va_up a_facts ((em f0.toNat) : Int).toNat (et f0.toNat)) ((em s0.toNat) : Int).toNat (et s0.toNat)) a_zone a_most a_places a_amounts a_nextPlaces a_nextAmounts a_earliest a_visited a_lastSet a_gapFrom a_gapTo a_gapLeast a_askedPlaces a_askedAmounts)) upC_a_facts ?_
    have h3 : ∀ j, (j % 7 < 3 → 0 ≤ (va_up (va_up a_facts ((em f0.toNat) : Int).toNat (et f0.toNat)) ((em s0.toNat) : Int).toNat (et s0.toNat)) j ∧ (va_up (va_up a_facts ((em f0.toNat) : Int).toNat (et f0.toNat)) ((em s0.toNat) : Int).toNat (et s0.toNat)) j ≤ 5) ∧ (j % 7 = 3 → -1 ≤ (va_up (va_up a_facts ((em f0.toNat) : Int).toNat (et f0.toNat)) ((em s0.toNat) : Int).toNat (et s0.toNat)) j ∧ (va_up (va_up a_facts ((em f0.toNat) : Int).toNat (et f0.toNat)) ((em s0.toNat) : Int).toNat (et s0.toNat)) j ≤ 119) ∧ (j % 7 = 6 → 0 ≤ (va_up (va_up a_facts ((em f0.toNat) : Int).toNat (et f0.toNat)) ((em s0.toNat) : Int).toNat (et s0.toNat)) j ∧ (va_up (va_up a_facts ((em f0.toNat) : Int).toNat (et f0.toNat)) ((em s0.toNat) : Int).toNat (et s0.toNat)) j ≤ 40) ∧ z_rg ((va_up (va_up a_facts ((em f0.toNat) : Int).toNat (et f0.toNat)) ((em s0.toNat) : Int).toNat (et s0.toNat)) j) := z_upP (P := fun j v => (j % 7 < 3 → 0 ≤ v ∧ v ≤ 5) ∧ (j % 7 = 3 → -1 ≤ v ∧ v ≤ 119) ∧ (j % 7 = 6 → 0 ≤ v ∧ v ≤ 40) ∧ z_rg (v)) h2 (by omega)
    rw [hQ]
    exact z_vret C hrt dX1_carry_39 (⟨(va_up (va_up a_facts ((em f0.toNat) : Int).toNat (et f0.toNat)) ((em s0.toNat) : Int).toNat (et s0.toNat)), rfl, rfl, h3, by first | exact (z_goA1 hs).symm | exact (z_goA2 hs).symm, rfl⟩) (by omega) (by omega)
set_option maxRecDepth 20000 in
theorem cx_X3_goesBy (l : Launch) {D : va_G} {A : Nat → Prop} {ad : Nat → Nat} {ks : z_Ks} {s_edgeCount s_moveCount s_isNeeded s_timesDone s_size s_isGoing s_allTime s_stepCount s_gapCount : Int} {g_edges g_moves g_limits : Nat → Option Nat} {a_sfacts a_sbounds a_facts a_zone a_most a_places a_amounts a_nextPlaces a_nextAmounts a_earliest a_visited a_lastSet a_gapFrom a_gapTo a_gapLeast a_askedPlaces a_askedAmounts : Nat → Int} {Y : Nat → Option va_E} {em ef et ec er gn gt ln lt : Nat → Int} {qe ql qt : Nat → Nat} {f0 s0 : Int} (i0 : Int) (q : Nat) (Ha_sfacts : (∀ j, (j % 7 < 3 → 0 ≤ a_sfacts j ∧ a_sfacts j ≤ 5) ∧ (j % 7 = 3 → -1 ≤ a_sfacts j ∧ a_sfacts j ≤ 119) ∧ (j % 7 = 6 → 0 ≤ a_sfacts j ∧ a_sfacts j ≤ 40) ∧ z_rg (a_sfacts j))) (Ha_facts : (∀ j, (j % 7 < 3 → 0 ≤ a_facts j ∧ a_facts j ≤ 5) ∧ (j % 7 = 3 → -1 ≤ a_facts j ∧ a_facts j ≤ 119) ∧ (j % 7 = 6 → 0 ≤ a_facts j ∧ a_facts j ≤ 40) ∧ z_rg (a_facts j))) (Ha_sbounds : (∀ j, z_rg (a_sbounds j))) (Ha_zone : (∀ j, z_rg (a_zone j))) (Hs_edgeCount : 0 ≤ s_edgeCount ∧ s_edgeCount ≤ 20) (hi : 0 ≤ i0 ∧ i0 ≤ 119) (hq : z_MX Y q f0 s0 s_edgeCount qe er) (HN : z_N ks Y g_edges g_limits s_edgeCount em ef et ec er gn gt ln lt qe ql qt) (hZ : zo_Z 16016 16016 32015 (fun k => a_sbounds (16 * i0.toNat + k))) : z_Met l yX3_goesBy cX3_goesBy 4 (some .boolean) 4 92 0 0 D A 27 ad ks [.ref (ad 5), z_v i0, .ref q] (z_zc ad ks s_edgeCount s_moveCount s_isNeeded s_timesDone s_size s_isGoing s_allTime s_stepCount s_gapCount g_edges g_moves g_limits a_sfacts a_sbounds a_facts a_zone a_most a_places a_amounts a_nextPlaces a_nextAmounts a_earliest a_visited a_lastSet a_gapFrom a_gapTo a_gapLeast a_askedPlaces a_askedAmounts) Y (fun r S' Y' => ∃ na_facts : Nat → Int, ∃ na_zone : Nat → Int, S' = (z_zc ad ks s_edgeCount s_moveCount s_isNeeded s_timesDone s_size s_isGoing s_allTime s_stepCount s_gapCount g_edges g_moves g_limits a_sfacts a_sbounds na_facts na_zone a_most a_places a_amounts a_nextPlaces a_nextAmounts a_earliest a_visited a_lastSet a_gapFrom a_gapTo a_gapLeast a_askedPlaces a_askedAmounts) ∧ Y = Y' ∧ (∀ j, (j % 7 < 3 → 0 ≤ na_facts j ∧ na_facts j ≤ 5) ∧ (j % 7 = 3 → -1 ≤ na_facts j ∧ na_facts j ≤ 119) ∧ (j % 7 = 6 → 0 ≤ na_facts j ∧ na_facts j ≤ 40) ∧ z_rg (na_facts j)) ∧ (∀ j, z_rg (na_zone j)) ∧ ∃ z : Int, r = some (z_v z) ∧ (z = 1 ∧ ¬ 40 ≤ a_sfacts (7 * i0.toNat + 6) ∧ (zo_st2 em ef (zo_n3 (fun m => a_sfacts (7 * i0.toNat + m))) f0 s0 ∧ (∃ c, zo_g2 gn gt f0 s0 (zo_n16 (fun k => a_sbounds (16 * i0.toNat + k))) c ∧ ∀ k, k < 16 → na_zone k = zo_set (z_or er f0 s0) c k) ∧ (∀ m, m < 3 → na_facts m = z_goA (zo_n3 (fun m => a_sfacts (7 * i0.toNat + m))) em et f0 s0 m) ∧ (na_facts 3 = i0 ∧ na_facts 4 = f0 ∧ na_facts 5 = s0 ∧ na_facts 6 = a_sfacts (7 * i0.toNat + 6) + 1) ∧ zo_Z 16016 18018 40027 na_zone) ∨ z = 0 ∧ (40 ≤ a_sfacts (7 * i0.toNat + 6) ∨ ¬ zo_st2 em ef (zo_n3 (fun m => a_sfacts (7 * i0.toNat + m))) f0 s0 ∨ ∀ c, ¬ zo_g2 gn gt f0 s0 (zo_n16 (fun k => a_sbounds (16 * i0.toNat + k))) c))) := by
  refine z_start2 (by decide) (Nat.le_of_ble_eq_true rfl) ?_
  intro p e R s m args below meth c Q C hRf hRc hRs hRl hQ hrt hnm
  refine z_loc (L' := [(0, .ref (ad 5)), (1, z_v i0), (2, .ref q)]) [0, 1, 2] rfl ?_
  refine z_aloadn C 0 dX3_goesBy_0 rfl rfl ?_
  refine z_get C 5 (by decide) rfl rfl z_it3 0 (by decide) rfl fl_3_12 rfl dX3_goesBy_1 ?_
  refine z_iloadn C 1 dX3_goesBy_4 rfl rfl ?_
  refine z_aloadn C 0 dX3_goesBy_5 rfl rfl ?_
  refine z_get C 5 (by decide) rfl rfl z_it3 3 (by decide) rfl fl_3_22 rfl dX3_goesBy_6 ?_
  refine z_callV C (cm_X4_copyFacts l i0 Ha_sfacts Ha_facts (by omega)) mv_3_88 (z_atS 6 4 (by decide) rfl rfl rfl) pd_X4_copyFacts ⟨by omega, by omega⟩ ⟨by omega, by omega⟩ rfl (Nat.le_of_ble_eq_true rfl) dX3_goesBy_9 ?_
  rintro _ _ _ ⟨n1, rfl, rfl, h4, q9_0, rfl⟩
  have hcf := q9_0
  refine z_aloadn C 0 dX3_goesBy_12 rfl rfl ?_
  refine z_get C 5 (by decide) rfl rfl z_it3 3 (by decide) rfl fl_3_22 rfl dX3_goesBy_13 ?_
  refine z_bipush C dX3_goesBy_16 (by decide) ?_
  refine z_iald C 9 (by decide) rfl (by decide) (by omega) (by omega) dX3_goesBy_18 ?_
  have rx5 := h4 (6 : Int).toNat
  generalize ex5 : n1 (6 : Int).toNat = x5 at rx5 ⊢
  have e18 : x5 = a_sfacts (7 * i0.toNat + 6) := by rw [← ex5]; exact (hcf 6 (by omega)).trans (by congr 1; omega)
  have hA : ∀ m, m < 3 → n1 m = (zo_n3 (fun m => a_sfacts (7 * i0.toNat + m))) m := fun m hm => ((hcf m (by omega)).trans (by congr 1; omega)).trans (zo_n3_at (f := fun m => a_sfacts (7 * i0.toNat + m)) hm).symm
  refine z_bipush C dX3_goesBy_19 (by decide) ?_
  refine z_icmp_ge (t := 35) C dX3_goesBy_21 (by decide) (by omega) (by omega) (fun c6 => ?_) (fun c6 => ?_)
  · skip
    refine z_iconst C dX3_goesBy_35 ?_
    rw [hQ]
    exact z_zret C hrt (by omega) dX3_goesBy_36 (⟨n1, a_zone, rfl, rfl, h4, Ha_zone, _, rfl, by first | exact Or.inr ⟨rfl, Or.inr (Or.inl (z_isz0 hst9 (by omega)))⟩ | exact Or.inr ⟨rfl, Or.inl (by omega)⟩⟩) (by omega) (by omega)
  · skip
    refine z_aloadn C 2 dX3_goesBy_24 rfl rfl ?_
    refine z_aloadn C 0 dX3_goesBy_25 rfl rfl ?_
    refine z_get C 5 (by decide) rfl rfl z_it3 3 (by decide) rfl fl_3_22 rfl dX3_goesBy_26 ?_
    obtain ⟨rd7, yd7, ad7, bd7, cd7⟩ := id hq
    refine z_callV C (cx_X1_startsAt_9 l q h4 (by omega) hq HN) mv_3_92 (z_atY 1 yd7 rfl rfl) pd_X1_startsAt ⟨by omega, by omega⟩ ⟨by omega, by omega⟩ rfl (Nat.le_of_ble_eq_true rfl) dX3_goesBy_29 ?_
    rintro _ _ _ ⟨rfl, rfl, z10, rfl, hz10⟩
    have hst9 := z_isz_iff hz10 (zo_st2_iff HN (by omega) (by omega) hA)
    refine z_if_ne (t := 37) C dX3_goesBy_32 (by decide) (by omega) (fun c11 => ?_) (fun c11 => ?_)
    · skip
      refine z_aloadn C 0 dX3_goesBy_37 rfl rfl ?_
      refine z_get C 5 (by decide) rfl rfl z_it3 0 (by decide) rfl fl_3_12 rfl dX3_goesBy_38 ?_
      refine z_iloadn C 1 dX3_goesBy_41 rfl rfl ?_
      refine z_aloadn C 0 dX3_goesBy_42 rfl rfl ?_
      refine z_get C 5 (by decide) rfl rfl z_it3 4 (by decide) rfl fl_3_29 rfl dX3_goesBy_43 ?_
      refine z_callV C (cx_X4_copyZone l i0 Ha_sbounds Ha_zone (by omega)) mv_3_98 (z_atS 6 4 (by decide) rfl rfl rfl) pd_X4_copyZone ⟨by omega, by omega⟩ ⟨by omega, by omega⟩ rfl (Nat.le_of_ble_eq_true rfl) dX3_goesBy_46 ?_
      rintro _ _ _ ⟨n12, rfl, rfl, h15, q46_0, rfl⟩
      have hzn : ∀ k, k < 16 → n12 k = (zo_n16 (fun k => a_sbounds (16 * i0.toNat + k))) k := fun k hk => (q46_0 k hk).trans (zo_n16_at (f := fun k => a_sbounds (16 * i0.toNat + k)) hk).symm
      have hZ2 : zo_Z 16016 18018 32015 n12 := (hZ.mono (Int.le_refl _) (by omega) (Int.le_refl _)).congr (fun k hk => (q46_0 k hk).symm)
      refine z_aloadn C 2 dX3_goesBy_49 rfl rfl ?_
      refine z_aloadn C 0 dX3_goesBy_50 rfl rfl ?_
      refine z_get C 5 (by decide) rfl rfl z_it3 4 (by decide) rfl fl_3_29 rfl dX3_goesBy_51 ?_
      refine z_callV C (cx_X1_guardsNarrow l q h15 (by omega) hq HN hZ2 (by omega) (by omega)) mv_3_102 (z_atY 1 yd7 rfl rfl) pd_X1_guardsNarrow ⟨by omega, by omega⟩ ⟨by omega, by omega⟩ rfl (Nat.le_of_ble_eq_true rfl) dX3_goesBy_54 ?_
      rintro _ _ _ ⟨n16, rfl, rfl, h19, z20, rfl, hz20⟩
      have hgn := zo_g2_pt hzn hz20
      have hbn := zo_rb2 hgn
      refine z_if_ne (t := 62) C dX3_goesBy_57 (by decide) (by omega) (fun c21 => ?_) (fun c21 => ?_)
      · skip
        obtain ⟨gz, hgz⟩ : ∃ g, g = n16 := ⟨_, rfl⟩
        obtain ⟨_, hg2, hZ3⟩ := hgn.elim id (fun q => absurd q.1 (by omega))
        rw [← hgz] at hg2 hZ3
        refine z_iconst C dX3_goesBy_62 ?_
        refine z_istoren (L' := [(3, z_v 1), (0, .ref (ad 5)), (1, z_v i0), (2, .ref q)]) C dX3_goesBy_63 rfl (by decide) rfl ?_
        have L64 : ∀ (n : Nat), ∀ (i3 : Int) (fa_zone : Nat → Int), ((∀ j, z_rg (fa_zone j))) → (∀ k, k < 16 → fa_zone k = zo_sp i3 (z_or er f0 s0) gz k) → (1 ≤ i3 ∧ i3 ≤ 4) → ((4 : Int) - i3).toNat < n → z_V p l e R s m args below meth c Q D A 27 ad 4 (z_zc ad ks s_edgeCount s_moveCount s_isNeeded s_timesDone s_size s_isGoing s_allTime s_stepCount s_gapCount g_edges g_moves g_limits a_sfacts a_sbounds n1 fa_zone a_most a_places a_amounts a_nextPlaces a_nextAmounts a_earliest a_visited a_lastSet a_gapFrom a_gapTo a_gapLeast a_askedPlaces a_askedAmounts) Y 0 0 64 [(0, .ref (ad 5)), (1, z_v i0), (2, .ref q), (3, z_v i3)] [] := by
          intro n
          induction n with
          | zero => intro i3 fa_zone Hfa_zone FS I3 hm; exact absurd hm (Nat.not_lt_zero _)
          | succ n ih64 =>
            intro i3 fa_zone Hfa_zone FS I3 hm
            refine z_iloadn C 3 dX3_goesBy_64 rfl rfl ?_
            refine z_iconst C dX3_goesBy_65 ?_
            refine z_icmp_ge (t := 91) C dX3_goesBy_66 (by decide) (by omega) (by omega) (fun c22 => ?_) (fun c22 => ?_)
            · skip
              refine z_aloadn C 2 dX3_goesBy_91 rfl rfl ?_
              refine z_aloadn C 0 dX3_goesBy_92 rfl rfl ?_
              refine z_get C 5 (by decide) rfl rfl z_it3 3 (by decide) rfl fl_3_22 rfl dX3_goesBy_93 ?_
              refine z_callV C (cx_X1_carry_9 l q h4 (by omega) hq HN) mv_3_114 (z_atY 1 yd7 rfl rfl) pd_X1_carry ⟨by omega, by omega⟩ ⟨by omega, by omega⟩ rfl (Nat.le_of_ble_eq_true rfl) dX3_goesBy_96 ?_
              rintro _ _ _ ⟨n23, rfl, rfl, h26, q96_0, rfl⟩
              have hcr := q96_0
              refine z_aloadn C 0 dX3_goesBy_99 rfl rfl ?_
              refine z_get C 5 (by decide) rfl rfl z_it3 3 (by decide) rfl fl_3_22 rfl dX3_goesBy_100 ?_
              refine z_iconst C dX3_goesBy_103 ?_
              refine z_iloadn C 1 dX3_goesBy_104 rfl rfl ?_
              refine z_iast C 9 (by decide) rfl (by decide) (by omega) (by omega) dX3_goesBy_105 ?_
              refine z_ext (S' := (z_zc ad ks s_edgeCount s_moveCount s_isNeeded s_timesDone s_size s_isGoing s_allTime s_stepCount s_gapCount g_edges g_moves g_limits a_sfacts a_sbounds (va_up n23 (3 : Int).toNat i0) fa_zone a_most a_places a_amounts a_nextPlaces a_nextAmounts a_earliest a_visited a_lastSet a_gapFrom a_gapTo a_gapLeast a_askedPlaces a_askedAmounts)) upC_a_facts ?_
              have h27 : ∀ j, (j % 7 < 3 → 0 ≤ (va_up n23 (3 : Int).toNat i0) j ∧ (va_up n23 (3 : Int).toNat i0) j ≤ 5) ∧ (j % 7 = 3 → -1 ≤ (va_up n23 (3 : Int).toNat i0) j ∧ (va_up n23 (3 : Int).toNat i0) j ≤ 119) ∧ (j % 7 = 6 → 0 ≤ (va_up n23 (3 : Int).toNat i0) j ∧ (va_up n23 (3 : Int).toNat i0) j ≤ 40) ∧ z_rg ((va_up n23 (3 : Int).toNat i0) j) := z_upP (P := fun j v => (j % 7 < 3 → 0 ≤ v ∧ v ≤ 5) ∧ (j % 7 = 3 → -1 ≤ v ∧ v ≤ 119) ∧ (j % 7 = 6 → 0 ≤ v ∧ v ≤ 40) ∧ z_rg (v)) h26 (by omega)
              refine z_aloadn C 0 dX3_goesBy_106 rfl rfl ?_
              refine z_get C 5 (by decide) rfl rfl z_it3 3 (by decide) rfl fl_3_22 rfl dX3_goesBy_107 ?_
              refine z_iconst C dX3_goesBy_110 ?_
              refine z_aloadn C 2 dX3_goesBy_111 rfl rfl ?_
              refine z_getY C yd7 rfl z_it1 0 (by decide) rfl fl_3_118 rfl dX3_goesBy_112 ?_
              refine z_iast C 9 (by decide) rfl (by decide) (by omega) (by omega) dX3_goesBy_115 ?_
              refine z_ext (S' := (z_zc ad ks s_edgeCount s_moveCount s_isNeeded s_timesDone s_size s_isGoing s_allTime s_stepCount s_gapCount g_edges g_moves g_limits a_sfacts a_sbounds (va_up (va_up n23 (3 : Int).toNat i0) (4 : Int).toNat f0) fa_zone a_most a_places a_amounts a_nextPlaces a_nextAmounts a_earliest a_visited a_lastSet a_gapFrom a_gapTo a_gapLeast a_askedPlaces a_askedAmounts)) upC_a_facts ?_
              have h28 : ∀ j, (j % 7 < 3 → 0 ≤ (va_up (va_up n23 (3 : Int).toNat i0) (4 : Int).toNat f0) j ∧ (va_up (va_up n23 (3 : Int).toNat i0) (4 : Int).toNat f0) j ≤ 5) ∧ (j % 7 = 3 → -1 ≤ (va_up (va_up n23 (3 : Int).toNat i0) (4 : Int).toNat f0) j ∧ (va_up (va_up n23 (3 : Int).toNat i0) (4 : Int).toNat f0) j ≤ 119) ∧ (j % 7 = 6 → 0 ≤ (va_up (va_up n23 (3 : Int).toNat i0) (4 : Int).toNat f0) j ∧ (va_up (va_up n23 (3 : Int).toNat i0) (4 : Int).toNat f0) j ≤ 40) ∧ z_rg ((va_up (va_up n23 (3 : Int).toNat i0) (4 : Int).toNat f0) j) := z_upP (P := fun j v => (j % 7 < 3 → 0 ≤ v ∧ v ≤ 5) ∧ (j % 7 = 3 → -1 ≤ v ∧ v ≤ 119) ∧ (j % 7 = 6 → 0 ≤ v ∧ v ≤ 40) ∧ z_rg (v)) h27 (by omega)
              refine z_aloadn C 0 dX3_goesBy_116 rfl rfl ?_
              refine z_get C 5 (by decide) rfl rfl z_it3 3 (by decide) rfl fl_3_22 rfl dX3_goesBy_117 ?_
              refine z_iconst C dX3_goesBy_120 ?_
              refine z_aloadn C 2 dX3_goesBy_121 rfl rfl ?_
              refine z_getY C yd7 rfl z_it1 1 (by decide) rfl fl_3_121 rfl dX3_goesBy_122 ?_
              refine z_iast C 9 (by decide) rfl (by decide) (by omega) (by omega) dX3_goesBy_125 ?_
              refine z_ext (S' := (z_zc ad ks s_edgeCount s_moveCount s_isNeeded s_timesDone s_size s_isGoing s_allTime s_stepCount s_gapCount g_edges g_moves g_limits a_sfacts a_sbounds (va_up (va_up (va_up n23 (3 : Int).toNat i0) (4 : Int).toNat f0) (5 : Int).toNat s0) fa_zone a_most a_places a_amounts a_nextPlaces a_nextAmounts a_earliest a_visited a_lastSet a_gapFrom a_gapTo a_gapLeast a_askedPlaces a_askedAmounts)) upC_a_facts ?_
              have h29 : ∀ j, (j % 7 < 3 → 0 ≤ (va_up (va_up (va_up n23 (3 : Int).toNat i0) (4 : Int).toNat f0) (5 : Int).toNat s0) j ∧ (va_up (va_up (va_up n23 (3 : Int).toNat i0) (4 : Int).toNat f0) (5 : Int).toNat s0) j ≤ 5) ∧ (j % 7 = 3 → -1 ≤ (va_up (va_up (va_up n23 (3 : Int).toNat i0) (4 : Int).toNat f0) (5 : Int).toNat s0) j ∧ (va_up (va_up (va_up n23 (3 : Int).toNat i0) (4 : Int).toNat f0) (5 : Int).toNat s0) j ≤ 119) ∧ (j % 7 = 6 → 0 ≤ (va_up (va_up (va_up n23 (3 : Int).toNat i0) (4 : Int).toNat f0) (5 : Int).toNat s0) j ∧ (va_up (va_up (va_up n23 (3 : Int).toNat i0) (4 : Int).toNat f0) (5 : Int).toNat s0) j ≤ 40) ∧ z_rg ((va_up (va_up (va_up n23 (3 : Int).toNat i0) (4 : Int).toNat f0) (5 : Int).toNat s0) j) := z_upP (P := fun j v => (j % 7 < 3 → 0 ≤ v ∧ v ≤ 5) ∧ (j % 7 = 3 → -1 ≤ v ∧ v ≤ 119) ∧ (j % 7 = 6 → 0 ≤ v ∧ v ≤ 40) ∧ z_rg (v)) h28 (by omega)
              refine z_aloadn C 0 dX3_goesBy_126 rfl rfl ?_
              refine z_get C 5 (by decide) rfl rfl z_it3 3 (by decide) rfl fl_3_22 rfl dX3_goesBy_127 ?_
              refine z_bipush C dX3_goesBy_130 (by decide) ?_
              refine z_dup2 C dX3_goesBy_132 rfl rfl ?_
              refine z_iald C 9 (by decide) rfl (by decide) (by omega) (by omega) dX3_goesBy_133 ?_
              have rx30 := h29 (6 : Int).toNat
              generalize ex30 : (va_up (va_up (va_up n23 (3 : Int).toNat i0) (4 : Int).toNat f0) (5 : Int).toNat s0) (6 : Int).toNat = x30 at rx30 ⊢
              have e133 : x30 = a_sfacts (7 * i0.toNat + 6) := by rw [← ex30]; simp only [va_up]; rw [hcr]; exact zo_f6 hcf HN (by omega)
              refine z_iconst C dX3_goesBy_134 ?_
              refine z_iadd C dX3_goesBy_135 ?_
              refine z_iast C 9 (by decide) rfl (by decide) (by omega) (by omega) dX3_goesBy_136 ?_
              refine z_ext (S' := (z_zc ad ks s_edgeCount s_moveCount s_isNeeded s_timesDone s_size s_isGoing s_allTime s_stepCount s_gapCount g_edges g_moves g_limits a_sfacts a_sbounds (va_up (va_up (va_up (va_up n23 (3 : Int).toNat i0) (4 : Int).toNat f0) (5 : Int).toNat s0) (6 : Int).toNat (x30 + 1)) fa_zone a_most a_places a_amounts a_nextPlaces a_nextAmounts a_earliest a_visited a_lastSet a_gapFrom a_gapTo a_gapLeast a_askedPlaces a_askedAmounts)) upC_a_facts ?_
              have h31 : ∀ j, (j % 7 < 3 → 0 ≤ (va_up (va_up (va_up (va_up n23 (3 : Int).toNat i0) (4 : Int).toNat f0) (5 : Int).toNat s0) (6 : Int).toNat (x30 + 1)) j ∧ (va_up (va_up (va_up (va_up n23 (3 : Int).toNat i0) (4 : Int).toNat f0) (5 : Int).toNat s0) (6 : Int).toNat (x30 + 1)) j ≤ 5) ∧ (j % 7 = 3 → -1 ≤ (va_up (va_up (va_up (va_up n23 (3 : Int).toNat i0) (4 : Int).toNat f0) (5 : Int).toNat s0) (6 : Int).toNat (x30 + 1)) j ∧ (va_up (va_up (va_up (va_up n23 (3 : Int).toNat i0) (4 : Int).toNat f0) (5 : Int).toNat s0) (6 : Int).toNat (x30 + 1)) j ≤ 119) ∧ (j % 7 = 6 → 0 ≤ (va_up (va_up (va_up (va_up n23 (3 : Int).toNat i0) (4 : Int).toNat f0) (5 : Int).toNat s0) (6 : Int).toNat (x30 + 1)) j ∧ (va_up (va_up (va_up (va_up n23 (3 : Int).toNat i0) (4 : Int).toNat f0) (5 : Int).toNat s0) (6 : Int).toNat (x30 + 1)) j ≤ 40) ∧ z_rg ((va_up (va_up (va_up (va_up n23 (3 : Int).toNat i0) (4 : Int).toNat f0) (5 : Int).toNat s0) (6 : Int).toNat (x30 + 1)) j) := z_upP (P := fun j v => (j % 7 < 3 → 0 ≤ v ∧ v ≤ 5) ∧ (j % 7 = 3 → -1 ≤ v ∧ v ≤ 119) ∧ (j % 7 = 6 → 0 ≤ v ∧ v ≤ 40) ∧ z_rg (v)) h29 (by omega)
              refine z_iconst C dX3_goesBy_137 ?_
              rw [hQ]
              exact z_zret C hrt (by omega) dX3_goesBy_138 (⟨(va_up (va_up (va_up (va_up n23 (3 : Int).toNat i0) (4 : Int).toNat f0) (5 : Int).toNat s0) (6 : Int).toNat (x30 + 1)), fa_zone, rfl, rfl, h31, Hfa_zone, _, rfl, Or.inl ⟨rfl, by omega, z_isz1 hst9 (by omega), ⟨gz, hg2, by rw [← zo_sp_4 (show i3 = 4 by omega)]; exact FS⟩, fun m hm => by simp only [va_up]; rw [if_neg (by simp; omega), if_neg (by simp; omega), if_neg (by simp; omega), if_neg (by simp; omega), hcr]; exact z_goA_pt hA m hm, ⟨rfl, rfl, rfl, by simp only [va_up]; omega⟩, (zo_set_Z hZ3).mono (Int.le_refl _) (Int.le_refl _) (by omega) |>.congr (fun k hk => by rw [FS k hk, zo_sp_4 (show i3 = 4 by omega)])⟩⟩) (by omega) (by omega)
            · skip
              refine z_aloadn C 2 dX3_goesBy_69 rfl rfl ?_
              refine z_iloadn C 3 dX3_goesBy_70 rfl rfl ?_
              refine z_callV C (cx_X1_sets l i3 q hq (by omega)) mv_3_106 (z_atY 1 yd7 rfl rfl) pd_X1_sets ⟨by omega, by omega⟩ ⟨by omega, by omega⟩ rfl (Nat.le_of_ble_eq_true rfl) dX3_goesBy_71 ?_
              rintro _ _ _ ⟨rfl, rfl, z34, rfl, hz34⟩
              have hse := hz34
              refine z_if_eq (t := 85) C dX3_goesBy_74 (by decide) (by omega) (fun c35 => ?_) (fun c35 => ?_)
              · skip
                refine z_iinc (L' := [(3, z_v (i3 + 1)), (0, .ref (ad 5)), (1, z_v i0), (2, .ref q)]) C 3 dX3_goesBy_85 rfl (by decide) rfl ?_
                refine z_goto (t := 64) C dX3_goesBy_88 (by decide) ?_
                refine z_loc (L' := [(0, .ref (ad 5)), (1, z_v i0), (2, .ref q), (3, z_v (i3 + 1))]) [1, 2, 3, 0] rfl ?_
                exact ih64 (i3 + 1) fa_zone Hfa_zone (by first | exact zo_sp_y FS (by omega) (z_isz1 hse (by omega)) q82_0 | exact zo_sp_n FS (by omega) (z_isz0 hse (by omega))) (by omega) (by omega)
              · skip
                refine z_aloadn C 0 dX3_goesBy_77 rfl rfl ?_
                refine z_get C 5 (by decide) rfl rfl z_it3 4 (by decide) rfl fl_3_29 rfl dX3_goesBy_78 ?_
                refine z_iloadn C 3 dX3_goesBy_81 rfl rfl ?_
                refine z_callV C (cx_X9_setToZero l i3 Hfa_zone (by omega) ((FS 0 (by omega)).trans (zo_sp_00 (hZ3.1.1 0 (by omega))))) mv_3_110 (z_atS 10 9 (by decide) rfl rfl rfl) pd_X9_setToZero ⟨by omega, by omega⟩ ⟨by omega, by omega⟩ rfl (Nat.le_of_ble_eq_true rfl) dX3_goesBy_82 ?_
                rintro _ _ _ ⟨n36, rfl, rfl, h39, q82_0, rfl⟩
                refine z_iinc (L' := [(3, z_v (i3 + 1)), (0, .ref (ad 5)), (1, z_v i0), (2, .ref q)]) C 3 dX3_goesBy_85 rfl (by decide) rfl ?_
                refine z_goto (t := 64) C dX3_goesBy_88 (by decide) ?_
                refine z_loc (L' := [(0, .ref (ad 5)), (1, z_v i0), (2, .ref q), (3, z_v (i3 + 1))]) [1, 2, 3, 0] rfl ?_
                exact ih64 (i3 + 1) n36 h39 (by first | exact zo_sp_y FS (by omega) (z_isz1 hse (by omega)) q82_0 | exact zo_sp_n FS (by omega) (z_isz0 hse (by omega))) (by omega) (by omega)
        refine z_loc (L' := [(0, .ref (ad 5)), (1, z_v i0), (2, .ref q), (3, z_v 1)]) [1, 2, 3, 0] rfl ?_
        exact (L64 (((4 : Int) - 1).toNat + 1)) 1 n16 h19 (fun k hk => by rw [hgz]; rfl) (by omega) (Nat.lt_succ_self _)
      · skip
        refine z_iconst C dX3_goesBy_60 ?_
        rw [hQ]
        exact z_zret C hrt (by omega) dX3_goesBy_61 (⟨n1, n16, rfl, rfl, h4, h19, _, rfl, Or.inr ⟨rfl, Or.inr (Or.inr (hgn.elim (fun q => absurd q.1 (by omega)) (fun q => q.2)))⟩⟩) (by omega) (by omega)
    · skip
      refine z_iconst C dX3_goesBy_35 ?_
      rw [hQ]
      exact z_zret C hrt (by omega) dX3_goesBy_36 (⟨n1, a_zone, rfl, rfl, h4, Ha_zone, _, rfl, by first | exact Or.inr ⟨rfl, Or.inr (Or.inl (z_isz0 hst9 (by omega)))⟩ | exact Or.inr ⟨rfl, Or.inl (by omega)⟩⟩) (by omega) (by omega)
