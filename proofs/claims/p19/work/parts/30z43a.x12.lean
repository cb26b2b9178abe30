theorem zo_rb {r U V L : Int} {K : (Nat → Int) → Prop} {c : Nat → Int} (h : r = 1 ∧ zo_GC K c ∧ zo_Z U V L c ∨ r = 0 ∧ zo_none K) : r = 0 ∨ r = 1 := h.elim (fun q => Or.inr q.1) (fun q => Or.inl q.1)
section ZGN
variable {gn gt z c1 : Nat → Int} {e f : Int}
theorem zo_gN1 (h : zo_none (fun w => zo_le w z ∧ zo_sat (gn e.toNat) gt (6 * e) w)) : ∀ c, ¬ zo_g2 gn gt e f z c := fun c ⟨d, g, _⟩ => h d g.1 g.2.1
theorem zo_gN2 (g : zo_gd gn gt e z c1) (hf : f ≠ -1) (h : zo_none (fun w => zo_le w c1 ∧ zo_sat (gn f.toNat) gt (6 * f) w)) : ∀ c, ¬ zo_g2 gn gt e f z c := by
  rintro c ⟨d, g1, r⟩
  rcases r with ⟨r, _⟩ | ⟨_, r⟩
  · exact hf r
  · have e1 := g1.fn g (fun _ _ => rfl)
    exact h c r.1 ⟨(zo_le_pt e1 c).mp r.2.1.1, r.2.1.2⟩
end ZGN
theorem z_N.ltr {ks : z_Ks} {Y : Nat → Option va_E} {ge gl : Nat → Option Nat} {n : Int} {em ef et ec er gn gt ln lt : Nat → Int} {qe ql qt : Nat → Nat} (h : z_N ks Y ge gl n em ef et ec er gn gt ln lt qe ql qt) : ∀ k : Int, 0 ≤ k → k < 18 → zo_tr (ln k.toNat) lt (6 * k) := fun k h0 h1 => (h.2.1 k h0 h1).2.tr
theorem z_N.gtr {ks : z_Ks} {Y : Nat → Option va_E} {ge gl : Nat → Option Nat} {n : Int} {em ef et ec er gn gt ln lt : Nat → Int} {qe ql qt : Nat → Nat} (h : z_N ks Y ge gl n em ef et ec er gn gt ln lt qe ql qt) : ∀ e : Int, 0 ≤ e → e < n → zo_tr (gn e.toNat) gt (6 * e) := fun e h0 h1 => (h.1 e h0 h1).2.2.2.tr
theorem zo_dcL {ln lt pl : Nat → Int} (h : ∀ k : Int, 0 ≤ k → k < 18 → zo_tr (ln k.toNat) lt (6 * k)) (hp : ∀ m : Int, 0 ≤ m → m < 3 → 0 ≤ pl m.toNat ∧ pl m.toNat ≤ 5) : ∀ m : Int, 0 ≤ m → m < 3 → zo_dc (zo_sat (ln (6 * m + pl m.toNat).toNat) lt (6 * (6 * m + pl m.toNat))) := fun m h0 h1 => zo_sat.dc (h _ (by have := hp m h0 h1; omega) (by have := hp m h0 h1; omega))
theorem zo_GCc {K P : (Nat → Int) → Prop} {f c : Nat → Int} (hK : zo_dc K) (g : zo_GC K f) (h : zo_GC (fun w => zo_le w f ∧ P w) c) : zo_GC (fun w => K w ∧ P w) c := h.iff (fun w hw => ⟨fun k => ⟨hK f w k.1 g.2.1, k.2⟩, fun k => ⟨g.2.2 w hw k.1, k.2⟩⟩)
theorem zo_lN1 {z f c ln lt pl : Nat → Int} {i : Int} (g : zo_GC (fun w => zo_le w z ∧ ∀ m : Int, 0 ≤ m → m < i → zo_sat (ln (6 * m + pl m.toNat).toNat) lt (6 * (6 * m + pl m.toNat)) w) f) (h : zo_GC (fun w => zo_le w f ∧ zo_sat (ln (6 * i + pl i.toNat).toNat) lt (6 * (6 * i + pl i.toNat)) w) c) (hd : ∀ m : Int, 0 ≤ m → m < 3 → zo_dc (zo_sat (ln (6 * m + pl m.toNat).toNat) lt (6 * (6 * m + pl m.toNat)))) (hi : 0 ≤ i ∧ i < 3) : zo_GC (fun w => zo_le w z ∧ ∀ m : Int, 0 ≤ m → m < i + 1 → zo_sat (ln (6 * m + pl m.toNat).toNat) lt (6 * (6 * m + pl m.toNat)) w) c := by
  have dK : zo_dc (fun w => zo_le w z ∧ ∀ m : Int, 0 ≤ m → m < i → zo_sat (ln (6 * m + pl m.toNat).toNat) lt (6 * (6 * m + pl m.toNat)) w) := fun w w' q k => ⟨q.tr k.1, fun m h0 h1 => hd m h0 (by omega) w w' q (k.2 m h0 h1)⟩
  exact (zo_GCc dK g h).iff (fun w _ => ⟨fun k => ⟨k.1.1, z_snoc k.1.2 k.2⟩, fun k => ⟨⟨k.1, fun m h0 h1 => k.2 m h0 (by omega)⟩, k.2 i hi.1 (by omega)⟩⟩)
theorem zo_lN0 {z f ln lt pl : Nat → Int} {i : Int} (g : zo_GC (fun w => zo_le w z ∧ ∀ m : Int, 0 ≤ m → m < i → zo_sat (ln (6 * m + pl m.toNat).toNat) lt (6 * (6 * m + pl m.toNat)) w) f) (h : zo_none (fun w => zo_le w f ∧ zo_sat (ln (6 * i + pl i.toNat).toNat) lt (6 * (6 * i + pl i.toNat)) w)) (h0 : 0 ≤ i) (h1 : i < 3) : zo_none (fun w => zo_le w z ∧ zo_sl ln lt pl w) := fun w hw k => h w hw ⟨g.2.2 w hw ⟨k.1, fun m m0 m1 => k.2 m m0 (by omega)⟩, k.2 i h0 h1⟩
set_option maxRecDepth 20000 in
theorem cx_X1_guardsNarrow (l : Launch) {D : va_G} {A : Nat → Prop} {ad : Nat → Nat} {ks : z_Ks} {s_edgeCount s_moveCount s_isNeeded s_timesDone s_size s_isGoing s_allTime s_stepCount s_gapCount : Int} {g_edges g_moves g_limits : Nat → Option Nat} {a_sfacts a_sbounds a_facts a_zone a_most a_places a_amounts a_nextPlaces a_nextAmounts a_earliest a_visited a_lastSet a_gapFrom a_gapTo a_gapLeast a_askedPlaces a_askedAmounts : Nat → Int} {Y : Nat → Option va_E} {em ef et ec er gn gt ln lt : Nat → Int} {qe ql qt : Nat → Nat} {f0 s0 : Int} {U V L : Int} (q : Nat) (Ha_zone : (∀ j, z_rg (a_zone j))) (Hs_edgeCount : 0 ≤ s_edgeCount ∧ s_edgeCount ≤ 20) (hq : z_MX Y q f0 s0 s_edgeCount qe er) (HN : z_N ks Y g_edges g_limits s_edgeCount em ef et ec er gn gt ln lt qe ql qt) (hZ : zo_Z U V L a_zone) (hUV : U + 2002 ≤ V ∧ V ≤ 24000) (hL : 0 ≤ L ∧ L ≤ 75000) : z_Met l yX1_guardsNarrow cX1_guardsNarrow 2 (some .boolean) 3 71 0 0 D A 27 ad ks [.ref q, .ref (ad 10)] (z_zc ad ks s_edgeCount s_moveCount s_isNeeded s_timesDone s_size s_isGoing s_allTime s_stepCount s_gapCount g_edges g_moves g_limits a_sfacts a_sbounds a_facts a_zone a_most a_places a_amounts a_nextPlaces a_nextAmounts a_earliest a_visited a_lastSet a_gapFrom a_gapTo a_gapLeast a_askedPlaces a_askedAmounts) Y (fun r S' Y' => ∃ na_zone : Nat → Int, S' = (z_zc ad ks s_edgeCount s_moveCount s_isNeeded s_timesDone s_size s_isGoing s_allTime s_stepCount s_gapCount g_edges g_moves g_limits a_sfacts a_sbounds a_facts na_zone a_most a_places a_amounts a_nextPlaces a_nextAmounts a_earliest a_visited a_lastSet a_gapFrom a_gapTo a_gapLeast a_askedPlaces a_askedAmounts) ∧ Y = Y' ∧ (∀ j, z_rg (na_zone j)) ∧ ∃ z : Int, r = some (z_v z) ∧ (z = 1 ∧ zo_g2 gn gt f0 s0 a_zone na_zone ∧ zo_Z U V (L + 8012) na_zone ∨ z = 0 ∧ ∀ c, ¬ zo_g2 gn gt f0 s0 a_zone c)) := by
  refine z_start2 (by decide) (Nat.le_of_ble_eq_true rfl) ?_
  intro p e R s m args below meth c Q C hRf hRc hRs hRl hQ hrt hnm
  refine z_loc (L' := [(0, .ref q), (1, .ref (ad 10))]) [0, 1] rfl ?_
  obtain ⟨rq, yq, aq, bq, cq⟩ := id hq
  obtain ⟨_, ye, re, te⟩ := HN.1 f0 (by omega) (by omega)
  by_cases hs : s0 = -1
  · rw [if_pos hs] at yq
    refine z_aloadn C 0 dX1_guardsNarrow_0 rfl rfl ?_
    refine z_getY C yq rfl z_it1 2 (by decide) rfl fl_1_16 rfl dX1_guardsNarrow_1 ?_
    refine z_getY C ye rfl z_it0 5 (by decide) rfl fl_1_38 rfl dX1_guardsNarrow_4 ?_
    refine z_aloadn C 1 dX1_guardsNarrow_7 rfl rfl ?_
    obtain ⟨yd1, ad1, gd1, wd1, bd1⟩ := id te
    refine z_callV C (cx_X6_narrow l (ql f0.toNat) Ha_zone te hZ (by omega) (by omega)) mv_1_48 (z_atY 6 yd1 rfl rfl) pd_X6_narrow ⟨by omega, by omega⟩ ⟨by omega, by omega⟩ rfl (Nat.le_of_ble_eq_true rfl) dX1_guardsNarrow_8 ?_
    rintro _ _ _ ⟨n2, rfl, rfl, h5, z6, rfl, hz6⟩
    have hg8 := hz6
    have hb8 := zo_rb hg8
    refine z_if_eq (t := 39) C dX1_guardsNarrow_11 (by decide) (by omega) (fun c7 => ?_) (fun c7 => ?_)
    · skip
      refine z_iconst C dX1_guardsNarrow_39 ?_
      rw [hQ]
      exact z_zret C hrt (by omega) dX1_guardsNarrow_40 (⟨n2, rfl, rfl, h5, _, rfl, by first | (obtain ⟨_, hgB, hZB⟩ := zo_kl hg29 (by omega); exact Or.inl ⟨rfl, ⟨_, hgA, Or.inr ⟨hs, hgB⟩⟩, hZB.mono (Int.le_refl _) (Int.le_refl _) (by omega)⟩) | exact Or.inr ⟨rfl, zo_gN2 hgA hs (hg29.elim (fun q => absurd q.1 (by omega)) (fun q => q.2))⟩ | (obtain ⟨_, hgB, hZB⟩ := zo_kl hg8 (by omega); exact Or.inl ⟨rfl, ⟨_, hgB, Or.inl ⟨hs, fun _ _ => rfl⟩⟩, hZB.mono (Int.le_refl _) (Int.le_refl _) (by omega)⟩) | exact Or.inr ⟨rfl, zo_gN1 (hg8.elim (fun q => absurd q.1 (by omega)) (fun q => q.2))⟩⟩) (by omega) (by omega)
    · skip
      refine z_aloadn C 0 dX1_guardsNarrow_14 rfl rfl ?_
      refine z_getY C yq rfl z_it1 3 (by decide) rfl fl_1_20 rfl dX1_guardsNarrow_15 ?_
      refine z_ifnullN (t := 35) C dX1_guardsNarrow_18 (by decide) ?_
      refine z_iconst C dX1_guardsNarrow_35 ?_
      refine z_goto (t := 40) C dX1_guardsNarrow_36 (by decide) ?_
      rw [hQ]
      exact z_zret C hrt (by omega) dX1_guardsNarrow_40 (⟨n2, rfl, rfl, h5, _, rfl, by first | (obtain ⟨_, hgB, hZB⟩ := zo_kl hg29 (by omega); exact Or.inl ⟨rfl, ⟨_, hgA, Or.inr ⟨hs, hgB⟩⟩, hZB.mono (Int.le_refl _) (Int.le_refl _) (by omega)⟩) | exact Or.inr ⟨rfl, zo_gN2 hgA hs (hg29.elim (fun q => absurd q.1 (by omega)) (fun q => q.2))⟩ | (obtain ⟨_, hgB, hZB⟩ := zo_kl hg8 (by omega); exact Or.inl ⟨rfl, ⟨_, hgB, Or.inl ⟨hs, fun _ _ => rfl⟩⟩, hZB.mono (Int.le_refl _) (Int.le_refl _) (by omega)⟩) | exact Or.inr ⟨rfl, zo_gN1 (hg8.elim (fun q => absurd q.1 (by omega)) (fun q => q.2))⟩⟩) (by omega) (by omega)
  · rw [if_neg hs] at yq
    obtain ⟨_, yf, rf, tf⟩ := HN.1 s0 (by omega) (by omega)
    refine z_aloadn C 0 dX1_guardsNarrow_0 rfl rfl ?_
    refine z_getY C yq rfl z_it1 2 (by decide) rfl fl_1_16 rfl dX1_guardsNarrow_1 ?_
    refine z_getY C ye rfl z_it0 5 (by decide) rfl fl_1_38 rfl dX1_guardsNarrow_4 ?_
    refine z_aloadn C 1 dX1_guardsNarrow_7 rfl rfl ?_
    obtain ⟨yd8, ad8, gd8, wd8, bd8⟩ := id te
    refine z_callV C (cx_X6_narrow l (ql f0.toNat) Ha_zone te hZ (by omega) (by omega)) mv_1_48 (z_atY 6 yd8 rfl rfl) pd_X6_narrow ⟨by omega, by omega⟩ ⟨by omega, by omega⟩ rfl (Nat.le_of_ble_eq_true rfl) dX1_guardsNarrow_8 ?_
    rintro _ _ _ ⟨n9, rfl, rfl, h12, z13, rfl, hz13⟩
    have hg8 := hz13
    have hb8 := zo_rb hg8
    refine z_if_eq (t := 39) C dX1_guardsNarrow_11 (by decide) (by omega) (fun c14 => ?_) (fun c14 => ?_)
    · skip
      refine z_iconst C dX1_guardsNarrow_39 ?_
      rw [hQ]
      exact z_zret C hrt (by omega) dX1_guardsNarrow_40 (⟨n9, rfl, rfl, h12, _, rfl, by first | (obtain ⟨_, hgB, hZB⟩ := zo_kl hg29 (by omega); exact Or.inl ⟨rfl, ⟨_, hgA, Or.inr ⟨hs, hgB⟩⟩, hZB.mono (Int.le_refl _) (Int.le_refl _) (by omega)⟩) | exact Or.inr ⟨rfl, zo_gN2 hgA hs (hg29.elim (fun q => absurd q.1 (by omega)) (fun q => q.2))⟩ | (obtain ⟨_, hgB, hZB⟩ := zo_kl hg8 (by omega); exact Or.inl ⟨rfl, ⟨_, hgB, Or.inl ⟨hs, fun _ _ => rfl⟩⟩, hZB.mono (Int.le_refl _) (Int.le_refl _) (by omega)⟩) | exact Or.inr ⟨rfl, zo_gN1 (hg8.elim (fun q => absurd q.1 (by omega)) (fun q => q.2))⟩⟩) (by omega) (by omega)
    · skip
      refine z_aloadn C 0 dX1_guardsNarrow_14 rfl rfl ?_
      refine z_getY C yq rfl z_it1 3 (by decide) rfl fl_1_20 rfl dX1_guardsNarrow_15 ?_
      refine z_ifnull C dX1_guardsNarrow_18 ?_
      refine z_aloadn C 0 dX1_guardsNarrow_21 rfl rfl ?_
      refine z_getY C yq rfl z_it1 3 (by decide) rfl fl_1_20 rfl dX1_guardsNarrow_22 ?_
      refine z_getY C yf rfl z_it0 5 (by decide) rfl fl_1_38 rfl dX1_guardsNarrow_25 ?_
      refine z_aloadn C 1 dX1_guardsNarrow_28 rfl rfl ?_
      obtain ⟨_, hgA, hZA⟩ := zo_kl hg8 (by omega)
      obtain ⟨yd15, ad15, gd15, wd15, bd15⟩ := id tf
      refine z_callV C (cx_X6_narrow l (ql s0.toNat) h12 tf hZA (by omega) (by omega)) mv_1_48 (z_atY 6 yd15 rfl rfl) pd_X6_narrow ⟨by omega, by omega⟩ ⟨by omega, by omega⟩ rfl (Nat.le_of_ble_eq_true rfl) dX1_guardsNarrow_29 ?_
      rintro _ _ _ ⟨n16, rfl, rfl, h19, z20, rfl, hz20⟩
      have hg29 := hz20
      have hb29 := zo_rb hg29
      refine z_if_eq (t := 39) C dX1_guardsNarrow_32 (by decide) (by omega) (fun c21 => ?_) (fun c21 => ?_)
      · skip
        refine z_iconst C dX1_guardsNarrow_39 ?_
        rw [hQ]
        exact z_zret C hrt (by omega) dX1_guardsNarrow_40 (⟨n16, rfl, rfl, h19, _, rfl, by first | (obtain ⟨_, hgB, hZB⟩ := zo_kl hg29 (by omega); exact Or.inl ⟨rfl, ⟨_, hgA, Or.inr ⟨hs, hgB⟩⟩, hZB.mono (Int.le_refl _) (Int.le_refl _) (by omega)⟩) | exact Or.inr ⟨rfl, zo_gN2 hgA hs (hg29.elim (fun q => absurd q.1 (by omega)) (fun q => q.2))⟩ | (obtain ⟨_, hgB, hZB⟩ := zo_kl hg8 (by omega); exact Or.inl ⟨rfl, ⟨_, hgB, Or.inl ⟨hs, fun _ _ => rfl⟩⟩, hZB.mono (Int.le_refl _) (Int.le_refl _) (by omega)⟩) | exact Or.inr ⟨rfl, zo_gN1 (hg8.elim (fun q => absurd q.1 (by omega)) (fun q => q.2))⟩⟩) (by omega) (by omega)
      · skip
        refine z_iconst C dX1_guardsNarrow_35 ?_
        refine z_goto (t := 40) C dX1_guardsNarrow_36 (by decide) ?_
        rw [hQ]
        exact z_zret C hrt (by omega) dX1_guardsNarrow_40 (⟨n16, rfl, rfl, h19, _, rfl, by first | (obtain ⟨_, hgB, hZB⟩ := zo_kl hg29 (by omega); exact Or.inl ⟨rfl, ⟨_, hgA, Or.inr ⟨hs, hgB⟩⟩, hZB.mono (Int.le_refl _) (Int.le_refl _) (by omega)⟩) | exact Or.inr ⟨rfl, zo_gN2 hgA hs (hg29.elim (fun q => absurd q.1 (by omega)) (fun q => q.2))⟩ | (obtain ⟨_, hgB, hZB⟩ := zo_kl hg8 (by omega); exact Or.inl ⟨rfl, ⟨_, hgB, Or.inl ⟨hs, fun _ _ => rfl⟩⟩, hZB.mono (Int.le_refl _) (Int.le_refl _) (by omega)⟩) | exact Or.inr ⟨rfl, zo_gN1 (hg8.elim (fun q => absurd q.1 (by omega)) (fun q => q.2))⟩⟩) (by omega) (by omega)
set_option maxRecDepth 20000 in
theorem cx_X2_limitsNarrow (l : Launch) {D : va_G} {A : Nat → Prop} {ad : Nat → Nat} {ks : z_Ks} {s_edgeCount s_moveCount s_isNeeded s_timesDone s_size s_isGoing s_allTime s_stepCount s_gapCount : Int} {g_edges g_moves g_limits : Nat → Option Nat} {a_sfacts a_sbounds a_facts a_zone a_most a_places a_amounts a_nextPlaces a_nextAmounts a_earliest a_visited a_lastSet a_gapFrom a_gapTo a_gapLeast a_askedPlaces a_askedAmounts : Nat → Int} {Y : Nat → Option va_E} {em ef et ec er gn gt ln lt : Nat → Int} {qe ql qt : Nat → Nat} {U V L : Int} (Ha_facts : (∀ j, (j % 7 < 3 → 0 ≤ a_facts j ∧ a_facts j ≤ 5) ∧ (j % 7 = 3 → -1 ≤ a_facts j ∧ a_facts j ≤ 119) ∧ (j % 7 = 6 → 0 ≤ a_facts j ∧ a_facts j ≤ 40) ∧ z_rg (a_facts j))) (Ha_zone : (∀ j, z_rg (a_zone j))) (HN : z_N ks Y g_edges g_limits s_edgeCount em ef et ec er gn gt ln lt qe ql qt) (hZ : zo_Z U V L a_zone) (hUV : U + 2002 ≤ V ∧ V ≤ 24000) (hL : 0 ≤ L ∧ L ≤ 67000) : z_Met l yX2_limitsNarrow cX2_limitsNarrow 4 (some .boolean) 3 71 0 0 D A 27 ad ks [.ref (ad 1), .ref (ad 9), .ref (ad 10)] (z_zc ad ks s_edgeCount s_moveCount s_isNeeded s_timesDone s_size s_isGoing s_allTime s_stepCount s_gapCount g_edges g_moves g_limits a_sfacts a_sbounds a_facts a_zone a_most a_places a_amounts a_nextPlaces a_nextAmounts a_earliest a_visited a_lastSet a_gapFrom a_gapTo a_gapLeast a_askedPlaces a_askedAmounts) Y (fun r S' Y' => ∃ na_zone : Nat → Int, S' = (z_zc ad ks s_edgeCount s_moveCount s_isNeeded s_timesDone s_size s_isGoing s_allTime s_stepCount s_gapCount g_edges g_moves g_limits a_sfacts a_sbounds a_facts na_zone a_most a_places a_amounts a_nextPlaces a_nextAmounts a_earliest a_visited a_lastSet a_gapFrom a_gapTo a_gapLeast a_askedPlaces a_askedAmounts) ∧ Y = Y' ∧ (∀ j, z_rg (na_zone j)) ∧ ∃ z : Int, r = some (z_v z) ∧ (z = 1 ∧ zo_GC (fun w => zo_le w a_zone ∧ zo_sl ln lt a_facts w) na_zone ∧ zo_Z U V (L + 12018) na_zone ∨ z = 0 ∧ zo_none (fun w => zo_le w a_zone ∧ zo_sl ln lt a_facts w))) := by
  refine z_start2 (by decide) (Nat.le_of_ble_eq_true rfl) ?_
  intro p e R s m args below meth c Q C hRf hRc hRs hRl hQ hrt hnm
  refine z_loc (L' := [(0, .ref (ad 1)), (1, .ref (ad 9)), (2, .ref (ad 10))]) [0, 1, 2] rfl ?_
  have hpl : ∀ m : Int, 0 ≤ m → m < 3 → 0 ≤ a_facts m.toNat ∧ a_facts m.toNat ≤ 5 := fun m h0 h1 => (Ha_facts m.toNat).1 (by omega)
  refine z_iconst C dX2_limitsNarrow_0 ?_
  refine z_istoren (L' := [(3, z_v 0), (0, .ref (ad 1)), (1, .ref (ad 9)), (2, .ref (ad 10))]) C dX2_limitsNarrow_1 rfl (by decide) rfl ?_
  have L2 : ∀ (n : Nat), ∀ (i3 : Int) (fa_zone : Nat → Int), ((∀ j, z_rg (fa_zone j))) → (zo_GC (fun w => zo_le w a_zone ∧ ∀ m : Int, 0 ≤ m → m < i3 → zo_sat (ln (6 * m + a_facts m.toNat).toNat) lt (6 * (6 * m + a_facts m.toNat)) w) fa_zone) → (zo_Z U V (L + 4006 * i3) fa_zone) → (0 ≤ i3 ∧ i3 ≤ 3) → ((3 : Int) - i3).toNat < n → z_V p l e R s m args below meth c Q D A 27 ad 4 (z_zc ad ks s_edgeCount s_moveCount s_isNeeded s_timesDone s_size s_isGoing s_allTime s_stepCount s_gapCount g_edges g_moves g_limits a_sfacts a_sbounds a_facts fa_zone a_most a_places a_amounts a_nextPlaces a_nextAmounts a_earliest a_visited a_lastSet a_gapFrom a_gapTo a_gapLeast a_askedPlaces a_askedAmounts) Y 0 0 2 [(0, .ref (ad 1)), (1, .ref (ad 9)), (2, .ref (ad 10)), (3, z_v i3)] [] := by
    intro n
    induction n with
    | zero => intro i3 fa_zone Hfa_zone GI ZI I3 hm; exact absurd hm (Nat.not_lt_zero _)
    | succ n ih2 =>
      intro i3 fa_zone Hfa_zone GI ZI I3 hm
      refine z_iloadn C 3 dX2_limitsNarrow_2 rfl rfl ?_
      refine z_iconst C dX2_limitsNarrow_3 ?_
      refine z_icmp_ge (t := 30) C dX2_limitsNarrow_4 (by decide) (by omega) (by omega) (fun c1 => ?_) (fun c1 => ?_)
      · skip
        refine z_iconst C dX2_limitsNarrow_30 ?_
        rw [hQ]
        exact z_zret C hrt (by omega) dX2_limitsNarrow_31 (⟨fa_zone, rfl, rfl, Hfa_zone, _, rfl, Or.inl ⟨rfl, GI.iff (fun w _ => ⟨fun k => ⟨k.1, fun m h0 h1 => k.2 m h0 (by omega)⟩, fun k => ⟨k.1, fun m h0 h1 => k.2 m h0 (by omega)⟩⟩), ZI.mono (Int.le_refl _) (Int.le_refl _) (by omega)⟩⟩) (by omega) (by omega)
      · skip
        refine z_aloadn C 0 dX2_limitsNarrow_7 rfl rfl ?_
        refine z_iloadn C 3 dX2_limitsNarrow_8 rfl rfl ?_
        refine z_aloadn C 1 dX2_limitsNarrow_9 rfl rfl ?_
        refine z_iloadn C 3 dX2_limitsNarrow_10 rfl rfl ?_
        refine z_iald C 9 (by decide) rfl (by decide) (by omega) (by omega) dX2_limitsNarrow_11 ?_
        have rx2 := Ha_facts (i3 : Int).toNat
        generalize ex2 : a_facts (i3 : Int).toNat = x2 at rx2 ⊢
        have e11 := ex2
        refine z_callV C (cx_X2_limitsOf l i3 x2 (by omega) (by omega) HN) mv_2_64 (z_atS 1 2 (by decide) rfl rfl rfl) pd_X2_limitsOf ⟨by omega, by omega⟩ ⟨by omega, by omega⟩ rfl (Nat.le_of_ble_eq_true rfl) dX2_limitsNarrow_12 ?_
        rintro _ _ _ ⟨rfl, rfl, rfl⟩
        have t3 := (HN.2.1 (6 * i3 + x2) (by omega) (by omega)).2
        refine z_aloadn C 2 dX2_limitsNarrow_15 rfl rfl ?_
        obtain ⟨yd4, ad4, gd4, wd4, bd4⟩ := id t3
        refine z_callV C (cx_X6_narrow l (ql (20 + (6 * i3 + x2 : Int).toNat)) Hfa_zone t3 ZI (by omega) (by omega)) mv_2_72 (z_atY 6 yd4 rfl rfl) pd_X6_narrow ⟨by omega, by omega⟩ ⟨by omega, by omega⟩ rfl (Nat.le_of_ble_eq_true rfl) dX2_limitsNarrow_16 ?_
        rintro _ _ _ ⟨n5, rfl, rfl, h8, z9, rfl, hz9⟩
        have hn16 := hz9
        have hb16 := zo_rb hn16
        refine z_if_ne (t := 24) C dX2_limitsNarrow_19 (by decide) (by omega) (fun c10 => ?_) (fun c10 => ?_)
        · skip
          have hnA := zo_kl hn16 (by omega)
          refine z_iinc (L' := [(3, z_v (i3 + 1)), (0, .ref (ad 1)), (1, .ref (ad 9)), (2, .ref (ad 10))]) C 3 dX2_limitsNarrow_24 rfl (by decide) rfl ?_
          refine z_goto (t := 2) C dX2_limitsNarrow_27 (by decide) ?_
          refine z_loc (L' := [(0, .ref (ad 1)), (1, .ref (ad 9)), (2, .ref (ad 10)), (3, z_v (i3 + 1))]) [1, 2, 3, 0] rfl ?_
          exact ih2 (i3 + 1) n5 h8 (by rw [← e11] at hnA; exact zo_lN1 GI hnA.2.1 (zo_dcL HN.ltr (fun m => hpl m)) (by omega)) (hnA.2.2.mono (Int.le_refl _) (Int.le_refl _) (by omega)) (by omega) (by omega)
        · skip
          refine z_iconst C dX2_limitsNarrow_22 ?_
          rw [hQ]
          exact z_zret C hrt (by omega) dX2_limitsNarrow_23 (⟨n5, rfl, rfl, h8, _, rfl, by rw [← e11] at hn16; exact Or.inr ⟨rfl, zo_lN0 GI (hn16.elim (fun q => absurd q.1 (by omega)) (fun q => q.2)) (by omega) (by omega)⟩⟩) (by omega) (by omega)
  refine z_loc (L' := [(0, .ref (ad 1)), (1, .ref (ad 9)), (2, .ref (ad 10)), (3, z_v 0)]) [1, 2, 3, 0] rfl ?_
  exact (L2 (((3 : Int) - 0).toNat + 1)) 0 a_zone Ha_zone ((zo_GCid hZ.1).iff (fun w _ => ⟨fun k => ⟨k, z_vac⟩, fun k => k.1⟩)) (hZ.mono (Int.le_refl _) (Int.le_refl _) (by omega)) (by omega) (Nat.lt_succ_self _)
