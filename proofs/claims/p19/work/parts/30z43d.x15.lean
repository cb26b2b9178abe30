theorem zo_later_mo {ln lt at0 mo mo' z c : Nat → Int} (e : ∀ x, 1 ≤ x → x < 4 → mo x = mo' x) (h : zo_later ln lt at0 mo z c) : zo_later ln lt at0 mo' z c := let ⟨d, g, k⟩ := h; ⟨d, g, k.iff (fun w _ => zo_le_pt (zo_wd_pt e (fun _ _ => rfl)) w)⟩
theorem zo_settle_mo {ln lt at0 mo mo' z c : Nat → Int} (e : ∀ x, 1 ≤ x → x < 4 → mo x = mo' x) (h : zo_settle ln lt at0 mo z c) : zo_settle ln lt at0 mo' z c := let ⟨d, g, k⟩ := h; ⟨d, g, zo_later_mo e k⟩
section ZSN
variable {em ef et er gn gt ln lt mo mo' pl z fa n n2 : Nat → Int} {e f r i v : Int} {Q : Prop}
theorem zo_sNx {Q2 : Prop} (h : zo_st2 em ef pl e f ∧ (∃ c, zo_g2 gn gt e f z c ∧ ∀ k, k < 16 → n k = zo_set (z_or er e f) c k) ∧ (∀ m, m < 3 → fa m = z_goA pl em et e f m) ∧ Q) (hs : r = 1 ∧ zo_settle ln lt fa mo' n n2 ∧ Q2 ∨ r = 0 ∧ ∀ c, ¬ zo_settle ln lt fa mo' n c) (em' : ∀ x, 1 ≤ x → x < 4 → mo' x = mo x) (hr : r ≠ 0) : zo_nx em ef et er gn gt ln lt mo pl z e f = some (zo_n3 fa, zo_n16 n2) := by
  obtain ⟨h1, ⟨c, h2, h3⟩, h4, _⟩ := h
  obtain ⟨_, ⟨d, g, k⟩, _⟩ := hs.elim id (fun q => absurd q.1 hr)
  exact zo_F5 h1 h2 h3 h4 g (zo_later_mo em' k)
theorem zo_sNo {Q2 : Prop} (h : zo_st2 em ef pl e f ∧ (∃ c, zo_g2 gn gt e f z c ∧ ∀ k, k < 16 → n k = zo_set (z_or er e f) c k) ∧ (∀ m, m < 3 → fa m = z_goA pl em et e f m) ∧ Q) (hs : r = 1 ∧ zo_settle ln lt fa mo' n n2 ∧ Q2 ∨ r = 0 ∧ ∀ c, ¬ zo_settle ln lt fa mo' n c) (hr : r = 0) (em' : ∀ x, 1 ≤ x → x < 4 → mo' x = mo x) : zo_nx em ef et er gn gt ln lt mo pl z e f = none := by
  obtain ⟨h1, ⟨c, h2, h3⟩, h4, _⟩ := h
  have k := hs.elim (fun q => absurd q.1 (by omega)) (fun q => q.2)
  refine zo_nx_none (fun p q2 q => ?_)
  obtain ⟨_, ⟨d, g1, ⟨d2, g2, ⟨d3, g3, g4⟩⟩⟩, hp⟩ := q
  have e1 := g1.fn h2 (fun _ _ => rfl)
  have e2 : ∀ k, k < 16 → zo_set (z_or er e f) d k = n k := fun k hk => (zo_set_pt e1 k hk).trans (h3 k hk).symm
  have e3 : ∀ m, m < 3 → p m = fa m := fun m hm => (hp m hm).trans (h4 m hm).symm
  exact k q2 ⟨d2, g2.iff (fun w _ => by rw [zo_le_pt e2 w, zo_sl_pt e3 w]), zo_later_mo (fun x h0 h1 => (em' x h0 h1).symm) ⟨d3, g3.iff (fun w _ => by rw [zo_sl_pt e3 w]), g4⟩⟩
theorem zo_ghc {N : Int} {sf fa : Nat → Int} (h : fa 3 = i ∧ fa 4 = e ∧ fa 5 = f ∧ fa 6 = sf (7 * i.toNat + 6) + 1) (h1 : i < N) (h0 : 0 ≤ i) : 0 ≤ fa 3 ∧ fa 3 < N ∧ sf (7 * (fa 3).toNat + 6) = fa 6 - 1 := by
  obtain ⟨e1, _, _, e2⟩ := h
  rw [e1, e2]
  exact ⟨h0, h1, by omega⟩
theorem zo_rNon2 {n mc k : Int} {mf ms : Nat → Int} {mvs : List (Int × Int)} {s : zo_S} {R : List zo_S × Bool} {t j : Nat} {P : Prop} {L : List zo_S} (RM : zo_mid (zo_nx em ef et er gn gt ln lt mo) n mvs t j (zo_mv mc mf ms k) L = R) (hy : k < mc ∧ mf k.toNat = e ∧ ms k.toNat = f ∧ P) (h0 : 0 ≤ k) (hs : L[j]? = some s) (h : 40 ≤ s.2.2.2.2.2 ∨ ¬ zo_st2 em ef s.1 e f ∨ ∀ c, ¬ zo_g2 gn gt e f s.2.1 c) : zo_mid (zo_nx em ef et er gn gt ln lt mo) n mvs t j (zo_mv mc mf ms (k + 1)) L = R := by
  rcases h with h | h | h
  · exact zo_rOn RM hy h0 (zo_stp_long hs h)
  · exact zo_rNone RM hy h0 hs (zo_F0 h)
  · exact zo_rNone RM hy h0 hs (zo_nx_none (fun _ _ q => by
      obtain ⟨_, ⟨c, g, _⟩, _⟩ := q
      exact h c g))
theorem zo_L0_C {c : Nat → Int} {Q2 : Prop} (q0 : ∀ m, m < 3 → fa m = 0) (q1 : fa 3 = -1 ∧ fa 4 = -1 ∧ fa 5 = -1 ∧ fa 6 = 0) (q2 : ∀ k, k < 16 → z k = 1) (hs : r = 1 ∧ zo_settle ln lt fa mo' z c ∧ Q2 ∨ r = 0 ∧ ∀ c, ¬ zo_settle ln lt fa mo' z c) (em' : ∀ x, 1 ≤ x → x < 4 → mo' x = mo x) (hr : r ≠ 0) : zo_L0 ln lt mo = [(zo_n3 fa, zo_n16 c, fa 3, fa 4, fa 5, fa 6)] := by
  obtain ⟨_, ⟨d, g, k⟩, _⟩ := hs.elim id (fun q => absurd q.1 hr)
  rw [q1.1, q1.2.1, q1.2.2.1, q1.2.2.2]
  exact zo_L0_some q0 q2 g (zo_later_mo em' k)
theorem zo_L0_CN {c : Nat → Int} {Q2 : Prop} (q0 : ∀ m, m < 3 → fa m = 0) (q2 : ∀ k, k < 16 → z k = 1) (hs : r = 1 ∧ zo_settle ln lt fa mo' z c ∧ Q2 ∨ r = 0 ∧ ∀ c, ¬ zo_settle ln lt fa mo' z c) (hr : r = 0) (em' : ∀ x, 1 ≤ x → x < 4 → mo' x = mo x) : zo_L0 ln lt mo = [] := by
  have k := hs.elim (fun q => absurd q.1 (by omega)) (fun q => q.2)
  unfold zo_L0 zo_ini
  rw [dif_neg]
  rintro ⟨b, d, g, ⟨d3, g3, g4⟩⟩
  exact k b ⟨d, g.iff (fun w _ => by rw [← zo_le_pt q2 w, ← zo_sl_pt q0 w]), zo_later_mo (fun x h0 h1 => (em' x h0 h1).symm) ⟨d3, g3.iff (fun w _ => by rw [← zo_sl_pt q0 w]), g4⟩⟩
end ZSN
set_option maxRecDepth 20000 in
set_option maxHeartbeats 2000000 in
theorem cx_X3_meetAll (l : Launch) {D : va_G} {A : Nat → Prop} {ad : Nat → Nat} {ks : z_Ks} {s_edgeCount s_moveCount s_isNeeded s_timesDone s_size s_isGoing s_allTime s_stepCount s_gapCount : Int} {g_edges g_moves g_limits : Nat → Option Nat} {a_sfacts a_sbounds a_facts a_zone a_most a_places a_amounts a_nextPlaces a_nextAmounts a_earliest a_visited a_lastSet a_gapFrom a_gapTo a_gapLeast a_askedPlaces a_askedAmounts : Nat → Int} {Y : Nat → Option va_E} {em ef et ec er gn gt ln lt mf ms : Nat → Int} {qe ql qt : Nat → Nat} {mo : Nat → Int} (n0 : Int) (Hs_size : (0 ≤ s_size ∧ s_size ≤ 120)) (Hs_isNeeded : (s_isNeeded = 0 ∨ s_isNeeded = 1)) (Hs_timesDone : (0 ≤ s_timesDone ∧ s_timesDone ≤ 40)) (Ha_most : (∀ j, 0 ≤ a_most j ∧ a_most j ≤ 1000)) (Ha_facts : (∀ j, (j % 7 < 3 → 0 ≤ a_facts j ∧ a_facts j ≤ 5) ∧ (j % 7 = 3 → -1 ≤ a_facts j ∧ a_facts j ≤ 119) ∧ (j % 7 = 6 → 0 ≤ a_facts j ∧ a_facts j ≤ 40) ∧ z_rg (a_facts j))) (Ha_zone : (∀ j, z_rg (a_zone j))) (Ha_sfacts : (∀ j, (j % 7 < 3 → 0 ≤ a_sfacts j ∧ a_sfacts j ≤ 5) ∧ (j % 7 = 3 → -1 ≤ a_sfacts j ∧ a_sfacts j ≤ 119) ∧ (j % 7 = 6 → 0 ≤ a_sfacts j ∧ a_sfacts j ≤ 40) ∧ z_rg (a_sfacts j))) (Ha_sbounds : (∀ j, z_rg (a_sbounds j))) (Hs_edgeCount : (0 ≤ s_edgeCount ∧ s_edgeCount ≤ 20)) (Hs_moveCount : (0 ≤ s_moveCount ∧ s_moveCount ≤ 400)) (hn : 1 ≤ n0 ∧ n0 ≤ 120) (ht : s_timesDone ≤ 39) (HN : z_N ks Y g_edges g_limits s_edgeCount em ef et ec er gn gt ln lt qe ql qt) (HMo : z_Mo Y g_moves s_moveCount mf ms s_edgeCount qe er) (HML : z_ml s_edgeCount s_moveCount mf ms em ec) (hmo : ∀ x : Int, 1 ≤ x → x ≤ 3 → z_gr x s_edgeCount gn gt ln lt (mo x.toNat)) : z_Met l yX3_meetAll cX3_meetAll 5 (some .int) 5 115 0 0 D A 27 ad ks [.ref (ad 5), .ref (ad 1), z_v n0] (z_zc ad ks s_edgeCount s_moveCount s_isNeeded s_timesDone s_size s_isGoing s_allTime s_stepCount s_gapCount g_edges g_moves g_limits a_sfacts a_sbounds a_facts a_zone a_most a_places a_amounts a_nextPlaces a_nextAmounts a_earliest a_visited a_lastSet a_gapFrom a_gapTo a_gapLeast a_askedPlaces a_askedAmounts) Y (fun r S' Y' => ∃ ns_size : Int, ∃ ns_isNeeded : Int, ∃ ns_timesDone : Int, ∃ na_most : Nat → Int, ∃ na_facts : Nat → Int, ∃ na_zone : Nat → Int, ∃ na_sfacts : Nat → Int, ∃ na_sbounds : Nat → Int, S' = (z_zc ad ks s_edgeCount s_moveCount ns_isNeeded ns_timesDone ns_size s_isGoing s_allTime s_stepCount s_gapCount g_edges g_moves g_limits na_sfacts na_sbounds na_facts na_zone na_most a_places a_amounts a_nextPlaces a_nextAmounts a_earliest a_visited a_lastSet a_gapFrom a_gapTo a_gapLeast a_askedPlaces a_askedAmounts) ∧ Y = Y' ∧ (0 ≤ ns_size ∧ ns_size ≤ 120) ∧ (ns_isNeeded = 0 ∨ ns_isNeeded = 1) ∧ (0 ≤ ns_timesDone ∧ ns_timesDone ≤ 40) ∧ (∀ j, 0 ≤ na_most j ∧ na_most j ≤ 1000) ∧ (∀ j, (j % 7 < 3 → 0 ≤ na_facts j ∧ na_facts j ≤ 5) ∧ (j % 7 = 3 → -1 ≤ na_facts j ∧ na_facts j ≤ 119) ∧ (j % 7 = 6 → 0 ≤ na_facts j ∧ na_facts j ≤ 40) ∧ z_rg (na_facts j)) ∧ (∀ j, z_rg (na_zone j)) ∧ (∀ j, (j % 7 < 3 → 0 ≤ na_sfacts j ∧ na_sfacts j ≤ 5) ∧ (j % 7 = 3 → -1 ≤ na_sfacts j ∧ na_sfacts j ≤ 119) ∧ (j % 7 = 6 → 0 ≤ na_sfacts j ∧ na_sfacts j ≤ 40) ∧ z_rg (na_sfacts j)) ∧ (∀ j, z_rg (na_sbounds j)) ∧ z_cc ns_size na_sfacts ∧ (ns_isNeeded = 0 ∧ ns_timesDone = s_timesDone + 1) ∧ ∃ z : Int, r = some (z_v z) ∧ ((∀ i : Nat, (i : Int) < ns_size → zo_Z 16016 16016 32015 (fun k => na_sbounds (16 * i + k))) ∧ ((zo_run (zo_nx em ef et er gn gt ln lt mo) n0 (zo_mv s_moveCount mf ms 0) 121 0 (zo_L0 ln lt mo) = (zo_ab ns_size (zo_sC na_sfacts na_sbounds), false) ∧ z = ns_size) ∨ (zo_run (zo_nx em ef et er gn gt ln lt mo) n0 (zo_mv s_moveCount mf ms 0) 121 0 (zo_L0 ln lt mo) = (zo_ab ns_size (zo_sC na_sfacts na_sbounds), true) ∧ z = -1 - n0)))) := by
  refine z_start2 (by decide) (Nat.le_of_ble_eq_true rfl) ?_
  intro p e R s m args below meth c Q C hRf hRc hRs hRl hQ hrt hnm
  refine z_loc (L' := [(0, .ref (ad 5)), (1, .ref (ad 1)), (2, z_v n0)]) [0, 1, 2] rfl ?_
  refine z_aloadn C 0 dX3_meetAll_0 rfl rfl ?_
  refine z_aloadn C 1 dX3_meetAll_1 rfl rfl ?_
  refine z_callV C (cx_X3_prepare l (by omega) (by omega) Ha_most (by omega) HN) mv_3_36 (z_atS 5 3 (by decide) rfl rfl rfl) pd_X3_prepare ⟨by omega, by omega⟩ ⟨by omega, by omega⟩ rfl (Nat.le_of_ble_eq_true rfl) dX3_meetAll_2 ?_
  rintro _ _ _ ⟨n1, rfl, rfl, h4, q2_0, rfl⟩
  have hmm : ∀ x, 1 ≤ x → x < 4 → n1 x = mo x := fun x h0 h1 => by
    have q := z_isMax.uniq (q2_0 x (by omega) (by omega)) (hmo x (by omega) (by omega))
    simpa using q
  refine z_aloadn C 0 dX3_meetAll_5 rfl rfl ?_
  refine z_callV C (cx_X3_standAtStart l Ha_facts Ha_zone) mv_3_40 (z_atS 5 3 (by decide) rfl rfl rfl) pd_X3_standAtStart ⟨by omega, by omega⟩ ⟨by omega, by omega⟩ rfl (Nat.le_of_ble_eq_true rfl) dX3_meetAll_6 ?_
  rintro _ _ _ ⟨n5, n6, rfl, rfl, h9, h10, q6_0, q6_1, q6_2, rfl⟩
  refine z_aloadn C 0 dX3_meetAll_9 rfl rfl ?_
  refine z_aloadn C 1 dX3_meetAll_10 rfl rfl ?_
  have hZ0 : zo_Z 16016 18018 40027 n6 := (zo_one_Z.mono (Int.le_refl _) (by omega) (by omega)).congr (fun k hk => (q6_2 k hk).symm)
  refine z_callV C (cx_X3_settles l h9 h10 h4 HN hZ0 (by omega) (by omega)) mv_3_43 (z_atS 5 3 (by decide) rfl rfl rfl) pd_X3_settles ⟨by omega, by omega⟩ ⟨by omega, by omega⟩ rfl (Nat.le_of_ble_eq_true rfl) dX3_meetAll_11 ?_
  rintro _ _ _ ⟨n11, rfl, rfl, h14, z15, rfl, hz15⟩
  have hs11 := hz15
  have hb11 := zo_rb2 hs11
  refine z_if_eq (t := 32) C dX3_meetAll_14 (by decide) (by omega) (fun c16 => ?_) (fun c16 => ?_)
  · skip
    have J32 : ∀ (fs_size : Int) (fa_facts : Nat → Int) (fa_zone : Nat → Int) (fa_sfacts : Nat → Int) (fa_sbounds : Nat → Int), ((0 ≤ fs_size ∧ fs_size ≤ 120)) → ((∀ j, (j % 7 < 3 → 0 ≤ fa_facts j ∧ fa_facts j ≤ 5) ∧ (j % 7 = 3 → -1 ≤ fa_facts j ∧ fa_facts j ≤ 119) ∧ (j % 7 = 6 → 0 ≤ fa_facts j ∧ fa_facts j ≤ 40) ∧ z_rg (fa_facts j))) → ((∀ j, z_rg (fa_zone j))) → ((∀ j, (j % 7 < 3 → 0 ≤ fa_sfacts j ∧ fa_sfacts j ≤ 5) ∧ (j % 7 = 3 → -1 ≤ fa_sfacts j ∧ fa_sfacts j ≤ 119) ∧ (j % 7 = 6 → 0 ≤ fa_sfacts j ∧ fa_sfacts j ≤ 40) ∧ z_rg (fa_sfacts j))) → ((∀ j, z_rg (fa_sbounds j))) → (z_cc fs_size fa_sfacts) → (fs_size ≤ n0) → (∀ i : Nat, (i : Int) < fs_size → zo_Z 16016 16016 32015 (fun k => fa_sbounds (16 * i + k))) → (zo_ab fs_size (zo_sC fa_sfacts fa_sbounds) = zo_L0 ln lt mo) → z_V p l e R s m args below meth c Q D A 27 ad 5 (z_zc ad ks s_edgeCount s_moveCount 0 (s_timesDone + 1) fs_size s_isGoing s_allTime s_stepCount s_gapCount g_edges g_moves g_limits fa_sfacts fa_sbounds fa_facts fa_zone n1 a_places a_amounts a_nextPlaces a_nextAmounts a_earliest a_visited a_lastSet a_gapFrom a_gapTo a_gapLeast a_askedPlaces a_askedAmounts) Y 0 0 32 [(0, .ref (ad 5)), (1, .ref (ad 1)), (2, z_v n0)] [] := by
      intro fs_size fa_facts fa_zone fa_sfacts fa_sbounds Hfs_size Hfa_facts Hfa_zone Hfa_sfacts Hfa_sbounds CH K1 ZS AB0
      refine z_iconst C dX3_meetAll_32 ?_
      refine z_istoren (L' := [(3, z_v 0), (0, .ref (ad 5)), (1, .ref (ad 1)), (2, z_v n0)]) C dX3_meetAll_33 rfl (by decide) rfl ?_
      have L34 : ∀ (n : Nat), ∀ (i3 : Int) (fs_size : Int) (fa_facts : Nat → Int) (fa_zone : Nat → Int) (fa_sfacts : Nat → Int) (fa_sbounds : Nat → Int), ((0 ≤ fs_size ∧ fs_size ≤ 120)) → ((∀ j, (j % 7 < 3 → 0 ≤ fa_facts j ∧ fa_facts j ≤ 5) ∧ (j % 7 = 3 → -1 ≤ fa_facts j ∧ fa_facts j ≤ 119) ∧ (j % 7 = 6 → 0 ≤ fa_facts j ∧ fa_facts j ≤ 40) ∧ z_rg (fa_facts j))) → ((∀ j, z_rg (fa_zone j))) → ((∀ j, (j % 7 < 3 → 0 ≤ fa_sfacts j ∧ fa_sfacts j ≤ 5) ∧ (j % 7 = 3 → -1 ≤ fa_sfacts j ∧ fa_sfacts j ≤ 119) ∧ (j % 7 = 6 → 0 ≤ fa_sfacts j ∧ fa_sfacts j ≤ 40) ∧ z_rg (fa_sfacts j))) → ((∀ j, z_rg (fa_sbounds j))) → (z_cc fs_size fa_sfacts) → (fs_size ≤ n0) → (∀ i : Nat, (i : Int) < fs_size → zo_Z 16016 16016 32015 (fun k => fa_sbounds (16 * i + k))) → (zo_run (zo_nx em ef et er gn gt ln lt mo) n0 (zo_mv s_moveCount mf ms 0) (121 - i3).toNat i3.toNat (zo_ab fs_size (zo_sC fa_sfacts fa_sbounds)) = zo_run (zo_nx em ef et er gn gt ln lt mo) n0 (zo_mv s_moveCount mf ms 0) 121 0 (zo_L0 ln lt mo)) → (0 ≤ i3 ∧ i3 ≤ 120) → ((120 : Int) - i3).toNat < n → z_V p l e R s m args below meth c Q D A 27 ad 5 (z_zc ad ks s_edgeCount s_moveCount 0 (s_timesDone + 1) fs_size s_isGoing s_allTime s_stepCount s_gapCount g_edges g_moves g_limits fa_sfacts fa_sbounds fa_facts fa_zone n1 a_places a_amounts a_nextPlaces a_nextAmounts a_earliest a_visited a_lastSet a_gapFrom a_gapTo a_gapLeast a_askedPlaces a_askedAmounts) Y 0 0 34 [(0, .ref (ad 5)), (1, .ref (ad 1)), (2, z_v n0), (3, z_v i3)] [] := by
        intro n
        induction n with
        | zero => intro i3 fs_size fa_facts fa_zone fa_sfacts fa_sbounds Hfs_size Hfa_facts Hfa_zone Hfa_sfacts Hfa_sbounds CH K1 ZS RI I3 hm; exact absurd hm (Nat.not_lt_zero _)
        | succ n ih34 =>
          intro i3 fs_size fa_facts fa_zone fa_sfacts fa_sbounds Hfs_size Hfa_facts Hfa_zone Hfa_sfacts Hfa_sbounds CH K1 ZS RI I3 hm
          refine z_iloadn C 3 dX3_meetAll_34 rfl rfl ?_
          refine z_aloadn C 0 dX3_meetAll_35 rfl rfl ?_
          refine z_get C 5 (by decide) rfl rfl z_it3 0 (by decide) rfl fl_3_12 rfl dX3_meetAll_36 ?_
          refine z_get C 6 (by decide) rfl rfl z_it4 0 (by decide) rfl fl_3_51 rfl dX3_meetAll_39 ?_
          refine z_icmp_ge (t := 149) C dX3_meetAll_42 (by decide) (by omega) (by omega) (fun c17 => ?_) (fun c17 => ?_)
          · skip
            refine z_aloadn C 0 dX3_meetAll_149 rfl rfl ?_
            refine z_get C 5 (by decide) rfl rfl z_it3 0 (by decide) rfl fl_3_12 rfl dX3_meetAll_150 ?_
            refine z_get C 6 (by decide) rfl rfl z_it4 0 (by decide) rfl fl_3_51 rfl dX3_meetAll_153 ?_
            rw [hQ]
            exact z_iret C hrt dX3_meetAll_156 (⟨fs_size, 0, (s_timesDone + 1), n1, fa_facts, fa_zone, fa_sfacts, fa_sbounds, rfl, rfl, by omega, by omega, by omega, h4, Hfa_facts, Hfa_zone, Hfa_sfacts, Hfa_sbounds, by first | assumption | exact q134_0 | exact q29_0 | exact z_cc0, ⟨rfl, rfl⟩, _, rfl, ⟨ZS, Or.inl ⟨zo_rEnd RI (by omega), rfl⟩⟩⟩) (by omega) (by omega)
          · skip
            refine z_iloadn C 3 dX3_meetAll_45 rfl rfl ?_
            refine z_bipush C dX3_meetAll_46 (by decide) ?_
            refine z_icmp_ge (t := 149) C dX3_meetAll_48 (by decide) (by omega) (by omega) (fun c18 => ?_) (fun c18 => ?_)
            · skip
              refine z_aloadn C 0 dX3_meetAll_149 rfl rfl ?_
              refine z_get C 5 (by decide) rfl rfl z_it3 0 (by decide) rfl fl_3_12 rfl dX3_meetAll_150 ?_
              refine z_get C 6 (by decide) rfl rfl z_it4 0 (by decide) rfl fl_3_51 rfl dX3_meetAll_153 ?_
              rw [hQ]
              exact z_iret C hrt dX3_meetAll_156 (⟨fs_size, 0, (s_timesDone + 1), n1, fa_facts, fa_zone, fa_sfacts, fa_sbounds, rfl, rfl, by omega, by omega, by omega, h4, Hfa_facts, Hfa_zone, Hfa_sfacts, Hfa_sbounds, by first | assumption | exact q134_0 | exact q29_0 | exact z_cc0, ⟨rfl, rfl⟩, _, rfl, ⟨ZS, Or.inl ⟨zo_rEnd RI (by omega), rfl⟩⟩⟩) (by omega) (by omega)
            · skip
              refine z_iconst C dX3_meetAll_51 ?_
              refine z_istore (L' := [(4, z_v 0), (0, .ref (ad 5)), (1, .ref (ad 1)), (2, z_v n0), (3, z_v i3)]) C dX3_meetAll_52 (by decide) rfl ?_
              have L54 : ∀ (n : Nat), ∀ (i4 : Int) (fs_size : Int) (fa_facts : Nat → Int) (fa_zone : Nat → Int) (fa_sfacts : Nat → Int) (fa_sbounds : Nat → Int), ((0 ≤ fs_size ∧ fs_size ≤ 120)) → ((∀ j, (j % 7 < 3 → 0 ≤ fa_facts j ∧ fa_facts j ≤ 5) ∧ (j % 7 = 3 → -1 ≤ fa_facts j ∧ fa_facts j ≤ 119) ∧ (j % 7 = 6 → 0 ≤ fa_facts j ∧ fa_facts j ≤ 40) ∧ z_rg (fa_facts j))) → ((∀ j, z_rg (fa_zone j))) → ((∀ j, (j % 7 < 3 → 0 ≤ fa_sfacts j ∧ fa_sfacts j ≤ 5) ∧ (j % 7 = 3 → -1 ≤ fa_sfacts j ∧ fa_sfacts j ≤ 119) ∧ (j % 7 = 6 → 0 ≤ fa_sfacts j ∧ fa_sfacts j ≤ 40) ∧ z_rg (fa_sfacts j))) → ((∀ j, z_rg (fa_sbounds j))) → (z_cc fs_size fa_sfacts) → (fs_size ≤ n0) → (i3 < fs_size) → (∀ i : Nat, (i : Int) < fs_size → zo_Z 16016 16016 32015 (fun k => fa_sbounds (16 * i + k))) → (zo_mid (zo_nx em ef et er gn gt ln lt mo) n0 (zo_mv s_moveCount mf ms 0) (120 - i3).toNat i3.toNat (zo_mv s_moveCount mf ms i4) (zo_ab fs_size (zo_sC fa_sfacts fa_sbounds)) = zo_run (zo_nx em ef et er gn gt ln lt mo) n0 (zo_mv s_moveCount mf ms 0) 121 0 (zo_L0 ln lt mo)) → (0 ≤ i4 ∧ i4 ≤ s_moveCount) → ((s_moveCount : Int) - i4).toNat < n → z_V p l e R s m args below meth c Q D A 27 ad 5 (z_zc ad ks s_edgeCount s_moveCount 0 (s_timesDone + 1) fs_size s_isGoing s_allTime s_stepCount s_gapCount g_edges g_moves g_limits fa_sfacts fa_sbounds fa_facts fa_zone n1 a_places a_amounts a_nextPlaces a_nextAmounts a_earliest a_visited a_lastSet a_gapFrom a_gapTo a_gapLeast a_askedPlaces a_askedAmounts) Y 0 0 54 [(0, .ref (ad 5)), (1, .ref (ad 1)), (2, z_v n0), (3, z_v i3), (4, z_v i4)] [] := by
                intro n
                induction n with
                | zero => intro i4 fs_size fa_facts fa_zone fa_sfacts fa_sbounds Hfs_size Hfa_facts Hfa_zone Hfa_sfacts Hfa_sbounds CH K1 K2 ZS RM I4 hm; exact absurd hm (Nat.not_lt_zero _)
                | succ n ih54 =>
                  intro i4 fs_size fa_facts fa_zone fa_sfacts fa_sbounds Hfs_size Hfa_facts Hfa_zone Hfa_sfacts Hfa_sbounds CH K1 K2 ZS RM I4 hm
                  refine z_iload C 4 dX3_meetAll_54 rfl ?_
                  refine z_aloadn C 1 dX3_meetAll_56 rfl rfl ?_
                  refine z_get C 1 (by decide) rfl rfl z_it2 3 (by decide) rfl fl_3_55 rfl dX3_meetAll_57 ?_
                  refine z_icmp_ge (t := 143) C dX3_meetAll_60 (by decide) (by omega) (by omega) (fun c19 => ?_) (fun c19 => ?_)
                  · skip
                    refine z_iinc (L' := [(3, z_v (i3 + 1)), (0, .ref (ad 5)), (1, .ref (ad 1)), (2, z_v n0), (4, z_v i4)]) C 3 dX3_meetAll_143 rfl (by decide) rfl ?_
                    refine z_goto (t := 34) C dX3_meetAll_146 (by decide) ?_
                    refine z_loc (L' := [(0, .ref (ad 5)), (1, .ref (ad 1)), (2, z_v n0), (3, z_v (i3 + 1))]) [1, 2, 3, 0] rfl ?_
                    exact ih34 (i3 + 1) fs_size fa_facts fa_zone fa_sfacts fa_sbounds (by omega) Hfa_facts Hfa_zone Hfa_sfacts Hfa_sbounds (by first | assumption | exact q134_0 | exact q29_0 | exact z_cc0) (by omega) (by first | assumption | exact zo_ZSn ZS hZn q134_3 q134_4 (by omega) | exact zo_ZSn (fun i hi => absurd hi (by omega)) hZn q29_3 q29_4 (by omega) | exact (fun i hi => absurd hi (by omega))) (zo_rI1 RM (zo_mv_nil (by omega)) (by omega)) (by omega) (by omega)
                  · skip
                    refine z_aloadn C 0 dX3_meetAll_63 rfl rfl ?_
                    refine z_iloadn C 3 dX3_meetAll_64 rfl rfl ?_
                    refine z_aloadn C 1 dX3_meetAll_65 rfl rfl ?_
                    refine z_get C 1 (by decide) rfl rfl z_it2 2 (by decide) rfl fl_3_60 rfl dX3_meetAll_66 ?_
                    refine z_iload C 4 dX3_meetAll_69 rfl ?_
                    obtain ⟨q20, eq20, mq20⟩ := HMo i4 (by omega) (by omega)
                    refine z_aaldS C 3 2 (by decide) rfl rfl (by decide) (by omega) (by omega) eq20 dX3_meetAll_71 ?_
                    refine z_callV C (cx_X3_goesBy l i3 q20 Hfa_sfacts Hfa_facts Hfa_sbounds Hfa_zone (by omega) (by omega) mq20 HN (ZS _ (by omega))) mv_3_64 (z_atS 5 3 (by decide) rfl rfl rfl) pd_X3_goesBy ⟨by omega, by omega⟩ ⟨by omega, by omega⟩ rfl (Nat.le_of_ble_eq_true rfl) dX3_meetAll_72 ?_
                    rintro _ _ _ ⟨n21, n22, rfl, rfl, h25, h26, z27, rfl, hz27⟩
                    have hg72x := hz27
                    have hb72 := zo_rb2 hg72x
                    refine z_if_eq (t := 137) C dX3_meetAll_75 (by decide) (by omega) (fun c28 => ?_) (fun c28 => ?_)
                    · skip
                      first | (have hn72 := hg72x.elim (fun q => absurd q.1 (by omega)) (fun q => q.2)) | skip
                      refine z_iinc (L' := [(4, z_v (i4 + 1)), (0, .ref (ad 5)), (1, .ref (ad 1)), (2, z_v n0), (3, z_v i3)]) C 4 dX3_meetAll_137 rfl (by decide) rfl ?_
                      refine z_goto (t := 54) C dX3_meetAll_140 (by decide) ?_
                      refine z_loc (L' := [(0, .ref (ad 5)), (1, .ref (ad 1)), (2, z_v n0), (3, z_v i3), (4, z_v (i4 + 1))]) [1, 2, 3, 4, 0] rfl ?_
                      exact ih54 (i4 + 1) fs_size n21 n22 fa_sfacts fa_sbounds (by omega) h25 h26 Hfa_sfacts Hfa_sbounds (by first | assumption | exact q134_0 | exact q29_0 | exact z_cc0) (by omega) (by omega) (by first | assumption | exact zo_ZSn ZS hZn q134_3 q134_4 (by omega) | exact zo_ZSn (fun i hi => absurd hi (by omega)) hZn q29_3 q29_4 (by omega) | exact (fun i hi => absurd hi (by omega))) (by first | exact zo_rNew RM ⟨by omega, rfl, rfl, trivial⟩ (by omega) (zo_ab_at (st := (zo_sC fa_sfacts fa_sbounds)) (N := fs_size) (i := (i3 : Int).toNat) (by omega)) hg72.2.1 (zo_sNx hg72.2.2 hse hmm (by omega)) (z_isz0 hcv (by omega)) (by omega) q134_2 (hg72.2.2.2.2.2.1.1.trans (by omega)) hg72.2.2.2.2.2.1.2.1 hg72.2.2.2.2.2.1.2.2.1 hg72.2.2.2.2.2.1.2.2.2 | exact zo_rCov RM ⟨by omega, rfl, rfl, trivial⟩ (by omega) (zo_ab_at (st := (zo_sC fa_sfacts fa_sbounds)) (N := fs_size) (i := (i3 : Int).toNat) (by omega)) (zo_sNx hg72.2.2 hse hmm (by omega)) (z_isz1 hcv (by omega)) | exact zo_rNone RM ⟨by omega, rfl, rfl, trivial⟩ (by omega) (zo_ab_at (st := (zo_sC fa_sfacts fa_sbounds)) (N := fs_size) (i := (i3 : Int).toNat) (by omega)) (zo_sNo hg72.2.2 hse (by omega) hmm) | exact zo_rNon2 RM ⟨by omega, rfl, rfl, trivial⟩ (by omega) (zo_ab_at (st := (zo_sC fa_sfacts fa_sbounds)) (N := fs_size) (i := (i3 : Int).toNat) (by omega)) hn72) (by omega) (by omega)
                    · skip
                      have hg72 := hg72x.elim id (fun q => absurd q.1 (by omega))
                      refine z_aloadn C 0 dX3_meetAll_78 rfl rfl ?_
                      refine z_aloadn C 1 dX3_meetAll_79 rfl rfl ?_
                      refine z_callV C (cx_X3_settles l h25 h26 h4 HN hg72.2.2.2.2.2.2 (by omega) (by omega)) mv_3_43 (z_atS 5 3 (by decide) rfl rfl rfl) pd_X3_settles ⟨by omega, by omega⟩ ⟨by omega, by omega⟩ rfl (Nat.le_of_ble_eq_true rfl) dX3_meetAll_80 ?_
                      rintro _ _ _ ⟨n29, rfl, rfl, h32, z33, rfl, hz33⟩
                      have hse := hz33
                      have hb80 := zo_rb2 hse
                      refine z_if_eq (t := 137) C dX3_meetAll_83 (by decide) (by omega) (fun c34 => ?_) (fun c34 => ?_)
                      · skip
                        first | (have hn72 := hg72x.elim (fun q => absurd q.1 (by omega)) (fun q => q.2)) | skip
                        refine z_iinc (L' := [(4, z_v (i4 + 1)), (0, .ref (ad 5)), (1, .ref (ad 1)), (2, z_v n0), (3, z_v i3)]) C 4 dX3_meetAll_137 rfl (by decide) rfl ?_
                        refine z_goto (t := 54) C dX3_meetAll_140 (by decide) ?_
                        refine z_loc (L' := [(0, .ref (ad 5)), (1, .ref (ad 1)), (2, z_v n0), (3, z_v i3), (4, z_v (i4 + 1))]) [1, 2, 3, 4, 0] rfl ?_
                        exact ih54 (i4 + 1) fs_size n21 n29 fa_sfacts fa_sbounds (by omega) h25 h32 Hfa_sfacts Hfa_sbounds (by first | assumption | exact q134_0 | exact q29_0 | exact z_cc0) (by omega) (by omega) (by first | assumption | exact zo_ZSn ZS hZn q134_3 q134_4 (by omega) | exact zo_ZSn (fun i hi => absurd hi (by omega)) hZn q29_3 q29_4 (by omega) | exact (fun i hi => absurd hi (by omega))) (by first | exact zo_rNew RM ⟨by omega, rfl, rfl, trivial⟩ (by omega) (zo_ab_at (st := (zo_sC fa_sfacts fa_sbounds)) (N := fs_size) (i := (i3 : Int).toNat) (by omega)) hg72.2.1 (zo_sNx hg72.2.2 hse hmm (by omega)) (z_isz0 hcv (by omega)) (by omega) q134_2 (hg72.2.2.2.2.2.1.1.trans (by omega)) hg72.2.2.2.2.2.1.2.1 hg72.2.2.2.2.2.1.2.2.1 hg72.2.2.2.2.2.1.2.2.2 | exact zo_rCov RM ⟨by omega, rfl, rfl, trivial⟩ (by omega) (zo_ab_at (st := (zo_sC fa_sfacts fa_sbounds)) (N := fs_size) (i := (i3 : Int).toNat) (by omega)) (zo_sNx hg72.2.2 hse hmm (by omega)) (z_isz1 hcv (by omega)) | exact zo_rNone RM ⟨by omega, rfl, rfl, trivial⟩ (by omega) (zo_ab_at (st := (zo_sC fa_sfacts fa_sbounds)) (N := fs_size) (i := (i3 : Int).toNat) (by omega)) (zo_sNo hg72.2.2 hse (by omega) hmm) | exact zo_rNon2 RM ⟨by omega, rfl, rfl, trivial⟩ (by omega) (zo_ab_at (st := (zo_sC fa_sfacts fa_sbounds)) (N := fs_size) (i := (i3 : Int).toNat) (by omega)) hn72) (by omega) (by omega)
                      · skip
                        obtain ⟨_, _, hZn⟩ := hse.elim id (fun q => absurd q.1 (by omega))
                        refine z_aloadn C 0 dX3_meetAll_86 rfl rfl ?_
                        refine z_get C 5 (by decide) rfl rfl z_it3 0 (by decide) rfl fl_3_12 rfl dX3_meetAll_87 ?_
                        refine z_aloadn C 0 dX3_meetAll_90 rfl rfl ?_
                        refine z_get C 5 (by decide) rfl rfl z_it3 3 (by decide) rfl fl_3_22 rfl dX3_meetAll_91 ?_
                        refine z_aloadn C 0 dX3_meetAll_94 rfl rfl ?_
                        refine z_get C 5 (by decide) rfl rfl z_it3 4 (by decide) rfl fl_3_29 rfl dX3_meetAll_95 ?_
                        refine z_callV C (cx_X4_cover_9_10 l (by omega) Hfa_sfacts h25 Hfa_sbounds h32) mv_3_68 (z_atS 6 4 (by decide) rfl rfl rfl) pd_X4_cover ⟨by omega, by omega⟩ ⟨by omega, by omega⟩ rfl (Nat.le_of_ble_eq_true rfl) dX3_meetAll_98 ?_
                        rintro _ _ _ ⟨rfl, rfl, z37, rfl, hz37⟩
                        have hcv := hz37
                        refine z_if_eq (t := 107) C dX3_meetAll_101 (by decide) (by omega) (fun c38 => ?_) (fun c38 => ?_)
                        · skip
                          refine z_aloadn C 0 dX3_meetAll_107 rfl rfl ?_
                          refine z_get C 5 (by decide) rfl rfl z_it3 0 (by decide) rfl fl_3_12 rfl dX3_meetAll_108 ?_
                          refine z_get C 6 (by decide) rfl rfl z_it4 0 (by decide) rfl fl_3_51 rfl dX3_meetAll_111 ?_
                          refine z_iloadn C 2 dX3_meetAll_114 rfl rfl ?_
                          refine z_icmp_lt (t := 122) C dX3_meetAll_115 (by decide) (by omega) (by omega) (fun c39 => ?_) (fun c39 => ?_)
                          · skip
                            refine z_aloadn C 0 dX3_meetAll_122 rfl rfl ?_
                            refine z_get C 5 (by decide) rfl rfl z_it3 0 (by decide) rfl fl_3_12 rfl dX3_meetAll_123 ?_
                            refine z_aloadn C 0 dX3_meetAll_126 rfl rfl ?_
                            refine z_get C 5 (by decide) rfl rfl z_it3 3 (by decide) rfl fl_3_22 rfl dX3_meetAll_127 ?_
                            refine z_aloadn C 0 dX3_meetAll_130 rfl rfl ?_
                            refine z_get C 5 (by decide) rfl rfl z_it3 4 (by decide) rfl fl_3_29 rfl dX3_meetAll_131 ?_
                            refine z_callV C (cx_X4_add l (by omega) h25 Hfa_sfacts Hfa_sbounds h32 (by omega) CH (Or.inr (zo_ghc hg72.2.2.2.2.2.1 K2 (by omega)))) mv_3_47 (z_atS 6 4 (by decide) rfl rfl rfl) pd_X4_add ⟨by omega, by omega⟩ ⟨by omega, by omega⟩ rfl (Nat.le_of_ble_eq_true rfl) dX3_meetAll_134 ?_
                            rintro _ _ _ ⟨n40, n41, rfl, rfl, h44, h45, q134_0, q134_1, q134_2, q134_3, q134_4, rfl⟩
                            first | (have hn72 := hg72x.elim (fun q => absurd q.1 (by omega)) (fun q => q.2)) | skip
                            refine z_iinc (L' := [(4, z_v (i4 + 1)), (0, .ref (ad 5)), (1, .ref (ad 1)), (2, z_v n0), (3, z_v i3)]) C 4 dX3_meetAll_137 rfl (by decide) rfl ?_
                            refine z_goto (t := 54) C dX3_meetAll_140 (by decide) ?_
                            refine z_loc (L' := [(0, .ref (ad 5)), (1, .ref (ad 1)), (2, z_v n0), (3, z_v i3), (4, z_v (i4 + 1))]) [1, 2, 3, 4, 0] rfl ?_
                            exact ih54 (i4 + 1) (fs_size + 1) n21 n29 n40 n41 (by omega) h25 h32 h44 h45 (by first | assumption | exact q134_0 | exact q29_0 | exact z_cc0) (by omega) (by omega) (by first | assumption | exact zo_ZSn ZS hZn q134_3 q134_4 (by omega) | exact zo_ZSn (fun i hi => absurd hi (by omega)) hZn q29_3 q29_4 (by omega) | exact (fun i hi => absurd hi (by omega))) (by first | exact zo_rNew RM ⟨by omega, rfl, rfl, trivial⟩ (by omega) (zo_ab_at (st := (zo_sC fa_sfacts fa_sbounds)) (N := fs_size) (i := (i3 : Int).toNat) (by omega)) hg72.2.1 (zo_sNx hg72.2.2 hse hmm (by omega)) (z_isz0 hcv (by omega)) (by omega) q134_2 (hg72.2.2.2.2.2.1.1.trans (by omega)) hg72.2.2.2.2.2.1.2.1 hg72.2.2.2.2.2.1.2.2.1 hg72.2.2.2.2.2.1.2.2.2 | exact zo_rCov RM ⟨by omega, rfl, rfl, trivial⟩ (by omega) (zo_ab_at (st := (zo_sC fa_sfacts fa_sbounds)) (N := fs_size) (i := (i3 : Int).toNat) (by omega)) (zo_sNx hg72.2.2 hse hmm (by omega)) (z_isz1 hcv (by omega)) | exact zo_rNone RM ⟨by omega, rfl, rfl, trivial⟩ (by omega) (zo_ab_at (st := (zo_sC fa_sfacts fa_sbounds)) (N := fs_size) (i := (i3 : Int).toNat) (by omega)) (zo_sNo hg72.2.2 hse (by omega) hmm) | exact zo_rNon2 RM ⟨by omega, rfl, rfl, trivial⟩ (by omega) (zo_ab_at (st := (zo_sC fa_sfacts fa_sbounds)) (N := fs_size) (i := (i3 : Int).toNat) (by omega)) hn72) (by omega) (by omega)
                          · skip
                            refine z_iconst C dX3_meetAll_118 ?_
                            refine z_iloadn C 2 dX3_meetAll_119 rfl rfl ?_
                            refine z_isub C dX3_meetAll_120 ?_
                            rw [hQ]
                            exact z_iret C hrt dX3_meetAll_121 (⟨fs_size, 0, (s_timesDone + 1), n1, n21, n29, fa_sfacts, fa_sbounds, rfl, rfl, by omega, by omega, by omega, h4, h25, h32, Hfa_sfacts, Hfa_sbounds, by first | assumption | exact q134_0 | exact q29_0 | exact z_cc0, ⟨rfl, rfl⟩, _, rfl, ⟨ZS, Or.inr ⟨zo_rFull RM ⟨by omega, rfl, rfl, trivial⟩ (by omega) (zo_ab_at (st := (zo_sC fa_sfacts fa_sbounds)) (N := fs_size) (i := (i3 : Int).toNat) (by omega)) hg72.2.1 (zo_sNx hg72.2.2 hse hmm (by omega)) (z_isz0 hcv (by omega)) (by omega), rfl⟩⟩⟩) (by omega) (by omega)
                        · skip
                          refine z_goto (t := 137) C dX3_meetAll_104 (by decide) ?_
                          first | (have hn72 := hg72x.elim (fun q => absurd q.1 (by omega)) (fun q => q.2)) | skip
                          refine z_iinc (L' := [(4, z_v (i4 + 1)), (0, .ref (ad 5)), (1, .ref (ad 1)), (2, z_v n0), (3, z_v i3)]) C 4 dX3_meetAll_137 rfl (by decide) rfl ?_
                          refine z_goto (t := 54) C dX3_meetAll_140 (by decide) ?_
                          refine z_loc (L' := [(0, .ref (ad 5)), (1, .ref (ad 1)), (2, z_v n0), (3, z_v i3), (4, z_v (i4 + 1))]) [1, 2, 3, 4, 0] rfl ?_
                          exact ih54 (i4 + 1) fs_size n21 n29 fa_sfacts fa_sbounds (by omega) h25 h32 Hfa_sfacts Hfa_sbounds (by first | assumption | exact q134_0 | exact q29_0 | exact z_cc0) (by omega) (by omega) (by first | assumption | exact zo_ZSn ZS hZn q134_3 q134_4 (by omega) | exact zo_ZSn (fun i hi => absurd hi (by omega)) hZn q29_3 q29_4 (by omega) | exact (fun i hi => absurd hi (by omega))) (by first | exact zo_rNew RM ⟨by omega, rfl, rfl, trivial⟩ (by omega) (zo_ab_at (st := (zo_sC fa_sfacts fa_sbounds)) (N := fs_size) (i := (i3 : Int).toNat) (by omega)) hg72.2.1 (zo_sNx hg72.2.2 hse hmm (by omega)) (z_isz0 hcv (by omega)) (by omega) q134_2 (hg72.2.2.2.2.2.1.1.trans (by omega)) hg72.2.2.2.2.2.1.2.1 hg72.2.2.2.2.2.1.2.2.1 hg72.2.2.2.2.2.1.2.2.2 | exact zo_rCov RM ⟨by omega, rfl, rfl, trivial⟩ (by omega) (zo_ab_at (st := (zo_sC fa_sfacts fa_sbounds)) (N := fs_size) (i := (i3 : Int).toNat) (by omega)) (zo_sNx hg72.2.2 hse hmm (by omega)) (z_isz1 hcv (by omega)) | exact zo_rNone RM ⟨by omega, rfl, rfl, trivial⟩ (by omega) (zo_ab_at (st := (zo_sC fa_sfacts fa_sbounds)) (N := fs_size) (i := (i3 : Int).toNat) (by omega)) (zo_sNo hg72.2.2 hse (by omega) hmm) | exact zo_rNon2 RM ⟨by omega, rfl, rfl, trivial⟩ (by omega) (zo_ab_at (st := (zo_sC fa_sfacts fa_sbounds)) (N := fs_size) (i := (i3 : Int).toNat) (by omega)) hn72) (by omega) (by omega)
              refine z_loc (L' := [(0, .ref (ad 5)), (1, .ref (ad 1)), (2, z_v n0), (3, z_v i3), (4, z_v 0)]) [1, 2, 3, 4, 0] rfl ?_
              exact (L54 (((s_moveCount : Int) - 0).toNat + 1)) 0 fs_size fa_facts fa_zone fa_sfacts fa_sbounds (by omega) Hfa_facts Hfa_zone Hfa_sfacts Hfa_sbounds (by first | assumption | exact q134_0 | exact q29_0 | exact z_cc0) (by omega) (by omega) (by first | assumption | exact zo_ZSn ZS hZn q134_3 q134_4 (by omega) | exact zo_ZSn (fun i hi => absurd hi (by omega)) hZn q29_3 q29_4 (by omega) | exact (fun i hi => absurd hi (by omega))) (zo_rI0 RI (by omega) (by omega) (by omega)) (by omega) (Nat.lt_succ_self _)
      refine z_loc (L' := [(0, .ref (ad 5)), (1, .ref (ad 1)), (2, z_v n0), (3, z_v 0)]) [1, 2, 3, 0] rfl ?_
      exact (L34 (((120 : Int) - 0).toNat + 1)) 0 fs_size fa_facts fa_zone fa_sfacts fa_sbounds (by omega) Hfa_facts Hfa_zone Hfa_sfacts Hfa_sbounds (by first | assumption | exact q134_0 | exact q29_0 | exact z_cc0) (by omega) (by first | assumption | exact zo_ZSn ZS hZn q134_3 q134_4 (by omega) | exact zo_ZSn (fun i hi => absurd hi (by omega)) hZn q29_3 q29_4 (by omega) | exact (fun i hi => absurd hi (by omega))) (by rw [AB0]; rfl) (by omega) (Nat.lt_succ_self _)
    refine z_loc (L' := [(0, .ref (ad 5)), (1, .ref (ad 1)), (2, z_v n0)]) [0, 1, 2] rfl ?_
    exact J32 0 n5 n11 a_sfacts a_sbounds (by omega) h9 h14 Ha_sfacts Ha_sbounds (by first | assumption | exact q134_0 | exact q29_0 | exact z_cc0) (by omega) (by first | assumption | exact zo_ZSn ZS hZn q134_3 q134_4 (by omega) | exact zo_ZSn (fun i hi => absurd hi (by omega)) hZn q29_3 q29_4 (by omega) | exact (fun i hi => absurd hi (by omega))) (by first | exact q29_2.trans (zo_L0_C q6_0 q6_1 q6_2 hs11 hmm (by omega)).symm | exact (zo_L0_CN q6_0 q6_2 hs11 (by omega) hmm).symm)
  · skip
    refine z_aloadn C 0 dX3_meetAll_17 rfl rfl ?_
    refine z_get C 5 (by decide) rfl rfl z_it3 0 (by decide) rfl fl_3_12 rfl dX3_meetAll_18 ?_
    refine z_aloadn C 0 dX3_meetAll_21 rfl rfl ?_
    refine z_get C 5 (by decide) rfl rfl z_it3 3 (by decide) rfl fl_3_22 rfl dX3_meetAll_22 ?_
    refine z_aloadn C 0 dX3_meetAll_25 rfl rfl ?_
    refine z_get C 5 (by decide) rfl rfl z_it3 4 (by decide) rfl fl_3_29 rfl dX3_meetAll_26 ?_
    obtain ⟨_, _, hZn⟩ := hs11.elim id (fun q => absurd q.1 (by omega))
    refine z_callV C (cx_X4_add l (by omega) h9 Ha_sfacts Ha_sbounds h14 (by omega) z_cc0 (Or.inl q6_1.2.2.2)) mv_3_47 (z_atS 6 4 (by decide) rfl rfl rfl) pd_X4_add ⟨by omega, by omega⟩ ⟨by omega, by omega⟩ rfl (Nat.le_of_ble_eq_true rfl) dX3_meetAll_29 ?_
    rintro _ _ _ ⟨n46, n47, rfl, rfl, h50, h51, q29_0, q29_1, q29_2, q29_3, q29_4, rfl⟩
    have J32 : ∀ (fs_size : Int) (fa_facts : Nat → Int) (fa_zone : Nat → Int) (fa_sfacts : Nat → Int) (fa_sbounds : Nat → Int), ((0 ≤ fs_size ∧ fs_size ≤ 120)) → ((∀ j, (j % 7 < 3 → 0 ≤ fa_facts j ∧ fa_facts j ≤ 5) ∧ (j % 7 = 3 → -1 ≤ fa_facts j ∧ fa_facts j ≤ 119) ∧ (j % 7 = 6 → 0 ≤ fa_facts j ∧ fa_facts j ≤ 40) ∧ z_rg (fa_facts j))) → ((∀ j, z_rg (fa_zone j))) → ((∀ j, (j % 7 < 3 → 0 ≤ fa_sfacts j ∧ fa_sfacts j ≤ 5) ∧ (j % 7 = 3 → -1 ≤ fa_sfacts j ∧ fa_sfacts j ≤ 119) ∧ (j % 7 = 6 → 0 ≤ fa_sfacts j ∧ fa_sfacts j ≤ 40) ∧ z_rg (fa_sfacts j))) → ((∀ j, z_rg (fa_sbounds j))) → (z_cc fs_size fa_sfacts) → (fs_size ≤ n0) → (∀ i : Nat, (i : Int) < fs_size → zo_Z 16016 16016 32015 (fun k => fa_sbounds (16 * i + k))) → (zo_ab fs_size (zo_sC fa_sfacts fa_sbounds) = zo_L0 ln lt mo) → z_V p l e R s m args below meth c Q D A 27 ad 5 (z_zc ad ks s_edgeCount s_moveCount 0 (s_timesDone + 1) fs_size s_isGoing s_allTime s_stepCount s_gapCount g_edges g_moves g_limits fa_sfacts fa_sbounds fa_facts fa_zone n1 a_places a_amounts a_nextPlaces a_nextAmounts a_earliest a_visited a_lastSet a_gapFrom a_gapTo a_gapLeast a_askedPlaces a_askedAmounts) Y 0 0 32 [(0, .ref (ad 5)), (1, .ref (ad 1)), (2, z_v n0)] [] := by
      intro fs_size fa_facts fa_zone fa_sfacts fa_sbounds Hfs_size Hfa_facts Hfa_zone Hfa_sfacts Hfa_sbounds CH K1 ZS AB0
      refine z_iconst C dX3_meetAll_32 ?_
      refine z_istoren (L' := [(3, z_v 0), (0, .ref (ad 5)), (1, .ref (ad 1)), (2, z_v n0)]) C dX3_meetAll_33 rfl (by decide) rfl ?_
      have L34 : ∀ (n : Nat), ∀ (i3 : Int) (fs_size : Int) (fa_facts : Nat → Int) (fa_zone : Nat → Int) (fa_sfacts : Nat → Int) (fa_sbounds : Nat → Int), ((0 ≤ fs_size ∧ fs_size ≤ 120)) → ((∀ j, (j % 7 < 3 → 0 ≤ fa_facts j ∧ fa_facts j ≤ 5) ∧ (j % 7 = 3 → -1 ≤ fa_facts j ∧ fa_facts j ≤ 119) ∧ (j % 7 = 6 → 0 ≤ fa_facts j ∧ fa_facts j ≤ 40) ∧ z_rg (fa_facts j))) → ((∀ j, z_rg (fa_zone j))) → ((∀ j, (j % 7 < 3 → 0 ≤ fa_sfacts j ∧ fa_sfacts j ≤ 5) ∧ (j % 7 = 3 → -1 ≤ fa_sfacts j ∧ fa_sfacts j ≤ 119) ∧ (j % 7 = 6 → 0 ≤ fa_sfacts j ∧ fa_sfacts j ≤ 40) ∧ z_rg (fa_sfacts j))) → ((∀ j, z_rg (fa_sbounds j))) → (z_cc fs_size fa_sfacts) → (fs_size ≤ n0) → (∀ i : Nat, (i : Int) < fs_size → zo_Z 16016 16016 32015 (fun k => fa_sbounds (16 * i + k))) → (zo_run (zo_nx em ef et er gn gt ln lt mo) n0 (zo_mv s_moveCount mf ms 0) (121 - i3).toNat i3.toNat (zo_ab fs_size (zo_sC fa_sfacts fa_sbounds)) = zo_run (zo_nx em ef et er gn gt ln lt mo) n0 (zo_mv s_moveCount mf ms 0) 121 0 (zo_L0 ln lt mo)) → (0 ≤ i3 ∧ i3 ≤ 120) → ((120 : Int) - i3).toNat < n → z_V p l e R s m args below meth c Q D A 27 ad 5 (z_zc ad ks s_edgeCount s_moveCount 0 (s_timesDone + 1) fs_size s_isGoing s_allTime s_stepCount s_gapCount g_edges g_moves g_limits fa_sfacts fa_sbounds fa_facts fa_zone n1 a_places a_amounts a_nextPlaces a_nextAmounts a_earliest a_visited a_lastSet a_gapFrom a_gapTo a_gapLeast a_askedPlaces a_askedAmounts) Y 0 0 34 [(0, .ref (ad 5)), (1, .ref (ad 1)), (2, z_v n0), (3, z_v i3)] [] := by
        intro n
        induction n with
        | zero => intro i3 fs_size fa_facts fa_zone fa_sfacts fa_sbounds Hfs_size Hfa_facts Hfa_zone Hfa_sfacts Hfa_sbounds CH K1 ZS RI I3 hm; exact absurd hm (Nat.not_lt_zero _)
        | succ n ih34 =>
          intro i3 fs_size fa_facts fa_zone fa_sfacts fa_sbounds Hfs_size Hfa_facts Hfa_zone Hfa_sfacts Hfa_sbounds CH K1 ZS RI I3 hm
          refine z_iloadn C 3 dX3_meetAll_34 rfl rfl ?_
          refine z_aloadn C 0 dX3_meetAll_35 rfl rfl ?_
          refine z_get C 5 (by decide) rfl rfl z_it3 0 (by decide) rfl fl_3_12 rfl dX3_meetAll_36 ?_
          refine z_get C 6 (by decide) rfl rfl z_it4 0 (by decide) rfl fl_3_51 rfl dX3_meetAll_39 ?_
          refine z_icmp_ge (t := 149) C dX3_meetAll_42 (by decide) (by omega) (by omega) (fun c52 => ?_) (fun c52 => ?_)
          · skip
            refine z_aloadn C 0 dX3_meetAll_149 rfl rfl ?_
            refine z_get C 5 (by decide) rfl rfl z_it3 0 (by decide) rfl fl_3_12 rfl dX3_meetAll_150 ?_
            refine z_get C 6 (by decide) rfl rfl z_it4 0 (by decide) rfl fl_3_51 rfl dX3_meetAll_153 ?_
            rw [hQ]
            exact z_iret C hrt dX3_meetAll_156 (⟨fs_size, 0, (s_timesDone + 1), n1, fa_facts, fa_zone, fa_sfacts, fa_sbounds, rfl, rfl, by omega, by omega, by omega, h4, Hfa_facts, Hfa_zone, Hfa_sfacts, Hfa_sbounds, by first | assumption | exact q134_0 | exact q29_0 | exact z_cc0, ⟨rfl, rfl⟩, _, rfl, ⟨ZS, Or.inl ⟨zo_rEnd RI (by omega), rfl⟩⟩⟩) (by omega) (by omega)
          · skip
            refine z_iloadn C 3 dX3_meetAll_45 rfl rfl ?_
            refine z_bipush C dX3_meetAll_46 (by decide) ?_
            refine z_icmp_ge (t := 149) C dX3_meetAll_48 (by decide) (by omega) (by omega) (fun c53 => ?_) (fun c53 => ?_)
            · skip
              refine z_aloadn C 0 dX3_meetAll_149 rfl rfl ?_
              refine z_get C 5 (by decide) rfl rfl z_it3 0 (by decide) rfl fl_3_12 rfl dX3_meetAll_150 ?_
              refine z_get C 6 (by decide) rfl rfl z_it4 0 (by decide) rfl fl_3_51 rfl dX3_meetAll_153 ?_
              rw [hQ]
              exact z_iret C hrt dX3_meetAll_156 (⟨fs_size, 0, (s_timesDone + 1), n1, fa_facts, fa_zone, fa_sfacts, fa_sbounds, rfl, rfl, by omega, by omega, by omega, h4, Hfa_facts, Hfa_zone, Hfa_sfacts, Hfa_sbounds, by first | assumption | exact q134_0 | exact q29_0 | exact z_cc0, ⟨rfl, rfl⟩, _, rfl, ⟨ZS, Or.inl ⟨zo_rEnd RI (by omega), rfl⟩⟩⟩) (by omega) (by omega)
            · skip
              refine z_iconst C dX3_meetAll_51 ?_
              refine z_istore (L' := [(4, z_v 0), (0, .ref (ad 5)), (1, .ref (ad 1)), (2, z_v n0), (3, z_v i3)]) C dX3_meetAll_52 (by decide) rfl ?_
              have L54 : ∀ (n : Nat), ∀ (i4 : Int) (fs_size : Int) (fa_facts : Nat → Int) (fa_zone : Nat → Int) (fa_sfacts : Nat → Int) (fa_sbounds : Nat → Int), ((0 ≤ fs_size ∧ fs_size ≤ 120)) → ((∀ j, (j % 7 < 3 → 0 ≤ fa_facts j ∧ fa_facts j ≤ 5) ∧ (j % 7 = 3 → -1 ≤ fa_facts j ∧ fa_facts j ≤ 119) ∧ (j % 7 = 6 → 0 ≤ fa_facts j ∧ fa_facts j ≤ 40) ∧ z_rg (fa_facts j))) → ((∀ j, z_rg (fa_zone j))) → ((∀ j, (j % 7 < 3 → 0 ≤ fa_sfacts j ∧ fa_sfacts j ≤ 5) ∧ (j % 7 = 3 → -1 ≤ fa_sfacts j ∧ fa_sfacts j ≤ 119) ∧ (j % 7 = 6 → 0 ≤ fa_sfacts j ∧ fa_sfacts j ≤ 40) ∧ z_rg (fa_sfacts j))) → ((∀ j, z_rg (fa_sbounds j))) → (z_cc fs_size fa_sfacts) → (fs_size ≤ n0) → (i3 < fs_size) → (∀ i : Nat, (i : Int) < fs_size → zo_Z 16016 16016 32015 (fun k => fa_sbounds (16 * i + k))) → (zo_mid (zo_nx em ef et er gn gt ln lt mo) n0 (zo_mv s_moveCount mf ms 0) (120 - i3).toNat i3.toNat (zo_mv s_moveCount mf ms i4) (zo_ab fs_size (zo_sC fa_sfacts fa_sbounds)) = zo_run (zo_nx em ef et er gn gt ln lt mo) n0 (zo_mv s_moveCount mf ms 0) 121 0 (zo_L0 ln lt mo)) → (0 ≤ i4 ∧ i4 ≤ s_moveCount) → ((s_moveCount : Int) - i4).toNat < n → z_V p l e R s m args below meth c Q D A 27 ad 5 (z_zc ad ks s_edgeCount s_moveCount 0 (s_timesDone + 1) fs_size s_isGoing s_allTime s_stepCount s_gapCount g_edges g_moves g_limits fa_sfacts fa_sbounds fa_facts fa_zone n1 a_places a_amounts a_nextPlaces a_nextAmounts a_earliest a_visited a_lastSet a_gapFrom a_gapTo a_gapLeast a_askedPlaces a_askedAmounts) Y 0 0 54 [(0, .ref (ad 5)), (1, .ref (ad 1)), (2, z_v n0), (3, z_v i3), (4, z_v i4)] [] := by
                intro n
                induction n with
                | zero => intro i4 fs_size fa_facts fa_zone fa_sfacts fa_sbounds Hfs_size Hfa_facts Hfa_zone Hfa_sfacts Hfa_sbounds CH K1 K2 ZS RM I4 hm; exact absurd hm (Nat.not_lt_zero _)
                | succ n ih54 =>
                  intro i4 fs_size fa_facts fa_zone fa_sfacts fa_sbounds Hfs_size Hfa_facts Hfa_zone Hfa_sfacts Hfa_sbounds CH K1 K2 ZS RM I4 hm
                  refine z_iload C 4 dX3_meetAll_54 rfl ?_
                  refine z_aloadn C 1 dX3_meetAll_56 rfl rfl ?_
                  refine z_get C 1 (by decide) rfl rfl z_it2 3 (by decide) rfl fl_3_55 rfl dX3_meetAll_57 ?_
                  refine z_icmp_ge (t := 143) C dX3_meetAll_60 (by decide) (by omega) (by omega) (fun c54 => ?_) (fun c54 => ?_)
                  · skip
                    refine z_iinc (L' := [(3, z_v (i3 + 1)), (0, .ref (ad 5)), (1, .ref (ad 1)), (2, z_v n0), (4, z_v i4)]) C 3 dX3_meetAll_143 rfl (by decide) rfl ?_
                    refine z_goto (t := 34) C dX3_meetAll_146 (by decide) ?_
                    refine z_loc (L' := [(0, .ref (ad 5)), (1, .ref (ad 1)), (2, z_v n0), (3, z_v (i3 + 1))]) [1, 2, 3, 0] rfl ?_
                    exact ih34 (i3 + 1) fs_size fa_facts fa_zone fa_sfacts fa_sbounds (by omega) Hfa_facts Hfa_zone Hfa_sfacts Hfa_sbounds (by first | assumption | exact q134_0 | exact q29_0 | exact z_cc0) (by omega) (by first | assumption | exact zo_ZSn ZS hZn q134_3 q134_4 (by omega) | exact zo_ZSn (fun i hi => absurd hi (by omega)) hZn q29_3 q29_4 (by omega) | exact (fun i hi => absurd hi (by omega))) (zo_rI1 RM (zo_mv_nil (by omega)) (by omega)) (by omega) (by omega)
                  · skip
                    refine z_aloadn C 0 dX3_meetAll_63 rfl rfl ?_
                    refine z_iloadn C 3 dX3_meetAll_64 rfl rfl ?_
                    refine z_aloadn C 1 dX3_meetAll_65 rfl rfl ?_
                    refine z_get C 1 (by decide) rfl rfl z_it2 2 (by decide) rfl fl_3_60 rfl dX3_meetAll_66 ?_
                    refine z_iload C 4 dX3_meetAll_69 rfl ?_
                    obtain ⟨q55, eq55, mq55⟩ := HMo i4 (by omega) (by omega)
                    refine z_aaldS C 3 2 (by decide) rfl rfl (by decide) (by omega) (by omega) eq55 dX3_meetAll_71 ?_
                    refine z_callV C (cx_X3_goesBy l i3 q55 Hfa_sfacts Hfa_facts Hfa_sbounds Hfa_zone (by omega) (by omega) mq55 HN (ZS _ (by omega))) mv_3_64 (z_atS 5 3 (by decide) rfl rfl rfl) pd_X3_goesBy ⟨by omega, by omega⟩ ⟨by omega, by omega⟩ rfl (Nat.le_of_ble_eq_true rfl) dX3_meetAll_72 ?_
                    rintro _ _ _ ⟨n56, n57, rfl, rfl, h60, h61, z62, rfl, hz62⟩
                    have hg72x := hz62
                    have hb72 := zo_rb2 hg72x
                    refine z_if_eq (t := 137) C dX3_meetAll_75 (by decide) (by omega) (fun c63 => ?_) (fun c63 => ?_)
                    · skip
                      first | (have hn72 := hg72x.elim (fun q => absurd q.1 (by omega)) (fun q => q.2)) | skip
                      refine z_iinc (L' := [(4, z_v (i4 + 1)), (0, .ref (ad 5)), (1, .ref (ad 1)), (2, z_v n0), (3, z_v i3)]) C 4 dX3_meetAll_137 rfl (by decide) rfl ?_
                      refine z_goto (t := 54) C dX3_meetAll_140 (by decide) ?_
                      refine z_loc (L' := [(0, .ref (ad 5)), (1, .ref (ad 1)), (2, z_v n0), (3, z_v i3), (4, z_v (i4 + 1))]) [1, 2, 3, 4, 0] rfl ?_
                      exact ih54 (i4 + 1) fs_size n56 n57 fa_sfacts fa_sbounds (by omega) h60 h61 Hfa_sfacts Hfa_sbounds (by first | assumption | exact q134_0 | exact q29_0 | exact z_cc0) (by omega) (by omega) (by first | assumption | exact zo_ZSn ZS hZn q134_3 q134_4 (by omega) | exact zo_ZSn (fun i hi => absurd hi (by omega)) hZn q29_3 q29_4 (by omega) | exact (fun i hi => absurd hi (by omega))) (by first | exact zo_rNew RM ⟨by omega, rfl, rfl, trivial⟩ (by omega) (zo_ab_at (st := (zo_sC fa_sfacts fa_sbounds)) (N := fs_size) (i := (i3 : Int).toNat) (by omega)) hg72.2.1 (zo_sNx hg72.2.2 hse hmm (by omega)) (z_isz0 hcv (by omega)) (by omega) q134_2 (hg72.2.2.2.2.2.1.1.trans (by omega)) hg72.2.2.2.2.2.1.2.1 hg72.2.2.2.2.2.1.2.2.1 hg72.2.2.2.2.2.1.2.2.2 | exact zo_rCov RM ⟨by omega, rfl, rfl, trivial⟩ (by omega) (zo_ab_at (st := (zo_sC fa_sfacts fa_sbounds)) (N := fs_size) (i := (i3 : Int).toNat) (by omega)) (zo_sNx hg72.2.2 hse hmm (by omega)) (z_isz1 hcv (by omega)) | exact zo_rNone RM ⟨by omega, rfl, rfl, trivial⟩ (by omega) (zo_ab_at (st := (zo_sC fa_sfacts fa_sbounds)) (N := fs_size) (i := (i3 : Int).toNat) (by omega)) (zo_sNo hg72.2.2 hse (by omega) hmm) | exact zo_rNon2 RM ⟨by omega, rfl, rfl, trivial⟩ (by omega) (zo_ab_at (st := (zo_sC fa_sfacts fa_sbounds)) (N := fs_size) (i := (i3 : Int).toNat) (by omega)) hn72) (by omega) (by omega)
                    · skip
                      have hg72 := hg72x.elim id (fun q => absurd q.1 (by omega))
                      refine z_aloadn C 0 dX3_meetAll_78 rfl rfl ?_
                      refine z_aloadn C 1 dX3_meetAll_79 rfl rfl ?_
                      refine z_callV C (cx_X3_settles l h60 h61 h4 HN hg72.2.2.2.2.2.2 (by omega) (by omega)) mv_3_43 (z_atS 5 3 (by decide) rfl rfl rfl) pd_X3_settles ⟨by omega, by omega⟩ ⟨by omega, by omega⟩ rfl (Nat.le_of_ble_eq_true rfl) dX3_meetAll_80 ?_
                      rintro _ _ _ ⟨n64, rfl, rfl, h67, z68, rfl, hz68⟩
                      have hse := hz68
                      have hb80 := zo_rb2 hse
                      refine z_if_eq (t := 137) C dX3_meetAll_83 (by decide) (by omega) (fun c69 => ?_) (fun c69 => ?_)
                      · skip
                        first | (have hn72 := hg72x.elim (fun q => absurd q.1 (by omega)) (fun q => q.2)) | skip
                        refine z_iinc (L' := [(4, z_v (i4 + 1)), (0, .ref (ad 5)), (1, .ref (ad 1)), (2, z_v n0), (3, z_v i3)]) C 4 dX3_meetAll_137 rfl (by decide) rfl ?_
                        refine z_goto (t := 54) C dX3_meetAll_140 (by decide) ?_
                        refine z_loc (L' := [(0, .ref (ad 5)), (1, .ref (ad 1)), (2, z_v n0), (3, z_v i3), (4, z_v (i4 + 1))]) [1, 2, 3, 4, 0] rfl ?_
                        exact ih54 (i4 + 1) fs_size n56 n64 fa_sfacts fa_sbounds (by omega) h60 h67 Hfa_sfacts Hfa_sbounds (by first | assumption | exact q134_0 | exact q29_0 | exact z_cc0) (by omega) (by omega) (by first | assumption | exact zo_ZSn ZS hZn q134_3 q134_4 (by omega) | exact zo_ZSn (fun i hi => absurd hi (by omega)) hZn q29_3 q29_4 (by omega) | exact (fun i hi => absurd hi (by omega))) (by first | exact zo_rNew RM ⟨by omega, rfl, rfl, trivial⟩ (by omega) (zo_ab_at (st := (zo_sC fa_sfacts fa_sbounds)) (N := fs_size) (i := (i3 : Int).toNat) (by omega)) hg72.2.1 (zo_sNx hg72.2.2 hse hmm (by omega)) (z_isz0 hcv (by omega)) (by omega) q134_2 (hg72.2.2.2.2.2.1.1.trans (by omega)) hg72.2.2.2.2.2.1.2.1 hg72.2.2.2.2.2.1.2.2.1 hg72.2.2.2.2.2.1.2.2.2 | exact zo_rCov RM ⟨by omega, rfl, rfl, trivial⟩ (by omega) (zo_ab_at (st := (zo_sC fa_sfacts fa_sbounds)) (N := fs_size) (i := (i3 : Int).toNat) (by omega)) (zo_sNx hg72.2.2 hse hmm (by omega)) (z_isz1 hcv (by omega)) | exact zo_rNone RM ⟨by omega, rfl, rfl, trivial⟩ (by omega) (zo_ab_at (st := (zo_sC fa_sfacts fa_sbounds)) (N := fs_size) (i := (i3 : Int).toNat) (by omega)) (zo_sNo hg72.2.2 hse (by omega) hmm) | exact zo_rNon2 RM ⟨by omega, rfl, rfl, trivial⟩ (by omega) (zo_ab_at (st := (zo_sC fa_sfacts fa_sbounds)) (N := fs_size) (i := (i3 : Int).toNat) (by omega)) hn72) (by omega) (by omega)
                      · skip
                        obtain ⟨_, _, hZn⟩ := hse.elim id (fun q => absurd q.1 (by omega))
                        refine z_aloadn C 0 dX3_meetAll_86 rfl rfl ?_
                        refine z_get C 5 (by decide) rfl rfl z_it3 0 (by decide) rfl fl_3_12 rfl dX3_meetAll_87 ?_
                        refine z_aloadn C 0 dX3_meetAll_90 rfl rfl ?_
                        refine z_get C 5 (by decide) rfl rfl z_it3 3 (by decide) rfl fl_3_22 rfl dX3_meetAll_91 ?_
                        refine z_aloadn C 0 dX3_meetAll_94 rfl rfl ?_
                        refine z_get C 5 (by decide) rfl rfl z_it3 4 (by decide) rfl fl_3_29 rfl dX3_meetAll_95 ?_
                        refine z_callV C (cx_X4_cover_9_10 l (by omega) Hfa_sfacts h60 Hfa_sbounds h67) mv_3_68 (z_atS 6 4 (by decide) rfl rfl rfl) pd_X4_cover ⟨by omega, by omega⟩ ⟨by omega, by omega⟩ rfl (Nat.le_of_ble_eq_true rfl) dX3_meetAll_98 ?_
                        rintro _ _ _ ⟨rfl, rfl, z72, rfl, hz72⟩
                        have hcv := hz72
                        refine z_if_eq (t := 107) C dX3_meetAll_101 (by decide) (by omega) (fun c73 => ?_) (fun c73 => ?_)
                        · skip
                          refine z_aloadn C 0 dX3_meetAll_107 rfl rfl ?_
                          refine z_get C 5 (by decide) rfl rfl z_it3 0 (by decide) rfl fl_3_12 rfl dX3_meetAll_108 ?_
                          refine z_get C 6 (by decide) rfl rfl z_it4 0 (by decide) rfl fl_3_51 rfl dX3_meetAll_111 ?_
                          refine z_iloadn C 2 dX3_meetAll_114 rfl rfl ?_
                          refine z_icmp_lt (t := 122) C dX3_meetAll_115 (by decide) (by omega) (by omega) (fun c74 => ?_) (fun c74 => ?_)
                          · skip
                            refine z_aloadn C 0 dX3_meetAll_122 rfl rfl ?_
                            refine z_get C 5 (by decide) rfl rfl z_it3 0 (by decide) rfl fl_3_12 rfl dX3_meetAll_123 ?_
                            refine z_aloadn C 0 dX3_meetAll_126 rfl rfl ?_
                            refine z_get C 5 (by decide) rfl rfl z_it3 3 (by decide) rfl fl_3_22 rfl dX3_meetAll_127 ?_
                            refine z_aloadn C 0 dX3_meetAll_130 rfl rfl ?_
                            refine z_get C 5 (by decide) rfl rfl z_it3 4 (by decide) rfl fl_3_29 rfl dX3_meetAll_131 ?_
                            refine z_callV C (cx_X4_add l (by omega) h60 Hfa_sfacts Hfa_sbounds h67 (by omega) CH (Or.inr (zo_ghc hg72.2.2.2.2.2.1 K2 (by omega)))) mv_3_47 (z_atS 6 4 (by decide) rfl rfl rfl) pd_X4_add ⟨by omega, by omega⟩ ⟨by omega, by omega⟩ rfl (Nat.le_of_ble_eq_true rfl) dX3_meetAll_134 ?_
                            rintro _ _ _ ⟨n75, n76, rfl, rfl, h79, h80, q134_0, q134_1, q134_2, q134_3, q134_4, rfl⟩
                            first | (have hn72 := hg72x.elim (fun q => absurd q.1 (by omega)) (fun q => q.2)) | skip
                            refine z_iinc (L' := [(4, z_v (i4 + 1)), (0, .ref (ad 5)), (1, .ref (ad 1)), (2, z_v n0), (3, z_v i3)]) C 4 dX3_meetAll_137 rfl (by decide) rfl ?_
                            refine z_goto (t := 54) C dX3_meetAll_140 (by decide) ?_
                            refine z_loc (L' := [(0, .ref (ad 5)), (1, .ref (ad 1)), (2, z_v n0), (3, z_v i3), (4, z_v (i4 + 1))]) [1, 2, 3, 4, 0] rfl ?_
                            exact ih54 (i4 + 1) (fs_size + 1) n56 n64 n75 n76 (by omega) h60 h67 h79 h80 (by first | assumption | exact q134_0 | exact q29_0 | exact z_cc0) (by omega) (by omega) (by first | assumption | exact zo_ZSn ZS hZn q134_3 q134_4 (by omega) | exact zo_ZSn (fun i hi => absurd hi (by omega)) hZn q29_3 q29_4 (by omega) | exact (fun i hi => absurd hi (by omega))) (by first | exact zo_rNew RM ⟨by omega, rfl, rfl, trivial⟩ (by omega) (zo_ab_at (st := (zo_sC fa_sfacts fa_sbounds)) (N := fs_size) (i := (i3 : Int).toNat) (by omega)) hg72.2.1 (zo_sNx hg72.2.2 hse hmm (by omega)) (z_isz0 hcv (by omega)) (by omega) q134_2 (hg72.2.2.2.2.2.1.1.trans (by omega)) hg72.2.2.2.2.2.1.2.1 hg72.2.2.2.2.2.1.2.2.1 hg72.2.2.2.2.2.1.2.2.2 | exact zo_rCov RM ⟨by omega, rfl, rfl, trivial⟩ (by omega) (zo_ab_at (st := (zo_sC fa_sfacts fa_sbounds)) (N := fs_size) (i := (i3 : Int).toNat) (by omega)) (zo_sNx hg72.2.2 hse hmm (by omega)) (z_isz1 hcv (by omega)) | exact zo_rNone RM ⟨by omega, rfl, rfl, trivial⟩ (by omega) (zo_ab_at (st := (zo_sC fa_sfacts fa_sbounds)) (N := fs_size) (i := (i3 : Int).toNat) (by omega)) (zo_sNo hg72.2.2 hse (by omega) hmm) | exact zo_rNon2 RM ⟨by omega, rfl, rfl, trivial⟩ (by omega) (zo_ab_at (st := (zo_sC fa_sfacts fa_sbounds)) (N := fs_size) (i := (i3 : Int).toNat) (by omega)) hn72) (by omega) (by omega)
                          · skip
                            refine z_iconst C dX3_meetAll_118 ?_
                            refine z_iloadn C 2 dX3_meetAll_119 rfl rfl ?_
                            refine z_isub C dX3_meetAll_120 ?_
                            rw [hQ]
                            exact z_iret C hrt dX3_meetAll_121 (⟨fs_size, 0, (s_timesDone + 1), n1, n56, n64, fa_sfacts, fa_sbounds, rfl, rfl, by omega, by omega, by omega, h4, h60, h67, Hfa_sfacts, Hfa_sbounds, by first | assumption | exact q134_0 | exact q29_0 | exact z_cc0, ⟨rfl, rfl⟩, _, rfl, ⟨ZS, Or.inr ⟨zo_rFull RM ⟨by omega, rfl, rfl, trivial⟩ (by omega) (zo_ab_at (st := (zo_sC fa_sfacts fa_sbounds)) (N := fs_size) (i := (i3 : Int).toNat) (by omega)) hg72.2.1 (zo_sNx hg72.2.2 hse hmm (by omega)) (z_isz0 hcv (by omega)) (by omega), rfl⟩⟩⟩) (by omega) (by omega)
                        · skip
                          refine z_goto (t := 137) C dX3_meetAll_104 (by decide) ?_
                          first | (have hn72 := hg72x.elim (fun q => absurd q.1 (by omega)) (fun q => q.2)) | skip
                          refine z_iinc (L' := [(4, z_v (i4 + 1)), (0, .ref (ad 5)), (1, .ref (ad 1)), (2, z_v n0), (3, z_v i3)]) C 4 dX3_meetAll_137 rfl (by decide) rfl ?_
                          refine z_goto (t := 54) C dX3_meetAll_140 (by decide) ?_
                          refine z_loc (L' := [(0, .ref (ad 5)), (1, .ref (ad 1)), (2, z_v n0), (3, z_v i3), (4, z_v (i4 + 1))]) [1, 2, 3, 4, 0] rfl ?_
                          exact ih54 (i4 + 1) fs_size n56 n64 fa_sfacts fa_sbounds (by omega) h60 h67 Hfa_sfacts Hfa_sbounds (by first | assumption | exact q134_0 | exact q29_0 | exact z_cc0) (by omega) (by omega) (by first | assumption | exact zo_ZSn ZS hZn q134_3 q134_4 (by omega) | exact zo_ZSn (fun i hi => absurd hi (by omega)) hZn q29_3 q29_4 (by omega) | exact (fun i hi => absurd hi (by omega))) (by first | exact zo_rNew RM ⟨by omega, rfl, rfl, trivial⟩ (by omega) (zo_ab_at (st := (zo_sC fa_sfacts fa_sbounds)) (N := fs_size) (i := (i3 : Int).toNat) (by omega)) hg72.2.1 (zo_sNx hg72.2.2 hse hmm (by omega)) (z_isz0 hcv (by omega)) (by omega) q134_2 (hg72.2.2.2.2.2.1.1.trans (by omega)) hg72.2.2.2.2.2.1.2.1 hg72.2.2.2.2.2.1.2.2.1 hg72.2.2.2.2.2.1.2.2.2 | exact zo_rCov RM ⟨by omega, rfl, rfl, trivial⟩ (by omega) (zo_ab_at (st := (zo_sC fa_sfacts fa_sbounds)) (N := fs_size) (i := (i3 : Int).toNat) (by omega)) (zo_sNx hg72.2.2 hse hmm (by omega)) (z_isz1 hcv (by omega)) | exact zo_rNone RM ⟨by omega, rfl, rfl, trivial⟩ (by omega) (zo_ab_at (st := (zo_sC fa_sfacts fa_sbounds)) (N := fs_size) (i := (i3 : Int).toNat) (by omega)) (zo_sNo hg72.2.2 hse (by omega) hmm) | exact zo_rNon2 RM ⟨by omega, rfl, rfl, trivial⟩ (by omega) (zo_ab_at (st := (zo_sC fa_sfacts fa_sbounds)) (N := fs_size) (i := (i3 : Int).toNat) (by omega)) hn72) (by omega) (by omega)
              refine z_loc (L' := [(0, .ref (ad 5)), (1, .ref (ad 1)), (2, z_v n0), (3, z_v i3), (4, z_v 0)]) [1, 2, 3, 4, 0] rfl ?_
              exact (L54 (((s_moveCount : Int) - 0).toNat + 1)) 0 fs_size fa_facts fa_zone fa_sfacts fa_sbounds (by omega) Hfa_facts Hfa_zone Hfa_sfacts Hfa_sbounds (by first | assumption | exact q134_0 | exact q29_0 | exact z_cc0) (by omega) (by omega) (by first | assumption | exact zo_ZSn ZS hZn q134_3 q134_4 (by omega) | exact zo_ZSn (fun i hi => absurd hi (by omega)) hZn q29_3 q29_4 (by omega) | exact (fun i hi => absurd hi (by omega))) (zo_rI0 RI (by omega) (by omega) (by omega)) (by omega) (Nat.lt_succ_self _)
      refine z_loc (L' := [(0, .ref (ad 5)), (1, .ref (ad 1)), (2, z_v n0), (3, z_v 0)]) [1, 2, 3, 0] rfl ?_
      exact (L34 (((120 : Int) - 0).toNat + 1)) 0 fs_size fa_facts fa_zone fa_sfacts fa_sbounds (by omega) Hfa_facts Hfa_zone Hfa_sfacts Hfa_sbounds (by first | assumption | exact q134_0 | exact q29_0 | exact z_cc0) (by omega) (by first | assumption | exact zo_ZSn ZS hZn q134_3 q134_4 (by omega) | exact zo_ZSn (fun i hi => absurd hi (by omega)) hZn q29_3 q29_4 (by omega) | exact (fun i hi => absurd hi (by omega))) (by rw [AB0]; rfl) (by omega) (Nat.lt_succ_self _)
    refine z_loc (L' := [(0, .ref (ad 5)), (1, .ref (ad 1)), (2, z_v n0)]) [0, 1, 2] rfl ?_
    exact J32 (0 + 1) n5 n11 n46 n47 (by omega) h9 h14 h50 h51 (by first | assumption | exact q134_0 | exact q29_0 | exact z_cc0) (by omega) (by first | assumption | exact zo_ZSn ZS hZn q134_3 q134_4 (by omega) | exact zo_ZSn (fun i hi => absurd hi (by omega)) hZn q29_3 q29_4 (by omega) | exact (fun i hi => absurd hi (by omega))) (by first | exact q29_2.trans (zo_L0_C q6_0 q6_1 q6_2 hs11 hmm (by omega)).symm | exact (zo_L0_CN q6_0 q6_2 hs11 (by omega) hmm).symm)
set_option maxRecDepth 20000 in
theorem cx_X10_explore (l : Launch) {D : va_G} {A : Nat → Prop} {ad : Nat → Nat} {ks : z_Ks} {s_edgeCount s_moveCount s_isNeeded s_timesDone s_size s_isGoing s_allTime s_stepCount s_gapCount : Int} {g_edges g_moves g_limits : Nat → Option Nat} {a_sfacts a_sbounds a_facts a_zone a_most a_places a_amounts a_nextPlaces a_nextAmounts a_earliest a_visited a_lastSet a_gapFrom a_gapTo a_gapLeast a_askedPlaces a_askedAmounts : Nat → Int} {Y : Nat → Option va_E} {em ef et ec er gn gt ln lt mf ms : Nat → Int} {qe ql qt : Nat → Nat} {mo : Nat → Int} (n0 : Int) (Hs_size : (0 ≤ s_size ∧ s_size ≤ 120)) (Hs_isNeeded : (s_isNeeded = 0 ∨ s_isNeeded = 1)) (Hs_timesDone : (0 ≤ s_timesDone ∧ s_timesDone ≤ 40)) (Ha_most : (∀ j, 0 ≤ a_most j ∧ a_most j ≤ 1000)) (Ha_facts : (∀ j, (j % 7 < 3 → 0 ≤ a_facts j ∧ a_facts j ≤ 5) ∧ (j % 7 = 3 → -1 ≤ a_facts j ∧ a_facts j ≤ 119) ∧ (j % 7 = 6 → 0 ≤ a_facts j ∧ a_facts j ≤ 40) ∧ z_rg (a_facts j))) (Ha_zone : (∀ j, z_rg (a_zone j))) (Ha_sfacts : (∀ j, (j % 7 < 3 → 0 ≤ a_sfacts j ∧ a_sfacts j ≤ 5) ∧ (j % 7 = 3 → -1 ≤ a_sfacts j ∧ a_sfacts j ≤ 119) ∧ (j % 7 = 6 → 0 ≤ a_sfacts j ∧ a_sfacts j ≤ 40) ∧ z_rg (a_sfacts j))) (Ha_sbounds : (∀ j, z_rg (a_sbounds j))) (Hs_edgeCount : (0 ≤ s_edgeCount ∧ s_edgeCount ≤ 20)) (Hs_moveCount : (0 ≤ s_moveCount ∧ s_moveCount ≤ 400)) (hn0 : z_rg n0) (hcc : z_cc s_size a_sfacts) (HN : z_N ks Y g_edges g_limits s_edgeCount em ef et ec er gn gt ln lt qe ql qt) (HMo : z_Mo Y g_moves s_moveCount mf ms s_edgeCount qe er) (HML : z_ml s_edgeCount s_moveCount mf ms em ec) (hmo : ∀ x : Int, 1 ≤ x → x ≤ 3 → z_gr x s_edgeCount gn gt ln lt (mo x.toNat)) : z_Met l yX10_explore cX10_explore 2 (some .int) 6 139 0 0 D A 27 ad ks [.ref (ad 0), z_v n0] (z_zc ad ks s_edgeCount s_moveCount s_isNeeded s_timesDone s_size s_isGoing s_allTime s_stepCount s_gapCount g_edges g_moves g_limits a_sfacts a_sbounds a_facts a_zone a_most a_places a_amounts a_nextPlaces a_nextAmounts a_earliest a_visited a_lastSet a_gapFrom a_gapTo a_gapLeast a_askedPlaces a_askedAmounts) Y (fun r S' Y' => ∃ ns_size : Int, ∃ ns_isNeeded : Int, ∃ ns_timesDone : Int, ∃ na_most : Nat → Int, ∃ na_facts : Nat → Int, ∃ na_zone : Nat → Int, ∃ na_sfacts : Nat → Int, ∃ na_sbounds : Nat → Int, S' = (z_zc ad ks s_edgeCount s_moveCount ns_isNeeded ns_timesDone ns_size s_isGoing s_allTime s_stepCount s_gapCount g_edges g_moves g_limits na_sfacts na_sbounds na_facts na_zone na_most a_places a_amounts a_nextPlaces a_nextAmounts a_earliest a_visited a_lastSet a_gapFrom a_gapTo a_gapLeast a_askedPlaces a_askedAmounts) ∧ Y = Y' ∧ (0 ≤ ns_size ∧ ns_size ≤ 120) ∧ (ns_isNeeded = 0 ∨ ns_isNeeded = 1) ∧ (0 ≤ ns_timesDone ∧ ns_timesDone ≤ 40) ∧ (∀ j, 0 ≤ na_most j ∧ na_most j ≤ 1000) ∧ (∀ j, (j % 7 < 3 → 0 ≤ na_facts j ∧ na_facts j ≤ 5) ∧ (j % 7 = 3 → -1 ≤ na_facts j ∧ na_facts j ≤ 119) ∧ (j % 7 = 6 → 0 ≤ na_facts j ∧ na_facts j ≤ 40) ∧ z_rg (na_facts j)) ∧ (∀ j, z_rg (na_zone j)) ∧ (∀ j, (j % 7 < 3 → 0 ≤ na_sfacts j ∧ na_sfacts j ≤ 5) ∧ (j % 7 = 3 → -1 ≤ na_sfacts j ∧ na_sfacts j ≤ 119) ∧ (j % 7 = 6 → 0 ≤ na_sfacts j ∧ na_sfacts j ≤ 40) ∧ z_rg (na_sfacts j)) ∧ (∀ j, z_rg (na_sbounds j)) ∧ z_cc ns_size na_sfacts ∧ ∃ z : Int, r = some (z_v z) ∧ ((¬ (1 ≤ n0 ∧ n0 ≤ 120) ∧ z = -102 ∧ ns_size = s_size ∧ ns_isNeeded = s_isNeeded ∧ ns_timesDone = s_timesDone ∧ na_sfacts = a_sfacts ∧ na_sbounds = a_sbounds) ∨ ((1 ≤ n0 ∧ n0 ≤ 120) ∧ s_timesDone = 40 ∧ z = -104 ∧ ns_size = s_size ∧ ns_isNeeded = s_isNeeded ∧ ns_timesDone = s_timesDone ∧ na_sfacts = a_sfacts ∧ na_sbounds = a_sbounds) ∨ ((1 ≤ n0 ∧ n0 ≤ 120) ∧ s_timesDone ≠ 40 ∧ (ns_isNeeded = 0 ∧ ns_timesDone = s_timesDone + 1) ∧ (∀ i : Nat, (i : Int) < ns_size → zo_Z 16016 16016 32015 (fun k => na_sbounds (16 * i + k))) ∧ ((zo_run (zo_nx em ef et er gn gt ln lt mo) n0 (zo_mv s_moveCount mf ms 0) 121 0 (zo_L0 ln lt mo) = (zo_ab ns_size (zo_sC na_sfacts na_sbounds), false) ∧ z = ns_size) ∨ (zo_run (zo_nx em ef et er gn gt ln lt mo) n0 (zo_mv s_moveCount mf ms 0) 121 0 (zo_L0 ln lt mo) = (zo_ab ns_size (zo_sC na_sfacts na_sbounds), true) ∧ z = -1 - n0))))) := by
  refine z_start2 (by decide) (Nat.le_of_ble_eq_true rfl) ?_
  intro p e R s m args below meth c Q C hRf hRc hRs hRl hQ hrt hnm
  refine z_loc (L' := [(0, .ref (ad 0)), (1, z_v n0)]) [0, 1] rfl ?_
  refine z_iloadn C 1 dX10_explore_0 rfl rfl ?_
  refine z_iconst C dX10_explore_1 ?_
  refine z_icmp_lt (t := 11) C dX10_explore_2 (by decide) (by omega) (by omega) (fun c1 => ?_) (fun c1 => ?_)
  · skip
    refine z_bipush C dX10_explore_11 (by decide) ?_
    rw [hQ]
    exact z_iret C hrt dX10_explore_13 (⟨s_size, s_isNeeded, s_timesDone, a_most, a_facts, a_zone, a_sfacts, a_sbounds, rfl, rfl, by omega, by omega, by omega, Ha_most, Ha_facts, Ha_zone, Ha_sfacts, Ha_sbounds, by first | assumption | exact q38_0, _, rfl, Or.inl ⟨by omega, rfl, ⟨rfl, rfl, rfl, rfl, rfl⟩⟩⟩) (by omega) (by omega)
  · skip
    refine z_iloadn C 1 dX10_explore_5 rfl rfl ?_
    refine z_bipush C dX10_explore_6 (by decide) ?_
    refine z_icmp_le (t := 14) C dX10_explore_8 (by decide) (by omega) (by omega) (fun c2 => ?_) (fun c2 => ?_)
    · skip
      refine z_aloadn C 0 dX10_explore_14 rfl rfl ?_
      refine z_get C 0 (by decide) rfl rfl z_it10 1 (by decide) rfl fl_10_19 rfl dX10_explore_15 ?_
      refine z_get C 5 (by decide) rfl rfl z_it3 2 (by decide) rfl fl_10_95 rfl dX10_explore_18 ?_
      refine z_bipush C dX10_explore_21 (by decide) ?_
      refine z_icmp_lt (t := 29) C dX10_explore_23 (by decide) (by omega) (by omega) (fun c3 => ?_) (fun c3 => ?_)
      · skip
        refine z_aloadn C 0 dX10_explore_29 rfl rfl ?_
        refine z_get C 0 (by decide) rfl rfl z_it10 1 (by decide) rfl fl_10_19 rfl dX10_explore_30 ?_
        refine z_aloadn C 0 dX10_explore_33 rfl rfl ?_
        refine z_get C 0 (by decide) rfl rfl z_it10 0 (by decide) rfl fl_10_12 rfl dX10_explore_34 ?_
        refine z_iloadn C 1 dX10_explore_37 rfl rfl ?_
        refine z_callV C (cx_X3_meetAll l n0 (by omega) (by omega) (by omega) Ha_most Ha_facts Ha_zone Ha_sfacts Ha_sbounds (by omega) (by omega) (by omega) (by omega) HN HMo (by omega) hmo) mv_10_98 (z_atS 5 3 (by decide) rfl rfl rfl) pd_X3_meetAll ⟨by omega, by omega⟩ ⟨by omega, by omega⟩ rfl (Nat.le_of_ble_eq_true rfl) dX10_explore_38 ?_
        rintro _ _ _ ⟨n4, n5, n6, n7, n8, n9, n10, n11, rfl, rfl, h14, h15, h16, h17, h18, h19, h20, h21, q38_0, q38_1, z22, rfl, hz22⟩
        have hma := hz22
        rw [hQ]
        exact z_iret C hrt dX10_explore_41 (⟨n4, n5, n6, n7, n8, n9, n10, n11, rfl, rfl, by omega, by omega, by omega, h17, h18, h19, h20, h21, by first | assumption | exact q38_0, _, rfl, Or.inr (Or.inr ⟨by omega, by omega, q38_1, hma⟩)⟩) (by omega) (by omega)
      · skip
        refine z_bipush C dX10_explore_26 (by decide) ?_
        rw [hQ]
        exact z_iret C hrt dX10_explore_28 (⟨s_size, s_isNeeded, s_timesDone, a_most, a_facts, a_zone, a_sfacts, a_sbounds, rfl, rfl, by omega, by omega, by omega, Ha_most, Ha_facts, Ha_zone, Ha_sfacts, Ha_sbounds, by first | assumption | exact q38_0, _, rfl, Or.inr (Or.inl ⟨by omega, by omega, rfl, ⟨rfl, rfl, rfl, rfl, rfl⟩⟩)⟩) (by omega) (by omega)
    · skip
      refine z_bipush C dX10_explore_11 (by decide) ?_
      rw [hQ]
      exact z_iret C hrt dX10_explore_13 (⟨s_size, s_isNeeded, s_timesDone, a_most, a_facts, a_zone, a_sfacts, a_sbounds, rfl, rfl, by omega, by omega, by omega, Ha_most, Ha_facts, Ha_zone, Ha_sfacts, Ha_sbounds, by first | assumption | exact q38_0, _, rfl, Or.inl ⟨by omega, rfl, ⟨rfl, rfl, rfl, rfl, rfl⟩⟩⟩) (by omega) (by omega)
