theorem zs_hV {K : Nat → Nat → Int → Prop} {n : Nat} {L V V' : Nat → Int} {m m' : Int} (h : ∀ v, v ≤ n → 0 ≤ V v ∧ V v ≤ L v ∧ L v ≤ 2560040) (q : zs_ad K n L V V' m m') : ∀ v, v ≤ n → 0 ≤ V' v ∧ V' v ≤ L v ∧ L v ≤ 2560040 := fun v hv => by
  have a := h v hv
  have b := q.1 v
  have c := q.2.1 v hv
  omega
theorem zs_as {T : Nat → Int} {R : Nat → Nat} {o i x k c w : Int} {j z b a : Nat} (e1 : T (o + 3 * i).toNat = x) (e2 : T (o + 3 * i + 1).toNat = k) (e3 : T (o + 3 * i + 2).toNat = c) (hz : z = R x.toNat) : zs_tE j z k c b a w ↔ zs_tE j (R (T (o + 3 * i).toNat).toNat) (T (o + 3 * i + 1).toNat) (T (o + 3 * i + 2).toNat) b a w := by rw [e1, e2, e3, hz]
section ZLS
variable {er E F : Nat → Int} {x i : Int}
theorem zr_ls_no (h0 : 0 < i) (hx : 0 ≤ x) (h : z_btv (z_or er (E i.toNat) (F i.toNat)) x = 0) : zr_ls er E F x.toNat i.toNat = zr_ls er E F x.toNat (i + (-1)).toNat := by
  obtain ⟨k, rfl⟩ : ∃ k : Nat, i = (k : Int) + 1 := ⟨(i - 1).toNat, by omega⟩
  rw [show ((k : Int) + 1).toNat = k + 1 by omega] at h ⊢
  rw [show ((k : Int) + 1 + (-1)).toNat = k by omega, zr_ls, show ((x.toNat : Nat) : Int) = x by omega, if_neg (by omega)]
theorem zr_ls_y (h0 : 0 < i) (hx : 0 ≤ x) (h : z_btv (z_or er (E i.toNat) (F i.toNat)) x ≠ 0) : i.toNat = zr_ls er E F x.toNat i.toNat := by
  obtain ⟨k, rfl⟩ : ∃ k : Nat, i = (k : Int) + 1 := ⟨(i - 1).toNat, by omega⟩
  rw [show ((k : Int) + 1).toNat = k + 1 by omega] at h ⊢
  rw [zr_ls, show ((x.toNat : Nat) : Int) = x by omega, if_pos h]
theorem zr_ls_z (h : i ≤ 0) : i.toNat = zr_ls er E F x.toNat i.toNat := by
  rw [show i.toNat = 0 by omega]
  rfl
end ZLS
set_option maxRecDepth 20000 in
theorem cx_X11_behind (l : Launch) {D : va_G} {A : Nat → Prop} {ad : Nat → Nat} {ks : z_Ks} {s_edges s_isNeeded s_explored s_states s_isMoved s_runs s_runTime s_runMoves : Int} {w_h : Int64} {a_machine a_from a_to a_channel a_resets a_guards a_guardOf a_limits a_limitOf a_places a_zones a_parent a_moveE a_moveF a_moves a_z a_ahead a_at a_amounts a_way a_moments a_runAt a_runClock : Nat → Int} {Y : Nat → Option va_E} {nn : Nat} {L : Nat → Int} (a b ls : Int) (Hs_isMoved : (s_isMoved = 0 ∨ s_isMoved = 1)) (Ha_moments : (∀ j, z_rg (a_moments j))) (ha : 0 ≤ a ∧ a ≤ (nn : Int)) (hb : 0 ≤ b ∧ b ≤ (nn : Int)) (hn : nn ≤ 40) (hl : -64001 ≤ ls ∧ ls ≤ 64001) (hV : ∀ v, v ≤ nn → 0 ≤ a_moments v ∧ a_moments v ≤ L v ∧ L v ≤ 2560040) (hle : L b.toNat + ls ≤ L a.toNat) : z_Met l yX11_behind cX11_behind 4 none 0 0 0 0 D A 24 ad ks [.ref (ad 0), z_v a, z_v b, z_v ls] (z_zm ad ks s_edges s_isNeeded s_explored s_states s_isMoved s_runs s_runTime s_runMoves w_h a_machine a_from a_to a_channel a_resets a_guards a_guardOf a_limits a_limitOf a_places a_zones a_parent a_moveE a_moveF a_moves a_z a_ahead a_at a_amounts a_way a_moments a_runAt a_runClock) Y (fun r S' Y' => ∃ ns_isMoved : Int, ∃ na_moments : Nat → Int, S' = (z_zm ad ks s_edges s_isNeeded s_explored s_states ns_isMoved s_runs s_runTime s_runMoves w_h a_machine a_from a_to a_channel a_resets a_guards a_guardOf a_limits a_limitOf a_places a_zones a_parent a_moveE a_moveF a_moves a_z a_ahead a_at a_amounts a_way na_moments a_runAt a_runClock) ∧ Y = Y' ∧ (ns_isMoved = 0 ∨ ns_isMoved = 1) ∧ (∀ j, z_rg (na_moments j)) ∧ zs_ad (zs_e1 b.toNat a.toNat ls) nn L a_moments na_moments s_isMoved ns_isMoved ∧ r = none) := by
  refine z_start2 (by decide) (Nat.le_of_ble_eq_true rfl) ?_
  intro p e R s m args below meth c Q C hRf hRc hRs hRl hQ hrt hnm
  refine z_loc (L' := [(0, .ref (ad 0)), (1, z_v a), (2, z_v b), (3, z_v ls)]) [0, 1, 2, 3] rfl ?_
  refine z_aloadn C 0 dX11_behind_0 rfl rfl ?_
  refine z_get C 0 (by decide) rfl rfl z_it11 24 (by decide) rfl fl_11_74 rfl dX11_behind_1 ?_
  refine z_iloadn C 1 dX11_behind_4 rfl rfl ?_
  refine z_iald C 21 (by decide) rfl (by decide) (by omega) (by omega) dX11_behind_5 ?_
  have rx1 := Ha_moments (a : Int).toNat
  generalize ex1 : a_moments (a : Int).toNat = x1 at rx1 ⊢
  have l5 := hV a.toNat (by omega)
  refine z_aloadn C 0 dX11_behind_6 rfl rfl ?_
  refine z_get C 0 (by decide) rfl rfl z_it11 24 (by decide) rfl fl_11_74 rfl dX11_behind_7 ?_
  refine z_iloadn C 2 dX11_behind_10 rfl rfl ?_
  refine z_iald C 21 (by decide) rfl (by decide) (by omega) (by omega) dX11_behind_11 ?_
  have rx2 := Ha_moments (b : Int).toNat
  generalize ex2 : a_moments (b : Int).toNat = x2 at rx2 ⊢
  have e11 := ex2
  have l11 := hV b.toNat (by omega)
  refine z_iloadn C 3 dX11_behind_12 rfl rfl ?_
  refine z_iadd C dX11_behind_13 ?_
  refine z_icmp_ge (t := 36) C dX11_behind_14 (by decide) (by omega) (by omega) (fun c3 => ?_) (fun c3 => ?_)
  · skip
    rw [hQ]
    exact z_vret C hrt dX11_behind_36 (⟨s_isMoved, a_moments, rfl, rfl, by omega, Ha_moments, by first | exact zs_ad.hit (fun v hv => (hV v hv).2.1) (by omega) (by omega) hle e11 (by omega) | exact zs_ad.miss (fun v hv => (hV v hv).2.1) (by omega), rfl⟩) (by omega) (by omega)
  · skip
    refine z_aloadn C 0 dX11_behind_17 rfl rfl ?_
    refine z_get C 0 (by decide) rfl rfl z_it11 24 (by decide) rfl fl_11_74 rfl dX11_behind_18 ?_
    refine z_iloadn C 1 dX11_behind_21 rfl rfl ?_
    refine z_aloadn C 0 dX11_behind_22 rfl rfl ?_
    refine z_get C 0 (by decide) rfl rfl z_it11 24 (by decide) rfl fl_11_74 rfl dX11_behind_23 ?_
    refine z_iloadn C 2 dX11_behind_26 rfl rfl ?_
    refine z_iald C 21 (by decide) rfl (by decide) (by omega) (by omega) dX11_behind_27 ?_
    rw [ex2]
    refine z_iloadn C 3 dX11_behind_28 rfl rfl ?_
    refine z_iadd C dX11_behind_29 ?_
    refine z_iast C 21 (by decide) rfl (by decide) (by omega) (by omega) dX11_behind_30 ?_
    refine z_ext (S' := (z_zm ad ks s_edges s_isNeeded s_explored s_states s_isMoved s_runs s_runTime s_runMoves w_h a_machine a_from a_to a_channel a_resets a_guards a_guardOf a_limits a_limitOf a_places a_zones a_parent a_moveE a_moveF a_moves a_z a_ahead a_at a_amounts a_way (va_up a_moments (a : Int).toNat (x2 + ls)) a_runAt a_runClock)) upM_a_moments ?_
    have h4 : ∀ j, z_rg ((va_up a_moments (a : Int).toNat (x2 + ls)) j) := z_upP (P := fun j v => z_rg (v)) Ha_moments (by omega)
    refine z_aloadn C 0 dX11_behind_31 rfl rfl ?_
    refine z_iconst C dX11_behind_32 ?_
    refine z_put C 0 (by decide) rfl rfl z_it11 tyX11 tyX11_ok nmX11 25 (by decide) rfl (Or.inl rfl) fl_11_180 z_pfZ (z_nbZ (by omega)).1 (z_nbZ (by omega)).2 (Nat.le_of_ble_eq_true rfl) dX11_behind_33 ?_
    refine z_ext (S' := (z_zm ad ks s_edges s_isNeeded s_explored s_states 1 s_runs s_runTime s_runMoves w_h a_machine a_from a_to a_channel a_resets a_guards a_guardOf a_limits a_limitOf a_places a_zones a_parent a_moveE a_moveF a_moves a_z a_ahead a_at a_amounts a_way (va_up a_moments (a : Int).toNat (x2 + ls)) a_runAt a_runClock)) upM_s_isMoved ?_
    rw [hQ]
    exact z_vret C hrt dX11_behind_36 (⟨1, (va_up a_moments (a : Int).toNat (x2 + ls)), rfl, rfl, by omega, h4, by first | exact zs_ad.hit (fun v hv => (hV v hv).2.1) (by omega) (by omega) hle e11 (by omega) | exact zs_ad.miss (fun v hv => (hV v hv).2.1) (by omega), rfl⟩) (by omega) (by omega)
set_option maxRecDepth 20000 in
theorem cx_X11_ask (l : Launch) {D : va_G} {A : Nat → Prop} {ad : Nat → Nat} {ks : z_Ks} {s_edges s_isNeeded s_explored s_states s_isMoved s_runs s_runTime s_runMoves : Int} {w_h : Int64} {a_machine a_from a_to a_channel a_resets a_guards a_guardOf a_limits a_limitOf a_places a_zones a_parent a_moveE a_moveF a_moves a_z a_ahead a_at a_amounts a_way a_moments a_runAt a_runClock : Nat → Int} {Y : Nat → Option va_E} {nn : Nat} {L : Nat → Int} (j0 r0 so c0 : Int) (Hs_isMoved : (s_isMoved = 0 ∨ s_isMoved = 1)) (Ha_moments : (∀ j, z_rg (a_moments j))) (hj : 0 ≤ j0 ∧ j0 ≤ (nn : Int)) (hr : 0 ≤ r0 ∧ r0 ≤ (nn : Int)) (hn : nn ≤ 40) (hs : 0 ≤ so ∧ so ≤ 4) (hc : 0 ≤ c0 ∧ c0 ≤ 1000) (hV : ∀ v, v ≤ nn → 0 ≤ a_moments v ∧ a_moments v ≤ L v ∧ L v ≤ 2560040) (hS : zs_S (zs_tE j0.toNat r0.toNat so c0) L) : z_Met l yX11_ask cX11_ask 5 none 1 23 0 0 D A 24 ad ks [.ref (ad 0), z_v j0, z_v r0, z_v so, z_v c0] (z_zm ad ks s_edges s_isNeeded s_explored s_states s_isMoved s_runs s_runTime s_runMoves w_h a_machine a_from a_to a_channel a_resets a_guards a_guardOf a_limits a_limitOf a_places a_zones a_parent a_moveE a_moveF a_moves a_z a_ahead a_at a_amounts a_way a_moments a_runAt a_runClock) Y (fun r S' Y' => ∃ ns_isMoved : Int, ∃ na_moments : Nat → Int, S' = (z_zm ad ks s_edges s_isNeeded s_explored s_states ns_isMoved s_runs s_runTime s_runMoves w_h a_machine a_from a_to a_channel a_resets a_guards a_guardOf a_limits a_limitOf a_places a_zones a_parent a_moveE a_moveF a_moves a_z a_ahead a_at a_amounts a_way na_moments a_runAt a_runClock) ∧ Y = Y' ∧ (ns_isMoved = 0 ∨ ns_isMoved = 1) ∧ (∀ j, z_rg (na_moments j)) ∧ zs_ad (zs_tE j0.toNat r0.toNat so c0) nn L a_moments na_moments s_isMoved ns_isMoved ∧ r = none) := by
  refine z_start2 (by decide) (Nat.le_of_ble_eq_true rfl) ?_
  intro p e R s m args below meth c Q C hRf hRc hRs hRl hQ hrt hnm
  refine z_loc (L' := [(0, .ref (ad 0)), (1, z_v j0), (2, z_v r0), (3, z_v so), (4, z_v c0)]) [0, 1, 2, 3, 4] rfl ?_
  refine z_iloadn C 3 dX11_ask_0 rfl rfl ?_
  refine z_iconst C dX11_ask_1 ?_
  refine z_icmp_ge (t := 26) C dX11_ask_2 (by decide) (by omega) (by omega) (fun c1 => ?_) (fun c1 => ?_)
  · skip
    refine z_iloadn C 3 dX11_ask_26 rfl rfl ?_
    refine z_iconst C dX11_ask_27 ?_
    refine z_icmp_le (t := 53) C dX11_ask_28 (by decide) (by omega) (by omega) (fun c2 => ?_) (fun c2 => ?_)
    · skip
      rw [hQ]
      exact z_vret C hrt dX11_ask_53 (⟨s_isMoved, a_moments, rfl, rfl, by omega, Ha_moments, by first | exact q23_0.cat q50_0 (fun b a w h => zs_tE2 (by omega) h) | exact q23_0.sub (fun b a w h => zs_tE1 (by omega) (by first | (rw [if_pos (by omega)]; done) | (rw [if_neg (by omega)]; done) | (exfalso; omega)) h) | exact q50_0.sub (fun b a w h => zs_tE3 (by omega) (by first | (rw [if_pos (by omega)]; done) | (rw [if_neg (by omega)]; done) | (exfalso; omega)) h) | (exfalso; omega), rfl⟩) (by omega) (by omega)
    · skip
      refine z_aloadn C 0 dX11_ask_31 rfl rfl ?_
      refine z_iloadn C 1 dX11_ask_32 rfl rfl ?_
      refine z_iloadn C 2 dX11_ask_33 rfl rfl ?_
      refine z_bipush C dX11_ask_34 (by decide) ?_
      refine z_iload C 4 dX11_ask_36 rfl ?_
      refine z_imul C dX11_ask_38 ?_
      refine z_iloadn C 3 dX11_ask_39 rfl rfl ?_
      refine z_iconst C dX11_ask_40 ?_
      refine z_icmp_ne (t := 48) C dX11_ask_41 (by decide) (by omega) (by omega) (fun c3 => ?_) (fun c3 => ?_)
      · skip
        refine z_iconst C dX11_ask_48 ?_
        refine z_iadd C dX11_ask_49 ?_
        refine z_callV C (cx_X11_behind l j0 r0 ((64 * c0) + 0) (by omega) Ha_moments (by omega) (by omega) (by omega) (by omega) (by first | exact hV | exact zs_hV hV q23_0) (by first | exact hS _ _ _ (Or.inr ⟨by omega, rfl, rfl, by first | (rw [if_pos (by omega)]; done) | (rw [if_neg (by omega)]; done) | (exfalso; omega)⟩) | (exfalso; omega))) mv_11_183 (z_atS 0 11 (by decide) rfl rfl rfl) pd_X11_behind ⟨by omega, by omega⟩ ⟨by omega, by omega⟩ rfl (Nat.le_of_ble_eq_true rfl) dX11_ask_50 ?_
        rintro _ _ _ ⟨n4, n5, rfl, rfl, h8, h9, q50_0, rfl⟩
        rw [hQ]
        exact z_vret C hrt dX11_ask_53 (⟨n4, n5, rfl, rfl, by omega, h9, by first | exact q23_0.cat q50_0 (fun b a w h => zs_tE2 (by omega) h) | exact q23_0.sub (fun b a w h => zs_tE1 (by omega) (by first | (rw [if_pos (by omega)]; done) | (rw [if_neg (by omega)]; done) | (exfalso; omega)) h) | exact q50_0.sub (fun b a w h => zs_tE3 (by omega) (by first | (rw [if_pos (by omega)]; done) | (rw [if_neg (by omega)]; done) | (exfalso; omega)) h) | (exfalso; omega), rfl⟩) (by omega) (by omega)
      · skip
        refine z_iconst C dX11_ask_44 ?_
        refine z_goto (t := 49) C dX11_ask_45 (by decide) ?_
        refine z_iadd C dX11_ask_49 ?_
        refine z_callV C (cx_X11_behind l j0 r0 ((64 * c0) + 1) (by omega) Ha_moments (by omega) (by omega) (by omega) (by omega) (by first | exact hV | exact zs_hV hV q23_0) (by first | exact hS _ _ _ (Or.inr ⟨by omega, rfl, rfl, by first | (rw [if_pos (by omega)]; done) | (rw [if_neg (by omega)]; done) | (exfalso; omega)⟩) | (exfalso; omega))) mv_11_183 (z_atS 0 11 (by decide) rfl rfl rfl) pd_X11_behind ⟨by omega, by omega⟩ ⟨by omega, by omega⟩ rfl (Nat.le_of_ble_eq_true rfl) dX11_ask_50 ?_
        rintro _ _ _ ⟨n10, n11, rfl, rfl, h14, h15, q50_0, rfl⟩
        rw [hQ]
        exact z_vret C hrt dX11_ask_53 (⟨n10, n11, rfl, rfl, by omega, h15, by first | exact q23_0.cat q50_0 (fun b a w h => zs_tE2 (by omega) h) | exact q23_0.sub (fun b a w h => zs_tE1 (by omega) (by first | (rw [if_pos (by omega)]; done) | (rw [if_neg (by omega)]; done) | (exfalso; omega)) h) | exact q50_0.sub (fun b a w h => zs_tE3 (by omega) (by first | (rw [if_pos (by omega)]; done) | (rw [if_neg (by omega)]; done) | (exfalso; omega)) h) | (exfalso; omega), rfl⟩) (by omega) (by omega)
  · skip
    refine z_aloadn C 0 dX11_ask_5 rfl rfl ?_
    refine z_iloadn C 2 dX11_ask_6 rfl rfl ?_
    refine z_iloadn C 1 dX11_ask_7 rfl rfl ?_
    refine z_bipush C dX11_ask_8 (by decide) ?_
    refine z_iload C 4 dX11_ask_10 rfl ?_
    refine z_imul C dX11_ask_12 ?_
    refine z_iloadn C 3 dX11_ask_13 rfl rfl ?_
    refine z_if_ne (t := 21) C dX11_ask_14 (by decide) (by omega) (fun c16 => ?_) (fun c16 => ?_)
    · skip
      refine z_iconst C dX11_ask_21 ?_
      refine z_iadd C dX11_ask_22 ?_
      refine z_callV C (cx_X11_behind l r0 j0 (((-64) * c0) + 0) (by omega) Ha_moments (by omega) (by omega) (by omega) (by omega) hV (by first | exact hS _ _ _ (Or.inl ⟨by omega, rfl, rfl, by first | (rw [if_pos (by omega)]; done) | (rw [if_neg (by omega)]; done) | (exfalso; omega)⟩) | (exfalso; omega))) mv_11_183 (z_atS 0 11 (by decide) rfl rfl rfl) pd_X11_behind ⟨by omega, by omega⟩ ⟨by omega, by omega⟩ rfl (Nat.le_of_ble_eq_true rfl) dX11_ask_23 ?_
      rintro _ _ _ ⟨n17, n18, rfl, rfl, h21, h22, q23_0, rfl⟩
      refine z_iloadn C 3 dX11_ask_26 rfl rfl ?_
      refine z_iconst C dX11_ask_27 ?_
      refine z_icmp_le (t := 53) C dX11_ask_28 (by decide) (by omega) (by omega) (fun c23 => ?_) (fun c23 => ?_)
      · skip
        rw [hQ]
        exact z_vret C hrt dX11_ask_53 (⟨n17, n18, rfl, rfl, by omega, h22, by first | exact q23_0.cat q50_0 (fun b a w h => zs_tE2 (by omega) h) | exact q23_0.sub (fun b a w h => zs_tE1 (by omega) (by first | (rw [if_pos (by omega)]; done) | (rw [if_neg (by omega)]; done) | (exfalso; omega)) h) | exact q50_0.sub (fun b a w h => zs_tE3 (by omega) (by first | (rw [if_pos (by omega)]; done) | (rw [if_neg (by omega)]; done) | (exfalso; omega)) h) | (exfalso; omega), rfl⟩) (by omega) (by omega)
      · skip
        refine z_aloadn C 0 dX11_ask_31 rfl rfl ?_
        refine z_iloadn C 1 dX11_ask_32 rfl rfl ?_
        refine z_iloadn C 2 dX11_ask_33 rfl rfl ?_
        refine z_bipush C dX11_ask_34 (by decide) ?_
        refine z_iload C 4 dX11_ask_36 rfl ?_
        refine z_imul C dX11_ask_38 ?_
        refine z_iloadn C 3 dX11_ask_39 rfl rfl ?_
        refine z_iconst C dX11_ask_40 ?_
        refine z_icmp_ne (t := 48) C dX11_ask_41 (by decide) (by omega) (by omega) (fun c24 => ?_) (fun c24 => ?_)
        · skip
          refine z_iconst C dX11_ask_48 ?_
          refine z_iadd C dX11_ask_49 ?_
          refine z_callV C (cx_X11_behind l j0 r0 ((64 * c0) + 0) (by omega) h22 (by omega) (by omega) (by omega) (by omega) (by first | exact hV | exact zs_hV hV q23_0) (by first | exact hS _ _ _ (Or.inr ⟨by omega, rfl, rfl, by first | (rw [if_pos (by omega)]; done) | (rw [if_neg (by omega)]; done) | (exfalso; omega)⟩) | (exfalso; omega))) mv_11_183 (z_atS 0 11 (by decide) rfl rfl rfl) pd_X11_behind ⟨by omega, by omega⟩ ⟨by omega, by omega⟩ rfl (Nat.le_of_ble_eq_true rfl) dX11_ask_50 ?_
          rintro _ _ _ ⟨n25, n26, rfl, rfl, h29, h30, q50_0, rfl⟩
          rw [hQ]
          exact z_vret C hrt dX11_ask_53 (⟨n25, n26, rfl, rfl, by omega, h30, by first | exact q23_0.cat q50_0 (fun b a w h => zs_tE2 (by omega) h) | exact q23_0.sub (fun b a w h => zs_tE1 (by omega) (by first | (rw [if_pos (by omega)]; done) | (rw [if_neg (by omega)]; done) | (exfalso; omega)) h) | exact q50_0.sub (fun b a w h => zs_tE3 (by omega) (by first | (rw [if_pos (by omega)]; done) | (rw [if_neg (by omega)]; done) | (exfalso; omega)) h) | (exfalso; omega), rfl⟩) (by omega) (by omega)
        · skip
          refine z_iconst C dX11_ask_44 ?_
          refine z_goto (t := 49) C dX11_ask_45 (by decide) ?_
          refine z_iadd C dX11_ask_49 ?_
          refine z_callV C (cx_X11_behind l j0 r0 ((64 * c0) + 1) (by omega) h22 (by omega) (by omega) (by omega) (by omega) (by first | exact hV | exact zs_hV hV q23_0) (by first | exact hS _ _ _ (Or.inr ⟨by omega, rfl, rfl, by first | (rw [if_pos (by omega)]; done) | (rw [if_neg (by omega)]; done) | (exfalso; omega)⟩) | (exfalso; omega))) mv_11_183 (z_atS 0 11 (by decide) rfl rfl rfl) pd_X11_behind ⟨by omega, by omega⟩ ⟨by omega, by omega⟩ rfl (Nat.le_of_ble_eq_true rfl) dX11_ask_50 ?_
          rintro _ _ _ ⟨n31, n32, rfl, rfl, h35, h36, q50_0, rfl⟩
          rw [hQ]
          exact z_vret C hrt dX11_ask_53 (⟨n31, n32, rfl, rfl, by omega, h36, by first | exact q23_0.cat q50_0 (fun b a w h => zs_tE2 (by omega) h) | exact q23_0.sub (fun b a w h => zs_tE1 (by omega) (by first | (rw [if_pos (by omega)]; done) | (rw [if_neg (by omega)]; done) | (exfalso; omega)) h) | exact q50_0.sub (fun b a w h => zs_tE3 (by omega) (by first | (rw [if_pos (by omega)]; done) | (rw [if_neg (by omega)]; done) | (exfalso; omega)) h) | (exfalso; omega), rfl⟩) (by omega) (by omega)
    · skip
      refine z_iconst C dX11_ask_17 ?_
      refine z_goto (t := 22) C dX11_ask_18 (by decide) ?_
      refine z_iadd C dX11_ask_22 ?_
      refine z_callV C (cx_X11_behind l r0 j0 (((-64) * c0) + 1) (by omega) Ha_moments (by omega) (by omega) (by omega) (by omega) hV (by first | exact hS _ _ _ (Or.inl ⟨by omega, rfl, rfl, by first | (rw [if_pos (by omega)]; done) | (rw [if_neg (by omega)]; done) | (exfalso; omega)⟩) | (exfalso; omega))) mv_11_183 (z_atS 0 11 (by decide) rfl rfl rfl) pd_X11_behind ⟨by omega, by omega⟩ ⟨by omega, by omega⟩ rfl (Nat.le_of_ble_eq_true rfl) dX11_ask_23 ?_
      rintro _ _ _ ⟨n37, n38, rfl, rfl, h41, h42, q23_0, rfl⟩
      refine z_iloadn C 3 dX11_ask_26 rfl rfl ?_
      refine z_iconst C dX11_ask_27 ?_
      refine z_icmp_le (t := 53) C dX11_ask_28 (by decide) (by omega) (by omega) (fun c43 => ?_) (fun c43 => ?_)
      · skip
        rw [hQ]
        exact z_vret C hrt dX11_ask_53 (⟨n37, n38, rfl, rfl, by omega, h42, by first | exact q23_0.cat q50_0 (fun b a w h => zs_tE2 (by omega) h) | exact q23_0.sub (fun b a w h => zs_tE1 (by omega) (by first | (rw [if_pos (by omega)]; done) | (rw [if_neg (by omega)]; done) | (exfalso; omega)) h) | exact q50_0.sub (fun b a w h => zs_tE3 (by omega) (by first | (rw [if_pos (by omega)]; done) | (rw [if_neg (by omega)]; done) | (exfalso; omega)) h) | (exfalso; omega), rfl⟩) (by omega) (by omega)
      · skip
        refine z_aloadn C 0 dX11_ask_31 rfl rfl ?_
        refine z_iloadn C 1 dX11_ask_32 rfl rfl ?_
        refine z_iloadn C 2 dX11_ask_33 rfl rfl ?_
        refine z_bipush C dX11_ask_34 (by decide) ?_
        refine z_iload C 4 dX11_ask_36 rfl ?_
        refine z_imul C dX11_ask_38 ?_
        refine z_iloadn C 3 dX11_ask_39 rfl rfl ?_
        refine z_iconst C dX11_ask_40 ?_
        refine z_icmp_ne (t := 48) C dX11_ask_41 (by decide) (by omega) (by omega) (fun c44 => ?_) (fun c44 => ?_)
        · skip
          refine z_iconst C dX11_ask_48 ?_
          refine z_iadd C dX11_ask_49 ?_
          refine z_callV C (cx_X11_behind l j0 r0 ((64 * c0) + 0) (by omega) h42 (by omega) (by omega) (by omega) (by omega) (by first | exact hV | exact zs_hV hV q23_0) (by first | exact hS _ _ _ (Or.inr ⟨by omega, rfl, rfl, by first | (rw [if_pos (by omega)]; done) | (rw [if_neg (by omega)]; done) | (exfalso; omega)⟩) | (exfalso; omega))) mv_11_183 (z_atS 0 11 (by decide) rfl rfl rfl) pd_X11_behind ⟨by omega, by omega⟩ ⟨by omega, by omega⟩ rfl (Nat.le_of_ble_eq_true rfl) dX11_ask_50 ?_
          rintro _ _ _ ⟨n45, n46, rfl, rfl, h49, h50, q50_0, rfl⟩
          rw [hQ]
          exact z_vret C hrt dX11_ask_53 (⟨n45, n46, rfl, rfl, by omega, h50, by first | exact q23_0.cat q50_0 (fun b a w h => zs_tE2 (by omega) h) | exact q23_0.sub (fun b a w h => zs_tE1 (by omega) (by first | (rw [if_pos (by omega)]; done) | (rw [if_neg (by omega)]; done) | (exfalso; omega)) h) | exact q50_0.sub (fun b a w h => zs_tE3 (by omega) (by first | (rw [if_pos (by omega)]; done) | (rw [if_neg (by omega)]; done) | (exfalso; omega)) h) | (exfalso; omega), rfl⟩) (by omega) (by omega)
        · skip
          refine z_iconst C dX11_ask_44 ?_
          refine z_goto (t := 49) C dX11_ask_45 (by decide) ?_
          refine z_iadd C dX11_ask_49 ?_
          refine z_callV C (cx_X11_behind l j0 r0 ((64 * c0) + 1) (by omega) h42 (by omega) (by omega) (by omega) (by omega) (by first | exact hV | exact zs_hV hV q23_0) (by first | exact hS _ _ _ (Or.inr ⟨by omega, rfl, rfl, by first | (rw [if_pos (by omega)]; done) | (rw [if_neg (by omega)]; done) | (exfalso; omega)⟩) | (exfalso; omega))) mv_11_183 (z_atS 0 11 (by decide) rfl rfl rfl) pd_X11_behind ⟨by omega, by omega⟩ ⟨by omega, by omega⟩ rfl (Nat.le_of_ble_eq_true rfl) dX11_ask_50 ?_
          rintro _ _ _ ⟨n51, n52, rfl, rfl, h55, h56, q50_0, rfl⟩
          rw [hQ]
          exact z_vret C hrt dX11_ask_53 (⟨n51, n52, rfl, rfl, by omega, h56, by first | exact q23_0.cat q50_0 (fun b a w h => zs_tE2 (by omega) h) | exact q23_0.sub (fun b a w h => zs_tE1 (by omega) (by first | (rw [if_pos (by omega)]; done) | (rw [if_neg (by omega)]; done) | (exfalso; omega)) h) | exact q50_0.sub (fun b a w h => zs_tE3 (by omega) (by first | (rw [if_pos (by omega)]; done) | (rw [if_neg (by omega)]; done) | (exfalso; omega)) h) | (exfalso; omega), rfl⟩) (by omega) (by omega)
set_option maxRecDepth 20000 in
theorem cx_X11_setAt (l : Launch) {D : va_G} {A : Nat → Prop} {ad : Nat → Nat} {ks : z_Ks} {s_edges s_isNeeded s_explored s_states s_isMoved s_runs s_runTime s_runMoves : Int} {w_h : Int64} {a_machine a_from a_to a_channel a_resets a_guards a_guardOf a_limits a_limitOf a_places a_zones a_parent a_moveE a_moveF a_moves a_z a_ahead a_at a_amounts a_way a_moments a_runAt a_runClock : Nat → Int} {Y : Nat → Option va_E} {nn : Nat} (x j0 : Int) (Ha_resets : (∀ j, z_rg (a_resets j))) (Ha_moveE : (∀ j, -1 ≤ a_moveE j ∧ a_moveE j ≤ 19)) (Ha_moveF : (∀ j, -1 ≤ a_moveF j ∧ a_moveF j ≤ 19)) (Ha_way : (∀ j, 0 ≤ a_way j ∧ a_way j ≤ 119)) (hx : 1 ≤ x ∧ x ≤ 3) (hj : 0 ≤ j0 ∧ j0 ≤ (nn : Int)) (hn : nn ≤ 40) (hw : ∀ k : Nat, 1 ≤ k → k ≤ nn → 0 ≤ a_moveE (a_way k).toNat) : z_Met l yX11_setAt cX11_setAt 4 (some .int) 0 0 0 0 D A 24 ad ks [.ref (ad 0), z_v x, z_v j0] (z_zm ad ks s_edges s_isNeeded s_explored s_states s_isMoved s_runs s_runTime s_runMoves w_h a_machine a_from a_to a_channel a_resets a_guards a_guardOf a_limits a_limitOf a_places a_zones a_parent a_moveE a_moveF a_moves a_z a_ahead a_at a_amounts a_way a_moments a_runAt a_runClock) Y (fun r S' Y' => S' = (z_zm ad ks s_edges s_isNeeded s_explored s_states s_isMoved s_runs s_runTime s_runMoves w_h a_machine a_from a_to a_channel a_resets a_guards a_guardOf a_limits a_limitOf a_places a_zones a_parent a_moveE a_moveF a_moves a_z a_ahead a_at a_amounts a_way a_moments a_runAt a_runClock) ∧ Y = Y' ∧ ∃ z : Int, r = some (z_v z) ∧ ((0 ≤ z ∧ z ≤ j0) ∧ z.toNat = zr_ls a_resets (fun k => a_moveE (a_way k).toNat) (fun k => a_moveF (a_way k).toNat) x.toNat  j0.toNat)) := by
  refine z_start2 (by decide) (Nat.le_of_ble_eq_true rfl) ?_
  intro p e R s m args below meth c Q C hRf hRc hRs hRl hQ hrt hnm
  refine z_loc (L' := [(0, .ref (ad 0)), (1, z_v x), (2, z_v j0)]) [0, 1, 2] rfl ?_
  refine z_iloadn C 2 dX11_setAt_0 rfl rfl ?_
  refine z_istoren (L' := [(3, z_v j0), (0, .ref (ad 0)), (1, z_v x), (2, z_v j0)]) C dX11_setAt_1 rfl (by decide) rfl ?_
  have L2 : ∀ (n : Nat), ∀ (i3 : Int), (zr_ls a_resets (fun k => a_moveE (a_way k).toNat) (fun k => a_moveF (a_way k).toNat) x.toNat  j0.toNat = zr_ls a_resets (fun k => a_moveE (a_way k).toNat) (fun k => a_moveF (a_way k).toNat) x.toNat  (i3 : Int).toNat) → (0 ≤ i3 ∧ i3 ≤ j0) → ((i3 : Int) - (0)).toNat < n → z_V p l e R s m args below meth c Q D A 24 ad 4 (z_zm ad ks s_edges s_isNeeded s_explored s_states s_isMoved s_runs s_runTime s_runMoves w_h a_machine a_from a_to a_channel a_resets a_guards a_guardOf a_limits a_limitOf a_places a_zones a_parent a_moveE a_moveF a_moves a_z a_ahead a_at a_amounts a_way a_moments a_runAt a_runClock) Y 0 0 2 [(0, .ref (ad 0)), (1, z_v x), (3, z_v i3)] [] := by
    intro n
    induction n with
    | zero => intro i3 JL I3 hm; exact absurd hm (Nat.not_lt_zero _)
    | succ n ih2 =>
      intro i3 JL I3 hm
      refine z_iloadn C 2 dX11_setAt_2 rfl rfl ?_
      refine z_if_le (t := 71) C dX11_setAt_3 (by decide) (by omega) (fun c1 => ?_) (fun c1 => ?_)
      · skip
        refine z_iloadn C 2 dX11_setAt_71 rfl rfl ?_
        rw [hQ]
        exact z_iret C hrt dX11_setAt_72 (⟨rfl, rfl, _, rfl, ⟨by omega, by rw [JL]; first | exact zr_ls_z (by omega) | exact zr_ls_y (by omega) (by omega) (by omega)⟩⟩) (by omega) (by omega)
      · skip
        refine z_aloadn C 0 dX11_setAt_6 rfl rfl ?_
        refine z_get C 0 (by decide) rfl rfl z_it11 5 (by decide) rfl fl_11_22 rfl dX11_setAt_7 ?_
        refine z_aloadn C 0 dX11_setAt_10 rfl rfl ?_
        refine z_get C 0 (by decide) rfl rfl z_it11 16 (by decide) rfl fl_11_50 rfl dX11_setAt_11 ?_
        refine z_aloadn C 0 dX11_setAt_14 rfl rfl ?_
        refine z_get C 0 (by decide) rfl rfl z_it11 23 (by decide) rfl fl_11_71 rfl dX11_setAt_15 ?_
        refine z_iloadn C 2 dX11_setAt_18 rfl rfl ?_
        refine z_iald C 20 (by decide) rfl (by decide) (by omega) (by omega) dX11_setAt_19 ?_
        have rx2 := Ha_way (i3 : Int).toNat
        generalize ex2 : a_way (i3 : Int).toNat = x2 at rx2 ⊢
        refine z_iald C 13 (by decide) rfl (by decide) (by omega) (by omega) dX11_setAt_20 ?_
        have rx3 := Ha_moveE (x2 : Int).toNat
        generalize ex3 : a_moveE (x2 : Int).toNat = x3 at rx3 ⊢
        have qx3 := hw (i3 : Int).toNat (by omega) (by omega)
        rw [ex2, ex3] at qx3
        refine z_iald C 5 (by decide) rfl (by decide) (by omega) (by omega) dX11_setAt_21 ?_
        have rx4 := Ha_resets (x3 : Int).toNat
        generalize ex4 : a_resets (x3 : Int).toNat = x4 at rx4 ⊢
        refine z_aloadn C 0 dX11_setAt_22 rfl rfl ?_
        refine z_get C 0 (by decide) rfl rfl z_it11 17 (by decide) rfl fl_11_53 rfl dX11_setAt_23 ?_
        refine z_aloadn C 0 dX11_setAt_26 rfl rfl ?_
        refine z_get C 0 (by decide) rfl rfl z_it11 23 (by decide) rfl fl_11_71 rfl dX11_setAt_27 ?_
        refine z_iloadn C 2 dX11_setAt_30 rfl rfl ?_
        refine z_iald C 20 (by decide) rfl (by decide) (by omega) (by omega) dX11_setAt_31 ?_
        rw [ex2]
        refine z_iald C 14 (by decide) rfl (by decide) (by omega) (by omega) dX11_setAt_32 ?_
        have rx5 := Ha_moveF (x2 : Int).toNat
        generalize ex5 : a_moveF (x2 : Int).toNat = x5 at rx5 ⊢
        refine z_iconst C dX11_setAt_33 ?_
        refine z_icmp_ne (t := 41) C dX11_setAt_34 (by decide) (by omega) (by omega) (fun c6 => ?_) (fun c6 => ?_)
        · skip
          refine z_aloadn C 0 dX11_setAt_41 rfl rfl ?_
          refine z_get C 0 (by decide) rfl rfl z_it11 5 (by decide) rfl fl_11_22 rfl dX11_setAt_42 ?_
          refine z_aloadn C 0 dX11_setAt_45 rfl rfl ?_
          refine z_get C 0 (by decide) rfl rfl z_it11 17 (by decide) rfl fl_11_53 rfl dX11_setAt_46 ?_
          refine z_aloadn C 0 dX11_setAt_49 rfl rfl ?_
          refine z_get C 0 (by decide) rfl rfl z_it11 23 (by decide) rfl fl_11_71 rfl dX11_setAt_50 ?_
          refine z_iloadn C 2 dX11_setAt_53 rfl rfl ?_
          refine z_iald C 20 (by decide) rfl (by decide) (by omega) (by omega) dX11_setAt_54 ?_
          rw [ex2]
          refine z_iald C 14 (by decide) rfl (by decide) (by omega) (by omega) dX11_setAt_55 ?_
          rw [ex5]
          refine z_iald C 5 (by decide) rfl (by decide) (by omega) (by omega) dX11_setAt_56 ?_
          have rx7 := Ha_resets (x5 : Int).toNat
          generalize ex7 : a_resets (x5 : Int).toNat = x7 at rx7 ⊢
          obtain ⟨b8, hb8, rb8⟩ := z_bits (z_i x4 ||| z_i x7)
          refine z_ior C hb8 dX11_setAt_57 ?_
          have qb8 := z_bitsE hb8 rb8
          have hor : b8 = (z_or a_resets (a_moveE (a_way (i3 : Int).toNat).toNat) (a_moveF (a_way (i3 : Int).toNat).toNat)) := by
            rw [← qb8]; clear hm; subst_vars; unfold z_or
            first | (rw [if_pos (by assumption)]; exact zo_or0 (Ha_resets _)) | rw [if_neg (by assumption)]
          refine z_iloadn C 1 dX11_setAt_58 rfl rfl ?_
          obtain ⟨b9, hb9, rb9⟩ := z_bits (z_i b8 >>> (z_i x &&& 31))
          refine z_ishr C hb9 dX11_setAt_59 ?_
          have qb9 := z_bitsE hb9 rb9
          refine z_iconst C dX11_setAt_60 ?_
          obtain ⟨b10, hb10, rb10⟩ := z_bits (z_i b9 &&& z_i 1)
          refine z_iand C hb10 dX11_setAt_61 ?_
          have qb10 := z_bitsE hb10 rb10
          have hb61 : z_btv (z_or a_resets (a_moveE (a_way (i3 : Int).toNat).toNat) (a_moveF (a_way (i3 : Int).toNat).toNat)) x = b10 := by rw [← hor, ← qb10, ← qb9]; rfl
          refine z_if_ne (t := 71) C dX11_setAt_62 (by decide) (by omega) (fun c11 => ?_) (fun c11 => ?_)
          · skip
            refine z_iloadn C 2 dX11_setAt_71 rfl rfl ?_
            rw [hQ]
            exact z_iret C hrt dX11_setAt_72 (⟨rfl, rfl, _, rfl, ⟨by omega, by rw [JL]; first | exact zr_ls_z (by omega) | exact zr_ls_y (by omega) (by omega) (by omega)⟩⟩) (by omega) (by omega)
          · skip
            refine z_iinc (L' := [(3, z_v (i3 + (-1))), (0, .ref (ad 0)), (1, z_v x)]) C 2 dX11_setAt_65 rfl (by decide) rfl ?_
            refine z_goto (t := 2) C dX11_setAt_68 (by decide) ?_
            refine z_loc (L' := [(0, .ref (ad 0)), (1, z_v x), (3, z_v (i3 + (-1)))]) [1, 2, 0] rfl ?_
            exact ih2 (i3 + (-1)) (JL.trans (zr_ls_no (by omega) (by omega) (by omega))) (by omega) (by omega)
        · skip
          refine z_iconst C dX11_setAt_37 ?_
          refine z_goto (t := 57) C dX11_setAt_38 (by decide) ?_
          obtain ⟨b12, hb12, rb12⟩ := z_bits (z_i x4 ||| z_i 0)
          refine z_ior C hb12 dX11_setAt_57 ?_
          have qb12 := z_bitsE hb12 rb12
          have hor : b12 = (z_or a_resets (a_moveE (a_way (i3 : Int).toNat).toNat) (a_moveF (a_way (i3 : Int).toNat).toNat)) := by
            rw [← qb12]; clear hm; subst_vars; unfold z_or
            first | (rw [if_pos (by assumption)]; exact zo_or0 (Ha_resets _)) | rw [if_neg (by assumption)]
          refine z_iloadn C 1 dX11_setAt_58 rfl rfl ?_
          obtain ⟨b13, hb13, rb13⟩ := z_bits (z_i b12 >>> (z_i x &&& 31))
          refine z_ishr C hb13 dX11_setAt_59 ?_
          have qb13 := z_bitsE hb13 rb13
          refine z_iconst C dX11_setAt_60 ?_
          obtain ⟨b14, hb14, rb14⟩ := z_bits (z_i b13 &&& z_i 1)
          refine z_iand C hb14 dX11_setAt_61 ?_
          have qb14 := z_bitsE hb14 rb14
          have hb61 : z_btv (z_or a_resets (a_moveE (a_way (i3 : Int).toNat).toNat) (a_moveF (a_way (i3 : Int).toNat).toNat)) x = b14 := by rw [← hor, ← qb14, ← qb13]; rfl
          refine z_if_ne (t := 71) C dX11_setAt_62 (by decide) (by omega) (fun c15 => ?_) (fun c15 => ?_)
          · skip
            refine z_iloadn C 2 dX11_setAt_71 rfl rfl ?_
            rw [hQ]
            exact z_iret C hrt dX11_setAt_72 (⟨rfl, rfl, _, rfl, ⟨by omega, by rw [JL]; first | exact zr_ls_z (by omega) | exact zr_ls_y (by omega) (by omega) (by omega)⟩⟩) (by omega) (by omega)
          · skip
            refine z_iinc (L' := [(3, z_v (i3 + (-1))), (0, .ref (ad 0)), (1, z_v x)]) C 2 dX11_setAt_65 rfl (by decide) rfl ?_
            refine z_goto (t := 2) C dX11_setAt_68 (by decide) ?_
            refine z_loc (L' := [(0, .ref (ad 0)), (1, z_v x), (3, z_v (i3 + (-1)))]) [1, 2, 0] rfl ?_
            exact ih2 (i3 + (-1)) (JL.trans (zr_ls_no (by omega) (by omega) (by omega))) (by omega) (by omega)
  refine z_loc (L' := [(0, .ref (ad 0)), (1, z_v x), (3, z_v j0)]) [1, 2, 0] rfl ?_
  exact (L2 (((j0 : Int) - (0)).toNat + 1)) j0 (rfl) (by omega) (Nat.lt_succ_self _)
set_option maxRecDepth 20000 in
theorem cx_X11_askGuards (l : Launch) {D : va_G} {A : Nat → Prop} {ad : Nat → Nat} {ks : z_Ks} {s_edges s_isNeeded s_explored s_states s_isMoved s_runs s_runTime s_runMoves : Int} {w_h : Int64} {a_machine a_from a_to a_channel a_resets a_guards a_guardOf a_limits a_limitOf a_places a_zones a_parent a_moveE a_moveF a_moves a_z a_ahead a_at a_amounts a_way a_moments a_runAt a_runClock : Nat → Int} {Y : Nat → Option va_E} {nn : Nat} {L : Nat → Int} (j0 e0 : Int) (Ha_resets : (∀ j, z_rg (a_resets j))) (Ha_moveE : (∀ j, -1 ≤ a_moveE j ∧ a_moveE j ≤ 19)) (Ha_moveF : (∀ j, -1 ≤ a_moveF j ∧ a_moveF j ≤ 19)) (Ha_way : (∀ j, 0 ≤ a_way j ∧ a_way j ≤ 119)) (Ha_guards : (∀ j, 0 ≤ a_guards j ∧ a_guards j ≤ 2)) (Ha_guardOf : (∀ j, (j % 3 = 0 → a_guardOf j ≤ 3) ∧ 0 ≤ a_guardOf j ∧ a_guardOf j ≤ 1000)) (Hs_isMoved : (s_isMoved = 0 ∨ s_isMoved = 1)) (Ha_moments : (∀ j, z_rg (a_moments j))) (hj : 1 ≤ j0 ∧ j0 ≤ (nn : Int)) (he : 0 ≤ e0 ∧ e0 ≤ 19) (hn : nn ≤ 40) (hw : ∀ k : Nat, 1 ≤ k → k ≤ nn → 0 ≤ a_moveE (a_way k).toNat) (hV : ∀ v, v ≤ nn → 0 ≤ a_moments v ∧ a_moments v ≤ L v ∧ L v ≤ 2560040) (htr : zo_tr (a_guards e0.toNat) a_guardOf (6 * e0)) (hS : zs_S (zs_tsE (a_guards e0.toNat) a_guardOf (6 * e0) (zs_R a_resets (fun k => a_moveE (a_way k).toNat) (fun k => a_moveF (a_way k).toNat) (j0 - 1 : Int).toNat) j0.toNat) L) : z_Met l yX11_askGuards cX11_askGuards 5 none 2 47 0 0 D A 24 ad ks [.ref (ad 0), z_v j0, z_v e0] (z_zm ad ks s_edges s_isNeeded s_explored s_states s_isMoved s_runs s_runTime s_runMoves w_h a_machine a_from a_to a_channel a_resets a_guards a_guardOf a_limits a_limitOf a_places a_zones a_parent a_moveE a_moveF a_moves a_z a_ahead a_at a_amounts a_way a_moments a_runAt a_runClock) Y (fun r S' Y' => ∃ ns_isMoved : Int, ∃ na_moments : Nat → Int, S' = (z_zm ad ks s_edges s_isNeeded s_explored s_states ns_isMoved s_runs s_runTime s_runMoves w_h a_machine a_from a_to a_channel a_resets a_guards a_guardOf a_limits a_limitOf a_places a_zones a_parent a_moveE a_moveF a_moves a_z a_ahead a_at a_amounts a_way na_moments a_runAt a_runClock) ∧ Y = Y' ∧ (ns_isMoved = 0 ∨ ns_isMoved = 1) ∧ (∀ j, z_rg (na_moments j)) ∧ zs_ad (zs_tsE (a_guards e0.toNat) a_guardOf (6 * e0) (zs_R a_resets (fun k => a_moveE (a_way k).toNat) (fun k => a_moveF (a_way k).toNat) (j0 - 1 : Int).toNat) j0.toNat) nn L a_moments na_moments s_isMoved ns_isMoved ∧ r = none) := by
  refine z_start2 (by decide) (Nat.le_of_ble_eq_true rfl) ?_
  intro p e R s m args below meth c Q C hRf hRc hRs hRl hQ hrt hnm
  refine z_loc (L' := [(0, .ref (ad 0)), (1, z_v j0), (2, z_v e0)]) [0, 1, 2] rfl ?_
  refine z_iconst C dX11_askGuards_0 ?_
  refine z_istoren (L' := [(3, z_v 0), (0, .ref (ad 0)), (1, z_v j0), (2, z_v e0)]) C dX11_askGuards_1 rfl (by decide) rfl ?_
  have L2 : ∀ (n : Nat), ∀ (i3 : Int) (fs_isMoved : Int) (fa_moments : Nat → Int), ((fs_isMoved = 0 ∨ fs_isMoved = 1)) → ((∀ j, z_rg (fa_moments j))) → (i3 ≤ a_guards e0.toNat) → (zs_ad (zs_tsE i3 a_guardOf (6 * e0) (zs_R a_resets (fun k => a_moveE (a_way k).toNat) (fun k => a_moveF (a_way k).toNat) (j0 - 1 : Int).toNat) j0.toNat) nn L a_moments fa_moments s_isMoved fs_isMoved) → (0 ≤ i3 ∧ i3 ≤ 2) → ((2 : Int) - i3).toNat < n → z_V p l e R s m args below meth c Q D A 24 ad 5 (z_zm ad ks s_edges s_isNeeded s_explored s_states fs_isMoved s_runs s_runTime s_runMoves w_h a_machine a_from a_to a_channel a_resets a_guards a_guardOf a_limits a_limitOf a_places a_zones a_parent a_moveE a_moveF a_moves a_z a_ahead a_at a_amounts a_way fa_moments a_runAt a_runClock) Y 0 0 2 [(0, .ref (ad 0)), (1, z_v j0), (2, z_v e0), (3, z_v i3)] [] := by
    intro n
    induction n with
    | zero => intro i3 fs_isMoved fa_moments Hfs_isMoved Hfa_moments J3 FD I3 hm; exact absurd hm (Nat.not_lt_zero _)
    | succ n ih2 =>
      intro i3 fs_isMoved fa_moments Hfs_isMoved Hfa_moments J3 FD I3 hm
      refine z_iloadn C 3 dX11_askGuards_2 rfl rfl ?_
      refine z_aloadn C 0 dX11_askGuards_3 rfl rfl ?_
      refine z_get C 0 (by decide) rfl rfl z_it11 6 (by decide) rfl fl_11_25 rfl dX11_askGuards_4 ?_
      refine z_iloadn C 2 dX11_askGuards_7 rfl rfl ?_
      refine z_iald C 6 (by decide) rfl (by decide) (by omega) (by omega) dX11_askGuards_8 ?_
      have rx1 := Ha_guards (e0 : Int).toNat
      generalize ex1 : a_guards (e0 : Int).toNat = x1 at rx1 ⊢
      refine z_icmp_ge (t := 65) C dX11_askGuards_9 (by decide) (by omega) (by omega) (fun c2 => ?_) (fun c2 => ?_)
      · skip
        rw [hQ]
        exact z_vret C hrt dX11_askGuards_65 (⟨fs_isMoved, fa_moments, rfl, rfl, by omega, Hfa_moments, FD.sub (fun b a w kk => by rw [show i3 = a_guards e0.toNat by omega]; exact kk), rfl⟩) (by omega) (by omega)
      · skip
        refine z_bipush C dX11_askGuards_12 (by decide) ?_
        refine z_iloadn C 2 dX11_askGuards_14 rfl rfl ?_
        refine z_imul C dX11_askGuards_15 ?_
        refine z_iconst C dX11_askGuards_16 ?_
        refine z_iloadn C 3 dX11_askGuards_17 rfl rfl ?_
        refine z_imul C dX11_askGuards_18 ?_
        refine z_iadd C dX11_askGuards_19 ?_
        refine z_istore (L' := [(4, z_v ((6 * e0) + (3 * i3))), (0, .ref (ad 0)), (1, z_v j0), (2, z_v e0), (3, z_v i3)]) C dX11_askGuards_20 (by decide) rfl ?_
        refine z_aloadn C 1 dX11_askGuards_22 rfl rfl ?_
        refine z_iloadn C 2 dX11_askGuards_23 rfl rfl ?_
        refine z_aloadn C 1 dX11_askGuards_24 rfl rfl ?_
        refine z_aloadn C 1 dX11_askGuards_25 rfl rfl ?_
        refine z_get C 0 (by decide) rfl rfl z_it11 7 (by decide) rfl fl_11_28 rfl dX11_askGuards_26 ?_
        refine z_iload C 0 dX11_askGuards_29 rfl ?_
        refine z_iald C 7 (by decide) rfl (by decide) (by omega) (by omega) dX11_askGuards_31 ?_
        have rx3 := Ha_guardOf (((6 * e0) + (3 * i3)) : Int).toNat
        generalize ex3 : a_guardOf (((6 * e0) + (3 * i3)) : Int).toNat = x3 at rx3 ⊢
        have e31 := ex3
        have t31 := (htr i3 (by omega) (by omega)).1
        rw [e31] at t31
        refine z_iloadn C 2 dX11_askGuards_32 rfl rfl ?_
        refine z_iconst C dX11_askGuards_33 ?_
        refine z_isub C dX11_askGuards_34 ?_
        refine z_callV C (cx_X11_setAt l x3 (j0 - 1) Ha_resets Ha_moveE Ha_moveF Ha_way (by omega) (by omega) (by omega) hw) mv_11_186 (z_atS 0 11 (by decide) rfl rfl rfl) pd_X11_setAt ⟨by omega, by omega⟩ ⟨by omega, by omega⟩ rfl (Nat.le_of_ble_eq_true rfl) dX11_askGuards_35 ?_
        rintro _ _ _ ⟨rfl, rfl, z6, rfl, hz6⟩
        have hsa := hz6.2
        refine z_aloadn C 1 dX11_askGuards_38 rfl rfl ?_
        refine z_get C 0 (by decide) rfl rfl z_it11 7 (by decide) rfl fl_11_28 rfl dX11_askGuards_39 ?_
        refine z_iload C 0 dX11_askGuards_42 rfl ?_
        refine z_iconst C dX11_askGuards_44 ?_
        refine z_iadd C dX11_askGuards_45 ?_
        refine z_iald C 7 (by decide) rfl (by decide) (by omega) (by omega) dX11_askGuards_46 ?_
        have rx7 := Ha_guardOf ((((6 * e0) + (3 * i3)) + 1) : Int).toNat
        generalize ex7 : a_guardOf ((((6 * e0) + (3 * i3)) + 1) : Int).toNat = x7 at rx7 ⊢
        have e46 := ex7
        have t46 := (htr i3 (by omega) (by omega)).2.1
        rw [e46] at t46
        refine z_aloadn C 1 dX11_askGuards_47 rfl rfl ?_
        refine z_get C 0 (by decide) rfl rfl z_it11 7 (by decide) rfl fl_11_28 rfl dX11_askGuards_48 ?_
        refine z_iload C 0 dX11_askGuards_51 rfl ?_
        refine z_iconst C dX11_askGuards_53 ?_
        refine z_iadd C dX11_askGuards_54 ?_
        refine z_iald C 7 (by decide) rfl (by decide) (by omega) (by omega) dX11_askGuards_55 ?_
        have rx8 := Ha_guardOf ((((6 * e0) + (3 * i3)) + 2) : Int).toNat
        generalize ex8 : a_guardOf ((((6 * e0) + (3 * i3)) + 2) : Int).toNat = x8 at rx8 ⊢
        have e55 := ex8
        have t55 := (htr i3 (by omega) (by omega)).2.2
        rw [e55] at t55
        refine z_callV C (cx_X11_ask l j0 z6 x7 x8 (by omega) Hfa_moments (by omega) (by omega) (by omega) (by omega) (by omega) (zs_hV hV FD) (fun b a w h => hS b a w ⟨i3, by omega, by omega, (zs_as e31 e46 e55 hsa).mp h⟩)) mv_11_189 (z_atS 0 11 (by decide) rfl rfl rfl) pd_X11_ask ⟨by omega, by omega⟩ ⟨by omega, by omega⟩ rfl (Nat.le_of_ble_eq_true rfl) dX11_askGuards_56 ?_
        rintro _ _ _ ⟨n9, n10, rfl, rfl, h13, h14, q56_0, rfl⟩
        refine z_iinc (L' := [(3, z_v (i3 + 1)), (4, z_v ((6 * e0) + (3 * i3))), (0, .ref (ad 0)), (1, z_v j0), (2, z_v e0)]) C 4 dX11_askGuards_59 rfl (by decide) rfl ?_
        refine z_goto (t := 2) C dX11_askGuards_62 (by decide) ?_
        refine z_loc (L' := [(0, .ref (ad 0)), (1, z_v j0), (2, z_v e0), (3, z_v (i3 + 1))]) [2, 3, 4, 0] rfl ?_
        exact ih2 (i3 + 1) n9 n10 (by omega) h14 (by omega) (FD.cat q56_0 (fun b a w h => (zs_tsE_s h).imp id (zs_as e31 e46 e55 hsa).mpr)) (by omega) (by omega)
  refine z_loc (L' := [(0, .ref (ad 0)), (1, z_v j0), (2, z_v e0), (3, z_v 0)]) [1, 2, 3, 0] rfl ?_
  exact (L2 (((2 : Int) - 0).toNat + 1)) 0 s_isMoved a_moments (by omega) Ha_moments (by have := Ha_guards e0.toNat; omega) (zs_ad.nil (fun v hv => (hV v hv).2.1) (fun b a w => zs_tsE_0 (by omega))) (by omega) (Nat.lt_succ_self _)
set_option maxRecDepth 20000 in
theorem cx_X11_askLimits (l : Launch) {D : va_G} {A : Nat → Prop} {ad : Nat → Nat} {ks : z_Ks} {s_edges s_isNeeded s_explored s_states s_isMoved s_runs s_runTime s_runMoves : Int} {w_h : Int64} {a_machine a_from a_to a_channel a_resets a_guards a_guardOf a_limits a_limitOf a_places a_zones a_parent a_moveE a_moveF a_moves a_z a_ahead a_at a_amounts a_way a_moments a_runAt a_runClock : Nat → Int} {Y : Nat → Option va_E} {nn : Nat} {L : Nat → Int} (t0 j0 u0 : Int) (Ha_resets : (∀ j, z_rg (a_resets j))) (Ha_moveE : (∀ j, -1 ≤ a_moveE j ∧ a_moveE j ≤ 19)) (Ha_moveF : (∀ j, -1 ≤ a_moveF j ∧ a_moveF j ≤ 19)) (Ha_way : (∀ j, 0 ≤ a_way j ∧ a_way j ≤ 119)) (Ha_places : (∀ j, 0 ≤ a_places j ∧ a_places j ≤ 5)) (Ha_limits : (∀ j, 0 ≤ a_limits j ∧ a_limits j ≤ 2)) (Ha_limitOf : (∀ j, (j % 3 = 0 → a_limitOf j ≤ 3) ∧ 0 ≤ a_limitOf j ∧ a_limitOf j ≤ 1000)) (Hs_isMoved : (s_isMoved = 0 ∨ s_isMoved = 1)) (Ha_moments : (∀ j, z_rg (a_moments j))) (ht : 0 ≤ t0 ∧ t0 ≤ 119) (hj : 0 ≤ j0 ∧ j0 ≤ (nn : Int)) (hu : 0 ≤ u0 ∧ u0 ≤ (nn : Int)) (hn : nn ≤ 40) (hw : ∀ k : Nat, 1 ≤ k → k ≤ nn → 0 ≤ a_moveE (a_way k).toNat) (hV : ∀ v, v ≤ nn → 0 ≤ a_moments v ∧ a_moments v ≤ L v ∧ L v ≤ 2560040) (hlr : ∀ k : Int, 0 ≤ k → k < 18 → zo_tr (a_limits k.toNat) a_limitOf (6 * k)) (hS : zs_S (zs_liP 3 a_limits a_limitOf (fun m => a_places (3 * t0.toNat + m)) (zs_R a_resets (fun k => a_moveE (a_way k).toNat) (fun k => a_moveF (a_way k).toNat) u0.toNat) j0.toNat) L) : z_Met l yX11_askLimits cX11_askLimits 8 none 2 47 0 0 D A 24 ad ks [.ref (ad 0), z_v t0, z_v j0, z_v u0] (z_zm ad ks s_edges s_isNeeded s_explored s_states s_isMoved s_runs s_runTime s_runMoves w_h a_machine a_from a_to a_channel a_resets a_guards a_guardOf a_limits a_limitOf a_places a_zones a_parent a_moveE a_moveF a_moves a_z a_ahead a_at a_amounts a_way a_moments a_runAt a_runClock) Y (fun r S' Y' => ∃ ns_isMoved : Int, ∃ na_moments : Nat → Int, S' = (z_zm ad ks s_edges s_isNeeded s_explored s_states ns_isMoved s_runs s_runTime s_runMoves w_h a_machine a_from a_to a_channel a_resets a_guards a_guardOf a_limits a_limitOf a_places a_zones a_parent a_moveE a_moveF a_moves a_z a_ahead a_at a_amounts a_way na_moments a_runAt a_runClock) ∧ Y = Y' ∧ (ns_isMoved = 0 ∨ ns_isMoved = 1) ∧ (∀ j, z_rg (na_moments j)) ∧ zs_ad (zs_liP 3 a_limits a_limitOf (fun m => a_places (3 * t0.toNat + m)) (zs_R a_resets (fun k => a_moveE (a_way k).toNat) (fun k => a_moveF (a_way k).toNat) u0.toNat) j0.toNat) nn L a_moments na_moments s_isMoved ns_isMoved ∧ r = none) := by
  refine z_start2 (by decide) (Nat.le_of_ble_eq_true rfl) ?_
  intro p e R s m args below meth c Q C hRf hRc hRs hRl hQ hrt hnm
  refine z_loc (L' := [(0, .ref (ad 0)), (1, z_v t0), (2, z_v j0), (3, z_v u0)]) [0, 1, 2, 3] rfl ?_
  refine z_iconst C dX11_askLimits_0 ?_
  refine z_istore (L' := [(4, z_v 0), (0, .ref (ad 0)), (1, z_v t0), (2, z_v j0), (3, z_v u0)]) C dX11_askLimits_1 (by decide) rfl ?_
  have L3 : ∀ (n : Nat), ∀ (i4 : Int) (fs_isMoved : Int) (fa_moments : Nat → Int), ((fs_isMoved = 0 ∨ fs_isMoved = 1)) → ((∀ j, z_rg (fa_moments j))) → (zs_ad (zs_liP i4 a_limits a_limitOf (fun m => a_places (3 * t0.toNat + m)) (zs_R a_resets (fun k => a_moveE (a_way k).toNat) (fun k => a_moveF (a_way k).toNat) u0.toNat) j0.toNat) nn L a_moments fa_moments s_isMoved fs_isMoved) → (0 ≤ i4 ∧ i4 ≤ 3) → ((3 : Int) - i4).toNat < n → z_V p l e R s m args below meth c Q D A 24 ad 8 (z_zm ad ks s_edges s_isNeeded s_explored s_states fs_isMoved s_runs s_runTime s_runMoves w_h a_machine a_from a_to a_channel a_resets a_guards a_guardOf a_limits a_limitOf a_places a_zones a_parent a_moveE a_moveF a_moves a_z a_ahead a_at a_amounts a_way fa_moments a_runAt a_runClock) Y 0 0 3 [(0, .ref (ad 0)), (1, z_v t0), (2, z_v j0), (3, z_v u0), (4, z_v i4)] [] := by
    intro n
    induction n with
    | zero => intro i4 fs_isMoved fa_moments Hfs_isMoved Hfa_moments FD I4 hm; exact absurd hm (Nat.not_lt_zero _)
    | succ n ih3 =>
      intro i4 fs_isMoved fa_moments Hfs_isMoved Hfa_moments FD I4 hm
      refine z_iload C 4 dX11_askLimits_3 rfl ?_
      refine z_iconst C dX11_askLimits_5 ?_
      refine z_icmp_ge (t := 102) C dX11_askLimits_6 (by decide) (by omega) (by omega) (fun c1 => ?_) (fun c1 => ?_)
      · skip
        rw [hQ]
        exact z_vret C hrt dX11_askLimits_102 (⟨fs_isMoved, fa_moments, rfl, rfl, by omega, Hfa_moments, FD.sub (fun b a w kk => by rw [show i4 = 3 by omega]; exact kk), rfl⟩) (by omega) (by omega)
      · skip
        refine z_bipush C dX11_askLimits_9 (by decide) ?_
        refine z_iload C 4 dX11_askLimits_11 rfl ?_
        refine z_imul C dX11_askLimits_13 ?_
        refine z_aloadn C 0 dX11_askLimits_14 rfl rfl ?_
        refine z_get C 0 (by decide) rfl rfl z_it11 13 (by decide) rfl fl_11_41 rfl dX11_askLimits_15 ?_
        refine z_iconst C dX11_askLimits_18 ?_
        refine z_iloadn C 1 dX11_askLimits_19 rfl rfl ?_
        refine z_imul C dX11_askLimits_20 ?_
        refine z_iload C 4 dX11_askLimits_21 rfl ?_
        refine z_iadd C dX11_askLimits_23 ?_
        refine z_iald C 10 (by decide) rfl (by decide) (by omega) (by omega) dX11_askLimits_24 ?_
        have rx2 := Ha_places (((3 * t0) + i4) : Int).toNat
        generalize ex2 : a_places (((3 * t0) + i4) : Int).toNat = x2 at rx2 ⊢
        have ep : a_places (3 * t0.toNat + (i4 : Int).toNat) = x2 := by rw [← ex2]; congr 1; omega
        refine z_iadd C dX11_askLimits_25 ?_
        refine z_istore (L' := [(5, z_v ((6 * i4) + x2)), (0, .ref (ad 0)), (1, z_v t0), (2, z_v j0), (3, z_v u0), (4, z_v i4)]) C dX11_askLimits_26 (by decide) rfl ?_
        refine z_iconst C dX11_askLimits_28 ?_
        refine z_istore (L' := [(6, z_v 0), (5, z_v ((6 * i4) + x2)), (0, .ref (ad 0)), (1, z_v t0), (2, z_v j0), (3, z_v u0), (4, z_v i4)]) C dX11_askLimits_29 (by decide) rfl ?_
        have L31 : ∀ (n : Nat), ∀ (i6 : Int) (fs_isMoved : Int) (fa_moments : Nat → Int), ((fs_isMoved = 0 ∨ fs_isMoved = 1)) → ((∀ j, z_rg (fa_moments j))) → (i6 ≤ a_limits (6 * i4 + a_places (3 * t0.toNat + (i4 : Int).toNat) : Int).toNat) → (zs_ad (fun b a w => zs_liP i4 a_limits a_limitOf (fun m => a_places (3 * t0.toNat + m)) (zs_R a_resets (fun k => a_moveE (a_way k).toNat) (fun k => a_moveF (a_way k).toNat) u0.toNat) j0.toNat b a w ∨ zs_tsE i6 a_limitOf (6 * (6 * i4 + a_places (3 * t0.toNat + (i4 : Int).toNat))) (zs_R a_resets (fun k => a_moveE (a_way k).toNat) (fun k => a_moveF (a_way k).toNat) u0.toNat) j0.toNat b a w) nn L a_moments fa_moments s_isMoved fs_isMoved) → (0 ≤ i6 ∧ i6 ≤ 2) → ((2 : Int) - i6).toNat < n → z_V p l e R s m args below meth c Q D A 24 ad 8 (z_zm ad ks s_edges s_isNeeded s_explored s_states fs_isMoved s_runs s_runTime s_runMoves w_h a_machine a_from a_to a_channel a_resets a_guards a_guardOf a_limits a_limitOf a_places a_zones a_parent a_moveE a_moveF a_moves a_z a_ahead a_at a_amounts a_way fa_moments a_runAt a_runClock) Y 0 0 31 [(0, .ref (ad 0)), (1, z_v t0), (2, z_v j0), (3, z_v u0), (4, z_v i4), (5, z_v ((6 * i4) + x2)), (6, z_v i6)] [] := by
          intro n
          induction n with
          | zero => intro i6 fs_isMoved fa_moments Hfs_isMoved Hfa_moments J6 GD I6 hm; exact absurd hm (Nat.not_lt_zero _)
          | succ n ih31 =>
            intro i6 fs_isMoved fa_moments Hfs_isMoved Hfa_moments J6 GD I6 hm
            refine z_iload C 6 dX11_askLimits_31 rfl ?_
            refine z_aloadn C 0 dX11_askLimits_33 rfl rfl ?_
            refine z_get C 0 (by decide) rfl rfl z_it11 8 (by decide) rfl fl_11_31 rfl dX11_askLimits_34 ?_
            refine z_iload C 5 dX11_askLimits_37 rfl ?_
            refine z_iald C 8 (by decide) rfl (by decide) (by omega) (by omega) dX11_askLimits_39 ?_
            have rx3 := Ha_limits (((6 * i4) + x2) : Int).toNat
            generalize ex3 : a_limits (((6 * i4) + x2) : Int).toNat = x3 at rx3 ⊢
            have e39 := ex3
            have hK39 := hlr (((6 * i4) + x2) : Int) (by omega) (by omega)
            rw [e39] at hK39
            refine z_icmp_ge (t := 96) C dX11_askLimits_40 (by decide) (by omega) (by omega) (fun c4 => ?_) (fun c4 => ?_)
            · skip
              refine z_iinc (L' := [(4, z_v (i4 + 1)), (0, .ref (ad 0)), (1, z_v t0), (2, z_v j0), (3, z_v u0), (5, z_v ((6 * i4) + x2)), (6, z_v i6)]) C 4 dX11_askLimits_96 rfl (by decide) rfl ?_
              refine z_goto (t := 3) C dX11_askLimits_99 (by decide) ?_
              refine z_loc (L' := [(0, .ref (ad 0)), (1, z_v t0), (2, z_v j0), (3, z_v u0), (4, z_v (i4 + 1))]) [1, 2, 3, 4, 0] rfl ?_
              exact ih3 (i4 + 1) fs_isMoved fa_moments (by omega) Hfa_moments (GD.sub (fun b a w h => (zs_liP_s h).imp id (fun kk => by rw [show i6 = a_limits (6 * i4 + a_places (3 * t0.toNat + (i4 : Int).toNat) : Int).toNat by (rw [ep] at J6 ⊢; omega)]; exact kk))) (by omega) (by omega)
            · skip
              refine z_bipush C dX11_askLimits_43 (by decide) ?_
              refine z_iload C 5 dX11_askLimits_45 rfl ?_
              refine z_imul C dX11_askLimits_47 ?_
              refine z_iconst C dX11_askLimits_48 ?_
              refine z_iload C 6 dX11_askLimits_49 rfl ?_
              refine z_imul C dX11_askLimits_51 ?_
              refine z_iadd C dX11_askLimits_52 ?_
              refine z_istore (L' := [(7, z_v ((6 * ((6 * i4) + x2)) + (3 * i6))), (0, .ref (ad 0)), (1, z_v t0), (2, z_v j0), (3, z_v u0), (4, z_v i4), (5, z_v ((6 * i4) + x2)), (6, z_v i6)]) C dX11_askLimits_53 (by decide) rfl ?_
              refine z_aloadn C 1 dX11_askLimits_55 rfl rfl ?_
              refine z_iloadn C 3 dX11_askLimits_56 rfl rfl ?_
              refine z_aloadn C 1 dX11_askLimits_57 rfl rfl ?_
              refine z_aloadn C 1 dX11_askLimits_58 rfl rfl ?_
              refine z_get C 0 (by decide) rfl rfl z_it11 9 (by decide) rfl fl_11_34 rfl dX11_askLimits_59 ?_
              refine z_iload C 0 dX11_askLimits_62 rfl ?_
              refine z_iald C 9 (by decide) rfl (by decide) (by omega) (by omega) dX11_askLimits_64 ?_
              have rx5 := Ha_limitOf (((6 * ((6 * i4) + x2)) + (3 * i6)) : Int).toNat
              generalize ex5 : a_limitOf (((6 * ((6 * i4) + x2)) + (3 * i6)) : Int).toNat = x5 at rx5 ⊢
              have e64 := ex5
              have t64 := (hK39 i6 (by omega) (by omega)).1
              rw [e64] at t64
              refine z_iloadn C 4 dX11_askLimits_65 rfl rfl ?_
              refine z_callV C (cx_X11_setAt l x5 u0 Ha_resets Ha_moveE Ha_moveF Ha_way (by omega) (by omega) (by omega) hw) mv_11_186 (z_atS 0 11 (by decide) rfl rfl rfl) pd_X11_setAt ⟨by omega, by omega⟩ ⟨by omega, by omega⟩ rfl (Nat.le_of_ble_eq_true rfl) dX11_askLimits_66 ?_
              rintro _ _ _ ⟨rfl, rfl, z8, rfl, hz8⟩
              have hsa := hz8.2
              refine z_aloadn C 1 dX11_askLimits_69 rfl rfl ?_
              refine z_get C 0 (by decide) rfl rfl z_it11 9 (by decide) rfl fl_11_34 rfl dX11_askLimits_70 ?_
              refine z_iload C 0 dX11_askLimits_73 rfl ?_
              refine z_iconst C dX11_askLimits_75 ?_
              refine z_iadd C dX11_askLimits_76 ?_
              refine z_iald C 9 (by decide) rfl (by decide) (by omega) (by omega) dX11_askLimits_77 ?_
              have rx9 := Ha_limitOf ((((6 * ((6 * i4) + x2)) + (3 * i6)) + 1) : Int).toNat
              generalize ex9 : a_limitOf ((((6 * ((6 * i4) + x2)) + (3 * i6)) + 1) : Int).toNat = x9 at rx9 ⊢
              have e77 := ex9
              have t77 := (hK39 i6 (by omega) (by omega)).2.1
              rw [e77] at t77
              refine z_aloadn C 1 dX11_askLimits_78 rfl rfl ?_
              refine z_get C 0 (by decide) rfl rfl z_it11 9 (by decide) rfl fl_11_34 rfl dX11_askLimits_79 ?_
              refine z_iload C 0 dX11_askLimits_82 rfl ?_
              refine z_iconst C dX11_askLimits_84 ?_
              refine z_iadd C dX11_askLimits_85 ?_
              refine z_iald C 9 (by decide) rfl (by decide) (by omega) (by omega) dX11_askLimits_86 ?_
              have rx10 := Ha_limitOf ((((6 * ((6 * i4) + x2)) + (3 * i6)) + 2) : Int).toNat
              generalize ex10 : a_limitOf ((((6 * ((6 * i4) + x2)) + (3 * i6)) + 2) : Int).toNat = x10 at rx10 ⊢
              have e86 := ex10
              have t86 := (hK39 i6 (by omega) (by omega)).2.2
              rw [e86] at t86
              refine z_callV C (cx_X11_ask l j0 z8 x9 x10 (by omega) Hfa_moments (by omega) (by omega) (by omega) (by omega) (by omega) (zs_hV hV GD) (fun b a w h => hS b a w ⟨i4, by omega, by omega, by show zs_tsE _ _ (6 * (6 * i4 + a_places (3 * t0.toNat + (i4 : Int).toNat))) _ _ b a w; rw [ep]; exact ⟨i6, by omega, by (show i6 < a_limits (6 * i4 + a_places (3 * t0.toNat + (i4 : Int).toNat) : Int).toNat; rw [ep, e39]; omega), (zs_as e64 e77 e86 hsa).mp h⟩⟩)) mv_11_189 (z_atS 0 11 (by decide) rfl rfl rfl) pd_X11_ask ⟨by omega, by omega⟩ ⟨by omega, by omega⟩ rfl (Nat.le_of_ble_eq_true rfl) dX11_askLimits_87 ?_
              rintro _ _ _ ⟨n11, n12, rfl, rfl, h15, h16, q87_0, rfl⟩
              refine z_iinc (L' := [(6, z_v (i6 + 1)), (7, z_v ((6 * ((6 * i4) + x2)) + (3 * i6))), (0, .ref (ad 0)), (1, z_v t0), (2, z_v j0), (3, z_v u0), (4, z_v i4), (5, z_v ((6 * i4) + x2))]) C 7 dX11_askLimits_90 rfl (by decide) rfl ?_
              refine z_goto (t := 31) C dX11_askLimits_93 (by decide) ?_
              refine z_loc (L' := [(0, .ref (ad 0)), (1, z_v t0), (2, z_v j0), (3, z_v u0), (4, z_v i4), (5, z_v ((6 * i4) + x2)), (6, z_v (i6 + 1))]) [2, 3, 4, 5, 6, 7, 0] rfl ?_
              exact ih31 (i6 + 1) n11 n12 (by omega) h16 (by rw [ep] at J6 ⊢; omega) (by rw [ep] at GD ⊢; exact GD.cat q87_0 (fun b a w h => h.elim (fun h => Or.inl (Or.inl h)) (fun h => (zs_tsE_s h).elim (fun h => Or.inl (Or.inr h)) (fun h => Or.inr ((zs_as e64 e77 e86 hsa).mpr h))))) (by omega) (by omega)
        refine z_loc (L' := [(0, .ref (ad 0)), (1, z_v t0), (2, z_v j0), (3, z_v u0), (4, z_v i4), (5, z_v ((6 * i4) + x2)), (6, z_v 0)]) [2, 3, 4, 5, 6, 1, 0] rfl ?_
        exact (L31 (((2 : Int) - 0).toNat + 1)) 0 fs_isMoved fa_moments (by omega) Hfa_moments (by have := Ha_limits (6 * i4 + a_places (3 * t0.toNat + (i4 : Int).toNat) : Int).toNat; omega) (FD.sub (fun b a w h => Or.resolve_right h (zs_tsE_0 (by omega)))) (by omega) (Nat.lt_succ_self _)
  refine z_loc (L' := [(0, .ref (ad 0)), (1, z_v t0), (2, z_v j0), (3, z_v u0), (4, z_v 0)]) [1, 2, 3, 4, 0] rfl ?_
  exact (L3 (((3 : Int) - 0).toNat + 1)) 0 s_isMoved a_moments (by omega) Ha_moments (zs_ad.nil (fun v hv => (hV v hv).2.1) (fun b a w ⟨m, m0, m1, _⟩ => by omega)) (by omega) (Nat.lt_succ_self _)
set_option maxRecDepth 20000 in
set_option maxHeartbeats 1000000 in
theorem cx_X11_timeAll (l : Launch) {D : va_G} {A : Nat → Prop} {ad : Nat → Nat} {ks : z_Ks} {s_edges s_isNeeded s_explored s_states s_isMoved s_runs s_runTime s_runMoves : Int} {w_h : Int64} {a_machine a_from a_to a_channel a_resets a_guards a_guardOf a_limits a_limitOf a_places a_zones a_parent a_moveE a_moveF a_moves a_z a_ahead a_at a_amounts a_way a_moments a_runAt a_runClock : Nat → Int} {Y : Nat → Option va_E} {L : Nat → Int} (n0 : Int) (Ha_resets : (∀ j, z_rg (a_resets j))) (Ha_moveE : (∀ j, -1 ≤ a_moveE j ∧ a_moveE j ≤ 19)) (Ha_moveF : (∀ j, -1 ≤ a_moveF j ∧ a_moveF j ≤ 19)) (Ha_way : (∀ j, 0 ≤ a_way j ∧ a_way j ≤ 119)) (Ha_guards : (∀ j, 0 ≤ a_guards j ∧ a_guards j ≤ 2)) (Ha_guardOf : (∀ j, (j % 3 = 0 → a_guardOf j ≤ 3) ∧ 0 ≤ a_guardOf j ∧ a_guardOf j ≤ 1000)) (Ha_limits : (∀ j, 0 ≤ a_limits j ∧ a_limits j ≤ 2)) (Ha_limitOf : (∀ j, (j % 3 = 0 → a_limitOf j ≤ 3) ∧ 0 ≤ a_limitOf j ∧ a_limitOf j ≤ 1000)) (Ha_places : (∀ j, 0 ≤ a_places j ∧ a_places j ≤ 5)) (Hs_isMoved : (s_isMoved = 0 ∨ s_isMoved = 1)) (Ha_moments : (∀ j, z_rg (a_moments j))) (hn : 0 ≤ n0 ∧ n0 ≤ 40) (hw : ∀ k : Nat, 1 ≤ k → k ≤ n0.toNat → 0 ≤ a_moveE (a_way k).toNat) (hK : zs_K (zs_Kr a_resets a_guards a_guardOf a_limits a_limitOf (fun k => a_moveE (a_way k).toNat) (fun k => a_moveF (a_way k).toNat) (fun k m => a_places (3 * (a_way k).toNat + m)) n0.toNat) n0.toNat) (hL : zs_L (zs_Kr a_resets a_guards a_guardOf a_limits a_limitOf (fun k => a_moveE (a_way k).toNat) (fun k => a_moveF (a_way k).toNat) (fun k m => a_places (3 * (a_way k).toNat + m)) n0.toNat) n0.toNat L) (hL0 : L 0 = 0) (hgt : ∀ j : Nat, 1 ≤ j → j ≤ n0.toNat → zo_tr (a_guards (a_moveE (a_way j).toNat).toNat) a_guardOf (6 * a_moveE (a_way j).toNat) ∧ (a_moveF (a_way j).toNat ≠ -1 → zo_tr (a_guards (a_moveF (a_way j).toNat).toNat) a_guardOf (6 * a_moveF (a_way j).toNat))) (hlr : ∀ k : Int, 0 ≤ k → k < 18 → zo_tr (a_limits k.toNat) a_limitOf (6 * k)) : z_Met l yX11_timeAll cX11_timeAll 4 none 3 74 0 0 D A 24 ad ks [.ref (ad 0), z_v n0] (z_zm ad ks s_edges s_isNeeded s_explored s_states s_isMoved s_runs s_runTime s_runMoves w_h a_machine a_from a_to a_channel a_resets a_guards a_guardOf a_limits a_limitOf a_places a_zones a_parent a_moveE a_moveF a_moves a_z a_ahead a_at a_amounts a_way a_moments a_runAt a_runClock) Y (fun r S' Y' => ∃ ns_isMoved : Int, ∃ na_moments : Nat → Int, S' = (z_zm ad ks s_edges s_isNeeded s_explored s_states ns_isMoved s_runs s_runTime s_runMoves w_h a_machine a_from a_to a_channel a_resets a_guards a_guardOf a_limits a_limitOf a_places a_zones a_parent a_moveE a_moveF a_moves a_z a_ahead a_at a_amounts a_way na_moments a_runAt a_runClock) ∧ Y = Y' ∧ (ns_isMoved = 0 ∨ ns_isMoved = 1) ∧ (∀ j, z_rg (na_moments j)) ∧ (∀ v, v ≤ n0.toNat → na_moments v = L v) ∧ r = none) := by
  refine z_start2 (by decide) (Nat.le_of_ble_eq_true rfl) ?_
  intro p e R s m args below meth c Q C hRf hRc hRs hRl hQ hrt hnm
  refine z_loc (L' := [(0, .ref (ad 0)), (1, z_v n0)]) [0, 1] rfl ?_
  have hLb : ∀ v, v ≤ n0.toNat → L v ≤ 2560040 := fun v hv => by have := zs_bd hL hK hL0 v hv; omega
  refine z_iconst C dX11_timeAll_0 ?_
  refine z_istoren (L' := [(2, z_v 0), (0, .ref (ad 0)), (1, z_v n0)]) C dX11_timeAll_1 rfl (by decide) rfl ?_
  have L2 : ∀ (n : Nat), ∀ (i2 : Int) (fa_moments : Nat → Int), ((∀ j, z_rg (fa_moments j))) → (∀ j : Nat, (j : Int) < i2 → fa_moments j = 0) → (0 ≤ i2 ∧ i2 ≤ 42) → ((42 : Int) - i2).toNat < n → z_V p l e R s m args below meth c Q D A 24 ad 4 (z_zm ad ks s_edges s_isNeeded s_explored s_states s_isMoved s_runs s_runTime s_runMoves w_h a_machine a_from a_to a_channel a_resets a_guards a_guardOf a_limits a_limitOf a_places a_zones a_parent a_moveE a_moveF a_moves a_z a_ahead a_at a_amounts a_way fa_moments a_runAt a_runClock) Y 0 0 2 [(0, .ref (ad 0)), (1, z_v n0), (2, z_v i2)] [] := by
    intro n
    induction n with
    | zero => intro i2 fa_moments Hfa_moments FJ I2 hm; exact absurd hm (Nat.not_lt_zero _)
    | succ n ih2 =>
      intro i2 fa_moments Hfa_moments FJ I2 hm
      refine z_iloadn C 2 dX11_timeAll_2 rfl rfl ?_
      refine z_bipush C dX11_timeAll_3 (by decide) ?_
      refine z_icmp_ge (t := 21) C dX11_timeAll_5 (by decide) (by omega) (by omega) (fun c1 => ?_) (fun c1 => ?_)
      · skip
        refine z_aloadn C 0 dX11_timeAll_21 rfl rfl ?_
        refine z_iconst C dX11_timeAll_22 ?_
        refine z_put C 0 (by decide) rfl rfl z_it11 tyX11 tyX11_ok nmX11 25 (by decide) rfl (Or.inl rfl) fl_11_180 z_pfZ (z_nbZ (by omega)).1 (z_nbZ (by omega)).2 (Nat.le_of_ble_eq_true rfl) dX11_timeAll_23 ?_
        refine z_ext (S' := (z_zm ad ks s_edges s_isNeeded s_explored s_states 1 s_runs s_runTime s_runMoves w_h a_machine a_from a_to a_channel a_resets a_guards a_guardOf a_limits a_limitOf a_places a_zones a_parent a_moveE a_moveF a_moves a_z a_ahead a_at a_amounts a_way fa_moments a_runAt a_runClock)) upM_s_isMoved ?_
        refine z_iconst C dX11_timeAll_26 ?_
        refine z_istoren (L' := [(2, z_v 0), (0, .ref (ad 0)), (1, z_v n0)]) C dX11_timeAll_27 rfl (by decide) rfl ?_
        have L28 : ∀ (n : Nat), ∀ (i2 : Int) (gs_isMoved : Int) (ga_moments : Nat → Int), ((gs_isMoved = 0 ∨ gs_isMoved = 1)) → ((∀ j, z_rg (ga_moments j))) → (zs_I n0.toNat L (i2 : Int).toNat ga_moments) → (gs_isMoved = 0 → zs_S (zs_Kr a_resets a_guards a_guardOf a_limits a_limitOf (fun k => a_moveE (a_way k).toNat) (fun k => a_moveF (a_way k).toNat) (fun k m => a_places (3 * (a_way k).toNat + m)) n0.toNat) ga_moments) → (0 ≤ i2 ∧ i2 ≤ 2000) → ((2000 : Int) - i2).toNat < n → z_V p l e R s m args below meth c Q D A 24 ad 4 (z_zm ad ks s_edges s_isNeeded s_explored s_states gs_isMoved s_runs s_runTime s_runMoves w_h a_machine a_from a_to a_channel a_resets a_guards a_guardOf a_limits a_limitOf a_places a_zones a_parent a_moveE a_moveF a_moves a_z a_ahead a_at a_amounts a_way ga_moments a_runAt a_runClock) Y 0 0 28 [(0, .ref (ad 0)), (1, z_v n0), (2, z_v i2)] [] := by
          intro n
          induction n with
          | zero => intro i2 gs_isMoved ga_moments Hgs_isMoved Hga_moments ZI ZS I2 hm; exact absurd hm (Nat.not_lt_zero _)
          | succ n ih28 =>
            intro i2 gs_isMoved ga_moments Hgs_isMoved Hga_moments ZI ZS I2 hm
            refine z_aloadn C 0 dX11_timeAll_28 rfl rfl ?_
            refine z_get C 0 (by decide) rfl rfl z_it11 25 (by decide) rfl fl_11_180 rfl dX11_timeAll_29 ?_
            refine z_if_eq (t := 150) C dX11_timeAll_32 (by decide) (by omega) (fun c2 => ?_) (fun c2 => ?_)
            · skip
              rw [hQ]
              exact z_vret C hrt dX11_timeAll_150 (⟨gs_isMoved, ga_moments, rfl, rfl, by omega, Hga_moments, by first | exact zs_I.stop ZI (ZS (by omega)) hL | exact zs_I.fin ZI (by omega), rfl⟩) (by omega) (by omega)
            · skip
              refine z_iloadn C 2 dX11_timeAll_35 rfl rfl ?_
              refine z_sipush C dX11_timeAll_36 (by decide) ?_
              refine z_icmp_ge (t := 150) C dX11_timeAll_39 (by decide) (by omega) (by omega) (fun c3 => ?_) (fun c3 => ?_)
              · skip
                rw [hQ]
                exact z_vret C hrt dX11_timeAll_150 (⟨gs_isMoved, ga_moments, rfl, rfl, by omega, Hga_moments, by first | exact zs_I.stop ZI (ZS (by omega)) hL | exact zs_I.fin ZI (by omega), rfl⟩) (by omega) (by omega)
              · skip
                refine z_aloadn C 0 dX11_timeAll_42 rfl rfl ?_
                refine z_iconst C dX11_timeAll_43 ?_
                refine z_put C 0 (by decide) rfl rfl z_it11 tyX11 tyX11_ok nmX11 25 (by decide) rfl (Or.inl rfl) fl_11_180 z_pfZ (z_nbZ (by omega)).1 (z_nbZ (by omega)).2 (Nat.le_of_ble_eq_true rfl) dX11_timeAll_44 ?_
                refine z_ext (S' := (z_zm ad ks s_edges s_isNeeded s_explored s_states 0 s_runs s_runTime s_runMoves w_h a_machine a_from a_to a_channel a_resets a_guards a_guardOf a_limits a_limitOf a_places a_zones a_parent a_moveE a_moveF a_moves a_z a_ahead a_at a_amounts a_way ga_moments a_runAt a_runClock)) upM_s_isMoved ?_
                refine z_iconst C dX11_timeAll_47 ?_
                refine z_istoren (L' := [(3, z_v 1), (0, .ref (ad 0)), (1, z_v n0), (2, z_v i2)]) C dX11_timeAll_48 rfl (by decide) rfl ?_
                have L49 : ∀ (n : Nat), ∀ (i3 : Int) (fs_isMoved : Int) (fa_moments : Nat → Int), ((fs_isMoved = 0 ∨ fs_isMoved = 1)) → ((∀ j, z_rg (fa_moments j))) → (zs_ad (fun b a w => ∃ j : Nat, (j : Int) + 1 < i3 ∧ zs_stE a_resets a_guards a_guardOf a_limits a_limitOf (fun k => a_moveE (a_way k).toNat) (fun k => a_moveF (a_way k).toNat) (fun k m => a_places (3 * (a_way k).toNat + m)) j b a w) n0.toNat L ga_moments fa_moments 0 fs_isMoved) → (1 ≤ i3 ∧ i3 ≤ (n0+1)) → (((n0+1) : Int) - i3).toNat < n → z_V p l e R s m args below meth c Q D A 24 ad 4 (z_zm ad ks s_edges s_isNeeded s_explored s_states fs_isMoved s_runs s_runTime s_runMoves w_h a_machine a_from a_to a_channel a_resets a_guards a_guardOf a_limits a_limitOf a_places a_zones a_parent a_moveE a_moveF a_moves a_z a_ahead a_at a_amounts a_way fa_moments a_runAt a_runClock) Y 0 0 49 [(0, .ref (ad 0)), (1, z_v n0), (2, z_v i2), (3, z_v i3)] [] := by
                  intro n
                  induction n with
                  | zero => intro i3 fs_isMoved fa_moments Hfs_isMoved Hfa_moments FD I3 hm; exact absurd hm (Nat.not_lt_zero _)
                  | succ n ih49 =>
                    intro i3 fs_isMoved fa_moments Hfs_isMoved Hfa_moments FD I3 hm
                    refine z_iloadn C 3 dX11_timeAll_49 rfl rfl ?_
                    refine z_iloadn C 1 dX11_timeAll_50 rfl rfl ?_
                    refine z_icmp_gt (t := 144) C dX11_timeAll_51 (by decide) (by omega) (by omega) (fun c4 => ?_) (fun c4 => ?_)
                    · skip
                      refine z_iinc (L' := [(2, z_v (i2 + 1)), (0, .ref (ad 0)), (1, z_v n0), (3, z_v i3)]) C 2 dX11_timeAll_144 rfl (by decide) rfl ?_
                      refine z_goto (t := 28) C dX11_timeAll_147 (by decide) ?_
                      refine z_loc (L' := [(0, .ref (ad 0)), (1, z_v n0), (2, z_v (i2 + 1))]) [1, 2, 0] rfl ?_
                      exact ih28 (i2 + 1) fs_isMoved fa_moments (by omega) Hfa_moments (by rw [show (i2 + 1 : Int).toNat = (i2 : Int).toNat + 1 by omega]; exact zs_I.step hK hL ZI (zs_adr FD (fun b a w ⟨j, hj, kk⟩ => ⟨j, by omega, kk⟩))) (zs_adS FD (fun b a w ⟨j, hj, kk⟩ => ⟨j, by omega, kk⟩)) (by omega) (by omega)
                    · skip
                      obtain ⟨s1, s2, s3, s4, s5⟩ := zs_stS (i := i3) hL.1 (by omega)
                      have hV0 := zs_hV (fun v hv => ⟨ZI.1 v hv, ZI.2.1 v hv, hLb v hv⟩) FD
                      refine z_aloadn C 0 dX11_timeAll_54 rfl rfl ?_
                      refine z_iloadn C 3 dX11_timeAll_55 rfl rfl ?_
                      refine z_iloadn C 3 dX11_timeAll_56 rfl rfl ?_
                      refine z_iconst C dX11_timeAll_57 ?_
                      refine z_isub C dX11_timeAll_58 ?_
                      refine z_iconst C dX11_timeAll_59 ?_
                      refine z_callV C (cx_X11_behind l i3 (i3 - 1) 0 (by omega) Hfa_moments (by omega) (by omega) (by omega) (by omega) hV0 s1) mv_11_183 (z_atS 0 11 (by decide) rfl rfl rfl) pd_X11_behind ⟨by omega, by omega⟩ ⟨by omega, by omega⟩ rfl (Nat.le_of_ble_eq_true rfl) dX11_timeAll_60 ?_
                      rintro _ _ _ ⟨n5, n6, rfl, rfl, h9, h10, q60_0, rfl⟩
                      have hV1 := zs_hV hV0 q60_0
                      refine z_aloadn C 0 dX11_timeAll_63 rfl rfl ?_
                      refine z_iloadn C 3 dX11_timeAll_64 rfl rfl ?_
                      refine z_aloadn C 0 dX11_timeAll_65 rfl rfl ?_
                      refine z_get C 0 (by decide) rfl rfl z_it11 16 (by decide) rfl fl_11_50 rfl dX11_timeAll_66 ?_
                      refine z_aloadn C 0 dX11_timeAll_69 rfl rfl ?_
                      refine z_get C 0 (by decide) rfl rfl z_it11 23 (by decide) rfl fl_11_71 rfl dX11_timeAll_70 ?_
                      refine z_iloadn C 3 dX11_timeAll_73 rfl rfl ?_
                      refine z_iald C 20 (by decide) rfl (by decide) (by omega) (by omega) dX11_timeAll_74 ?_
                      have rx11 := Ha_way (i3 : Int).toNat
                      generalize ex11 : a_way (i3 : Int).toNat = x11 at rx11 ⊢
                      have e74 := ex11
                      refine z_iald C 13 (by decide) rfl (by decide) (by omega) (by omega) dX11_timeAll_75 ?_
                      have rx12 := Ha_moveE (x11 : Int).toNat
                      generalize ex12 : a_moveE (x11 : Int).toNat = x12 at rx12 ⊢
                      have qx12 := hw (i3 : Int).toNat (by omega) (by omega)
                      rw [e74, ex12] at qx12
                      have e75 := ex12
                      refine z_callV C (cx_X11_askGuards l i3 x12 Ha_resets Ha_moveE Ha_moveF Ha_way Ha_guards Ha_guardOf (by omega) h10 (by omega) (by omega) (by omega) hw hV1 (by rw [← e75, ← e74]; exact (hgt (i3 : Int).toNat (by omega) (by omega)).1) (by rw [← e75, ← e74]; exact s2)) mv_11_193 (z_atS 0 11 (by decide) rfl rfl rfl) pd_X11_askGuards ⟨by omega, by omega⟩ ⟨by omega, by omega⟩ rfl (Nat.le_of_ble_eq_true rfl) dX11_timeAll_76 ?_
                      rintro _ _ _ ⟨n13, n14, rfl, rfl, h17, h18, q76_0, rfl⟩
                      have hV2 := zs_hV hV1 q76_0
                      refine z_aloadn C 0 dX11_timeAll_79 rfl rfl ?_
                      refine z_get C 0 (by decide) rfl rfl z_it11 17 (by decide) rfl fl_11_53 rfl dX11_timeAll_80 ?_
                      refine z_aloadn C 0 dX11_timeAll_83 rfl rfl ?_
                      refine z_get C 0 (by decide) rfl rfl z_it11 23 (by decide) rfl fl_11_71 rfl dX11_timeAll_84 ?_
                      refine z_iloadn C 3 dX11_timeAll_87 rfl rfl ?_
                      refine z_iald C 20 (by decide) rfl (by decide) (by omega) (by omega) dX11_timeAll_88 ?_
                      rw [ex11]
                      refine z_iald C 14 (by decide) rfl (by decide) (by omega) (by omega) dX11_timeAll_89 ?_
                      have rx19 := Ha_moveF (x11 : Int).toNat
                      generalize ex19 : a_moveF (x11 : Int).toNat = x19 at rx19 ⊢
                      have e89 := ex19
                      refine z_iconst C dX11_timeAll_90 ?_
                      refine z_icmp_eq (t := 110) C dX11_timeAll_91 (by decide) (by omega) (by omega) (fun c20 => ?_) (fun c20 => ?_)
                      · skip
                        first | (have hV3 := zs_hV hV2 q107_0) | (have hV3 := hV2)
                        refine z_aloadn C 0 dX11_timeAll_110 rfl rfl ?_
                        refine z_aloadn C 0 dX11_timeAll_111 rfl rfl ?_
                        refine z_get C 0 (by decide) rfl rfl z_it11 23 (by decide) rfl fl_11_71 rfl dX11_timeAll_112 ?_
                        refine z_iloadn C 3 dX11_timeAll_115 rfl rfl ?_
                        refine z_iconst C dX11_timeAll_116 ?_
                        refine z_isub C dX11_timeAll_117 ?_
                        refine z_iald C 20 (by decide) rfl (by decide) (by omega) (by omega) dX11_timeAll_118 ?_
                        have rx21 := Ha_way ((i3 - 1) : Int).toNat
                        generalize ex21 : a_way ((i3 - 1) : Int).toNat = x21 at rx21 ⊢
                        have e118 := ex21
                        refine z_iloadn C 3 dX11_timeAll_119 rfl rfl ?_
                        refine z_iloadn C 3 dX11_timeAll_120 rfl rfl ?_
                        refine z_iconst C dX11_timeAll_121 ?_
                        refine z_isub C dX11_timeAll_122 ?_
                        refine z_callV C (cx_X11_askLimits l x21 i3 (i3 - 1) Ha_resets Ha_moveE Ha_moveF Ha_way Ha_places Ha_limits Ha_limitOf (by omega) h18 (by omega) (by omega) (by omega) (by omega) hw hV3 hlr (by rw [← e118]; exact s4)) mv_11_197 (z_atS 0 11 (by decide) rfl rfl rfl) pd_X11_askLimits ⟨by omega, by omega⟩ ⟨by omega, by omega⟩ rfl (Nat.le_of_ble_eq_true rfl) dX11_timeAll_123 ?_
                        rintro _ _ _ ⟨n22, n23, rfl, rfl, h26, h27, q123_0, rfl⟩
                        have hV4 := zs_hV hV3 q123_0
                        refine z_aloadn C 0 dX11_timeAll_126 rfl rfl ?_
                        refine z_aloadn C 0 dX11_timeAll_127 rfl rfl ?_
                        refine z_get C 0 (by decide) rfl rfl z_it11 23 (by decide) rfl fl_11_71 rfl dX11_timeAll_128 ?_
                        refine z_iloadn C 3 dX11_timeAll_131 rfl rfl ?_
                        refine z_iald C 20 (by decide) rfl (by decide) (by omega) (by omega) dX11_timeAll_132 ?_
                        rw [ex11]
                        refine z_iloadn C 3 dX11_timeAll_133 rfl rfl ?_
                        refine z_iloadn C 3 dX11_timeAll_134 rfl rfl ?_
                        refine z_callV C (cx_X11_askLimits l x11 i3 i3 Ha_resets Ha_moveE Ha_moveF Ha_way Ha_places Ha_limits Ha_limitOf (by omega) h27 (by omega) (by omega) (by omega) (by omega) hw hV4 hlr (by rw [← e74]; exact s5)) mv_11_197 (z_atS 0 11 (by decide) rfl rfl rfl) pd_X11_askLimits ⟨by omega, by omega⟩ ⟨by omega, by omega⟩ rfl (Nat.le_of_ble_eq_true rfl) dX11_timeAll_135 ?_
                        rintro _ _ _ ⟨n28, n29, rfl, rfl, h32, h33, q135_0, rfl⟩
                        have g76 := q76_0
                        rw [← e75, ← e74] at g76
                        have g123 := q123_0
                        rw [← e118] at g123
                        have g135 := q135_0
                        rw [← e74] at g135
                        have hst : zs_ad (zs_stE a_resets a_guards a_guardOf a_limits a_limitOf (fun k => a_moveE (a_way k).toNat) (fun k => a_moveF (a_way k).toNat) (fun k m => a_places (3 * (a_way k).toNat + m)) (i3 - 1 : Int).toNat) n0.toNat L fa_moments n29 fs_isMoved n28 := by
                          first | (have g107 := q107_0; rw [← e89, ← e74] at g107; exact zs_st2 (E := (fun k => a_moveE (a_way k).toNat)) (F := (fun k => a_moveF (a_way k).toNat)) (A := (fun k m => a_places (3 * (a_way k).toNat + m))) (by omega) q60_0 g76 g107 g123 g135) | exact zs_st1 (E := (fun k => a_moveE (a_way k).toNat)) (F := (fun k => a_moveF (a_way k).toNat)) (A := (fun k m => a_places (3 * (a_way k).toNat + m))) (by omega) (by show a_moveF (a_way (i3 : Int).toNat).toNat = -1; rw [e74, e89]; omega) q60_0 g76 g123 g135
                        refine z_iinc (L' := [(3, z_v (i3 + 1)), (0, .ref (ad 0)), (1, z_v n0), (2, z_v i2)]) C 3 dX11_timeAll_138 rfl (by decide) rfl ?_
                        refine z_goto (t := 49) C dX11_timeAll_141 (by decide) ?_
                        refine z_loc (L' := [(0, .ref (ad 0)), (1, z_v n0), (2, z_v i2), (3, z_v (i3 + 1))]) [1, 2, 3, 0] rfl ?_
                        exact ih49 (i3 + 1) n28 n29 (by omega) h33 (zs_stN (K := zs_stE a_resets a_guards a_guardOf a_limits a_limitOf (fun k => a_moveE (a_way k).toNat) (fun k => a_moveF (a_way k).toNat) (fun k m => a_places (3 * (a_way k).toNat + m))) (by omega) FD hst) (by omega) (by omega)
                      · skip
                        refine z_aloadn C 0 dX11_timeAll_94 rfl rfl ?_
                        refine z_iloadn C 3 dX11_timeAll_95 rfl rfl ?_
                        refine z_aloadn C 0 dX11_timeAll_96 rfl rfl ?_
                        refine z_get C 0 (by decide) rfl rfl z_it11 17 (by decide) rfl fl_11_53 rfl dX11_timeAll_97 ?_
                        refine z_aloadn C 0 dX11_timeAll_100 rfl rfl ?_
                        refine z_get C 0 (by decide) rfl rfl z_it11 23 (by decide) rfl fl_11_71 rfl dX11_timeAll_101 ?_
                        refine z_iloadn C 3 dX11_timeAll_104 rfl rfl ?_
                        refine z_iald C 20 (by decide) rfl (by decide) (by omega) (by omega) dX11_timeAll_105 ?_
                        rw [ex11]
                        refine z_iald C 14 (by decide) rfl (by decide) (by omega) (by omega) dX11_timeAll_106 ?_
                        rw [ex19]
                        refine z_callV C (cx_X11_askGuards l i3 x19 Ha_resets Ha_moveE Ha_moveF Ha_way Ha_guards Ha_guardOf (by omega) h18 (by omega) (by omega) (by omega) hw hV2 (by rw [← e89, ← e74]; exact (hgt (i3 : Int).toNat (by omega) (by omega)).2 (by show ¬ a_moveF (a_way (i3 : Int).toNat).toNat = -1; rw [e74, e89]; omega)) (by rw [← e89, ← e74]; exact s3 (by show ¬ a_moveF (a_way (i3 : Int).toNat).toNat = -1; rw [e74, e89]; omega))) mv_11_193 (z_atS 0 11 (by decide) rfl rfl rfl) pd_X11_askGuards ⟨by omega, by omega⟩ ⟨by omega, by omega⟩ rfl (Nat.le_of_ble_eq_true rfl) dX11_timeAll_107 ?_
                        rintro _ _ _ ⟨n34, n35, rfl, rfl, h38, h39, q107_0, rfl⟩
                        first | (have hV3 := zs_hV hV2 q107_0) | (have hV3 := hV2)
                        refine z_aloadn C 0 dX11_timeAll_110 rfl rfl ?_
                        refine z_aloadn C 0 dX11_timeAll_111 rfl rfl ?_
                        refine z_get C 0 (by decide) rfl rfl z_it11 23 (by decide) rfl fl_11_71 rfl dX11_timeAll_112 ?_
                        refine z_iloadn C 3 dX11_timeAll_115 rfl rfl ?_
                        refine z_iconst C dX11_timeAll_116 ?_
                        refine z_isub C dX11_timeAll_117 ?_
                        refine z_iald C 20 (by decide) rfl (by decide) (by omega) (by omega) dX11_timeAll_118 ?_
                        have rx40 := Ha_way ((i3 - 1) : Int).toNat
                        generalize ex40 : a_way ((i3 - 1) : Int).toNat = x40 at rx40 ⊢
                        have e118 := ex40
                        refine z_iloadn C 3 dX11_timeAll_119 rfl rfl ?_
                        refine z_iloadn C 3 dX11_timeAll_120 rfl rfl ?_
                        refine z_iconst C dX11_timeAll_121 ?_
                        refine z_isub C dX11_timeAll_122 ?_
                        refine z_callV C (cx_X11_askLimits l x40 i3 (i3 - 1) Ha_resets Ha_moveE Ha_moveF Ha_way Ha_places Ha_limits Ha_limitOf (by omega) h39 (by omega) (by omega) (by omega) (by omega) hw hV3 hlr (by rw [← e118]; exact s4)) mv_11_197 (z_atS 0 11 (by decide) rfl rfl rfl) pd_X11_askLimits ⟨by omega, by omega⟩ ⟨by omega, by omega⟩ rfl (Nat.le_of_ble_eq_true rfl) dX11_timeAll_123 ?_
                        rintro _ _ _ ⟨n41, n42, rfl, rfl, h45, h46, q123_0, rfl⟩
                        have hV4 := zs_hV hV3 q123_0
                        refine z_aloadn C 0 dX11_timeAll_126 rfl rfl ?_
                        refine z_aloadn C 0 dX11_timeAll_127 rfl rfl ?_
                        refine z_get C 0 (by decide) rfl rfl z_it11 23 (by decide) rfl fl_11_71 rfl dX11_timeAll_128 ?_
                        refine z_iloadn C 3 dX11_timeAll_131 rfl rfl ?_
                        refine z_iald C 20 (by decide) rfl (by decide) (by omega) (by omega) dX11_timeAll_132 ?_
                        rw [ex11]
                        refine z_iloadn C 3 dX11_timeAll_133 rfl rfl ?_
                        refine z_iloadn C 3 dX11_timeAll_134 rfl rfl ?_
                        refine z_callV C (cx_X11_askLimits l x11 i3 i3 Ha_resets Ha_moveE Ha_moveF Ha_way Ha_places Ha_limits Ha_limitOf (by omega) h46 (by omega) (by omega) (by omega) (by omega) hw hV4 hlr (by rw [← e74]; exact s5)) mv_11_197 (z_atS 0 11 (by decide) rfl rfl rfl) pd_X11_askLimits ⟨by omega, by omega⟩ ⟨by omega, by omega⟩ rfl (Nat.le_of_ble_eq_true rfl) dX11_timeAll_135 ?_
                        rintro _ _ _ ⟨n47, n48, rfl, rfl, h51, h52, q135_0, rfl⟩
                        have g76 := q76_0
                        rw [← e75, ← e74] at g76
                        have g123 := q123_0
                        rw [← e118] at g123
                        have g135 := q135_0
                        rw [← e74] at g135
                        have hst : zs_ad (zs_stE a_resets a_guards a_guardOf a_limits a_limitOf (fun k => a_moveE (a_way k).toNat) (fun k => a_moveF (a_way k).toNat) (fun k m => a_places (3 * (a_way k).toNat + m)) (i3 - 1 : Int).toNat) n0.toNat L fa_moments n48 fs_isMoved n47 := by
                          first | (have g107 := q107_0; rw [← e89, ← e74] at g107; exact zs_st2 (E := (fun k => a_moveE (a_way k).toNat)) (F := (fun k => a_moveF (a_way k).toNat)) (A := (fun k m => a_places (3 * (a_way k).toNat + m))) (by omega) q60_0 g76 g107 g123 g135) | exact zs_st1 (E := (fun k => a_moveE (a_way k).toNat)) (F := (fun k => a_moveF (a_way k).toNat)) (A := (fun k m => a_places (3 * (a_way k).toNat + m))) (by omega) (by show a_moveF (a_way (i3 : Int).toNat).toNat = -1; rw [e74, e89]; omega) q60_0 g76 g123 g135
                        refine z_iinc (L' := [(3, z_v (i3 + 1)), (0, .ref (ad 0)), (1, z_v n0), (2, z_v i2)]) C 3 dX11_timeAll_138 rfl (by decide) rfl ?_
                        refine z_goto (t := 49) C dX11_timeAll_141 (by decide) ?_
                        refine z_loc (L' := [(0, .ref (ad 0)), (1, z_v n0), (2, z_v i2), (3, z_v (i3 + 1))]) [1, 2, 3, 0] rfl ?_
                        exact ih49 (i3 + 1) n47 n48 (by omega) h52 (zs_stN (K := zs_stE a_resets a_guards a_guardOf a_limits a_limitOf (fun k => a_moveE (a_way k).toNat) (fun k => a_moveF (a_way k).toNat) (fun k m => a_places (3 * (a_way k).toNat + m))) (by omega) FD hst) (by omega) (by omega)
                refine z_loc (L' := [(0, .ref (ad 0)), (1, z_v n0), (2, z_v i2), (3, z_v 1)]) [1, 2, 3, 0] rfl ?_
                exact (L49 ((((n0+1) : Int) - 1).toNat + 1)) 1 0 ga_moments (by omega) Hga_moments (zs_ad.nil ZI.2.1 (fun b a w ⟨j, hj, _⟩ => by omega)) (by omega) (Nat.lt_succ_self _)
        refine z_loc (L' := [(0, .ref (ad 0)), (1, z_v n0), (2, z_v 0)]) [1, 2, 0] rfl ?_
        exact (L28 (((2000 : Int) - 0).toNat + 1)) 0 1 fa_moments (by omega) Hfa_moments (zs_I.ini (fun v hv => FJ v (by omega)) hL.2.1 hL0) (fun q => absurd q (by decide)) (by omega) (Nat.lt_succ_self _)
      · skip
        refine z_aloadn C 0 dX11_timeAll_8 rfl rfl ?_
        refine z_get C 0 (by decide) rfl rfl z_it11 24 (by decide) rfl fl_11_74 rfl dX11_timeAll_9 ?_
        refine z_iloadn C 2 dX11_timeAll_12 rfl rfl ?_
        refine z_iconst C dX11_timeAll_13 ?_
        refine z_iast C 21 (by decide) rfl (by decide) (by omega) (by omega) dX11_timeAll_14 ?_
        refine z_ext (S' := (z_zm ad ks s_edges s_isNeeded s_explored s_states s_isMoved s_runs s_runTime s_runMoves w_h a_machine a_from a_to a_channel a_resets a_guards a_guardOf a_limits a_limitOf a_places a_zones a_parent a_moveE a_moveF a_moves a_z a_ahead a_at a_amounts a_way (va_up fa_moments (i2 : Int).toNat 0) a_runAt a_runClock)) upM_a_moments ?_
        have h53 : ∀ j, z_rg ((va_up fa_moments (i2 : Int).toNat 0) j) := z_upP (P := fun j v => z_rg (v)) Hfa_moments (by omega)
        refine z_iinc (L' := [(2, z_v (i2 + 1)), (0, .ref (ad 0)), (1, z_v n0)]) C 2 dX11_timeAll_15 rfl (by decide) rfl ?_
        refine z_goto (t := 2) C dX11_timeAll_18 (by decide) ?_
        refine z_loc (L' := [(0, .ref (ad 0)), (1, z_v n0), (2, z_v (i2 + 1))]) [1, 2, 0] rfl ?_
        exact ih2 (i2 + 1) (va_up fa_moments (i2 : Int).toNat 0) h53 (z_fill_add FJ (by omega)) (by omega) (by omega)
  refine z_loc (L' := [(0, .ref (ad 0)), (1, z_v n0), (2, z_v 0)]) [1, 2, 0] rfl ?_
  exact (L2 (((42 : Int) - 0).toNat + 1)) 0 a_moments Ha_moments (fun j hj => absurd hj (by omega)) (by omega) (Nat.lt_succ_self _)
set_option maxRecDepth 20000 in
theorem cx_X11_moment (l : Launch) {D : va_G} {A : Nat → Prop} {ad : Nat → Nat} {ks : z_Ks} {s_edges s_isNeeded s_explored s_states s_isMoved s_runs s_runTime s_runMoves : Int} {w_h : Int64} {a_machine a_from a_to a_channel a_resets a_guards a_guardOf a_limits a_limitOf a_places a_zones a_parent a_moveE a_moveF a_moves a_z a_ahead a_at a_amounts a_way a_moments a_runAt a_runClock : Nat → Int} {Y : Nat → Option va_E} (i0 k0 : Int) (Ha_resets : (∀ j, z_rg (a_resets j))) (Ha_moveE : (∀ j, -1 ≤ a_moveE j ∧ a_moveE j ≤ 19)) (Ha_moveF : (∀ j, -1 ≤ a_moveF j ∧ a_moveF j ≤ 19)) (Ha_way : (∀ j, 0 ≤ a_way j ∧ a_way j ≤ 119)) (Ha_guards : (∀ j, 0 ≤ a_guards j ∧ a_guards j ≤ 2)) (Ha_guardOf : (∀ j, (j % 3 = 0 → a_guardOf j ≤ 3) ∧ 0 ≤ a_guardOf j ∧ a_guardOf j ≤ 1000)) (Ha_limits : (∀ j, 0 ≤ a_limits j ∧ a_limits j ≤ 2)) (Ha_limitOf : (∀ j, (j % 3 = 0 → a_limitOf j ≤ 3) ∧ 0 ≤ a_limitOf j ∧ a_limitOf j ≤ 1000)) (Ha_places : (∀ j, 0 ≤ a_places j ∧ a_places j ≤ 5)) (Hs_isMoved : (s_isMoved = 0 ∨ s_isMoved = 1)) (Ha_moments : (∀ j, z_rg (a_moments j))) (Hs_isNeeded : (s_isNeeded = 0 ∨ s_isNeeded = 1)) (Hs_states : (0 ≤ s_states ∧ s_states ≤ 120)) (Ha_parent : (∀ j, -1 ≤ a_parent j ∧ a_parent j ≤ 119)) (Ha_moves : (∀ j, 0 ≤ a_moves j ∧ a_moves j ≤ 40)) (hi : z_rg i0) (hk : z_rg k0) (hch : z_ch s_states a_parent a_moves a_moveE) (hgr : ∀ e : Int, 0 ≤ e → e < s_edges → zo_tr (a_guards e.toNat) a_guardOf (6 * e)) (hlr : ∀ k : Int, 0 ≤ k → k < 18 → zo_tr (a_limits k.toNat) a_limitOf (6 * k)) (hex : s_isNeeded = 0 → 0 ≤ i0 → i0 < s_states → zw_ex s_edges a_resets a_guards a_guardOf a_limits a_limitOf a_parent a_moveE a_moveF (fun j m => a_places (3 * j + m)) (a_moves (i0 : Int).toNat) i0) : z_Met l yX11_moment cX11_moment 3 (some .int) 4 97 0 0 D A 24 ad ks [.ref (ad 0), z_v i0, z_v k0] (z_zm ad ks s_edges s_isNeeded s_explored s_states s_isMoved s_runs s_runTime s_runMoves w_h a_machine a_from a_to a_channel a_resets a_guards a_guardOf a_limits a_limitOf a_places a_zones a_parent a_moveE a_moveF a_moves a_z a_ahead a_at a_amounts a_way a_moments a_runAt a_runClock) Y (fun r S' Y' => ∃ na_way : Nat → Int, ∃ ns_isMoved : Int, ∃ na_moments : Nat → Int, S' = (z_zm ad ks s_edges s_isNeeded s_explored s_states ns_isMoved s_runs s_runTime s_runMoves w_h a_machine a_from a_to a_channel a_resets a_guards a_guardOf a_limits a_limitOf a_places a_zones a_parent a_moveE a_moveF a_moves a_z a_ahead a_at a_amounts na_way na_moments a_runAt a_runClock) ∧ Y = Y' ∧ (∀ j, 0 ≤ na_way j ∧ na_way j ≤ 119) ∧ (ns_isMoved = 0 ∨ ns_isMoved = 1) ∧ (∀ j, z_rg (na_moments j)) ∧ ∃ z : Int, r = some (z_v z) ∧ (zw_R (zw_K a_resets a_guards a_guardOf a_limits a_limitOf a_parent a_moveE a_moveF (fun j m => a_places (3 * j + m)) (a_moves (i0 : Int).toNat) i0) i0 k0 s_isNeeded s_states (a_moves (i0 : Int).toNat) z)) := by
  refine z_start2 (by decide) (Nat.le_of_ble_eq_true rfl) ?_
  intro p e R s m args below meth c Q C hRf hRc hRs hRl hQ hrt hnm
  refine z_loc (L' := [(0, .ref (ad 0)), (1, z_v i0), (2, z_v k0)]) [0, 1, 2] rfl ?_
  refine z_aloadn C 0 dX11_moment_0 rfl rfl ?_
  refine z_get C 0 (by decide) rfl rfl z_it11 10 (by decide) rfl fl_11_37 rfl dX11_moment_1 ?_
  refine z_if_eq (t := 10) C dX11_moment_4 (by decide) (by omega) (fun c1 => ?_) (fun c1 => ?_)
  · skip
    refine z_aloadn C 0 dX11_moment_10 rfl rfl ?_
    refine z_iloadn C 1 dX11_moment_11 rfl rfl ?_
    refine z_callV C (cm_X11_isState l i0 (by omega) (by omega)) mv_11_165 (z_atS 0 11 (by decide) rfl rfl rfl) pd_X11_isState ⟨by omega, by omega⟩ ⟨by omega, by omega⟩ rfl (Nat.le_of_ble_eq_true rfl) dX11_moment_12 ?_
    rintro _ _ _ ⟨rfl, rfl, z2, rfl, hz2⟩
    refine z_if_eq (t := 34) C dX11_moment_15 (by decide) (by omega) (fun c3 => ?_) (fun c3 => ?_)
    · skip
      refine z_bipush C dX11_moment_34 (by decide) ?_
      rw [hQ]
      exact z_iret C hrt dX11_moment_36 (⟨a_way, s_isMoved, a_moments, rfl, rfl, Ha_way, by omega, Ha_moments, _, rfl, Or.inr (Or.inl ⟨by omega, by omega, rfl⟩)⟩) (by omega) (by omega)
    · skip
      refine z_iloadn C 2 dX11_moment_18 rfl rfl ?_
      refine z_iconst C dX11_moment_19 ?_
      refine z_aloadn C 0 dX11_moment_20 rfl rfl ?_
      refine z_get C 0 (by decide) rfl rfl z_it11 18 (by decide) rfl fl_11_56 rfl dX11_moment_21 ?_
      refine z_iloadn C 1 dX11_moment_24 rfl rfl ?_
      refine z_iald C 15 (by decide) rfl (by decide) (by omega) (by omega) dX11_moment_25 ?_
      have rx4 := Ha_moves (i0 : Int).toNat
      generalize ex4 : a_moves (i0 : Int).toNat = x4 at rx4 ⊢
      refine z_iconst C dX11_moment_26 ?_
      refine z_isub C dX11_moment_27 ?_
      refine z_callS C (cm_X11_in l k0 0 (x4 - 1) (by omega) (by omega) (by omega)) mv_11_86 pd_X11_in ⟨by omega, by omega⟩ ⟨by omega, by omega⟩ rfl (Nat.le_of_ble_eq_true rfl) dX11_moment_28 ?_
      rintro _ _ _ ⟨rfl, rfl, z5, rfl, hz5⟩
      refine z_if_ne (t := 37) C dX11_moment_31 (by decide) (by omega) (fun c6 => ?_) (fun c6 => ?_)
      · skip
        refine z_aloadn C 0 dX11_moment_37 rfl rfl ?_
        refine z_aloadn C 0 dX11_moment_38 rfl rfl ?_
        refine z_iloadn C 1 dX11_moment_39 rfl rfl ?_
        refine z_callV C (cx_X11_layOut l i0 (by omega) Ha_parent Ha_moves Ha_way (by omega) hch) mv_11_177 (z_atS 0 11 (by decide) rfl rfl rfl) pd_X11_layOut ⟨by omega, by omega⟩ ⟨by omega, by omega⟩ rfl (Nat.le_of_ble_eq_true rfl) dX11_moment_40 ?_
        rintro _ _ _ ⟨n7, rfl, rfl, h10, q40_0, q40_1, z11, rfl, hz11⟩
        have hz40 := hz11
        obtain ⟨L, xK, xL, x0, xE, xP⟩ := hex (by omega) (by omega) (by omega)
        have hKe : zs_Kr a_resets a_guards a_guardOf a_limits a_limitOf (fun k => a_moveE (n7 k).toNat) (fun k => a_moveF (n7 k).toNat) (fun k m => a_places (3 * (n7 k).toNat + m)) (a_moves (i0 : Int).toNat).toNat = (zw_K a_resets a_guards a_guardOf a_limits a_limitOf a_parent a_moveE a_moveF (fun j m => a_places (3 * j + m)) (a_moves (i0 : Int).toNat) i0) := zs_Kr_congr (fun k hk => by rw [q40_1 k (by omega)]) (fun k hk => by rw [q40_1 k (by omega)]) (fun k hk m _ => by rw [q40_1 k (by omega)])
        refine z_callV C (cx_X11_timeAll l z11 Ha_resets Ha_moveE Ha_moveF h10 Ha_guards Ha_guardOf Ha_limits Ha_limitOf Ha_places (by omega) Ha_moments (by omega) (fun k h1 h2 => z_hw hch q40_0 (Int.le_refl _) k h1 (by omega)) (by rw [hz40, hKe]; exact xK) (by rw [hz40, hKe]; exact xL) x0 (fun j h1 h2 => by rw [q40_1 j (by omega)]; exact zw_tr (E := zw_E a_parent a_moveE (a_moves (i0 : Int).toNat) i0) (F := zw_E a_parent a_moveF (a_moves (i0 : Int).toNat) i0) hgr xE h1 (by omega)) hlr) mv_11_200 (z_atS 0 11 (by decide) rfl rfl rfl) pd_X11_timeAll ⟨by omega, by omega⟩ ⟨by omega, by omega⟩ rfl (Nat.le_of_ble_eq_true rfl) dX11_moment_43 ?_
        rintro _ _ _ ⟨n12, n13, rfl, rfl, h16, h17, q43_0, rfl⟩
        refine z_aloadn C 0 dX11_moment_46 rfl rfl ?_
        refine z_get C 0 (by decide) rfl rfl z_it11 24 (by decide) rfl fl_11_74 rfl dX11_moment_47 ?_
        refine z_iloadn C 2 dX11_moment_50 rfl rfl ?_
        refine z_iconst C dX11_moment_51 ?_
        refine z_iadd C dX11_moment_52 ?_
        refine z_iald C 21 (by decide) rfl (by decide) (by omega) (by omega) dX11_moment_53 ?_
        have rx18 := h17 ((k0 + 1) : Int).toNat
        generalize ex18 : n13 ((k0 + 1) : Int).toNat = x18 at rx18 ⊢
        have e53 := ex18
        rw [hQ]
        exact z_iret C hrt dX11_moment_54 (⟨n7, n12, n13, rfl, rfl, h10, by omega, h17, _, rfl, Or.inr (Or.inr ⟨by omega, fun L' hL' => e53.symm.trans ((q43_0 _ (by omega)).trans (xL.eq hL' (fun _ => Iff.rfl) _ (by omega)))⟩)⟩) (by omega) (by omega)
      · skip
        refine z_bipush C dX11_moment_34 (by decide) ?_
        rw [hQ]
        exact z_iret C hrt dX11_moment_36 (⟨a_way, s_isMoved, a_moments, rfl, rfl, Ha_way, by omega, Ha_moments, _, rfl, Or.inr (Or.inl ⟨by omega, by omega, rfl⟩)⟩) (by omega) (by omega)
  · skip
    refine z_bipush C dX11_moment_7 (by decide) ?_
    rw [hQ]
    exact z_iret C hrt dX11_moment_9 (⟨a_way, s_isMoved, a_moments, rfl, rfl, Ha_way, by omega, Ha_moments, _, rfl, Or.inl ⟨by omega, rfl⟩⟩) (by omega) (by omega)
