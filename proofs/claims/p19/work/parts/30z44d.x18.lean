def z_wyA (i k w nd N M a b : Int) : Int := if nd ≠ 0 then -103 else if (0 ≤ i ∧ i < N) ∧ 0 ≤ k ∧ k < M then (if w = 0 then a else if w = 1 then b else -102) else -101
section ZWY
variable {i k w nd N M a b z : Int}
theorem z_wyN (h : nd ≠ 0) : (-103 : Int) = z_wyA i k w nd N M a b := by unfold z_wyA; rw [if_pos h]
theorem z_wyU (h : nd = 0) (h1 : ¬ ((0 ≤ i ∧ i < N) ∧ 0 ≤ k ∧ k < M)) : (-101 : Int) = z_wyA i k w nd N M a b := by unfold z_wyA; rw [if_neg (by omega), if_neg h1]
theorem z_wyO (h : nd = 0) (h1 : (0 ≤ i ∧ i < N) ∧ 0 ≤ k ∧ k < M) (h2 : ¬ (0 ≤ w ∧ w ≤ 1)) : (-102 : Int) = z_wyA i k w nd N M a b := by unfold z_wyA; rw [if_neg (by omega), if_pos h1, if_neg (by omega), if_neg (by omega)]
theorem z_wy0 (h : nd = 0) (h1 : (0 ≤ i ∧ i < N) ∧ 0 ≤ k ∧ k < M) (h2 : w = 0) (h3 : z = a) : z = z_wyA i k w nd N M a b := by unfold z_wyA; rw [if_neg (by omega), if_pos h1, if_pos h2, h3]
theorem z_wy1 (h : nd = 0) (h1 : (0 ≤ i ∧ i < N) ∧ 0 ≤ k ∧ k < M) (h2 : w = 1) (h3 : z = b) : z = z_wyA i k w nd N M a b := by unfold z_wyA; rw [if_neg (by omega), if_pos h1, if_neg (by omega), if_pos h2, h3]
end ZWY
section ZUP
variable {i i0 k M s v x z u U : Int} {pa wy f sf : Nat → Int}
theorem z_up0 {d : Int} (h : d = 0) : i = z_up pa d.toNat i := by subst h; rfl
theorem z_up_I (h : s = z_up pa (M - k).toNat i) (hk : k ≤ M) (e : pa s.toNat = v) : v = z_up pa (M - (k + (-1))).toNat i := by
  rw [show (M - (k + (-1))).toNat = (M - k).toNat + 1 by omega, ← e, h]
  rfl
theorem z_up_E {c d : Int} (h : s = z_up pa c.toNat i) (e : d = c) : s = z_up pa d.toNat i := by rw [e]; exact h
theorem z_up_C (h : s = z_up (fun j => sf (7 * j + 3)) (M - k).toNat i) (hk : k ≤ M) (h0 : 0 ≤ s) (e : v = sf (s * 7 + 3 : Int).toNat) : v = z_up (fun j => sf (7 * j + 3)) (M - (k + (-1))).toNat i :=
  z_up_I h hk (by rw [e, show (s * 7 + 3 : Int).toNat = 7 * s.toNat + 3 by omega])
theorem z_way_up (h : ∀ k : Nat, i < k → (k : Int) ≤ M → wy k = z_up pa (M - k).toNat i0) (hs : s = z_up pa (M - i).toNat i0) (h0 : 0 ≤ i) : ∀ k : Nat, i + (-1) < k → (k : Int) ≤ M → va_up wy i.toNat s k = z_up pa (M - k).toNat i0 := by
  intro k h1 h2
  by_cases e : k = i.toNat
  · subst e
    simp only [va_up, if_true]
    rw [show ((i.toNat : Nat) : Int) = i by omega]
    exact hs
  · simp only [va_up, if_neg e]
    exact h k (by omega) h2
theorem z_wyAt (h1 : f x.toNat = z) (h2 : wy (k + 1).toNat = x) (h3 : wy (k + 1).toNat = z_up pa (M - ((k + 1).toNat : Nat)).toNat i) (h0 : 0 ≤ k) : z = f (z_up pa (M - (k + 1)).toNat i).toNat := by
  rw [← h1, ← h2, h3, show (((k + 1).toNat : Nat) : Int) = k + 1 by omega]
theorem z_wyC4 (h : z = sf (u * 7 + 4 : Int).toNat) (hu : u = U) (h0 : 0 ≤ u) : z = sf (7 * U.toNat + 4) := by rw [h, ← hu, show (u * 7 + 4 : Int).toNat = 7 * u.toNat + 4 by omega]
theorem z_wyC5 (h : z = sf (u * 7 + 5 : Int).toNat) (hu : u = U) (h0 : 0 ≤ u) : z = sf (7 * U.toNat + 5) := by rw [h, ← hu, show (u * 7 + 5 : Int).toNat = 7 * u.toNat + 5 by omega]
/-- two sides' ways are one, where their states are -/
theorem z_up_eq {N : Int} {mv me pb : Nat → Int} (hc : z_ch N pa mv me) (hi : 0 ≤ i ∧ i < N) (hb : ∀ j : Nat, (j : Int) < N → pa j = pb j) : ∀ t : Nat, (t : Int) ≤ mv i.toNat → z_up pa t i = z_up pb t i ∧ (0 ≤ z_up pa t i ∧ z_up pa t i < N) ∧ mv (z_up pa t i).toNat = mv i.toNat - t := by
  intro t
  induction t with
  | zero => exact fun _ => ⟨rfl, hi, by show mv i.toNat = _; omega⟩
  | succ t ih =>
    intro ht
    obtain ⟨h1, h2, h3⟩ := ih (by omega)
    obtain ⟨k1, k2, k3, _⟩ := hc (z_up pa t i).toNat (by omega) (by omega)
    refine ⟨?_, ⟨k1, ?_⟩, ?_⟩
    · show pa (z_up pa t i).toNat = pb (z_up pb t i).toNat
      rw [← h1]
      exact hb _ (by omega)
    · show pa (z_up pa t i).toNat < N
      omega
    · show mv (pa (z_up pa t i).toNat).toNat = _
      omega
end ZUP
set_option maxRecDepth 20000 in
theorem cx_X11_layOut (l : Launch) {D : va_G} {A : Nat → Prop} {ad : Nat → Nat} {ks : z_Ks} {s_edges s_isNeeded s_explored s_states s_isMoved s_runs s_runTime s_runMoves : Int} {w_h : Int64} {a_machine a_from a_to a_channel a_resets a_guards a_guardOf a_limits a_limitOf a_places a_zones a_parent a_moveE a_moveF a_moves a_z a_ahead a_at a_amounts a_way a_moments a_runAt a_runClock : Nat → Int} {Y : Nat → Option va_E} (i0 : Int) (Hs_states : (0 ≤ s_states ∧ s_states ≤ 120)) (Ha_parent : (∀ j, -1 ≤ a_parent j ∧ a_parent j ≤ 119)) (Ha_moves : (∀ j, 0 ≤ a_moves j ∧ a_moves j ≤ 40)) (Ha_way : (∀ j, 0 ≤ a_way j ∧ a_way j ≤ 119)) (hi : 0 ≤ i0 ∧ i0 < s_states) (hch : z_ch s_states a_parent a_moves a_moveE) : z_Met l yX11_layOut cX11_layOut 4 (some .int) 0 0 0 0 D A 24 ad ks [.ref (ad 0), z_v i0] (z_zm ad ks s_edges s_isNeeded s_explored s_states s_isMoved s_runs s_runTime s_runMoves w_h a_machine a_from a_to a_channel a_resets a_guards a_guardOf a_limits a_limitOf a_places a_zones a_parent a_moveE a_moveF a_moves a_z a_ahead a_at a_amounts a_way a_moments a_runAt a_runClock) Y (fun r S' Y' => ∃ na_way : Nat → Int, S' = (z_zm ad ks s_edges s_isNeeded s_explored s_states s_isMoved s_runs s_runTime s_runMoves w_h a_machine a_from a_to a_channel a_resets a_guards a_guardOf a_limits a_limitOf a_places a_zones a_parent a_moveE a_moveF a_moves a_z a_ahead a_at a_amounts na_way a_moments a_runAt a_runClock) ∧ Y = Y' ∧ (∀ j, 0 ≤ na_way j ∧ na_way j ≤ 119) ∧ (∀ k : Nat, (k : Int) ≤ a_moves (i0 : Int).toNat → 0 ≤ na_way k ∧ na_way k < s_states ∧ a_moves (na_way k).toNat = k) ∧ (∀ k : Nat, (k : Int) ≤ a_moves (i0 : Int).toNat → na_way k = z_up a_parent (a_moves (i0 : Int).toNat - k).toNat i0) ∧ ∃ z : Int, r = some (z_v z) ∧ (z = a_moves (i0 : Int).toNat)) := by
  refine z_start2 (by decide) (Nat.le_of_ble_eq_true rfl) ?_
  intro p e R s m args below meth c Q C hRf hRc hRs hRl hQ hrt hnm
  refine z_loc (L' := [(0, .ref (ad 0)), (1, z_v i0)]) [0, 1] rfl ?_
  refine z_iloadn C 1 dX11_layOut_0 rfl rfl ?_
  refine z_istoren (L' := [(2, z_v i0), (0, .ref (ad 0)), (1, z_v i0)]) C dX11_layOut_1 rfl (by decide) rfl ?_
  refine z_aloadn C 1 dX11_layOut_2 rfl rfl ?_
  refine z_get C 0 (by decide) rfl rfl z_it11 18 (by decide) rfl fl_11_56 rfl dX11_layOut_3 ?_
  refine z_iloadn C 2 dX11_layOut_6 rfl rfl ?_
  refine z_iald C 15 (by decide) rfl (by decide) (by omega) (by omega) dX11_layOut_7 ?_
  have rx1 := Ha_moves (i0 : Int).toNat
  generalize ex1 : a_moves (i0 : Int).toNat = x1 at rx1 ⊢
  refine z_istoren (L' := [(3, z_v x1), (2, z_v i0), (0, .ref (ad 0)), (1, z_v i0)]) C dX11_layOut_8 rfl (by decide) rfl ?_
  have L9 : ∀ (n : Nat), ∀ (i2 : Int) (i3 : Int) (fa_way : Nat → Int), ((∀ j, 0 ≤ fa_way j ∧ fa_way j ≤ 119)) → (0 ≤ i3 → 0 ≤ i2 ∧ i2 < s_states ∧ a_moves (i2 : Int).toNat = i3) → (∀ k : Nat, i3 < k → (k : Int) ≤ a_moves (i0 : Int).toNat → 0 ≤ fa_way k ∧ fa_way k < s_states ∧ a_moves (fa_way k).toNat = k) → (i3 ≤ a_moves (i0 : Int).toNat) → (0 ≤ i3 → i2 = z_up a_parent (a_moves (i0 : Int).toNat - i3).toNat i0) → (∀ k : Nat, i3 < k → (k : Int) ≤ a_moves (i0 : Int).toNat → fa_way k = z_up a_parent (a_moves (i0 : Int).toNat - k).toNat i0) → (-1 ≤ i3 ∧ i3 ≤ 40) → ((i3 : Int) - (-1)).toNat < n → z_V p l e R s m args below meth c Q D A 24 ad 4 (z_zm ad ks s_edges s_isNeeded s_explored s_states s_isMoved s_runs s_runTime s_runMoves w_h a_machine a_from a_to a_channel a_resets a_guards a_guardOf a_limits a_limitOf a_places a_zones a_parent a_moveE a_moveF a_moves a_z a_ahead a_at a_amounts fa_way a_moments a_runAt a_runClock) Y 0 0 9 [(0, .ref (ad 0)), (1, z_v i0), (2, z_v i2), (3, z_v i3)] [] := by
    intro n
    induction n with
    | zero => intro i2 i3 fa_way Hfa_way J1 J2 JM JU JW I3 hm; exact absurd hm (Nat.not_lt_zero _)
    | succ n ih9 =>
      intro i2 i3 fa_way Hfa_way J1 J2 JM JU JW I3 hm
      refine z_iloadn C 3 dX11_layOut_9 rfl rfl ?_
      refine z_if_lt (t := 33) C dX11_layOut_10 (by decide) (by omega) (fun c2 => ?_) (fun c2 => ?_)
      · skip
        refine z_aloadn C 0 dX11_layOut_33 rfl rfl ?_
        refine z_get C 0 (by decide) rfl rfl z_it11 18 (by decide) rfl fl_11_56 rfl dX11_layOut_34 ?_
        refine z_iloadn C 1 dX11_layOut_37 rfl rfl ?_
        refine z_iald C 15 (by decide) rfl (by decide) (by omega) (by omega) dX11_layOut_38 ?_
        have rx3 := Ha_moves (i0 : Int).toNat
        generalize ex3 : a_moves (i0 : Int).toNat = x3 at rx3 ⊢
        rw [hQ]
        exact z_iret C hrt dX11_layOut_39 (⟨fa_way, rfl, rfl, Hfa_way, fun k hk => J2 k (by omega) hk, fun k hk => JW k (by omega) hk, _, rfl, by omega⟩) (by omega) (by omega)
      · skip
        obtain ⟨j1, j2, j3⟩ := J1 (by omega)
        refine z_aloadn C 0 dX11_layOut_13 rfl rfl ?_
        refine z_get C 0 (by decide) rfl rfl z_it11 23 (by decide) rfl fl_11_71 rfl dX11_layOut_14 ?_
        refine z_iloadn C 3 dX11_layOut_17 rfl rfl ?_
        refine z_iloadn C 2 dX11_layOut_18 rfl rfl ?_
        refine z_iast C 20 (by decide) rfl (by decide) (by omega) (by omega) dX11_layOut_19 ?_
        refine z_ext (S' := (z_zm ad ks s_edges s_isNeeded s_explored s_states s_isMoved s_runs s_runTime s_runMoves w_h a_machine a_from a_to a_channel a_resets a_guards a_guardOf a_limits a_limitOf a_places a_zones a_parent a_moveE a_moveF a_moves a_z a_ahead a_at a_amounts (va_up fa_way (i3 : Int).toNat i2) a_moments a_runAt a_runClock)) upM_a_way ?_
        have h4 : ∀ j, 0 ≤ (va_up fa_way (i3 : Int).toNat i2) j ∧ (va_up fa_way (i3 : Int).toNat i2) j ≤ 119 := z_upP (P := fun j v => 0 ≤ v ∧ v ≤ 119) Hfa_way (by omega)
        refine z_aloadn C 0 dX11_layOut_20 rfl rfl ?_
        refine z_get C 0 (by decide) rfl rfl z_it11 15 (by decide) rfl fl_11_47 rfl dX11_layOut_21 ?_
        refine z_iloadn C 2 dX11_layOut_24 rfl rfl ?_
        refine z_iald C 12 (by decide) rfl (by decide) (by omega) (by omega) dX11_layOut_25 ?_
        have rx5 := Ha_parent (i2 : Int).toNat
        generalize ex5 : a_parent (i2 : Int).toNat = x5 at rx5 ⊢
        have hpa := ex5
        have QJ : 0 ≤ i3 + (-1) → 0 ≤ x5 ∧ x5 < s_states ∧ a_moves (x5 : Int).toNat = i3 + (-1) := fun h => by
          obtain ⟨a1, a2, a3, a4⟩ := hch i2.toNat (by omega) (by omega)
          rw [ex5] at a1 a2 a3
          exact ⟨a1, by omega, by omega⟩
        refine z_istoren (L' := [(2, z_v x5), (0, .ref (ad 0)), (1, z_v i0), (3, z_v i3)]) C dX11_layOut_26 rfl (by decide) rfl ?_
        refine z_iinc (L' := [(3, z_v (i3 + (-1))), (2, z_v x5), (0, .ref (ad 0)), (1, z_v i0)]) C 3 dX11_layOut_27 rfl (by decide) rfl ?_
        refine z_goto (t := 9) C dX11_layOut_30 (by decide) ?_
        refine z_loc (L' := [(0, .ref (ad 0)), (1, z_v i0), (2, z_v x5), (3, z_v (i3 + (-1)))]) [2, 3, 1, 0] rfl ?_
        exact ih9 x5 (i3 + (-1)) (va_up fa_way (i3 : Int).toNat i2) h4 (QJ) (z_way_add J2 j1 j2 j3 (by omega)) (by omega) (fun _ => z_up_I (JU (by omega)) JM hpa) (z_way_up JW (JU (by omega)) (by omega)) (by omega) (by omega)
  refine z_loc (L' := [(0, .ref (ad 0)), (1, z_v i0), (2, z_v i0), (3, z_v x1)]) [2, 3, 1, 0] rfl ?_
  exact (L9 (((x1 : Int) - (-1)).toNat + 1)) i0 x1 a_way Ha_way (fun _ => ⟨by omega, by omega, by omega⟩) (fun k h1 h2 => absurd h2 (by omega)) (by omega) (fun _ => z_up0 (by omega)) (fun k h1 h2 => absurd h2 (by omega)) (by omega) (Nat.lt_succ_self _)
set_option maxRecDepth 20000 in
theorem cx_X11_way (l : Launch) {D : va_G} {A : Nat → Prop} {ad : Nat → Nat} {ks : z_Ks} {s_edges s_isNeeded s_explored s_states s_isMoved s_runs s_runTime s_runMoves : Int} {w_h : Int64} {a_machine a_from a_to a_channel a_resets a_guards a_guardOf a_limits a_limitOf a_places a_zones a_parent a_moveE a_moveF a_moves a_z a_ahead a_at a_amounts a_way a_moments a_runAt a_runClock : Nat → Int} {Y : Nat → Option va_E} (i0 k0 wh : Int) (Hs_isNeeded : (s_isNeeded = 0 ∨ s_isNeeded = 1)) (Hs_states : (0 ≤ s_states ∧ s_states ≤ 120)) (Ha_parent : (∀ j, -1 ≤ a_parent j ∧ a_parent j ≤ 119)) (Ha_moves : (∀ j, 0 ≤ a_moves j ∧ a_moves j ≤ 40)) (Ha_way : (∀ j, 0 ≤ a_way j ∧ a_way j ≤ 119)) (hi : z_rg i0) (hk : z_rg k0) (hw : z_rg wh) (hch : z_ch s_states a_parent a_moves a_moveE) : z_Met l yX11_way cX11_way 4 (some .int) 2 43 0 0 D A 24 ad ks [.ref (ad 0), z_v i0, z_v k0, z_v wh] (z_zm ad ks s_edges s_isNeeded s_explored s_states s_isMoved s_runs s_runTime s_runMoves w_h a_machine a_from a_to a_channel a_resets a_guards a_guardOf a_limits a_limitOf a_places a_zones a_parent a_moveE a_moveF a_moves a_z a_ahead a_at a_amounts a_way a_moments a_runAt a_runClock) Y (fun r S' Y' => ∃ na_way : Nat → Int, S' = (z_zm ad ks s_edges s_isNeeded s_explored s_states s_isMoved s_runs s_runTime s_runMoves w_h a_machine a_from a_to a_channel a_resets a_guards a_guardOf a_limits a_limitOf a_places a_zones a_parent a_moveE a_moveF a_moves a_z a_ahead a_at a_amounts na_way a_moments a_runAt a_runClock) ∧ Y = Y' ∧ (∀ j, 0 ≤ na_way j ∧ na_way j ≤ 119) ∧ ∃ z : Int, r = some (z_v z) ∧ (z = z_wyA i0 k0 wh s_isNeeded s_states (a_moves (i0 : Int).toNat) (a_moveE (z_up a_parent (a_moves (i0 : Int).toNat - (k0 + 1)).toNat i0).toNat) (a_moveF (z_up a_parent (a_moves (i0 : Int).toNat - (k0 + 1)).toNat i0).toNat))) := by
  refine z_start2 (by decide) (Nat.le_of_ble_eq_true rfl) ?_
  intro p e R s m args below meth c Q C hRf hRc hRs hRl hQ hrt hnm
  refine z_loc (L' := [(0, .ref (ad 0)), (1, z_v i0), (2, z_v k0), (3, z_v wh)]) [0, 1, 2, 3] rfl ?_
  refine z_aloadn C 0 dX11_way_0 rfl rfl ?_
  refine z_get C 0 (by decide) rfl rfl z_it11 10 (by decide) rfl fl_11_37 rfl dX11_way_1 ?_
  refine z_if_eq (t := 10) C dX11_way_4 (by decide) (by omega) (fun c1 => ?_) (fun c1 => ?_)
  · skip
    refine z_aloadn C 0 dX11_way_10 rfl rfl ?_
    refine z_iloadn C 1 dX11_way_11 rfl rfl ?_
    refine z_callV C (cm_X11_isState l i0 (by omega) (by omega)) mv_11_165 (z_atS 0 11 (by decide) rfl rfl rfl) pd_X11_isState ⟨by omega, by omega⟩ ⟨by omega, by omega⟩ rfl (Nat.le_of_ble_eq_true rfl) dX11_way_12 ?_
    rintro _ _ _ ⟨rfl, rfl, z2, rfl, hz2⟩
    refine z_if_eq (t := 34) C dX11_way_15 (by decide) (by omega) (fun c3 => ?_) (fun c3 => ?_)
    · skip
      refine z_bipush C dX11_way_34 (by decide) ?_
      rw [hQ]
      exact z_iret C hrt dX11_way_36 (⟨a_way, rfl, rfl, Ha_way, _, rfl, z_wyU (by omega) (by omega)⟩) (by omega) (by omega)
    · skip
      refine z_iloadn C 2 dX11_way_18 rfl rfl ?_
      refine z_iconst C dX11_way_19 ?_
      refine z_aloadn C 0 dX11_way_20 rfl rfl ?_
      refine z_get C 0 (by decide) rfl rfl z_it11 18 (by decide) rfl fl_11_56 rfl dX11_way_21 ?_
      refine z_iloadn C 1 dX11_way_24 rfl rfl ?_
      refine z_iald C 15 (by decide) rfl (by decide) (by omega) (by omega) dX11_way_25 ?_
      have rx4 := Ha_moves (i0 : Int).toNat
      generalize ex4 : a_moves (i0 : Int).toNat = x4 at rx4 ⊢
      refine z_iconst C dX11_way_26 ?_
      refine z_isub C dX11_way_27 ?_
      refine z_callS C (cm_X11_in l k0 0 (x4 - 1) (by omega) (by omega) (by omega)) mv_11_86 pd_X11_in ⟨by omega, by omega⟩ ⟨by omega, by omega⟩ rfl (Nat.le_of_ble_eq_true rfl) dX11_way_28 ?_
      rintro _ _ _ ⟨rfl, rfl, z5, rfl, hz5⟩
      refine z_if_ne (t := 37) C dX11_way_31 (by decide) (by omega) (fun c6 => ?_) (fun c6 => ?_)
      · skip
        refine z_iloadn C 3 dX11_way_37 rfl rfl ?_
        refine z_iconst C dX11_way_38 ?_
        refine z_iconst C dX11_way_39 ?_
        refine z_callS C (cm_X11_in l wh 0 1 (by omega) (by omega) (by omega)) mv_11_86 pd_X11_in ⟨by omega, by omega⟩ ⟨by omega, by omega⟩ rfl (Nat.le_of_ble_eq_true rfl) dX11_way_40 ?_
        rintro _ _ _ ⟨rfl, rfl, z7, rfl, hz7⟩
        refine z_if_ne (t := 49) C dX11_way_43 (by decide) (by omega) (fun c8 => ?_) (fun c8 => ?_)
        · skip
          refine z_aloadn C 0 dX11_way_49 rfl rfl ?_
          refine z_iloadn C 1 dX11_way_50 rfl rfl ?_
          refine z_callV C (cx_X11_layOut l i0 (by omega) Ha_parent Ha_moves Ha_way (by omega) hch) mv_11_177 (z_atS 0 11 (by decide) rfl rfl rfl) pd_X11_layOut ⟨by omega, by omega⟩ ⟨by omega, by omega⟩ rfl (Nat.le_of_ble_eq_true rfl) dX11_way_51 ?_
          rintro _ _ _ ⟨n9, rfl, rfl, h12, q51_0, q51_1, z13, rfl, hz13⟩
          refine z_pop C dX11_way_54 rfl ?_
          refine z_iloadn C 3 dX11_way_55 rfl rfl ?_
          refine z_if_ne (t := 75) C dX11_way_56 (by decide) (by omega) (fun c14 => ?_) (fun c14 => ?_)
          · skip
            refine z_aloadn C 0 dX11_way_75 rfl rfl ?_
            refine z_get C 0 (by decide) rfl rfl z_it11 17 (by decide) rfl fl_11_53 rfl dX11_way_76 ?_
            refine z_aloadn C 0 dX11_way_79 rfl rfl ?_
            refine z_get C 0 (by decide) rfl rfl z_it11 23 (by decide) rfl fl_11_71 rfl dX11_way_80 ?_
            refine z_iloadn C 2 dX11_way_83 rfl rfl ?_
            refine z_iconst C dX11_way_84 ?_
            refine z_iadd C dX11_way_85 ?_
            refine z_iald C 20 (by decide) rfl (by decide) (by omega) (by omega) dX11_way_86 ?_
            have rx15 := h12 ((k0 + 1) : Int).toNat
            generalize ex15 : n9 ((k0 + 1) : Int).toNat = x15 at rx15 ⊢
            have hw86 := ex15
            refine z_iald C 14 (by decide) rfl (by decide) (by omega) (by omega) dX11_way_87 ?_
            rw [hQ]
            exact z_iret C hrt dX11_way_88 (⟨n9, rfl, rfl, h12, _, rfl, by first | exact z_wy0 (by omega) (by omega) (by omega) (z_wyAt rfl hw70 (q51_1 (k0 + 1).toNat (by omega)) (by omega)) | exact z_wy1 (by omega) (by omega) (by omega) (z_wyAt rfl hw86 (q51_1 (k0 + 1).toNat (by omega)) (by omega))⟩) (by omega) (by omega)
          · skip
            refine z_aloadn C 0 dX11_way_59 rfl rfl ?_
            refine z_get C 0 (by decide) rfl rfl z_it11 16 (by decide) rfl fl_11_50 rfl dX11_way_60 ?_
            refine z_aloadn C 0 dX11_way_63 rfl rfl ?_
            refine z_get C 0 (by decide) rfl rfl z_it11 23 (by decide) rfl fl_11_71 rfl dX11_way_64 ?_
            refine z_iloadn C 2 dX11_way_67 rfl rfl ?_
            refine z_iconst C dX11_way_68 ?_
            refine z_iadd C dX11_way_69 ?_
            refine z_iald C 20 (by decide) rfl (by decide) (by omega) (by omega) dX11_way_70 ?_
            have rx16 := h12 ((k0 + 1) : Int).toNat
            generalize ex16 : n9 ((k0 + 1) : Int).toNat = x16 at rx16 ⊢
            have hw70 := ex16
            refine z_iald C 13 (by decide) rfl (by decide) (by omega) (by omega) dX11_way_71 ?_
            refine z_goto (t := 88) C dX11_way_72 (by decide) ?_
            rw [hQ]
            exact z_iret C hrt dX11_way_88 (⟨n9, rfl, rfl, h12, _, rfl, by first | exact z_wy0 (by omega) (by omega) (by omega) (z_wyAt rfl hw70 (q51_1 (k0 + 1).toNat (by omega)) (by omega)) | exact z_wy1 (by omega) (by omega) (by omega) (z_wyAt rfl hw86 (q51_1 (k0 + 1).toNat (by omega)) (by omega))⟩) (by omega) (by omega)
        · skip
          refine z_bipush C dX11_way_46 (by decide) ?_
          rw [hQ]
          exact z_iret C hrt dX11_way_48 (⟨a_way, rfl, rfl, Ha_way, _, rfl, z_wyO (by omega) (by omega) (by omega)⟩) (by omega) (by omega)
      · skip
        refine z_bipush C dX11_way_34 (by decide) ?_
        rw [hQ]
        exact z_iret C hrt dX11_way_36 (⟨a_way, rfl, rfl, Ha_way, _, rfl, z_wyU (by omega) (by omega)⟩) (by omega) (by omega)
  · skip
    refine z_bipush C dX11_way_7 (by decide) ?_
    rw [hQ]
    exact z_iret C hrt dX11_way_9 (⟨a_way, rfl, rfl, Ha_way, _, rfl, z_wyN (by omega)⟩) (by omega) (by omega)
set_option maxRecDepth 20000 in
theorem cx_X4_onWay (l : Launch) {D : va_G} {A : Nat → Prop} {ad : Nat → Nat} {ks : z_Ks} {s_edgeCount s_moveCount s_isNeeded s_timesDone s_size s_isGoing s_allTime s_stepCount s_gapCount : Int} {g_edges g_moves g_limits : Nat → Option Nat} {a_sfacts a_sbounds a_facts a_zone a_most a_places a_amounts a_nextPlaces a_nextAmounts a_earliest a_visited a_lastSet a_gapFrom a_gapTo a_gapLeast a_askedPlaces a_askedAmounts : Nat → Int} {Y : Nat → Option va_E} (i0 k0 : Int) (Hs_size : (0 ≤ s_size ∧ s_size ≤ 120)) (Ha_sfacts : (∀ j, (j % 7 < 3 → 0 ≤ a_sfacts j ∧ a_sfacts j ≤ 5) ∧ (j % 7 = 3 → -1 ≤ a_sfacts j ∧ a_sfacts j ≤ 119) ∧ (j % 7 = 6 → 0 ≤ a_sfacts j ∧ a_sfacts j ≤ 40) ∧ z_rg (a_sfacts j))) (hi : 0 ≤ i0 ∧ i0 < s_size) (hk : 0 ≤ k0 ∧ k0 < a_sfacts (i0 * 7 + 6 : Int).toNat) (hcc : z_cc s_size a_sfacts) : z_Met l yX4_onWay cX4_onWay 5 (some .int) 1 22 0 0 D A 27 ad ks [.ref (ad 6), z_v i0, z_v k0] (z_zc ad ks s_edgeCount s_moveCount s_isNeeded s_timesDone s_size s_isGoing s_allTime s_stepCount s_gapCount g_edges g_moves g_limits a_sfacts a_sbounds a_facts a_zone a_most a_places a_amounts a_nextPlaces a_nextAmounts a_earliest a_visited a_lastSet a_gapFrom a_gapTo a_gapLeast a_askedPlaces a_askedAmounts) Y (fun r S' Y' => S' = (z_zc ad ks s_edgeCount s_moveCount s_isNeeded s_timesDone s_size s_isGoing s_allTime s_stepCount s_gapCount g_edges g_moves g_limits a_sfacts a_sbounds a_facts a_zone a_most a_places a_amounts a_nextPlaces a_nextAmounts a_earliest a_visited a_lastSet a_gapFrom a_gapTo a_gapLeast a_askedPlaces a_askedAmounts) ∧ Y = Y' ∧ ∃ z : Int, r = some (z_v z) ∧ ((0 ≤ z ∧ z < s_size) ∧ z = (z_up (fun j => a_sfacts (7 * j + 3)) (a_sfacts (i0 * 7 + 6 : Int).toNat - (k0 + 1)).toNat i0))) := by
  refine z_start2 (by decide) (Nat.le_of_ble_eq_true rfl) ?_
  intro p e R s m args below meth c Q C hRf hRc hRs hRl hQ hrt hnm
  refine z_loc (L' := [(0, .ref (ad 6)), (1, z_v i0), (2, z_v k0)]) [0, 1, 2] rfl ?_
  refine z_iloadn C 1 dX4_onWay_0 rfl rfl ?_
  refine z_istoren (L' := [(3, z_v i0), (0, .ref (ad 6)), (1, z_v i0), (2, z_v k0)]) C dX4_onWay_1 rfl (by decide) rfl ?_
  refine z_aloadn C 1 dX4_onWay_2 rfl rfl ?_
  refine z_iloadn C 2 dX4_onWay_3 rfl rfl ?_
  refine z_bipush C dX4_onWay_4 (by decide) ?_
  refine z_callV C (cm_X4_fact l i0 6 Ha_sfacts (by omega) (by omega)) mv_4_26 (z_atS 6 4 (by decide) rfl rfl rfl) pd_X4_fact ⟨by omega, by omega⟩ ⟨by omega, by omega⟩ rfl (Nat.le_of_ble_eq_true rfl) dX4_onWay_6 ?_
  rintro _ _ _ ⟨rfl, rfl, z3, rfl, hz3⟩
  have qs := hz3.1
  refine z_iconst C dX4_onWay_9 ?_
  refine z_isub C dX4_onWay_10 ?_
  refine z_istore (L' := [(4, z_v (z3 - 1)), (3, z_v i0), (0, .ref (ad 6)), (1, z_v i0), (2, z_v k0)]) C dX4_onWay_11 (by decide) rfl ?_
  have L13 : ∀ (n : Nat), ∀ (i3 : Int) (i4 : Int), (k0 ≤ i4 ∧ i4 ≤ 39) → (0 ≤ i3 ∧ i3 < s_size) → (a_sfacts (i3 * 7 + 6 : Int).toNat = i4 + 1) → (i4 ≤ a_sfacts (i0 * 7 + 6 : Int).toNat - 1) → (i3 = z_up (fun j => a_sfacts (7 * j + 3)) (a_sfacts (i0 * 7 + 6 : Int).toNat - 1 - i4).toNat i0) → (i4 - k0).toNat < n → z_V p l e R s m args below meth c Q D A 27 ad 5 (z_zc ad ks s_edgeCount s_moveCount s_isNeeded s_timesDone s_size s_isGoing s_allTime s_stepCount s_gapCount g_edges g_moves g_limits a_sfacts a_sbounds a_facts a_zone a_most a_places a_amounts a_nextPlaces a_nextAmounts a_earliest a_visited a_lastSet a_gapFrom a_gapTo a_gapLeast a_askedPlaces a_askedAmounts) Y 0 0 13 [(0, .ref (ad 6)), (2, z_v k0), (3, z_v i3), (4, z_v i4)] [] := by
    intro n
    induction n with
    | zero => intro i3 i4 I4 I3 J JM JU hm; exact absurd hm (Nat.not_lt_zero _)
    | succ n ih13 =>
      intro i3 i4 I4 I3 J JM JU hm
      refine z_iload C 3 dX4_onWay_13 rfl ?_
      refine z_iloadn C 1 dX4_onWay_15 rfl rfl ?_
      refine z_icmp_le (t := 32) C dX4_onWay_16 (by decide) (by omega) (by omega) (fun c4 => ?_) (fun c4 => ?_)
      · skip
        refine z_iloadn C 2 dX4_onWay_32 rfl rfl ?_
        rw [hQ]
        exact z_iret C hrt dX4_onWay_33 (⟨rfl, rfl, _, rfl, ⟨I3, z_up_E JU (by omega)⟩⟩) (by omega) (by omega)
      · skip
        refine z_aloadn C 0 dX4_onWay_19 rfl rfl ?_
        refine z_iloadn C 2 dX4_onWay_20 rfl rfl ?_
        refine z_iconst C dX4_onWay_21 ?_
        refine z_callV C (cm_X4_fact l i3 3 Ha_sfacts (by omega) (by omega)) mv_4_26 (z_atS 6 4 (by decide) rfl rfl rfl) pd_X4_fact ⟨by omega, by omega⟩ ⟨by omega, by omega⟩ rfl (Nat.le_of_ble_eq_true rfl) dX4_onWay_22 ?_
        rintro _ _ _ ⟨rfl, rfl, z7, rfl, hz7⟩
        have qf := hz7.1
        refine z_istoren (L' := [(3, z_v z7), (0, .ref (ad 6)), (2, z_v k0), (4, z_v i4)]) C dX4_onWay_25 rfl (by decide) rfl ?_
        refine z_iinc (L' := [(4, z_v (i4 + (-1))), (3, z_v z7), (0, .ref (ad 6)), (2, z_v k0)]) C 3 dX4_onWay_26 rfl (by decide) rfl ?_
        refine z_goto (t := 13) C dX4_onWay_29 (by decide) ?_
        refine z_loc (L' := [(0, .ref (ad 6)), (2, z_v k0), (3, z_v z7), (4, z_v (i4 + (-1)))]) [2, 3, 1, 0] rfl ?_
        exact ih13 z7 (i4 + (-1)) (by omega) ((z_cc_at hcc I3 J (by omega) qf).1) ((z_cc_at hcc I3 J (by omega) qf).2) (by omega) (z_up_C JU JM I3.1 qf) (by omega)
  refine z_loc (L' := [(0, .ref (ad 6)), (2, z_v k0), (3, z_v i0), (4, z_v (z3 - 1))]) [2, 4, 1, 0] rfl ?_
  exact (L13 (((z3 - 1) - k0).toNat + 1)) i0 (z3 - 1) (by omega) (by omega) (by omega) (by omega) (z_up0 (by omega)) (Nat.lt_succ_self _)
set_option maxRecDepth 20000 in
theorem cx_X10_way (l : Launch) {D : va_G} {A : Nat → Prop} {ad : Nat → Nat} {ks : z_Ks} {s_edgeCount s_moveCount s_isNeeded s_timesDone s_size s_isGoing s_allTime s_stepCount s_gapCount : Int} {g_edges g_moves g_limits : Nat → Option Nat} {a_sfacts a_sbounds a_facts a_zone a_most a_places a_amounts a_nextPlaces a_nextAmounts a_earliest a_visited a_lastSet a_gapFrom a_gapTo a_gapLeast a_askedPlaces a_askedAmounts : Nat → Int} {Y : Nat → Option va_E} (i0 k0 wh : Int) (Hs_isNeeded : (s_isNeeded = 0 ∨ s_isNeeded = 1)) (Hs_size : (0 ≤ s_size ∧ s_size ≤ 120)) (Ha_sfacts : (∀ j, (j % 7 < 3 → 0 ≤ a_sfacts j ∧ a_sfacts j ≤ 5) ∧ (j % 7 = 3 → -1 ≤ a_sfacts j ∧ a_sfacts j ≤ 119) ∧ (j % 7 = 6 → 0 ≤ a_sfacts j ∧ a_sfacts j ≤ 40) ∧ z_rg (a_sfacts j))) (hi0 : z_rg i0) (hk0 : z_rg k0) (hwh : z_rg wh) (hcc : z_cc s_size a_sfacts) : z_Met l yX10_way cX10_way 4 (some .int) 2 46 0 0 D A 27 ad ks [.ref (ad 0), z_v i0, z_v k0, z_v wh] (z_zc ad ks s_edgeCount s_moveCount s_isNeeded s_timesDone s_size s_isGoing s_allTime s_stepCount s_gapCount g_edges g_moves g_limits a_sfacts a_sbounds a_facts a_zone a_most a_places a_amounts a_nextPlaces a_nextAmounts a_earliest a_visited a_lastSet a_gapFrom a_gapTo a_gapLeast a_askedPlaces a_askedAmounts) Y (fun r S' Y' => S' = (z_zc ad ks s_edgeCount s_moveCount s_isNeeded s_timesDone s_size s_isGoing s_allTime s_stepCount s_gapCount g_edges g_moves g_limits a_sfacts a_sbounds a_facts a_zone a_most a_places a_amounts a_nextPlaces a_nextAmounts a_earliest a_visited a_lastSet a_gapFrom a_gapTo a_gapLeast a_askedPlaces a_askedAmounts) ∧ Y = Y' ∧ ∃ z : Int, r = some (z_v z) ∧ (z = z_wyA i0 k0 wh s_isNeeded s_size (a_sfacts (i0 * 7 + 6 : Int).toNat) (a_sfacts (7 * (z_up (fun j => a_sfacts (7 * j + 3)) (a_sfacts (i0 * 7 + 6 : Int).toNat - (k0 + 1)).toNat i0).toNat + 4)) (a_sfacts (7 * (z_up (fun j => a_sfacts (7 * j + 3)) (a_sfacts (i0 * 7 + 6 : Int).toNat - (k0 + 1)).toNat i0).toNat + 5)))) := by
  refine z_start2 (by decide) (Nat.le_of_ble_eq_true rfl) ?_
  intro p e R s m args below meth c Q C hRf hRc hRs hRl hQ hrt hnm
  refine z_loc (L' := [(0, .ref (ad 0)), (1, z_v i0), (2, z_v k0), (3, z_v wh)]) [0, 1, 2, 3] rfl ?_
  refine z_aloadn C 0 dX10_way_0 rfl rfl ?_
  refine z_get C 0 (by decide) rfl rfl z_it10 1 (by decide) rfl fl_10_19 rfl dX10_way_1 ?_
  refine z_get C 5 (by decide) rfl rfl z_it3 1 (by decide) rfl fl_10_102 rfl dX10_way_4 ?_
  refine z_if_eq (t := 13) C dX10_way_7 (by decide) (by omega) (fun c1 => ?_) (fun c1 => ?_)
  · skip
    refine z_aloadn C 0 dX10_way_13 rfl rfl ?_
    refine z_get C 0 (by decide) rfl rfl z_it10 1 (by decide) rfl fl_10_19 rfl dX10_way_14 ?_
    refine z_get C 5 (by decide) rfl rfl z_it3 0 (by decide) rfl fl_10_106 rfl dX10_way_17 ?_
    refine z_iloadn C 1 dX10_way_20 rfl rfl ?_
    refine z_iloadn C 2 dX10_way_21 rfl rfl ?_
    refine z_callV C (cm_X4_isStep l i0 k0 (by omega) Ha_sfacts (by omega) (by omega)) mv_10_142 (z_atS 6 4 (by decide) rfl rfl rfl) pd_X4_isStep ⟨by omega, by omega⟩ ⟨by omega, by omega⟩ rfl (Nat.le_of_ble_eq_true rfl) dX10_way_22 ?_
    rintro _ _ _ ⟨rfl, rfl, z4, rfl, hz4⟩
    refine z_if_ne (t := 31) C dX10_way_25 (by decide) (by omega) (fun c5 => ?_) (fun c5 => ?_)
    · skip
      refine z_iloadn C 3 dX10_way_31 rfl rfl ?_
      refine z_if_lt (t := 40) C dX10_way_32 (by decide) (by omega) (fun c6 => ?_) (fun c6 => ?_)
      · skip
        refine z_bipush C dX10_way_40 (by decide) ?_
        rw [hQ]
        exact z_iret C hrt dX10_way_42 (⟨rfl, rfl, _, rfl, z_wyO (by omega) (by omega) (by omega)⟩) (by omega) (by omega)
      · skip
        refine z_iloadn C 3 dX10_way_35 rfl rfl ?_
        refine z_iconst C dX10_way_36 ?_
        refine z_icmp_le (t := 43) C dX10_way_37 (by decide) (by omega) (by omega) (fun c7 => ?_) (fun c7 => ?_)
        · skip
          refine z_aloadn C 0 dX10_way_43 rfl rfl ?_
          refine z_get C 0 (by decide) rfl rfl z_it10 1 (by decide) rfl fl_10_19 rfl dX10_way_44 ?_
          refine z_get C 5 (by decide) rfl rfl z_it3 0 (by decide) rfl fl_10_106 rfl dX10_way_47 ?_
          refine z_aloadn C 0 dX10_way_50 rfl rfl ?_
          refine z_get C 0 (by decide) rfl rfl z_it10 1 (by decide) rfl fl_10_19 rfl dX10_way_51 ?_
          refine z_get C 5 (by decide) rfl rfl z_it3 0 (by decide) rfl fl_10_106 rfl dX10_way_54 ?_
          refine z_iloadn C 1 dX10_way_57 rfl rfl ?_
          refine z_iloadn C 2 dX10_way_58 rfl rfl ?_
          refine z_callV C (cx_X4_onWay l i0 k0 (by omega) Ha_sfacts (by omega) (by omega) hcc) mv_10_146 (z_atS 6 4 (by decide) rfl rfl rfl) pd_X4_onWay ⟨by omega, by omega⟩ ⟨by omega, by omega⟩ rfl (Nat.le_of_ble_eq_true rfl) dX10_way_59 ?_
          rintro _ _ _ ⟨rfl, rfl, z10, rfl, hz10⟩
          have how := hz10
          refine z_iloadn C 3 dX10_way_62 rfl rfl ?_
          refine z_if_ne (t := 70) C dX10_way_63 (by decide) (by omega) (fun c11 => ?_) (fun c11 => ?_)
          · skip
            refine z_iconst C dX10_way_70 ?_
            refine z_callV C (cm_X4_fact l z10 5 Ha_sfacts (by omega) (by omega)) mv_10_115 (z_atS 6 4 (by decide) rfl rfl rfl) pd_X4_fact ⟨by omega, by omega⟩ ⟨by omega, by omega⟩ rfl (Nat.le_of_ble_eq_true rfl) dX10_way_71 ?_
            rintro _ _ _ ⟨rfl, rfl, z14, rfl, hz14⟩
            have hfa := hz14.1
            rw [hQ]
            exact z_iret C hrt dX10_way_74 (⟨rfl, rfl, _, rfl, by first | exact z_wy0 (by omega) (by omega) (by omega) (z_wyC4 hfa how.2 how.1.1) | exact z_wy1 (by omega) (by omega) (by omega) (z_wyC5 hfa how.2 how.1.1)⟩) (by omega) (by omega)
          · skip
            refine z_iconst C dX10_way_66 ?_
            refine z_goto (t := 71) C dX10_way_67 (by decide) ?_
            refine z_callV C (cm_X4_fact l z10 4 Ha_sfacts (by omega) (by omega)) mv_10_115 (z_atS 6 4 (by decide) rfl rfl rfl) pd_X4_fact ⟨by omega, by omega⟩ ⟨by omega, by omega⟩ rfl (Nat.le_of_ble_eq_true rfl) dX10_way_71 ?_
            rintro _ _ _ ⟨rfl, rfl, z17, rfl, hz17⟩
            have hfa := hz17.1
            rw [hQ]
            exact z_iret C hrt dX10_way_74 (⟨rfl, rfl, _, rfl, by first | exact z_wy0 (by omega) (by omega) (by omega) (z_wyC4 hfa how.2 how.1.1) | exact z_wy1 (by omega) (by omega) (by omega) (z_wyC5 hfa how.2 how.1.1)⟩) (by omega) (by omega)
        · skip
          refine z_bipush C dX10_way_40 (by decide) ?_
          rw [hQ]
          exact z_iret C hrt dX10_way_42 (⟨rfl, rfl, _, rfl, z_wyO (by omega) (by omega) (by omega)⟩) (by omega) (by omega)
    · skip
      refine z_bipush C dX10_way_28 (by decide) ?_
      rw [hQ]
      exact z_iret C hrt dX10_way_30 (⟨rfl, rfl, _, rfl, z_wyU (by omega) (by omega)⟩) (by omega) (by omega)
  · skip
    refine z_bipush C dX10_way_10 (by decide) ?_
    rw [hQ]
    exact z_iret C hrt dX10_way_12 (⟨rfl, rfl, _, rfl, z_wyN (by omega)⟩) (by omega) (by omega)
