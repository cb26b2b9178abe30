theorem zo_set_fin2 {X : Int} {y : Int} {g f : Nat → Int} (h : zo_ri X.toNat y g f) (hy : y = 4) (hX : 1 ≤ X ∧ X < 4) (g0 : g 0 = 1) : ∀ k, k < 16 → va_up f (4 * X + X).toNat 1 k = zo_rs g X.toNat k := by
  rw [show (4 * X + X).toNat = 4 * X.toNat + X.toNat by omega]
  exact h.fin hy (by omega) g0
theorem z_up_id {f : Nat → Int} {i : Nat} {v : Int} (h : f i = v) : va_up f i v = f := by
  funext k
  unfold va_up
  split
  · rename_i q
    rw [q, h]
  · rfl
theorem zo_fw_J {f f' z : Nat → Int} {k x y a b c s : Int} (E : f = zo_fw (16 * k + 4 * x + y).toNat z) (hk : 0 ≤ k ∧ k < 4) (hx : 0 ≤ x ∧ x < 4) (hy : 0 ≤ y ∧ y < 4) (ea : a = f (4 * x + k).toNat) (eb : f (4 * k + y).toNat = b) (ec : f (4 * x + y).toNat = c) (es : s = zo_sum a b) (hv : (s < c ∧ f' = va_up f (4 * x + y).toNat s) ∨ (c ≤ s ∧ f' = f)) : f' = zo_fw (16 * k + 4 * x + (y + 1)).toNat z := by
  rcases hv with ⟨h1, h2⟩ | ⟨h1, h2⟩
  · rw [h2]
    exact zo_fw_I E hk hx hy ea.symm eb ec (by omega)
  · rw [h2, ← z_up_id ec]
    have := zo_fw_I (v := c) E hk hx hy ea.symm eb ec (by omega)
    exact this
theorem zo_colI {f g z : Nat → Int} {k x y : Int} (htop : zo_top z) (h0 : ∀ x, x < 4 → z (4 * x + x) = 1) (hdg : ∀ x, x < 4 → zo_fw 64 z (4 * x + x) = 1) (E0 : f = zo_fw (16 * k + 4 * x).toNat z) (E : g = zo_fw (16 * k + 4 * x + y).toNat z) (hk : 0 ≤ k ∧ k < 4) (hx : 0 ≤ x ∧ x < 4) (hy : 0 ≤ y ∧ y < 4) : g (4 * x + k).toNat = f (4 * x + k).toNat := by
  have hd := zo_fw_dg h0 hdg (16 * k.toNat) (by omega) k.toNat (by omega)
  have st := zo_fw_st (k := k.toNat) (z := z) (by omega) hd
  have hc : zo_dn k.toNat (zo_fw (16 * k.toNat) z) (4 * x.toNat + k.toNat) = zo_fw (16 * k.toNat) z (4 * x.toNat + k.toNat) := by
    rw [zo_dn_at (by omega), hd, zo_sum_one]
    omega
  have key : ∀ s, s ≤ 16 → zo_fw (16 * k.toNat + s) z (4 * x.toNat + k.toNat) = zo_fw (16 * k.toNat) z (4 * x.toNat + k.toNat) := by
    intro s hs
    rw [st s hs _ (by omega)]
    split
    · exact hc
    · rfl
  rw [E0, E, show (4 * x + k).toNat = 4 * x.toNat + k.toNat by omega, show (16 * k + 4 * x + y).toNat = 16 * k.toNat + (4 * x.toNat + y.toNat) by omega, show (16 * k + 4 * x).toNat = 16 * k.toNat + 4 * x.toNat by omega, key _ (by omega), key _ (by omega)]
theorem zo_skI {f z : Nat → Int} {k x : Int} (htop : zo_top z) (E : f = zo_fw (16 * k + 4 * x).toNat z) (hk : 0 ≤ k ∧ k < 4) (hx : 0 ≤ x ∧ x < 4) (ha : f (4 * x + k).toNat = 100000) : f = zo_fw (16 * k + 4 * (x + 1)).toNat z := by
  have step : ∀ y : Int, 0 ≤ y → y < 4 → f = zo_fw (16 * k + 4 * x + y).toNat z → f = zo_fw (16 * k + 4 * x + (y + 1)).toNat z := by
    intro y h0 h1 e
    have t : f (4 * x + y).toNat ≤ 100000 := by rw [e]; exact htop.fw _ _ (by omega)
    exact zo_fw_J (s := 100000) e hk hx ⟨h0, h1⟩ ha.symm rfl rfl (by unfold zo_sum; rw [if_pos (Or.inl rfl)]) (Or.inr ⟨t, rfl⟩)
  have e0 := zo_eqt E (show 16 * k + 4 * x = 16 * k + 4 * x + 0 by omega)
  have e4 := step 3 (by omega) (by omega) (step 2 (by omega) (by omega) (step 1 (by omega) (by omega) (step 0 (by omega) (by omega) e0)))
  exact zo_eqt e4 (by omega)
theorem zo_wi.congr {mo z f g : Nat → Int} {x y : Int} (h : zo_wi mo z x y f) (e : ∀ k, f k = g k) : zo_wi mo z x y g := fun i j hi hj => by rw [← e]; exact h i j hi hj
theorem zo_wi.stepC {mo z f f1 f2 : Nat → Int} {x y m u v : Int} (h : zo_wi mo z x y f) (hx : 1 ≤ x ∧ x ≤ 3) (hy : 0 ≤ y ∧ y ≤ 3) (hne : y ≠ x) (em : m = mo x.toNat) (hm : ∀ x, 1 ≤ x → x < 4 → 0 ≤ mo x ∧ mo x ≤ 1000) (ht : ∀ k, k < 16 → z k ≤ 100000) (eu : f (4 * x + y).toNat = u) (ev : f1 (4 * y + x).toNat = v)
    (h2 : (v / 2 < -m ∧ f2 = va_up f1 (4 * y + x).toNat (-2 * m)) ∨ (-m ≤ v / 2 ∧ f2 = f1)) (h1 : (m < u / 2 ∧ f1 = va_up f (4 * x + y).toNat 100000) ∨ (u / 2 ≤ m ∧ f1 = f)) : zo_wi mo z x (y + 1) f2 := by
  have hmx := hm x.toNat (by omega) (by omega)
  have qu := h x.toNat y.toNat (by omega) (by omega)
  have qv := h y.toNat x.toNat (by omega) (by omega)
  rw [show 4 * x.toNat + y.toNat = (4 * x + y).toNat by omega, eu] at qu
  rw [show 4 * y.toNat + x.toNat = (4 * y + x).toNat by omega] at qv
  have ev2 : f (4 * y + x).toNat = v := by
    rw [← ev]
    rcases h1 with ⟨_, e⟩ | ⟨_, e⟩
    · rw [e]
      unfold va_up
      rw [if_neg (by omega)]
    · rw [e]
  rw [ev2] at qv
  have ix : 4 * x.toNat + y.toNat = (4 * x + y).toNat := by omega
  have iy : 4 * y.toNat + x.toNat = (4 * y + x).toNat := by omega
  have tu := ht (4 * x + y).toNat (by omega)
  have tv := ht (4 * y + x).toNat (by omega)
  unfold zo_wp at qu qv
  rw [if_neg (by omega), ix, if_neg (by omega)] at qu
  rw [if_neg (by omega), iy] at qv
  have A : (m < u / 2 ∧ (z (4 * x + y).toNat ≠ 100000 ∧ m < z (4 * x + y).toNat / 2)) ∨ (z (4 * x + y).toNat = 100000 ∧ u = 100000) ∨ (u / 2 ≤ m ∧ ¬ (z (4 * x + y).toNat ≠ 100000 ∧ m < z (4 * x + y).toNat / 2)) := by
    split at qu
    · rename_i r
      have := hm y.toNat r.1.1 (by omega)
      exact Or.inr (Or.inr ⟨by omega, by omega⟩)
    · omega
  have B : (v / 2 < -m ∧ (z (4 * y + x).toNat ≠ 100000 ∧ z (4 * y + x).toNat / 2 < -m)) ∨ (-m ≤ v / 2 ∧ ¬ (z (4 * y + x).toNat ≠ 100000 ∧ z (4 * y + x).toNat / 2 < -m)) := by
    split at qv
    · rename_i r
      have := hm y.toNat r.1.1 (by omega)
      exact Or.inr ⟨by omega, by omega⟩
    · rw [if_neg (by omega)] at qv
      omega
  have C1 : ∃ g1, (∀ k, g1 k = f1 k) ∧ (((z (4 * x + y).toNat ≠ 100000 ∧ m < z (4 * x + y).toNat / 2) ∧ g1 = va_up f (4 * x + y).toNat 100000) ∨ (¬ (z (4 * x + y).toNat ≠ 100000 ∧ m < z (4 * x + y).toNat / 2) ∧ g1 = f)) := by
    rcases A with ⟨a1, a2⟩ | ⟨a1, a2⟩ | ⟨a1, a2⟩
    · rcases h1 with ⟨_, e⟩ | ⟨q, _⟩
      · exact ⟨f1, fun _ => rfl, Or.inl ⟨a2, e⟩⟩
      · omega
    · refine ⟨f, fun k => ?_, Or.inr ⟨by omega, rfl⟩⟩
      rcases h1 with ⟨_, e⟩ | ⟨q, _⟩
      · rw [e, z_up_id (eu.trans a2)]
      · omega
    · rcases h1 with ⟨q, _⟩ | ⟨_, e⟩
      · omega
      · exact ⟨f1, fun _ => rfl, Or.inr ⟨a2, e⟩⟩
  obtain ⟨g1, eg, H1⟩ := C1
  rcases B with ⟨b1, b2⟩ | ⟨b1, b2⟩
  · rcases h2 with ⟨_, e⟩ | ⟨q, _⟩
    · have st := zo_wi.step (f2 := va_up g1 (4 * y + x).toNat (-2 * m)) h hx hy hne em hm (Or.inl ⟨b2, rfl⟩) H1
      refine st.congr (fun k => ?_)
      rw [e]
      unfold va_up
      split
      · rfl
      · exact eg k
    · omega
  · rcases h2 with ⟨q, _⟩ | ⟨_, e⟩
    · omega
    · have st := zo_wi.step (f2 := g1) h hx hy hne em hm (Or.inr ⟨b2, rfl⟩) H1
      refine st.congr (fun k => ?_)
      rw [e]
      exact eg k
set_option maxRecDepth 20000 in
theorem cx_X9_setToZero (l : Launch) {D : va_G} {A : Nat → Prop} {ad : Nat → Nat} {ks : z_Ks} {s_edgeCount s_moveCount s_isNeeded s_timesDone s_size s_isGoing s_allTime s_stepCount s_gapCount : Int} {g_edges g_moves g_limits : Nat → Option Nat} {a_sfacts a_sbounds a_facts a_zone a_most a_places a_amounts a_nextPlaces a_nextAmounts a_earliest a_visited a_lastSet a_gapFrom a_gapTo a_gapLeast a_askedPlaces a_askedAmounts : Nat → Int} {Y : Nat → Option va_E} (x : Int) (Ha_zone : (∀ j, z_rg (a_zone j))) (hx : 1 ≤ x ∧ x ≤ 3) (h00 : a_zone 0 = 1) : z_Met l yX9_setToZero cX9_setToZero 3 none 0 0 0 0 D A 27 ad ks [.ref (ad 10), z_v x] (z_zc ad ks s_edgeCount s_moveCount s_isNeeded s_timesDone s_size s_isGoing s_allTime s_stepCount s_gapCount g_edges g_moves g_limits a_sfacts a_sbounds a_facts a_zone a_most a_places a_amounts a_nextPlaces a_nextAmounts a_earliest a_visited a_lastSet a_gapFrom a_gapTo a_gapLeast a_askedPlaces a_askedAmounts) Y (fun r S' Y' => ∃ na_zone : Nat → Int, S' = (z_zc ad ks s_edgeCount s_moveCount s_isNeeded s_timesDone s_size s_isGoing s_allTime s_stepCount s_gapCount g_edges g_moves g_limits a_sfacts a_sbounds a_facts na_zone a_most a_places a_amounts a_nextPlaces a_nextAmounts a_earliest a_visited a_lastSet a_gapFrom a_gapTo a_gapLeast a_askedPlaces a_askedAmounts) ∧ Y = Y' ∧ (∀ j, z_rg (na_zone j)) ∧ (∀ k, k < 16 → na_zone k = zo_rs a_zone x.toNat k) ∧ r = none) := by
  refine z_start2 (by decide) (Nat.le_of_ble_eq_true rfl) ?_
  intro p e R s m args below meth c Q C hRf hRc hRs hRl hQ hrt hnm
  refine z_loc (L' := [(0, .ref (ad 10)), (1, z_v x)]) [0, 1] rfl ?_
  refine z_iconst C dX9_setToZero_0 ?_
  refine z_istoren (L' := [(2, z_v 0), (0, .ref (ad 10)), (1, z_v x)]) C dX9_setToZero_1 rfl (by decide) rfl ?_
  have L2 : ∀ (n : Nat), ∀ (i2 : Int) (fa_zone : Nat → Int), ((∀ j, z_rg (fa_zone j))) → (zo_ri x.toNat i2 a_zone fa_zone) → (0 ≤ i2 ∧ i2 ≤ 4) → ((4 : Int) - i2).toNat < n → z_V p l e R s m args below meth c Q D A 27 ad 3 (z_zc ad ks s_edgeCount s_moveCount s_isNeeded s_timesDone s_size s_isGoing s_allTime s_stepCount s_gapCount g_edges g_moves g_limits a_sfacts a_sbounds a_facts fa_zone a_most a_places a_amounts a_nextPlaces a_nextAmounts a_earliest a_visited a_lastSet a_gapFrom a_gapTo a_gapLeast a_askedPlaces a_askedAmounts) Y 0 0 2 [(0, .ref (ad 10)), (1, z_v x), (2, z_v i2)] [] := by
    intro n
    induction n with
    | zero => intro i2 fa_zone Hfa_zone FI I2 hm; exact absurd hm (Nat.not_lt_zero _)
    | succ n ih2 =>
      intro i2 fa_zone Hfa_zone FI I2 hm
      refine z_iloadn C 2 dX9_setToZero_2 rfl rfl ?_
      refine z_iconst C dX9_setToZero_3 ?_
      refine z_icmp_ge (t := 47) C dX9_setToZero_4 (by decide) (by omega) (by omega) (fun c1 => ?_) (fun c1 => ?_)
      · skip
        refine z_aloadn C 0 dX9_setToZero_47 rfl rfl ?_
        refine z_get C 10 (by decide) rfl rfl z_it9 0 (by decide) rfl fl_9_9 rfl dX9_setToZero_48 ?_
        refine z_iconst C dX9_setToZero_51 ?_
        refine z_iloadn C 1 dX9_setToZero_52 rfl rfl ?_
        refine z_imul C dX9_setToZero_53 ?_
        refine z_iloadn C 1 dX9_setToZero_54 rfl rfl ?_
        refine z_iadd C dX9_setToZero_55 ?_
        refine z_iconst C dX9_setToZero_56 ?_
        refine z_iast C 11 (by decide) rfl (by decide) (by omega) (by omega) dX9_setToZero_57 ?_
        refine z_ext (S' := (z_zc ad ks s_edgeCount s_moveCount s_isNeeded s_timesDone s_size s_isGoing s_allTime s_stepCount s_gapCount g_edges g_moves g_limits a_sfacts a_sbounds a_facts (va_up fa_zone (((4 * x) + x) : Int).toNat 1) a_most a_places a_amounts a_nextPlaces a_nextAmounts a_earliest a_visited a_lastSet a_gapFrom a_gapTo a_gapLeast a_askedPlaces a_askedAmounts)) upC_a_zone ?_
        have h2 : ∀ j, z_rg ((va_up fa_zone (((4 * x) + x) : Int).toNat 1) j) := z_upP (P := fun j v => z_rg (v)) Hfa_zone (by omega)
        rw [hQ]
        exact z_vret C hrt dX9_setToZero_58 (⟨(va_up fa_zone (((4 * x) + x) : Int).toNat 1), rfl, rfl, h2, zo_set_fin2 FI (by omega) (by omega) h00, rfl⟩) (by omega) (by omega)
      · skip
        refine z_aloadn C 0 dX9_setToZero_7 rfl rfl ?_
        refine z_get C 10 (by decide) rfl rfl z_it9 0 (by decide) rfl fl_9_9 rfl dX9_setToZero_8 ?_
        refine z_iconst C dX9_setToZero_11 ?_
        refine z_iloadn C 1 dX9_setToZero_12 rfl rfl ?_
        refine z_imul C dX9_setToZero_13 ?_
        refine z_iloadn C 2 dX9_setToZero_14 rfl rfl ?_
        refine z_iadd C dX9_setToZero_15 ?_
        refine z_aloadn C 0 dX9_setToZero_16 rfl rfl ?_
        refine z_get C 10 (by decide) rfl rfl z_it9 0 (by decide) rfl fl_9_9 rfl dX9_setToZero_17 ?_
        refine z_iloadn C 2 dX9_setToZero_20 rfl rfl ?_
        refine z_iald C 11 (by decide) rfl (by decide) (by omega) (by omega) dX9_setToZero_21 ?_
        have rx3 := Hfa_zone (i2 : Int).toNat
        generalize ex3 : fa_zone (i2 : Int).toNat = x3 at rx3 ⊢
        refine z_iast C 11 (by decide) rfl (by decide) (by omega) (by omega) dX9_setToZero_22 ?_
        refine z_ext (S' := (z_zc ad ks s_edgeCount s_moveCount s_isNeeded s_timesDone s_size s_isGoing s_allTime s_stepCount s_gapCount g_edges g_moves g_limits a_sfacts a_sbounds a_facts (va_up fa_zone (((4 * x) + i2) : Int).toNat x3) a_most a_places a_amounts a_nextPlaces a_nextAmounts a_earliest a_visited a_lastSet a_gapFrom a_gapTo a_gapLeast a_askedPlaces a_askedAmounts)) upC_a_zone ?_
        have h4 : ∀ j, z_rg ((va_up fa_zone (((4 * x) + i2) : Int).toNat x3) j) := z_upP (P := fun j v => z_rg (v)) Hfa_zone (by omega)
        refine z_aloadn C 0 dX9_setToZero_23 rfl rfl ?_
        refine z_get C 10 (by decide) rfl rfl z_it9 0 (by decide) rfl fl_9_9 rfl dX9_setToZero_24 ?_
        refine z_iconst C dX9_setToZero_27 ?_
        refine z_iloadn C 2 dX9_setToZero_28 rfl rfl ?_
        refine z_imul C dX9_setToZero_29 ?_
        refine z_iloadn C 1 dX9_setToZero_30 rfl rfl ?_
        refine z_iadd C dX9_setToZero_31 ?_
        refine z_aloadn C 0 dX9_setToZero_32 rfl rfl ?_
        refine z_get C 10 (by decide) rfl rfl z_it9 0 (by decide) rfl fl_9_9 rfl dX9_setToZero_33 ?_
        refine z_iconst C dX9_setToZero_36 ?_
        refine z_iloadn C 2 dX9_setToZero_37 rfl rfl ?_
        refine z_imul C dX9_setToZero_38 ?_
        refine z_iald C 11 (by decide) rfl (by decide) (by omega) (by omega) dX9_setToZero_39 ?_
        have rx5 := h4 ((4 * i2) : Int).toNat
        generalize ex5 : (va_up fa_zone (((4 * x) + i2) : Int).toNat x3) ((4 * i2) : Int).toNat = x5 at rx5 ⊢
        refine z_iast C 11 (by decide) rfl (by decide) (by omega) (by omega) dX9_setToZero_40 ?_
        refine z_ext (S' := (z_zc ad ks s_edgeCount s_moveCount s_isNeeded s_timesDone s_size s_isGoing s_allTime s_stepCount s_gapCount g_edges g_moves g_limits a_sfacts a_sbounds a_facts (va_up (va_up fa_zone (((4 * x) + i2) : Int).toNat x3) (((4 * i2) + x) : Int).toNat x5) a_most a_places a_amounts a_nextPlaces a_nextAmounts a_earliest a_visited a_lastSet a_gapFrom a_gapTo a_gapLeast a_askedPlaces a_askedAmounts)) upC_a_zone ?_
        have h6 : ∀ j, z_rg ((va_up (va_up fa_zone (((4 * x) + i2) : Int).toNat x3) (((4 * i2) + x) : Int).toNat x5) j) := z_upP (P := fun j v => z_rg (v)) h4 (by omega)
        refine z_iinc (L' := [(2, z_v (i2 + 1)), (0, .ref (ad 10)), (1, z_v x)]) C 2 dX9_setToZero_41 rfl (by decide) rfl ?_
        refine z_goto (t := 2) C dX9_setToZero_44 (by decide) ?_
        refine z_loc (L' := [(0, .ref (ad 10)), (1, z_v x), (2, z_v (i2 + 1))]) [1, 2, 0] rfl ?_
        exact ih2 (i2 + 1) (va_up (va_up fa_zone (((4 * x) + i2) : Int).toNat x3) (((4 * i2) + x) : Int).toNat x5) h6 (zo_ri.step FI (by omega) (by omega) (by omega) (by assumption) (by assumption)) (by omega) (by omega)
  refine z_loc (L' := [(0, .ref (ad 10)), (1, z_v x), (2, z_v 0)]) [1, 2, 0] rfl ?_
  exact (L2 (((4 : Int) - 0).toNat + 1)) 0 a_zone Ha_zone (zo_ri.ini) (by omega) (Nat.lt_succ_self _)
set_option maxRecDepth 20000 in
theorem cx_X9_letTimeGoBy (l : Launch) {D : va_G} {A : Nat → Prop} {ad : Nat → Nat} {ks : z_Ks} {s_edgeCount s_moveCount s_isNeeded s_timesDone s_size s_isGoing s_allTime s_stepCount s_gapCount : Int} {g_edges g_moves g_limits : Nat → Option Nat} {a_sfacts a_sbounds a_facts a_zone a_most a_places a_amounts a_nextPlaces a_nextAmounts a_earliest a_visited a_lastSet a_gapFrom a_gapTo a_gapLeast a_askedPlaces a_askedAmounts : Nat → Int} {Y : Nat → Option va_E} (Ha_zone : (∀ j, z_rg (a_zone j))) : z_Met l yX9_letTimeGoBy cX9_letTimeGoBy 2 none 0 0 0 0 D A 27 ad ks [.ref (ad 10)] (z_zc ad ks s_edgeCount s_moveCount s_isNeeded s_timesDone s_size s_isGoing s_allTime s_stepCount s_gapCount g_edges g_moves g_limits a_sfacts a_sbounds a_facts a_zone a_most a_places a_amounts a_nextPlaces a_nextAmounts a_earliest a_visited a_lastSet a_gapFrom a_gapTo a_gapLeast a_askedPlaces a_askedAmounts) Y (fun r S' Y' => ∃ na_zone : Nat → Int, S' = (z_zc ad ks s_edgeCount s_moveCount s_isNeeded s_timesDone s_size s_isGoing s_allTime s_stepCount s_gapCount g_edges g_moves g_limits a_sfacts a_sbounds a_facts na_zone a_most a_places a_amounts a_nextPlaces a_nextAmounts a_earliest a_visited a_lastSet a_gapFrom a_gapTo a_gapLeast a_askedPlaces a_askedAmounts) ∧ Y = Y' ∧ (∀ j, z_rg (na_zone j)) ∧ (∀ k, k < 16 → na_zone k = zo_tm a_zone k) ∧ r = none) := by
  refine z_start2 (by decide) (Nat.le_of_ble_eq_true rfl) ?_
  intro p e R s m args below meth c Q C hRf hRc hRs hRl hQ hrt hnm
  refine z_loc (L' := [(0, .ref (ad 10))]) [0] rfl ?_
  refine z_iconst C dX9_letTimeGoBy_0 ?_
  refine z_istoren (L' := [(1, z_v 1), (0, .ref (ad 10))]) C dX9_letTimeGoBy_1 rfl (by decide) rfl ?_
  have L2 : ∀ (n : Nat), ∀ (i1 : Int) (fa_zone : Nat → Int), ((∀ j, z_rg (fa_zone j))) → (∀ k, k < 16 → fa_zone k = if (k = 4 ∧ 1 < i1) ∨ (k = 8 ∧ 2 < i1) ∨ (k = 12 ∧ 3 < i1) then 100000 else a_zone k) → (1 ≤ i1 ∧ i1 ≤ 4) → ((4 : Int) - i1).toNat < n → z_V p l e R s m args below meth c Q D A 27 ad 2 (z_zc ad ks s_edgeCount s_moveCount s_isNeeded s_timesDone s_size s_isGoing s_allTime s_stepCount s_gapCount g_edges g_moves g_limits a_sfacts a_sbounds a_facts fa_zone a_most a_places a_amounts a_nextPlaces a_nextAmounts a_earliest a_visited a_lastSet a_gapFrom a_gapTo a_gapLeast a_askedPlaces a_askedAmounts) Y 0 0 2 [(0, .ref (ad 10)), (1, z_v i1)] [] := by
    intro n
    induction n with
    | zero => intro i1 fa_zone Hfa_zone FT I1 hm; exact absurd hm (Nat.not_lt_zero _)
    | succ n ih2 =>
      intro i1 fa_zone Hfa_zone FT I1 hm
      refine z_iloadn C 1 dX9_letTimeGoBy_2 rfl rfl ?_
      refine z_iconst C dX9_letTimeGoBy_3 ?_
      refine z_icmp_ge (t := 23) C dX9_letTimeGoBy_4 (by decide) (by omega) (by omega) (fun c1 => ?_) (fun c1 => ?_)
      · skip
        rw [hQ]
        exact z_vret C hrt dX9_letTimeGoBy_23 (⟨fa_zone, rfl, rfl, Hfa_zone, zo_tmF FT (by omega), rfl⟩) (by omega) (by omega)
      · skip
        refine z_aloadn C 0 dX9_letTimeGoBy_7 rfl rfl ?_
        refine z_get C 10 (by decide) rfl rfl z_it9 0 (by decide) rfl fl_9_9 rfl dX9_letTimeGoBy_8 ?_
        refine z_iconst C dX9_letTimeGoBy_11 ?_
        refine z_iloadn C 1 dX9_letTimeGoBy_12 rfl rfl ?_
        refine z_imul C dX9_letTimeGoBy_13 ?_
        refine z_ldc (n := 100000) C kc_9_15 (by decide) dX9_letTimeGoBy_14 ?_
        refine z_iast C 11 (by decide) rfl (by decide) (by omega) (by omega) dX9_letTimeGoBy_16 ?_
        refine z_ext (S' := (z_zc ad ks s_edgeCount s_moveCount s_isNeeded s_timesDone s_size s_isGoing s_allTime s_stepCount s_gapCount g_edges g_moves g_limits a_sfacts a_sbounds a_facts (va_up fa_zone ((4 * i1) : Int).toNat 100000) a_most a_places a_amounts a_nextPlaces a_nextAmounts a_earliest a_visited a_lastSet a_gapFrom a_gapTo a_gapLeast a_askedPlaces a_askedAmounts)) upC_a_zone ?_
        have h2 : ∀ j, z_rg ((va_up fa_zone ((4 * i1) : Int).toNat 100000) j) := z_upP (P := fun j v => z_rg (v)) Hfa_zone (by omega)
        refine z_iinc (L' := [(1, z_v (i1 + 1)), (0, .ref (ad 10))]) C 1 dX9_letTimeGoBy_17 rfl (by decide) rfl ?_
        refine z_goto (t := 2) C dX9_letTimeGoBy_20 (by decide) ?_
        refine z_loc (L' := [(0, .ref (ad 10)), (1, z_v (i1 + 1))]) [1, 0] rfl ?_
        exact ih2 (i1 + 1) (va_up fa_zone ((4 * i1) : Int).toNat 100000) h2 (zo_tmI FT (by omega)) (by omega) (by omega)
  refine z_loc (L' := [(0, .ref (ad 10)), (1, z_v 1)]) [1, 0] rfl ?_
  exact (L2 (((4 : Int) - 1).toNat + 1)) 1 a_zone Ha_zone (fun k hk => by rw [if_neg (by omega)]) (by omega) (Nat.lt_succ_self _)
set_option maxRecDepth 20000 in
theorem cx_X9_close (l : Launch) {D : va_G} {A : Nat → Prop} {ad : Nat → Nat} {ks : z_Ks} {s_edgeCount s_moveCount s_isNeeded s_timesDone s_size s_isGoing s_allTime s_stepCount s_gapCount : Int} {g_edges g_moves g_limits : Nat → Option Nat} {a_sfacts a_sbounds a_facts a_zone a_most a_places a_amounts a_nextPlaces a_nextAmounts a_earliest a_visited a_lastSet a_gapFrom a_gapTo a_gapLeast a_askedPlaces a_askedAmounts : Nat → Int} {Y : Nat → Option va_E} (Ha_zone : (∀ j, z_rg (a_zone j))) (htop : zo_top a_zone) (h0 : ∀ x, x < 4 → a_zone (4 * x + x) = 1) (hlo : ∀ j, j < 16 → -90000 ≤ a_zone j) (hdg : ∀ x, x < 4 → zo_fw 64 a_zone (4 * x + x) = 1) : z_Met l yX9_close cX9_close 6 none 1 21 0 0 D A 27 ad ks [.ref (ad 10)] (z_zc ad ks s_edgeCount s_moveCount s_isNeeded s_timesDone s_size s_isGoing s_allTime s_stepCount s_gapCount g_edges g_moves g_limits a_sfacts a_sbounds a_facts a_zone a_most a_places a_amounts a_nextPlaces a_nextAmounts a_earliest a_visited a_lastSet a_gapFrom a_gapTo a_gapLeast a_askedPlaces a_askedAmounts) Y (fun r S' Y' => ∃ na_zone : Nat → Int, S' = (z_zc ad ks s_edgeCount s_moveCount s_isNeeded s_timesDone s_size s_isGoing s_allTime s_stepCount s_gapCount g_edges g_moves g_limits a_sfacts a_sbounds a_facts na_zone a_most a_places a_amounts a_nextPlaces a_nextAmounts a_earliest a_visited a_lastSet a_gapFrom a_gapTo a_gapLeast a_askedPlaces a_askedAmounts) ∧ Y = Y' ∧ (∀ j, z_rg (na_zone j)) ∧ na_zone = zo_fw 64 a_zone ∧ r = none) := by
  refine z_start2 (by decide) (Nat.le_of_ble_eq_true rfl) ?_
  intro p e R s m args below meth c Q C hRf hRc hRs hRl hQ hrt hnm
  refine z_loc (L' := [(0, .ref (ad 10))]) [0] rfl ?_
  refine z_iconst C dX9_close_0 ?_
  refine z_istoren (L' := [(1, z_v 0), (0, .ref (ad 10))]) C dX9_close_1 rfl (by decide) rfl ?_
  have L2 : ∀ (n : Nat), ∀ (i1 : Int) (fa_zone : Nat → Int), ((∀ j, z_rg (fa_zone j))) → (fa_zone = zo_fw (16 * i1 : Int).toNat a_zone) → (0 ≤ i1 ∧ i1 ≤ 4) → ((4 : Int) - i1).toNat < n → z_V p l e R s m args below meth c Q D A 27 ad 6 (z_zc ad ks s_edgeCount s_moveCount s_isNeeded s_timesDone s_size s_isGoing s_allTime s_stepCount s_gapCount g_edges g_moves g_limits a_sfacts a_sbounds a_facts fa_zone a_most a_places a_amounts a_nextPlaces a_nextAmounts a_earliest a_visited a_lastSet a_gapFrom a_gapTo a_gapLeast a_askedPlaces a_askedAmounts) Y 0 0 2 [(0, .ref (ad 10)), (1, z_v i1)] [] := by
    intro n
    induction n with
    | zero => intro i1 fa_zone Hfa_zone E I1 hm; exact absurd hm (Nat.not_lt_zero _)
    | succ n ih2 =>
      intro i1 fa_zone Hfa_zone E I1 hm
      refine z_iloadn C 1 dX9_close_2 rfl rfl ?_
      refine z_iconst C dX9_close_3 ?_
      refine z_icmp_ge (t := 107) C dX9_close_4 (by decide) (by omega) (by omega) (fun c1 => ?_) (fun c1 => ?_)
      · skip
        rw [hQ]
        exact z_vret C hrt dX9_close_107 (⟨fa_zone, rfl, rfl, Hfa_zone, zo_eqt (s' := 64) E (by omega), rfl⟩) (by omega) (by omega)
      · skip
        refine z_iconst C dX9_close_7 ?_
        refine z_istoren (L' := [(2, z_v 0), (0, .ref (ad 10)), (1, z_v i1)]) C dX9_close_8 rfl (by decide) rfl ?_
        have L9 : ∀ (n : Nat), ∀ (i2 : Int) (fa_zone : Nat → Int), ((∀ j, z_rg (fa_zone j))) → (fa_zone = zo_fw (16 * i1 + 4 * i2 : Int).toNat a_zone) → (0 ≤ i2 ∧ i2 ≤ 4) → ((4 : Int) - i2).toNat < n → z_V p l e R s m args below meth c Q D A 27 ad 6 (z_zc ad ks s_edgeCount s_moveCount s_isNeeded s_timesDone s_size s_isGoing s_allTime s_stepCount s_gapCount g_edges g_moves g_limits a_sfacts a_sbounds a_facts fa_zone a_most a_places a_amounts a_nextPlaces a_nextAmounts a_earliest a_visited a_lastSet a_gapFrom a_gapTo a_gapLeast a_askedPlaces a_askedAmounts) Y 0 0 9 [(0, .ref (ad 10)), (1, z_v i1), (2, z_v i2)] [] := by
          intro n
          induction n with
          | zero => intro i2 fa_zone Hfa_zone E I2 hm; exact absurd hm (Nat.not_lt_zero _)
          | succ n ih9 =>
            intro i2 fa_zone Hfa_zone E I2 hm
            have LO : ∀ j, j < 16 → -250000000 ≤ fa_zone j ∧ fa_zone j ≤ 100000 := fun j hj => by rw [E]; exact ⟨zo_fw_low hlo _ (by omega) j hj, htop.fw _ j hj⟩
            refine z_iloadn C 2 dX9_close_9 rfl rfl ?_
            refine z_iconst C dX9_close_10 ?_
            refine z_icmp_ge (t := 101) C dX9_close_11 (by decide) (by omega) (by omega) (fun c2 => ?_) (fun c2 => ?_)
            · skip
              refine z_iinc (L' := [(1, z_v (i1 + 1)), (0, .ref (ad 10)), (2, z_v i2)]) C 1 dX9_close_101 rfl (by decide) rfl ?_
              refine z_goto (t := 2) C dX9_close_104 (by decide) ?_
              refine z_loc (L' := [(0, .ref (ad 10)), (1, z_v (i1 + 1))]) [1, 0] rfl ?_
              exact ih2 (i1 + 1) fa_zone Hfa_zone (zo_eqt E (by omega)) (by omega) (by omega)
            · skip
              refine z_aloadn C 0 dX9_close_14 rfl rfl ?_
              refine z_get C 10 (by decide) rfl rfl z_it9 0 (by decide) rfl fl_9_9 rfl dX9_close_15 ?_
              refine z_iconst C dX9_close_18 ?_
              refine z_iloadn C 2 dX9_close_19 rfl rfl ?_
              refine z_imul C dX9_close_20 ?_
              refine z_iloadn C 1 dX9_close_21 rfl rfl ?_
              refine z_iadd C dX9_close_22 ?_
              refine z_iald C 11 (by decide) rfl (by decide) (by omega) (by omega) dX9_close_23 ?_
              have rx3 := Hfa_zone (((4 * i2) + i1) : Int).toNat
              generalize ex3 : fa_zone (((4 * i2) + i1) : Int).toNat = x3 at rx3 ⊢
              have lx3 := LO (((4 * i2) + i1) : Int).toNat (by omega)
              have h55 := ex3.symm
              have E0 := E
              refine z_istoren (L' := [(3, z_v x3), (0, .ref (ad 10)), (1, z_v i1), (2, z_v i2)]) C dX9_close_24 rfl (by decide) rfl ?_
              refine z_iloadn C 0 dX9_close_25 rfl rfl ?_
              refine z_ldc (n := 100000) C kc_9_15 (by decide) dX9_close_26 ?_
              refine z_icmp_ne (t := 34) C dX9_close_28 (by decide) (by omega) (by omega) (fun c4 => ?_) (fun c4 => ?_)
              · skip
                refine z_iconst C dX9_close_34 ?_
                refine z_istore (L' := [(4, z_v 0), (3, z_v x3), (0, .ref (ad 10)), (1, z_v i1), (2, z_v i2)]) C dX9_close_35 (by decide) rfl ?_
                have L37 : ∀ (n : Nat), ∀ (i4 : Int) (ga_zone : Nat → Int), ((∀ j, z_rg (ga_zone j))) → (ga_zone = zo_fw (16 * i1 + 4 * i2 + i4 : Int).toNat a_zone) → (0 ≤ i4 ∧ i4 ≤ 4) → ((4 : Int) - i4).toNat < n → z_V p l e R s m args below meth c Q D A 27 ad 6 (z_zc ad ks s_edgeCount s_moveCount s_isNeeded s_timesDone s_size s_isGoing s_allTime s_stepCount s_gapCount g_edges g_moves g_limits a_sfacts a_sbounds a_facts ga_zone a_most a_places a_amounts a_nextPlaces a_nextAmounts a_earliest a_visited a_lastSet a_gapFrom a_gapTo a_gapLeast a_askedPlaces a_askedAmounts) Y 0 0 37 [(0, .ref (ad 10)), (1, z_v i1), (2, z_v i2), (3, z_v x3), (4, z_v i4)] [] := by
                  intro n
                  induction n with
                  | zero => intro i4 ga_zone Hga_zone E I4 hm; exact absurd hm (Nat.not_lt_zero _)
                  | succ n ih37 =>
                    intro i4 ga_zone Hga_zone E I4 hm
                    have LO : ∀ j, j < 16 → -250000000 ≤ ga_zone j ∧ ga_zone j ≤ 100000 := fun j hj => by rw [E]; exact ⟨zo_fw_low hlo _ (by omega) j hj, htop.fw _ j hj⟩
                    refine z_iload C 4 dX9_close_37 rfl ?_
                    refine z_iconst C dX9_close_39 ?_
                    refine z_icmp_ge (t := 95) C dX9_close_40 (by decide) (by omega) (by omega) (fun c5 => ?_) (fun c5 => ?_)
                    · skip
                      refine z_iinc (L' := [(2, z_v (i2 + 1)), (0, .ref (ad 10)), (1, z_v i1), (3, z_v x3), (4, z_v i4)]) C 2 dX9_close_95 rfl (by decide) rfl ?_
                      refine z_goto (t := 9) C dX9_close_98 (by decide) ?_
                      refine z_loc (L' := [(0, .ref (ad 10)), (1, z_v i1), (2, z_v (i2 + 1))]) [1, 2, 0] rfl ?_
                      exact ih9 (i2 + 1) ga_zone Hga_zone (by first | exact zo_eqt E (by omega) | exact zo_skI htop E (by omega) (by omega) (by omega)) (by omega) (by omega)
                    · skip
                      refine z_iloadn C 3 dX9_close_43 rfl rfl ?_
                      refine z_aloadn C 0 dX9_close_44 rfl rfl ?_
                      refine z_get C 10 (by decide) rfl rfl z_it9 0 (by decide) rfl fl_9_9 rfl dX9_close_45 ?_
                      refine z_iconst C dX9_close_48 ?_
                      refine z_iloadn C 1 dX9_close_49 rfl rfl ?_
                      refine z_imul C dX9_close_50 ?_
                      refine z_iload C 4 dX9_close_51 rfl ?_
                      refine z_iadd C dX9_close_53 ?_
                      refine z_iald C 11 (by decide) rfl (by decide) (by omega) (by omega) dX9_close_54 ?_
                      have rx6 := Hga_zone (((4 * i1) + i4) : Int).toNat
                      generalize ex6 : ga_zone (((4 * i1) + i4) : Int).toNat = x6 at rx6 ⊢
                      have lx6 := LO (((4 * i1) + i4) : Int).toNat (by omega)
                      refine z_callS C (cx_X9_sum l x3 x6 (by omega) (by omega)) mv_9_22 pd_X9_sum ⟨by omega, by omega⟩ ⟨by omega, by omega⟩ rfl (Nat.le_of_ble_eq_true rfl) dX9_close_55 ?_
                      rintro _ _ _ ⟨rfl, rfl, z9, rfl, hz9⟩
                      have hs55 := hz9
                      have hr55 := zo_sum_rg hs55 (by omega) (by omega)
                      refine z_istore (L' := [(5, z_v z9), (0, .ref (ad 10)), (1, z_v i1), (2, z_v i2), (3, z_v x3), (4, z_v i4)]) C dX9_close_58 (by decide) rfl ?_
                      refine z_iload C 0 dX9_close_60 rfl ?_
                      refine z_aloadn C 1 dX9_close_62 rfl rfl ?_
                      refine z_get C 10 (by decide) rfl rfl z_it9 0 (by decide) rfl fl_9_9 rfl dX9_close_63 ?_
                      refine z_iconst C dX9_close_66 ?_
                      refine z_iloadn C 3 dX9_close_67 rfl rfl ?_
                      refine z_imul C dX9_close_68 ?_
                      refine z_iload C 5 dX9_close_69 rfl ?_
                      refine z_iadd C dX9_close_71 ?_
                      refine z_iald C 11 (by decide) rfl (by decide) (by omega) (by omega) dX9_close_72 ?_
                      have rx10 := Hga_zone (((4 * i2) + i4) : Int).toNat
                      generalize ex10 : ga_zone (((4 * i2) + i4) : Int).toNat = x10 at rx10 ⊢
                      have lx10 := LO (((4 * i2) + i4) : Int).toNat (by omega)
                      refine z_icmp_ge (t := 89) C dX9_close_73 (by decide) (by omega) (by omega) (fun c11 => ?_) (fun c11 => ?_)
                      · skip
                        refine z_iinc (L' := [(4, z_v (i4 + 1)), (5, z_v z9), (0, .ref (ad 10)), (1, z_v i1), (2, z_v i2), (3, z_v x3)]) C 5 dX9_close_89 rfl (by decide) rfl ?_
                        refine z_goto (t := 37) C dX9_close_92 (by decide) ?_
                        refine z_loc (L' := [(0, .ref (ad 10)), (1, z_v i1), (2, z_v i2), (3, z_v x3), (4, z_v (i4 + 1))]) [2, 3, 4, 5, 0] rfl ?_
                        exact ih37 (i4 + 1) ga_zone Hga_zone (by first | exact zo_fw_J E (by omega) (by omega) (by omega) (h55.trans (zo_colI htop h0 hdg E0 E (by omega) (by omega) (by omega)).symm) (by assumption) (by assumption) hs55  (Or.inl ⟨by omega, rfl⟩) | exact zo_fw_J E (by omega) (by omega) (by omega) (h55.trans (zo_colI htop h0 hdg E0 E (by omega) (by omega) (by omega)).symm) (by assumption) (by assumption) hs55  (Or.inr ⟨by omega, rfl⟩)) (by omega) (by omega)
                      · skip
                        refine z_aloadn C 1 dX9_close_76 rfl rfl ?_
                        refine z_get C 10 (by decide) rfl rfl z_it9 0 (by decide) rfl fl_9_9 rfl dX9_close_77 ?_
                        refine z_iconst C dX9_close_80 ?_
                        refine z_iloadn C 3 dX9_close_81 rfl rfl ?_
                        refine z_imul C dX9_close_82 ?_
                        refine z_iload C 5 dX9_close_83 rfl ?_
                        refine z_iadd C dX9_close_85 ?_
                        refine z_iload C 0 dX9_close_86 rfl ?_
                        refine z_iast C 11 (by decide) rfl (by decide) (by omega) (by omega) dX9_close_88 ?_
                        refine z_ext (S' := (z_zc ad ks s_edgeCount s_moveCount s_isNeeded s_timesDone s_size s_isGoing s_allTime s_stepCount s_gapCount g_edges g_moves g_limits a_sfacts a_sbounds a_facts (va_up ga_zone (((4 * i2) + i4) : Int).toNat z9) a_most a_places a_amounts a_nextPlaces a_nextAmounts a_earliest a_visited a_lastSet a_gapFrom a_gapTo a_gapLeast a_askedPlaces a_askedAmounts)) upC_a_zone ?_
                        have h12 : ∀ j, z_rg ((va_up ga_zone (((4 * i2) + i4) : Int).toNat z9) j) := z_upP (P := fun j v => z_rg (v)) Hga_zone (by omega)
                        refine z_iinc (L' := [(4, z_v (i4 + 1)), (5, z_v z9), (0, .ref (ad 10)), (1, z_v i1), (2, z_v i2), (3, z_v x3)]) C 5 dX9_close_89 rfl (by decide) rfl ?_
                        refine z_goto (t := 37) C dX9_close_92 (by decide) ?_
                        refine z_loc (L' := [(0, .ref (ad 10)), (1, z_v i1), (2, z_v i2), (3, z_v x3), (4, z_v (i4 + 1))]) [2, 3, 4, 5, 0] rfl ?_
                        exact ih37 (i4 + 1) (va_up ga_zone (((4 * i2) + i4) : Int).toNat z9) h12 (by first | exact zo_fw_J E (by omega) (by omega) (by omega) (h55.trans (zo_colI htop h0 hdg E0 E (by omega) (by omega) (by omega)).symm) (by assumption) (by assumption) hs55  (Or.inl ⟨by omega, rfl⟩) | exact zo_fw_J E (by omega) (by omega) (by omega) (h55.trans (zo_colI htop h0 hdg E0 E (by omega) (by omega) (by omega)).symm) (by assumption) (by assumption) hs55  (Or.inr ⟨by omega, rfl⟩)) (by omega) (by omega)
                refine z_loc (L' := [(0, .ref (ad 10)), (1, z_v i1), (2, z_v i2), (3, z_v x3), (4, z_v 0)]) [2, 3, 4, 1, 0] rfl ?_
                exact (L37 (((4 : Int) - 0).toNat + 1)) 0 fa_zone Hfa_zone (zo_eqt E (by omega)) (by omega) (Nat.lt_succ_self _)
              · skip
                refine z_goto (t := 95) C dX9_close_31 (by decide) ?_
                refine z_iinc (L' := [(2, z_v (i2 + 1)), (3, z_v x3), (0, .ref (ad 10)), (1, z_v i1)]) C 3 dX9_close_95 rfl (by decide) rfl ?_
                refine z_goto (t := 9) C dX9_close_98 (by decide) ?_
                refine z_loc (L' := [(0, .ref (ad 10)), (1, z_v i1), (2, z_v (i2 + 1))]) [2, 3, 0] rfl ?_
                exact ih9 (i2 + 1) fa_zone Hfa_zone (by first | exact zo_eqt E (by omega) | exact zo_skI htop E (by omega) (by omega) (by omega)) (by omega) (by omega)
        refine z_loc (L' := [(0, .ref (ad 10)), (1, z_v i1), (2, z_v 0)]) [1, 2, 0] rfl ?_
        exact (L9 (((4 : Int) - 0).toNat + 1)) 0 fa_zone Hfa_zone (zo_eqt E (by omega)) (by omega) (Nat.lt_succ_self _)
  refine z_loc (L' := [(0, .ref (ad 10)), (1, z_v 0)]) [1, 0] rfl ?_
  exact (L2 (((4 : Int) - 0).toNat + 1)) 0 a_zone Ha_zone (rfl) (by omega) (Nat.lt_succ_self _)
set_option maxRecDepth 20000 in
theorem cx_X9_widen (l : Launch) {D : va_G} {A : Nat → Prop} {ad : Nat → Nat} {ks : z_Ks} {s_edgeCount s_moveCount s_isNeeded s_timesDone s_size s_isGoing s_allTime s_stepCount s_gapCount : Int} {g_edges g_moves g_limits : Nat → Option Nat} {a_sfacts a_sbounds a_facts a_zone a_most a_places a_amounts a_nextPlaces a_nextAmounts a_earliest a_visited a_lastSet a_gapFrom a_gapTo a_gapLeast a_askedPlaces a_askedAmounts : Nat → Int} {Y : Nat → Option va_E} {U V L : Int} (Ha_zone : (∀ j, z_rg (a_zone j))) (Ha_most : (∀ j, 0 ≤ a_most j ∧ a_most j ≤ 1000)) (hZ : zo_Z U V L a_zone) : z_Met l yX9_widen cX9_widen 4 none 2 46 0 0 D A 27 ad ks [.ref (ad 10), .ref (ad 12)] (z_zc ad ks s_edgeCount s_moveCount s_isNeeded s_timesDone s_size s_isGoing s_allTime s_stepCount s_gapCount g_edges g_moves g_limits a_sfacts a_sbounds a_facts a_zone a_most a_places a_amounts a_nextPlaces a_nextAmounts a_earliest a_visited a_lastSet a_gapFrom a_gapTo a_gapLeast a_askedPlaces a_askedAmounts) Y (fun r S' Y' => ∃ na_zone : Nat → Int, S' = (z_zc ad ks s_edgeCount s_moveCount s_isNeeded s_timesDone s_size s_isGoing s_allTime s_stepCount s_gapCount g_edges g_moves g_limits a_sfacts a_sbounds a_facts na_zone a_most a_places a_amounts a_nextPlaces a_nextAmounts a_earliest a_visited a_lastSet a_gapFrom a_gapTo a_gapLeast a_askedPlaces a_askedAmounts) ∧ Y = Y' ∧ (∀ j, z_rg (na_zone j)) ∧ (zo_GC (fun w => zo_le w (zo_wd a_most a_zone)) na_zone) ∧ (zo_Z 16016 16016 32015 na_zone) ∧ r = none) := by
  refine z_start2 (by decide) (Nat.le_of_ble_eq_true rfl) ?_
  intro p e R s m args below meth c Q C hRf hRc hRs hRl hQ hrt hnm
  refine z_loc (L' := [(0, .ref (ad 10)), (1, .ref (ad 12))]) [0, 1] rfl ?_
  have hmr : ∀ x, 1 ≤ x → x < 4 → 0 ≤ a_most x ∧ a_most x ≤ 1000 := fun x _ _ => Ha_most x
  refine z_iconst C dX9_widen_0 ?_
  refine z_istoren (L' := [(2, z_v 1), (0, .ref (ad 10)), (1, .ref (ad 12))]) C dX9_widen_1 rfl (by decide) rfl ?_
  have L2 : ∀ (n : Nat), ∀ (i2 : Int) (fa_zone : Nat → Int), ((∀ j, z_rg (fa_zone j))) → (zo_wi a_most a_zone i2 0 fa_zone) → (1 ≤ i2 ∧ i2 ≤ 4) → ((4 : Int) - i2).toNat < n → z_V p l e R s m args below meth c Q D A 27 ad 4 (z_zc ad ks s_edgeCount s_moveCount s_isNeeded s_timesDone s_size s_isGoing s_allTime s_stepCount s_gapCount g_edges g_moves g_limits a_sfacts a_sbounds a_facts fa_zone a_most a_places a_amounts a_nextPlaces a_nextAmounts a_earliest a_visited a_lastSet a_gapFrom a_gapTo a_gapLeast a_askedPlaces a_askedAmounts) Y 0 0 2 [(0, .ref (ad 10)), (1, .ref (ad 12)), (2, z_v i2)] [] := by
    intro n
    induction n with
    | zero => intro i2 fa_zone Hfa_zone FW I2 hm; exact absurd hm (Nat.not_lt_zero _)
    | succ n ih2 =>
      intro i2 fa_zone Hfa_zone FW I2 hm
      refine z_iloadn C 2 dX9_widen_2 rfl rfl ?_
      refine z_iconst C dX9_widen_3 ?_
      refine z_icmp_ge (t := 99) C dX9_widen_4 (by decide) (by omega) (by omega) (fun c1 => ?_) (fun c1 => ?_)
      · skip
        refine z_aloadn C 0 dX9_widen_99 rfl rfl ?_
        have hfw := zo_wi.fin FW (by omega)
        obtain ⟨wt, w0, wl, wb, wd, wg, wz⟩ := zo_wd_fin hmr hZ hfw
        refine z_callV C (cx_X9_close l Hfa_zone wt w0 (fun j hj => by have := wl j hj; omega) wd) mv_9_26 (z_atS 10 9 (by decide) rfl rfl rfl) pd_X9_close ⟨by omega, by omega⟩ ⟨by omega, by omega⟩ rfl (Nat.le_of_ble_eq_true rfl) dX9_widen_100 ?_
        rintro _ _ _ ⟨n2, rfl, rfl, h5, q100_0, rfl⟩
        rw [hQ]
        exact z_vret C hrt dX9_widen_103 (⟨n2, rfl, rfl, h5, by rw [q100_0]; exact wg, by rw [q100_0]; exact wz, rfl⟩) (by omega) (by omega)
      · skip
        refine z_iconst C dX9_widen_7 ?_
        refine z_istoren (L' := [(3, z_v 0), (0, .ref (ad 10)), (1, .ref (ad 12)), (2, z_v i2)]) C dX9_widen_8 rfl (by decide) rfl ?_
        have L9 : ∀ (n : Nat), ∀ (i3 : Int) (fa_zone : Nat → Int), ((∀ j, z_rg (fa_zone j))) → (zo_wi a_most a_zone i2 i3 fa_zone) → (0 ≤ i3 ∧ i3 ≤ 4) → ((4 : Int) - i3).toNat < n → z_V p l e R s m args below meth c Q D A 27 ad 4 (z_zc ad ks s_edgeCount s_moveCount s_isNeeded s_timesDone s_size s_isGoing s_allTime s_stepCount s_gapCount g_edges g_moves g_limits a_sfacts a_sbounds a_facts fa_zone a_most a_places a_amounts a_nextPlaces a_nextAmounts a_earliest a_visited a_lastSet a_gapFrom a_gapTo a_gapLeast a_askedPlaces a_askedAmounts) Y 0 0 9 [(0, .ref (ad 10)), (1, .ref (ad 12)), (2, z_v i2), (3, z_v i3)] [] := by
          intro n
          induction n with
          | zero => intro i3 fa_zone Hfa_zone FW I3 hm; exact absurd hm (Nat.not_lt_zero _)
          | succ n ih9 =>
            intro i3 fa_zone Hfa_zone FW I3 hm
            refine z_iloadn C 3 dX9_widen_9 rfl rfl ?_
            refine z_iconst C dX9_widen_10 ?_
            refine z_icmp_ge (t := 93) C dX9_widen_11 (by decide) (by omega) (by omega) (fun c6 => ?_) (fun c6 => ?_)
            · skip
              refine z_iinc (L' := [(2, z_v (i2 + 1)), (0, .ref (ad 10)), (1, .ref (ad 12)), (3, z_v i3)]) C 2 dX9_widen_93 rfl (by decide) rfl ?_
              refine z_goto (t := 2) C dX9_widen_96 (by decide) ?_
              refine z_loc (L' := [(0, .ref (ad 10)), (1, .ref (ad 12)), (2, z_v (i2 + 1))]) [1, 2, 0] rfl ?_
              exact ih2 (i2 + 1) fa_zone Hfa_zone (zo_wi.next (show zo_wi a_most a_zone i2 4 fa_zone from (show i3 = 4 by omega) ▸ FW)) (by omega) (by omega)
            · skip
              refine z_iloadn C 2 dX9_widen_14 rfl rfl ?_
              refine z_iloadn C 3 dX9_widen_15 rfl rfl ?_
              refine z_icmp_ne (t := 22) C dX9_widen_16 (by decide) (by omega) (by omega) (fun c7 => ?_) (fun c7 => ?_)
              · skip
                refine z_aloadn C 0 dX9_widen_22 rfl rfl ?_
                refine z_get C 10 (by decide) rfl rfl z_it9 0 (by decide) rfl fl_9_9 rfl dX9_widen_23 ?_
                refine z_iconst C dX9_widen_26 ?_
                refine z_iloadn C 2 dX9_widen_27 rfl rfl ?_
                refine z_imul C dX9_widen_28 ?_
                refine z_iloadn C 3 dX9_widen_29 rfl rfl ?_
                refine z_iadd C dX9_widen_30 ?_
                refine z_iald C 11 (by decide) rfl (by decide) (by omega) (by omega) dX9_widen_31 ?_
                have rx8 := Hfa_zone (((4 * i2) + i3) : Int).toNat
                generalize ex8 : fa_zone (((4 * i2) + i3) : Int).toNat = x8 at rx8 ⊢
                refine z_iconst C dX9_widen_32 ?_
                obtain ⟨b9, hb9, rb9⟩ := z_bits (z_i x8 >>> (z_i 1 &&& 31))
                refine z_ishr C hb9 dX9_widen_33 ?_
                have qb9 := z_bitsE hb9 rb9
                have hs33 : b9 = x8 / 2 := by rw [← qb9]; exact zo_shr (by omega)
                refine z_aloadn C 1 dX9_widen_34 rfl rfl ?_
                refine z_iloadn C 2 dX9_widen_35 rfl rfl ?_
                refine z_iald C 12 (by decide) rfl (by decide) (by omega) (by omega) dX9_widen_36 ?_
                have rx10 := Ha_most (i2 : Int).toNat
                generalize ex10 : a_most (i2 : Int).toNat = x10 at rx10 ⊢
                have e36 : x10 = a_most (i2 : Int).toNat := ex10.symm
                refine z_icmp_le (t := 52) C dX9_widen_37 (by decide) (by omega) (by omega) (fun c11 => ?_) (fun c11 => ?_)
                · skip
                  refine z_aloadn C 0 dX9_widen_52 rfl rfl ?_
                  refine z_get C 10 (by decide) rfl rfl z_it9 0 (by decide) rfl fl_9_9 rfl dX9_widen_53 ?_
                  refine z_iconst C dX9_widen_56 ?_
                  refine z_iloadn C 3 dX9_widen_57 rfl rfl ?_
                  refine z_imul C dX9_widen_58 ?_
                  refine z_iloadn C 2 dX9_widen_59 rfl rfl ?_
                  refine z_iadd C dX9_widen_60 ?_
                  refine z_iald C 11 (by decide) rfl (by decide) (by omega) (by omega) dX9_widen_61 ?_
                  have rx12 := Hfa_zone (((4 * i3) + i2) : Int).toNat
                  generalize ex12 : fa_zone (((4 * i3) + i2) : Int).toNat = x12 at rx12 ⊢
                  refine z_iconst C dX9_widen_62 ?_
                  obtain ⟨b13, hb13, rb13⟩ := z_bits (z_i x12 >>> (z_i 1 &&& 31))
                  refine z_ishr C hb13 dX9_widen_63 ?_
                  have qb13 := z_bitsE hb13 rb13
                  have hs63 : b13 = x12 / 2 := by rw [← qb13]; exact zo_shr (by omega)
                  refine z_aloadn C 1 dX9_widen_64 rfl rfl ?_
                  refine z_iloadn C 2 dX9_widen_65 rfl rfl ?_
                  refine z_iald C 12 (by decide) rfl (by decide) (by omega) (by omega) dX9_widen_66 ?_
                  rw [ex10]
                  refine z_ineg C dX9_widen_67 ?_
                  refine z_icmp_ge (t := 87) C dX9_widen_68 (by decide) (by omega) (by omega) (fun c14 => ?_) (fun c14 => ?_)
                  · skip
                    refine z_iinc (L' := [(3, z_v (i3 + 1)), (0, .ref (ad 10)), (1, .ref (ad 12)), (2, z_v i2)]) C 3 dX9_widen_87 rfl (by decide) rfl ?_
                    refine z_goto (t := 9) C dX9_widen_90 (by decide) ?_
                    refine z_loc (L' := [(0, .ref (ad 10)), (1, .ref (ad 12)), (2, z_v i2), (3, z_v (i3 + 1))]) [1, 2, 3, 0] rfl ?_
                    exact ih9 (i3 + 1) fa_zone Hfa_zone (by first | exact zo_wi.skip FW (by omega) | exact zo_wi.stepC FW (by omega) (by omega) (by omega) e36 hmr hZ.1.2.1 (by assumption) (by assumption) (by first | exact Or.inl ⟨by omega, rfl⟩ | exact Or.inr ⟨by omega, rfl⟩) (by first | exact Or.inl ⟨by omega, rfl⟩ | exact Or.inr ⟨by omega, rfl⟩)) (by omega) (by omega)
                  · skip
                    refine z_aloadn C 0 dX9_widen_71 rfl rfl ?_
                    refine z_get C 10 (by decide) rfl rfl z_it9 0 (by decide) rfl fl_9_9 rfl dX9_widen_72 ?_
                    refine z_iconst C dX9_widen_75 ?_
                    refine z_iloadn C 3 dX9_widen_76 rfl rfl ?_
                    refine z_imul C dX9_widen_77 ?_
                    refine z_iloadn C 2 dX9_widen_78 rfl rfl ?_
                    refine z_iadd C dX9_widen_79 ?_
                    refine z_bipush C dX9_widen_80 (by decide) ?_
                    refine z_aloadn C 1 dX9_widen_82 rfl rfl ?_
                    refine z_iloadn C 2 dX9_widen_83 rfl rfl ?_
                    refine z_iald C 12 (by decide) rfl (by decide) (by omega) (by omega) dX9_widen_84 ?_
                    rw [ex10]
                    refine z_imul C dX9_widen_85 ?_
                    refine z_iast C 11 (by decide) rfl (by decide) (by omega) (by omega) dX9_widen_86 ?_
                    refine z_ext (S' := (z_zc ad ks s_edgeCount s_moveCount s_isNeeded s_timesDone s_size s_isGoing s_allTime s_stepCount s_gapCount g_edges g_moves g_limits a_sfacts a_sbounds a_facts (va_up fa_zone (((4 * i3) + i2) : Int).toNat ((-2) * x10)) a_most a_places a_amounts a_nextPlaces a_nextAmounts a_earliest a_visited a_lastSet a_gapFrom a_gapTo a_gapLeast a_askedPlaces a_askedAmounts)) upC_a_zone ?_
                    have h15 : ∀ j, z_rg ((va_up fa_zone (((4 * i3) + i2) : Int).toNat ((-2) * x10)) j) := z_upP (P := fun j v => z_rg (v)) Hfa_zone (by omega)
                    refine z_iinc (L' := [(3, z_v (i3 + 1)), (0, .ref (ad 10)), (1, .ref (ad 12)), (2, z_v i2)]) C 3 dX9_widen_87 rfl (by decide) rfl ?_
                    refine z_goto (t := 9) C dX9_widen_90 (by decide) ?_
                    refine z_loc (L' := [(0, .ref (ad 10)), (1, .ref (ad 12)), (2, z_v i2), (3, z_v (i3 + 1))]) [1, 2, 3, 0] rfl ?_
                    exact ih9 (i3 + 1) (va_up fa_zone (((4 * i3) + i2) : Int).toNat ((-2) * x10)) h15 (by first | exact zo_wi.skip FW (by omega) | exact zo_wi.stepC FW (by omega) (by omega) (by omega) e36 hmr hZ.1.2.1 (by assumption) (by assumption) (by first | exact Or.inl ⟨by omega, rfl⟩ | exact Or.inr ⟨by omega, rfl⟩) (by first | exact Or.inl ⟨by omega, rfl⟩ | exact Or.inr ⟨by omega, rfl⟩)) (by omega) (by omega)
                · skip
                  refine z_aloadn C 0 dX9_widen_40 rfl rfl ?_
                  refine z_get C 10 (by decide) rfl rfl z_it9 0 (by decide) rfl fl_9_9 rfl dX9_widen_41 ?_
                  refine z_iconst C dX9_widen_44 ?_
                  refine z_iloadn C 2 dX9_widen_45 rfl rfl ?_
                  refine z_imul C dX9_widen_46 ?_
                  refine z_iloadn C 3 dX9_widen_47 rfl rfl ?_
                  refine z_iadd C dX9_widen_48 ?_
                  refine z_ldc (n := 100000) C kc_9_15 (by decide) dX9_widen_49 ?_
                  refine z_iast C 11 (by decide) rfl (by decide) (by omega) (by omega) dX9_widen_51 ?_
                  refine z_ext (S' := (z_zc ad ks s_edgeCount s_moveCount s_isNeeded s_timesDone s_size s_isGoing s_allTime s_stepCount s_gapCount g_edges g_moves g_limits a_sfacts a_sbounds a_facts (va_up fa_zone (((4 * i2) + i3) : Int).toNat 100000) a_most a_places a_amounts a_nextPlaces a_nextAmounts a_earliest a_visited a_lastSet a_gapFrom a_gapTo a_gapLeast a_askedPlaces a_askedAmounts)) upC_a_zone ?_
                  have h16 : ∀ j, z_rg ((va_up fa_zone (((4 * i2) + i3) : Int).toNat 100000) j) := z_upP (P := fun j v => z_rg (v)) Hfa_zone (by omega)
                  refine z_aloadn C 0 dX9_widen_52 rfl rfl ?_
                  refine z_get C 10 (by decide) rfl rfl z_it9 0 (by decide) rfl fl_9_9 rfl dX9_widen_53 ?_
                  refine z_iconst C dX9_widen_56 ?_
                  refine z_iloadn C 3 dX9_widen_57 rfl rfl ?_
                  refine z_imul C dX9_widen_58 ?_
                  refine z_iloadn C 2 dX9_widen_59 rfl rfl ?_
                  refine z_iadd C dX9_widen_60 ?_
                  refine z_iald C 11 (by decide) rfl (by decide) (by omega) (by omega) dX9_widen_61 ?_
                  have rx17 := h16 (((4 * i3) + i2) : Int).toNat
                  generalize ex17 : (va_up fa_zone (((4 * i2) + i3) : Int).toNat 100000) (((4 * i3) + i2) : Int).toNat = x17 at rx17 ⊢
                  refine z_iconst C dX9_widen_62 ?_
                  obtain ⟨b18, hb18, rb18⟩ := z_bits (z_i x17 >>> (z_i 1 &&& 31))
                  refine z_ishr C hb18 dX9_widen_63 ?_
                  have qb18 := z_bitsE hb18 rb18
                  have hs63 : b18 = x17 / 2 := by rw [← qb18]; exact zo_shr (by omega)
                  refine z_aloadn C 1 dX9_widen_64 rfl rfl ?_
                  refine z_iloadn C 2 dX9_widen_65 rfl rfl ?_
                  refine z_iald C 12 (by decide) rfl (by decide) (by omega) (by omega) dX9_widen_66 ?_
                  rw [ex10]
                  refine z_ineg C dX9_widen_67 ?_
                  refine z_icmp_ge (t := 87) C dX9_widen_68 (by decide) (by omega) (by omega) (fun c19 => ?_) (fun c19 => ?_)
                  · skip
                    refine z_iinc (L' := [(3, z_v (i3 + 1)), (0, .ref (ad 10)), (1, .ref (ad 12)), (2, z_v i2)]) C 3 dX9_widen_87 rfl (by decide) rfl ?_
                    refine z_goto (t := 9) C dX9_widen_90 (by decide) ?_
                    refine z_loc (L' := [(0, .ref (ad 10)), (1, .ref (ad 12)), (2, z_v i2), (3, z_v (i3 + 1))]) [1, 2, 3, 0] rfl ?_
                    exact ih9 (i3 + 1) (va_up fa_zone (((4 * i2) + i3) : Int).toNat 100000) h16 (by first | exact zo_wi.skip FW (by omega) | exact zo_wi.stepC FW (by omega) (by omega) (by omega) e36 hmr hZ.1.2.1 (by assumption) (by assumption) (by first | exact Or.inl ⟨by omega, rfl⟩ | exact Or.inr ⟨by omega, rfl⟩) (by first | exact Or.inl ⟨by omega, rfl⟩ | exact Or.inr ⟨by omega, rfl⟩)) (by omega) (by omega)
                  · skip
                    refine z_aloadn C 0 dX9_widen_71 rfl rfl ?_
                    refine z_get C 10 (by decide) rfl rfl z_it9 0 (by decide) rfl fl_9_9 rfl dX9_widen_72 ?_
                    refine z_iconst C dX9_widen_75 ?_
                    refine z_iloadn C 3 dX9_widen_76 rfl rfl ?_
                    refine z_imul C dX9_widen_77 ?_
                    refine z_iloadn C 2 dX9_widen_78 rfl rfl ?_
                    refine z_iadd C dX9_widen_79 ?_
                    refine z_bipush C dX9_widen_80 (by decide) ?_
                    refine z_aloadn C 1 dX9_widen_82 rfl rfl ?_
                    refine z_iloadn C 2 dX9_widen_83 rfl rfl ?_
                    refine z_iald C 12 (by decide) rfl (by decide) (by omega) (by omega) dX9_widen_84 ?_
                    rw [ex10]
                    refine z_imul C dX9_widen_85 ?_
                    refine z_iast C 11 (by decide) rfl (by decide) (by omega) (by omega) dX9_widen_86 ?_
                    refine z_ext (S' := (z_zc ad ks s_edgeCount s_moveCount s_isNeeded s_timesDone s_size s_isGoing s_allTime s_stepCount s_gapCount g_edges g_moves g_limits a_sfacts a_sbounds a_facts (va_up (va_up fa_zone (((4 * i2) + i3) : Int).toNat 100000) (((4 * i3) + i2) : Int).toNat ((-2) * x10)) a_most a_places a_amounts a_nextPlaces a_nextAmounts a_earliest a_visited a_lastSet a_gapFrom a_gapTo a_gapLeast a_askedPlaces a_askedAmounts)) upC_a_zone ?_
                    have h20 : ∀ j, z_rg ((va_up (va_up fa_zone (((4 * i2) + i3) : Int).toNat 100000) (((4 * i3) + i2) : Int).toNat ((-2) * x10)) j) := z_upP (P := fun j v => z_rg (v)) h16 (by omega)
                    refine z_iinc (L' := [(3, z_v (i3 + 1)), (0, .ref (ad 10)), (1, .ref (ad 12)), (2, z_v i2)]) C 3 dX9_widen_87 rfl (by decide) rfl ?_
                    refine z_goto (t := 9) C dX9_widen_90 (by decide) ?_
                    refine z_loc (L' := [(0, .ref (ad 10)), (1, .ref (ad 12)), (2, z_v i2), (3, z_v (i3 + 1))]) [1, 2, 3, 0] rfl ?_
                    exact ih9 (i3 + 1) (va_up (va_up fa_zone (((4 * i2) + i3) : Int).toNat 100000) (((4 * i3) + i2) : Int).toNat ((-2) * x10)) h20 (by first | exact zo_wi.skip FW (by omega) | exact zo_wi.stepC FW (by omega) (by omega) (by omega) e36 hmr hZ.1.2.1 (by assumption) (by assumption) (by first | exact Or.inl ⟨by omega, rfl⟩ | exact Or.inr ⟨by omega, rfl⟩) (by first | exact Or.inl ⟨by omega, rfl⟩ | exact Or.inr ⟨by omega, rfl⟩)) (by omega) (by omega)
              · skip
                refine z_goto (t := 87) C dX9_widen_19 (by decide) ?_
                refine z_iinc (L' := [(3, z_v (i3 + 1)), (0, .ref (ad 10)), (1, .ref (ad 12)), (2, z_v i2)]) C 3 dX9_widen_87 rfl (by decide) rfl ?_
                refine z_goto (t := 9) C dX9_widen_90 (by decide) ?_
                refine z_loc (L' := [(0, .ref (ad 10)), (1, .ref (ad 12)), (2, z_v i2), (3, z_v (i3 + 1))]) [1, 2, 3, 0] rfl ?_
                exact ih9 (i3 + 1) fa_zone Hfa_zone (by first | exact zo_wi.skip FW (by omega) | exact zo_wi.stepC FW (by omega) (by omega) (by omega) e36 hmr hZ.1.2.1 (by assumption) (by assumption) (by first | exact Or.inl ⟨by omega, rfl⟩ | exact Or.inr ⟨by omega, rfl⟩) (by first | exact Or.inl ⟨by omega, rfl⟩ | exact Or.inr ⟨by omega, rfl⟩)) (by omega) (by omega)
        refine z_loc (L' := [(0, .ref (ad 10)), (1, .ref (ad 12)), (2, z_v i2), (3, z_v 0)]) [1, 2, 3, 0] rfl ?_
        exact (L9 (((4 : Int) - 0).toNat + 1)) 0 fa_zone Hfa_zone (FW) (by omega) (Nat.lt_succ_self _)
  refine z_loc (L' := [(0, .ref (ad 10)), (1, .ref (ad 12)), (2, z_v 1)]) [1, 2, 0] rfl ?_
  exact (L2 (((4 : Int) - 1).toNat + 1)) 1 a_zone Ha_zone (zo_wi.ini) (by omega) (Nat.lt_succ_self _)
