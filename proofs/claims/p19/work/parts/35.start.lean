set_option maxHeartbeats 4000000 in
set_option maxRecDepth 100000 in
theorem whole_start {p : Program} {e : Env} {s : State} {m : MethodId} {below : List Frame} {meth : Method} {c : Code} (l : Launch) {b L : Nat} {xs : Nat → Int32} (hL : L ≤ 3072) (C0 : lw_At p s m meth c b L xs) : W p l e room_1 s m #[Value.ref b] below meth c s.heap [] 0 0 (lw_Z below #[Value.ref b] s) (entryFrame m ([Value.ref b] : List Value).toArray 4) := by
  obtain ⟨hx, hb, hr, hml, hown, hts, hX, hbl, hlocks, hgv⟩ := id C0
  obtain ⟨D, ks, hK, hXX⟩ := z_known hts
  have hRf : room_1.frames = 9 := rfl
  have hRc : room_1.cells = 600000 := rfl
  have hRs : room_1.slots = 7302249 := rfl
  have hRl : room_1.locals = 320 := rfl
  have C : z_C p s m #[Value.ref b] meth c code 4 "ClockZonesLaw" D (fun q => s.heap.size ≤ q) ks := ⟨hx, hb, hml, hown, fun w hw => hts w (z_lw w hw), hK, hXX, hlocks, fun q h => h⟩
  have hl := lv_entry ([.ref b]) (n := 4) (Nat.le_of_ble_eq_true rfl)
  rw [lg_entry_eq]
  refine (?_ : z_V p l e room_1 s m #[Value.ref b] below meth c (lw_Z below #[Value.ref b] s) D (fun q => s.heap.size ≤ q) 0 (fun _ => 0) 4 (fun _ => z_ob 0 []) (fun _ => none) 0 0 0 [(0, .ref b)] []) s.heap [] _ ⟨fun k hk => absurd hk (Nat.not_lt_zero _), fun i j hi => absurd hi (Nat.not_lt_zero _), fun q x hq => by cases hq⟩ va_S.rf hl
  refine z_new3 (r := (RX10, TX10, 6)) (ci := 10) (fs := [.null, .null, .null, .null, .null, .null]) C rfl z_it10 tyX10 tyX10_ok nw_L_7 (fun j hj => match j, hj with | 0, _ => rfl | 1, _ => rfl | 2, _ => rfl | 3, _ => rfl | 4, _ => rfl | 5, _ => rfl | n + 6, h => absurd h (by show ¬ (n + 6 < 6); omega)) (by omega) (by show _ + 6 ≤ _; omega) dL_law_0 (fun q0 Y1 y1 hs1 hf1 => ?_)
  refine z_wide (k := 1) (n := 6) (Nat.le_refl _) (Nat.le_refl _) ?_
  refine z_dup C dL_law_3 rfl ?_
  refine z_callI C (cx_X10_init l q0 y1) mv_L_9 rfl pd_X10_init ⟨by omega, by omega⟩ ⟨by omega, by omega⟩ rfl (Nat.le_of_ble_eq_true rfl) dL_law_4 ?_
  rintro _ _ Y2 ⟨u1, u2, u3, u4, u5, u6, u7, u8, u9, u10, u11, u12, u13, u14, u15, u16, u17, u18, u19, u20, u21, u22, u23, u24, u25, u26, g, ql, qt, rfl, hk2, y2, w1, w2, w3, w4, w5, w6, w7, w8, w9, w10, w11, w12, w13, w14, w15, w16, w17, w18, w19, w20, w21, w22, w23, w24, w25, w26, HL, fst2, lt1, lt2, lt3, lt4, lt5, lt6, lt7, lt8, lt9, lt10, lt11, lt12, lt13, lt14, lt15, lt16, lt17, lt18, lt19, lt20, lt21, lt22, lt23, lt24, lt25, rfl⟩
  refine z_wide (k := 63) (n := 5284) (Nat.le_refl _) (Nat.le_refl _) ?_
  refine z_astoren (L' := [(1, .ref q0), (0, .ref b)]) C dL_law_7 rfl (by decide) rfl ?_
  refine z_new3 (r := (RX11, TX11, 32)) (ci := 11) (fs := [z_v 0, .null, .null, .null, .null, .null, .null, .null, .null, .null, z_v 0, z_v 0, z_v 0, .null, .null, .null, .null, .null, .null, .null, .null, .null, .null, .null, .null, z_v 0, z_v 0, .null, .null, z_v 0, z_v 0, .long 0]) C rfl z_it11 tyX11 tyX11_ok nw_L_10 (fun j hj => match j, hj with | 0, _ => rfl | 1, _ => rfl | 2, _ => rfl | 3, _ => rfl | 4, _ => rfl | 5, _ => rfl | 6, _ => rfl | 7, _ => rfl | 8, _ => rfl | 9, _ => rfl | 10, _ => rfl | 11, _ => rfl | 12, _ => rfl | 13, _ => rfl | 14, _ => rfl | 15, _ => rfl | 16, _ => rfl | 17, _ => rfl | 18, _ => rfl | 19, _ => rfl | 20, _ => rfl | 21, _ => rfl | 22, _ => rfl | 23, _ => rfl | 24, _ => rfl | 25, _ => rfl | 26, _ => rfl | 27, _ => rfl | 28, _ => rfl | 29, _ => rfl | 30, _ => rfl | 31, _ => rfl | n + 32, h => absurd h (by show ¬ (n + 32 < 32); omega)) (by omega) (by show _ + 32 ≤ _; omega) dL_law_8 (fun q2 Y3 y3 hs3 hf3 => ?_)
  refine z_wide (k := 64) (n := 5316) (Nat.le_refl _) (Nat.le_refl _) ?_
  refine z_dup C dL_law_11 rfl ?_
  refine z_callI C (cm_X11_init l q2 y3) mv_L_12 rfl pd_X11_init ⟨by omega, by omega⟩ ⟨by omega, by omega⟩ rfl (Nat.le_of_ble_eq_true rfl) dL_law_12 ?_
  rintro _ _ Y4 ⟨v1, v2, v3, v4, v5, v6, v7, v8, v9, v10, v11, v12, v13, v14, v15, v16, v17, v18, v19, v20, v21, v22, v23, rfl, hk4, y4, x1, x2, x3, x4, x5, x6, x7, x8, x9, x10, x11, x12, x13, x14, x15, x16, x17, x18, x19, x20, x21, x22, x23, fst4, mt1, mt2, mt3, mt4, mt5, mt6, mt7, mt8, mt9, mt10, mt11, mt12, mt13, mt14, mt15, mt16, mt17, mt18, mt19, mt20, mt21, mt22, rfl⟩
  refine z_wide (k := 87) (n := 8572) (Nat.le_refl _) (Nat.le_refl _) ?_
  refine z_astoren (L' := [(2, .ref q2), (1, .ref q0), (0, .ref b)]) C dL_law_15 rfl (by decide) rfl ?_
  refine z_iconst C dL_law_16 ?_
  refine z_istoren (L' := [(3, z_v 0), (2, .ref q2), (1, .ref q0), (0, .ref b)]) C dL_law_17 rfl (by decide) rfl ?_
  refine z_loc (L' := [(0, .ref b), (1, .ref q0), (2, .ref q2), (3, z_v 0)]) [3, 2, 1, 0] rfl ?_
  refine z_wide (k := (100 + 4 * (0 : Int).toNat)) (n := (20000 + 20 * (0 : Int).toNat)) (by omega) (by omega) ?_
  have k0 := hk4 _ _ (hs3 _ _ y2) (Nat.ne_of_lt (hf3 _ _ y2))
  have k1 := hk4 _ _ (hs3 _ _ w1) (Nat.ne_of_lt (hf3 _ _ w1))
  have k2 := hk4 _ _ (hs3 _ _ w2) (Nat.ne_of_lt (hf3 _ _ w2))
  have k3 := hk4 _ _ (hs3 _ _ w3) (Nat.ne_of_lt (hf3 _ _ w3))
  have k4 := hk4 _ _ (hs3 _ _ w4) (Nat.ne_of_lt (hf3 _ _ w4))
  have k5 := hk4 _ _ (hs3 _ _ w5) (Nat.ne_of_lt (hf3 _ _ w5))
  have k6 := hk4 _ _ (hs3 _ _ w6) (Nat.ne_of_lt (hf3 _ _ w6))
  have k7 := hk4 _ _ (hs3 _ _ w7) (Nat.ne_of_lt (hf3 _ _ w7))
  have k8 := hk4 _ _ (hs3 _ _ w8) (Nat.ne_of_lt (hf3 _ _ w8))
  have k9 := hk4 _ _ (hs3 _ _ w9) (Nat.ne_of_lt (hf3 _ _ w9))
  have k10 := hk4 _ _ (hs3 _ _ w10) (Nat.ne_of_lt (hf3 _ _ w10))
  have k11 := hk4 _ _ (hs3 _ _ w11) (Nat.ne_of_lt (hf3 _ _ w11))
  have k12 := hk4 _ _ (hs3 _ _ w12) (Nat.ne_of_lt (hf3 _ _ w12))
  have k13 := hk4 _ _ (hs3 _ _ w13) (Nat.ne_of_lt (hf3 _ _ w13))
  have k14 := hk4 _ _ (hs3 _ _ w14) (Nat.ne_of_lt (hf3 _ _ w14))
  have k15 := hk4 _ _ (hs3 _ _ w15) (Nat.ne_of_lt (hf3 _ _ w15))
  have k16 := hk4 _ _ (hs3 _ _ w16) (Nat.ne_of_lt (hf3 _ _ w16))
  have k17 := hk4 _ _ (hs3 _ _ w17) (Nat.ne_of_lt (hf3 _ _ w17))
  have k18 := hk4 _ _ (hs3 _ _ w18) (Nat.ne_of_lt (hf3 _ _ w18))
  have k19 := hk4 _ _ (hs3 _ _ w19) (Nat.ne_of_lt (hf3 _ _ w19))
  have k20 := hk4 _ _ (hs3 _ _ w20) (Nat.ne_of_lt (hf3 _ _ w20))
  have k21 := hk4 _ _ (hs3 _ _ w21) (Nat.ne_of_lt (hf3 _ _ w21))
  have k22 := hk4 _ _ (hs3 _ _ w22) (Nat.ne_of_lt (hf3 _ _ w22))
  have k23 := hk4 _ _ (hs3 _ _ w23) (Nat.ne_of_lt (hf3 _ _ w23))
  have k24 := hk4 _ _ (hs3 _ _ w24) (Nat.ne_of_lt (hf3 _ _ w24))
  have k25 := hk4 _ _ (hs3 _ _ w25) (Nat.ne_of_lt (hf3 _ _ w25))
  have k26 := hk4 _ _ (hs3 _ _ w26) (Nat.ne_of_lt (hf3 _ _ w26))
  have b1 : q0 < u1 := fst2 _ _ y1
  have b2 : u26 < q2 := hf3 _ _ w26
  have b3 : q2 < v1 := fst4 _ _ y3
  generalize hAC : (fun k => [q0, u1, u2, u3, u4, u5, u6, u7, u8, u9, u10, u11, u12, u13, u14, u15, u16, u17, u18, u19, u20, u21, u22, u23, u24, u25, u26].getD k 0) = aC
  generalize hAM : (fun k => [q2, v1, v2, v3, v4, v5, v6, v7, v8, v9, v10, v11, v12, v13, v14, v15, v16, v17, v18, v19, v20, v21, v22, v23].getD k 0) = aM
  have hA : ∀ k, aC k = [q0, u1, u2, u3, u4, u5, u6, u7, u8, u9, u10, u11, u12, u13, u14, u15, u16, u17, u18, u19, u20, u21, u22, u23, u24, u25, u26].getD k 0 := fun k => by rw [← hAC]
  have hB : ∀ k, aM k = [q2, v1, v2, v3, v4, v5, v6, v7, v8, v9, v10, v11, v12, v13, v14, v15, v16, v17, v18, v19, v20, v21, v22, v23].getD k 0 := fun k => by rw [← hAM]
  have hall : ∀ k, k < 51 → Y4 (z_ad aC aM k) = some (z_S2 (z_zc aC ks 0 0 1 0 0 0 0 0 0 (fun _ => none) (fun _ => none) g (fun _ => 0) (fun _ => 0) (fun _ => 0) (fun _ => 0) (fun _ => 0) (fun _ => 0) (fun _ => 0) (fun _ => 0) (fun _ => 0) (fun _ => 0) (fun _ => 0) (fun _ => 0) (fun _ => 0) (fun _ => 0) (fun _ => 0) (fun _ => 0) (fun _ => 0)) (z_zm aM ks 0 1 0 0 0 0 0 0 0 (fun _ => 0) (fun _ => 0) (fun _ => 0) (fun _ => 0) (fun _ => 0) (fun _ => 0) (fun _ => 0) (fun _ => 0) (fun _ => 0) (fun _ => 0) (fun _ => 0) (fun _ => 0) (fun _ => 0) (fun _ => 0) (fun _ => 0) (fun _ => 0) (fun _ => 0) (fun _ => 0) (fun _ => 0) (fun _ => 0) (fun _ => 0) (fun _ => 0) (fun _ => 0)) k) := by
    subst hAC; subst hAM
    intro k hk
    match k, hk with
    | 0, _ => exact k0
    | 1, _ => exact k1
    | 2, _ => exact k2
    | 3, _ => exact k3
    | 4, _ => exact k4
    | 5, _ => exact k5
    | 6, _ => exact k6
    | 7, _ => exact k7
    | 8, _ => exact k8
    | 9, _ => exact k9
    | 10, _ => exact k10
    | 11, _ => exact k11
    | 12, _ => exact k12
    | 13, _ => exact k13
    | 14, _ => exact k14
    | 15, _ => exact k15
    | 16, _ => exact k16
    | 17, _ => exact k17
    | 18, _ => exact k18
    | 19, _ => exact k19
    | 20, _ => exact k20
    | 21, _ => exact k21
    | 22, _ => exact k22
    | 23, _ => exact k23
    | 24, _ => exact k24
    | 25, _ => exact k25
    | 26, _ => exact k26
    | 27, _ => exact y4
    | 28, _ => exact x1
    | 29, _ => exact x2
    | 30, _ => exact x3
    | 31, _ => exact x4
    | 32, _ => exact x5
    | 33, _ => exact x6
    | 34, _ => exact x7
    | 35, _ => exact x8
    | 36, _ => exact x9
    | 37, _ => exact x10
    | 38, _ => exact x11
    | 39, _ => exact x12
    | 40, _ => exact x13
    | 41, _ => exact x14
    | 42, _ => exact x15
    | 43, _ => exact x16
    | 44, _ => exact x17
    | 45, _ => exact x18
    | 46, _ => exact x19
    | 47, _ => exact x20
    | 48, _ => exact x21
    | 49, _ => exact x22
    | 50, _ => exact x23
    | n + 51, h => exact absurd h (by omega)
  have hok : ∀ k, k < 51 → z_okc (z_S2 (z_zc aC ks 0 0 1 0 0 0 0 0 0 (fun _ => none) (fun _ => none) g (fun _ => 0) (fun _ => 0) (fun _ => 0) (fun _ => 0) (fun _ => 0) (fun _ => 0) (fun _ => 0) (fun _ => 0) (fun _ => 0) (fun _ => 0) (fun _ => 0) (fun _ => 0) (fun _ => 0) (fun _ => 0) (fun _ => 0) (fun _ => 0) (fun _ => 0)) (z_zm aM ks 0 1 0 0 0 0 0 0 0 (fun _ => 0) (fun _ => 0) (fun _ => 0) (fun _ => 0) (fun _ => 0) (fun _ => 0) (fun _ => 0) (fun _ => 0) (fun _ => 0) (fun _ => 0) (fun _ => 0) (fun _ => 0) (fun _ => 0) (fun _ => 0) (fun _ => 0) (fun _ => 0) (fun _ => 0) (fun _ => 0) (fun _ => 0) (fun _ => 0) (fun _ => 0) (fun _ => 0) (fun _ => 0)) k) = true := by
    intro k hk
    match k, hk with
    | 0, _ => rfl
    | 1, _ => rfl
    | 2, _ => rfl
    | 3, _ => rfl
    | 4, _ => rfl
    | 5, _ => rfl
    | 6, _ => rfl
    | 7, _ => rfl
    | 8, _ => rfl
    | 9, _ => rfl
    | 10, _ => rfl
    | 11, _ => rfl
    | 12, _ => rfl
    | 13, _ => rfl
    | 14, _ => rfl
    | 15, _ => rfl
    | 16, _ => rfl
    | 17, _ => rfl
    | 18, _ => rfl
    | 19, _ => rfl
    | 20, _ => rfl
    | 21, _ => rfl
    | 22, _ => rfl
    | 23, _ => rfl
    | 24, _ => rfl
    | 25, _ => rfl
    | 26, _ => rfl
    | 27, _ => rfl
    | 28, _ => rfl
    | 29, _ => rfl
    | 30, _ => rfl
    | 31, _ => rfl
    | 32, _ => rfl
    | 33, _ => rfl
    | 34, _ => rfl
    | 35, _ => rfl
    | 36, _ => rfl
    | 37, _ => rfl
    | 38, _ => rfl
    | 39, _ => rfl
    | 40, _ => rfl
    | 41, _ => rfl
    | 42, _ => rfl
    | 43, _ => rfl
    | 44, _ => rfl
    | 45, _ => rfl
    | 46, _ => rfl
    | 47, _ => rfl
    | 48, _ => rfl
    | 49, _ => rfl
    | 50, _ => rfl
    | n + 51, h => exact absurd h (by omega)
  have hin : ∀ i j, i < 51 → j < 51 → z_ad aC aM i = z_ad aC aM j → i = j := by
    subst hAC; subst hAM
    refine z_inj _ 51 ?_
    intro i hi
    match i, hi with
    | 0, _ => exact b1
    | 1, _ => exact lt1
    | 2, _ => exact lt2
    | 3, _ => exact lt3
    | 4, _ => exact lt4
    | 5, _ => exact lt5
    | 6, _ => exact lt6
    | 7, _ => exact lt7
    | 8, _ => exact lt8
    | 9, _ => exact lt9
    | 10, _ => exact lt10
    | 11, _ => exact lt11
    | 12, _ => exact lt12
    | 13, _ => exact lt13
    | 14, _ => exact lt14
    | 15, _ => exact lt15
    | 16, _ => exact lt16
    | 17, _ => exact lt17
    | 18, _ => exact lt18
    | 19, _ => exact lt19
    | 20, _ => exact lt20
    | 21, _ => exact lt21
    | 22, _ => exact lt22
    | 23, _ => exact lt23
    | 24, _ => exact lt24
    | 25, _ => exact lt25
    | 26, _ => exact b2
    | 27, _ => exact b3
    | 28, _ => exact mt1
    | 29, _ => exact mt2
    | 30, _ => exact mt3
    | 31, _ => exact mt4
    | 32, _ => exact mt5
    | 33, _ => exact mt6
    | 34, _ => exact mt7
    | 35, _ => exact mt8
    | 36, _ => exact mt9
    | 37, _ => exact mt10
    | 38, _ => exact mt11
    | 39, _ => exact mt12
    | 40, _ => exact mt13
    | 41, _ => exact mt14
    | 42, _ => exact mt15
    | 43, _ => exact mt16
    | 44, _ => exact mt17
    | 45, _ => exact mt18
    | 46, _ => exact mt19
    | 47, _ => exact mt20
    | 48, _ => exact mt21
    | 49, _ => exact mt22
    | n + 50, h => exact absurd h (by omega)
  have e0 : aC 0 = q0 := by rw [← hAC]; rfl
  have e1 : aM 0 = q2 := by rw [← hAM]; rfl
  rw [← e0, ← e1]
  refine z_into hall hin ?_
  have HL4 := ((HL.sub hs3).oth y3 (by decide) hk4).rest hall hok
  exact law_loop l hL C hr hX hbl 3079 0 _ (fun _ => 0) (fun _ => 0) (fun _ => 0) _ _ 0 0 1 0 0 0 0 0 0 (fun _ => none) (fun _ => none) g (fun _ => 0) (fun _ => 0) (fun _ => 0) (fun _ => 0) (fun _ => 0) (fun _ => 0) (fun _ => 0) (fun _ => 0) (fun _ => 0) (fun _ => 0) (fun _ => 0) (fun _ => 0) (fun _ => 0) (fun _ => 0) (fun _ => 0) (fun _ => 0) (fun _ => 0) 0 1 0 0 0 0 0 0 0 (fun _ => 0) (fun _ => 0) (fun _ => 0) (fun _ => 0) (fun _ => 0) (fun _ => 0) (fun _ => 0) (fun _ => 0) (fun _ => 0) (fun _ => 0) (fun _ => 0) (fun _ => 0) (fun _ => 0) (fun _ => 0) (fun _ => 0) (fun _ => 0) (fun _ => 0) (fun _ => 0) (fun _ => 0) (fun _ => 0) (fun _ => 0) (fun _ => 0) (fun _ => 0) (by omega) (by omega) (by omega) (by omega) (by omega) (by omega) (by omega) (by intro j; (try dsimp only); omega) (by intro j; (try dsimp only); omega) (by intro j; (try dsimp only); omega) (by intro j; (try dsimp only); omega) (by intro j; (try dsimp only); omega) (by intro j; (try dsimp only); omega) (by intro j; (try dsimp only); omega) (by intro j; (try dsimp only); omega) (by intro j; (try dsimp only); omega) (by intro j; (try dsimp only); omega) (by intro j; (try dsimp only); omega) (by intro j; (try dsimp only); omega) (by intro j; (try dsimp only); omega) (by intro j; (try dsimp only); omega) (by intro j; (try dsimp only); omega) (by intro j; (try dsimp only); omega) (by intro j; (try dsimp only); omega) (by omega) (by omega) (by omega) (by omega) (by omega) (by omega) (by intro j; (try dsimp only); omega) (by intro j; (try dsimp only); omega) (by intro j; (try dsimp only); omega) (by intro j; (try dsimp only); omega) (by intro j; (try dsimp only); omega) (by intro j; (try dsimp only); omega) (by intro j; (try dsimp only); omega) (by intro j; (try dsimp only); omega) (by intro j; (try dsimp only); omega) (by intro j; (try dsimp only); omega) (by intro j; (try dsimp only); omega) (by intro j; (try dsimp only); omega) (by intro j; (try dsimp only); omega) (by intro j; (try dsimp only); omega) (by intro j; (try dsimp only); omega) (by intro j; (try dsimp only); omega) (by intro j; (try dsimp only); omega) (by intro j; (try dsimp only); omega) (by intro j; (try dsimp only); omega) (by intro j; (try dsimp only); omega) (by intro j; (try dsimp only); omega) (by intro j; (try dsimp only); omega) (by intro j; (try dsimp only); omega) z_cc0 z_ch0 HL4.N z_Mo.none ⟨fun k l h0 h1 h2 => absurd h2 (by omega), fun x y => ⟨fun ⟨k, h0, h1, _⟩ => absurd h1 (by omega), fun h => absurd h.1 (by omega)⟩⟩ rfl rfl rfl z_RR.none z_EX.start rfl zw_W.one (zs_lc.no (fun j _ => rfl)) rfl (by omega) (by omega)
