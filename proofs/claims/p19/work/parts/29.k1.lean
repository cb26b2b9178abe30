theorem z_yl_oth {ks : z_Ks} {Y Y' : Nat → Option va_E} {q c : Nat} {fs : List Value} (h : Y q = some (.inr (c, fs))) (hc : c ≠ 0 ∧ c ≠ 1 ∧ c ≠ 5 ∧ c ≠ 6) (hk : ∀ x y, Y x = some y → x ≠ q → Y' x = some y) : z_yl ks Y Y' := by
  obtain ⟨h0, h1, h5, h6⟩ := hc
  refine z_yl_keep (fun x => x = q) (fun x y hx hn => hk x y hx hn) ?_ ?_ ?_ ?_ ?_
  · rintro x c1 s n rfl hx
    have e := Option.some.inj (h.symm.trans hx)
    simp at e
    exact absurd e.1 h5
  · rintro x t n rfl hx
    have e := Option.some.inj (h.symm.trans hx)
    simp at e
    exact absurd e.1 h6
  · rintro x g rfl hx
    have e := Option.some.inj (h.symm.trans hx)
    simp at e
  · rintro x m f t k r g rfl hx
    have e := Option.some.inj (h.symm.trans hx)
    simp at e
    exact absurd e.1 h0
  · rintro x f s a b r rfl hx
    have e := Option.some.inj (h.symm.trans hx)
    simp at e
    exact absurd e.1 h1
set_option maxRecDepth 20000 in
theorem cm_X9_init (l : Launch) {D : va_G} {A : Nat → Prop} {ad : Nat → Nat} {ks : z_Ks} {N : Nat} {S : Nat → va_E} {Y : Nat → Option va_E} (q : Nat) (hY : Y q = some (z_ob 9 [.null])) : z_Met l yX9_init cX9_init 1 none 1 20 1 16 D A N ad ks [.ref q] S Y (fun r S' Y' => ∃ u1 : Nat, S = S' ∧ (∀ x y, Y x = some y → x ≠ q → Y' x = some y) ∧ Y' q = some (z_ob 9 [.ref u1]) ∧ Y' u1 = some (z_ar ks.1 16 (fun _ => 0)) ∧ (∀ x y, Y x = some y → x < u1) ∧ r = none) := by
  refine z_start2 (by decide) (Nat.le_of_ble_eq_true rfl) ?_
  intro p e R s m args below meth c Q C hRf hRc hRs hRl hQ hrt hnm
  refine z_loc (L' := [(0, .ref q)]) [0] rfl ?_
  refine z_aloadn C 0 dX9_init_0 rfl rfl ?_
  refine z_obj C mo_9_3 (by omega) (by rw [hRl]; exact Nat.le_of_ble_eq_true rfl) dX9_init_1 ?_
  refine z_aloadn C 0 dX9_init_4 rfl rfl ?_
  refine z_bipush C dX9_init_5 (by decide) ?_
  refine z_newI3 C (by omega) (by omega) (by omega) (by show _ + 16 ≤ _; omega) dX9_init_7 (fun q1 Y2 w3 hs4 hf5 => ?_)
  have y6 := hs4 _ _ hY
  have fst7 : ∀ x y, Y x = some y → x < q1 := fun x y h => by
    by_cases n : x = q
    · rw [n]; exact hf5 _ _ hY
    · exact hf5 x y ((fun x y h _ => h) x y h n)
  have kp8 : ∀ x y, Y x = some y → x ≠ q → Y2 x = some y := fun x y h n => hs4 x y ((fun x y h _ => h) x y h n)
  have l9 : z_yl ks Y Y2 := z_yl_sub hs4
  have le10 : z_yl ks Y Y2 := l9
  refine z_wide (k := 1) (n := 16) (Nat.le_refl _) (Nat.le_refl _) ?_
  refine z_put3 (fs' := [.ref q1]) C y6 rfl z_it9 tyX9 tyX9_ok nmX9 0 (by decide) rfl (Or.inr ⟨rfl, hnm, rfl⟩) fl_9_9 (tyX9_ok 0 (by decide)) rfl rfl (Nat.le_of_ble_eq_true rfl) dX9_init_9 rfl (fun Y11 y12 hk13 => ?_)
  have w14 := hk13 _ _ w3 (z_ne w3 y6 (fun z => by first | cases z | simp at z))
  have kp15 : ∀ x y, Y x = some y → x ≠ q → Y11 x = some y := fun x y h n => hk13 x y (kp8 x y h n) n
  have l16 : z_yl ks Y2 Y11 := z_yl_oth y6 (by decide) hk13
  have le17 : z_yl ks Y Y11 := le10.tr l16
  rw [hQ]
  exact z_vret C hrt dX9_init_12 (⟨q1, rfl, kp15, y12, w14, fst7, rfl⟩) (by omega) (by omega)
set_option maxRecDepth 20000 in
theorem cm_X4_init (l : Launch) {D : va_G} {A : Nat → Prop} {ad : Nat → Nat} {ks : z_Ks} {N : Nat} {S : Nat → va_E} {Y : Nat → Option va_E} (q : Nat) (hY : Y q = some (z_ob 4 [z_v 0, .null, .null])) : z_Met l yX4_init cX4_init 1 none 1 20 2 2760 D A N ad ks [.ref q] S Y (fun r S' Y' => ∃ u1 u2 : Nat, S = S' ∧ (∀ x y, Y x = some y → x ≠ q → Y' x = some y) ∧ Y' q = some (z_ob 4 [z_v 0, .ref u1, .ref u2]) ∧ Y' u1 = some (z_ar ks.1 840 (fun _ => 0)) ∧ Y' u2 = some (z_ar ks.1 1920 (fun _ => 0)) ∧ (∀ x y, Y x = some y → x < u1) ∧ u1 < u2 ∧ r = none) := by
  refine z_start2 (by decide) (Nat.le_of_ble_eq_true rfl) ?_
  intro p e R s m args below meth c Q C hRf hRc hRs hRl hQ hrt hnm
  refine z_loc (L' := [(0, .ref q)]) [0] rfl ?_
  refine z_aloadn C 0 dX4_init_0 rfl rfl ?_
  refine z_obj C mo_4_3 (by omega) (by rw [hRl]; exact Nat.le_of_ble_eq_true rfl) dX4_init_1 ?_
  refine z_aloadn C 0 dX4_init_4 rfl rfl ?_
  refine z_sipush C dX4_init_5 (by decide) ?_
  refine z_newI3 C (by omega) (by omega) (by omega) (by show _ + 840 ≤ _; omega) dX4_init_8 (fun q1 Y2 w3 hs4 hf5 => ?_)
  have y6 := hs4 _ _ hY
  have fst7 : ∀ x y, Y x = some y → x < q1 := fun x y h => by
    by_cases n : x = q
    · rw [n]; exact hf5 _ _ hY
    · exact hf5 x y ((fun x y h _ => h) x y h n)
  have kp8 : ∀ x y, Y x = some y → x ≠ q → Y2 x = some y := fun x y h n => hs4 x y ((fun x y h _ => h) x y h n)
  have l9 : z_yl ks Y Y2 := z_yl_sub hs4
  have le10 : z_yl ks Y Y2 := l9
  refine z_wide (k := 1) (n := 840) (Nat.le_refl _) (Nat.le_refl _) ?_
  refine z_put3 (fs' := [z_v 0, .ref q1, .null]) C y6 rfl z_it4 tyX4 tyX4_ok nmX4 1 (by decide) rfl (Or.inr ⟨rfl, hnm, rfl⟩) fl_4_9 (tyX4_ok 1 (by decide)) rfl rfl (Nat.le_of_ble_eq_true rfl) dX4_init_10 rfl (fun Y11 y12 hk13 => ?_)
  have w14 := hk13 _ _ w3 (z_ne w3 y6 (fun z => by first | cases z | simp at z))
  have kp15 : ∀ x y, Y x = some y → x ≠ q → Y11 x = some y := fun x y h n => hk13 x y (kp8 x y h n) n
  have l16 : z_yl ks Y2 Y11 := z_yl_oth y6 (by decide) hk13
  have le17 : z_yl ks Y Y11 := le10.tr l16
  refine z_aloadn C 0 dX4_init_13 rfl rfl ?_
  refine z_sipush C dX4_init_14 (by decide) ?_
  refine z_newI3 C (by omega) (by omega) (by omega) (by show _ + 1920 ≤ _; omega) dX4_init_17 (fun q18 Y19 w20 hs21 hf22 => ?_)
  have y23 := hs21 _ _ y12
  have w24 := hs21 _ _ w14
  have lt25 : q1 < q18 := hf22 _ _ w14
  have kp26 : ∀ x y, Y x = some y → x ≠ q → Y19 x = some y := fun x y h n => hs21 x y (kp15 x y h n)
  have l27 : z_yl ks Y11 Y19 := z_yl_sub hs21
  have le28 : z_yl ks Y Y19 := le17.tr l27
  refine z_wide (k := 2) (n := 2760) (Nat.le_refl _) (Nat.le_refl _) ?_
  refine z_put3 (fs' := [z_v 0, .ref q1, .ref q18]) C y23 rfl z_it4 tyX4 tyX4_ok nmX4 2 (by decide) rfl (Or.inr ⟨rfl, hnm, rfl⟩) fl_4_15 (tyX4_ok 2 (by decide)) rfl rfl (Nat.le_of_ble_eq_true rfl) dX4_init_19 rfl (fun Y29 y30 hk31 => ?_)
  have w32 := hk31 _ _ w24 (z_ne w24 y23 (fun z => by first | cases z | simp at z))
  have w33 := hk31 _ _ w20 (z_ne w20 y23 (fun z => by first | cases z | simp at z))
  have kp34 : ∀ x y, Y x = some y → x ≠ q → Y29 x = some y := fun x y h n => hk31 x y (kp26 x y h n) n
  have l35 : z_yl ks Y19 Y29 := z_yl_oth y23 (by decide) hk31
  have le36 : z_yl ks Y Y29 := le28.tr l35
  rw [hQ]
  exact z_vret C hrt dX4_init_22 (⟨q1, q18, rfl, kp34, y30, w32, w33, fst7, lt25, rfl⟩) (by omega) (by omega)
set_option maxRecDepth 20000 in
theorem cm_X3_init (l : Launch) {D : va_G} {A : Nat → Prop} {ad : Nat → Nat} {ks : z_Ks} {N : Nat} {S : Nat → va_E} {Y : Nat → Option va_E} (q : Nat) (hY : Y q = some (z_ob 3 [.null, z_v 0, z_v 0, .null, .null, .null])) : z_Met l yX3_init cX3_init 1 none 2 40 7 2791 D A N ad ks [.ref q] S Y (fun r S' Y' => ∃ u1 u2 u3 u4 u5 u6 u7 : Nat, S = S' ∧ (∀ x y, Y x = some y → x ≠ q → Y' x = some y) ∧ Y' q = some (z_ob 3 [.ref u1, z_v 1, z_v 0, .ref u4, .ref u5, .ref u7]) ∧ Y' u1 = some (z_ob 4 [z_v 0, .ref u2, .ref u3]) ∧ Y' u2 = some (z_ar ks.1 840 (fun _ => 0)) ∧ Y' u3 = some (z_ar ks.1 1920 (fun _ => 0)) ∧ Y' u4 = some (z_ar ks.1 7 (fun _ => 0)) ∧ Y' u5 = some (z_ob 9 [.ref u6]) ∧ Y' u6 = some (z_ar ks.1 16 (fun _ => 0)) ∧ Y' u7 = some (z_ar ks.1 4 (fun _ => 0)) ∧ (∀ x y, Y x = some y → x < u1) ∧ u1 < u2 ∧ u2 < u3 ∧ u3 < u4 ∧ u4 < u5 ∧ u5 < u6 ∧ u6 < u7 ∧ r = none) := by
  refine z_start2 (by decide) (Nat.le_of_ble_eq_true rfl) ?_
  intro p e R s m args below meth c Q C hRf hRc hRs hRl hQ hrt hnm
  refine z_loc (L' := [(0, .ref q)]) [0] rfl ?_
  refine z_aloadn C 0 dX3_init_0 rfl rfl ?_
  refine z_obj C mo_3_3 (by omega) (by rw [hRl]; exact Nat.le_of_ble_eq_true rfl) dX3_init_1 ?_
  refine z_aloadn C 0 dX3_init_4 rfl rfl ?_
  refine z_new3 (r := (RX4, TX4, 3)) (ci := 4) (fs := [z_v 0, .null, .null]) C rfl z_it4 tyX4 tyX4_ok nw_3_9 (fun j hj => match j, hj with | 0, _ => rfl | 1, _ => rfl | 2, _ => rfl | n + 3, h => absurd h (by show ¬ (n + 3 < 3); omega)) (by omega) (by show _ + 3 ≤ _; omega) dX3_init_5 (fun q1 Y2 y3 hs4 hf5 => ?_)
  have y6 := hs4 _ _ hY
  have fst7 : ∀ x y, Y x = some y → x < q1 := fun x y h => by
    by_cases n : x = q
    · rw [n]; exact hf5 _ _ hY
    · exact hf5 x y ((fun x y h _ => h) x y h n)
  have kp8 : ∀ x y, Y x = some y → x ≠ q → Y2 x = some y := fun x y h n => hs4 x y ((fun x y h _ => h) x y h n)
  have l9 : z_yl ks Y Y2 := z_yl_sub hs4
  have le10 : z_yl ks Y Y2 := l9
  refine z_wide (k := 1) (n := 3) (Nat.le_refl _) (Nat.le_refl _) ?_
  refine z_dup C dX3_init_8 rfl ?_
  refine z_callN C (cm_X4_init l q1 y3) C.2.2.2.2.2.2.1.2.2.2.1 mv_3_11 rfl pd_X4_init ⟨by omega, by omega⟩ ⟨by omega, by omega⟩ rfl (Nat.le_of_ble_eq_true rfl) dX3_init_9 ?_
  rintro _ _ Y11 ⟨v14, v15, rfl, hk12, y13, w16, w17, fs18, lt19, rfl⟩
  have y20 := hk12 _ _ y6 (z_ne y6 y3 (fun z => by first | cases z | simp at z))
  have kp21 : ∀ x y, Y x = some y → x ≠ q → Y11 x = some y := fun x y h n => hk12 x y (kp8 x y h n) (Nat.ne_of_lt (hf5 x y ((fun x y h _ => h) x y h n)))
  have l22 : z_yl ks Y2 Y11 := z_yl_oth y3 (by decide) hk12
  have le23 : z_yl ks Y Y11 := le10.tr l22
  have lt24 : q1 < v14 := fs18 _ _ y3
  refine z_wide (k := 3) (n := 2763) (Nat.le_refl _) (Nat.le_refl _) ?_
  refine z_put3 (fs' := [.ref q1, z_v 0, z_v 0, .null, .null, .null]) C y20 rfl z_it3 tyX3 tyX3_ok nmX3 0 (by decide) rfl (Or.inr ⟨rfl, hnm, rfl⟩) fl_3_12 (tyX3_ok 0 (by decide)) rfl rfl (Nat.le_of_ble_eq_true rfl) dX3_init_12 rfl (fun Y25 y26 hk27 => ?_)
  have y28 := hk27 _ _ y13 (z_ne y13 y20 (fun z => by first | cases z | simp at z))
  have w29 := hk27 _ _ w16 (z_ne w16 y20 (fun z => by first | cases z | simp at z))
  have w30 := hk27 _ _ w17 (z_ne w17 y20 (fun z => by first | cases z | simp at z))
  have kp31 : ∀ x y, Y x = some y → x ≠ q → Y25 x = some y := fun x y h n => hk27 x y (kp21 x y h n) n
  have l32 : z_yl ks Y11 Y25 := z_yl_oth y20 (by decide) hk27
  have le33 : z_yl ks Y Y25 := le23.tr l32
  refine z_aloadn C 0 dX3_init_15 rfl rfl ?_
  refine z_iconst C dX3_init_16 ?_
  refine z_put3 (fs' := [.ref q1, z_v 1, z_v 0, .null, .null, .null]) C y26 rfl z_it3 tyX3 tyX3_ok nmX3 1 (by decide) rfl (Or.inl rfl) fl_3_18 z_pfZ (z_nbZ (by omega)).1 (z_nbZ (by omega)).2 (Nat.le_of_ble_eq_true rfl) dX3_init_17 rfl (fun Y34 y35 hk36 => ?_)
  have y37 := hk36 _ _ y28 (z_ne y28 y26 (fun z => by first | cases z | simp at z))
  have w38 := hk36 _ _ w29 (z_ne w29 y26 (fun z => by first | cases z | simp at z))
  have w39 := hk36 _ _ w30 (z_ne w30 y26 (fun z => by first | cases z | simp at z))
  have kp40 : ∀ x y, Y x = some y → x ≠ q → Y34 x = some y := fun x y h n => hk36 x y (kp31 x y h n) n
  have l41 : z_yl ks Y25 Y34 := z_yl_oth y26 (by decide) hk36
  have le42 : z_yl ks Y Y34 := le33.tr l41
  refine z_aloadn C 0 dX3_init_20 rfl rfl ?_
  refine z_bipush C dX3_init_21 (by decide) ?_
  refine z_newI3 C (by omega) (by omega) (by omega) (by show _ + 7 ≤ _; omega) dX3_init_23 (fun q43 Y44 w45 hs46 hf47 => ?_)
  have y48 := hs46 _ _ y37
  have y49 := hs46 _ _ y35
  have w50 := hs46 _ _ w38
  have w51 := hs46 _ _ w39
  have lt52 : v15 < q43 := hf47 _ _ w39
  have kp53 : ∀ x y, Y x = some y → x ≠ q → Y44 x = some y := fun x y h n => hs46 x y (kp40 x y h n)
  have l54 : z_yl ks Y34 Y44 := z_yl_sub hs46
  have le55 : z_yl ks Y Y44 := le42.tr l54
  refine z_wide (k := 4) (n := 2770) (Nat.le_refl _) (Nat.le_refl _) ?_
  refine z_put3 (fs' := [.ref q1, z_v 1, z_v 0, .ref q43, .null, .null]) C y49 rfl z_it3 tyX3 tyX3_ok nmX3 3 (by decide) rfl (Or.inr ⟨rfl, hnm, rfl⟩) fl_3_22 (tyX3_ok 3 (by decide)) rfl rfl (Nat.le_of_ble_eq_true rfl) dX3_init_25 rfl (fun Y56 y57 hk58 => ?_)
  have y59 := hk58 _ _ y48 (z_ne y48 y49 (fun z => by first | cases z | simp at z))
  have w60 := hk58 _ _ w50 (z_ne w50 y49 (fun z => by first | cases z | simp at z))
  have w61 := hk58 _ _ w51 (z_ne w51 y49 (fun z => by first | cases z | simp at z))
  have w62 := hk58 _ _ w45 (z_ne w45 y49 (fun z => by first | cases z | simp at z))
  have kp63 : ∀ x y, Y x = some y → x ≠ q → Y56 x = some y := fun x y h n => hk58 x y (kp53 x y h n) n
  have l64 : z_yl ks Y44 Y56 := z_yl_oth y49 (by decide) hk58
  have le65 : z_yl ks Y Y56 := le55.tr l64
  refine z_aloadn C 0 dX3_init_28 rfl rfl ?_
  refine z_new3 (r := (RX9, TX9, 1)) (ci := 9) (fs := [.null]) C rfl z_it9 tyX9 tyX9_ok nw_3_26 (fun j hj => match j, hj with | 0, _ => rfl | n + 1, h => absurd h (by show ¬ (n + 1 < 1); omega)) (by omega) (by show _ + 1 ≤ _; omega) dX3_init_29 (fun q66 Y67 y68 hs69 hf70 => ?_)
  have y71 := hs69 _ _ y59
  have y72 := hs69 _ _ y57
  have w73 := hs69 _ _ w60
  have w74 := hs69 _ _ w61
  have w75 := hs69 _ _ w62
  have lt76 : q43 < q66 := hf70 _ _ w62
  have kp77 : ∀ x y, Y x = some y → x ≠ q → Y67 x = some y := fun x y h n => hs69 x y (kp63 x y h n)
  have l78 : z_yl ks Y56 Y67 := z_yl_sub hs69
  have le79 : z_yl ks Y Y67 := le65.tr l78
  refine z_wide (k := 5) (n := 2771) (Nat.le_refl _) (Nat.le_refl _) ?_
  refine z_dup C dX3_init_32 rfl ?_
  refine z_callN C (cm_X9_init l q66 y68) C.2.2.2.2.2.2.1.2.2.2.2.1 mv_3_28 rfl pd_X9_init ⟨by omega, by omega⟩ ⟨by omega, by omega⟩ rfl (Nat.le_of_ble_eq_true rfl) dX3_init_33 ?_
  rintro _ _ Y80 ⟨v83, rfl, hk81, y82, w84, fs85, rfl⟩
  have y86 := hk81 _ _ y71 (z_ne y71 y68 (fun z => by first | cases z | simp at z))
  have y87 := hk81 _ _ y72 (z_ne y72 y68 (fun z => by first | cases z | simp at z))
  have w88 := hk81 _ _ w73 (z_ne w73 y68 (fun z => by first | cases z | simp at z))
  have w89 := hk81 _ _ w74 (z_ne w74 y68 (fun z => by first | cases z | simp at z))
  have w90 := hk81 _ _ w75 (z_ne w75 y68 (fun z => by first | cases z | simp at z))
  have kp91 : ∀ x y, Y x = some y → x ≠ q → Y80 x = some y := fun x y h n => hk81 x y (kp77 x y h n) (Nat.ne_of_lt (hf70 x y (kp63 x y h n)))
  have l92 : z_yl ks Y67 Y80 := z_yl_oth y68 (by decide) hk81
  have le93 : z_yl ks Y Y80 := le79.tr l92
  have lt94 : q66 < v83 := fs85 _ _ y68
  refine z_wide (k := 6) (n := 2787) (Nat.le_refl _) (Nat.le_refl _) ?_
  refine z_put3 (fs' := [.ref q1, z_v 1, z_v 0, .ref q43, .ref q66, .null]) C y87 rfl z_it3 tyX3 tyX3_ok nmX3 4 (by decide) rfl (Or.inr ⟨rfl, hnm, rfl⟩) fl_3_29 (tyX3_ok 4 (by decide)) rfl rfl (Nat.le_of_ble_eq_true rfl) dX3_init_36 rfl (fun Y95 y96 hk97 => ?_)
  have y98 := hk97 _ _ y86 (z_ne y86 y87 (fun z => by first | cases z | simp at z))
  have y99 := hk97 _ _ y82 (z_ne y82 y87 (fun z => by first | cases z | simp at z))
  have w100 := hk97 _ _ w88 (z_ne w88 y87 (fun z => by first | cases z | simp at z))
  have w101 := hk97 _ _ w89 (z_ne w89 y87 (fun z => by first | cases z | simp at z))
  have w102 := hk97 _ _ w90 (z_ne w90 y87 (fun z => by first | cases z | simp at z))
  have w103 := hk97 _ _ w84 (z_ne w84 y87 (fun z => by first | cases z | simp at z))
  have kp104 : ∀ x y, Y x = some y → x ≠ q → Y95 x = some y := fun x y h n => hk97 x y (kp91 x y h n) n
  have l105 : z_yl ks Y80 Y95 := z_yl_oth y87 (by decide) hk97
  have le106 : z_yl ks Y Y95 := le93.tr l105
  refine z_aloadn C 0 dX3_init_39 rfl rfl ?_
  refine z_iconst C dX3_init_40 ?_
  refine z_newI3 C (by omega) (by omega) (by omega) (by show _ + 4 ≤ _; omega) dX3_init_41 (fun q107 Y108 w109 hs110 hf111 => ?_)
  have y112 := hs110 _ _ y98
  have y113 := hs110 _ _ y99
  have y114 := hs110 _ _ y96
  have w115 := hs110 _ _ w100
  have w116 := hs110 _ _ w101
  have w117 := hs110 _ _ w102
  have w118 := hs110 _ _ w103
  have lt119 : v83 < q107 := hf111 _ _ w103
  have kp120 : ∀ x y, Y x = some y → x ≠ q → Y108 x = some y := fun x y h n => hs110 x y (kp104 x y h n)
  have l121 : z_yl ks Y95 Y108 := z_yl_sub hs110
  have le122 : z_yl ks Y Y108 := le106.tr l121
  refine z_wide (k := 7) (n := 2791) (Nat.le_refl _) (Nat.le_refl _) ?_
  refine z_put3 (fs' := [.ref q1, z_v 1, z_v 0, .ref q43, .ref q66, .ref q107]) C y114 rfl z_it3 tyX3 tyX3_ok nmX3 5 (by decide) rfl (Or.inr ⟨rfl, hnm, rfl⟩) fl_3_33 (tyX3_ok 5 (by decide)) rfl rfl (Nat.le_of_ble_eq_true rfl) dX3_init_43 rfl (fun Y123 y124 hk125 => ?_)
  have y126 := hk125 _ _ y112 (z_ne y112 y114 (fun z => by first | cases z | simp at z))
  have y127 := hk125 _ _ y113 (z_ne y113 y114 (fun z => by first | cases z | simp at z))
  have w128 := hk125 _ _ w115 (z_ne w115 y114 (fun z => by first | cases z | simp at z))
  have w129 := hk125 _ _ w116 (z_ne w116 y114 (fun z => by first | cases z | simp at z))
  have w130 := hk125 _ _ w117 (z_ne w117 y114 (fun z => by first | cases z | simp at z))
  have w131 := hk125 _ _ w118 (z_ne w118 y114 (fun z => by first | cases z | simp at z))
  have w132 := hk125 _ _ w109 (z_ne w109 y114 (fun z => by first | cases z | simp at z))
  have kp133 : ∀ x y, Y x = some y → x ≠ q → Y123 x = some y := fun x y h n => hk125 x y (kp120 x y h n) n
  have l134 : z_yl ks Y108 Y123 := z_yl_oth y114 (by decide) hk125
  have le135 : z_yl ks Y Y123 := le122.tr l134
  rw [hQ]
  exact z_vret C hrt dX3_init_46 (⟨q1, v14, v15, q43, q66, v83, q107, rfl, kp133, y124, y126, w128, w129, w130, y127, w131, w132, fst7, lt24, lt19, lt52, lt76, lt94, lt119, rfl⟩) (by omega) (by omega)
set_option maxRecDepth 20000 in
theorem cm_X8_init (l : Launch) {D : va_G} {A : Nat → Prop} {ad : Nat → Nat} {ks : z_Ks} {N : Nat} {S : Nat → va_E} {Y : Nat → Option va_E} (q : Nat) (hY : Y q = some (z_ob 8 [z_v 0, .null, .null, z_v 0, z_v 0, .null, .null])) : z_Met l yX8_init cX8_init 1 none 1 20 4 14 D A N ad ks [.ref q] S Y (fun r S' Y' => ∃ u1 u2 u3 u4 : Nat, S = S' ∧ (∀ x y, Y x = some y → x ≠ q → Y' x = some y) ∧ Y' q = some (z_ob 8 [z_v 0, .ref u1, .ref u2, z_v 0, z_v 0, .ref u3, .ref u4]) ∧ Y' u1 = some (z_ar ks.1 3 (fun _ => 0)) ∧ Y' u2 = some (z_ar ks.1 4 (fun _ => 0)) ∧ Y' u3 = some (z_ar ks.1 3 (fun _ => 0)) ∧ Y' u4 = some (z_ar ks.1 4 (fun _ => 0)) ∧ (∀ x y, Y x = some y → x < u1) ∧ u1 < u2 ∧ u2 < u3 ∧ u3 < u4 ∧ r = none) := by
  refine z_start2 (by decide) (Nat.le_of_ble_eq_true rfl) ?_
  intro p e R s m args below meth c Q C hRf hRc hRs hRl hQ hrt hnm
  refine z_loc (L' := [(0, .ref q)]) [0] rfl ?_
  refine z_aloadn C 0 dX8_init_0 rfl rfl ?_
  refine z_obj C mo_8_3 (by omega) (by rw [hRl]; exact Nat.le_of_ble_eq_true rfl) dX8_init_1 ?_
  refine z_aloadn C 0 dX8_init_4 rfl rfl ?_
  refine z_iconst C dX8_init_5 ?_
  refine z_newI3 C (by omega) (by omega) (by omega) (by show _ + 3 ≤ _; omega) dX8_init_6 (fun q1 Y2 w3 hs4 hf5 => ?_)
  have y6 := hs4 _ _ hY
  have fst7 : ∀ x y, Y x = some y → x < q1 := fun x y h => by
    by_cases n : x = q
    · rw [n]; exact hf5 _ _ hY
    · exact hf5 x y ((fun x y h _ => h) x y h n)
  have kp8 : ∀ x y, Y x = some y → x ≠ q → Y2 x = some y := fun x y h n => hs4 x y ((fun x y h _ => h) x y h n)
  have l9 : z_yl ks Y Y2 := z_yl_sub hs4
  have le10 : z_yl ks Y Y2 := l9
  refine z_wide (k := 1) (n := 3) (Nat.le_refl _) (Nat.le_refl _) ?_
  refine z_put3 (fs' := [z_v 0, .ref q1, .null, z_v 0, z_v 0, .null, .null]) C y6 rfl z_it8 tyX8 tyX8_ok nmX8 1 (by decide) rfl (Or.inr ⟨rfl, hnm, rfl⟩) fl_8_9 (tyX8_ok 1 (by decide)) rfl rfl (Nat.le_of_ble_eq_true rfl) dX8_init_8 rfl (fun Y11 y12 hk13 => ?_)
  have w14 := hk13 _ _ w3 (z_ne w3 y6 (fun z => by first | cases z | simp at z))
  have kp15 : ∀ x y, Y x = some y → x ≠ q → Y11 x = some y := fun x y h n => hk13 x y (kp8 x y h n) n
  have l16 : z_yl ks Y2 Y11 := z_yl_oth y6 (by decide) hk13
  have le17 : z_yl ks Y Y11 := le10.tr l16
  refine z_aloadn C 0 dX8_init_11 rfl rfl ?_
  refine z_iconst C dX8_init_12 ?_
  refine z_newI3 C (by omega) (by omega) (by omega) (by show _ + 4 ≤ _; omega) dX8_init_13 (fun q18 Y19 w20 hs21 hf22 => ?_)
  have y23 := hs21 _ _ y12
  have w24 := hs21 _ _ w14
  have lt25 : q1 < q18 := hf22 _ _ w14
  have kp26 : ∀ x y, Y x = some y → x ≠ q → Y19 x = some y := fun x y h n => hs21 x y (kp15 x y h n)
  have l27 : z_yl ks Y11 Y19 := z_yl_sub hs21
  have le28 : z_yl ks Y Y19 := le17.tr l27
  refine z_wide (k := 2) (n := 7) (Nat.le_refl _) (Nat.le_refl _) ?_
  refine z_put3 (fs' := [z_v 0, .ref q1, .ref q18, z_v 0, z_v 0, .null, .null]) C y23 rfl z_it8 tyX8 tyX8_ok nmX8 2 (by decide) rfl (Or.inr ⟨rfl, hnm, rfl⟩) fl_8_15 (tyX8_ok 2 (by decide)) rfl rfl (Nat.le_of_ble_eq_true rfl) dX8_init_15 rfl (fun Y29 y30 hk31 => ?_)
  have w32 := hk31 _ _ w24 (z_ne w24 y23 (fun z => by first | cases z | simp at z))
  have w33 := hk31 _ _ w20 (z_ne w20 y23 (fun z => by first | cases z | simp at z))
  have kp34 : ∀ x y, Y x = some y → x ≠ q → Y29 x = some y := fun x y h n => hk31 x y (kp26 x y h n) n
  have l35 : z_yl ks Y19 Y29 := z_yl_oth y23 (by decide) hk31
  have le36 : z_yl ks Y Y29 := le28.tr l35
  refine z_aloadn C 0 dX8_init_18 rfl rfl ?_
  refine z_iconst C dX8_init_19 ?_
  refine z_newI3 C (by omega) (by omega) (by omega) (by show _ + 3 ≤ _; omega) dX8_init_20 (fun q37 Y38 w39 hs40 hf41 => ?_)
  have y42 := hs40 _ _ y30
  have w43 := hs40 _ _ w32
  have w44 := hs40 _ _ w33
  have lt45 : q18 < q37 := hf41 _ _ w33
  have kp46 : ∀ x y, Y x = some y → x ≠ q → Y38 x = some y := fun x y h n => hs40 x y (kp34 x y h n)
  have l47 : z_yl ks Y29 Y38 := z_yl_sub hs40
  have le48 : z_yl ks Y Y38 := le36.tr l47
  refine z_wide (k := 3) (n := 10) (Nat.le_refl _) (Nat.le_refl _) ?_
  refine z_put3 (fs' := [z_v 0, .ref q1, .ref q18, z_v 0, z_v 0, .ref q37, .null]) C y42 rfl z_it8 tyX8 tyX8_ok nmX8 5 (by decide) rfl (Or.inr ⟨rfl, hnm, rfl⟩) fl_8_18 (tyX8_ok 5 (by decide)) rfl rfl (Nat.le_of_ble_eq_true rfl) dX8_init_22 rfl (fun Y49 y50 hk51 => ?_)
  have w52 := hk51 _ _ w43 (z_ne w43 y42 (fun z => by first | cases z | simp at z))
  have w53 := hk51 _ _ w44 (z_ne w44 y42 (fun z => by first | cases z | simp at z))
  have w54 := hk51 _ _ w39 (z_ne w39 y42 (fun z => by first | cases z | simp at z))
  have kp55 : ∀ x y, Y x = some y → x ≠ q → Y49 x = some y := fun x y h n => hk51 x y (kp46 x y h n) n
  have l56 : z_yl ks Y38 Y49 := z_yl_oth y42 (by decide) hk51
  have le57 : z_yl ks Y Y49 := le48.tr l56
  refine z_aloadn C 0 dX8_init_25 rfl rfl ?_
  refine z_iconst C dX8_init_26 ?_
  refine z_newI3 C (by omega) (by omega) (by omega) (by show _ + 4 ≤ _; omega) dX8_init_27 (fun q58 Y59 w60 hs61 hf62 => ?_)
  have y63 := hs61 _ _ y50
  have w64 := hs61 _ _ w52
  have w65 := hs61 _ _ w53
  have w66 := hs61 _ _ w54
  have lt67 : q37 < q58 := hf62 _ _ w54
  have kp68 : ∀ x y, Y x = some y → x ≠ q → Y59 x = some y := fun x y h n => hs61 x y (kp55 x y h n)
  have l69 : z_yl ks Y49 Y59 := z_yl_sub hs61
  have le70 : z_yl ks Y Y59 := le57.tr l69
  refine z_wide (k := 4) (n := 14) (Nat.le_refl _) (Nat.le_refl _) ?_
  refine z_put3 (fs' := [z_v 0, .ref q1, .ref q18, z_v 0, z_v 0, .ref q37, .ref q58]) C y63 rfl z_it8 tyX8 tyX8_ok nmX8 6 (by decide) rfl (Or.inr ⟨rfl, hnm, rfl⟩) fl_8_21 (tyX8_ok 6 (by decide)) rfl rfl (Nat.le_of_ble_eq_true rfl) dX8_init_29 rfl (fun Y71 y72 hk73 => ?_)
  have w74 := hk73 _ _ w64 (z_ne w64 y63 (fun z => by first | cases z | simp at z))
  have w75 := hk73 _ _ w65 (z_ne w65 y63 (fun z => by first | cases z | simp at z))
  have w76 := hk73 _ _ w66 (z_ne w66 y63 (fun z => by first | cases z | simp at z))
  have w77 := hk73 _ _ w60 (z_ne w60 y63 (fun z => by first | cases z | simp at z))
  have kp78 : ∀ x y, Y x = some y → x ≠ q → Y71 x = some y := fun x y h n => hk73 x y (kp68 x y h n) n
  have l79 : z_yl ks Y59 Y71 := z_yl_oth y63 (by decide) hk73
  have le80 : z_yl ks Y Y71 := le70.tr l79
  rw [hQ]
  exact z_vret C hrt dX8_init_32 (⟨q1, q18, q37, q58, rfl, kp78, y72, w74, w75, w76, w77, fst7, lt25, lt45, lt67, rfl⟩) (by omega) (by omega)
set_option maxRecDepth 20000 in
theorem cm_X7_init (l : Launch) {D : va_G} {A : Nat → Prop} {ad : Nat → Nat} {ks : z_Ks} {N : Nat} {S : Nat → va_E} {Y : Nat → Option va_E} (q : Nat) (hY : Y q = some (z_ob 7 [.null, .null, .null, .null, .null, .null, z_v 0])) : z_Met l yX7_init cX7_init 1 none 1 20 6 1931 D A N ad ks [.ref q] S Y (fun r S' Y' => ∃ u1 u2 u3 u4 u5 u6 : Nat, S = S' ∧ (∀ x y, Y x = some y → x ≠ q → Y' x = some y) ∧ Y' q = some (z_ob 7 [.ref u1, .ref u2, .ref u3, .ref u4, .ref u5, .ref u6, z_v 0]) ∧ Y' u1 = some (z_ar ks.1 41 (fun _ => 0)) ∧ Y' u2 = some (z_ar ks.1 41 (fun _ => 0)) ∧ Y' u3 = some (z_ar ks.1 4 (fun _ => 0)) ∧ Y' u4 = some (z_ar ks.1 615 (fun _ => 0)) ∧ Y' u5 = some (z_ar ks.1 615 (fun _ => 0)) ∧ Y' u6 = some (z_ar ks.1 615 (fun _ => 0)) ∧ (∀ x y, Y x = some y → x < u1) ∧ u1 < u2 ∧ u2 < u3 ∧ u3 < u4 ∧ u4 < u5 ∧ u5 < u6 ∧ r = none) := by
  refine z_start2 (by decide) (Nat.le_of_ble_eq_true rfl) ?_
  intro p e R s m args below meth c Q C hRf hRc hRs hRl hQ hrt hnm
  refine z_loc (L' := [(0, .ref q)]) [0] rfl ?_
  refine z_aloadn C 0 dX7_init_0 rfl rfl ?_
  refine z_obj C mo_7_3 (by omega) (by rw [hRl]; exact Nat.le_of_ble_eq_true rfl) dX7_init_1 ?_
  refine z_aloadn C 0 dX7_init_4 rfl rfl ?_
  refine z_bipush C dX7_init_5 (by decide) ?_
  refine z_newI3 C (by omega) (by omega) (by omega) (by show _ + 41 ≤ _; omega) dX7_init_7 (fun q1 Y2 w3 hs4 hf5 => ?_)
  have y6 := hs4 _ _ hY
  have fst7 : ∀ x y, Y x = some y → x < q1 := fun x y h => by
    by_cases n : x = q
    · rw [n]; exact hf5 _ _ hY
    · exact hf5 x y ((fun x y h _ => h) x y h n)
  have kp8 : ∀ x y, Y x = some y → x ≠ q → Y2 x = some y := fun x y h n => hs4 x y ((fun x y h _ => h) x y h n)
  have l9 : z_yl ks Y Y2 := z_yl_sub hs4
  have le10 : z_yl ks Y Y2 := l9
  refine z_wide (k := 1) (n := 41) (Nat.le_refl _) (Nat.le_refl _) ?_
  refine z_put3 (fs' := [.ref q1, .null, .null, .null, .null, .null, z_v 0]) C y6 rfl z_it7 tyX7 tyX7_ok nmX7 0 (by decide) rfl (Or.inr ⟨rfl, hnm, rfl⟩) fl_7_9 (tyX7_ok 0 (by decide)) rfl rfl (Nat.le_of_ble_eq_true rfl) dX7_init_9 rfl (fun Y11 y12 hk13 => ?_)
  have w14 := hk13 _ _ w3 (z_ne w3 y6 (fun z => by first | cases z | simp at z))
  have kp15 : ∀ x y, Y x = some y → x ≠ q → Y11 x = some y := fun x y h n => hk13 x y (kp8 x y h n) n
  have l16 : z_yl ks Y2 Y11 := z_yl_oth y6 (by decide) hk13
  have le17 : z_yl ks Y Y11 := le10.tr l16
  refine z_aloadn C 0 dX7_init_12 rfl rfl ?_
  refine z_bipush C dX7_init_13 (by decide) ?_
  refine z_newI3 C (by omega) (by omega) (by omega) (by show _ + 41 ≤ _; omega) dX7_init_15 (fun q18 Y19 w20 hs21 hf22 => ?_)
  have y23 := hs21 _ _ y12
  have w24 := hs21 _ _ w14
  have lt25 : q1 < q18 := hf22 _ _ w14
  have kp26 : ∀ x y, Y x = some y → x ≠ q → Y19 x = some y := fun x y h n => hs21 x y (kp15 x y h n)
  have l27 : z_yl ks Y11 Y19 := z_yl_sub hs21
  have le28 : z_yl ks Y Y19 := le17.tr l27
  refine z_wide (k := 2) (n := 82) (Nat.le_refl _) (Nat.le_refl _) ?_
  refine z_put3 (fs' := [.ref q1, .ref q18, .null, .null, .null, .null, z_v 0]) C y23 rfl z_it7 tyX7 tyX7_ok nmX7 1 (by decide) rfl (Or.inr ⟨rfl, hnm, rfl⟩) fl_7_15 (tyX7_ok 1 (by decide)) rfl rfl (Nat.le_of_ble_eq_true rfl) dX7_init_17 rfl (fun Y29 y30 hk31 => ?_)
  have w32 := hk31 _ _ w24 (z_ne w24 y23 (fun z => by first | cases z | simp at z))
  have w33 := hk31 _ _ w20 (z_ne w20 y23 (fun z => by first | cases z | simp at z))
  have kp34 : ∀ x y, Y x = some y → x ≠ q → Y29 x = some y := fun x y h n => hk31 x y (kp26 x y h n) n
  have l35 : z_yl ks Y19 Y29 := z_yl_oth y23 (by decide) hk31
  have le36 : z_yl ks Y Y29 := le28.tr l35
  refine z_aloadn C 0 dX7_init_20 rfl rfl ?_
  refine z_iconst C dX7_init_21 ?_
  refine z_newI3 C (by omega) (by omega) (by omega) (by show _ + 4 ≤ _; omega) dX7_init_22 (fun q37 Y38 w39 hs40 hf41 => ?_)
  have y42 := hs40 _ _ y30
  have w43 := hs40 _ _ w32
  have w44 := hs40 _ _ w33
  have lt45 : q18 < q37 := hf41 _ _ w33
  have kp46 : ∀ x y, Y x = some y → x ≠ q → Y38 x = some y := fun x y h n => hs40 x y (kp34 x y h n)
  have l47 : z_yl ks Y29 Y38 := z_yl_sub hs40
  have le48 : z_yl ks Y Y38 := le36.tr l47
  refine z_wide (k := 3) (n := 86) (Nat.le_refl _) (Nat.le_refl _) ?_
  refine z_put3 (fs' := [.ref q1, .ref q18, .ref q37, .null, .null, .null, z_v 0]) C y42 rfl z_it7 tyX7 tyX7_ok nmX7 2 (by decide) rfl (Or.inr ⟨rfl, hnm, rfl⟩) fl_7_18 (tyX7_ok 2 (by decide)) rfl rfl (Nat.le_of_ble_eq_true rfl) dX7_init_24 rfl (fun Y49 y50 hk51 => ?_)
  have w52 := hk51 _ _ w43 (z_ne w43 y42 (fun z => by first | cases z | simp at z))
  have w53 := hk51 _ _ w44 (z_ne w44 y42 (fun z => by first | cases z | simp at z))
  have w54 := hk51 _ _ w39 (z_ne w39 y42 (fun z => by first | cases z | simp at z))
  have kp55 : ∀ x y, Y x = some y → x ≠ q → Y49 x = some y := fun x y h n => hk51 x y (kp46 x y h n) n
  have l56 : z_yl ks Y38 Y49 := z_yl_oth y42 (by decide) hk51
  have le57 : z_yl ks Y Y49 := le48.tr l56
  refine z_aloadn C 0 dX7_init_27 rfl rfl ?_
  refine z_sipush C dX7_init_28 (by decide) ?_
  refine z_newI3 C (by omega) (by omega) (by omega) (by show _ + 615 ≤ _; omega) dX7_init_31 (fun q58 Y59 w60 hs61 hf62 => ?_)
  have y63 := hs61 _ _ y50
  have w64 := hs61 _ _ w52
  have w65 := hs61 _ _ w53
  have w66 := hs61 _ _ w54
  have lt67 : q37 < q58 := hf62 _ _ w54
  have kp68 : ∀ x y, Y x = some y → x ≠ q → Y59 x = some y := fun x y h n => hs61 x y (kp55 x y h n)
  have l69 : z_yl ks Y49 Y59 := z_yl_sub hs61
  have le70 : z_yl ks Y Y59 := le57.tr l69
  refine z_wide (k := 4) (n := 701) (Nat.le_refl _) (Nat.le_refl _) ?_
  refine z_put3 (fs' := [.ref q1, .ref q18, .ref q37, .ref q58, .null, .null, z_v 0]) C y63 rfl z_it7 tyX7 tyX7_ok nmX7 3 (by decide) rfl (Or.inr ⟨rfl, hnm, rfl⟩) fl_7_21 (tyX7_ok 3 (by decide)) rfl rfl (Nat.le_of_ble_eq_true rfl) dX7_init_33 rfl (fun Y71 y72 hk73 => ?_)
  have w74 := hk73 _ _ w64 (z_ne w64 y63 (fun z => by first | cases z | simp at z))
  have w75 := hk73 _ _ w65 (z_ne w65 y63 (fun z => by first | cases z | simp at z))
  have w76 := hk73 _ _ w66 (z_ne w66 y63 (fun z => by first | cases z | simp at z))
  have w77 := hk73 _ _ w60 (z_ne w60 y63 (fun z => by first | cases z | simp at z))
  have kp78 : ∀ x y, Y x = some y → x ≠ q → Y71 x = some y := fun x y h n => hk73 x y (kp68 x y h n) n
  have l79 : z_yl ks Y59 Y71 := z_yl_oth y63 (by decide) hk73
  have le80 : z_yl ks Y Y71 := le70.tr l79
  refine z_aloadn C 0 dX7_init_36 rfl rfl ?_
  refine z_sipush C dX7_init_37 (by decide) ?_
  refine z_newI3 C (by omega) (by omega) (by omega) (by show _ + 615 ≤ _; omega) dX7_init_40 (fun q81 Y82 w83 hs84 hf85 => ?_)
  have y86 := hs84 _ _ y72
  have w87 := hs84 _ _ w74
  have w88 := hs84 _ _ w75
  have w89 := hs84 _ _ w76
  have w90 := hs84 _ _ w77
  have lt91 : q58 < q81 := hf85 _ _ w77
  have kp92 : ∀ x y, Y x = some y → x ≠ q → Y82 x = some y := fun x y h n => hs84 x y (kp78 x y h n)
  have l93 : z_yl ks Y71 Y82 := z_yl_sub hs84
  have le94 : z_yl ks Y Y82 := le80.tr l93
  refine z_wide (k := 5) (n := 1316) (Nat.le_refl _) (Nat.le_refl _) ?_
  refine z_put3 (fs' := [.ref q1, .ref q18, .ref q37, .ref q58, .ref q81, .null, z_v 0]) C y86 rfl z_it7 tyX7 tyX7_ok nmX7 4 (by decide) rfl (Or.inr ⟨rfl, hnm, rfl⟩) fl_7_24 (tyX7_ok 4 (by decide)) rfl rfl (Nat.le_of_ble_eq_true rfl) dX7_init_42 rfl (fun Y95 y96 hk97 => ?_)
  have w98 := hk97 _ _ w87 (z_ne w87 y86 (fun z => by first | cases z | simp at z))
  have w99 := hk97 _ _ w88 (z_ne w88 y86 (fun z => by first | cases z | simp at z))
  have w100 := hk97 _ _ w89 (z_ne w89 y86 (fun z => by first | cases z | simp at z))
  have w101 := hk97 _ _ w90 (z_ne w90 y86 (fun z => by first | cases z | simp at z))
  have w102 := hk97 _ _ w83 (z_ne w83 y86 (fun z => by first | cases z | simp at z))
  have kp103 : ∀ x y, Y x = some y → x ≠ q → Y95 x = some y := fun x y h n => hk97 x y (kp92 x y h n) n
  have l104 : z_yl ks Y82 Y95 := z_yl_oth y86 (by decide) hk97
  have le105 : z_yl ks Y Y95 := le94.tr l104
  refine z_aloadn C 0 dX7_init_45 rfl rfl ?_
  refine z_sipush C dX7_init_46 (by decide) ?_
  refine z_newI3 C (by omega) (by omega) (by omega) (by show _ + 615 ≤ _; omega) dX7_init_49 (fun q106 Y107 w108 hs109 hf110 => ?_)
  have y111 := hs109 _ _ y96
  have w112 := hs109 _ _ w98
  have w113 := hs109 _ _ w99
  have w114 := hs109 _ _ w100
  have w115 := hs109 _ _ w101
  have w116 := hs109 _ _ w102
  have lt117 : q81 < q106 := hf110 _ _ w102
  have kp118 : ∀ x y, Y x = some y → x ≠ q → Y107 x = some y := fun x y h n => hs109 x y (kp103 x y h n)
  have l119 : z_yl ks Y95 Y107 := z_yl_sub hs109
  have le120 : z_yl ks Y Y107 := le105.tr l119
  refine z_wide (k := 6) (n := 1931) (Nat.le_refl _) (Nat.le_refl _) ?_
  refine z_put3 (fs' := [.ref q1, .ref q18, .ref q37, .ref q58, .ref q81, .ref q106, z_v 0]) C y111 rfl z_it7 tyX7 tyX7_ok nmX7 5 (by decide) rfl (Or.inr ⟨rfl, hnm, rfl⟩) fl_7_27 (tyX7_ok 5 (by decide)) rfl rfl (Nat.le_of_ble_eq_true rfl) dX7_init_51 rfl (fun Y121 y122 hk123 => ?_)
  have w124 := hk123 _ _ w112 (z_ne w112 y111 (fun z => by first | cases z | simp at z))
  have w125 := hk123 _ _ w113 (z_ne w113 y111 (fun z => by first | cases z | simp at z))
  have w126 := hk123 _ _ w114 (z_ne w114 y111 (fun z => by first | cases z | simp at z))
  have w127 := hk123 _ _ w115 (z_ne w115 y111 (fun z => by first | cases z | simp at z))
  have w128 := hk123 _ _ w116 (z_ne w116 y111 (fun z => by first | cases z | simp at z))
  have w129 := hk123 _ _ w108 (z_ne w108 y111 (fun z => by first | cases z | simp at z))
  have kp130 : ∀ x y, Y x = some y → x ≠ q → Y121 x = some y := fun x y h n => hk123 x y (kp118 x y h n) n
  have l131 : z_yl ks Y107 Y121 := z_yl_oth y111 (by decide) hk123
  have le132 : z_yl ks Y Y121 := le120.tr l131
  rw [hQ]
  exact z_vret C hrt dX7_init_54 (⟨q1, q18, q37, q58, q81, q106, rfl, kp130, y122, w124, w125, w126, w127, w128, w129, fst7, lt25, lt45, lt67, lt91, lt117, rfl⟩) (by omega) (by omega)
set_option maxRecDepth 20000 in
theorem cm_X11_init (l : Launch) {D : va_G} {A : Nat → Prop} {ad : Nat → Nat} {ks : z_Ks} {N : Nat} {S : Nat → va_E} {Y : Nat → Option va_E} (q : Nat) (hY : Y q = some (z_ob 11 [z_v 0, .null, .null, .null, .null, .null, .null, .null, .null, .null, z_v 0, z_v 0, z_v 0, .null, .null, .null, .null, .null, .null, .null, .null, .null, .null, .null, .null, z_v 0, z_v 0, .null, .null, z_v 0, z_v 0, .long 0])) : z_Met l yX11_init cX11_init 1 none 1 20 23 3256 D A N ad ks [.ref q] S Y (fun r S' Y' => ∃ u1 u2 u3 u4 u5 u6 u7 u8 u9 u10 u11 u12 u13 u14 u15 u16 u17 u18 u19 u20 u21 u22 u23 : Nat, S = S' ∧ (∀ x y, Y x = some y → x ≠ q → Y' x = some y) ∧ Y' q = some (z_ob 11 [z_v 0, .ref u1, .ref u2, .ref u3, .ref u4, .ref u5, .ref u6, .ref u7, .ref u8, .ref u9, z_v 1, z_v 0, z_v 0, .ref u10, .ref u11, .ref u12, .ref u13, .ref u14, .ref u15, .ref u16, .ref u17, .ref u18, .ref u19, .ref u20, .ref u21, z_v 0, z_v 0, .ref u22, .ref u23, z_v 0, z_v 0, .long 0]) ∧ Y' u1 = some (z_ar ks.1 20 (fun _ => 0)) ∧ Y' u2 = some (z_ar ks.1 20 (fun _ => 0)) ∧ Y' u3 = some (z_ar ks.1 20 (fun _ => 0)) ∧ Y' u4 = some (z_ar ks.1 20 (fun _ => 0)) ∧ Y' u5 = some (z_ar ks.1 20 (fun _ => 0)) ∧ Y' u6 = some (z_ar ks.1 20 (fun _ => 0)) ∧ Y' u7 = some (z_ar ks.1 120 (fun _ => 0)) ∧ Y' u8 = some (z_ar ks.1 18 (fun _ => 0)) ∧ Y' u9 = some (z_ar ks.1 108 (fun _ => 0)) ∧ Y' u10 = some (z_ar ks.1 360 (fun _ => 0)) ∧ Y' u11 = some (z_ar ks.1 1920 (fun _ => 0)) ∧ Y' u12 = some (z_ar ks.1 120 (fun _ => 0)) ∧ Y' u13 = some (z_ar ks.1 120 (fun _ => 0)) ∧ Y' u14 = some (z_ar ks.1 120 (fun _ => 0)) ∧ Y' u15 = some (z_ar ks.1 120 (fun _ => 0)) ∧ Y' u16 = some (z_ar ks.1 16 (fun _ => 0)) ∧ Y' u17 = some (z_ar ks.1 16 (fun _ => 0)) ∧ Y' u18 = some (z_ar ks.1 3 (fun _ => 0)) ∧ Y' u19 = some (z_ar ks.1 4 (fun _ => 0)) ∧ Y' u20 = some (z_ar ks.1 42 (fun _ => 0)) ∧ Y' u21 = some (z_ar ks.1 42 (fun _ => 0)) ∧ Y' u22 = some (z_ar ks.1 3 (fun _ => 0)) ∧ Y' u23 = some (z_ar ks.1 4 (fun _ => 0)) ∧ (∀ x y, Y x = some y → x < u1) ∧ u1 < u2 ∧ u2 < u3 ∧ u3 < u4 ∧ u4 < u5 ∧ u5 < u6 ∧ u6 < u7 ∧ u7 < u8 ∧ u8 < u9 ∧ u9 < u10 ∧ u10 < u11 ∧ u11 < u12 ∧ u12 < u13 ∧ u13 < u14 ∧ u14 < u15 ∧ u15 < u16 ∧ u16 < u17 ∧ u17 < u18 ∧ u18 < u19 ∧ u19 < u20 ∧ u20 < u21 ∧ u21 < u22 ∧ u22 < u23 ∧ r = none) := by
  refine z_start2 (by decide) (Nat.le_of_ble_eq_true rfl) ?_
  intro p e R s m args below meth c Q C hRf hRc hRs hRl hQ hrt hnm
  refine z_loc (L' := [(0, .ref q)]) [0] rfl ?_
  refine z_aloadn C 0 dX11_init_0 rfl rfl ?_
  refine z_obj C mo_11_1 (by omega) (by rw [hRl]; exact Nat.le_of_ble_eq_true rfl) dX11_init_1 ?_
  refine z_aloadn C 0 dX11_init_4 rfl rfl ?_
  refine z_bipush C dX11_init_5 (by decide) ?_
  refine z_newI3 C (by omega) (by omega) (by omega) (by show _ + 20 ≤ _; omega) dX11_init_7 (fun q1 Y2 w3 hs4 hf5 => ?_)
  have y6 := hs4 _ _ hY
  have fst7 : ∀ x y, Y x = some y → x < q1 := fun x y h => by
    by_cases n : x = q
    · rw [n]; exact hf5 _ _ hY
    · exact hf5 x y ((fun x y h _ => h) x y h n)
  have kp8 : ∀ x y, Y x = some y → x ≠ q → Y2 x = some y := fun x y h n => hs4 x y ((fun x y h _ => h) x y h n)
  have l9 : z_yl ks Y Y2 := z_yl_sub hs4
  have le10 : z_yl ks Y Y2 := l9
  refine z_wide (k := 1) (n := 20) (Nat.le_refl _) (Nat.le_refl _) ?_
  refine z_put3 (fs' := [z_v 0, .ref q1, .null, .null, .null, .null, .null, .null, .null, .null, z_v 0, z_v 0, z_v 0, .null, .null, .null, .null, .null, .null, .null, .null, .null, .null, .null, .null, z_v 0, z_v 0, .null, .null, z_v 0, z_v 0, .long 0]) C y6 rfl z_it11 tyX11 tyX11_ok nmX11 1 (by decide) rfl (Or.inr ⟨rfl, hnm, rfl⟩) fl_11_7 (tyX11_ok 1 (by decide)) rfl rfl (Nat.le_of_ble_eq_true rfl) dX11_init_9 rfl (fun Y11 y12 hk13 => ?_)
  have w14 := hk13 _ _ w3 (z_ne w3 y6 (fun z => by first | cases z | simp at z))
  have kp15 : ∀ x y, Y x = some y → x ≠ q → Y11 x = some y := fun x y h n => hk13 x y (kp8 x y h n) n
  have l16 : z_yl ks Y2 Y11 := z_yl_oth y6 (by decide) hk13
  have le17 : z_yl ks Y Y11 := le10.tr l16
  refine z_aloadn C 0 dX11_init_12 rfl rfl ?_
  refine z_bipush C dX11_init_13 (by decide) ?_
  refine z_newI3 C (by omega) (by omega) (by omega) (by show _ + 20 ≤ _; omega) dX11_init_15 (fun q18 Y19 w20 hs21 hf22 => ?_)
  have y23 := hs21 _ _ y12
  have w24 := hs21 _ _ w14
  have lt25 : q1 < q18 := hf22 _ _ w14
  have kp26 : ∀ x y, Y x = some y → x ≠ q → Y19 x = some y := fun x y h n => hs21 x y (kp15 x y h n)
  have l27 : z_yl ks Y11 Y19 := z_yl_sub hs21
  have le28 : z_yl ks Y Y19 := le17.tr l27
  refine z_wide (k := 2) (n := 40) (Nat.le_refl _) (Nat.le_refl _) ?_
  refine z_put3 (fs' := [z_v 0, .ref q1, .ref q18, .null, .null, .null, .null, .null, .null, .null, z_v 0, z_v 0, z_v 0, .null, .null, .null, .null, .null, .null, .null, .null, .null, .null, .null, .null, z_v 0, z_v 0, .null, .null, z_v 0, z_v 0, .long 0]) C y23 rfl z_it11 tyX11 tyX11_ok nmX11 2 (by decide) rfl (Or.inr ⟨rfl, hnm, rfl⟩) fl_11_13 (tyX11_ok 2 (by decide)) rfl rfl (Nat.le_of_ble_eq_true rfl) dX11_init_17 rfl (fun Y29 y30 hk31 => ?_)
  have w32 := hk31 _ _ w24 (z_ne w24 y23 (fun z => by first | cases z | simp at z))
  have w33 := hk31 _ _ w20 (z_ne w20 y23 (fun z => by first | cases z | simp at z))
  have kp34 : ∀ x y, Y x = some y → x ≠ q → Y29 x = some y := fun x y h n => hk31 x y (kp26 x y h n) n
  have l35 : z_yl ks Y19 Y29 := z_yl_oth y23 (by decide) hk31
  have le36 : z_yl ks Y Y29 := le28.tr l35
  refine z_aloadn C 0 dX11_init_20 rfl rfl ?_
  refine z_bipush C dX11_init_21 (by decide) ?_
  refine z_newI3 C (by omega) (by omega) (by omega) (by show _ + 20 ≤ _; omega) dX11_init_23 (fun q37 Y38 w39 hs40 hf41 => ?_)
  have y42 := hs40 _ _ y30
  have w43 := hs40 _ _ w32
  have w44 := hs40 _ _ w33
  have lt45 : q18 < q37 := hf41 _ _ w33
  have kp46 : ∀ x y, Y x = some y → x ≠ q → Y38 x = some y := fun x y h n => hs40 x y (kp34 x y h n)
  have l47 : z_yl ks Y29 Y38 := z_yl_sub hs40
  have le48 : z_yl ks Y Y38 := le36.tr l47
  refine z_wide (k := 3) (n := 60) (Nat.le_refl _) (Nat.le_refl _) ?_
  refine z_put3 (fs' := [z_v 0, .ref q1, .ref q18, .ref q37, .null, .null, .null, .null, .null, .null, z_v 0, z_v 0, z_v 0, .null, .null, .null, .null, .null, .null, .null, .null, .null, .null, .null, .null, z_v 0, z_v 0, .null, .null, z_v 0, z_v 0, .long 0]) C y42 rfl z_it11 tyX11 tyX11_ok nmX11 3 (by decide) rfl (Or.inr ⟨rfl, hnm, rfl⟩) fl_11_16 (tyX11_ok 3 (by decide)) rfl rfl (Nat.le_of_ble_eq_true rfl) dX11_init_25 rfl (fun Y49 y50 hk51 => ?_)
  have w52 := hk51 _ _ w43 (z_ne w43 y42 (fun z => by first | cases z | simp at z))
  have w53 := hk51 _ _ w44 (z_ne w44 y42 (fun z => by first | cases z | simp at z))
  have w54 := hk51 _ _ w39 (z_ne w39 y42 (fun z => by first | cases z | simp at z))
  have kp55 : ∀ x y, Y x = some y → x ≠ q → Y49 x = some y := fun x y h n => hk51 x y (kp46 x y h n) n
  have l56 : z_yl ks Y38 Y49 := z_yl_oth y42 (by decide) hk51
  have le57 : z_yl ks Y Y49 := le48.tr l56
  refine z_aloadn C 0 dX11_init_28 rfl rfl ?_
  refine z_bipush C dX11_init_29 (by decide) ?_
  refine z_newI3 C (by omega) (by omega) (by omega) (by show _ + 20 ≤ _; omega) dX11_init_31 (fun q58 Y59 w60 hs61 hf62 => ?_)
  have y63 := hs61 _ _ y50
  have w64 := hs61 _ _ w52
  have w65 := hs61 _ _ w53
  have w66 := hs61 _ _ w54
  have lt67 : q37 < q58 := hf62 _ _ w54
  have kp68 : ∀ x y, Y x = some y → x ≠ q → Y59 x = some y := fun x y h n => hs61 x y (kp55 x y h n)
  have l69 : z_yl ks Y49 Y59 := z_yl_sub hs61
  have le70 : z_yl ks Y Y59 := le57.tr l69
  refine z_wide (k := 4) (n := 80) (Nat.le_refl _) (Nat.le_refl _) ?_
  refine z_put3 (fs' := [z_v 0, .ref q1, .ref q18, .ref q37, .ref q58, .null, .null, .null, .null, .null, z_v 0, z_v 0, z_v 0, .null, .null, .null, .null, .null, .null, .null, .null, .null, .null, .null, .null, z_v 0, z_v 0, .null, .null, z_v 0, z_v 0, .long 0]) C y63 rfl z_it11 tyX11 tyX11_ok nmX11 4 (by decide) rfl (Or.inr ⟨rfl, hnm, rfl⟩) fl_11_19 (tyX11_ok 4 (by decide)) rfl rfl (Nat.le_of_ble_eq_true rfl) dX11_init_33 rfl (fun Y71 y72 hk73 => ?_)
  have w74 := hk73 _ _ w64 (z_ne w64 y63 (fun z => by first | cases z | simp at z))
  have w75 := hk73 _ _ w65 (z_ne w65 y63 (fun z => by first | cases z | simp at z))
  have w76 := hk73 _ _ w66 (z_ne w66 y63 (fun z => by first | cases z | simp at z))
  have w77 := hk73 _ _ w60 (z_ne w60 y63 (fun z => by first | cases z | simp at z))
  have kp78 : ∀ x y, Y x = some y → x ≠ q → Y71 x = some y := fun x y h n => hk73 x y (kp68 x y h n) n
  have l79 : z_yl ks Y59 Y71 := z_yl_oth y63 (by decide) hk73
  have le80 : z_yl ks Y Y71 := le70.tr l79
  refine z_aloadn C 0 dX11_init_36 rfl rfl ?_
  refine z_bipush C dX11_init_37 (by decide) ?_
  refine z_newI3 C (by omega) (by omega) (by omega) (by show _ + 20 ≤ _; omega) dX11_init_39 (fun q81 Y82 w83 hs84 hf85 => ?_)
  have y86 := hs84 _ _ y72
  have w87 := hs84 _ _ w74
  have w88 := hs84 _ _ w75
  have w89 := hs84 _ _ w76
  have w90 := hs84 _ _ w77
  have lt91 : q58 < q81 := hf85 _ _ w77
  have kp92 : ∀ x y, Y x = some y → x ≠ q → Y82 x = some y := fun x y h n => hs84 x y (kp78 x y h n)
  have l93 : z_yl ks Y71 Y82 := z_yl_sub hs84
  have le94 : z_yl ks Y Y82 := le80.tr l93
  refine z_wide (k := 5) (n := 100) (Nat.le_refl _) (Nat.le_refl _) ?_
  refine z_put3 (fs' := [z_v 0, .ref q1, .ref q18, .ref q37, .ref q58, .ref q81, .null, .null, .null, .null, z_v 0, z_v 0, z_v 0, .null, .null, .null, .null, .null, .null, .null, .null, .null, .null, .null, .null, z_v 0, z_v 0, .null, .null, z_v 0, z_v 0, .long 0]) C y86 rfl z_it11 tyX11 tyX11_ok nmX11 5 (by decide) rfl (Or.inr ⟨rfl, hnm, rfl⟩) fl_11_22 (tyX11_ok 5 (by decide)) rfl rfl (Nat.le_of_ble_eq_true rfl) dX11_init_41 rfl (fun Y95 y96 hk97 => ?_)
  have w98 := hk97 _ _ w87 (z_ne w87 y86 (fun z => by first | cases z | simp at z))
  have w99 := hk97 _ _ w88 (z_ne w88 y86 (fun z => by first | cases z | simp at z))
  have w100 := hk97 _ _ w89 (z_ne w89 y86 (fun z => by first | cases z | simp at z))
  have w101 := hk97 _ _ w90 (z_ne w90 y86 (fun z => by first | cases z | simp at z))
  have w102 := hk97 _ _ w83 (z_ne w83 y86 (fun z => by first | cases z | simp at z))
  have kp103 : ∀ x y, Y x = some y → x ≠ q → Y95 x = some y := fun x y h n => hk97 x y (kp92 x y h n) n
  have l104 : z_yl ks Y82 Y95 := z_yl_oth y86 (by decide) hk97
  have le105 : z_yl ks Y Y95 := le94.tr l104
  refine z_aloadn C 0 dX11_init_44 rfl rfl ?_
  refine z_bipush C dX11_init_45 (by decide) ?_
  refine z_newI3 C (by omega) (by omega) (by omega) (by show _ + 20 ≤ _; omega) dX11_init_47 (fun q106 Y107 w108 hs109 hf110 => ?_)
  have y111 := hs109 _ _ y96
  have w112 := hs109 _ _ w98
  have w113 := hs109 _ _ w99
  have w114 := hs109 _ _ w100
  have w115 := hs109 _ _ w101
  have w116 := hs109 _ _ w102
  have lt117 : q81 < q106 := hf110 _ _ w102
  have kp118 : ∀ x y, Y x = some y → x ≠ q → Y107 x = some y := fun x y h n => hs109 x y (kp103 x y h n)
  have l119 : z_yl ks Y95 Y107 := z_yl_sub hs109
  have le120 : z_yl ks Y Y107 := le105.tr l119
  refine z_wide (k := 6) (n := 120) (Nat.le_refl _) (Nat.le_refl _) ?_
  refine z_put3 (fs' := [z_v 0, .ref q1, .ref q18, .ref q37, .ref q58, .ref q81, .ref q106, .null, .null, .null, z_v 0, z_v 0, z_v 0, .null, .null, .null, .null, .null, .null, .null, .null, .null, .null, .null, .null, z_v 0, z_v 0, .null, .null, z_v 0, z_v 0, .long 0]) C y111 rfl z_it11 tyX11 tyX11_ok nmX11 6 (by decide) rfl (Or.inr ⟨rfl, hnm, rfl⟩) fl_11_25 (tyX11_ok 6 (by decide)) rfl rfl (Nat.le_of_ble_eq_true rfl) dX11_init_49 rfl (fun Y121 y122 hk123 => ?_)
  have w124 := hk123 _ _ w112 (z_ne w112 y111 (fun z => by first | cases z | simp at z))
  have w125 := hk123 _ _ w113 (z_ne w113 y111 (fun z => by first | cases z | simp at z))
  have w126 := hk123 _ _ w114 (z_ne w114 y111 (fun z => by first | cases z | simp at z))
  have w127 := hk123 _ _ w115 (z_ne w115 y111 (fun z => by first | cases z | simp at z))
  have w128 := hk123 _ _ w116 (z_ne w116 y111 (fun z => by first | cases z | simp at z))
  have w129 := hk123 _ _ w108 (z_ne w108 y111 (fun z => by first | cases z | simp at z))
  have kp130 : ∀ x y, Y x = some y → x ≠ q → Y121 x = some y := fun x y h n => hk123 x y (kp118 x y h n) n
  have l131 : z_yl ks Y107 Y121 := z_yl_oth y111 (by decide) hk123
  have le132 : z_yl ks Y Y121 := le120.tr l131
  refine z_aloadn C 0 dX11_init_52 rfl rfl ?_
  refine z_bipush C dX11_init_53 (by decide) ?_
  refine z_newI3 C (by omega) (by omega) (by omega) (by show _ + 120 ≤ _; omega) dX11_init_55 (fun q133 Y134 w135 hs136 hf137 => ?_)
  have y138 := hs136 _ _ y122
  have w139 := hs136 _ _ w124
  have w140 := hs136 _ _ w125
  have w141 := hs136 _ _ w126
  have w142 := hs136 _ _ w127
  have w143 := hs136 _ _ w128
  have w144 := hs136 _ _ w129
  have lt145 : q106 < q133 := hf137 _ _ w129
  have kp146 : ∀ x y, Y x = some y → x ≠ q → Y134 x = some y := fun x y h n => hs136 x y (kp130 x y h n)
  have l147 : z_yl ks Y121 Y134 := z_yl_sub hs136
  have le148 : z_yl ks Y Y134 := le132.tr l147
  refine z_wide (k := 7) (n := 240) (Nat.le_refl _) (Nat.le_refl _) ?_
  refine z_put3 (fs' := [z_v 0, .ref q1, .ref q18, .ref q37, .ref q58, .ref q81, .ref q106, .ref q133, .null, .null, z_v 0, z_v 0, z_v 0, .null, .null, .null, .null, .null, .null, .null, .null, .null, .null, .null, .null, z_v 0, z_v 0, .null, .null, z_v 0, z_v 0, .long 0]) C y138 rfl z_it11 tyX11 tyX11_ok nmX11 7 (by decide) rfl (Or.inr ⟨rfl, hnm, rfl⟩) fl_11_28 (tyX11_ok 7 (by decide)) rfl rfl (Nat.le_of_ble_eq_true rfl) dX11_init_57 rfl (fun Y149 y150 hk151 => ?_)
  have w152 := hk151 _ _ w139 (z_ne w139 y138 (fun z => by first | cases z | simp at z))
  have w153 := hk151 _ _ w140 (z_ne w140 y138 (fun z => by first | cases z | simp at z))
  have w154 := hk151 _ _ w141 (z_ne w141 y138 (fun z => by first | cases z | simp at z))
  have w155 := hk151 _ _ w142 (z_ne w142 y138 (fun z => by first | cases z | simp at z))
  have w156 := hk151 _ _ w143 (z_ne w143 y138 (fun z => by first | cases z | simp at z))
  have w157 := hk151 _ _ w144 (z_ne w144 y138 (fun z => by first | cases z | simp at z))
  have w158 := hk151 _ _ w135 (z_ne w135 y138 (fun z => by first | cases z | simp at z))
  have kp159 : ∀ x y, Y x = some y → x ≠ q → Y149 x = some y := fun x y h n => hk151 x y (kp146 x y h n) n
  have l160 : z_yl ks Y134 Y149 := z_yl_oth y138 (by decide) hk151
  have le161 : z_yl ks Y Y149 := le148.tr l160
  refine z_aloadn C 0 dX11_init_60 rfl rfl ?_
  refine z_bipush C dX11_init_61 (by decide) ?_
  refine z_newI3 C (by omega) (by omega) (by omega) (by show _ + 18 ≤ _; omega) dX11_init_63 (fun q162 Y163 w164 hs165 hf166 => ?_)
  have y167 := hs165 _ _ y150
  have w168 := hs165 _ _ w152
  have w169 := hs165 _ _ w153
  have w170 := hs165 _ _ w154
  have w171 := hs165 _ _ w155
  have w172 := hs165 _ _ w156
  have w173 := hs165 _ _ w157
  have w174 := hs165 _ _ w158
  have lt175 : q133 < q162 := hf166 _ _ w158
  have kp176 : ∀ x y, Y x = some y → x ≠ q → Y163 x = some y := fun x y h n => hs165 x y (kp159 x y h n)
  have l177 : z_yl ks Y149 Y163 := z_yl_sub hs165
  have le178 : z_yl ks Y Y163 := le161.tr l177
  refine z_wide (k := 8) (n := 258) (Nat.le_refl _) (Nat.le_refl _) ?_
  refine z_put3 (fs' := [z_v 0, .ref q1, .ref q18, .ref q37, .ref q58, .ref q81, .ref q106, .ref q133, .ref q162, .null, z_v 0, z_v 0, z_v 0, .null, .null, .null, .null, .null, .null, .null, .null, .null, .null, .null, .null, z_v 0, z_v 0, .null, .null, z_v 0, z_v 0, .long 0]) C y167 rfl z_it11 tyX11 tyX11_ok nmX11 8 (by decide) rfl (Or.inr ⟨rfl, hnm, rfl⟩) fl_11_31 (tyX11_ok 8 (by decide)) rfl rfl (Nat.le_of_ble_eq_true rfl) dX11_init_65 rfl (fun Y179 y180 hk181 => ?_)
  have w182 := hk181 _ _ w168 (z_ne w168 y167 (fun z => by first | cases z | simp at z))
  have w183 := hk181 _ _ w169 (z_ne w169 y167 (fun z => by first | cases z | simp at z))
  have w184 := hk181 _ _ w170 (z_ne w170 y167 (fun z => by first | cases z | simp at z))
  have w185 := hk181 _ _ w171 (z_ne w171 y167 (fun z => by first | cases z | simp at z))
  have w186 := hk181 _ _ w172 (z_ne w172 y167 (fun z => by first | cases z | simp at z))
  have w187 := hk181 _ _ w173 (z_ne w173 y167 (fun z => by first | cases z | simp at z))
  have w188 := hk181 _ _ w174 (z_ne w174 y167 (fun z => by first | cases z | simp at z))
  have w189 := hk181 _ _ w164 (z_ne w164 y167 (fun z => by first | cases z | simp at z))
  have kp190 : ∀ x y, Y x = some y → x ≠ q → Y179 x = some y := fun x y h n => hk181 x y (kp176 x y h n) n
  have l191 : z_yl ks Y163 Y179 := z_yl_oth y167 (by decide) hk181
  have le192 : z_yl ks Y Y179 := le178.tr l191
  refine z_aloadn C 0 dX11_init_68 rfl rfl ?_
  refine z_bipush C dX11_init_69 (by decide) ?_
  refine z_newI3 C (by omega) (by omega) (by omega) (by show _ + 108 ≤ _; omega) dX11_init_71 (fun q193 Y194 w195 hs196 hf197 => ?_)
  have y198 := hs196 _ _ y180
  have w199 := hs196 _ _ w182
  have w200 := hs196 _ _ w183
  have w201 := hs196 _ _ w184
  have w202 := hs196 _ _ w185
  have w203 := hs196 _ _ w186
  have w204 := hs196 _ _ w187
  have w205 := hs196 _ _ w188
  have w206 := hs196 _ _ w189
  have lt207 : q162 < q193 := hf197 _ _ w189
  have kp208 : ∀ x y, Y x = some y → x ≠ q → Y194 x = some y := fun x y h n => hs196 x y (kp190 x y h n)
  have l209 : z_yl ks Y179 Y194 := z_yl_sub hs196
  have le210 : z_yl ks Y Y194 := le192.tr l209
  refine z_wide (k := 9) (n := 366) (Nat.le_refl _) (Nat.le_refl _) ?_
  refine z_put3 (fs' := [z_v 0, .ref q1, .ref q18, .ref q37, .ref q58, .ref q81, .ref q106, .ref q133, .ref q162, .ref q193, z_v 0, z_v 0, z_v 0, .null, .null, .null, .null, .null, .null, .null, .null, .null, .null, .null, .null, z_v 0, z_v 0, .null, .null, z_v 0, z_v 0, .long 0]) C y198 rfl z_it11 tyX11 tyX11_ok nmX11 9 (by decide) rfl (Or.inr ⟨rfl, hnm, rfl⟩) fl_11_34 (tyX11_ok 9 (by decide)) rfl rfl (Nat.le_of_ble_eq_true rfl) dX11_init_73 rfl (fun Y211 y212 hk213 => ?_)
  have w214 := hk213 _ _ w199 (z_ne w199 y198 (fun z => by first | cases z | simp at z))
  have w215 := hk213 _ _ w200 (z_ne w200 y198 (fun z => by first | cases z | simp at z))
  have w216 := hk213 _ _ w201 (z_ne w201 y198 (fun z => by first | cases z | simp at z))
  have w217 := hk213 _ _ w202 (z_ne w202 y198 (fun z => by first | cases z | simp at z))
  have w218 := hk213 _ _ w203 (z_ne w203 y198 (fun z => by first | cases z | simp at z))
  have w219 := hk213 _ _ w204 (z_ne w204 y198 (fun z => by first | cases z | simp at z))
  have w220 := hk213 _ _ w205 (z_ne w205 y198 (fun z => by first | cases z | simp at z))
  have w221 := hk213 _ _ w206 (z_ne w206 y198 (fun z => by first | cases z | simp at z))
  have w222 := hk213 _ _ w195 (z_ne w195 y198 (fun z => by first | cases z | simp at z))
  have kp223 : ∀ x y, Y x = some y → x ≠ q → Y211 x = some y := fun x y h n => hk213 x y (kp208 x y h n) n
  have l224 : z_yl ks Y194 Y211 := z_yl_oth y198 (by decide) hk213
  have le225 : z_yl ks Y Y211 := le210.tr l224
  refine z_aloadn C 0 dX11_init_76 rfl rfl ?_
  refine z_iconst C dX11_init_77 ?_
  refine z_put3 (fs' := [z_v 0, .ref q1, .ref q18, .ref q37, .ref q58, .ref q81, .ref q106, .ref q133, .ref q162, .ref q193, z_v 1, z_v 0, z_v 0, .null, .null, .null, .null, .null, .null, .null, .null, .null, .null, .null, .null, z_v 0, z_v 0, .null, .null, z_v 0, z_v 0, .long 0]) C y212 rfl z_it11 tyX11 tyX11_ok nmX11 10 (by decide) rfl (Or.inl rfl) fl_11_37 z_pfZ (z_nbZ (by omega)).1 (z_nbZ (by omega)).2 (Nat.le_of_ble_eq_true rfl) dX11_init_78 rfl (fun Y226 y227 hk228 => ?_)
  have w229 := hk228 _ _ w214 (z_ne w214 y212 (fun z => by first | cases z | simp at z))
  have w230 := hk228 _ _ w215 (z_ne w215 y212 (fun z => by first | cases z | simp at z))
  have w231 := hk228 _ _ w216 (z_ne w216 y212 (fun z => by first | cases z | simp at z))
  have w232 := hk228 _ _ w217 (z_ne w217 y212 (fun z => by first | cases z | simp at z))
  have w233 := hk228 _ _ w218 (z_ne w218 y212 (fun z => by first | cases z | simp at z))
  have w234 := hk228 _ _ w219 (z_ne w219 y212 (fun z => by first | cases z | simp at z))
  have w235 := hk228 _ _ w220 (z_ne w220 y212 (fun z => by first | cases z | simp at z))
  have w236 := hk228 _ _ w221 (z_ne w221 y212 (fun z => by first | cases z | simp at z))
  have w237 := hk228 _ _ w222 (z_ne w222 y212 (fun z => by first | cases z | simp at z))
  have kp238 : ∀ x y, Y x = some y → x ≠ q → Y226 x = some y := fun x y h n => hk228 x y (kp223 x y h n) n
  have l239 : z_yl ks Y211 Y226 := z_yl_oth y212 (by decide) hk228
  have le240 : z_yl ks Y Y226 := le225.tr l239
  refine z_aloadn C 0 dX11_init_81 rfl rfl ?_
  refine z_sipush C dX11_init_82 (by decide) ?_
  refine z_newI3 C (by omega) (by omega) (by omega) (by show _ + 360 ≤ _; omega) dX11_init_85 (fun q241 Y242 w243 hs244 hf245 => ?_)
  have y246 := hs244 _ _ y227
  have w247 := hs244 _ _ w229
  have w248 := hs244 _ _ w230
  have w249 := hs244 _ _ w231
  have w250 := hs244 _ _ w232
  have w251 := hs244 _ _ w233
  have w252 := hs244 _ _ w234
  have w253 := hs244 _ _ w235
  have w254 := hs244 _ _ w236
  have w255 := hs244 _ _ w237
  have lt256 : q193 < q241 := hf245 _ _ w237
  have kp257 : ∀ x y, Y x = some y → x ≠ q → Y242 x = some y := fun x y h n => hs244 x y (kp238 x y h n)
  have l258 : z_yl ks Y226 Y242 := z_yl_sub hs244
  have le259 : z_yl ks Y Y242 := le240.tr l258
  refine z_wide (k := 10) (n := 726) (Nat.le_refl _) (Nat.le_refl _) ?_
  refine z_put3 (fs' := [z_v 0, .ref q1, .ref q18, .ref q37, .ref q58, .ref q81, .ref q106, .ref q133, .ref q162, .ref q193, z_v 1, z_v 0, z_v 0, .ref q241, .null, .null, .null, .null, .null, .null, .null, .null, .null, .null, .null, z_v 0, z_v 0, .null, .null, z_v 0, z_v 0, .long 0]) C y246 rfl z_it11 tyX11 tyX11_ok nmX11 13 (by decide) rfl (Or.inr ⟨rfl, hnm, rfl⟩) fl_11_41 (tyX11_ok 13 (by decide)) rfl rfl (Nat.le_of_ble_eq_true rfl) dX11_init_87 rfl (fun Y260 y261 hk262 => ?_)
  have w263 := hk262 _ _ w247 (z_ne w247 y246 (fun z => by first | cases z | simp at z))
  have w264 := hk262 _ _ w248 (z_ne w248 y246 (fun z => by first | cases z | simp at z))
  have w265 := hk262 _ _ w249 (z_ne w249 y246 (fun z => by first | cases z | simp at z))
  have w266 := hk262 _ _ w250 (z_ne w250 y246 (fun z => by first | cases z | simp at z))
  have w267 := hk262 _ _ w251 (z_ne w251 y246 (fun z => by first | cases z | simp at z))
  have w268 := hk262 _ _ w252 (z_ne w252 y246 (fun z => by first | cases z | simp at z))
  have w269 := hk262 _ _ w253 (z_ne w253 y246 (fun z => by first | cases z | simp at z))
  have w270 := hk262 _ _ w254 (z_ne w254 y246 (fun z => by first | cases z | simp at z))
  have w271 := hk262 _ _ w255 (z_ne w255 y246 (fun z => by first | cases z | simp at z))
  have w272 := hk262 _ _ w243 (z_ne w243 y246 (fun z => by first | cases z | simp at z))
  have kp273 : ∀ x y, Y x = some y → x ≠ q → Y260 x = some y := fun x y h n => hk262 x y (kp257 x y h n) n
  have l274 : z_yl ks Y242 Y260 := z_yl_oth y246 (by decide) hk262
  have le275 : z_yl ks Y Y260 := le259.tr l274
  refine z_aloadn C 0 dX11_init_90 rfl rfl ?_
  refine z_sipush C dX11_init_91 (by decide) ?_
  refine z_newI3 C (by omega) (by omega) (by omega) (by show _ + 1920 ≤ _; omega) dX11_init_94 (fun q276 Y277 w278 hs279 hf280 => ?_)
  have y281 := hs279 _ _ y261
  have w282 := hs279 _ _ w263
  have w283 := hs279 _ _ w264
  have w284 := hs279 _ _ w265
  have w285 := hs279 _ _ w266
  have w286 := hs279 _ _ w267
  have w287 := hs279 _ _ w268
  have w288 := hs279 _ _ w269
  have w289 := hs279 _ _ w270
  have w290 := hs279 _ _ w271
  have w291 := hs279 _ _ w272
  have lt292 : q241 < q276 := hf280 _ _ w272
  have kp293 : ∀ x y, Y x = some y → x ≠ q → Y277 x = some y := fun x y h n => hs279 x y (kp273 x y h n)
  have l294 : z_yl ks Y260 Y277 := z_yl_sub hs279
  have le295 : z_yl ks Y Y277 := le275.tr l294
  refine z_wide (k := 11) (n := 2646) (Nat.le_refl _) (Nat.le_refl _) ?_
  refine z_put3 (fs' := [z_v 0, .ref q1, .ref q18, .ref q37, .ref q58, .ref q81, .ref q106, .ref q133, .ref q162, .ref q193, z_v 1, z_v 0, z_v 0, .ref q241, .ref q276, .null, .null, .null, .null, .null, .null, .null, .null, .null, .null, z_v 0, z_v 0, .null, .null, z_v 0, z_v 0, .long 0]) C y281 rfl z_it11 tyX11 tyX11_ok nmX11 14 (by decide) rfl (Or.inr ⟨rfl, hnm, rfl⟩) fl_11_44 (tyX11_ok 14 (by decide)) rfl rfl (Nat.le_of_ble_eq_true rfl) dX11_init_96 rfl (fun Y296 y297 hk298 => ?_)
  have w299 := hk298 _ _ w282 (z_ne w282 y281 (fun z => by first | cases z | simp at z))
  have w300 := hk298 _ _ w283 (z_ne w283 y281 (fun z => by first | cases z | simp at z))
  have w301 := hk298 _ _ w284 (z_ne w284 y281 (fun z => by first | cases z | simp at z))
  have w302 := hk298 _ _ w285 (z_ne w285 y281 (fun z => by first | cases z | simp at z))
  have w303 := hk298 _ _ w286 (z_ne w286 y281 (fun z => by first | cases z | simp at z))
  have w304 := hk298 _ _ w287 (z_ne w287 y281 (fun z => by first | cases z | simp at z))
  have w305 := hk298 _ _ w288 (z_ne w288 y281 (fun z => by first | cases z | simp at z))
  have w306 := hk298 _ _ w289 (z_ne w289 y281 (fun z => by first | cases z | simp at z))
  have w307 := hk298 _ _ w290 (z_ne w290 y281 (fun z => by first | cases z | simp at z))
  have w308 := hk298 _ _ w291 (z_ne w291 y281 (fun z => by first | cases z | simp at z))
  have w309 := hk298 _ _ w278 (z_ne w278 y281 (fun z => by first | cases z | simp at z))
  have kp310 : ∀ x y, Y x = some y → x ≠ q → Y296 x = some y := fun x y h n => hk298 x y (kp293 x y h n) n
  have l311 : z_yl ks Y277 Y296 := z_yl_oth y281 (by decide) hk298
  have le312 : z_yl ks Y Y296 := le295.tr l311
  refine z_aloadn C 0 dX11_init_99 rfl rfl ?_
  refine z_bipush C dX11_init_100 (by decide) ?_
  refine z_newI3 C (by omega) (by omega) (by omega) (by show _ + 120 ≤ _; omega) dX11_init_102 (fun q313 Y314 w315 hs316 hf317 => ?_)
  have y318 := hs316 _ _ y297
  have w319 := hs316 _ _ w299
  have w320 := hs316 _ _ w300
  have w321 := hs316 _ _ w301
  have w322 := hs316 _ _ w302
  have w323 := hs316 _ _ w303
  have w324 := hs316 _ _ w304
  have w325 := hs316 _ _ w305
  have w326 := hs316 _ _ w306
  have w327 := hs316 _ _ w307
  have w328 := hs316 _ _ w308
  have w329 := hs316 _ _ w309
  have lt330 : q276 < q313 := hf317 _ _ w309
  have kp331 : ∀ x y, Y x = some y → x ≠ q → Y314 x = some y := fun x y h n => hs316 x y (kp310 x y h n)
  have l332 : z_yl ks Y296 Y314 := z_yl_sub hs316
  have le333 : z_yl ks Y Y314 := le312.tr l332
  refine z_wide (k := 12) (n := 2766) (Nat.le_refl _) (Nat.le_refl _) ?_
  refine z_put3 (fs' := [z_v 0, .ref q1, .ref q18, .ref q37, .ref q58, .ref q81, .ref q106, .ref q133, .ref q162, .ref q193, z_v 1, z_v 0, z_v 0, .ref q241, .ref q276, .ref q313, .null, .null, .null, .null, .null, .null, .null, .null, .null, z_v 0, z_v 0, .null, .null, z_v 0, z_v 0, .long 0]) C y318 rfl z_it11 tyX11 tyX11_ok nmX11 15 (by decide) rfl (Or.inr ⟨rfl, hnm, rfl⟩) fl_11_47 (tyX11_ok 15 (by decide)) rfl rfl (Nat.le_of_ble_eq_true rfl) dX11_init_104 rfl (fun Y334 y335 hk336 => ?_)
  have w337 := hk336 _ _ w319 (z_ne w319 y318 (fun z => by first | cases z | simp at z))
  have w338 := hk336 _ _ w320 (z_ne w320 y318 (fun z => by first | cases z | simp at z))
  have w339 := hk336 _ _ w321 (z_ne w321 y318 (fun z => by first | cases z | simp at z))
  have w340 := hk336 _ _ w322 (z_ne w322 y318 (fun z => by first | cases z | simp at z))
  have w341 := hk336 _ _ w323 (z_ne w323 y318 (fun z => by first | cases z | simp at z))
  have w342 := hk336 _ _ w324 (z_ne w324 y318 (fun z => by first | cases z | simp at z))
  have w343 := hk336 _ _ w325 (z_ne w325 y318 (fun z => by first | cases z | simp at z))
  have w344 := hk336 _ _ w326 (z_ne w326 y318 (fun z => by first | cases z | simp at z))
  have w345 := hk336 _ _ w327 (z_ne w327 y318 (fun z => by first | cases z | simp at z))
  have w346 := hk336 _ _ w328 (z_ne w328 y318 (fun z => by first | cases z | simp at z))
  have w347 := hk336 _ _ w329 (z_ne w329 y318 (fun z => by first | cases z | simp at z))
  have w348 := hk336 _ _ w315 (z_ne w315 y318 (fun z => by first | cases z | simp at z))
  have kp349 : ∀ x y, Y x = some y → x ≠ q → Y334 x = some y := fun x y h n => hk336 x y (kp331 x y h n) n
  have l350 : z_yl ks Y314 Y334 := z_yl_oth y318 (by decide) hk336
  have le351 : z_yl ks Y Y334 := le333.tr l350
  refine z_aloadn C 0 dX11_init_107 rfl rfl ?_
  refine z_bipush C dX11_init_108 (by decide) ?_
  refine z_newI3 C (by omega) (by omega) (by omega) (by show _ + 120 ≤ _; omega) dX11_init_110 (fun q352 Y353 w354 hs355 hf356 => ?_)
  have y357 := hs355 _ _ y335
  have w358 := hs355 _ _ w337
  have w359 := hs355 _ _ w338
  have w360 := hs355 _ _ w339
  have w361 := hs355 _ _ w340
  have w362 := hs355 _ _ w341
  have w363 := hs355 _ _ w342
  have w364 := hs355 _ _ w343
  have w365 := hs355 _ _ w344
  have w366 := hs355 _ _ w345
  have w367 := hs355 _ _ w346
  have w368 := hs355 _ _ w347
  have w369 := hs355 _ _ w348
  have lt370 : q313 < q352 := hf356 _ _ w348
  have kp371 : ∀ x y, Y x = some y → x ≠ q → Y353 x = some y := fun x y h n => hs355 x y (kp349 x y h n)
  have l372 : z_yl ks Y334 Y353 := z_yl_sub hs355
  have le373 : z_yl ks Y Y353 := le351.tr l372
  refine z_wide (k := 13) (n := 2886) (Nat.le_refl _) (Nat.le_refl _) ?_
  refine z_put3 (fs' := [z_v 0, .ref q1, .ref q18, .ref q37, .ref q58, .ref q81, .ref q106, .ref q133, .ref q162, .ref q193, z_v 1, z_v 0, z_v 0, .ref q241, .ref q276, .ref q313, .ref q352, .null, .null, .null, .null, .null, .null, .null, .null, z_v 0, z_v 0, .null, .null, z_v 0, z_v 0, .long 0]) C y357 rfl z_it11 tyX11 tyX11_ok nmX11 16 (by decide) rfl (Or.inr ⟨rfl, hnm, rfl⟩) fl_11_50 (tyX11_ok 16 (by decide)) rfl rfl (Nat.le_of_ble_eq_true rfl) dX11_init_112 rfl (fun Y374 y375 hk376 => ?_)
  have w377 := hk376 _ _ w358 (z_ne w358 y357 (fun z => by first | cases z | simp at z))
  have w378 := hk376 _ _ w359 (z_ne w359 y357 (fun z => by first | cases z | simp at z))
  have w379 := hk376 _ _ w360 (z_ne w360 y357 (fun z => by first | cases z | simp at z))
  have w380 := hk376 _ _ w361 (z_ne w361 y357 (fun z => by first | cases z | simp at z))
  have w381 := hk376 _ _ w362 (z_ne w362 y357 (fun z => by first | cases z | simp at z))
  have w382 := hk376 _ _ w363 (z_ne w363 y357 (fun z => by first | cases z | simp at z))
  have w383 := hk376 _ _ w364 (z_ne w364 y357 (fun z => by first | cases z | simp at z))
  have w384 := hk376 _ _ w365 (z_ne w365 y357 (fun z => by first | cases z | simp at z))
  have w385 := hk376 _ _ w366 (z_ne w366 y357 (fun z => by first | cases z | simp at z))
  have w386 := hk376 _ _ w367 (z_ne w367 y357 (fun z => by first | cases z | simp at z))
  have w387 := hk376 _ _ w368 (z_ne w368 y357 (fun z => by first | cases z | simp at z))
  have w388 := hk376 _ _ w369 (z_ne w369 y357 (fun z => by first | cases z | simp at z))
  have w389 := hk376 _ _ w354 (z_ne w354 y357 (fun z => by first | cases z | simp at z))
  have kp390 : ∀ x y, Y x = some y → x ≠ q → Y374 x = some y := fun x y h n => hk376 x y (kp371 x y h n) n
  have l391 : z_yl ks Y353 Y374 := z_yl_oth y357 (by decide) hk376
  have le392 : z_yl ks Y Y374 := le373.tr l391
  refine z_aloadn C 0 dX11_init_115 rfl rfl ?_
  refine z_bipush C dX11_init_116 (by decide) ?_
  refine z_newI3 C (by omega) (by omega) (by omega) (by show _ + 120 ≤ _; omega) dX11_init_118 (fun q393 Y394 w395 hs396 hf397 => ?_)
  have y398 := hs396 _ _ y375
  have w399 := hs396 _ _ w377
  have w400 := hs396 _ _ w378
  have w401 := hs396 _ _ w379
  have w402 := hs396 _ _ w380
  have w403 := hs396 _ _ w381
  have w404 := hs396 _ _ w382
  have w405 := hs396 _ _ w383
  have w406 := hs396 _ _ w384
  have w407 := hs396 _ _ w385
  have w408 := hs396 _ _ w386
  have w409 := hs396 _ _ w387
  have w410 := hs396 _ _ w388
  have w411 := hs396 _ _ w389
  have lt412 : q352 < q393 := hf397 _ _ w389
  have kp413 : ∀ x y, Y x = some y → x ≠ q → Y394 x = some y := fun x y h n => hs396 x y (kp390 x y h n)
  have l414 : z_yl ks Y374 Y394 := z_yl_sub hs396
  have le415 : z_yl ks Y Y394 := le392.tr l414
  refine z_wide (k := 14) (n := 3006) (Nat.le_refl _) (Nat.le_refl _) ?_
  refine z_put3 (fs' := [z_v 0, .ref q1, .ref q18, .ref q37, .ref q58, .ref q81, .ref q106, .ref q133, .ref q162, .ref q193, z_v 1, z_v 0, z_v 0, .ref q241, .ref q276, .ref q313, .ref q352, .ref q393, .null, .null, .null, .null, .null, .null, .null, z_v 0, z_v 0, .null, .null, z_v 0, z_v 0, .long 0]) C y398 rfl z_it11 tyX11 tyX11_ok nmX11 17 (by decide) rfl (Or.inr ⟨rfl, hnm, rfl⟩) fl_11_53 (tyX11_ok 17 (by decide)) rfl rfl (Nat.le_of_ble_eq_true rfl) dX11_init_120 rfl (fun Y416 y417 hk418 => ?_)
  have w419 := hk418 _ _ w399 (z_ne w399 y398 (fun z => by first | cases z | simp at z))
  have w420 := hk418 _ _ w400 (z_ne w400 y398 (fun z => by first | cases z | simp at z))
  have w421 := hk418 _ _ w401 (z_ne w401 y398 (fun z => by first | cases z | simp at z))
  have w422 := hk418 _ _ w402 (z_ne w402 y398 (fun z => by first | cases z | simp at z))
  have w423 := hk418 _ _ w403 (z_ne w403 y398 (fun z => by first | cases z | simp at z))
  have w424 := hk418 _ _ w404 (z_ne w404 y398 (fun z => by first | cases z | simp at z))
  have w425 := hk418 _ _ w405 (z_ne w405 y398 (fun z => by first | cases z | simp at z))
  have w426 := hk418 _ _ w406 (z_ne w406 y398 (fun z => by first | cases z | simp at z))
  have w427 := hk418 _ _ w407 (z_ne w407 y398 (fun z => by first | cases z | simp at z))
  have w428 := hk418 _ _ w408 (z_ne w408 y398 (fun z => by first | cases z | simp at z))
  have w429 := hk418 _ _ w409 (z_ne w409 y398 (fun z => by first | cases z | simp at z))
  have w430 := hk418 _ _ w410 (z_ne w410 y398 (fun z => by first | cases z | simp at z))
  have w431 := hk418 _ _ w411 (z_ne w411 y398 (fun z => by first | cases z | simp at z))
  have w432 := hk418 _ _ w395 (z_ne w395 y398 (fun z => by first | cases z | simp at z))
  have kp433 : ∀ x y, Y x = some y → x ≠ q → Y416 x = some y := fun x y h n => hk418 x y (kp413 x y h n) n
  have l434 : z_yl ks Y394 Y416 := z_yl_oth y398 (by decide) hk418
  have le435 : z_yl ks Y Y416 := le415.tr l434
  refine z_aloadn C 0 dX11_init_123 rfl rfl ?_
  refine z_bipush C dX11_init_124 (by decide) ?_
  refine z_newI3 C (by omega) (by omega) (by omega) (by show _ + 120 ≤ _; omega) dX11_init_126 (fun q436 Y437 w438 hs439 hf440 => ?_)
  have y441 := hs439 _ _ y417
  have w442 := hs439 _ _ w419
  have w443 := hs439 _ _ w420
  have w444 := hs439 _ _ w421
  have w445 := hs439 _ _ w422
  have w446 := hs439 _ _ w423
  have w447 := hs439 _ _ w424
  have w448 := hs439 _ _ w425
  have w449 := hs439 _ _ w426
  have w450 := hs439 _ _ w427
  have w451 := hs439 _ _ w428
  have w452 := hs439 _ _ w429
  have w453 := hs439 _ _ w430
  have w454 := hs439 _ _ w431
  have w455 := hs439 _ _ w432
  have lt456 : q393 < q436 := hf440 _ _ w432
  have kp457 : ∀ x y, Y x = some y → x ≠ q → Y437 x = some y := fun x y h n => hs439 x y (kp433 x y h n)
  have l458 : z_yl ks Y416 Y437 := z_yl_sub hs439
  have le459 : z_yl ks Y Y437 := le435.tr l458
  refine z_wide (k := 15) (n := 3126) (Nat.le_refl _) (Nat.le_refl _) ?_
  refine z_put3 (fs' := [z_v 0, .ref q1, .ref q18, .ref q37, .ref q58, .ref q81, .ref q106, .ref q133, .ref q162, .ref q193, z_v 1, z_v 0, z_v 0, .ref q241, .ref q276, .ref q313, .ref q352, .ref q393, .ref q436, .null, .null, .null, .null, .null, .null, z_v 0, z_v 0, .null, .null, z_v 0, z_v 0, .long 0]) C y441 rfl z_it11 tyX11 tyX11_ok nmX11 18 (by decide) rfl (Or.inr ⟨rfl, hnm, rfl⟩) fl_11_56 (tyX11_ok 18 (by decide)) rfl rfl (Nat.le_of_ble_eq_true rfl) dX11_init_128 rfl (fun Y460 y461 hk462 => ?_)
  have w463 := hk462 _ _ w442 (z_ne w442 y441 (fun z => by first | cases z | simp at z))
  have w464 := hk462 _ _ w443 (z_ne w443 y441 (fun z => by first | cases z | simp at z))
  have w465 := hk462 _ _ w444 (z_ne w444 y441 (fun z => by first | cases z | simp at z))
  have w466 := hk462 _ _ w445 (z_ne w445 y441 (fun z => by first | cases z | simp at z))
  have w467 := hk462 _ _ w446 (z_ne w446 y441 (fun z => by first | cases z | simp at z))
  have w468 := hk462 _ _ w447 (z_ne w447 y441 (fun z => by first | cases z | simp at z))
  have w469 := hk462 _ _ w448 (z_ne w448 y441 (fun z => by first | cases z | simp at z))
  have w470 := hk462 _ _ w449 (z_ne w449 y441 (fun z => by first | cases z | simp at z))
  have w471 := hk462 _ _ w450 (z_ne w450 y441 (fun z => by first | cases z | simp at z))
  have w472 := hk462 _ _ w451 (z_ne w451 y441 (fun z => by first | cases z | simp at z))
  have w473 := hk462 _ _ w452 (z_ne w452 y441 (fun z => by first | cases z | simp at z))
  have w474 := hk462 _ _ w453 (z_ne w453 y441 (fun z => by first | cases z | simp at z))
  have w475 := hk462 _ _ w454 (z_ne w454 y441 (fun z => by first | cases z | simp at z))
  have w476 := hk462 _ _ w455 (z_ne w455 y441 (fun z => by first | cases z | simp at z))
  have w477 := hk462 _ _ w438 (z_ne w438 y441 (fun z => by first | cases z | simp at z))
  have kp478 : ∀ x y, Y x = some y → x ≠ q → Y460 x = some y := fun x y h n => hk462 x y (kp457 x y h n) n
  have l479 : z_yl ks Y437 Y460 := z_yl_oth y441 (by decide) hk462
  have le480 : z_yl ks Y Y460 := le459.tr l479
  refine z_aloadn C 0 dX11_init_131 rfl rfl ?_
  refine z_bipush C dX11_init_132 (by decide) ?_
  refine z_newI3 C (by omega) (by omega) (by omega) (by show _ + 16 ≤ _; omega) dX11_init_134 (fun q481 Y482 w483 hs484 hf485 => ?_)
  have y486 := hs484 _ _ y461
  have w487 := hs484 _ _ w463
  have w488 := hs484 _ _ w464
  have w489 := hs484 _ _ w465
  have w490 := hs484 _ _ w466
  have w491 := hs484 _ _ w467
  have w492 := hs484 _ _ w468
  have w493 := hs484 _ _ w469
  have w494 := hs484 _ _ w470
  have w495 := hs484 _ _ w471
  have w496 := hs484 _ _ w472
  have w497 := hs484 _ _ w473
  have w498 := hs484 _ _ w474
  have w499 := hs484 _ _ w475
  have w500 := hs484 _ _ w476
  have w501 := hs484 _ _ w477
  have lt502 : q436 < q481 := hf485 _ _ w477
  have kp503 : ∀ x y, Y x = some y → x ≠ q → Y482 x = some y := fun x y h n => hs484 x y (kp478 x y h n)
  have l504 : z_yl ks Y460 Y482 := z_yl_sub hs484
  have le505 : z_yl ks Y Y482 := le480.tr l504
  refine z_wide (k := 16) (n := 3142) (Nat.le_refl _) (Nat.le_refl _) ?_
  refine z_put3 (fs' := [z_v 0, .ref q1, .ref q18, .ref q37, .ref q58, .ref q81, .ref q106, .ref q133, .ref q162, .ref q193, z_v 1, z_v 0, z_v 0, .ref q241, .ref q276, .ref q313, .ref q352, .ref q393, .ref q436, .ref q481, .null, .null, .null, .null, .null, z_v 0, z_v 0, .null, .null, z_v 0, z_v 0, .long 0]) C y486 rfl z_it11 tyX11 tyX11_ok nmX11 19 (by decide) rfl (Or.inr ⟨rfl, hnm, rfl⟩) fl_11_59 (tyX11_ok 19 (by decide)) rfl rfl (Nat.le_of_ble_eq_true rfl) dX11_init_136 rfl (fun Y506 y507 hk508 => ?_)
  have w509 := hk508 _ _ w487 (z_ne w487 y486 (fun z => by first | cases z | simp at z))
  have w510 := hk508 _ _ w488 (z_ne w488 y486 (fun z => by first | cases z | simp at z))
  have w511 := hk508 _ _ w489 (z_ne w489 y486 (fun z => by first | cases z | simp at z))
  have w512 := hk508 _ _ w490 (z_ne w490 y486 (fun z => by first | cases z | simp at z))
  have w513 := hk508 _ _ w491 (z_ne w491 y486 (fun z => by first | cases z | simp at z))
  have w514 := hk508 _ _ w492 (z_ne w492 y486 (fun z => by first | cases z | simp at z))
  have w515 := hk508 _ _ w493 (z_ne w493 y486 (fun z => by first | cases z | simp at z))
  have w516 := hk508 _ _ w494 (z_ne w494 y486 (fun z => by first | cases z | simp at z))
  have w517 := hk508 _ _ w495 (z_ne w495 y486 (fun z => by first | cases z | simp at z))
  have w518 := hk508 _ _ w496 (z_ne w496 y486 (fun z => by first | cases z | simp at z))
  have w519 := hk508 _ _ w497 (z_ne w497 y486 (fun z => by first | cases z | simp at z))
  have w520 := hk508 _ _ w498 (z_ne w498 y486 (fun z => by first | cases z | simp at z))
  have w521 := hk508 _ _ w499 (z_ne w499 y486 (fun z => by first | cases z | simp at z))
  have w522 := hk508 _ _ w500 (z_ne w500 y486 (fun z => by first | cases z | simp at z))
  have w523 := hk508 _ _ w501 (z_ne w501 y486 (fun z => by first | cases z | simp at z))
  have w524 := hk508 _ _ w483 (z_ne w483 y486 (fun z => by first | cases z | simp at z))
  have kp525 : ∀ x y, Y x = some y → x ≠ q → Y506 x = some y := fun x y h n => hk508 x y (kp503 x y h n) n
  have l526 : z_yl ks Y482 Y506 := z_yl_oth y486 (by decide) hk508
  have le527 : z_yl ks Y Y506 := le505.tr l526
  refine z_aloadn C 0 dX11_init_139 rfl rfl ?_
  refine z_bipush C dX11_init_140 (by decide) ?_
  refine z_newI3 C (by omega) (by omega) (by omega) (by show _ + 16 ≤ _; omega) dX11_init_142 (fun q528 Y529 w530 hs531 hf532 => ?_)
  have y533 := hs531 _ _ y507
  have w534 := hs531 _ _ w509
  have w535 := hs531 _ _ w510
  have w536 := hs531 _ _ w511
  have w537 := hs531 _ _ w512
  have w538 := hs531 _ _ w513
  have w539 := hs531 _ _ w514
  have w540 := hs531 _ _ w515
  have w541 := hs531 _ _ w516
  have w542 := hs531 _ _ w517
  have w543 := hs531 _ _ w518
  have w544 := hs531 _ _ w519
  have w545 := hs531 _ _ w520
  have w546 := hs531 _ _ w521
  have w547 := hs531 _ _ w522
  have w548 := hs531 _ _ w523
  have w549 := hs531 _ _ w524
  have lt550 : q481 < q528 := hf532 _ _ w524
  have kp551 : ∀ x y, Y x = some y → x ≠ q → Y529 x = some y := fun x y h n => hs531 x y (kp525 x y h n)
  have l552 : z_yl ks Y506 Y529 := z_yl_sub hs531
  have le553 : z_yl ks Y Y529 := le527.tr l552
  refine z_wide (k := 17) (n := 3158) (Nat.le_refl _) (Nat.le_refl _) ?_
  refine z_put3 (fs' := [z_v 0, .ref q1, .ref q18, .ref q37, .ref q58, .ref q81, .ref q106, .ref q133, .ref q162, .ref q193, z_v 1, z_v 0, z_v 0, .ref q241, .ref q276, .ref q313, .ref q352, .ref q393, .ref q436, .ref q481, .ref q528, .null, .null, .null, .null, z_v 0, z_v 0, .null, .null, z_v 0, z_v 0, .long 0]) C y533 rfl z_it11 tyX11 tyX11_ok nmX11 20 (by decide) rfl (Or.inr ⟨rfl, hnm, rfl⟩) fl_11_62 (tyX11_ok 20 (by decide)) rfl rfl (Nat.le_of_ble_eq_true rfl) dX11_init_144 rfl (fun Y554 y555 hk556 => ?_)
  have w557 := hk556 _ _ w534 (z_ne w534 y533 (fun z => by first | cases z | simp at z))
  have w558 := hk556 _ _ w535 (z_ne w535 y533 (fun z => by first | cases z | simp at z))
  have w559 := hk556 _ _ w536 (z_ne w536 y533 (fun z => by first | cases z | simp at z))
  have w560 := hk556 _ _ w537 (z_ne w537 y533 (fun z => by first | cases z | simp at z))
  have w561 := hk556 _ _ w538 (z_ne w538 y533 (fun z => by first | cases z | simp at z))
  have w562 := hk556 _ _ w539 (z_ne w539 y533 (fun z => by first | cases z | simp at z))
  have w563 := hk556 _ _ w540 (z_ne w540 y533 (fun z => by first | cases z | simp at z))
  have w564 := hk556 _ _ w541 (z_ne w541 y533 (fun z => by first | cases z | simp at z))
  have w565 := hk556 _ _ w542 (z_ne w542 y533 (fun z => by first | cases z | simp at z))
  have w566 := hk556 _ _ w543 (z_ne w543 y533 (fun z => by first | cases z | simp at z))
  have w567 := hk556 _ _ w544 (z_ne w544 y533 (fun z => by first | cases z | simp at z))
  have w568 := hk556 _ _ w545 (z_ne w545 y533 (fun z => by first | cases z | simp at z))
  have w569 := hk556 _ _ w546 (z_ne w546 y533 (fun z => by first | cases z | simp at z))
  have w570 := hk556 _ _ w547 (z_ne w547 y533 (fun z => by first | cases z | simp at z))
  have w571 := hk556 _ _ w548 (z_ne w548 y533 (fun z => by first | cases z | simp at z))
  have w572 := hk556 _ _ w549 (z_ne w549 y533 (fun z => by first | cases z | simp at z))
  have w573 := hk556 _ _ w530 (z_ne w530 y533 (fun z => by first | cases z | simp at z))
  have kp574 : ∀ x y, Y x = some y → x ≠ q → Y554 x = some y := fun x y h n => hk556 x y (kp551 x y h n) n
  have l575 : z_yl ks Y529 Y554 := z_yl_oth y533 (by decide) hk556
  have le576 : z_yl ks Y Y554 := le553.tr l575
  refine z_aloadn C 0 dX11_init_147 rfl rfl ?_
  refine z_iconst C dX11_init_148 ?_
  refine z_newI3 C (by omega) (by omega) (by omega) (by show _ + 3 ≤ _; omega) dX11_init_149 (fun q577 Y578 w579 hs580 hf581 => ?_)
  have y582 := hs580 _ _ y555
  have w583 := hs580 _ _ w557
  have w584 := hs580 _ _ w558
  have w585 := hs580 _ _ w559
  have w586 := hs580 _ _ w560
  have w587 := hs580 _ _ w561
  have w588 := hs580 _ _ w562
  have w589 := hs580 _ _ w563
  have w590 := hs580 _ _ w564
  have w591 := hs580 _ _ w565
  have w592 := hs580 _ _ w566
  have w593 := hs580 _ _ w567
  have w594 := hs580 _ _ w568
  have w595 := hs580 _ _ w569
  have w596 := hs580 _ _ w570
  have w597 := hs580 _ _ w571
  have w598 := hs580 _ _ w572
  have w599 := hs580 _ _ w573
  have lt600 : q528 < q577 := hf581 _ _ w573
  have kp601 : ∀ x y, Y x = some y → x ≠ q → Y578 x = some y := fun x y h n => hs580 x y (kp574 x y h n)
  have l602 : z_yl ks Y554 Y578 := z_yl_sub hs580
  have le603 : z_yl ks Y Y578 := le576.tr l602
  refine z_wide (k := 18) (n := 3161) (Nat.le_refl _) (Nat.le_refl _) ?_
  refine z_put3 (fs' := [z_v 0, .ref q1, .ref q18, .ref q37, .ref q58, .ref q81, .ref q106, .ref q133, .ref q162, .ref q193, z_v 1, z_v 0, z_v 0, .ref q241, .ref q276, .ref q313, .ref q352, .ref q393, .ref q436, .ref q481, .ref q528, .ref q577, .null, .null, .null, z_v 0, z_v 0, .null, .null, z_v 0, z_v 0, .long 0]) C y582 rfl z_it11 tyX11 tyX11_ok nmX11 21 (by decide) rfl (Or.inr ⟨rfl, hnm, rfl⟩) fl_11_65 (tyX11_ok 21 (by decide)) rfl rfl (Nat.le_of_ble_eq_true rfl) dX11_init_151 rfl (fun Y604 y605 hk606 => ?_)
  have w607 := hk606 _ _ w583 (z_ne w583 y582 (fun z => by first | cases z | simp at z))
  have w608 := hk606 _ _ w584 (z_ne w584 y582 (fun z => by first | cases z | simp at z))
  have w609 := hk606 _ _ w585 (z_ne w585 y582 (fun z => by first | cases z | simp at z))
  have w610 := hk606 _ _ w586 (z_ne w586 y582 (fun z => by first | cases z | simp at z))
  have w611 := hk606 _ _ w587 (z_ne w587 y582 (fun z => by first | cases z | simp at z))
  have w612 := hk606 _ _ w588 (z_ne w588 y582 (fun z => by first | cases z | simp at z))
  have w613 := hk606 _ _ w589 (z_ne w589 y582 (fun z => by first | cases z | simp at z))
  have w614 := hk606 _ _ w590 (z_ne w590 y582 (fun z => by first | cases z | simp at z))
  have w615 := hk606 _ _ w591 (z_ne w591 y582 (fun z => by first | cases z | simp at z))
  have w616 := hk606 _ _ w592 (z_ne w592 y582 (fun z => by first | cases z | simp at z))
  have w617 := hk606 _ _ w593 (z_ne w593 y582 (fun z => by first | cases z | simp at z))
  have w618 := hk606 _ _ w594 (z_ne w594 y582 (fun z => by first | cases z | simp at z))
  have w619 := hk606 _ _ w595 (z_ne w595 y582 (fun z => by first | cases z | simp at z))
  have w620 := hk606 _ _ w596 (z_ne w596 y582 (fun z => by first | cases z | simp at z))
  have w621 := hk606 _ _ w597 (z_ne w597 y582 (fun z => by first | cases z | simp at z))
  have w622 := hk606 _ _ w598 (z_ne w598 y582 (fun z => by first | cases z | simp at z))
  have w623 := hk606 _ _ w599 (z_ne w599 y582 (fun z => by first | cases z | simp at z))
  have w624 := hk606 _ _ w579 (z_ne w579 y582 (fun z => by first | cases z | simp at z))
  have kp625 : ∀ x y, Y x = some y → x ≠ q → Y604 x = some y := fun x y h n => hk606 x y (kp601 x y h n) n
  have l626 : z_yl ks Y578 Y604 := z_yl_oth y582 (by decide) hk606
  have le627 : z_yl ks Y Y604 := le603.tr l626
  refine z_aloadn C 0 dX11_init_154 rfl rfl ?_
  refine z_iconst C dX11_init_155 ?_
  refine z_newI3 C (by omega) (by omega) (by omega) (by show _ + 4 ≤ _; omega) dX11_init_156 (fun q628 Y629 w630 hs631 hf632 => ?_)
  have y633 := hs631 _ _ y605
  have w634 := hs631 _ _ w607
  have w635 := hs631 _ _ w608
  have w636 := hs631 _ _ w609
  have w637 := hs631 _ _ w610
  have w638 := hs631 _ _ w611
  have w639 := hs631 _ _ w612
  have w640 := hs631 _ _ w613
  have w641 := hs631 _ _ w614
  have w642 := hs631 _ _ w615
  have w643 := hs631 _ _ w616
  have w644 := hs631 _ _ w617
  have w645 := hs631 _ _ w618
  have w646 := hs631 _ _ w619
  have w647 := hs631 _ _ w620
  have w648 := hs631 _ _ w621
  have w649 := hs631 _ _ w622
  have w650 := hs631 _ _ w623
  have w651 := hs631 _ _ w624
  have lt652 : q577 < q628 := hf632 _ _ w624
  have kp653 : ∀ x y, Y x = some y → x ≠ q → Y629 x = some y := fun x y h n => hs631 x y (kp625 x y h n)
  have l654 : z_yl ks Y604 Y629 := z_yl_sub hs631
  have le655 : z_yl ks Y Y629 := le627.tr l654
  refine z_wide (k := 19) (n := 3165) (Nat.le_refl _) (Nat.le_refl _) ?_
  refine z_put3 (fs' := [z_v 0, .ref q1, .ref q18, .ref q37, .ref q58, .ref q81, .ref q106, .ref q133, .ref q162, .ref q193, z_v 1, z_v 0, z_v 0, .ref q241, .ref q276, .ref q313, .ref q352, .ref q393, .ref q436, .ref q481, .ref q528, .ref q577, .ref q628, .null, .null, z_v 0, z_v 0, .null, .null, z_v 0, z_v 0, .long 0]) C y633 rfl z_it11 tyX11 tyX11_ok nmX11 22 (by decide) rfl (Or.inr ⟨rfl, hnm, rfl⟩) fl_11_68 (tyX11_ok 22 (by decide)) rfl rfl (Nat.le_of_ble_eq_true rfl) dX11_init_158 rfl (fun Y656 y657 hk658 => ?_)
  have w659 := hk658 _ _ w634 (z_ne w634 y633 (fun z => by first | cases z | simp at z))
  have w660 := hk658 _ _ w635 (z_ne w635 y633 (fun z => by first | cases z | simp at z))
  have w661 := hk658 _ _ w636 (z_ne w636 y633 (fun z => by first | cases z | simp at z))
  have w662 := hk658 _ _ w637 (z_ne w637 y633 (fun z => by first | cases z | simp at z))
  have w663 := hk658 _ _ w638 (z_ne w638 y633 (fun z => by first | cases z | simp at z))
  have w664 := hk658 _ _ w639 (z_ne w639 y633 (fun z => by first | cases z | simp at z))
  have w665 := hk658 _ _ w640 (z_ne w640 y633 (fun z => by first | cases z | simp at z))
  have w666 := hk658 _ _ w641 (z_ne w641 y633 (fun z => by first | cases z | simp at z))
  have w667 := hk658 _ _ w642 (z_ne w642 y633 (fun z => by first | cases z | simp at z))
  have w668 := hk658 _ _ w643 (z_ne w643 y633 (fun z => by first | cases z | simp at z))
  have w669 := hk658 _ _ w644 (z_ne w644 y633 (fun z => by first | cases z | simp at z))
  have w670 := hk658 _ _ w645 (z_ne w645 y633 (fun z => by first | cases z | simp at z))
  have w671 := hk658 _ _ w646 (z_ne w646 y633 (fun z => by first | cases z | simp at z))
  have w672 := hk658 _ _ w647 (z_ne w647 y633 (fun z => by first | cases z | simp at z))
  have w673 := hk658 _ _ w648 (z_ne w648 y633 (fun z => by first | cases z | simp at z))
  have w674 := hk658 _ _ w649 (z_ne w649 y633 (fun z => by first | cases z | simp at z))
  have w675 := hk658 _ _ w650 (z_ne w650 y633 (fun z => by first | cases z | simp at z))
  have w676 := hk658 _ _ w651 (z_ne w651 y633 (fun z => by first | cases z | simp at z))
  have w677 := hk658 _ _ w630 (z_ne w630 y633 (fun z => by first | cases z | simp at z))
  have kp678 : ∀ x y, Y x = some y → x ≠ q → Y656 x = some y := fun x y h n => hk658 x y (kp653 x y h n) n
  have l679 : z_yl ks Y629 Y656 := z_yl_oth y633 (by decide) hk658
  have le680 : z_yl ks Y Y656 := le655.tr l679
  refine z_aloadn C 0 dX11_init_161 rfl rfl ?_
  refine z_bipush C dX11_init_162 (by decide) ?_
  refine z_newI3 C (by omega) (by omega) (by omega) (by show _ + 42 ≤ _; omega) dX11_init_164 (fun q681 Y682 w683 hs684 hf685 => ?_)
  have y686 := hs684 _ _ y657
  have w687 := hs684 _ _ w659
  have w688 := hs684 _ _ w660
  have w689 := hs684 _ _ w661
  have w690 := hs684 _ _ w662
  have w691 := hs684 _ _ w663
  have w692 := hs684 _ _ w664
  have w693 := hs684 _ _ w665
  have w694 := hs684 _ _ w666
  have w695 := hs684 _ _ w667
  have w696 := hs684 _ _ w668
  have w697 := hs684 _ _ w669
  have w698 := hs684 _ _ w670
  have w699 := hs684 _ _ w671
  have w700 := hs684 _ _ w672
  have w701 := hs684 _ _ w673
  have w702 := hs684 _ _ w674
  have w703 := hs684 _ _ w675
  have w704 := hs684 _ _ w676
  have w705 := hs684 _ _ w677
  have lt706 : q628 < q681 := hf685 _ _ w677
  have kp707 : ∀ x y, Y x = some y → x ≠ q → Y682 x = some y := fun x y h n => hs684 x y (kp678 x y h n)
  have l708 : z_yl ks Y656 Y682 := z_yl_sub hs684
  have le709 : z_yl ks Y Y682 := le680.tr l708
  refine z_wide (k := 20) (n := 3207) (Nat.le_refl _) (Nat.le_refl _) ?_
  refine z_put3 (fs' := [z_v 0, .ref q1, .ref q18, .ref q37, .ref q58, .ref q81, .ref q106, .ref q133, .ref q162, .ref q193, z_v 1, z_v 0, z_v 0, .ref q241, .ref q276, .ref q313, .ref q352, .ref q393, .ref q436, .ref q481, .ref q528, .ref q577, .ref q628, .ref q681, .null, z_v 0, z_v 0, .null, .null, z_v 0, z_v 0, .long 0]) C y686 rfl z_it11 tyX11 tyX11_ok nmX11 23 (by decide) rfl (Or.inr ⟨rfl, hnm, rfl⟩) fl_11_71 (tyX11_ok 23 (by decide)) rfl rfl (Nat.le_of_ble_eq_true rfl) dX11_init_166 rfl (fun Y710 y711 hk712 => ?_)
  have w713 := hk712 _ _ w687 (z_ne w687 y686 (fun z => by first | cases z | simp at z))
  have w714 := hk712 _ _ w688 (z_ne w688 y686 (fun z => by first | cases z | simp at z))
  have w715 := hk712 _ _ w689 (z_ne w689 y686 (fun z => by first | cases z | simp at z))
  have w716 := hk712 _ _ w690 (z_ne w690 y686 (fun z => by first | cases z | simp at z))
  have w717 := hk712 _ _ w691 (z_ne w691 y686 (fun z => by first | cases z | simp at z))
  have w718 := hk712 _ _ w692 (z_ne w692 y686 (fun z => by first | cases z | simp at z))
  have w719 := hk712 _ _ w693 (z_ne w693 y686 (fun z => by first | cases z | simp at z))
  have w720 := hk712 _ _ w694 (z_ne w694 y686 (fun z => by first | cases z | simp at z))
  have w721 := hk712 _ _ w695 (z_ne w695 y686 (fun z => by first | cases z | simp at z))
  have w722 := hk712 _ _ w696 (z_ne w696 y686 (fun z => by first | cases z | simp at z))
  have w723 := hk712 _ _ w697 (z_ne w697 y686 (fun z => by first | cases z | simp at z))
  have w724 := hk712 _ _ w698 (z_ne w698 y686 (fun z => by first | cases z | simp at z))
  have w725 := hk712 _ _ w699 (z_ne w699 y686 (fun z => by first | cases z | simp at z))
  have w726 := hk712 _ _ w700 (z_ne w700 y686 (fun z => by first | cases z | simp at z))
  have w727 := hk712 _ _ w701 (z_ne w701 y686 (fun z => by first | cases z | simp at z))
  have w728 := hk712 _ _ w702 (z_ne w702 y686 (fun z => by first | cases z | simp at z))
  have w729 := hk712 _ _ w703 (z_ne w703 y686 (fun z => by first | cases z | simp at z))
  have w730 := hk712 _ _ w704 (z_ne w704 y686 (fun z => by first | cases z | simp at z))
  have w731 := hk712 _ _ w705 (z_ne w705 y686 (fun z => by first | cases z | simp at z))
  have w732 := hk712 _ _ w683 (z_ne w683 y686 (fun z => by first | cases z | simp at z))
  have kp733 : ∀ x y, Y x = some y → x ≠ q → Y710 x = some y := fun x y h n => hk712 x y (kp707 x y h n) n
  have l734 : z_yl ks Y682 Y710 := z_yl_oth y686 (by decide) hk712
  have le735 : z_yl ks Y Y710 := le709.tr l734
  refine z_aloadn C 0 dX11_init_169 rfl rfl ?_
  refine z_bipush C dX11_init_170 (by decide) ?_
  refine z_newI3 C (by omega) (by omega) (by omega) (by show _ + 42 ≤ _; omega) dX11_init_172 (fun q736 Y737 w738 hs739 hf740 => ?_)
  have y741 := hs739 _ _ y711
  have w742 := hs739 _ _ w713
  have w743 := hs739 _ _ w714
  have w744 := hs739 _ _ w715
  have w745 := hs739 _ _ w716
  have w746 := hs739 _ _ w717
  have w747 := hs739 _ _ w718
  have w748 := hs739 _ _ w719
  have w749 := hs739 _ _ w720
  have w750 := hs739 _ _ w721
  have w751 := hs739 _ _ w722
  have w752 := hs739 _ _ w723
  have w753 := hs739 _ _ w724
  have w754 := hs739 _ _ w725
  have w755 := hs739 _ _ w726
  have w756 := hs739 _ _ w727
  have w757 := hs739 _ _ w728
  have w758 := hs739 _ _ w729
  have w759 := hs739 _ _ w730
  have w760 := hs739 _ _ w731
  have w761 := hs739 _ _ w732
  have lt762 : q681 < q736 := hf740 _ _ w732
  have kp763 : ∀ x y, Y x = some y → x ≠ q → Y737 x = some y := fun x y h n => hs739 x y (kp733 x y h n)
  have l764 : z_yl ks Y710 Y737 := z_yl_sub hs739
  have le765 : z_yl ks Y Y737 := le735.tr l764
  refine z_wide (k := 21) (n := 3249) (Nat.le_refl _) (Nat.le_refl _) ?_
  refine z_put3 (fs' := [z_v 0, .ref q1, .ref q18, .ref q37, .ref q58, .ref q81, .ref q106, .ref q133, .ref q162, .ref q193, z_v 1, z_v 0, z_v 0, .ref q241, .ref q276, .ref q313, .ref q352, .ref q393, .ref q436, .ref q481, .ref q528, .ref q577, .ref q628, .ref q681, .ref q736, z_v 0, z_v 0, .null, .null, z_v 0, z_v 0, .long 0]) C y741 rfl z_it11 tyX11 tyX11_ok nmX11 24 (by decide) rfl (Or.inr ⟨rfl, hnm, rfl⟩) fl_11_74 (tyX11_ok 24 (by decide)) rfl rfl (Nat.le_of_ble_eq_true rfl) dX11_init_174 rfl (fun Y766 y767 hk768 => ?_)
  have w769 := hk768 _ _ w742 (z_ne w742 y741 (fun z => by first | cases z | simp at z))
  have w770 := hk768 _ _ w743 (z_ne w743 y741 (fun z => by first | cases z | simp at z))
  have w771 := hk768 _ _ w744 (z_ne w744 y741 (fun z => by first | cases z | simp at z))
  have w772 := hk768 _ _ w745 (z_ne w745 y741 (fun z => by first | cases z | simp at z))
  have w773 := hk768 _ _ w746 (z_ne w746 y741 (fun z => by first | cases z | simp at z))
  have w774 := hk768 _ _ w747 (z_ne w747 y741 (fun z => by first | cases z | simp at z))
  have w775 := hk768 _ _ w748 (z_ne w748 y741 (fun z => by first | cases z | simp at z))
  have w776 := hk768 _ _ w749 (z_ne w749 y741 (fun z => by first | cases z | simp at z))
  have w777 := hk768 _ _ w750 (z_ne w750 y741 (fun z => by first | cases z | simp at z))
  have w778 := hk768 _ _ w751 (z_ne w751 y741 (fun z => by first | cases z | simp at z))
  have w779 := hk768 _ _ w752 (z_ne w752 y741 (fun z => by first | cases z | simp at z))
  have w780 := hk768 _ _ w753 (z_ne w753 y741 (fun z => by first | cases z | simp at z))
  have w781 := hk768 _ _ w754 (z_ne w754 y741 (fun z => by first | cases z | simp at z))
  have w782 := hk768 _ _ w755 (z_ne w755 y741 (fun z => by first | cases z | simp at z))
  have w783 := hk768 _ _ w756 (z_ne w756 y741 (fun z => by first | cases z | simp at z))
  have w784 := hk768 _ _ w757 (z_ne w757 y741 (fun z => by first | cases z | simp at z))
  have w785 := hk768 _ _ w758 (z_ne w758 y741 (fun z => by first | cases z | simp at z))
  have w786 := hk768 _ _ w759 (z_ne w759 y741 (fun z => by first | cases z | simp at z))
  have w787 := hk768 _ _ w760 (z_ne w760 y741 (fun z => by first | cases z | simp at z))
  have w788 := hk768 _ _ w761 (z_ne w761 y741 (fun z => by first | cases z | simp at z))
  have w789 := hk768 _ _ w738 (z_ne w738 y741 (fun z => by first | cases z | simp at z))
  have kp790 : ∀ x y, Y x = some y → x ≠ q → Y766 x = some y := fun x y h n => hk768 x y (kp763 x y h n) n
  have l791 : z_yl ks Y737 Y766 := z_yl_oth y741 (by decide) hk768
  have le792 : z_yl ks Y Y766 := le765.tr l791
  refine z_aloadn C 0 dX11_init_177 rfl rfl ?_
  refine z_iconst C dX11_init_178 ?_
  refine z_newI3 C (by omega) (by omega) (by omega) (by show _ + 3 ≤ _; omega) dX11_init_179 (fun q793 Y794 w795 hs796 hf797 => ?_)
  have y798 := hs796 _ _ y767
  have w799 := hs796 _ _ w769
  have w800 := hs796 _ _ w770
  have w801 := hs796 _ _ w771
  have w802 := hs796 _ _ w772
  have w803 := hs796 _ _ w773
  have w804 := hs796 _ _ w774
  have w805 := hs796 _ _ w775
  have w806 := hs796 _ _ w776
  have w807 := hs796 _ _ w777
  have w808 := hs796 _ _ w778
  have w809 := hs796 _ _ w779
  have w810 := hs796 _ _ w780
  have w811 := hs796 _ _ w781
  have w812 := hs796 _ _ w782
  have w813 := hs796 _ _ w783
  have w814 := hs796 _ _ w784
  have w815 := hs796 _ _ w785
  have w816 := hs796 _ _ w786
  have w817 := hs796 _ _ w787
  have w818 := hs796 _ _ w788
  have w819 := hs796 _ _ w789
  have lt820 : q736 < q793 := hf797 _ _ w789
  have kp821 : ∀ x y, Y x = some y → x ≠ q → Y794 x = some y := fun x y h n => hs796 x y (kp790 x y h n)
  have l822 : z_yl ks Y766 Y794 := z_yl_sub hs796
  have le823 : z_yl ks Y Y794 := le792.tr l822
  refine z_wide (k := 22) (n := 3252) (Nat.le_refl _) (Nat.le_refl _) ?_
  refine z_put3 (fs' := [z_v 0, .ref q1, .ref q18, .ref q37, .ref q58, .ref q81, .ref q106, .ref q133, .ref q162, .ref q193, z_v 1, z_v 0, z_v 0, .ref q241, .ref q276, .ref q313, .ref q352, .ref q393, .ref q436, .ref q481, .ref q528, .ref q577, .ref q628, .ref q681, .ref q736, z_v 0, z_v 0, .ref q793, .null, z_v 0, z_v 0, .long 0]) C y798 rfl z_it11 tyX11 tyX11_ok nmX11 27 (by decide) rfl (Or.inr ⟨rfl, hnm, rfl⟩) fl_11_77 (tyX11_ok 27 (by decide)) rfl rfl (Nat.le_of_ble_eq_true rfl) dX11_init_181 rfl (fun Y824 y825 hk826 => ?_)
  have w827 := hk826 _ _ w799 (z_ne w799 y798 (fun z => by first | cases z | simp at z))
  have w828 := hk826 _ _ w800 (z_ne w800 y798 (fun z => by first | cases z | simp at z))
  have w829 := hk826 _ _ w801 (z_ne w801 y798 (fun z => by first | cases z | simp at z))
  have w830 := hk826 _ _ w802 (z_ne w802 y798 (fun z => by first | cases z | simp at z))
  have w831 := hk826 _ _ w803 (z_ne w803 y798 (fun z => by first | cases z | simp at z))
  have w832 := hk826 _ _ w804 (z_ne w804 y798 (fun z => by first | cases z | simp at z))
  have w833 := hk826 _ _ w805 (z_ne w805 y798 (fun z => by first | cases z | simp at z))
  have w834 := hk826 _ _ w806 (z_ne w806 y798 (fun z => by first | cases z | simp at z))
  have w835 := hk826 _ _ w807 (z_ne w807 y798 (fun z => by first | cases z | simp at z))
  have w836 := hk826 _ _ w808 (z_ne w808 y798 (fun z => by first | cases z | simp at z))
  have w837 := hk826 _ _ w809 (z_ne w809 y798 (fun z => by first | cases z | simp at z))
  have w838 := hk826 _ _ w810 (z_ne w810 y798 (fun z => by first | cases z | simp at z))
  have w839 := hk826 _ _ w811 (z_ne w811 y798 (fun z => by first | cases z | simp at z))
  have w840 := hk826 _ _ w812 (z_ne w812 y798 (fun z => by first | cases z | simp at z))
  have w841 := hk826 _ _ w813 (z_ne w813 y798 (fun z => by first | cases z | simp at z))
  have w842 := hk826 _ _ w814 (z_ne w814 y798 (fun z => by first | cases z | simp at z))
  have w843 := hk826 _ _ w815 (z_ne w815 y798 (fun z => by first | cases z | simp at z))
  have w844 := hk826 _ _ w816 (z_ne w816 y798 (fun z => by first | cases z | simp at z))
  have w845 := hk826 _ _ w817 (z_ne w817 y798 (fun z => by first | cases z | simp at z))
  have w846 := hk826 _ _ w818 (z_ne w818 y798 (fun z => by first | cases z | simp at z))
  have w847 := hk826 _ _ w819 (z_ne w819 y798 (fun z => by first | cases z | simp at z))
  have w848 := hk826 _ _ w795 (z_ne w795 y798 (fun z => by first | cases z | simp at z))
  have kp849 : ∀ x y, Y x = some y → x ≠ q → Y824 x = some y := fun x y h n => hk826 x y (kp821 x y h n) n
  have l850 : z_yl ks Y794 Y824 := z_yl_oth y798 (by decide) hk826
  have le851 : z_yl ks Y Y824 := le823.tr l850
  refine z_aloadn C 0 dX11_init_184 rfl rfl ?_
  refine z_iconst C dX11_init_185 ?_
  refine z_newI3 C (by omega) (by omega) (by omega) (by show _ + 4 ≤ _; omega) dX11_init_186 (fun q852 Y853 w854 hs855 hf856 => ?_)
  have y857 := hs855 _ _ y825
  have w858 := hs855 _ _ w827
  have w859 := hs855 _ _ w828
  have w860 := hs855 _ _ w829
  have w861 := hs855 _ _ w830
  have w862 := hs855 _ _ w831
  have w863 := hs855 _ _ w832
  have w864 := hs855 _ _ w833
  have w865 := hs855 _ _ w834
  have w866 := hs855 _ _ w835
  have w867 := hs855 _ _ w836
  have w868 := hs855 _ _ w837
  have w869 := hs855 _ _ w838
  have w870 := hs855 _ _ w839
  have w871 := hs855 _ _ w840
  have w872 := hs855 _ _ w841
  have w873 := hs855 _ _ w842
  have w874 := hs855 _ _ w843
  have w875 := hs855 _ _ w844
  have w876 := hs855 _ _ w845
  have w877 := hs855 _ _ w846
  have w878 := hs855 _ _ w847
  have w879 := hs855 _ _ w848
  have lt880 : q793 < q852 := hf856 _ _ w848
  have kp881 : ∀ x y, Y x = some y → x ≠ q → Y853 x = some y := fun x y h n => hs855 x y (kp849 x y h n)
  have l882 : z_yl ks Y824 Y853 := z_yl_sub hs855
  have le883 : z_yl ks Y Y853 := le851.tr l882
  refine z_wide (k := 23) (n := 3256) (Nat.le_refl _) (Nat.le_refl _) ?_
  refine z_put3 (fs' := [z_v 0, .ref q1, .ref q18, .ref q37, .ref q58, .ref q81, .ref q106, .ref q133, .ref q162, .ref q193, z_v 1, z_v 0, z_v 0, .ref q241, .ref q276, .ref q313, .ref q352, .ref q393, .ref q436, .ref q481, .ref q528, .ref q577, .ref q628, .ref q681, .ref q736, z_v 0, z_v 0, .ref q793, .ref q852, z_v 0, z_v 0, .long 0]) C y857 rfl z_it11 tyX11 tyX11_ok nmX11 28 (by decide) rfl (Or.inr ⟨rfl, hnm, rfl⟩) fl_11_80 (tyX11_ok 28 (by decide)) rfl rfl (Nat.le_of_ble_eq_true rfl) dX11_init_188 rfl (fun Y884 y885 hk886 => ?_)
  have w887 := hk886 _ _ w858 (z_ne w858 y857 (fun z => by first | cases z | simp at z))
  have w888 := hk886 _ _ w859 (z_ne w859 y857 (fun z => by first | cases z | simp at z))
  have w889 := hk886 _ _ w860 (z_ne w860 y857 (fun z => by first | cases z | simp at z))
  have w890 := hk886 _ _ w861 (z_ne w861 y857 (fun z => by first | cases z | simp at z))
  have w891 := hk886 _ _ w862 (z_ne w862 y857 (fun z => by first | cases z | simp at z))
  have w892 := hk886 _ _ w863 (z_ne w863 y857 (fun z => by first | cases z | simp at z))
  have w893 := hk886 _ _ w864 (z_ne w864 y857 (fun z => by first | cases z | simp at z))
  have w894 := hk886 _ _ w865 (z_ne w865 y857 (fun z => by first | cases z | simp at z))
  have w895 := hk886 _ _ w866 (z_ne w866 y857 (fun z => by first | cases z | simp at z))
  have w896 := hk886 _ _ w867 (z_ne w867 y857 (fun z => by first | cases z | simp at z))
  have w897 := hk886 _ _ w868 (z_ne w868 y857 (fun z => by first | cases z | simp at z))
  have w898 := hk886 _ _ w869 (z_ne w869 y857 (fun z => by first | cases z | simp at z))
  have w899 := hk886 _ _ w870 (z_ne w870 y857 (fun z => by first | cases z | simp at z))
  have w900 := hk886 _ _ w871 (z_ne w871 y857 (fun z => by first | cases z | simp at z))
  have w901 := hk886 _ _ w872 (z_ne w872 y857 (fun z => by first | cases z | simp at z))
  have w902 := hk886 _ _ w873 (z_ne w873 y857 (fun z => by first | cases z | simp at z))
  have w903 := hk886 _ _ w874 (z_ne w874 y857 (fun z => by first | cases z | simp at z))
  have w904 := hk886 _ _ w875 (z_ne w875 y857 (fun z => by first | cases z | simp at z))
  have w905 := hk886 _ _ w876 (z_ne w876 y857 (fun z => by first | cases z | simp at z))
  have w906 := hk886 _ _ w877 (z_ne w877 y857 (fun z => by first | cases z | simp at z))
  have w907 := hk886 _ _ w878 (z_ne w878 y857 (fun z => by first | cases z | simp at z))
  have w908 := hk886 _ _ w879 (z_ne w879 y857 (fun z => by first | cases z | simp at z))
  have w909 := hk886 _ _ w854 (z_ne w854 y857 (fun z => by first | cases z | simp at z))
  have kp910 : ∀ x y, Y x = some y → x ≠ q → Y884 x = some y := fun x y h n => hk886 x y (kp881 x y h n) n
  have l911 : z_yl ks Y853 Y884 := z_yl_oth y857 (by decide) hk886
  have le912 : z_yl ks Y Y884 := le883.tr l911
  refine z_aloadn C 0 dX11_init_191 rfl rfl ?_
  refine z_iconst C dX11_init_192 ?_
  refine z_put3 (fs' := [z_v 0, .ref q1, .ref q18, .ref q37, .ref q58, .ref q81, .ref q106, .ref q133, .ref q162, .ref q193, z_v 1, z_v 0, z_v 0, .ref q241, .ref q276, .ref q313, .ref q352, .ref q393, .ref q436, .ref q481, .ref q528, .ref q577, .ref q628, .ref q681, .ref q736, z_v 0, z_v 0, .ref q793, .ref q852, z_v 0, z_v 0, .long 0]) C y885 rfl z_it11 tyX11 tyX11_ok nmX11 26 (by decide) rfl (Or.inl rfl) fl_11_83 z_pfZ (z_nbZ (by omega)).1 (z_nbZ (by omega)).2 (Nat.le_of_ble_eq_true rfl) dX11_init_193 rfl (fun Y913 y914 hk915 => ?_)
  have w916 := hk915 _ _ w887 (z_ne w887 y885 (fun z => by first | cases z | simp at z))
  have w917 := hk915 _ _ w888 (z_ne w888 y885 (fun z => by first | cases z | simp at z))
  have w918 := hk915 _ _ w889 (z_ne w889 y885 (fun z => by first | cases z | simp at z))
  have w919 := hk915 _ _ w890 (z_ne w890 y885 (fun z => by first | cases z | simp at z))
  have w920 := hk915 _ _ w891 (z_ne w891 y885 (fun z => by first | cases z | simp at z))
  have w921 := hk915 _ _ w892 (z_ne w892 y885 (fun z => by first | cases z | simp at z))
  have w922 := hk915 _ _ w893 (z_ne w893 y885 (fun z => by first | cases z | simp at z))
  have w923 := hk915 _ _ w894 (z_ne w894 y885 (fun z => by first | cases z | simp at z))
  have w924 := hk915 _ _ w895 (z_ne w895 y885 (fun z => by first | cases z | simp at z))
  have w925 := hk915 _ _ w896 (z_ne w896 y885 (fun z => by first | cases z | simp at z))
  have w926 := hk915 _ _ w897 (z_ne w897 y885 (fun z => by first | cases z | simp at z))
  have w927 := hk915 _ _ w898 (z_ne w898 y885 (fun z => by first | cases z | simp at z))
  have w928 := hk915 _ _ w899 (z_ne w899 y885 (fun z => by first | cases z | simp at z))
  have w929 := hk915 _ _ w900 (z_ne w900 y885 (fun z => by first | cases z | simp at z))
  have w930 := hk915 _ _ w901 (z_ne w901 y885 (fun z => by first | cases z | simp at z))
  have w931 := hk915 _ _ w902 (z_ne w902 y885 (fun z => by first | cases z | simp at z))
  have w932 := hk915 _ _ w903 (z_ne w903 y885 (fun z => by first | cases z | simp at z))
  have w933 := hk915 _ _ w904 (z_ne w904 y885 (fun z => by first | cases z | simp at z))
  have w934 := hk915 _ _ w905 (z_ne w905 y885 (fun z => by first | cases z | simp at z))
  have w935 := hk915 _ _ w906 (z_ne w906 y885 (fun z => by first | cases z | simp at z))
  have w936 := hk915 _ _ w907 (z_ne w907 y885 (fun z => by first | cases z | simp at z))
  have w937 := hk915 _ _ w908 (z_ne w908 y885 (fun z => by first | cases z | simp at z))
  have w938 := hk915 _ _ w909 (z_ne w909 y885 (fun z => by first | cases z | simp at z))
  have kp939 : ∀ x y, Y x = some y → x ≠ q → Y913 x = some y := fun x y h n => hk915 x y (kp910 x y h n) n
  have l940 : z_yl ks Y884 Y913 := z_yl_oth y885 (by decide) hk915
  have le941 : z_yl ks Y Y913 := le912.tr l940
  rw [hQ]
  exact z_vret C hrt dX11_init_196 (⟨q1, q18, q37, q58, q81, q106, q133, q162, q193, q241, q276, q313, q352, q393, q436, q481, q528, q577, q628, q681, q736, q793, q852, rfl, kp939, y914, w916, w917, w918, w919, w920, w921, w922, w923, w924, w925, w926, w927, w928, w929, w930, w931, w932, w933, w934, w935, w936, w937, w938, fst7, lt25, lt45, lt67, lt91, lt117, lt145, lt175, lt207, lt256, lt292, lt330, lt370, lt412, lt456, lt502, lt550, lt600, lt652, lt706, lt762, lt820, lt880, rfl⟩) (by omega) (by omega)
