set_option maxRecDepth 20000 in
theorem cx_X0_init (l : Launch) {D : va_G} {A : Nat → Prop} {ad : Nat → Nat} {ks : z_Ks} {N : Nat} {S : Nat → va_E} {Y : Nat → Option va_E} (m0 f0 t0 k0 r0 : Int) (q : Nat) (hY : Y q = some (z_ob 0 [z_v 0, z_v 0, z_v 0, z_v 0, z_v 0, .null])) : z_Met l yX0_init cX0_init 6 none 2 40 2 4 D A N ad ks [.ref q, z_v m0, z_v f0, z_v t0, z_v k0, z_v r0] S Y (fun r S' Y' => ∃ g t : Nat, S = S' ∧ (∀ x y, Y x = some y → x ≠ q → Y' x = some y) ∧ Y' q = some (z_ob 0 [z_v m0, z_v f0, z_v t0, z_v k0, z_v r0, .ref g]) ∧ Y' g = some (z_ob 6 [.ref t, z_v 0]) ∧ Y' t = some (z_rr ks.2.2.2.2 2 (fun _ => none)) ∧ (∀ x y, Y x = some y → x < g) ∧ g < t ∧ r = none) := by
  refine z_start2 (by decide) (Nat.le_of_ble_eq_true rfl) ?_
  intro p e R s m args below meth c Q C hRf hRc hRs hRl hQ hrt hnm
  refine z_loc (L' := [(0, .ref q), (1, z_v m0), (2, z_v f0), (3, z_v t0), (4, z_v k0), (5, z_v r0)]) [0, 1, 2, 3, 4, 5] rfl ?_
  refine z_aloadn C 0 dX0_init_0 rfl rfl ?_
  refine z_obj C mo_0_1 (by omega) (by rw [hRl]; exact Nat.le_of_ble_eq_true rfl) dX0_init_1 ?_
  refine z_aloadn C 0 dX0_init_4 rfl rfl ?_
  refine z_new3 (r := (RX6, TX6, 2)) (ci := 6) (fs := [.null, z_v 0]) C rfl z_it6 tyX6 tyX6_ok nw_0_7 (fun j hj => match j, hj with | 0, _ => rfl | 1, _ => rfl | n + 2, h => absurd h (by show ¬ (n + 2 < 2); omega)) (by omega) (by show _ + 2 ≤ _; omega) dX0_init_5 (fun q1 Y2 y3 hs4 hf5 => ?_)
  have y6 := hs4 _ _ hY
  have kp7 : ∀ x y, Y x = some y → x ≠ q → Y2 x = some y := fun x y h n => hs4 x y ((fun x y h _ => h) x y h n)
  refine z_wide (k := 1) (n := 2) (Nat.le_refl _) (Nat.le_refl _) ?_
  refine z_dup C dX0_init_8 rfl ?_
  refine z_callN C (cm_X6_init l q1 y3) C.2.2.2.2.2.2.1.2.2.2.2.2.2.2 mv_0_9 rfl pd_X6_init ⟨by omega, by omega⟩ ⟨by omega, by omega⟩ rfl (Nat.le_of_ble_eq_true rfl) dX0_init_9 ?_
  rintro _ _ Y8 ⟨tt, rfl, hk9, y10, ww, hlt, rfl⟩
  have y11 := hk9 _ _ y6 (z_ne y6 y3 (fun z => by first | cases z | simp at z))
  have kp12 : ∀ x y, Y x = some y → x ≠ q → Y8 x = some y := fun x y h n => hk9 x y (kp7 x y h n) (Nat.ne_of_lt (hf5 x y ((fun x y h _ => h) x y h n)))
  refine z_wide (k := 2) (n := 4) (Nat.le_refl _) (Nat.le_refl _) ?_
  have gtt := hlt _ _ y3
  refine z_put3 (fs' := [z_v 0, z_v 0, z_v 0, z_v 0, z_v 0, .ref q1]) C y11 rfl z_it0 tyX0 tyX0_ok nmX0 5 (by decide) rfl (Or.inr ⟨rfl, hnm, rfl⟩) fl_0_10 (tyX0_ok 5 (by decide)) rfl rfl (Nat.le_of_ble_eq_true rfl) dX0_init_12 rfl (fun Y13 y14 hk15 => ?_)
  have y16 := hk15 _ _ y10 (z_ne y10 y11 (fun z => by first | cases z | simp at z))
  have w17 := hk15 _ _ ww (z_ne ww y11 (fun z => by first | cases z | simp at z))
  have kp18 : ∀ x y, Y x = some y → x ≠ q → Y13 x = some y := fun x y h n => hk15 x y (kp12 x y h n) n
  refine z_aloadn C 0 dX0_init_15 rfl rfl ?_
  refine z_iloadn C 1 dX0_init_16 rfl rfl ?_
  refine z_put3 (fs' := [z_v m0, z_v 0, z_v 0, z_v 0, z_v 0, .ref q1]) C y14 rfl z_it0 tyX0 tyX0_ok nmX0 0 (by decide) rfl (Or.inr ⟨rfl, hnm, rfl⟩) fl_0_16 z_pfI rfl rfl (Nat.le_of_ble_eq_true rfl) dX0_init_17 rfl (fun Y19 y20 hk21 => ?_)
  have y22 := hk21 _ _ y16 (z_ne y16 y14 (fun z => by first | cases z | simp at z))
  have w23 := hk21 _ _ w17 (z_ne w17 y14 (fun z => by first | cases z | simp at z))
  have kp24 : ∀ x y, Y x = some y → x ≠ q → Y19 x = some y := fun x y h n => hk21 x y (kp18 x y h n) n
  refine z_aloadn C 0 dX0_init_20 rfl rfl ?_
  refine z_iloadn C 2 dX0_init_21 rfl rfl ?_
  refine z_put3 (fs' := [z_v m0, z_v f0, z_v 0, z_v 0, z_v 0, .ref q1]) C y20 rfl z_it0 tyX0 tyX0_ok nmX0 1 (by decide) rfl (Or.inr ⟨rfl, hnm, rfl⟩) fl_0_20 z_pfI rfl rfl (Nat.le_of_ble_eq_true rfl) dX0_init_22 rfl (fun Y25 y26 hk27 => ?_)
  have y28 := hk27 _ _ y22 (z_ne y22 y20 (fun z => by first | cases z | simp at z))
  have w29 := hk27 _ _ w23 (z_ne w23 y20 (fun z => by first | cases z | simp at z))
  have kp30 : ∀ x y, Y x = some y → x ≠ q → Y25 x = some y := fun x y h n => hk27 x y (kp24 x y h n) n
  refine z_aloadn C 0 dX0_init_25 rfl rfl ?_
  refine z_iloadn C 3 dX0_init_26 rfl rfl ?_
  refine z_put3 (fs' := [z_v m0, z_v f0, z_v t0, z_v 0, z_v 0, .ref q1]) C y26 rfl z_it0 tyX0 tyX0_ok nmX0 2 (by decide) rfl (Or.inr ⟨rfl, hnm, rfl⟩) fl_0_23 z_pfI rfl rfl (Nat.le_of_ble_eq_true rfl) dX0_init_27 rfl (fun Y31 y32 hk33 => ?_)
  have y34 := hk33 _ _ y28 (z_ne y28 y26 (fun z => by first | cases z | simp at z))
  have w35 := hk33 _ _ w29 (z_ne w29 y26 (fun z => by first | cases z | simp at z))
  have kp36 : ∀ x y, Y x = some y → x ≠ q → Y31 x = some y := fun x y h n => hk33 x y (kp30 x y h n) n
  refine z_aloadn C 0 dX0_init_30 rfl rfl ?_
  refine z_iload C 4 dX0_init_31 rfl ?_
  refine z_put3 (fs' := [z_v m0, z_v f0, z_v t0, z_v k0, z_v 0, .ref q1]) C y32 rfl z_it0 tyX0 tyX0_ok nmX0 3 (by decide) rfl (Or.inr ⟨rfl, hnm, rfl⟩) fl_0_26 z_pfI rfl rfl (Nat.le_of_ble_eq_true rfl) dX0_init_33 rfl (fun Y37 y38 hk39 => ?_)
  have y40 := hk39 _ _ y34 (z_ne y34 y32 (fun z => by first | cases z | simp at z))
  have w41 := hk39 _ _ w35 (z_ne w35 y32 (fun z => by first | cases z | simp at z))
  have kp42 : ∀ x y, Y x = some y → x ≠ q → Y37 x = some y := fun x y h n => hk39 x y (kp36 x y h n) n
  refine z_aloadn C 0 dX0_init_36 rfl rfl ?_
  refine z_iload C 5 dX0_init_37 rfl ?_
  refine z_put3 (fs' := [z_v m0, z_v f0, z_v t0, z_v k0, z_v r0, .ref q1]) C y38 rfl z_it0 tyX0 tyX0_ok nmX0 4 (by decide) rfl (Or.inr ⟨rfl, hnm, rfl⟩) fl_0_29 z_pfI rfl rfl (Nat.le_of_ble_eq_true rfl) dX0_init_39 rfl (fun Y43 y44 hk45 => ?_)
  have y46 := hk45 _ _ y40 (z_ne y40 y38 (fun z => by first | cases z | simp at z))
  have w47 := hk45 _ _ w41 (z_ne w41 y38 (fun z => by first | cases z | simp at z))
  have kp48 : ∀ x y, Y x = some y → x ≠ q → Y43 x = some y := fun x y h n => hk45 x y (kp42 x y h n) n
  rw [hQ]
  exact z_vret C hrt dX0_init_42 (⟨_, _, rfl, kp48, y44, y46, w47, hf5, gtt, rfl⟩) (by omega) (by omega)
set_option maxRecDepth 20000 in
theorem cx_X1_init (l : Launch) {D : va_G} {A : Nat → Prop} {ad : Nat → Nat} {ks : z_Ks} {N : Nat} {S : Nat → va_E} {Y : Nat → Option va_E} {m1 f1 t1 k1 r1 m2 f2 t2 k2 r2 : Int} {g1 g2 : Nat} (f0 s0 : Int) (q a b : Nat) (hY : Y q = some (z_ob 1 [z_v 0, z_v 0, .null, .null, z_v 0])) (ha : Y a = some (z_ob 0 [z_v m1, z_v f1, z_v t1, z_v k1, z_v r1, .ref g1])) (hb : Y b = some (z_ob 0 [z_v m2, z_v f2, z_v t2, z_v k2, z_v r2, .ref g2])) : z_Met l yX1_init cX1_init 5 none 1 20 0 0 D A N ad ks [.ref q, z_v f0, z_v s0, .ref a, .ref b] S Y (fun r S' Y' => ∃ z : Int, S = S' ∧ (∀ x y, Y x = some y → x ≠ q → Y' x = some y) ∧ Y' q = some (z_ob 1 [z_v f0, z_v s0, .ref a, .ref b, z_v z]) ∧ z_rg z ∧ z = (z_i r1 ||| z_i r2).toInt ∧ r = none) := by
  refine z_start2 (by decide) (Nat.le_of_ble_eq_true rfl) ?_
  intro p e R s m args below meth c Q C hRf hRc hRs hRl hQ hrt hnm
  refine z_loc (L' := [(0, .ref q), (1, z_v f0), (2, z_v s0), (3, .ref a), (4, .ref b)]) [0, 1, 2, 3, 4] rfl ?_
  refine z_aloadn C 0 dX1_init_0 rfl rfl ?_
  refine z_obj C mo_1_1 (by omega) (by rw [hRl]; exact Nat.le_of_ble_eq_true rfl) dX1_init_1 ?_
  refine z_aloadn C 0 dX1_init_4 rfl rfl ?_
  refine z_iloadn C 1 dX1_init_5 rfl rfl ?_
  refine z_put3 (fs' := [z_v f0, z_v 0, .null, .null, z_v 0]) C hY rfl z_it1 tyX1 tyX1_ok nmX1 0 (by decide) rfl (Or.inr ⟨rfl, hnm, rfl⟩) fl_1_7 z_pfI rfl rfl (Nat.le_of_ble_eq_true rfl) dX1_init_6 rfl (fun Y1 y2 hk3 => ?_)
  have y4 := hk3 _ _ ha (z_ne ha hY (fun z => by first | cases z | simp at z))
  have y5 := hk3 _ _ hb (z_ne hb hY (fun z => by first | cases z | simp at z))
  have kp6 : ∀ x y, Y x = some y → x ≠ q → Y1 x = some y := fun x y h n => hk3 x y ((fun x y h _ => h) x y h n) n
  refine z_aloadn C 0 dX1_init_9 rfl rfl ?_
  refine z_iloadn C 2 dX1_init_10 rfl rfl ?_
  refine z_put3 (fs' := [z_v f0, z_v s0, .null, .null, z_v 0]) C y2 rfl z_it1 tyX1 tyX1_ok nmX1 1 (by decide) rfl (Or.inr ⟨rfl, hnm, rfl⟩) fl_1_13 z_pfI rfl rfl (Nat.le_of_ble_eq_true rfl) dX1_init_11 rfl (fun Y7 y8 hk9 => ?_)
  have y10 := hk9 _ _ y4 (z_ne y4 y2 (fun z => by first | cases z | simp at z))
  have y11 := hk9 _ _ y5 (z_ne y5 y2 (fun z => by first | cases z | simp at z))
  have kp12 : ∀ x y, Y x = some y → x ≠ q → Y7 x = some y := fun x y h n => hk9 x y (kp6 x y h n) n
  refine z_aloadn C 0 dX1_init_14 rfl rfl ?_
  refine z_aloadn C 3 dX1_init_15 rfl rfl ?_
  refine z_put3 (fs' := [z_v f0, z_v s0, .ref a, .null, z_v 0]) C y8 rfl z_it1 tyX1 tyX1_ok nmX1 2 (by decide) rfl (Or.inr ⟨rfl, hnm, rfl⟩) fl_1_16 (tyX1_ok 2 (by decide)) rfl rfl (Nat.le_of_ble_eq_true rfl) dX1_init_16 rfl (fun Y13 y14 hk15 => ?_)
  have y16 := hk15 _ _ y10 (z_ne y10 y8 (fun z => by first | cases z | simp at z))
  have y17 := hk15 _ _ y11 (z_ne y11 y8 (fun z => by first | cases z | simp at z))
  have kp18 : ∀ x y, Y x = some y → x ≠ q → Y13 x = some y := fun x y h n => hk15 x y (kp12 x y h n) n
  refine z_aloadn C 0 dX1_init_19 rfl rfl ?_
  refine z_aload C 4 dX1_init_20 rfl ?_
  refine z_put3 (fs' := [z_v f0, z_v s0, .ref a, .ref b, z_v 0]) C y14 rfl z_it1 tyX1 tyX1_ok nmX1 3 (by decide) rfl (Or.inr ⟨rfl, hnm, rfl⟩) fl_1_20 (tyX1_ok 3 (by decide)) rfl rfl (Nat.le_of_ble_eq_true rfl) dX1_init_22 rfl (fun Y19 y20 hk21 => ?_)
  have y22 := hk21 _ _ y16 (z_ne y16 y14 (fun z => by first | cases z | simp at z))
  have y23 := hk21 _ _ y17 (z_ne y17 y14 (fun z => by first | cases z | simp at z))
  have kp24 : ∀ x y, Y x = some y → x ≠ q → Y19 x = some y := fun x y h n => hk21 x y (kp18 x y h n) n
  refine z_aloadn C 0 dX1_init_25 rfl rfl ?_
  refine z_aload C 4 dX1_init_26 rfl ?_
  refine z_ifnonnull (t := 38) C dX1_init_28 (by decide) ?_
  refine z_aloadn C 3 dX1_init_38 rfl rfl ?_
  refine z_getY C y22 rfl z_it0 4 (by decide) rfl fl_1_23 rfl dX1_init_39 ?_
  refine z_aload C 4 dX1_init_42 rfl ?_
  refine z_getY C y23 rfl z_it0 4 (by decide) rfl fl_1_23 rfl dX1_init_44 ?_
  obtain ⟨b25, hb25, rb25⟩ := z_bits (z_i r1 ||| z_i r2)
  refine z_ior C hb25 dX1_init_47 ?_
  have qb25 := z_bitsE hb25 rb25
  refine z_put3 (fs' := [z_v f0, z_v s0, .ref a, .ref b, z_v b25]) C y20 rfl z_it1 tyX1 tyX1_ok nmX1 4 (by decide) rfl (Or.inr ⟨rfl, hnm, rfl⟩) fl_1_28 z_pfI rfl rfl (Nat.le_of_ble_eq_true rfl) dX1_init_48 rfl (fun Y26 y27 hk28 => ?_)
  have y29 := hk28 _ _ y22 (z_ne y22 y20 (fun z => by first | cases z | simp at z))
  have y30 := hk28 _ _ y23 (z_ne y23 y20 (fun z => by first | cases z | simp at z))
  have kp31 : ∀ x y, Y x = some y → x ≠ q → Y26 x = some y := fun x y h n => hk28 x y (kp24 x y h n) n
  rw [hQ]
  exact z_vret C hrt dX1_init_51 (⟨b25, rfl, kp31, y27, by omega, by omega, rfl⟩) (by omega) (by omega)
set_option maxRecDepth 20000 in
theorem cx_X1_init_n (l : Launch) {D : va_G} {A : Nat → Prop} {ad : Nat → Nat} {ks : z_Ks} {N : Nat} {S : Nat → va_E} {Y : Nat → Option va_E} {m1 f1 t1 k1 r1 : Int} {g1 : Nat} (f0 s0 : Int) (q a : Nat) (hY : Y q = some (z_ob 1 [z_v 0, z_v 0, .null, .null, z_v 0])) (ha : Y a = some (z_ob 0 [z_v m1, z_v f1, z_v t1, z_v k1, z_v r1, .ref g1])) (hr : z_rg r1) : z_Met l yX1_init cX1_init 5 none 1 20 0 0 D A N ad ks [.ref q, z_v f0, z_v s0, .ref a, .null] S Y (fun r S' Y' => ∃ z : Int, S = S' ∧ (∀ x y, Y x = some y → x ≠ q → Y' x = some y) ∧ Y' q = some (z_ob 1 [z_v f0, z_v s0, .ref a, .null, z_v z]) ∧ z_rg z ∧ z = r1 ∧ r = none) := by
  refine z_start2 (by decide) (Nat.le_of_ble_eq_true rfl) ?_
  intro p e R s m args below meth c Q C hRf hRc hRs hRl hQ hrt hnm
  refine z_loc (L' := [(0, .ref q), (1, z_v f0), (2, z_v s0), (3, .ref a), (4, .null)]) [0, 1, 2, 3, 4] rfl ?_
  refine z_aloadn C 0 dX1_init_0 rfl rfl ?_
  refine z_obj C mo_1_1 (by omega) (by rw [hRl]; exact Nat.le_of_ble_eq_true rfl) dX1_init_1 ?_
  refine z_aloadn C 0 dX1_init_4 rfl rfl ?_
  refine z_iloadn C 1 dX1_init_5 rfl rfl ?_
  refine z_put3 (fs' := [z_v f0, z_v 0, .null, .null, z_v 0]) C hY rfl z_it1 tyX1 tyX1_ok nmX1 0 (by decide) rfl (Or.inr ⟨rfl, hnm, rfl⟩) fl_1_7 z_pfI rfl rfl (Nat.le_of_ble_eq_true rfl) dX1_init_6 rfl (fun Y1 y2 hk3 => ?_)
  have y4 := hk3 _ _ ha (z_ne ha hY (fun z => by first | cases z | simp at z))
  have kp5 : ∀ x y, Y x = some y → x ≠ q → Y1 x = some y := fun x y h n => hk3 x y ((fun x y h _ => h) x y h n) n
  refine z_aloadn C 0 dX1_init_9 rfl rfl ?_
  refine z_iloadn C 2 dX1_init_10 rfl rfl ?_
  refine z_put3 (fs' := [z_v f0, z_v s0, .null, .null, z_v 0]) C y2 rfl z_it1 tyX1 tyX1_ok nmX1 1 (by decide) rfl (Or.inr ⟨rfl, hnm, rfl⟩) fl_1_13 z_pfI rfl rfl (Nat.le_of_ble_eq_true rfl) dX1_init_11 rfl (fun Y6 y7 hk8 => ?_)
  have y9 := hk8 _ _ y4 (z_ne y4 y2 (fun z => by first | cases z | simp at z))
  have kp10 : ∀ x y, Y x = some y → x ≠ q → Y6 x = some y := fun x y h n => hk8 x y (kp5 x y h n) n
  refine z_aloadn C 0 dX1_init_14 rfl rfl ?_
  refine z_aloadn C 3 dX1_init_15 rfl rfl ?_
  refine z_put3 (fs' := [z_v f0, z_v s0, .ref a, .null, z_v 0]) C y7 rfl z_it1 tyX1 tyX1_ok nmX1 2 (by decide) rfl (Or.inr ⟨rfl, hnm, rfl⟩) fl_1_16 (tyX1_ok 2 (by decide)) rfl rfl (Nat.le_of_ble_eq_true rfl) dX1_init_16 rfl (fun Y11 y12 hk13 => ?_)
  have y14 := hk13 _ _ y9 (z_ne y9 y7 (fun z => by first | cases z | simp at z))
  have kp15 : ∀ x y, Y x = some y → x ≠ q → Y11 x = some y := fun x y h n => hk13 x y (kp10 x y h n) n
  refine z_aloadn C 0 dX1_init_19 rfl rfl ?_
  refine z_aloadN C 4 dX1_init_20 rfl ?_
  refine z_put3 (fs' := [z_v f0, z_v s0, .ref a, .null, z_v 0]) C y12 rfl z_it1 tyX1 tyX1_ok nmX1 3 (by decide) rfl (Or.inr ⟨rfl, hnm, rfl⟩) fl_1_20 (tyX1_ok 3 (by decide)) rfl rfl (Nat.le_of_ble_eq_true rfl) dX1_init_22 rfl (fun Y16 y17 hk18 => ?_)
  have y19 := hk18 _ _ y14 (z_ne y14 y12 (fun z => by first | cases z | simp at z))
  have kp20 : ∀ x y, Y x = some y → x ≠ q → Y16 x = some y := fun x y h n => hk18 x y (kp15 x y h n) n
  refine z_aloadn C 0 dX1_init_25 rfl rfl ?_
  refine z_aloadN C 4 dX1_init_26 rfl ?_
  refine z_ifnonnullN C dX1_init_28 ?_
  refine z_aloadn C 3 dX1_init_31 rfl rfl ?_
  refine z_getY C y19 rfl z_it0 4 (by decide) rfl fl_1_23 rfl dX1_init_32 ?_
  refine z_goto (t := 48) C dX1_init_35 (by decide) ?_
  refine z_put3 (fs' := [z_v f0, z_v s0, .ref a, .null, z_v r1]) C y17 rfl z_it1 tyX1 tyX1_ok nmX1 4 (by decide) rfl (Or.inr ⟨rfl, hnm, rfl⟩) fl_1_28 z_pfI rfl rfl (Nat.le_of_ble_eq_true rfl) dX1_init_48 rfl (fun Y21 y22 hk23 => ?_)
  have y24 := hk23 _ _ y19 (z_ne y19 y17 (fun z => by first | cases z | simp at z))
  have kp25 : ∀ x y, Y x = some y → x ≠ q → Y21 x = some y := fun x y h n => hk23 x y (kp20 x y h n) n
  rw [hQ]
  exact z_vret C hrt dX1_init_51 (⟨r1, rfl, kp25, y22, by omega, by omega, rfl⟩) (by omega) (by omega)
set_option maxRecDepth 20000 in
theorem cx_X0_isAnsweredBy (l : Launch) {D : va_G} {A : Nat → Prop} {ad : Nat → Nat} {ks : z_Ks} {N : Nat} {S : Nat → va_E} {Y : Nat → Option va_E} {m1 f1 t1 k1 r1 m2 f2 t2 k2 r2 : Int} {g1 g2 : Nat} (q o : Nat) (hq : Y q = some (z_ob 0 [z_v m1, z_v f1, z_v t1, z_v k1, z_v r1, .ref g1])) (ho : Y o = some (z_ob 0 [z_v m2, z_v f2, z_v t2, z_v k2, z_v r2, .ref g2])) (hr : (-4 ≤ k1 ∧ k1 ≤ 4 ∧ 0 ≤ m1 ∧ m1 ≤ 2) ∧ -4 ≤ k2 ∧ k2 ≤ 4 ∧ 0 ≤ m2 ∧ m2 ≤ 2) : z_Met l yX0_isAnsweredBy cX0_isAnsweredBy 2 (some .boolean) 0 0 0 0 D A N ad ks [.ref q, .ref o] S Y (fun r S' Y' => S' = S ∧ Y = Y' ∧ ∃ z : Int, r = some (z_v z) ∧ (z = 1 ∧ (0 < k1 ∧ k2 = -k1 ∧ m2 ≠ m1) ∨ z = 0 ∧ ¬ (0 < k1 ∧ k2 = -k1 ∧ m2 ≠ m1))) := by
  refine z_start2 (by decide) (Nat.le_of_ble_eq_true rfl) ?_
  intro p e R s m args below meth c Q C hRf hRc hRs hRl hQ hrt hnm
  refine z_loc (L' := [(0, .ref q), (1, .ref o)]) [0, 1] rfl ?_
  refine z_aloadn C 0 dX0_isAnsweredBy_0 rfl rfl ?_
  refine z_getY C hq rfl z_it0 3 (by decide) rfl fl_0_26 rfl dX0_isAnsweredBy_1 ?_
  refine z_if_le (t := 34) C dX0_isAnsweredBy_4 (by decide) (by omega) (fun c1 => ?_) (fun c1 => ?_)
  · skip
    refine z_iconst C dX0_isAnsweredBy_34 ?_
    rw [hQ]
    exact z_zret C hrt (by omega) dX0_isAnsweredBy_35 (⟨rfl, rfl, _, rfl, by omega⟩) (by omega) (by omega)
  · skip
    refine z_aloadn C 1 dX0_isAnsweredBy_7 rfl rfl ?_
    refine z_getY C ho rfl z_it0 3 (by decide) rfl fl_0_26 rfl dX0_isAnsweredBy_8 ?_
    refine z_aloadn C 0 dX0_isAnsweredBy_11 rfl rfl ?_
    refine z_getY C hq rfl z_it0 3 (by decide) rfl fl_0_26 rfl dX0_isAnsweredBy_12 ?_
    refine z_ineg C dX0_isAnsweredBy_15 ?_
    refine z_icmp_ne (t := 34) C dX0_isAnsweredBy_16 (by decide) (by omega) (by omega) (fun c2 => ?_) (fun c2 => ?_)
    · skip
      refine z_iconst C dX0_isAnsweredBy_34 ?_
      rw [hQ]
      exact z_zret C hrt (by omega) dX0_isAnsweredBy_35 (⟨rfl, rfl, _, rfl, by omega⟩) (by omega) (by omega)
    · skip
      refine z_aloadn C 1 dX0_isAnsweredBy_19 rfl rfl ?_
      refine z_getY C ho rfl z_it0 0 (by decide) rfl fl_0_16 rfl dX0_isAnsweredBy_20 ?_
      refine z_aloadn C 0 dX0_isAnsweredBy_23 rfl rfl ?_
      refine z_getY C hq rfl z_it0 0 (by decide) rfl fl_0_16 rfl dX0_isAnsweredBy_24 ?_
      refine z_icmp_eq (t := 34) C dX0_isAnsweredBy_27 (by decide) (by omega) (by omega) (fun c3 => ?_) (fun c3 => ?_)
      · skip
        refine z_iconst C dX0_isAnsweredBy_34 ?_
        rw [hQ]
        exact z_zret C hrt (by omega) dX0_isAnsweredBy_35 (⟨rfl, rfl, _, rfl, by omega⟩) (by omega) (by omega)
      · skip
        refine z_iconst C dX0_isAnsweredBy_30 ?_
        refine z_goto (t := 35) C dX0_isAnsweredBy_31 (by decide) ?_
        rw [hQ]
        exact z_zret C hrt (by omega) dX0_isAnsweredBy_35 (⟨rfl, rfl, _, rfl, by omega⟩) (by omega) (by omega)
set_option maxRecDepth 20000 in
theorem cx_X1_comesAfter (l : Launch) {D : va_G} {A : Nat → Prop} {ad : Nat → Nat} {ks : z_Ks} {N : Nat} {S : Nat → va_E} {Y : Nat → Option va_E} {f1 s1 f2 s2 : Int} {x1 y1 z1 x2 y2 z2 : Value} (q o : Nat) (hq : Y q = some (z_ob 1 [z_v f1, z_v s1, x1, y1, z1])) (ho : Y o = some (z_ob 1 [z_v f2, z_v s2, x2, y2, z2])) (hr : (z_rg f1 ∧ z_rg s1) ∧ z_rg f2 ∧ z_rg s2) : z_Met l yX1_comesAfter cX1_comesAfter 2 (some .boolean) 0 0 0 0 D A N ad ks [.ref q, .ref o] S Y (fun r S' Y' => S' = S ∧ Y = Y' ∧ ∃ z : Int, r = some (z_v z) ∧ (z = 1 ∧ (z_lx f2 s2 f1 s1) ∨ z = 0 ∧ ¬ (z_lx f2 s2 f1 s1))) := by
  refine z_start2 (by decide) (Nat.le_of_ble_eq_true rfl) ?_
  intro p e R s m args below meth c Q C hRf hRc hRs hRl hQ hrt hnm
  refine z_loc (L' := [(0, .ref q), (1, .ref o)]) [0, 1] rfl ?_
  refine z_aloadn C 0 dX1_comesAfter_0 rfl rfl ?_
  refine z_getY C hq rfl z_it1 0 (by decide) rfl fl_1_7 rfl dX1_comesAfter_1 ?_
  refine z_aloadn C 1 dX1_comesAfter_4 rfl rfl ?_
  refine z_getY C ho rfl z_it1 0 (by decide) rfl fl_1_7 rfl dX1_comesAfter_5 ?_
  refine z_icmp_eq (t := 30) C dX1_comesAfter_8 (by decide) (by omega) (by omega) (fun c1 => ?_) (fun c1 => ?_)
  · skip
    refine z_aloadn C 0 dX1_comesAfter_30 rfl rfl ?_
    refine z_getY C hq rfl z_it1 1 (by decide) rfl fl_1_13 rfl dX1_comesAfter_31 ?_
    refine z_aloadn C 1 dX1_comesAfter_34 rfl rfl ?_
    refine z_getY C ho rfl z_it1 1 (by decide) rfl fl_1_13 rfl dX1_comesAfter_35 ?_
    refine z_icmp_le (t := 45) C dX1_comesAfter_38 (by decide) (by omega) (by omega) (fun c2 => ?_) (fun c2 => ?_)
    · skip
      refine z_iconst C dX1_comesAfter_45 ?_
      rw [hQ]
      exact z_zret C hrt (by omega) dX1_comesAfter_46 (⟨rfl, rfl, _, rfl, by omega⟩) (by omega) (by omega)
    · skip
      refine z_iconst C dX1_comesAfter_41 ?_
      refine z_goto (t := 46) C dX1_comesAfter_42 (by decide) ?_
      rw [hQ]
      exact z_zret C hrt (by omega) dX1_comesAfter_46 (⟨rfl, rfl, _, rfl, by omega⟩) (by omega) (by omega)
  · skip
    refine z_aloadn C 0 dX1_comesAfter_11 rfl rfl ?_
    refine z_getY C hq rfl z_it1 0 (by decide) rfl fl_1_7 rfl dX1_comesAfter_12 ?_
    refine z_aloadn C 1 dX1_comesAfter_15 rfl rfl ?_
    refine z_getY C ho rfl z_it1 0 (by decide) rfl fl_1_7 rfl dX1_comesAfter_16 ?_
    refine z_icmp_le (t := 26) C dX1_comesAfter_19 (by decide) (by omega) (by omega) (fun c3 => ?_) (fun c3 => ?_)
    · skip
      refine z_iconst C dX1_comesAfter_26 ?_
      refine z_goto (t := 46) C dX1_comesAfter_27 (by decide) ?_
      rw [hQ]
      exact z_zret C hrt (by omega) dX1_comesAfter_46 (⟨rfl, rfl, _, rfl, by omega⟩) (by omega) (by omega)
    · skip
      refine z_iconst C dX1_comesAfter_22 ?_
      refine z_goto (t := 46) C dX1_comesAfter_23 (by decide) ?_
      rw [hQ]
      exact z_zret C hrt (by omega) dX1_comesAfter_46 (⟨rfl, rfl, _, rfl, by omega⟩) (by omega) (by omega)
set_option maxRecDepth 20000 in
theorem cx_X2_insert (l : Launch) {D : va_G} {A : Nat → Prop} {ad : Nat → Nat} {ks : z_Ks} {s_edgeCount s_moveCount s_isNeeded s_timesDone s_size s_isGoing s_allTime s_stepCount s_gapCount : Int} {g_edges g_moves g_limits : Nat → Option Nat} {a_sfacts a_sbounds a_facts a_zone a_most a_places a_amounts a_nextPlaces a_nextAmounts a_earliest a_visited a_lastSet a_gapFrom a_gapTo a_gapLeast a_askedPlaces a_askedAmounts : Nat → Int} {Y : Nat → Option va_E} {a b nE : Int} {mf ms er : Nat → Int} {qe : Nat → Nat} (q : Nat) (hq : z_MX Y q a b nE qe er) (HMo : z_Mo Y g_moves s_moveCount mf ms nE qe er) (hs : z_srt s_moveCount mf ms) (hnew : ∀ k : Int, 0 ≤ k → k < s_moveCount → ¬ (mf k.toNat = a ∧ ms k.toNat = b)) (hmc : 0 ≤ s_moveCount ∧ s_moveCount ≤ 399) (hn : nE ≤ 20) : z_Met l yX2_insert cX2_insert 3 none 1 21 0 0 D A 27 ad ks [.ref (ad 1), .ref q] (z_zc ad ks s_edgeCount s_moveCount s_isNeeded s_timesDone s_size s_isGoing s_allTime s_stepCount s_gapCount g_edges g_moves g_limits a_sfacts a_sbounds a_facts a_zone a_most a_places a_amounts a_nextPlaces a_nextAmounts a_earliest a_visited a_lastSet a_gapFrom a_gapTo a_gapLeast a_askedPlaces a_askedAmounts) Y (fun r S' Y' => ∃ (ng : Nat → Option Nat) (mf' ms' : Nat → Int), S' = (z_zc ad ks s_edgeCount (s_moveCount + 1) s_isNeeded s_timesDone s_size s_isGoing s_allTime s_stepCount s_gapCount g_edges ng g_limits a_sfacts a_sbounds a_facts a_zone a_most a_places a_amounts a_nextPlaces a_nextAmounts a_earliest a_visited a_lastSet a_gapFrom a_gapTo a_gapLeast a_askedPlaces a_askedAmounts) ∧ Y = Y' ∧ z_Mo Y ng (s_moveCount + 1) mf' ms' nE qe er ∧ z_srt (s_moveCount + 1) mf' ms' ∧ (∀ x y, z_mem (s_moveCount + 1) mf' ms' x y ↔ z_mem s_moveCount mf ms x y ∨ x = a ∧ y = b) ∧ r = none) := by
  refine z_start2 (by decide) (Nat.le_of_ble_eq_true rfl) ?_
  intro p e R s m args below meth c Q C hRf hRc hRs hRl hQ hrt hnm
  refine z_loc (L' := [(0, .ref (ad 1)), (1, .ref q)]) [0, 1] rfl ?_
  obtain ⟨rq, yq, aq, bq, cq⟩ := id hq
  refine z_aloadn C 0 dX2_insert_0 rfl rfl ?_
  refine z_get C 1 (by decide) rfl rfl z_it2 3 (by decide) rfl fl_2_48 rfl dX2_insert_1 ?_
  refine z_aloadn C 0 dX2_insert_4 rfl rfl ?_
  refine z_get C 1 (by decide) rfl rfl z_it2 2 (by decide) rfl fl_2_19 rfl dX2_insert_5 ?_
  refine z_alen (n := 400) C 3 2 (by decide) rfl rfl rfl dX2_insert_8 ?_
  refine z_icmp_lt (t := 13) C dX2_insert_9 (by decide) (by omega) (by omega) (fun c1 => ?_) (fun c1 => ?_)
  · skip
    refine z_aloadn C 0 dX2_insert_13 rfl rfl ?_
    refine z_get C 1 (by decide) rfl rfl z_it2 3 (by decide) rfl fl_2_48 rfl dX2_insert_14 ?_
    refine z_istoren (L' := [(2, z_v s_moveCount), (0, .ref (ad 1)), (1, .ref q)]) C dX2_insert_17 rfl (by decide) rfl ?_
    have L18 : ∀ (n : Nat), ∀ (i2 : Int) (fg_moves : Nat → Option Nat), (0 ≤ i2 ∧ i2 ≤ s_moveCount) → (∀ j : Int, 0 ≤ j → j < i2 → fg_moves j.toNat = g_moves j.toNat) → (∀ j : Int, i2 < j → j ≤ s_moveCount → fg_moves j.toNat = g_moves (j - 1).toNat) → (∀ j : Int, i2 ≤ j → j < s_moveCount → z_lx a b (mf j.toNat) (ms j.toNat)) → ((i2 : Int) - 0).toNat < n → z_V p l e R s m args below meth c Q D A 27 ad 3 (z_zc ad ks s_edgeCount s_moveCount s_isNeeded s_timesDone s_size s_isGoing s_allTime s_stepCount s_gapCount g_edges fg_moves g_limits a_sfacts a_sbounds a_facts a_zone a_most a_places a_amounts a_nextPlaces a_nextAmounts a_earliest a_visited a_lastSet a_gapFrom a_gapTo a_gapLeast a_askedPlaces a_askedAmounts) Y 0 0 18 [(0, .ref (ad 1)), (1, .ref q), (2, z_v i2)] [] := by
      intro n
      induction n with
      | zero => intro i2 fg_moves I2 G1 G2 G3 hm; exact absurd hm (Nat.not_lt_zero _)
      | succ n ih18 =>
        intro i2 fg_moves I2 G1 G2 G3 hm
        have HMf : ∀ k : Int, 0 ≤ k → k < i2 → ∃ q, fg_moves k.toNat = some q ∧ z_MX Y q (mf k.toNat) (ms k.toNat) nE qe er := fun k h0 h1 => by rw [G1 k h0 h1]; exact HMo k h0 (by omega)
        refine z_iloadn C 2 dX2_insert_18 rfl rfl ?_
        refine z_if_le (t := 57) C dX2_insert_19 (by decide) (by omega) (fun c2 => ?_) (fun c2 => ?_)
        · skip
          refine z_aloadn C 0 dX2_insert_57 rfl rfl ?_
          refine z_get C 1 (by decide) rfl rfl z_it2 2 (by decide) rfl fl_2_19 rfl dX2_insert_58 ?_
          refine z_iloadn C 2 dX2_insert_61 rfl rfl ?_
          refine z_aloadn C 1 dX2_insert_62 rfl rfl ?_
          refine z_aast C 3 2 (by decide) rfl rfl yq rfl (by decide) (by omega) (by omega) dX2_insert_63 ?_
          refine z_ext (S' := (z_zc ad ks s_edgeCount s_moveCount s_isNeeded s_timesDone s_size s_isGoing s_allTime s_stepCount s_gapCount g_edges (va_up fg_moves (i2 : Int).toNat (some q)) g_limits a_sfacts a_sbounds a_facts a_zone a_most a_places a_amounts a_nextPlaces a_nextAmounts a_earliest a_visited a_lastSet a_gapFrom a_gapTo a_gapLeast a_askedPlaces a_askedAmounts)) upC_g_moves ?_
          refine z_aloadn C 0 dX2_insert_64 rfl rfl ?_
          refine z_dup C dX2_insert_65 rfl ?_
          refine z_get C 1 (by decide) rfl rfl z_it2 3 (by decide) rfl fl_2_48 rfl dX2_insert_66 ?_
          refine z_iconst C dX2_insert_69 ?_
          refine z_iadd C dX2_insert_70 ?_
          refine z_put C 1 (by decide) rfl rfl z_it2 tyX2 tyX2_ok nmX2 3 (by decide) rfl (Or.inl rfl) fl_2_48 z_pfI rfl rfl (Nat.le_of_ble_eq_true rfl) dX2_insert_71 ?_
          refine z_ext (S' := (z_zc ad ks s_edgeCount (s_moveCount + 1) s_isNeeded s_timesDone s_size s_isGoing s_allTime s_stepCount s_gapCount g_edges (va_up fg_moves (i2 : Int).toNat (some q)) g_limits a_sfacts a_sbounds a_facts a_zone a_most a_places a_amounts a_nextPlaces a_nextAmounts a_earliest a_visited a_lastSet a_gapFrom a_gapTo a_gapLeast a_askedPlaces a_askedAmounts)) upC_s_moveCount ?_
          rw [hQ]
          exact z_vret C hrt dX2_insert_74 (⟨_, z_insf i2 a mf, z_insf i2 b ms, rfl, rfl, z_ins_Mo HMo hq G1 G2 (by omega) (by omega), z_ins_srt hs G3 (fun hi => by have hnw := hnew (i2 - 1) (by omega) (by omega); omega) (by omega) (by omega), z_ins_mem (by omega) (by omega), rfl⟩) (by omega) (by omega)
        · skip
          refine z_aloadn C 0 dX2_insert_22 rfl rfl ?_
          refine z_get C 1 (by decide) rfl rfl z_it2 2 (by decide) rfl fl_2_19 rfl dX2_insert_23 ?_
          refine z_iloadn C 2 dX2_insert_26 rfl rfl ?_
          refine z_iconst C dX2_insert_27 ?_
          refine z_isub C dX2_insert_28 ?_
          obtain ⟨q3, eq3, mq3⟩ := HMf (i2 - 1) (by omega) (by omega)
          refine z_aaldS C 3 2 (by decide) rfl rfl (by decide) (by omega) (by omega) eq3 dX2_insert_29 ?_
          refine z_aloadn C 1 dX2_insert_30 rfl rfl ?_
          obtain ⟨rd4, yd4, ad4, bd4, cd4⟩ := id mq3
          refine z_callV C (cx_X1_comesAfter l q3 q yd4 yq ⟨⟨by omega, by omega⟩, by omega, by omega⟩) mv_2_51 (z_atY 1 yd4 rfl rfl) pd_X1_comesAfter ⟨by omega, by omega⟩ ⟨by omega, by omega⟩ rfl (Nat.le_of_ble_eq_true rfl) dX2_insert_31 ?_
          rintro _ _ _ ⟨rfl, rfl, z5, rfl, hz5⟩
          refine z_if_eq (t := 57) C dX2_insert_34 (by decide) (by omega) (fun c6 => ?_) (fun c6 => ?_)
          · skip
            refine z_aloadn C 0 dX2_insert_57 rfl rfl ?_
            refine z_get C 1 (by decide) rfl rfl z_it2 2 (by decide) rfl fl_2_19 rfl dX2_insert_58 ?_
            refine z_iloadn C 2 dX2_insert_61 rfl rfl ?_
            refine z_aloadn C 1 dX2_insert_62 rfl rfl ?_
            refine z_aast C 3 2 (by decide) rfl rfl yq rfl (by decide) (by omega) (by omega) dX2_insert_63 ?_
            refine z_ext (S' := (z_zc ad ks s_edgeCount s_moveCount s_isNeeded s_timesDone s_size s_isGoing s_allTime s_stepCount s_gapCount g_edges (va_up fg_moves (i2 : Int).toNat (some q)) g_limits a_sfacts a_sbounds a_facts a_zone a_most a_places a_amounts a_nextPlaces a_nextAmounts a_earliest a_visited a_lastSet a_gapFrom a_gapTo a_gapLeast a_askedPlaces a_askedAmounts)) upC_g_moves ?_
            refine z_aloadn C 0 dX2_insert_64 rfl rfl ?_
            refine z_dup C dX2_insert_65 rfl ?_
            refine z_get C 1 (by decide) rfl rfl z_it2 3 (by decide) rfl fl_2_48 rfl dX2_insert_66 ?_
            refine z_iconst C dX2_insert_69 ?_
            refine z_iadd C dX2_insert_70 ?_
            refine z_put C 1 (by decide) rfl rfl z_it2 tyX2 tyX2_ok nmX2 3 (by decide) rfl (Or.inl rfl) fl_2_48 z_pfI rfl rfl (Nat.le_of_ble_eq_true rfl) dX2_insert_71 ?_
            refine z_ext (S' := (z_zc ad ks s_edgeCount (s_moveCount + 1) s_isNeeded s_timesDone s_size s_isGoing s_allTime s_stepCount s_gapCount g_edges (va_up fg_moves (i2 : Int).toNat (some q)) g_limits a_sfacts a_sbounds a_facts a_zone a_most a_places a_amounts a_nextPlaces a_nextAmounts a_earliest a_visited a_lastSet a_gapFrom a_gapTo a_gapLeast a_askedPlaces a_askedAmounts)) upC_s_moveCount ?_
            rw [hQ]
            exact z_vret C hrt dX2_insert_74 (⟨_, z_insf i2 a mf, z_insf i2 b ms, rfl, rfl, z_ins_Mo HMo hq G1 G2 (by omega) (by omega), z_ins_srt hs G3 (fun hi => by have hnw := hnew (i2 - 1) (by omega) (by omega); omega) (by omega) (by omega), z_ins_mem (by omega) (by omega), rfl⟩) (by omega) (by omega)
          · skip
            refine z_aloadn C 0 dX2_insert_37 rfl rfl ?_
            refine z_get C 1 (by decide) rfl rfl z_it2 2 (by decide) rfl fl_2_19 rfl dX2_insert_38 ?_
            refine z_iloadn C 2 dX2_insert_41 rfl rfl ?_
            refine z_aloadn C 0 dX2_insert_42 rfl rfl ?_
            refine z_get C 1 (by decide) rfl rfl z_it2 2 (by decide) rfl fl_2_19 rfl dX2_insert_43 ?_
            refine z_iloadn C 2 dX2_insert_46 rfl rfl ?_
            refine z_iconst C dX2_insert_47 ?_
            refine z_isub C dX2_insert_48 ?_
            obtain ⟨q7, eq7, mq7⟩ := HMf (i2 - 1) (by omega) (by omega)
            refine z_aaldS C 3 2 (by decide) rfl rfl (by decide) (by omega) (by omega) eq7 dX2_insert_49 ?_
            obtain ⟨rd8, yd8, ad8, bd8, cd8⟩ := id mq7
            refine z_aast C 3 2 (by decide) rfl rfl yd8 rfl (by decide) (by omega) (by omega) dX2_insert_50 ?_
            refine z_ext (S' := (z_zc ad ks s_edgeCount s_moveCount s_isNeeded s_timesDone s_size s_isGoing s_allTime s_stepCount s_gapCount g_edges (va_up fg_moves (i2 : Int).toNat (some q7)) g_limits a_sfacts a_sbounds a_facts a_zone a_most a_places a_amounts a_nextPlaces a_nextAmounts a_earliest a_visited a_lastSet a_gapFrom a_gapTo a_gapLeast a_askedPlaces a_askedAmounts)) upC_g_moves ?_
            refine z_iinc (L' := [(2, z_v (i2 + (-1))), (0, .ref (ad 1)), (1, .ref q)]) C 2 dX2_insert_51 rfl (by decide) rfl ?_
            refine z_goto (t := 18) C dX2_insert_54 (by decide) ?_
            refine z_loc (L' := [(0, .ref (ad 1)), (1, .ref q), (2, z_v (i2 + (-1)))]) [1, 2, 0] rfl ?_
            exact ih18 (i2 + (-1)) (va_up fg_moves (i2 : Int).toNat (some q7)) (by omega) (z_insG1 G1) (z_insG2 G1 G2 (by assumption) (by omega)) (z_insG3 G3 (by omega)) (by omega)
    refine z_loc (L' := [(0, .ref (ad 1)), (1, .ref q), (2, z_v s_moveCount)]) [1, 2, 0] rfl ?_
    exact (L18 (((s_moveCount : Int) - 0).toNat + 1)) s_moveCount g_moves (by omega) (fun _ _ _ => rfl) (fun j h1 h2 => absurd h1 (by omega)) (fun j h1 h2 => absurd h1 (by omega)) (Nat.lt_succ_self _)
  · skip
    omega
set_option maxRecDepth 20000 in
theorem cx_X2_addEdge (l : Launch) {D : va_G} {A : Nat → Prop} {ad : Nat → Nat} {ks : z_Ks} {s_edgeCount s_moveCount s_isNeeded s_timesDone s_size s_isGoing s_allTime s_stepCount s_gapCount : Int} {g_edges g_moves g_limits : Nat → Option Nat} {a_sfacts a_sbounds a_facts a_zone a_most a_places a_amounts a_nextPlaces a_nextAmounts a_earliest a_visited a_lastSet a_gapFrom a_gapTo a_gapLeast a_askedPlaces a_askedAmounts : Nat → Int} {Y : Nat → Option va_E} {em ef et ec er gn gt ln lt mf ms : Nat → Int} {qe ql qt : Nat → Nat} (q : Nat) (HN : z_N ks Y (va_up g_edges s_edgeCount.toNat (some q)) g_limits (s_edgeCount + 1) em ef et ec er gn gt ln lt qe ql qt) (hqe : qe s_edgeCount.toNat = q) (HMo : z_Mo Y g_moves s_moveCount mf ms (s_edgeCount + 1) qe er) (hs : z_srt s_moveCount mf ms) (hm : ∀ x y, z_mem s_moveCount mf ms x y ↔ (0 ≤ x ∧ x < s_edgeCount ∧ -1 ≤ y ∧ y < s_edgeCount) ∧ z_isM x y em ec) (hec : 0 ≤ s_edgeCount ∧ s_edgeCount ≤ 19) (hmc : 0 ≤ s_moveCount) : z_Met l yX2_addEdge cX2_addEdge 4 (some .int) 2 44 21 105 D A 27 ad ks [.ref (ad 1), .ref q] (z_zc ad ks s_edgeCount s_moveCount s_isNeeded s_timesDone s_size s_isGoing s_allTime s_stepCount s_gapCount g_edges g_moves g_limits a_sfacts a_sbounds a_facts a_zone a_most a_places a_amounts a_nextPlaces a_nextAmounts a_earliest a_visited a_lastSet a_gapFrom a_gapTo a_gapLeast a_askedPlaces a_askedAmounts) Y (fun r S' Y' => ∃ (nm : Int) (ng : Nat → Option Nat) (mf' ms' : Nat → Int), S' = (z_zc ad ks (s_edgeCount + 1) nm s_isNeeded s_timesDone s_size s_isGoing s_allTime s_stepCount s_gapCount (va_up g_edges s_edgeCount.toNat (some q)) ng g_limits a_sfacts a_sbounds a_facts a_zone a_most a_places a_amounts a_nextPlaces a_nextAmounts a_earliest a_visited a_lastSet a_gapFrom a_gapTo a_gapLeast a_askedPlaces a_askedAmounts) ∧ z_N ks Y' (va_up g_edges s_edgeCount.toNat (some q)) g_limits (s_edgeCount + 1) em ef et ec er gn gt ln lt qe ql qt ∧ z_Mo Y' ng nm mf' ms' (s_edgeCount + 1) qe er ∧ z_ml (s_edgeCount + 1) nm mf' ms' em ec ∧ 0 ≤ nm ∧ r = some (z_v s_edgeCount)) := by
  refine z_start2 (by decide) (Nat.le_of_ble_eq_true rfl) ?_
  intro p e R s m args below meth c Q C hRf hRc hRs hRl hQ hrt hnm
  refine z_loc (L' := [(0, .ref (ad 1)), (1, .ref q)]) [0, 1] rfl ?_
  obtain ⟨_, yq, rq, _⟩ := HN.1 s_edgeCount (by omega) (by omega)
  rw [hqe] at yq
  refine z_aloadn C 0 dX2_addEdge_0 rfl rfl ?_
  refine z_get C 1 (by decide) rfl rfl z_it2 1 (by decide) rfl fl_2_30 rfl dX2_addEdge_1 ?_
  refine z_istoren (L' := [(2, z_v s_edgeCount), (0, .ref (ad 1)), (1, .ref q)]) C dX2_addEdge_4 rfl (by decide) rfl ?_
  refine z_iloadn C 0 dX2_addEdge_5 rfl rfl ?_
  refine z_bipush C dX2_addEdge_6 (by decide) ?_
  refine z_icmp_lt (t := 14) C dX2_addEdge_8 (by decide) (by omega) (by omega) (fun c1 => ?_) (fun c1 => ?_)
  · skip
    refine z_aloadn C 1 dX2_addEdge_14 rfl rfl ?_
    refine z_get C 1 (by decide) rfl rfl z_it2 0 (by decide) rfl fl_2_11 rfl dX2_addEdge_15 ?_
    refine z_iloadn C 0 dX2_addEdge_18 rfl rfl ?_
    refine z_aloadn C 2 dX2_addEdge_19 rfl rfl ?_
    refine z_aast C 2 1 (by decide) rfl rfl yq rfl (by decide) (by omega) (by omega) dX2_addEdge_20 ?_
    refine z_ext (S' := (z_zc ad ks s_edgeCount s_moveCount s_isNeeded s_timesDone s_size s_isGoing s_allTime s_stepCount s_gapCount (va_up g_edges (s_edgeCount : Int).toNat (some q)) g_moves g_limits a_sfacts a_sbounds a_facts a_zone a_most a_places a_amounts a_nextPlaces a_nextAmounts a_earliest a_visited a_lastSet a_gapFrom a_gapTo a_gapLeast a_askedPlaces a_askedAmounts)) upC_g_edges ?_
    refine z_aloadn C 1 dX2_addEdge_21 rfl rfl ?_
    refine z_dup C dX2_addEdge_22 rfl ?_
    refine z_get C 1 (by decide) rfl rfl z_it2 1 (by decide) rfl fl_2_30 rfl dX2_addEdge_23 ?_
    refine z_iconst C dX2_addEdge_26 ?_
    refine z_iadd C dX2_addEdge_27 ?_
    refine z_put C 1 (by decide) rfl rfl z_it2 tyX2 tyX2_ok nmX2 1 (by decide) rfl (Or.inl rfl) fl_2_30 z_pfI rfl rfl (Nat.le_of_ble_eq_true rfl) dX2_addEdge_28 ?_
    refine z_ext (S' := (z_zc ad ks (s_edgeCount + 1) s_moveCount s_isNeeded s_timesDone s_size s_isGoing s_allTime s_stepCount s_gapCount (va_up g_edges (s_edgeCount : Int).toNat (some q)) g_moves g_limits a_sfacts a_sbounds a_facts a_zone a_most a_places a_amounts a_nextPlaces a_nextAmounts a_earliest a_visited a_lastSet a_gapFrom a_gapTo a_gapLeast a_askedPlaces a_askedAmounts)) upC_s_edgeCount ?_
    refine z_aloadn C 2 dX2_addEdge_31 rfl rfl ?_
    refine z_getY C yq rfl z_it0 3 (by decide) rfl fl_2_34 rfl dX2_addEdge_32 ?_
    refine z_if_ne (t := 53) C dX2_addEdge_35 (by decide) (by omega) (fun c2 => ?_) (fun c2 => ?_)
    · skip
      refine z_iconst C dX2_addEdge_53 ?_
      refine z_istoren (L' := [(3, z_v 0), (2, z_v s_edgeCount), (0, .ref (ad 1)), (1, .ref q)]) C dX2_addEdge_54 rfl (by decide) rfl ?_
      have L55 : ∀ (n : Nat), ∀ (i3 : Int) (fs_moveCount : Int) (fg_moves : Nat → Option Nat) (FY : Nat → Option va_E) (gmf : Nat → Int) (gms : Nat → Int), (0 ≤ i3 ∧ i3 ≤ s_edgeCount) → (∀ x y, Y x = some y → FY x = some y) → (z_Mo FY fg_moves fs_moveCount gmf gms (s_edgeCount + 1) qe er) → (z_srt fs_moveCount gmf gms) → (∀ x y, z_mem fs_moveCount gmf gms x y ↔ z_D s_edgeCount i3 em ec x y) → (0 ≤ fs_moveCount) → (s_edgeCount - (i3 : Int)).toNat < n → z_V p l e R s m args below meth c Q D A 27 ad 4 (z_zc ad ks (s_edgeCount + 1) fs_moveCount s_isNeeded s_timesDone s_size s_isGoing s_allTime s_stepCount s_gapCount (va_up g_edges (s_edgeCount : Int).toNat (some q)) fg_moves g_limits a_sfacts a_sbounds a_facts a_zone a_most a_places a_amounts a_nextPlaces a_nextAmounts a_earliest a_visited a_lastSet a_gapFrom a_gapTo a_gapLeast a_askedPlaces a_askedAmounts) FY (1 + (i3 : Int).toNat) (5 + 5 * (i3 : Int).toNat) 55 [(0, .ref (ad 1)), (1, .ref q), (2, z_v s_edgeCount), (3, z_v i3)] [] := by
        intro n
        induction n with
        | zero => intro i3 fs_moveCount fg_moves FY gmf gms I3 KP MOi SRi MEi MCi hm; exact absurd hm (Nat.not_lt_zero _)
        | succ n ih55 =>
          intro i3 fs_moveCount fg_moves FY gmf gms I3 KP MOi SRi MEi MCi hm
          have HNf := HN.sub KP
          have yqf := KP _ _ yq
          refine z_iloadn C 3 dX2_addEdge_55 rfl rfl ?_
          refine z_iloadn C 2 dX2_addEdge_56 rfl rfl ?_
          refine z_icmp_ge (t := 135) C dX2_addEdge_57 (by decide) (by omega) (by omega) (fun c3 => ?_) (fun c3 => ?_)
          · skip
            refine z_iloadn C 2 dX2_addEdge_135 rfl rfl ?_
            rw [hQ]
            exact z_iret C hrt dX2_addEdge_136 (⟨_, _, gmf, gms, rfl, HN.sub KP, MOi, z_D_end (by rw [show i3 = s_edgeCount by omega] at MEi; exact MEi) SRi (by omega), MCi, rfl⟩) (by omega) (by omega)
          · skip
            refine z_aloadn C 1 dX2_addEdge_60 rfl rfl ?_
            refine z_aloadn C 0 dX2_addEdge_61 rfl rfl ?_
            refine z_get C 1 (by decide) rfl rfl z_it2 0 (by decide) rfl fl_2_11 rfl dX2_addEdge_62 ?_
            refine z_iloadn C 3 dX2_addEdge_65 rfl rfl ?_
            obtain ⟨eq4, yq4, rq4, tq4⟩ := HNf.1 i3 (by omega) (by omega)
            refine z_aaldS C 2 1 (by decide) rfl rfl (by decide) (by omega) (by omega) eq4 dX2_addEdge_66 ?_
            refine z_callV C (cx_X0_isAnsweredBy l q (qe (i3 : Int).toNat) yqf yq4 ⟨by omega, by omega⟩) mv_2_44 (z_atY 0 yqf rfl rfl) pd_X0_isAnsweredBy ⟨by omega, by omega⟩ ⟨by omega, by omega⟩ rfl (Nat.le_of_ble_eq_true rfl) dX2_addEdge_67 ?_
            rintro _ _ _ ⟨rfl, rfl, z5, rfl, hz5⟩
            refine z_if_eq (t := 96) C dX2_addEdge_70 (by decide) (by omega) (fun c6 => ?_) (fun c6 => ?_)
            · skip
              have hM2 : ¬ z_isM s_edgeCount i3 em ec := by rintro (⟨h, _⟩ | ⟨_, h1, h2, h3⟩) <;> omega
              refine z_aloadn C 0 dX2_addEdge_96 rfl rfl ?_
              refine z_get C 1 (by decide) rfl rfl z_it2 0 (by decide) rfl fl_2_11 rfl dX2_addEdge_97 ?_
              refine z_iloadn C 3 dX2_addEdge_100 rfl rfl ?_
              refine z_aaldS C 2 1 (by decide) rfl rfl (by decide) (by omega) (by omega) eq4 dX2_addEdge_101 ?_
              refine z_aloadn C 1 dX2_addEdge_102 rfl rfl ?_
              refine z_callV C (cx_X0_isAnsweredBy l (qe (i3 : Int).toNat) q yq4 yqf ⟨by omega, by omega⟩) mv_2_44 (z_atY 0 yq4 rfl rfl) pd_X0_isAnsweredBy ⟨by omega, by omega⟩ ⟨by omega, by omega⟩ rfl (Nat.le_of_ble_eq_true rfl) dX2_addEdge_103 ?_
              rintro _ _ _ ⟨rfl, rfl, z8, rfl, hz8⟩
              refine z_if_eq (t := 129) C dX2_addEdge_106 (by decide) (by omega) (fun c9 => ?_) (fun c9 => ?_)
              · skip
                refine z_iinc (L' := [(3, z_v (i3 + 1)), (0, .ref (ad 1)), (1, .ref q), (2, z_v s_edgeCount)]) C 3 dX2_addEdge_129 rfl (by decide) rfl ?_
                refine z_goto (t := 55) C dX2_addEdge_132 (by decide) ?_
                refine z_wide (k := (1 + ((i3 + 1) : Int).toNat)) (n := (5 + 5 * ((i3 + 1) : Int).toNat)) (by omega) (by omega) ?_
                refine z_loc (L' := [(0, .ref (ad 1)), (1, .ref q), (2, z_v s_edgeCount), (3, z_v (i3 + 1))]) [1, 2, 3, 0] rfl ?_
                exact ih55 (i3 + 1) fs_moveCount fg_moves FY gmf gms (by omega) ((fun x y h => (fun x y h => h) x y (KP x y h))) (by first | exact hMo90 | exact hMo126 | exact MOi) (by first | exact hsr90 | exact hsr126 | exact SRi) (by first | exact z_D_step MEi hme90 (by omega) (by omega) (Or.inl ⟨rfl, rfl, hM1⟩) | exact z_D_step MEi hme126 (by omega) (by omega) (Or.inr ⟨rfl, rfl, hM2, hM3⟩) | exact z_D_skip MEi hM2 (by rintro (⟨h, _⟩ | ⟨_, h1, h2, h3⟩) <;> omega)) (by omega) (by omega)
              · skip
                have hM3 : z_isM i3 s_edgeCount em ec := Or.inr ⟨by omega, by omega, by omega, by omega⟩
                refine z_aloadn C 0 dX2_addEdge_109 rfl rfl ?_
                refine z_new3 (r := (RX1, TX1, 5)) (ci := 1) (fs := [z_v 0, z_v 0, .null, .null, z_v 0]) C rfl z_it1 tyX1 tyX1_ok nw_2_17 (fun j hj => match j, hj with | 0, _ => rfl | 1, _ => rfl | 2, _ => rfl | 3, _ => rfl | 4, _ => rfl | n + 5, h => absurd h (by show ¬ (n + 5 < 5); omega)) (by omega) (by show _ + 5 ≤ _; omega) dX2_addEdge_110 (fun q10 Y11 y12 hs13 hf14 => ?_)
                have y15 := hs13 _ _ yqf
                have y16 := hs13 _ _ yq4
                have kp17 : ∀ x y, FY x = some y → Y11 x = some y := fun x y h => hs13 x y ((fun x y h => h) x y h)
                refine z_wide (k := ((1 + (i3 : Int).toNat) + 1)) (n := ((5 + 5 * (i3 : Int).toNat) + 5)) (Nat.le_refl _) (Nat.le_refl _) ?_
                refine z_dup C dX2_addEdge_113 rfl ?_
                refine z_iloadn C 3 dX2_addEdge_114 rfl rfl ?_
                refine z_iloadn C 2 dX2_addEdge_115 rfl rfl ?_
                refine z_aloadn C 0 dX2_addEdge_116 rfl rfl ?_
                refine z_get C 1 (by decide) rfl rfl z_it2 0 (by decide) rfl fl_2_11 rfl dX2_addEdge_117 ?_
                refine z_iloadn C 3 dX2_addEdge_120 rfl rfl ?_
                refine z_aaldS C 2 1 (by decide) rfl rfl (by decide) (by omega) (by omega) eq4 dX2_addEdge_121 ?_
                refine z_aloadn C 1 dX2_addEdge_122 rfl rfl ?_
                refine z_callI C (cx_X1_init l i3 s_edgeCount q10 (qe (i3 : Int).toNat) q y12 y16 y15) mv_2_37 rfl pd_X1_init ⟨by omega, by omega⟩ ⟨by omega, by omega⟩ rfl (Nat.le_of_ble_eq_true rfl) dX2_addEdge_123 ?_
                rintro _ _ Y19 ⟨rr, rfl, hk20, y21, rrr, rre, rfl⟩
                have y22 := hk20 _ _ y15 (z_ne y15 y12 (fun z => by first | cases z | simp at z))
                have y23 := hk20 _ _ y16 (z_ne y16 y12 (fun z => by first | cases z | simp at z))
                have kp24 : ∀ x y, FY x = some y → Y19 x = some y := fun x y h => hk20 x y (kp17 x y h) (Nat.ne_of_lt (hf14 x y ((fun x y h => h) x y h)))
                have mx123 : z_MX Y19 q10 i3 s_edgeCount (s_edgeCount + 1) qe er := z_MX.two y21 rfl hqe ⟨by omega, by omega⟩ ⟨by omega, by omega⟩ (by omega) rre
                refine z_callV C (cx_X2_insert l q10 mx123 (MOi.sub kp24) SRi (z_D_new MEi (by rintro ⟨_, h | h | h⟩ <;> omega)) ⟨MCi, Int.le_trans (z_D_cnt SRi MEi (by omega) (by omega) (by omega)) (by omega)⟩ (by omega)) mv_2_40 (z_atS 1 2 (by decide) rfl rfl rfl) pd_X2_insert ⟨by omega, by omega⟩ ⟨by omega, by omega⟩ rfl (Nat.le_of_ble_eq_true rfl) dX2_addEdge_126 ?_
                rintro _ _ _ ⟨g25, mf26, ms27, rfl, rfl, hMo126, hsr126, hme126, rfl⟩
                refine z_iinc (L' := [(3, z_v (i3 + 1)), (0, .ref (ad 1)), (1, .ref q), (2, z_v s_edgeCount)]) C 3 dX2_addEdge_129 rfl (by decide) rfl ?_
                refine z_goto (t := 55) C dX2_addEdge_132 (by decide) ?_
                refine z_wide (k := (1 + ((i3 + 1) : Int).toNat)) (n := (5 + 5 * ((i3 + 1) : Int).toNat)) (by omega) (by omega) ?_
                refine z_loc (L' := [(0, .ref (ad 1)), (1, .ref q), (2, z_v s_edgeCount), (3, z_v (i3 + 1))]) [1, 2, 3, 0] rfl ?_
                exact ih55 (i3 + 1) (fs_moveCount + 1) g25 Y19 mf26 ms27 (by omega) ((fun x y h => kp24 x y (KP x y h))) (by first | exact hMo90 | exact hMo126 | exact MOi) (by first | exact hsr90 | exact hsr126 | exact SRi) (by first | exact z_D_step MEi hme90 (by omega) (by omega) (Or.inl ⟨rfl, rfl, hM1⟩) | exact z_D_step MEi hme126 (by omega) (by omega) (Or.inr ⟨rfl, rfl, hM2, hM3⟩) | exact z_D_skip MEi hM2 (by rintro (⟨h, _⟩ | ⟨_, h1, h2, h3⟩) <;> omega)) (by omega) (by omega)
            · skip
              have hM1 : z_isM s_edgeCount i3 em ec := Or.inr ⟨by omega, by omega, by omega, by omega⟩
              refine z_aloadn C 0 dX2_addEdge_73 rfl rfl ?_
              refine z_new3 (r := (RX1, TX1, 5)) (ci := 1) (fs := [z_v 0, z_v 0, .null, .null, z_v 0]) C rfl z_it1 tyX1 tyX1_ok nw_2_17 (fun j hj => match j, hj with | 0, _ => rfl | 1, _ => rfl | 2, _ => rfl | 3, _ => rfl | 4, _ => rfl | n + 5, h => absurd h (by show ¬ (n + 5 < 5); omega)) (by omega) (by show _ + 5 ≤ _; omega) dX2_addEdge_74 (fun q28 Y29 y30 hs31 hf32 => ?_)
              have y33 := hs31 _ _ yqf
              have y34 := hs31 _ _ yq4
              have kp35 : ∀ x y, FY x = some y → Y29 x = some y := fun x y h => hs31 x y ((fun x y h => h) x y h)
              refine z_wide (k := ((1 + (i3 : Int).toNat) + 1)) (n := ((5 + 5 * (i3 : Int).toNat) + 5)) (Nat.le_refl _) (Nat.le_refl _) ?_
              refine z_dup C dX2_addEdge_77 rfl ?_
              refine z_iloadn C 2 dX2_addEdge_78 rfl rfl ?_
              refine z_iloadn C 3 dX2_addEdge_79 rfl rfl ?_
              refine z_aloadn C 1 dX2_addEdge_80 rfl rfl ?_
              refine z_aloadn C 0 dX2_addEdge_81 rfl rfl ?_
              refine z_get C 1 (by decide) rfl rfl z_it2 0 (by decide) rfl fl_2_11 rfl dX2_addEdge_82 ?_
              refine z_iloadn C 3 dX2_addEdge_85 rfl rfl ?_
              refine z_aaldS C 2 1 (by decide) rfl rfl (by decide) (by omega) (by omega) eq4 dX2_addEdge_86 ?_
              refine z_callI C (cx_X1_init l s_edgeCount i3 q28 q (qe (i3 : Int).toNat) y30 y33 y34) mv_2_37 rfl pd_X1_init ⟨by omega, by omega⟩ ⟨by omega, by omega⟩ rfl (Nat.le_of_ble_eq_true rfl) dX2_addEdge_87 ?_
              rintro _ _ Y37 ⟨rr, rfl, hk38, y39, rrr, rre, rfl⟩
              have y40 := hk38 _ _ y33 (z_ne y33 y30 (fun z => by first | cases z | simp at z))
              have y41 := hk38 _ _ y34 (z_ne y34 y30 (fun z => by first | cases z | simp at z))
              have kp42 : ∀ x y, FY x = some y → Y37 x = some y := fun x y h => hk38 x y (kp35 x y h) (Nat.ne_of_lt (hf32 x y ((fun x y h => h) x y h)))
              have mx87 : z_MX Y37 q28 s_edgeCount i3 (s_edgeCount + 1) qe er := z_MX.two y39 hqe rfl ⟨by omega, by omega⟩ ⟨by omega, by omega⟩ (by omega) rre
              refine z_callV C (cx_X2_insert l q28 mx87 (MOi.sub kp42) SRi (z_D_new MEi (by rintro ⟨_, h | h | h⟩ <;> omega)) ⟨MCi, Int.le_trans (z_D_cnt SRi MEi (by omega) (by omega) (by omega)) (by omega)⟩ (by omega)) mv_2_40 (z_atS 1 2 (by decide) rfl rfl rfl) pd_X2_insert ⟨by omega, by omega⟩ ⟨by omega, by omega⟩ rfl (Nat.le_of_ble_eq_true rfl) dX2_addEdge_90 ?_
              rintro _ _ _ ⟨g43, mf44, ms45, rfl, rfl, hMo90, hsr90, hme90, rfl⟩
              refine z_goto (t := 129) C dX2_addEdge_93 (by decide) ?_
              refine z_iinc (L' := [(3, z_v (i3 + 1)), (0, .ref (ad 1)), (1, .ref q), (2, z_v s_edgeCount)]) C 3 dX2_addEdge_129 rfl (by decide) rfl ?_
              refine z_goto (t := 55) C dX2_addEdge_132 (by decide) ?_
              refine z_wide (k := (1 + ((i3 + 1) : Int).toNat)) (n := (5 + 5 * ((i3 + 1) : Int).toNat)) (by omega) (by omega) ?_
              refine z_loc (L' := [(0, .ref (ad 1)), (1, .ref q), (2, z_v s_edgeCount), (3, z_v (i3 + 1))]) [1, 2, 3, 0] rfl ?_
              exact ih55 (i3 + 1) (fs_moveCount + 1) g43 Y37 mf44 ms45 (by omega) ((fun x y h => kp42 x y (KP x y h))) (by first | exact hMo90 | exact hMo126 | exact MOi) (by first | exact hsr90 | exact hsr126 | exact SRi) (by first | exact z_D_step MEi hme90 (by omega) (by omega) (Or.inl ⟨rfl, rfl, hM1⟩) | exact z_D_step MEi hme126 (by omega) (by omega) (Or.inr ⟨rfl, rfl, hM2, hM3⟩) | exact z_D_skip MEi hM2 (by rintro (⟨h, _⟩ | ⟨_, h1, h2, h3⟩) <;> omega)) (by omega) (by omega)
      refine z_wide (k := (1 + (0 : Int).toNat)) (n := (5 + 5 * (0 : Int).toNat)) (by omega) (by omega) ?_
      refine z_loc (L' := [(0, .ref (ad 1)), (1, .ref q), (2, z_v s_edgeCount), (3, z_v 0)]) [2, 3, 1, 0] rfl ?_
      exact (L55 ((s_edgeCount - (0 : Int)).toNat + 1)) 0 s_moveCount g_moves Y mf ms (by omega) ((fun x y h => h)) (by first | exact hMo50 | exact HMo) (by first | exact hsr50 | exact hs) (by first | exact z_D_one hm (by assumption) hme50 | exact z_D_no hm (by assumption) (by omega)) (by omega) (Nat.lt_succ_self _)
    · skip
      refine z_aloadn C 1 dX2_addEdge_38 rfl rfl ?_
      refine z_new3 (r := (RX1, TX1, 5)) (ci := 1) (fs := [z_v 0, z_v 0, .null, .null, z_v 0]) C rfl z_it1 tyX1 tyX1_ok nw_2_17 (fun j hj => match j, hj with | 0, _ => rfl | 1, _ => rfl | 2, _ => rfl | 3, _ => rfl | 4, _ => rfl | n + 5, h => absurd h (by show ¬ (n + 5 < 5); omega)) (by omega) (by show _ + 5 ≤ _; omega) dX2_addEdge_39 (fun q46 Y47 y48 hs49 hf50 => ?_)
      have y51 := hs49 _ _ yq
      have kp52 : ∀ x y, Y x = some y → Y47 x = some y := fun x y h => hs49 x y ((fun x y h => h) x y h)
      refine z_wide (k := 1) (n := 5) (Nat.le_refl _) (Nat.le_refl _) ?_
      refine z_dup C dX2_addEdge_42 rfl ?_
      refine z_iloadn C 0 dX2_addEdge_43 rfl rfl ?_
      refine z_iconst C dX2_addEdge_44 ?_
      refine z_aloadn C 2 dX2_addEdge_45 rfl rfl ?_
      refine z_null C dX2_addEdge_46 ?_
      refine z_callI C (cx_X1_init_n l s_edgeCount (-1) q46 q y48 y51 (by omega)) mv_2_37 rfl pd_X1_init ⟨by omega, by omega⟩ ⟨by omega, by omega⟩ rfl (Nat.le_of_ble_eq_true rfl) dX2_addEdge_47 ?_
      rintro _ _ Y53 ⟨rr, rfl, hk54, y55, rrr, rre, rfl⟩
      have y56 := hk54 _ _ y51 (z_ne y51 y48 (fun z => by first | cases z | simp at z))
      have kp57 : ∀ x y, Y x = some y → Y53 x = some y := fun x y h => hk54 x y (kp52 x y h) (Nat.ne_of_lt (hf50 x y ((fun x y h => h) x y h)))
      have mx47 : z_MX Y53 q46 s_edgeCount (-1) (s_edgeCount + 1) qe er := z_MX.one y55 hqe ⟨by omega, by omega⟩ (by omega) rre
      refine z_callV C (cx_X2_insert l q46 mx47 (HMo.sub kp57) hs (z_old_new hm (by omega)) ⟨hmc, Int.le_trans (z_old_cnt hs hm (by omega)) (by omega)⟩ (by omega)) mv_2_40 (z_atS 1 2 (by decide) rfl rfl rfl) pd_X2_insert ⟨by omega, by omega⟩ ⟨by omega, by omega⟩ rfl (Nat.le_of_ble_eq_true rfl) dX2_addEdge_50 ?_
      rintro _ _ _ ⟨g58, mf59, ms60, rfl, rfl, hMo50, hsr50, hme50, rfl⟩
      refine z_iconst C dX2_addEdge_53 ?_
      refine z_istoren (L' := [(3, z_v 0), (2, z_v s_edgeCount), (0, .ref (ad 1)), (1, .ref q)]) C dX2_addEdge_54 rfl (by decide) rfl ?_
      have L55 : ∀ (n : Nat), ∀ (i3 : Int) (fs_moveCount : Int) (fg_moves : Nat → Option Nat) (FY : Nat → Option va_E) (gmf : Nat → Int) (gms : Nat → Int), (0 ≤ i3 ∧ i3 ≤ s_edgeCount) → (∀ x y, Y x = some y → FY x = some y) → (z_Mo FY fg_moves fs_moveCount gmf gms (s_edgeCount + 1) qe er) → (z_srt fs_moveCount gmf gms) → (∀ x y, z_mem fs_moveCount gmf gms x y ↔ z_D s_edgeCount i3 em ec x y) → (0 ≤ fs_moveCount) → (s_edgeCount - (i3 : Int)).toNat < n → z_V p l e R s m args below meth c Q D A 27 ad 4 (z_zc ad ks (s_edgeCount + 1) fs_moveCount s_isNeeded s_timesDone s_size s_isGoing s_allTime s_stepCount s_gapCount (va_up g_edges (s_edgeCount : Int).toNat (some q)) fg_moves g_limits a_sfacts a_sbounds a_facts a_zone a_most a_places a_amounts a_nextPlaces a_nextAmounts a_earliest a_visited a_lastSet a_gapFrom a_gapTo a_gapLeast a_askedPlaces a_askedAmounts) FY (1 + (i3 : Int).toNat) (5 + 5 * (i3 : Int).toNat) 55 [(0, .ref (ad 1)), (1, .ref q), (2, z_v s_edgeCount), (3, z_v i3)] [] := by
        intro n
        induction n with
        | zero => intro i3 fs_moveCount fg_moves FY gmf gms I3 KP MOi SRi MEi MCi hm; exact absurd hm (Nat.not_lt_zero _)
        | succ n ih55 =>
          intro i3 fs_moveCount fg_moves FY gmf gms I3 KP MOi SRi MEi MCi hm
          have HNf := HN.sub KP
          have yqf := KP _ _ yq
          refine z_iloadn C 3 dX2_addEdge_55 rfl rfl ?_
          refine z_iloadn C 2 dX2_addEdge_56 rfl rfl ?_
          refine z_icmp_ge (t := 135) C dX2_addEdge_57 (by decide) (by omega) (by omega) (fun c61 => ?_) (fun c61 => ?_)
          · skip
            refine z_iloadn C 2 dX2_addEdge_135 rfl rfl ?_
            rw [hQ]
            exact z_iret C hrt dX2_addEdge_136 (⟨_, _, gmf, gms, rfl, HN.sub KP, MOi, z_D_end (by rw [show i3 = s_edgeCount by omega] at MEi; exact MEi) SRi (by omega), MCi, rfl⟩) (by omega) (by omega)
          · skip
            refine z_aloadn C 1 dX2_addEdge_60 rfl rfl ?_
            refine z_aloadn C 0 dX2_addEdge_61 rfl rfl ?_
            refine z_get C 1 (by decide) rfl rfl z_it2 0 (by decide) rfl fl_2_11 rfl dX2_addEdge_62 ?_
            refine z_iloadn C 3 dX2_addEdge_65 rfl rfl ?_
            obtain ⟨eq62, yq62, rq62, tq62⟩ := HNf.1 i3 (by omega) (by omega)
            refine z_aaldS C 2 1 (by decide) rfl rfl (by decide) (by omega) (by omega) eq62 dX2_addEdge_66 ?_
            refine z_callV C (cx_X0_isAnsweredBy l q (qe (i3 : Int).toNat) yqf yq62 ⟨by omega, by omega⟩) mv_2_44 (z_atY 0 yqf rfl rfl) pd_X0_isAnsweredBy ⟨by omega, by omega⟩ ⟨by omega, by omega⟩ rfl (Nat.le_of_ble_eq_true rfl) dX2_addEdge_67 ?_
            rintro _ _ _ ⟨rfl, rfl, z63, rfl, hz63⟩
            refine z_if_eq (t := 96) C dX2_addEdge_70 (by decide) (by omega) (fun c64 => ?_) (fun c64 => ?_)
            · skip
              have hM2 : ¬ z_isM s_edgeCount i3 em ec := by rintro (⟨h, _⟩ | ⟨_, h1, h2, h3⟩) <;> omega
              refine z_aloadn C 0 dX2_addEdge_96 rfl rfl ?_
              refine z_get C 1 (by decide) rfl rfl z_it2 0 (by decide) rfl fl_2_11 rfl dX2_addEdge_97 ?_
              refine z_iloadn C 3 dX2_addEdge_100 rfl rfl ?_
              refine z_aaldS C 2 1 (by decide) rfl rfl (by decide) (by omega) (by omega) eq62 dX2_addEdge_101 ?_
              refine z_aloadn C 1 dX2_addEdge_102 rfl rfl ?_
              refine z_callV C (cx_X0_isAnsweredBy l (qe (i3 : Int).toNat) q yq62 yqf ⟨by omega, by omega⟩) mv_2_44 (z_atY 0 yq62 rfl rfl) pd_X0_isAnsweredBy ⟨by omega, by omega⟩ ⟨by omega, by omega⟩ rfl (Nat.le_of_ble_eq_true rfl) dX2_addEdge_103 ?_
              rintro _ _ _ ⟨rfl, rfl, z66, rfl, hz66⟩
              refine z_if_eq (t := 129) C dX2_addEdge_106 (by decide) (by omega) (fun c67 => ?_) (fun c67 => ?_)
              · skip
                refine z_iinc (L' := [(3, z_v (i3 + 1)), (0, .ref (ad 1)), (1, .ref q), (2, z_v s_edgeCount)]) C 3 dX2_addEdge_129 rfl (by decide) rfl ?_
                refine z_goto (t := 55) C dX2_addEdge_132 (by decide) ?_
                refine z_wide (k := (1 + ((i3 + 1) : Int).toNat)) (n := (5 + 5 * ((i3 + 1) : Int).toNat)) (by omega) (by omega) ?_
                refine z_loc (L' := [(0, .ref (ad 1)), (1, .ref q), (2, z_v s_edgeCount), (3, z_v (i3 + 1))]) [1, 2, 3, 0] rfl ?_
                exact ih55 (i3 + 1) fs_moveCount fg_moves FY gmf gms (by omega) ((fun x y h => (fun x y h => h) x y (KP x y h))) (by first | exact hMo90 | exact hMo126 | exact MOi) (by first | exact hsr90 | exact hsr126 | exact SRi) (by first | exact z_D_step MEi hme90 (by omega) (by omega) (Or.inl ⟨rfl, rfl, hM1⟩) | exact z_D_step MEi hme126 (by omega) (by omega) (Or.inr ⟨rfl, rfl, hM2, hM3⟩) | exact z_D_skip MEi hM2 (by rintro (⟨h, _⟩ | ⟨_, h1, h2, h3⟩) <;> omega)) (by omega) (by omega)
              · skip
                have hM3 : z_isM i3 s_edgeCount em ec := Or.inr ⟨by omega, by omega, by omega, by omega⟩
                refine z_aloadn C 0 dX2_addEdge_109 rfl rfl ?_
                refine z_new3 (r := (RX1, TX1, 5)) (ci := 1) (fs := [z_v 0, z_v 0, .null, .null, z_v 0]) C rfl z_it1 tyX1 tyX1_ok nw_2_17 (fun j hj => match j, hj with | 0, _ => rfl | 1, _ => rfl | 2, _ => rfl | 3, _ => rfl | 4, _ => rfl | n + 5, h => absurd h (by show ¬ (n + 5 < 5); omega)) (by omega) (by show _ + 5 ≤ _; omega) dX2_addEdge_110 (fun q68 Y69 y70 hs71 hf72 => ?_)
                have y73 := hs71 _ _ yqf
                have y74 := hs71 _ _ yq62
                have kp75 : ∀ x y, FY x = some y → Y69 x = some y := fun x y h => hs71 x y ((fun x y h => h) x y h)
                refine z_wide (k := ((1 + (i3 : Int).toNat) + 1)) (n := ((5 + 5 * (i3 : Int).toNat) + 5)) (Nat.le_refl _) (Nat.le_refl _) ?_
                refine z_dup C dX2_addEdge_113 rfl ?_
                refine z_iloadn C 3 dX2_addEdge_114 rfl rfl ?_
                refine z_iloadn C 2 dX2_addEdge_115 rfl rfl ?_
                refine z_aloadn C 0 dX2_addEdge_116 rfl rfl ?_
                refine z_get C 1 (by decide) rfl rfl z_it2 0 (by decide) rfl fl_2_11 rfl dX2_addEdge_117 ?_
                refine z_iloadn C 3 dX2_addEdge_120 rfl rfl ?_
                refine z_aaldS C 2 1 (by decide) rfl rfl (by decide) (by omega) (by omega) eq62 dX2_addEdge_121 ?_
                refine z_aloadn C 1 dX2_addEdge_122 rfl rfl ?_
                refine z_callI C (cx_X1_init l i3 s_edgeCount q68 (qe (i3 : Int).toNat) q y70 y74 y73) mv_2_37 rfl pd_X1_init ⟨by omega, by omega⟩ ⟨by omega, by omega⟩ rfl (Nat.le_of_ble_eq_true rfl) dX2_addEdge_123 ?_
                rintro _ _ Y77 ⟨rr, rfl, hk78, y79, rrr, rre, rfl⟩
                have y80 := hk78 _ _ y73 (z_ne y73 y70 (fun z => by first | cases z | simp at z))
                have y81 := hk78 _ _ y74 (z_ne y74 y70 (fun z => by first | cases z | simp at z))
                have kp82 : ∀ x y, FY x = some y → Y77 x = some y := fun x y h => hk78 x y (kp75 x y h) (Nat.ne_of_lt (hf72 x y ((fun x y h => h) x y h)))
                have mx123 : z_MX Y77 q68 i3 s_edgeCount (s_edgeCount + 1) qe er := z_MX.two y79 rfl hqe ⟨by omega, by omega⟩ ⟨by omega, by omega⟩ (by omega) rre
                refine z_callV C (cx_X2_insert l q68 mx123 (MOi.sub kp82) SRi (z_D_new MEi (by rintro ⟨_, h | h | h⟩ <;> omega)) ⟨MCi, Int.le_trans (z_D_cnt SRi MEi (by omega) (by omega) (by omega)) (by omega)⟩ (by omega)) mv_2_40 (z_atS 1 2 (by decide) rfl rfl rfl) pd_X2_insert ⟨by omega, by omega⟩ ⟨by omega, by omega⟩ rfl (Nat.le_of_ble_eq_true rfl) dX2_addEdge_126 ?_
                rintro _ _ _ ⟨g83, mf84, ms85, rfl, rfl, hMo126, hsr126, hme126, rfl⟩
                refine z_iinc (L' := [(3, z_v (i3 + 1)), (0, .ref (ad 1)), (1, .ref q), (2, z_v s_edgeCount)]) C 3 dX2_addEdge_129 rfl (by decide) rfl ?_
                refine z_goto (t := 55) C dX2_addEdge_132 (by decide) ?_
                refine z_wide (k := (1 + ((i3 + 1) : Int).toNat)) (n := (5 + 5 * ((i3 + 1) : Int).toNat)) (by omega) (by omega) ?_
                refine z_loc (L' := [(0, .ref (ad 1)), (1, .ref q), (2, z_v s_edgeCount), (3, z_v (i3 + 1))]) [1, 2, 3, 0] rfl ?_
                exact ih55 (i3 + 1) (fs_moveCount + 1) g83 Y77 mf84 ms85 (by omega) ((fun x y h => kp82 x y (KP x y h))) (by first | exact hMo90 | exact hMo126 | exact MOi) (by first | exact hsr90 | exact hsr126 | exact SRi) (by first | exact z_D_step MEi hme90 (by omega) (by omega) (Or.inl ⟨rfl, rfl, hM1⟩) | exact z_D_step MEi hme126 (by omega) (by omega) (Or.inr ⟨rfl, rfl, hM2, hM3⟩) | exact z_D_skip MEi hM2 (by rintro (⟨h, _⟩ | ⟨_, h1, h2, h3⟩) <;> omega)) (by omega) (by omega)
            · skip
              have hM1 : z_isM s_edgeCount i3 em ec := Or.inr ⟨by omega, by omega, by omega, by omega⟩
              refine z_aloadn C 0 dX2_addEdge_73 rfl rfl ?_
              refine z_new3 (r := (RX1, TX1, 5)) (ci := 1) (fs := [z_v 0, z_v 0, .null, .null, z_v 0]) C rfl z_it1 tyX1 tyX1_ok nw_2_17 (fun j hj => match j, hj with | 0, _ => rfl | 1, _ => rfl | 2, _ => rfl | 3, _ => rfl | 4, _ => rfl | n + 5, h => absurd h (by show ¬ (n + 5 < 5); omega)) (by omega) (by show _ + 5 ≤ _; omega) dX2_addEdge_74 (fun q86 Y87 y88 hs89 hf90 => ?_)
              have y91 := hs89 _ _ yqf
              have y92 := hs89 _ _ yq62
              have kp93 : ∀ x y, FY x = some y → Y87 x = some y := fun x y h => hs89 x y ((fun x y h => h) x y h)
              refine z_wide (k := ((1 + (i3 : Int).toNat) + 1)) (n := ((5 + 5 * (i3 : Int).toNat) + 5)) (Nat.le_refl _) (Nat.le_refl _) ?_
              refine z_dup C dX2_addEdge_77 rfl ?_
              refine z_iloadn C 2 dX2_addEdge_78 rfl rfl ?_
              refine z_iloadn C 3 dX2_addEdge_79 rfl rfl ?_
              refine z_aloadn C 1 dX2_addEdge_80 rfl rfl ?_
              refine z_aloadn C 0 dX2_addEdge_81 rfl rfl ?_
              refine z_get C 1 (by decide) rfl rfl z_it2 0 (by decide) rfl fl_2_11 rfl dX2_addEdge_82 ?_
              refine z_iloadn C 3 dX2_addEdge_85 rfl rfl ?_
              refine z_aaldS C 2 1 (by decide) rfl rfl (by decide) (by omega) (by omega) eq62 dX2_addEdge_86 ?_
              refine z_callI C (cx_X1_init l s_edgeCount i3 q86 q (qe (i3 : Int).toNat) y88 y91 y92) mv_2_37 rfl pd_X1_init ⟨by omega, by omega⟩ ⟨by omega, by omega⟩ rfl (Nat.le_of_ble_eq_true rfl) dX2_addEdge_87 ?_
              rintro _ _ Y95 ⟨rr, rfl, hk96, y97, rrr, rre, rfl⟩
              have y98 := hk96 _ _ y91 (z_ne y91 y88 (fun z => by first | cases z | simp at z))
              have y99 := hk96 _ _ y92 (z_ne y92 y88 (fun z => by first | cases z | simp at z))
              have kp100 : ∀ x y, FY x = some y → Y95 x = some y := fun x y h => hk96 x y (kp93 x y h) (Nat.ne_of_lt (hf90 x y ((fun x y h => h) x y h)))
              have mx87 : z_MX Y95 q86 s_edgeCount i3 (s_edgeCount + 1) qe er := z_MX.two y97 hqe rfl ⟨by omega, by omega⟩ ⟨by omega, by omega⟩ (by omega) rre
              refine z_callV C (cx_X2_insert l q86 mx87 (MOi.sub kp100) SRi (z_D_new MEi (by rintro ⟨_, h | h | h⟩ <;> omega)) ⟨MCi, Int.le_trans (z_D_cnt SRi MEi (by omega) (by omega) (by omega)) (by omega)⟩ (by omega)) mv_2_40 (z_atS 1 2 (by decide) rfl rfl rfl) pd_X2_insert ⟨by omega, by omega⟩ ⟨by omega, by omega⟩ rfl (Nat.le_of_ble_eq_true rfl) dX2_addEdge_90 ?_
              rintro _ _ _ ⟨g101, mf102, ms103, rfl, rfl, hMo90, hsr90, hme90, rfl⟩
              refine z_goto (t := 129) C dX2_addEdge_93 (by decide) ?_
              refine z_iinc (L' := [(3, z_v (i3 + 1)), (0, .ref (ad 1)), (1, .ref q), (2, z_v s_edgeCount)]) C 3 dX2_addEdge_129 rfl (by decide) rfl ?_
              refine z_goto (t := 55) C dX2_addEdge_132 (by decide) ?_
              refine z_wide (k := (1 + ((i3 + 1) : Int).toNat)) (n := (5 + 5 * ((i3 + 1) : Int).toNat)) (by omega) (by omega) ?_
              refine z_loc (L' := [(0, .ref (ad 1)), (1, .ref q), (2, z_v s_edgeCount), (3, z_v (i3 + 1))]) [1, 2, 3, 0] rfl ?_
              exact ih55 (i3 + 1) (fs_moveCount + 1) g101 Y95 mf102 ms103 (by omega) ((fun x y h => kp100 x y (KP x y h))) (by first | exact hMo90 | exact hMo126 | exact MOi) (by first | exact hsr90 | exact hsr126 | exact SRi) (by first | exact z_D_step MEi hme90 (by omega) (by omega) (Or.inl ⟨rfl, rfl, hM1⟩) | exact z_D_step MEi hme126 (by omega) (by omega) (Or.inr ⟨rfl, rfl, hM2, hM3⟩) | exact z_D_skip MEi hM2 (by rintro (⟨h, _⟩ | ⟨_, h1, h2, h3⟩) <;> omega)) (by omega) (by omega)
      refine z_wide (k := (1 + (0 : Int).toNat)) (n := (5 + 5 * (0 : Int).toNat)) (by omega) (by omega) ?_
      refine z_loc (L' := [(0, .ref (ad 1)), (1, .ref q), (2, z_v s_edgeCount), (3, z_v 0)]) [2, 3, 1, 0] rfl ?_
      exact (L55 ((s_edgeCount - (0 : Int)).toNat + 1)) 0 (s_moveCount + 1) g58 Y53 mf59 ms60 (by omega) (kp57) (by first | exact hMo50 | exact HMo) (by first | exact hsr50 | exact hs) (by first | exact z_D_one hm (by assumption) hme50 | exact z_D_no hm (by assumption) (by omega)) (by omega) (Nat.lt_succ_self _)
  · skip
    omega
set_option maxRecDepth 20000 in
theorem cx_X10_edge (l : Launch) {D : va_G} {A : Nat → Prop} {ad : Nat → Nat} {ks : z_Ks} {s_edgeCount s_moveCount s_isNeeded s_timesDone s_size s_isGoing s_allTime s_stepCount s_gapCount : Int} {g_edges g_moves g_limits : Nat → Option Nat} {a_sfacts a_sbounds a_facts a_zone a_most a_places a_amounts a_nextPlaces a_nextAmounts a_earliest a_visited a_lastSet a_gapFrom a_gapTo a_gapLeast a_askedPlaces a_askedAmounts : Nat → Int} {Y : Nat → Option va_E} {em ef et ec er gn gt ln lt mf ms : Nat → Int} {qe ql qt : Nat → Nat} (m0 p0 q0 b0 s0 : Int) (h0 : z_rg m0) (h1 : z_rg p0) (h2 : z_rg q0) (h3 : z_rg b0) (h4 : z_rg s0) (Hs_edgeCount : 0 ≤ s_edgeCount ∧ s_edgeCount ≤ 20) (HN : z_N ks Y g_edges g_limits s_edgeCount em ef et ec er gn gt ln lt qe ql qt) (HMo : z_Mo Y g_moves s_moveCount mf ms s_edgeCount qe er) (HML : z_ml s_edgeCount s_moveCount mf ms em ec) (hmc : 0 ≤ s_moveCount) : z_Met l yX10_edge cX10_edge 6 (some .int) 3 67 24 115 D A 27 ad ks [.ref (ad 0), z_v m0, z_v p0, z_v q0, z_v b0, z_v s0] (z_zc ad ks s_edgeCount s_moveCount s_isNeeded s_timesDone s_size s_isGoing s_allTime s_stepCount s_gapCount g_edges g_moves g_limits a_sfacts a_sbounds a_facts a_zone a_most a_places a_amounts a_nextPlaces a_nextAmounts a_earliest a_visited a_lastSet a_gapFrom a_gapTo a_gapLeast a_askedPlaces a_askedAmounts) Y (fun r S' Y' => ∃ (ne nm nn ng : Int) (ge gm : Nat → Option Nat) (mf' ms' : Nat → Int) (qe' ql' qt' : Nat → Nat), S' = (z_zc ad ks ne nm nn s_timesDone s_size ng s_allTime s_stepCount s_gapCount ge gm g_limits a_sfacts a_sbounds a_facts a_zone a_most a_places a_amounts a_nextPlaces a_nextAmounts a_earliest a_visited a_lastSet a_gapFrom a_gapTo a_gapLeast a_askedPlaces a_askedAmounts) ∧ z_N ks Y' ge g_limits ne (if (z_eBad m0 p0 q0 b0 s0 = 0 ∧ s_edgeCount ≠ 20) then va_up em s_edgeCount.toNat m0 else em) (if (z_eBad m0 p0 q0 b0 s0 = 0 ∧ s_edgeCount ≠ 20) then va_up ef s_edgeCount.toNat p0 else ef) (if (z_eBad m0 p0 q0 b0 s0 = 0 ∧ s_edgeCount ≠ 20) then va_up et s_edgeCount.toNat q0 else et) (if (z_eBad m0 p0 q0 b0 s0 = 0 ∧ s_edgeCount ≠ 20) then va_up ec s_edgeCount.toNat b0 else ec) (if (z_eBad m0 p0 q0 b0 s0 = 0 ∧ s_edgeCount ≠ 20) then va_up er s_edgeCount.toNat s0 else er) (if (z_eBad m0 p0 q0 b0 s0 = 0 ∧ s_edgeCount ≠ 20) then va_up gn s_edgeCount.toNat 0 else gn) gt ln lt qe' ql' qt' ∧ z_Mo Y' gm nm mf' ms' ne qe' (if (z_eBad m0 p0 q0 b0 s0 = 0 ∧ s_edgeCount ≠ 20) then va_up er s_edgeCount.toNat s0 else er) ∧ z_ml ne nm mf' ms' (if (z_eBad m0 p0 q0 b0 s0 = 0 ∧ s_edgeCount ≠ 20) then va_up em s_edgeCount.toNat m0 else em) (if (z_eBad m0 p0 q0 b0 s0 = 0 ∧ s_edgeCount ≠ 20) then va_up ec s_edgeCount.toNat b0 else ec) ∧ 0 ≤ nm ∧ ne = z_edgeN m0 p0 q0 b0 s0 s_edgeCount ∧ nn = z_sel (z_eBad m0 p0 q0 b0 s0 = 0 ∧ s_edgeCount ≠ 20) 1 s_isNeeded ∧ ng = z_sel (z_eBad m0 p0 q0 b0 s0 = 0 ∧ s_edgeCount ≠ 20) 0 s_isGoing ∧ ∃ z : Int, r = some (z_v z) ∧ z = z_edgeR m0 p0 q0 b0 s0 s_edgeCount) := by
  refine z_start2 (by decide) (Nat.le_of_ble_eq_true rfl) ?_
  intro p e R s m args below meth c Q C hRf hRc hRs hRl hQ hrt hnm
  refine z_loc (L' := [(0, .ref (ad 0)), (1, z_v m0), (2, z_v p0), (3, z_v q0), (4, z_v b0), (5, z_v s0)]) [0, 1, 2, 3, 4, 5] rfl ?_
  refine z_iloadn C 1 dX10_edge_0 rfl rfl ?_
  refine z_callS C (cm_X10_isMachine l m0 (by omega)) mv_10_44 pd_X10_isMachine ⟨by omega, by omega⟩ ⟨by omega, by omega⟩ rfl (Nat.le_of_ble_eq_true rfl) dX10_edge_1 ?_
  rintro _ _ _ ⟨rfl, rfl, z3, rfl, hz3⟩
  refine z_if_eq (t := 21) C dX10_edge_4 (by decide) (by omega) (fun c4 => ?_) (fun c4 => ?_)
  · skip
    refine z_bipush C dX10_edge_21 (by decide) ?_
    rw [hQ]
    exact z_iret C hrt dX10_edge_23 (have hno : ¬ (z_eBad m0 p0 q0 b0 s0 = 0 ∧ s_edgeCount ≠ 20) := (by unfold z_eBad; split <;> (try split) <;> (try split) <;> omega); ⟨s_edgeCount, s_moveCount, s_isNeeded, s_isGoing, g_edges, g_moves, mf, ms, qe, ql, qt, rfl, by simp only [if_neg hno]; exact HN, by simp only [if_neg hno]; exact HMo, by simp only [if_neg hno]; exact HML, hmc, by unfold z_edgeN z_eBad; split <;> (try split) <;> (try split) <;> omega, (z_sel_neg hno).symm, (z_sel_neg hno).symm, _, rfl, by unfold z_edgeR z_eBad; split <;> (try split) <;> (try split) <;> omega⟩) (by omega) (by omega)
  · skip
    refine z_iloadn C 2 dX10_edge_7 rfl rfl ?_
    refine z_callS C (cm_X10_isPlace l p0 (by omega)) mv_10_48 pd_X10_isPlace ⟨by omega, by omega⟩ ⟨by omega, by omega⟩ rfl (Nat.le_of_ble_eq_true rfl) dX10_edge_8 ?_
    rintro _ _ _ ⟨rfl, rfl, z7, rfl, hz7⟩
    refine z_if_eq (t := 21) C dX10_edge_11 (by decide) (by omega) (fun c8 => ?_) (fun c8 => ?_)
    · skip
      refine z_bipush C dX10_edge_21 (by decide) ?_
      rw [hQ]
      exact z_iret C hrt dX10_edge_23 (have hno : ¬ (z_eBad m0 p0 q0 b0 s0 = 0 ∧ s_edgeCount ≠ 20) := (by unfold z_eBad; split <;> (try split) <;> (try split) <;> omega); ⟨s_edgeCount, s_moveCount, s_isNeeded, s_isGoing, g_edges, g_moves, mf, ms, qe, ql, qt, rfl, by simp only [if_neg hno]; exact HN, by simp only [if_neg hno]; exact HMo, by simp only [if_neg hno]; exact HML, hmc, by unfold z_edgeN z_eBad; split <;> (try split) <;> (try split) <;> omega, (z_sel_neg hno).symm, (z_sel_neg hno).symm, _, rfl, by unfold z_edgeR z_eBad; split <;> (try split) <;> (try split) <;> omega⟩) (by omega) (by omega)
    · skip
      refine z_iloadn C 3 dX10_edge_14 rfl rfl ?_
      refine z_callS C (cm_X10_isPlace l q0 (by omega)) mv_10_48 pd_X10_isPlace ⟨by omega, by omega⟩ ⟨by omega, by omega⟩ rfl (Nat.le_of_ble_eq_true rfl) dX10_edge_15 ?_
      rintro _ _ _ ⟨rfl, rfl, z11, rfl, hz11⟩
      refine z_if_ne (t := 24) C dX10_edge_18 (by decide) (by omega) (fun c12 => ?_) (fun c12 => ?_)
      · skip
        refine z_iload C 4 dX10_edge_24 rfl ?_
        refine z_bipush C dX10_edge_26 (by decide) ?_
        refine z_icmp_lt (t := 45) C dX10_edge_28 (by decide) (by omega) (by omega) (fun c13 => ?_) (fun c13 => ?_)
        · skip
          refine z_bipush C dX10_edge_45 (by decide) ?_
          rw [hQ]
          exact z_iret C hrt dX10_edge_47 (have hno : ¬ (z_eBad m0 p0 q0 b0 s0 = 0 ∧ s_edgeCount ≠ 20) := (by unfold z_eBad; split <;> (try split) <;> (try split) <;> omega); ⟨s_edgeCount, s_moveCount, s_isNeeded, s_isGoing, g_edges, g_moves, mf, ms, qe, ql, qt, rfl, by simp only [if_neg hno]; exact HN, by simp only [if_neg hno]; exact HMo, by simp only [if_neg hno]; exact HML, hmc, by unfold z_edgeN z_eBad; split <;> (try split) <;> (try split) <;> omega, (z_sel_neg hno).symm, (z_sel_neg hno).symm, _, rfl, by unfold z_edgeR z_eBad; split <;> (try split) <;> (try split) <;> omega⟩) (by omega) (by omega)
        · skip
          refine z_iload C 4 dX10_edge_31 rfl ?_
          refine z_iconst C dX10_edge_33 ?_
          refine z_icmp_gt (t := 45) C dX10_edge_34 (by decide) (by omega) (by omega) (fun c14 => ?_) (fun c14 => ?_)
          · skip
            refine z_bipush C dX10_edge_45 (by decide) ?_
            rw [hQ]
            exact z_iret C hrt dX10_edge_47 (have hno : ¬ (z_eBad m0 p0 q0 b0 s0 = 0 ∧ s_edgeCount ≠ 20) := (by unfold z_eBad; split <;> (try split) <;> (try split) <;> omega); ⟨s_edgeCount, s_moveCount, s_isNeeded, s_isGoing, g_edges, g_moves, mf, ms, qe, ql, qt, rfl, by simp only [if_neg hno]; exact HN, by simp only [if_neg hno]; exact HMo, by simp only [if_neg hno]; exact HML, hmc, by unfold z_edgeN z_eBad; split <;> (try split) <;> (try split) <;> omega, (z_sel_neg hno).symm, (z_sel_neg hno).symm, _, rfl, by unfold z_edgeR z_eBad; split <;> (try split) <;> (try split) <;> omega⟩) (by omega) (by omega)
          · skip
            refine z_iload C 5 dX10_edge_37 rfl ?_
            refine z_bipush C dX10_edge_39 (by decide) ?_
            obtain ⟨b15, hb15, rb15⟩ := z_bits (z_i s0 &&& z_i (-15))
            refine z_iand C hb15 dX10_edge_41 ?_
            have qb15 := z_bitsE hb15 rb15
            refine z_if_eq (t := 48) C dX10_edge_42 (by decide) (by omega) (fun c16 => ?_) (fun c16 => ?_)
            · skip
              refine z_aloadn C 0 dX10_edge_48 rfl rfl ?_
              refine z_get C 0 (by decide) rfl rfl z_it10 0 (by decide) rfl fl_10_12 rfl dX10_edge_49 ?_
              refine z_get C 1 (by decide) rfl rfl z_it2 1 (by decide) rfl fl_10_51 rfl dX10_edge_52 ?_
              refine z_bipush C dX10_edge_55 (by decide) ?_
              refine z_icmp_lt (t := 63) C dX10_edge_57 (by decide) (by omega) (by omega) (fun c17 => ?_) (fun c17 => ?_)
              · skip
                refine z_aloadn C 0 dX10_edge_63 rfl rfl ?_
                refine z_callV C (cm_X10_forgetFindings l ) mv_10_55 (z_atS 0 10 (by decide) rfl rfl rfl) pd_X10_forgetFindings ⟨by omega, by omega⟩ ⟨by omega, by omega⟩ rfl (Nat.le_of_ble_eq_true rfl) dX10_edge_64 ?_
                rintro _ _ _ ⟨rfl, rfl, rfl⟩
                refine z_aloadn C 0 dX10_edge_67 rfl rfl ?_
                refine z_get C 0 (by decide) rfl rfl z_it10 0 (by decide) rfl fl_10_12 rfl dX10_edge_68 ?_
                refine z_new3 (r := (RX0, TX0, 6)) (ci := 0) (fs := [z_v 0, z_v 0, z_v 0, z_v 0, z_v 0, .null]) C rfl z_it0 tyX0 tyX0_ok nw_10_58 (fun j hj => match j, hj with | 0, _ => rfl | 1, _ => rfl | 2, _ => rfl | 3, _ => rfl | 4, _ => rfl | 5, _ => rfl | n + 6, h => absurd h (by show ¬ (n + 6 < 6); omega)) (by omega) (by show _ + 6 ≤ _; omega) dX10_edge_71 (fun q20 Y21 y22 hs23 hf24 => ?_)
                have kp25 : ∀ x y, Y x = some y → Y21 x = some y := fun x y h => hs23 x y ((fun x y h => h) x y h)
                refine z_wide (k := 1) (n := 6) (Nat.le_refl _) (Nat.le_refl _) ?_
                refine z_dup C dX10_edge_74 rfl ?_
                refine z_iloadn C 1 dX10_edge_75 rfl rfl ?_
                refine z_iloadn C 2 dX10_edge_76 rfl rfl ?_
                refine z_iloadn C 3 dX10_edge_77 rfl rfl ?_
                refine z_iload C 4 dX10_edge_78 rfl ?_
                refine z_iload C 5 dX10_edge_80 rfl ?_
                refine z_callI C (cx_X0_init l m0 p0 q0 b0 s0 q20 y22) mv_10_60 rfl pd_X0_init ⟨by omega, by omega⟩ ⟨by omega, by omega⟩ rfl (Nat.le_of_ble_eq_true rfl) dX10_edge_82 ?_
                rintro _ _ Y26 ⟨gg, tt, rfl, hk27, y28, ygg, ytt, fgg, gtt, rfl⟩
                have kp29 : ∀ x y, Y x = some y → Y26 x = some y := fun x y h => hk27 x y (kp25 x y h) (Nat.ne_of_lt (hf24 x y ((fun x y h => h) x y h)))
                refine z_wide (k := 3) (n := 10) (Nat.le_refl _) (Nat.le_refl _) ?_
                have HNn := HN.edge (by omega) kp29 y28 ygg ytt (fun x y h => fgg x y (kp25 x y h)) (fun x y h => Nat.lt_trans (fgg x y (kp25 x y h)) gtt) (by omega)
                refine z_callV C (cx_X2_addEdge l q20 HNn z_upS ((HMo.edge (by omega)).sub kp29) HML.1 HML.old (by omega) hmc) mv_10_63 (z_atS 1 2 (by decide) rfl rfl rfl) pd_X2_addEdge ⟨by omega, by omega⟩ ⟨by omega, by omega⟩ rfl (Nat.le_of_ble_eq_true rfl) dX10_edge_85 ?_
                rintro _ _ Y30 ⟨nm, ng, mf1, ms1, rfl, hN85, hMo85, hML85, hmc85, rfl⟩
                refine z_wide (k := 24) (n := 115) (Nat.le_refl _) (Nat.le_refl _) ?_
                rw [hQ]
                exact z_iret C hrt dX10_edge_88 (have hok : (z_eBad m0 p0 q0 b0 s0 = 0 ∧ s_edgeCount ≠ 20) := (by unfold z_eBad; split <;> (try split) <;> (try split) <;> omega); ⟨(s_edgeCount + 1), nm, 1, 0, (va_up g_edges s_edgeCount.toNat (some q20)), ng, mf1, ms1, _, _, _, rfl, by simp only [if_pos hok]; exact hN85, by simp only [if_pos hok]; exact hMo85, by simp only [if_pos hok]; exact hML85, hmc85, by unfold z_edgeN z_eBad; split <;> (try split) <;> (try split) <;> omega, (z_sel_pos hok).symm, (z_sel_pos hok).symm, _, rfl, by unfold z_edgeR z_eBad; split <;> (try split) <;> (try split) <;> omega⟩) (by omega) (by omega)
              · skip
                refine z_bipush C dX10_edge_60 (by decide) ?_
                rw [hQ]
                exact z_iret C hrt dX10_edge_62 (have hno : ¬ (z_eBad m0 p0 q0 b0 s0 = 0 ∧ s_edgeCount ≠ 20) := (by unfold z_eBad; split <;> (try split) <;> (try split) <;> omega); ⟨s_edgeCount, s_moveCount, s_isNeeded, s_isGoing, g_edges, g_moves, mf, ms, qe, ql, qt, rfl, by simp only [if_neg hno]; exact HN, by simp only [if_neg hno]; exact HMo, by simp only [if_neg hno]; exact HML, hmc, by unfold z_edgeN z_eBad; split <;> (try split) <;> (try split) <;> omega, (z_sel_neg hno).symm, (z_sel_neg hno).symm, _, rfl, by unfold z_edgeR z_eBad; split <;> (try split) <;> (try split) <;> omega⟩) (by omega) (by omega)
            · skip
              refine z_bipush C dX10_edge_45 (by decide) ?_
              rw [hQ]
              exact z_iret C hrt dX10_edge_47 (have hno : ¬ (z_eBad m0 p0 q0 b0 s0 = 0 ∧ s_edgeCount ≠ 20) := (by unfold z_eBad; split <;> (try split) <;> (try split) <;> omega); ⟨s_edgeCount, s_moveCount, s_isNeeded, s_isGoing, g_edges, g_moves, mf, ms, qe, ql, qt, rfl, by simp only [if_neg hno]; exact HN, by simp only [if_neg hno]; exact HMo, by simp only [if_neg hno]; exact HML, hmc, by unfold z_edgeN z_eBad; split <;> (try split) <;> (try split) <;> omega, (z_sel_neg hno).symm, (z_sel_neg hno).symm, _, rfl, by unfold z_edgeR z_eBad; split <;> (try split) <;> (try split) <;> omega⟩) (by omega) (by omega)
      · skip
        refine z_bipush C dX10_edge_21 (by decide) ?_
        rw [hQ]
        exact z_iret C hrt dX10_edge_23 (have hno : ¬ (z_eBad m0 p0 q0 b0 s0 = 0 ∧ s_edgeCount ≠ 20) := (by unfold z_eBad; split <;> (try split) <;> (try split) <;> omega); ⟨s_edgeCount, s_moveCount, s_isNeeded, s_isGoing, g_edges, g_moves, mf, ms, qe, ql, qt, rfl, by simp only [if_neg hno]; exact HN, by simp only [if_neg hno]; exact HMo, by simp only [if_neg hno]; exact HML, hmc, by unfold z_edgeN z_eBad; split <;> (try split) <;> (try split) <;> omega, (z_sel_neg hno).symm, (z_sel_neg hno).symm, _, rfl, by unfold z_edgeR z_eBad; split <;> (try split) <;> (try split) <;> omega⟩) (by omega) (by omega)
