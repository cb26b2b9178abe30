set_option maxRecDepth 20000 in
theorem cm_X5_init (l : Launch) {D : va_G} {A : Nat → Prop} {ad : Nat → Nat} {ks : z_Ks} {N : Nat} {S : Nat → va_E} {Y : Nat → Option va_E} (c0 s0 n0 : Int) (q : Nat) (hY : Y q = some (z_ob 5 [z_v 0, z_v 0, z_v 0])) : z_Met l yX5_init cX5_init 4 none 1 20 0 0 D A N ad ks [.ref q, z_v c0, z_v s0, z_v n0] S Y (fun r S' Y' => S = S' ∧ (∀ x y, Y x = some y → x ≠ q → Y' x = some y) ∧ Y' q = some (z_ob 5 [z_v c0, z_v s0, z_v n0]) ∧ r = none) := by
  refine z_start2 (by decide) (Nat.le_of_ble_eq_true rfl) ?_
  intro p e R s m args below meth c Q C hRf hRc hRs hRl hQ hrt hnm
  refine z_loc (L' := [(0, .ref q), (1, z_v c0), (2, z_v s0), (3, z_v n0)]) [0, 1, 2, 3] rfl ?_
  refine z_aloadn C 0 dX5_init_0 rfl rfl ?_
  refine z_obj C mo_5_3 (by omega) (by rw [hRl]; exact Nat.le_of_ble_eq_true rfl) dX5_init_1 ?_
  refine z_aloadn C 0 dX5_init_4 rfl rfl ?_
  refine z_iloadn C 1 dX5_init_5 rfl rfl ?_
  refine z_put3 (fs' := [z_v c0, z_v 0, z_v 0]) C hY rfl z_it5 tyX5 tyX5_ok nmX5 0 (by decide) rfl (Or.inr ⟨rfl, hnm, rfl⟩) fl_5_9 z_pfI rfl rfl (Nat.le_of_ble_eq_true rfl) dX5_init_6 rfl (fun Y1 y2 hk3 => ?_)
  have kp4 : ∀ x y, Y x = some y → x ≠ q → Y1 x = some y := fun x y h n => hk3 x y ((fun x y h _ => h) x y h n) n
  refine z_aloadn C 0 dX5_init_9 rfl rfl ?_
  refine z_iloadn C 2 dX5_init_10 rfl rfl ?_
  refine z_put3 (fs' := [z_v c0, z_v s0, z_v 0]) C y2 rfl z_it5 tyX5 tyX5_ok nmX5 1 (by decide) rfl (Or.inr ⟨rfl, hnm, rfl⟩) fl_5_15 z_pfI rfl rfl (Nat.le_of_ble_eq_true rfl) dX5_init_11 rfl (fun Y5 y6 hk7 => ?_)
  have kp8 : ∀ x y, Y x = some y → x ≠ q → Y5 x = some y := fun x y h n => hk7 x y (kp4 x y h n) n
  refine z_aloadn C 0 dX5_init_14 rfl rfl ?_
  refine z_iloadn C 3 dX5_init_15 rfl rfl ?_
  refine z_put3 (fs' := [z_v c0, z_v s0, z_v n0]) C y6 rfl z_it5 tyX5 tyX5_ok nmX5 2 (by decide) rfl (Or.inr ⟨rfl, hnm, rfl⟩) fl_5_18 z_pfI rfl rfl (Nat.le_of_ble_eq_true rfl) dX5_init_16 rfl (fun Y9 y10 hk11 => ?_)
  have kp12 : ∀ x y, Y x = some y → x ≠ q → Y9 x = some y := fun x y h n => hk11 x y (kp8 x y h n) n
  rw [hQ]
  exact z_vret C hrt dX5_init_19 (⟨rfl, kp12, y10, rfl⟩) (by omega) (by omega)
set_option maxRecDepth 20000 in
theorem cm_X1_init (l : Launch) {D : va_G} {A : Nat → Prop} {ad : Nat → Nat} {ks : z_Ks} {N : Nat} {S : Nat → va_E} {Y : Nat → Option va_E} (f0 s0 : Int) (q a b : Nat) (hY : Y q = some (z_ob 1 [z_v 0, z_v 0, .null, .null, z_v 0])) (ha : z_E ks Y a) (hb : z_E ks Y b) : z_Met l yX1_init cX1_init 5 none 1 20 0 0 D A N ad ks [.ref q, z_v f0, z_v s0, .ref a, .ref b] S Y (fun r S' Y' => ∃ z : Int, S = S' ∧ (∀ x y, Y x = some y → x ≠ q → Y' x = some y) ∧ Y' q = some (z_ob 1 [z_v f0, z_v s0, .ref a, .ref b, z_v z]) ∧ z_rg z ∧ r = none) := by
  refine z_start2 (by decide) (Nat.le_of_ble_eq_true rfl) ?_
  intro p e R s m args below meth c Q C hRf hRc hRs hRl hQ hrt hnm
  refine z_loc (L' := [(0, .ref q), (1, z_v f0), (2, z_v s0), (3, .ref a), (4, .ref b)]) [0, 1, 2, 3, 4] rfl ?_
  obtain ⟨md1, fd1, td1, kd1, rd1, gd1, yd1, ad1, bd1⟩ := id ha
  obtain ⟨md2, fd2, td2, kd2, rd2, gd2, yd2, ad2, bd2⟩ := id hb
  refine z_aloadn C 0 dX1_init_0 rfl rfl ?_
  refine z_obj C mo_1_1 (by omega) (by rw [hRl]; exact Nat.le_of_ble_eq_true rfl) dX1_init_1 ?_
  refine z_aloadn C 0 dX1_init_4 rfl rfl ?_
  refine z_iloadn C 1 dX1_init_5 rfl rfl ?_
  refine z_put3 (fs' := [z_v f0, z_v 0, .null, .null, z_v 0]) C hY rfl z_it1 tyX1 tyX1_ok nmX1 0 (by decide) rfl (Or.inr ⟨rfl, hnm, rfl⟩) fl_1_7 z_pfI rfl rfl (Nat.le_of_ble_eq_true rfl) dX1_init_6 rfl (fun Y3 y4 hk5 => ?_)
  have y6 := hk5 _ _ yd1 (z_ne yd1 hY (fun z => by first | cases z | simp at z))
  have y7 := hk5 _ _ yd2 (z_ne yd2 hY (fun z => by first | cases z | simp at z))
  have kp8 : ∀ x y, Y x = some y → x ≠ q → Y3 x = some y := fun x y h n => hk5 x y ((fun x y h _ => h) x y h n) n
  refine z_aloadn C 0 dX1_init_9 rfl rfl ?_
  refine z_iloadn C 2 dX1_init_10 rfl rfl ?_
  refine z_put3 (fs' := [z_v f0, z_v s0, .null, .null, z_v 0]) C y4 rfl z_it1 tyX1 tyX1_ok nmX1 1 (by decide) rfl (Or.inr ⟨rfl, hnm, rfl⟩) fl_1_13 z_pfI rfl rfl (Nat.le_of_ble_eq_true rfl) dX1_init_11 rfl (fun Y9 y10 hk11 => ?_)
  have y12 := hk11 _ _ y6 (z_ne y6 y4 (fun z => by first | cases z | simp at z))
  have y13 := hk11 _ _ y7 (z_ne y7 y4 (fun z => by first | cases z | simp at z))
  have kp14 : ∀ x y, Y x = some y → x ≠ q → Y9 x = some y := fun x y h n => hk11 x y (kp8 x y h n) n
  refine z_aloadn C 0 dX1_init_14 rfl rfl ?_
  refine z_aloadn C 3 dX1_init_15 rfl rfl ?_
  refine z_put3 (fs' := [z_v f0, z_v s0, .ref a, .null, z_v 0]) C y10 rfl z_it1 tyX1 tyX1_ok nmX1 2 (by decide) rfl (Or.inr ⟨rfl, hnm, rfl⟩) fl_1_16 (tyX1_ok 2 (by decide)) rfl rfl (Nat.le_of_ble_eq_true rfl) dX1_init_16 rfl (fun Y15 y16 hk17 => ?_)
  have y18 := hk17 _ _ y12 (z_ne y12 y10 (fun z => by first | cases z | simp at z))
  have y19 := hk17 _ _ y13 (z_ne y13 y10 (fun z => by first | cases z | simp at z))
  have kp20 : ∀ x y, Y x = some y → x ≠ q → Y15 x = some y := fun x y h n => hk17 x y (kp14 x y h n) n
  refine z_aloadn C 0 dX1_init_19 rfl rfl ?_
  refine z_aload C 4 dX1_init_20 rfl ?_
  refine z_put3 (fs' := [z_v f0, z_v s0, .ref a, .ref b, z_v 0]) C y16 rfl z_it1 tyX1 tyX1_ok nmX1 3 (by decide) rfl (Or.inr ⟨rfl, hnm, rfl⟩) fl_1_20 (tyX1_ok 3 (by decide)) rfl rfl (Nat.le_of_ble_eq_true rfl) dX1_init_22 rfl (fun Y21 y22 hk23 => ?_)
  have y24 := hk23 _ _ y18 (z_ne y18 y16 (fun z => by first | cases z | simp at z))
  have y25 := hk23 _ _ y19 (z_ne y19 y16 (fun z => by first | cases z | simp at z))
  have kp26 : ∀ x y, Y x = some y → x ≠ q → Y21 x = some y := fun x y h n => hk23 x y (kp20 x y h n) n
  refine z_aloadn C 0 dX1_init_25 rfl rfl ?_
  refine z_aload C 4 dX1_init_26 rfl ?_
  refine z_ifnonnull (t := 38) C dX1_init_28 (by decide) ?_
  refine z_aloadn C 3 dX1_init_38 rfl rfl ?_
  refine z_getY C y24 rfl z_it0 4 (by decide) rfl fl_1_23 rfl dX1_init_39 ?_
  refine z_aload C 4 dX1_init_42 rfl ?_
  refine z_getY C y25 rfl z_it0 4 (by decide) rfl fl_1_23 rfl dX1_init_44 ?_
  obtain ⟨b27, hb27, rb27⟩ := z_bits (z_i rd1 ||| z_i rd2)
  refine z_ior C hb27 dX1_init_47 ?_
  have qb27 := z_bitsE hb27 rb27
  refine z_put3 (fs' := [z_v f0, z_v s0, .ref a, .ref b, z_v b27]) C y22 rfl z_it1 tyX1 tyX1_ok nmX1 4 (by decide) rfl (Or.inr ⟨rfl, hnm, rfl⟩) fl_1_28 z_pfI rfl rfl (Nat.le_of_ble_eq_true rfl) dX1_init_48 rfl (fun Y28 y29 hk30 => ?_)
  have y31 := hk30 _ _ y24 (z_ne y24 y22 (fun z => by first | cases z | simp at z))
  have y32 := hk30 _ _ y25 (z_ne y25 y22 (fun z => by first | cases z | simp at z))
  have kp33 : ∀ x y, Y x = some y → x ≠ q → Y28 x = some y := fun x y h n => hk30 x y (kp26 x y h n) n
  rw [hQ]
  exact z_vret C hrt dX1_init_51 (⟨b27, rfl, kp33, y29, by omega, rfl⟩) (by omega) (by omega)
set_option maxRecDepth 20000 in
theorem cm_X1_init_n (l : Launch) {D : va_G} {A : Nat → Prop} {ad : Nat → Nat} {ks : z_Ks} {N : Nat} {S : Nat → va_E} {Y : Nat → Option va_E} (f0 s0 : Int) (q a : Nat) (hY : Y q = some (z_ob 1 [z_v 0, z_v 0, .null, .null, z_v 0])) (ha : z_E ks Y a) : z_Met l yX1_init cX1_init 5 none 1 20 0 0 D A N ad ks [.ref q, z_v f0, z_v s0, .ref a, .null] S Y (fun r S' Y' => ∃ z : Int, S = S' ∧ (∀ x y, Y x = some y → x ≠ q → Y' x = some y) ∧ Y' q = some (z_ob 1 [z_v f0, z_v s0, .ref a, .null, z_v z]) ∧ z_rg z ∧ r = none) := by
  refine z_start2 (by decide) (Nat.le_of_ble_eq_true rfl) ?_
  intro p e R s m args below meth c Q C hRf hRc hRs hRl hQ hrt hnm
  refine z_loc (L' := [(0, .ref q), (1, z_v f0), (2, z_v s0), (3, .ref a), (4, .null)]) [0, 1, 2, 3, 4] rfl ?_
  obtain ⟨md1, fd1, td1, kd1, rd1, gd1, yd1, ad1, bd1⟩ := id ha
  refine z_aloadn C 0 dX1_init_0 rfl rfl ?_
  refine z_obj C mo_1_1 (by omega) (by rw [hRl]; exact Nat.le_of_ble_eq_true rfl) dX1_init_1 ?_
  refine z_aloadn C 0 dX1_init_4 rfl rfl ?_
  refine z_iloadn C 1 dX1_init_5 rfl rfl ?_
  refine z_put3 (fs' := [z_v f0, z_v 0, .null, .null, z_v 0]) C hY rfl z_it1 tyX1 tyX1_ok nmX1 0 (by decide) rfl (Or.inr ⟨rfl, hnm, rfl⟩) fl_1_7 z_pfI rfl rfl (Nat.le_of_ble_eq_true rfl) dX1_init_6 rfl (fun Y2 y3 hk4 => ?_)
  have y5 := hk4 _ _ yd1 (z_ne yd1 hY (fun z => by first | cases z | simp at z))
  have kp6 : ∀ x y, Y x = some y → x ≠ q → Y2 x = some y := fun x y h n => hk4 x y ((fun x y h _ => h) x y h n) n
  refine z_aloadn C 0 dX1_init_9 rfl rfl ?_
  refine z_iloadn C 2 dX1_init_10 rfl rfl ?_
  refine z_put3 (fs' := [z_v f0, z_v s0, .null, .null, z_v 0]) C y3 rfl z_it1 tyX1 tyX1_ok nmX1 1 (by decide) rfl (Or.inr ⟨rfl, hnm, rfl⟩) fl_1_13 z_pfI rfl rfl (Nat.le_of_ble_eq_true rfl) dX1_init_11 rfl (fun Y7 y8 hk9 => ?_)
  have y10 := hk9 _ _ y5 (z_ne y5 y3 (fun z => by first | cases z | simp at z))
  have kp11 : ∀ x y, Y x = some y → x ≠ q → Y7 x = some y := fun x y h n => hk9 x y (kp6 x y h n) n
  refine z_aloadn C 0 dX1_init_14 rfl rfl ?_
  refine z_aloadn C 3 dX1_init_15 rfl rfl ?_
  refine z_put3 (fs' := [z_v f0, z_v s0, .ref a, .null, z_v 0]) C y8 rfl z_it1 tyX1 tyX1_ok nmX1 2 (by decide) rfl (Or.inr ⟨rfl, hnm, rfl⟩) fl_1_16 (tyX1_ok 2 (by decide)) rfl rfl (Nat.le_of_ble_eq_true rfl) dX1_init_16 rfl (fun Y12 y13 hk14 => ?_)
  have y15 := hk14 _ _ y10 (z_ne y10 y8 (fun z => by first | cases z | simp at z))
  have kp16 : ∀ x y, Y x = some y → x ≠ q → Y12 x = some y := fun x y h n => hk14 x y (kp11 x y h n) n
  refine z_aloadn C 0 dX1_init_19 rfl rfl ?_
  refine z_aloadN C 4 dX1_init_20 rfl ?_
  refine z_put3 (fs' := [z_v f0, z_v s0, .ref a, .null, z_v 0]) C y13 rfl z_it1 tyX1 tyX1_ok nmX1 3 (by decide) rfl (Or.inr ⟨rfl, hnm, rfl⟩) fl_1_20 (tyX1_ok 3 (by decide)) rfl rfl (Nat.le_of_ble_eq_true rfl) dX1_init_22 rfl (fun Y17 y18 hk19 => ?_)
  have y20 := hk19 _ _ y15 (z_ne y15 y13 (fun z => by first | cases z | simp at z))
  have kp21 : ∀ x y, Y x = some y → x ≠ q → Y17 x = some y := fun x y h n => hk19 x y (kp16 x y h n) n
  refine z_aloadn C 0 dX1_init_25 rfl rfl ?_
  refine z_aloadN C 4 dX1_init_26 rfl ?_
  refine z_ifnonnullN C dX1_init_28 ?_
  refine z_aloadn C 3 dX1_init_31 rfl rfl ?_
  refine z_getY C y20 rfl z_it0 4 (by decide) rfl fl_1_23 rfl dX1_init_32 ?_
  refine z_goto (t := 48) C dX1_init_35 (by decide) ?_
  refine z_put3 (fs' := [z_v f0, z_v s0, .ref a, .null, z_v rd1]) C y18 rfl z_it1 tyX1 tyX1_ok nmX1 4 (by decide) rfl (Or.inr ⟨rfl, hnm, rfl⟩) fl_1_28 z_pfI rfl rfl (Nat.le_of_ble_eq_true rfl) dX1_init_48 rfl (fun Y22 y23 hk24 => ?_)
  have y25 := hk24 _ _ y20 (z_ne y20 y18 (fun z => by first | cases z | simp at z))
  have kp26 : ∀ x y, Y x = some y → x ≠ q → Y22 x = some y := fun x y h n => hk24 x y (kp21 x y h n) n
  rw [hQ]
  exact z_vret C hrt dX1_init_51 (⟨rd1, rfl, kp26, y23, by omega, rfl⟩) (by omega) (by omega)
set_option maxRecDepth 20000 in
theorem cm_X6_init (l : Launch) {D : va_G} {A : Nat → Prop} {ad : Nat → Nat} {ks : z_Ks} {N : Nat} {S : Nat → va_E} {Y : Nat → Option va_E} (q : Nat) (hY : Y q = some (z_ob 6 [.null, z_v 0])) : z_Met l yX6_init cX6_init 1 none 1 20 1 2 D A N ad ks [.ref q] S Y (fun r S' Y' => ∃ t : Nat, S = S' ∧ (∀ x y, Y x = some y → x ≠ q → Y' x = some y) ∧ Y' q = some (z_ob 6 [.ref t, z_v 0]) ∧ Y' t = some (z_rr ks.2.2.2.2 2 (fun _ => none)) ∧ (∀ x y, Y x = some y → x < t) ∧ r = none) := by
  refine z_start2 (by decide) (Nat.le_of_ble_eq_true rfl) ?_
  intro p e R s m args below meth c Q C hRf hRc hRs hRl hQ hrt hnm
  refine z_loc (L' := [(0, .ref q)]) [0] rfl ?_
  refine z_aloadn C 0 dX6_init_0 rfl rfl ?_
  refine z_obj C mo_6_3 (by omega) (by rw [hRl]; exact Nat.le_of_ble_eq_true rfl) dX6_init_1 ?_
  refine z_aloadn C 0 dX6_init_4 rfl rfl ?_
  refine z_iconst C dX6_init_5 ?_
  refine z_newA3 C 4 rfl C.2.2.2.2.2.2.1.1.2.2.2 na_6_9 (by omega) (by omega) (by omega) (by show _ + 2 ≤ _; omega) dX6_init_6 (fun q1 Y2 w3 hs4 hf5 => ?_)
  have y6 := hs4 _ _ hY
  have kp7 : ∀ x y, Y x = some y → x ≠ q → Y2 x = some y := fun x y h n => hs4 x y ((fun x y h _ => h) x y h n)
  refine z_wide (k := 1) (n := 2) (Nat.le_refl _) (Nat.le_refl _) ?_
  refine z_put3 (fs' := [.ref q1, z_v 0]) C y6 rfl z_it6 tyX6 tyX6_ok nmX6 0 (by decide) rfl (Or.inr ⟨rfl, hnm, rfl⟩) fl_6_11 (tyX6_ok 0 (by decide)) rfl rfl (Nat.le_of_ble_eq_true rfl) dX6_init_9 rfl (fun Y8 y9 hk10 => ?_)
  have w11 := hk10 _ _ w3 (z_ne w3 y6 (fun z => by first | cases z | simp at z))
  have kp12 : ∀ x y, Y x = some y → x ≠ q → Y8 x = some y := fun x y h n => hk10 x y (kp7 x y h n) n
  rw [hQ]
  exact z_vret C hrt dX6_init_12 (⟨_, rfl, kp12, y9, w11, hf5, rfl⟩) (by omega) (by omega)
set_option maxRecDepth 20000 in
theorem cm_X0_init (l : Launch) {D : va_G} {A : Nat → Prop} {ad : Nat → Nat} {ks : z_Ks} {N : Nat} {S : Nat → va_E} {Y : Nat → Option va_E} (m0 f0 t0 k0 r0 : Int) (q : Nat) (hY : Y q = some (z_ob 0 [z_v 0, z_v 0, z_v 0, z_v 0, z_v 0, .null])) : z_Met l yX0_init cX0_init 6 none 2 40 2 4 D A N ad ks [.ref q, z_v m0, z_v f0, z_v t0, z_v k0, z_v r0] S Y (fun r S' Y' => ∃ g : Nat, S = S' ∧ (∀ x y, Y x = some y → x ≠ q → Y' x = some y) ∧ Y' q = some (z_ob 0 [z_v m0, z_v f0, z_v t0, z_v k0, z_v r0, .ref g]) ∧ z_TL ks Y' g ∧ r = none) := by
  refine z_start2 (by decide) (Nat.le_of_ble_eq_true rfl) ?_
  intro p e R s m args below meth c Q C hRf hRc hRs hRl hQ hrt hnm
  refine z_loc (L' := [(0, .ref q), (1, z_v m0), (2, z_v f0), (3, z_v t0), (4, z_v k0), (5, z_v r0)]) [0, 1, 2, 3, 4, 5] rfl ?_
  refine z_aloadn C 0 dX0_init_0 rfl rfl ?_
  refine z_obj C mo_0_1 (by omega) (by rw [hRl]; exact Nat.le_of_ble_eq_true rfl) dX0_init_1 ?_
  refine z_aloadn C 0 dX0_init_4 rfl rfl ?_
  refine z_new3 (r := (RX6, TX6, 2)) (ci := 6) (fs := [.null, z_v 0]) C rfl z_it6 tyX6 tyX6_ok nw_0_7 (fun j hj => match j, hj with | 0, _ => rfl | 1, _ => rfl | n + 2, h => absurd h (by show ¬ (n + 2 < 2); omega)) (by omega) (by show _ + 2 ≤ _; omega) dX0_init_5 (fun q1 Y2 y3 hs4 hf5 => ?_)
  have y6 := hs4 _ _ hY
  have kp7 : ∀ x y, Y x = some y → x ≠ q → Y2 x = some y := fun x y h n => hs4 x y ((fun x y h _ => h) x y h n)
  refine z_wide (k := 1) (n := 2) (Nat.le_refl _) (Nat.le_refl _) ?_
  refine z_dup C dX0_init_8 rfl ?_
  refine z_callN C (cm_X6_init l q1 y3) C.2.2.2.2.2.2.1.2.2.2.2.2.2.2 mv_0_9 rfl pd_X6_init ⟨by omega, by omega⟩ ⟨by omega, by omega⟩ rfl (Nat.le_of_ble_eq_true rfl) dX0_init_9 ?_
  rintro _ _ Y8 ⟨tt, rfl, hk9, y10, ww, hlt, rfl⟩
  have y11 := hk9 _ _ y6 (z_ne y6 y3 (fun z => by first | cases z | simp at z))
  have kp12 : ∀ x y, Y x = some y → x ≠ q → Y8 x = some y := fun x y h n => hk9 x y (kp7 x y h n) (Nat.ne_of_lt (hf5 x y ((fun x y h _ => h) x y h n)))
  refine z_wide (k := 2) (n := 4) (Nat.le_refl _) (Nat.le_refl _) ?_
  refine z_put3 (fs' := [z_v 0, z_v 0, z_v 0, z_v 0, z_v 0, .ref q1]) C y11 rfl z_it0 tyX0 tyX0_ok nmX0 5 (by decide) rfl (Or.inr ⟨rfl, hnm, rfl⟩) fl_0_10 (tyX0_ok 5 (by decide)) rfl rfl (Nat.le_of_ble_eq_true rfl) dX0_init_12 rfl (fun Y13 y14 hk15 => ?_)
  have y16 := hk15 _ _ y10 (z_ne y10 y11 (fun z => by first | cases z | simp at z))
  have w17 := hk15 _ _ ww (z_ne ww y11 (fun z => by first | cases z | simp at z))
  have kp18 : ∀ x y, Y x = some y → x ≠ q → Y13 x = some y := fun x y h n => hk15 x y (kp12 x y h n) n
  refine z_aloadn C 0 dX0_init_15 rfl rfl ?_
  refine z_iloadn C 1 dX0_init_16 rfl rfl ?_
  refine z_put3 (fs' := [z_v m0, z_v 0, z_v 0, z_v 0, z_v 0, .ref q1]) C y14 rfl z_it0 tyX0 tyX0_ok nmX0 0 (by decide) rfl (Or.inr ⟨rfl, hnm, rfl⟩) fl_0_16 z_pfI rfl rfl (Nat.le_of_ble_eq_true rfl) dX0_init_17 rfl (fun Y19 y20 hk21 => ?_)
  have y22 := hk21 _ _ y16 (z_ne y16 y14 (fun z => by first | cases z | simp at z))
  have w23 := hk21 _ _ w17 (z_ne w17 y14 (fun z => by first | cases z | simp at z))
  have kp24 : ∀ x y, Y x = some y → x ≠ q → Y19 x = some y := fun x y h n => hk21 x y (kp18 x y h n) n
  refine z_aloadn C 0 dX0_init_20 rfl rfl ?_
  refine z_iloadn C 2 dX0_init_21 rfl rfl ?_
  refine z_put3 (fs' := [z_v m0, z_v f0, z_v 0, z_v 0, z_v 0, .ref q1]) C y20 rfl z_it0 tyX0 tyX0_ok nmX0 1 (by decide) rfl (Or.inr ⟨rfl, hnm, rfl⟩) fl_0_20 z_pfI rfl rfl (Nat.le_of_ble_eq_true rfl) dX0_init_22 rfl (fun Y25 y26 hk27 => ?_)
  have y28 := hk27 _ _ y22 (z_ne y22 y20 (fun z => by first | cases z | simp at z))
  have w29 := hk27 _ _ w23 (z_ne w23 y20 (fun z => by first | cases z | simp at z))
  have kp30 : ∀ x y, Y x = some y → x ≠ q → Y25 x = some y := fun x y h n => hk27 x y (kp24 x y h n) n
  refine z_aloadn C 0 dX0_init_25 rfl rfl ?_
  refine z_iloadn C 3 dX0_init_26 rfl rfl ?_
  refine z_put3 (fs' := [z_v m0, z_v f0, z_v t0, z_v 0, z_v 0, .ref q1]) C y26 rfl z_it0 tyX0 tyX0_ok nmX0 2 (by decide) rfl (Or.inr ⟨rfl, hnm, rfl⟩) fl_0_23 z_pfI rfl rfl (Nat.le_of_ble_eq_true rfl) dX0_init_27 rfl (fun Y31 y32 hk33 => ?_)
  have y34 := hk33 _ _ y28 (z_ne y28 y26 (fun z => by first | cases z | simp at z))
  have w35 := hk33 _ _ w29 (z_ne w29 y26 (fun z => by first | cases z | simp at z))
  have kp36 : ∀ x y, Y x = some y → x ≠ q → Y31 x = some y := fun x y h n => hk33 x y (kp30 x y h n) n
  refine z_aloadn C 0 dX0_init_30 rfl rfl ?_
  refine z_iload C 4 dX0_init_31 rfl ?_
  refine z_put3 (fs' := [z_v m0, z_v f0, z_v t0, z_v k0, z_v 0, .ref q1]) C y32 rfl z_it0 tyX0 tyX0_ok nmX0 3 (by decide) rfl (Or.inr ⟨rfl, hnm, rfl⟩) fl_0_26 z_pfI rfl rfl (Nat.le_of_ble_eq_true rfl) dX0_init_33 rfl (fun Y37 y38 hk39 => ?_)
  have y40 := hk39 _ _ y34 (z_ne y34 y32 (fun z => by first | cases z | simp at z))
  have w41 := hk39 _ _ w35 (z_ne w35 y32 (fun z => by first | cases z | simp at z))
  have kp42 : ∀ x y, Y x = some y → x ≠ q → Y37 x = some y := fun x y h n => hk39 x y (kp36 x y h n) n
  refine z_aloadn C 0 dX0_init_36 rfl rfl ?_
  refine z_iload C 5 dX0_init_37 rfl ?_
  refine z_put3 (fs' := [z_v m0, z_v f0, z_v t0, z_v k0, z_v r0, .ref q1]) C y38 rfl z_it0 tyX0 tyX0_ok nmX0 4 (by decide) rfl (Or.inr ⟨rfl, hnm, rfl⟩) fl_0_29 z_pfI rfl rfl (Nat.le_of_ble_eq_true rfl) dX0_init_39 rfl (fun Y43 y44 hk45 => ?_)
  have y46 := hk45 _ _ y40 (z_ne y40 y38 (fun z => by first | cases z | simp at z))
  have w47 := hk45 _ _ w41 (z_ne w41 y38 (fun z => by first | cases z | simp at z))
  have kp48 : ∀ x y, Y x = some y → x ≠ q → Y43 x = some y := fun x y h n => hk45 x y (kp42 x y h n) n
  rw [hQ]
  exact z_vret C hrt dX0_init_42 (⟨_, rfl, kp48, y44, ⟨_, _, _, y46, w47, by omega, fun j hj => absurd hj (by omega)⟩, rfl⟩) (by omega) (by omega)
set_option maxRecDepth 20000 in
theorem cm_X0_isAnsweredBy (l : Launch) {D : va_G} {A : Nat → Prop} {ad : Nat → Nat} {ks : z_Ks} {N : Nat} {S : Nat → va_E} {Y : Nat → Option va_E} (q o : Nat) (hq : z_E ks Y q) (ho : z_E ks Y o) : z_Met l yX0_isAnsweredBy cX0_isAnsweredBy 2 (some .boolean) 0 0 0 0 D A N ad ks [.ref q, .ref o] S Y (fun r S' Y' => S' = S ∧ Y = Y' ∧ ∃ z : Int, r = some (z_v z) ∧ (z = 0 ∨ z = 1)) := by
  refine z_start2 (by decide) (Nat.le_of_ble_eq_true rfl) ?_
  intro p e R s m args below meth c Q C hRf hRc hRs hRl hQ hrt hnm
  refine z_loc (L' := [(0, .ref q), (1, .ref o)]) [0, 1] rfl ?_
  refine z_aloadn C 0 dX0_isAnsweredBy_0 rfl rfl ?_
  obtain ⟨md1, fd1, td1, kd1, rd1, gd1, yd1, ad1, bd1⟩ := id hq
  refine z_getY C yd1 rfl z_it0 3 (by decide) rfl fl_0_26 rfl dX0_isAnsweredBy_1 ?_
  refine z_if_le (t := 34) C dX0_isAnsweredBy_4 (by decide) (by omega) (fun c2 => ?_) (fun c2 => ?_)
  · skip
    refine z_iconst C dX0_isAnsweredBy_34 ?_
    rw [hQ]
    exact z_zret C hrt (by omega) dX0_isAnsweredBy_35 (⟨rfl, rfl, _, rfl, by omega⟩) (by omega) (by omega)
  · skip
    refine z_aloadn C 1 dX0_isAnsweredBy_7 rfl rfl ?_
    obtain ⟨md3, fd3, td3, kd3, rd3, gd3, yd3, ad3, bd3⟩ := id ho
    refine z_getY C yd3 rfl z_it0 3 (by decide) rfl fl_0_26 rfl dX0_isAnsweredBy_8 ?_
    refine z_aloadn C 0 dX0_isAnsweredBy_11 rfl rfl ?_
    refine z_getY C yd1 rfl z_it0 3 (by decide) rfl fl_0_26 rfl dX0_isAnsweredBy_12 ?_
    refine z_ineg C dX0_isAnsweredBy_15 ?_
    refine z_icmp_ne (t := 34) C dX0_isAnsweredBy_16 (by decide) (by omega) (by omega) (fun c4 => ?_) (fun c4 => ?_)
    · skip
      refine z_iconst C dX0_isAnsweredBy_34 ?_
      rw [hQ]
      exact z_zret C hrt (by omega) dX0_isAnsweredBy_35 (⟨rfl, rfl, _, rfl, by omega⟩) (by omega) (by omega)
    · skip
      refine z_aloadn C 1 dX0_isAnsweredBy_19 rfl rfl ?_
      refine z_getY C yd3 rfl z_it0 0 (by decide) rfl fl_0_16 rfl dX0_isAnsweredBy_20 ?_
      refine z_aloadn C 0 dX0_isAnsweredBy_23 rfl rfl ?_
      refine z_getY C yd1 rfl z_it0 0 (by decide) rfl fl_0_16 rfl dX0_isAnsweredBy_24 ?_
      refine z_icmp_eq (t := 34) C dX0_isAnsweredBy_27 (by decide) (by omega) (by omega) (fun c5 => ?_) (fun c5 => ?_)
      · skip
        refine z_iconst C dX0_isAnsweredBy_34 ?_
        rw [hQ]
        exact z_zret C hrt (by omega) dX0_isAnsweredBy_35 (⟨rfl, rfl, _, rfl, by omega⟩) (by omega) (by omega)
      · skip
        refine z_iconst C dX0_isAnsweredBy_30 ?_
        refine z_goto (t := 35) C dX0_isAnsweredBy_31 (by decide) ?_
        rw [hQ]
        exact z_zret C hrt (by omega) dX0_isAnsweredBy_35 (⟨rfl, rfl, _, rfl, by omega⟩) (by omega) (by omega)
