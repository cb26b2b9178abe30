set_option maxRecDepth 20000 in
theorem cm_X5_init (l : Launch) {D : va_G} {A : Nat → Prop} {ad : Nat → Nat} {ks : z_Ks} {N : Nat} {S : Nat → va_E} {Y : Nat → Option va_E} (c0 s0 n0 : Int) (q : Nat) (hY : Y q = some (z_ob 5 [z_v 0, z_v 0, z_v 0])) : z_Met l yX5_init cX5_init 4 none 1 20 0 0 D A N ad ks [.ref q, z_v c0, z_v s0, z_v n0] S Y (fun r S' Y' => S = S' ∧ (∀ x y, Y x = some y → x ≠ q → Y' x = some y) ∧ Y' q = some (z_ob 5 [z_v c0, z_v s0, z_v n0]) ∧ r = none) := by
  refine z_start2 (by decide) (Nat.le_of_ble_eq_true rfl) ?_
  intro p e R s m args below meth c Q C hRf hRc hRs hRl hQ hrt hnm
  refine z_loc (L' := [(0, .ref q), (1, z_v c0), (2, z_v s0), (3, z_v n0)]) [0, 1, 2, 3] rfl ?_
  refine z_aloadn C 0 dX5_init_0 rfl rfl ?_
  refine z_obj C mo_5_3 (by omega) (by rw [hRl]; exact Nat.le_of_ble_eq_true rfl) dX5_init_1 ?_
  refine z_aloadn C 0 dX5_init_4 rfl rfl ?_
  refine z_iloadn C 1 dX5_init_5 rfl rfl ?_
  refine z_put3 (fs' := [z_v c0, z_v 0, z_v 0]) C hY rfl z_it5 tyX5 tyX5_ok nmX5 0 (by decide) rfl (Or.inr ⟨rfl, hnm, rfl⟩) fl_5_9 z_pfI rfl rfl (Nat.le_of_ble_eq_true rfl) dX5_init_6 rfl (fun Y1 y2 hk3 => ?_)
  have kp4 : ∀ x y, Y x = some y → x ≠ q → Y1 x = some y := fun x y h n => hk3 x y ((fun x y h _ => h) x y h n) n
  refine z_aloadn C 0 dX5_init_9 rfl rfl ?_
  refine z_iloadn C 2 dX5_init_10 rfl rfl ?_
  refine z_put3 (fs' := [z_v c0, z_v s0, z_v 0]) C y2 rfl z_it5 tyX5 tyX5_ok nmX5 1 (by decide) rfl (Or.inr ⟨rfl, hnm, rfl⟩) fl_5_15 z_pfI rfl rfl (Nat.le_of_ble_eq_true rfl) dX5_init_11 rfl (fun Y5 y6 hk7 => ?_)
  have kp8 : ∀ x y, Y x = some y → x ≠ q → Y5 x = some y := fun x y h n => hk7 x y (kp4 x y h n) n
  refine z_aloadn C 0 dX5_init_14 rfl rfl ?_
  refine z_iloadn C 3 dX5_init_15 rfl rfl ?_
  refine z_put3 (fs' := [z_v c0, z_v s0, z_v n0]) C y6 rfl z_it5 tyX5 tyX5_ok nmX5 2 (by decide) rfl (Or.inr ⟨rfl, hnm, rfl⟩) fl_5_18 z_pfI rfl rfl (Nat.le_of_ble_eq_true rfl) dX5_init_16 rfl (fun Y9 y10 hk11 => ?_)
  have kp12 : ∀ x y, Y x = some y → x ≠ q → Y9 x = some y := fun x y h n => hk11 x y (kp8 x y h n) n
  rw [hQ]
  exact z_vret C hrt dX5_init_19 (⟨rfl, kp12, y10, rfl⟩) (by omega) (by omega)
set_option maxRecDepth 20000 in
theorem cm_X6_init (l : Launch) {D : va_G} {A : Nat → Prop} {ad : Nat → Nat} {ks : z_Ks} {N : Nat} {S : Nat → va_E} {Y : Nat → Option va_E} (q : Nat) (hY : Y q = some (z_ob 6 [.null, z_v 0])) : z_Met l yX6_init cX6_init 1 none 1 20 1 2 D A N ad ks [.ref q] S Y (fun r S' Y' => ∃ t : Nat, S = S' ∧ (∀ x y, Y x = some y → x ≠ q → Y' x = some y) ∧ Y' q = some (z_ob 6 [.ref t, z_v 0]) ∧ Y' t = some (z_rr ks.2.2.2.2 2 (fun _ => none)) ∧ (∀ x y, Y x = some y → x < t) ∧ r = none) := by
  refine z_start2 (by decide) (Nat.le_of_ble_eq_true rfl) ?_
  intro p e R s m args below meth c Q C hRf hRc hRs hRl hQ hrt hnm
  refine z_loc (L' := [(0, .ref q)]) [0] rfl ?_
  refine z_aloadn C 0 dX6_init_0 rfl rfl ?_
  refine z_obj C mo_6_3 (by omega) (by rw [hRl]; exact Nat.le_of_ble_eq_true rfl) dX6_init_1 ?_
  refine z_aloadn C 0 dX6_init_4 rfl rfl ?_
  refine z_iconst C dX6_init_5 ?_
  refine z_newA3 C 4 rfl C.2.2.2.2.2.2.1.1.2.2.2 na_6_9 (by omega) (by omega) (by omega) (by show _ + 2 ≤ _; omega) dX6_init_6 (fun q1 Y2 w3 hs4 hf5 => ?_)
  have y6 := hs4 _ _ hY
  have kp7 : ∀ x y, Y x = some y → x ≠ q → Y2 x = some y := fun x y h n => hs4 x y ((fun x y h _ => h) x y h n)
  refine z_wide (k := 1) (n := 2) (Nat.le_refl _) (Nat.le_refl _) ?_
  refine z_put3 (fs' := [.ref q1, z_v 0]) C y6 rfl z_it6 tyX6 tyX6_ok nmX6 0 (by decide) rfl (Or.inr ⟨rfl, hnm, rfl⟩) fl_6_11 (tyX6_ok 0 (by decide)) rfl rfl (Nat.le_of_ble_eq_true rfl) dX6_init_9 rfl (fun Y8 y9 hk10 => ?_)
  have w11 := hk10 _ _ w3 (z_ne w3 y6 (fun z => by first | cases z | simp at z))
  have kp12 : ∀ x y, Y x = some y → x ≠ q → Y8 x = some y := fun x y h n => hk10 x y (kp7 x y h n) n
  rw [hQ]
  exact z_vret C hrt dX6_init_12 (⟨_, rfl, kp12, y9, w11, hf5, rfl⟩) (by omega) (by omega)