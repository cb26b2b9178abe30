theorem z_cpyR {f g h : Nat → Int} (e : ∀ j, j < 4 → f j = h j) (r : ∀ j, j < 4 → 0 ≤ h j ∧ h j ≤ 1000000) (rg : ∀ j, 0 ≤ g j ∧ g j ≤ 1000000) : ∀ j, 0 ≤ va_cpy f g 0 0 4 j ∧ va_cpy f g 0 0 4 j ≤ 1000000 := by
  intro j
  by_cases hj : j < 4
  · rw [z_cpy0 hj, e j hj]
    exact r j hj
  · rw [pk_cpy_out (Or.inr (by omega))]
    exact rg j
theorem z_mx_mx {P : Int → Prop} {T : Nat → Int} {o x i z w y : Int} (h : z_isMax (fun v => P v ∨ z_tn i T o x v) z) (hi : 0 ≤ i) (e1 : T (o + 3 * i).toNat = x) (e2 : T (o + 3 * i + 2).toNat = w) (hy : (y = z ∨ y = w) ∧ z ≤ y ∧ w ≤ y) : z_isMax (fun v => P v ∨ z_tn (i + 1) T o x v) y := by
  rcases Int.lt_or_le z w with q | q
  · rw [show y = w by omega]
    exact z_mx_in h hi e1 e2 q
  · rw [show y = z by omega]
    exact z_mx_no h hi (fun _ => by omega)
theorem z_tkB1 {fa am er : Nat → Int} {e f i : Int} (FG : ∀ j : Nat, 1 ≤ j → (j : Int) < i → fa j = z_goC am er e f j) (hi : 1 ≤ i) (hb : z_btv (z_or er e f) i ≠ 0) : ∀ j : Nat, 1 ≤ j → (j : Int) < i + 1 → va_up fa i.toNat 0 j = z_goC am er e f j := by
  intro j h1 hj
  by_cases he : j = i.toNat
  · subst he
    unfold z_goC
    rw [z_upS, show ((i.toNat : Nat) : Int) = i by omega, if_pos ⟨by omega, hb⟩]
  · simp only [va_up, if_neg he]
    exact FG j h1 (by omega)
theorem z_tkB0 {fa am er : Nat → Int} {e f i v : Int} (FG : ∀ j : Nat, 1 ≤ j → (j : Int) < i → fa j = z_goC am er e f j) (hi : 1 ≤ i) (hb : ¬ z_btv (z_or er e f) i ≠ 0) (hv : am i.toNat = v) : ∀ j : Nat, 1 ≤ j → (j : Int) < i + 1 → va_up fa i.toNat v j = z_goC am er e f j := by
  intro j h1 hj
  by_cases he : j = i.toNat
  · subst he
    unfold z_goC
    rw [z_upS, show ((i.toNat : Nat) : Int) = i by omega, if_neg (fun q => hb q.2), hv]
  · simp only [va_up, if_neg he]
    exact FG j h1 (by omega)
theorem z_tkF {fa am er : Nat → Int} {e f i : Int} (FG : ∀ j : Nat, 1 ≤ j → (j : Int) < i → fa j = z_goC am er e f j) (F0 : fa 0 = 0) (h0 : am 0 = 0) (hi : 4 ≤ i) : ∀ j, j < 4 → fa j = z_goC am er e f j := by
  intro j hj
  by_cases he : j = 0
  · subst he
    unfold z_goC
    rw [if_neg (fun q => by omega), F0, h0]
  · exact FG j (by omega) (by omega)
section ZTK
variable {e f a b : Int} {em ef gn gt pl am : Nat → Int}
theorem z_tk_op (h : a = 1 ∧ (pl (em e.toNat).toNat = ef e.toNat ∧ (f = -1 ∨ f ≠ -1 ∧ pl (em f.toNat).toNat = ef f.toNat)) ∨ a = 0 ∧ ¬ (pl (em e.toNat).toNat = ef e.toNat ∧ (f = -1 ∨ f ≠ -1 ∧ pl (em f.toNat).toNat = ef f.toNat))) (h' : b = 1 ∧ (z_alw (gn e.toNat) gt (6 * e) am ∧ (f = -1 ∨ f ≠ -1 ∧ z_alw (gn f.toNat) gt (6 * f) am)) ∨ b = 0 ∧ ¬ (z_alw (gn e.toNat) gt (6 * e) am ∧ (f = -1 ∨ f ≠ -1 ∧ z_alw (gn f.toNat) gt (6 * f) am))) (ha : a ≠ 0) (hb : b ≠ 0) : z_op2 e f em ef gn gt pl am := by
  have h1 := z_isz1 h ha
  have h2 := z_isz1 h' hb
  refine ⟨⟨h1.1, h2.1⟩, ?_⟩
  rcases h1.2 with q | q
  · exact Or.inl q
  · rcases h2.2 with q' | q'
    · exact Or.inl q'
    · exact Or.inr ⟨q.1, q.2, q'.2⟩
theorem z_tk_no (h : a = 1 ∧ (pl (em e.toNat).toNat = ef e.toNat ∧ (f = -1 ∨ f ≠ -1 ∧ pl (em f.toNat).toNat = ef f.toNat)) ∨ a = 0 ∧ ¬ (pl (em e.toNat).toNat = ef e.toNat ∧ (f = -1 ∨ f ≠ -1 ∧ pl (em f.toNat).toNat = ef f.toNat))) (h' : a = 0 ∨ (b = 1 ∧ (z_alw (gn e.toNat) gt (6 * e) am ∧ (f = -1 ∨ f ≠ -1 ∧ z_alw (gn f.toNat) gt (6 * f) am)) ∨ b = 0 ∧ ¬ (z_alw (gn e.toNat) gt (6 * e) am ∧ (f = -1 ∨ f ≠ -1 ∧ z_alw (gn f.toNat) gt (6 * f) am))) ∧ b = 0) : ¬ z_op2 e f em ef gn gt pl am := by
  rintro ⟨⟨o1, o2⟩, o3⟩
  rcases h' with h' | ⟨h', hb⟩
  · exact z_isz0 h h' ⟨o1, o3.imp id (fun q => ⟨q.1, q.2.1⟩)⟩
  · exact z_isz0 h' hb ⟨o2, o3.imp id (fun q => ⟨q.1, q.2.2⟩)⟩
end ZTK
set_option maxRecDepth 20000 in
theorem cx_X5_isCeiling (l : Launch) {D : va_G} {A : Nat → Prop} {ad : Nat → Nat} {ks : z_Ks} {N : Nat} {S : Nat → va_E} {Y : Nat → Option va_E} {c0 s0 v0 : Int} (q : Nat) (hT : Y q = some (z_ob 5 [z_v c0, z_v s0, z_v v0])) (hr : 1 ≤ c0 ∧ c0 ≤ 3 ∧ 0 ≤ s0 ∧ s0 ≤ 4 ∧ 0 ≤ v0 ∧ v0 ≤ 1000) : z_Met l yX5_isCeiling cX5_isCeiling 1 (some .boolean) 0 0 0 0 D A N ad ks [.ref q] S Y (fun r S' Y' => S' = S ∧ Y = Y' ∧ ∃ z : Int, r = some (z_v z) ∧ (z = 1 ∧ (s0 ≤ 2) ∨ z = 0 ∧ ¬ (s0 ≤ 2))) := by
  refine z_start2 (by decide) (Nat.le_of_ble_eq_true rfl) ?_
  intro p e R s m args below meth c Q C hRf hRc hRs hRl hQ hrt hnm
  refine z_loc (L' := [(0, .ref q)]) [0] rfl ?_
  refine z_aloadn C 0 dX5_isCeiling_0 rfl rfl ?_
  refine z_getY C hT rfl z_it5 1 (by decide) rfl fl_5_15 rfl dX5_isCeiling_1 ?_
  refine z_iconst C dX5_isCeiling_4 ?_
  refine z_icmp_gt (t := 12) C dX5_isCeiling_5 (by decide) (by omega) (by omega) (fun c1 => ?_) (fun c1 => ?_)
  · skip
    refine z_iconst C dX5_isCeiling_12 ?_
    rw [hQ]
    exact z_zret C hrt (by omega) dX5_isCeiling_13 (⟨rfl, rfl, _, rfl, by omega⟩) (by omega) (by omega)
  · skip
    refine z_iconst C dX5_isCeiling_8 ?_
    refine z_goto (t := 13) C dX5_isCeiling_9 (by decide) ?_
    rw [hQ]
    exact z_zret C hrt (by omega) dX5_isCeiling_13 (⟨rfl, rfl, _, rfl, by omega⟩) (by omega) (by omega)
set_option maxRecDepth 20000 in
theorem cx_X5_isFloor (l : Launch) {D : va_G} {A : Nat → Prop} {ad : Nat → Nat} {ks : z_Ks} {N : Nat} {S : Nat → va_E} {Y : Nat → Option va_E} {c0 s0 v0 : Int} (q : Nat) (hT : Y q = some (z_ob 5 [z_v c0, z_v s0, z_v v0])) (hr : 1 ≤ c0 ∧ c0 ≤ 3 ∧ 0 ≤ s0 ∧ s0 ≤ 4 ∧ 0 ≤ v0 ∧ v0 ≤ 1000) : z_Met l yX5_isFloor cX5_isFloor 1 (some .boolean) 0 0 0 0 D A N ad ks [.ref q] S Y (fun r S' Y' => S' = S ∧ Y = Y' ∧ ∃ z : Int, r = some (z_v z) ∧ (z = 1 ∧ (2 ≤ s0) ∨ z = 0 ∧ ¬ (2 ≤ s0))) := by
  refine z_start2 (by decide) (Nat.le_of_ble_eq_true rfl) ?_
  intro p e R s m args below meth c Q C hRf hRc hRs hRl hQ hrt hnm
  refine z_loc (L' := [(0, .ref q)]) [0] rfl ?_
  refine z_aloadn C 0 dX5_isFloor_0 rfl rfl ?_
  refine z_getY C hT rfl z_it5 1 (by decide) rfl fl_5_15 rfl dX5_isFloor_1 ?_
  refine z_iconst C dX5_isFloor_4 ?_
  refine z_icmp_lt (t := 12) C dX5_isFloor_5 (by decide) (by omega) (by omega) (fun c1 => ?_) (fun c1 => ?_)
  · skip
    refine z_iconst C dX5_isFloor_12 ?_
    rw [hQ]
    exact z_zret C hrt (by omega) dX5_isFloor_13 (⟨rfl, rfl, _, rfl, by omega⟩) (by omega) (by omega)
  · skip
    refine z_iconst C dX5_isFloor_8 ?_
    refine z_goto (t := 13) C dX5_isFloor_9 (by decide) ?_
    rw [hQ]
    exact z_zret C hrt (by omega) dX5_isFloor_13 (⟨rfl, rfl, _, rfl, by omega⟩) (by omega) (by omega)
set_option maxRecDepth 20000 in
theorem cx_X5_ceiling (l : Launch) {D : va_G} {A : Nat → Prop} {ad : Nat → Nat} {ks : z_Ks} {N : Nat} {S : Nat → va_E} {Y : Nat → Option va_E} {c0 s0 v0 : Int} (q : Nat) (hT : Y q = some (z_ob 5 [z_v c0, z_v s0, z_v v0])) (hr : 1 ≤ c0 ∧ c0 ≤ 3 ∧ 0 ≤ s0 ∧ s0 ≤ 4 ∧ 0 ≤ v0 ∧ v0 ≤ 1000) : z_Met l yX5_ceiling cX5_ceiling 1 (some .int) 0 0 0 0 D A N ad ks [.ref q] S Y (fun r S' Y' => S' = S ∧ Y = Y' ∧ ∃ z : Int, r = some (z_v z) ∧ ((s0 = 0 → z = 2 * v0) ∧ (s0 ≠ 0 → z = 2 * v0 + 1))) := by
  refine z_start2 (by decide) (Nat.le_of_ble_eq_true rfl) ?_
  intro p e R s m args below meth c Q C hRf hRc hRs hRl hQ hrt hnm
  refine z_loc (L' := [(0, .ref q)]) [0] rfl ?_
  refine z_iconst C dX5_ceiling_0 ?_
  refine z_aloadn C 0 dX5_ceiling_1 rfl rfl ?_
  refine z_getY C hT rfl z_it5 2 (by decide) rfl fl_5_18 rfl dX5_ceiling_2 ?_
  refine z_imul C dX5_ceiling_5 ?_
  refine z_aloadn C 0 dX5_ceiling_6 rfl rfl ?_
  refine z_getY C hT rfl z_it5 1 (by decide) rfl fl_5_15 rfl dX5_ceiling_7 ?_
  refine z_if_ne (t := 17) C dX5_ceiling_10 (by decide) (by omega) (fun c1 => ?_) (fun c1 => ?_)
  · skip
    refine z_iconst C dX5_ceiling_17 ?_
    refine z_iadd C dX5_ceiling_18 ?_
    rw [hQ]
    exact z_iret C hrt dX5_ceiling_19 (⟨rfl, rfl, _, rfl, by omega⟩) (by omega) (by omega)
  · skip
    refine z_iconst C dX5_ceiling_13 ?_
    refine z_goto (t := 18) C dX5_ceiling_14 (by decide) ?_
    refine z_iadd C dX5_ceiling_18 ?_
    rw [hQ]
    exact z_iret C hrt dX5_ceiling_19 (⟨rfl, rfl, _, rfl, by omega⟩) (by omega) (by omega)
set_option maxRecDepth 20000 in
theorem cx_X5_floor (l : Launch) {D : va_G} {A : Nat → Prop} {ad : Nat → Nat} {ks : z_Ks} {N : Nat} {S : Nat → va_E} {Y : Nat → Option va_E} {c0 s0 v0 : Int} (q : Nat) (hT : Y q = some (z_ob 5 [z_v c0, z_v s0, z_v v0])) (hr : 1 ≤ c0 ∧ c0 ≤ 3 ∧ 0 ≤ s0 ∧ s0 ≤ 4 ∧ 0 ≤ v0 ∧ v0 ≤ 1000) : z_Met l yX5_floor cX5_floor 1 (some .int) 0 0 0 0 D A N ad ks [.ref q] S Y (fun r S' Y' => S' = S ∧ Y = Y' ∧ ∃ z : Int, r = some (z_v z) ∧ ((s0 = 4 → z = -2 * v0) ∧ (s0 ≠ 4 → z = -2 * v0 + 1))) := by
  refine z_start2 (by decide) (Nat.le_of_ble_eq_true rfl) ?_
  intro p e R s m args below meth c Q C hRf hRc hRs hRl hQ hrt hnm
  refine z_loc (L' := [(0, .ref q)]) [0] rfl ?_
  refine z_bipush C dX5_floor_0 (by decide) ?_
  refine z_aloadn C 0 dX5_floor_2 rfl rfl ?_
  refine z_getY C hT rfl z_it5 2 (by decide) rfl fl_5_18 rfl dX5_floor_3 ?_
  refine z_imul C dX5_floor_6 ?_
  refine z_aloadn C 0 dX5_floor_7 rfl rfl ?_
  refine z_getY C hT rfl z_it5 1 (by decide) rfl fl_5_15 rfl dX5_floor_8 ?_
  refine z_iconst C dX5_floor_11 ?_
  refine z_icmp_ne (t := 19) C dX5_floor_12 (by decide) (by omega) (by omega) (fun c1 => ?_) (fun c1 => ?_)
  · skip
    refine z_iconst C dX5_floor_19 ?_
    refine z_iadd C dX5_floor_20 ?_
    rw [hQ]
    exact z_iret C hrt dX5_floor_21 (⟨rfl, rfl, _, rfl, by omega⟩) (by omega) (by omega)
  · skip
    refine z_iconst C dX5_floor_15 ?_
    refine z_goto (t := 20) C dX5_floor_16 (by decide) ?_
    refine z_iadd C dX5_floor_20 ?_
    rw [hQ]
    exact z_iret C hrt dX5_floor_21 (⟨rfl, rfl, _, rfl, by omega⟩) (by omega) (by omega)
set_option maxRecDepth 20000 in
theorem cx_X5_mostParts (l : Launch) {D : va_G} {A : Nat → Prop} {ad : Nat → Nat} {ks : z_Ks} {N : Nat} {S : Nat → va_E} {Y : Nat → Option va_E} {c0 s0 v0 : Int} (q : Nat) (hT : Y q = some (z_ob 5 [z_v c0, z_v s0, z_v v0])) (hr : 1 ≤ c0 ∧ c0 ≤ 3 ∧ 0 ≤ s0 ∧ s0 ≤ 4 ∧ 0 ≤ v0 ∧ v0 ≤ 1000) : z_Met l yX5_mostParts cX5_mostParts 1 (some .int) 0 0 0 0 D A N ad ks [.ref q] S Y (fun r S' Y' => S' = S ∧ Y = Y' ∧ ∃ z : Int, r = some (z_v z) ∧ ((s0 = 0 → z = 64 * v0 - 1) ∧ (s0 ≠ 0 → z = 64 * v0))) := by
  refine z_start2 (by decide) (Nat.le_of_ble_eq_true rfl) ?_
  intro p e R s m args below meth c Q C hRf hRc hRs hRl hQ hrt hnm
  refine z_loc (L' := [(0, .ref q)]) [0] rfl ?_
  refine z_bipush C dX5_mostParts_0 (by decide) ?_
  refine z_aloadn C 0 dX5_mostParts_2 rfl rfl ?_
  refine z_getY C hT rfl z_it5 2 (by decide) rfl fl_5_18 rfl dX5_mostParts_3 ?_
  refine z_imul C dX5_mostParts_6 ?_
  refine z_aloadn C 0 dX5_mostParts_7 rfl rfl ?_
  refine z_getY C hT rfl z_it5 1 (by decide) rfl fl_5_15 rfl dX5_mostParts_8 ?_
  refine z_if_ne (t := 18) C dX5_mostParts_11 (by decide) (by omega) (fun c1 => ?_) (fun c1 => ?_)
  · skip
    refine z_iconst C dX5_mostParts_18 ?_
    refine z_isub C dX5_mostParts_19 ?_
    rw [hQ]
    exact z_iret C hrt dX5_mostParts_20 (⟨rfl, rfl, _, rfl, by omega⟩) (by omega) (by omega)
  · skip
    refine z_iconst C dX5_mostParts_14 ?_
    refine z_goto (t := 19) C dX5_mostParts_15 (by decide) ?_
    refine z_isub C dX5_mostParts_19 ?_
    rw [hQ]
    exact z_iret C hrt dX5_mostParts_20 (⟨rfl, rfl, _, rfl, by omega⟩) (by omega) (by omega)
set_option maxRecDepth 20000 in
theorem cx_X5_leastParts (l : Launch) {D : va_G} {A : Nat → Prop} {ad : Nat → Nat} {ks : z_Ks} {N : Nat} {S : Nat → va_E} {Y : Nat → Option va_E} {c0 s0 v0 : Int} (q : Nat) (hT : Y q = some (z_ob 5 [z_v c0, z_v s0, z_v v0])) (hr : 1 ≤ c0 ∧ c0 ≤ 3 ∧ 0 ≤ s0 ∧ s0 ≤ 4 ∧ 0 ≤ v0 ∧ v0 ≤ 1000) : z_Met l yX5_leastParts cX5_leastParts 1 (some .int) 0 0 0 0 D A N ad ks [.ref q] S Y (fun r S' Y' => S' = S ∧ Y = Y' ∧ ∃ z : Int, r = some (z_v z) ∧ ((s0 = 4 → z = 64 * v0 + 1) ∧ (s0 ≠ 4 → z = 64 * v0))) := by
  refine z_start2 (by decide) (Nat.le_of_ble_eq_true rfl) ?_
  intro p e R s m args below meth c Q C hRf hRc hRs hRl hQ hrt hnm
  refine z_loc (L' := [(0, .ref q)]) [0] rfl ?_
  refine z_bipush C dX5_leastParts_0 (by decide) ?_
  refine z_aloadn C 0 dX5_leastParts_2 rfl rfl ?_
  refine z_getY C hT rfl z_it5 2 (by decide) rfl fl_5_18 rfl dX5_leastParts_3 ?_
  refine z_imul C dX5_leastParts_6 ?_
  refine z_aloadn C 0 dX5_leastParts_7 rfl rfl ?_
  refine z_getY C hT rfl z_it5 1 (by decide) rfl fl_5_15 rfl dX5_leastParts_8 ?_
  refine z_iconst C dX5_leastParts_11 ?_
  refine z_icmp_ne (t := 19) C dX5_leastParts_12 (by decide) (by omega) (by omega) (fun c1 => ?_) (fun c1 => ?_)
  · skip
    refine z_iconst C dX5_leastParts_19 ?_
    refine z_iadd C dX5_leastParts_20 ?_
    rw [hQ]
    exact z_iret C hrt dX5_leastParts_21 (⟨rfl, rfl, _, rfl, by omega⟩) (by omega) (by omega)
  · skip
    refine z_iconst C dX5_leastParts_15 ?_
    refine z_goto (t := 20) C dX5_leastParts_16 (by decide) ?_
    refine z_iadd C dX5_leastParts_20 ?_
    rw [hQ]
    exact z_iret C hrt dX5_leastParts_21 (⟨rfl, rfl, _, rfl, by omega⟩) (by omega) (by omega)
set_option maxRecDepth 20000 in
theorem cx_X5_allows (l : Launch) {D : va_G} {A : Nat → Prop} {ad : Nat → Nat} {ks : z_Ks} {N : Nat} {S : Nat → va_E} {Y : Nat → Option va_E} {c0 s0 v0 : Int} (a : Int) (q : Nat) (hT : Y q = some (z_ob 5 [z_v c0, z_v s0, z_v v0])) (hr : 1 ≤ c0 ∧ c0 ≤ 3 ∧ 0 ≤ s0 ∧ s0 ≤ 4 ∧ 0 ≤ v0 ∧ v0 ≤ 1000) (ha : 0 ≤ a ∧ a ≤ 2000000) : z_Met l yX5_allows cX5_allows 2 (some .boolean) 1 20 0 0 D A N ad ks [.ref q, z_v a] S Y (fun r S' Y' => S' = S ∧ Y = Y' ∧ ∃ z : Int, r = some (z_v z) ∧ (z = 1 ∧ (z_pass a s0 v0) ∨ z = 0 ∧ ¬ (z_pass a s0 v0))) := by
  refine z_start2 (by decide) (Nat.le_of_ble_eq_true rfl) ?_
  intro p e R s m args below meth c Q C hRf hRc hRs hRl hQ hrt hnm
  refine z_loc (L' := [(0, .ref q), (1, z_v a)]) [0, 1] rfl ?_
  refine z_aloadn C 0 dX5_allows_0 rfl rfl ?_
  refine z_callV C (cx_X5_isCeiling l q hT (by omega)) mv_5_21 (z_atY 5 hT rfl rfl) pd_X5_isCeiling ⟨by omega, by omega⟩ ⟨by omega, by omega⟩ rfl (Nat.le_of_ble_eq_true rfl) dX5_allows_1 ?_
  rintro _ _ _ ⟨rfl, rfl, z3, rfl, hz3⟩
  refine z_if_eq (t := 15) C dX5_allows_4 (by decide) (by omega) (fun c4 => ?_) (fun c4 => ?_)
  · skip
    refine z_aloadn C 0 dX5_allows_15 rfl rfl ?_
    refine z_callV C (cx_X5_isFloor l q hT (by omega)) mv_5_29 (z_atY 5 hT rfl rfl) pd_X5_isFloor ⟨by omega, by omega⟩ ⟨by omega, by omega⟩ rfl (Nat.le_of_ble_eq_true rfl) dX5_allows_16 ?_
    rintro _ _ _ ⟨rfl, rfl, z7, rfl, hz7⟩
    refine z_if_eq (t := 30) C dX5_allows_19 (by decide) (by omega) (fun c8 => ?_) (fun c8 => ?_)
    · skip
      refine z_iconst C dX5_allows_30 ?_
      refine z_goto (t := 35) C dX5_allows_31 (by decide) ?_
      rw [hQ]
      exact z_zret C hrt (by omega) dX5_allows_35 (⟨rfl, rfl, _, rfl, by omega⟩) (by omega) (by omega)
    · skip
      refine z_iloadn C 1 dX5_allows_22 rfl rfl ?_
      refine z_aloadn C 0 dX5_allows_23 rfl rfl ?_
      refine z_callV C (cx_X5_leastParts l q hT (by omega)) mv_5_32 (z_atY 5 hT rfl rfl) pd_X5_leastParts ⟨by omega, by omega⟩ ⟨by omega, by omega⟩ rfl (Nat.le_of_ble_eq_true rfl) dX5_allows_24 ?_
      rintro _ _ _ ⟨rfl, rfl, z11, rfl, hz11⟩
      refine z_icmp_lt (t := 34) C dX5_allows_27 (by decide) (by omega) (by omega) (fun c12 => ?_) (fun c12 => ?_)
      · skip
        refine z_iconst C dX5_allows_34 ?_
        rw [hQ]
        exact z_zret C hrt (by omega) dX5_allows_35 (⟨rfl, rfl, _, rfl, by omega⟩) (by omega) (by omega)
      · skip
        refine z_iconst C dX5_allows_30 ?_
        refine z_goto (t := 35) C dX5_allows_31 (by decide) ?_
        rw [hQ]
        exact z_zret C hrt (by omega) dX5_allows_35 (⟨rfl, rfl, _, rfl, by omega⟩) (by omega) (by omega)
  · skip
    refine z_iloadn C 1 dX5_allows_7 rfl rfl ?_
    refine z_aloadn C 0 dX5_allows_8 rfl rfl ?_
    refine z_callV C (cx_X5_mostParts l q hT (by omega)) mv_5_25 (z_atY 5 hT rfl rfl) pd_X5_mostParts ⟨by omega, by omega⟩ ⟨by omega, by omega⟩ rfl (Nat.le_of_ble_eq_true rfl) dX5_allows_9 ?_
    rintro _ _ _ ⟨rfl, rfl, z15, rfl, hz15⟩
    refine z_icmp_gt (t := 34) C dX5_allows_12 (by decide) (by omega) (by omega) (fun c16 => ?_) (fun c16 => ?_)
    · skip
      refine z_iconst C dX5_allows_34 ?_
      rw [hQ]
      exact z_zret C hrt (by omega) dX5_allows_35 (⟨rfl, rfl, _, rfl, by omega⟩) (by omega) (by omega)
    · skip
      refine z_aloadn C 0 dX5_allows_15 rfl rfl ?_
      refine z_callV C (cx_X5_isFloor l q hT (by omega)) mv_5_29 (z_atY 5 hT rfl rfl) pd_X5_isFloor ⟨by omega, by omega⟩ ⟨by omega, by omega⟩ rfl (Nat.le_of_ble_eq_true rfl) dX5_allows_16 ?_
      rintro _ _ _ ⟨rfl, rfl, z19, rfl, hz19⟩
      refine z_if_eq (t := 30) C dX5_allows_19 (by decide) (by omega) (fun c20 => ?_) (fun c20 => ?_)
      · skip
        refine z_iconst C dX5_allows_30 ?_
        refine z_goto (t := 35) C dX5_allows_31 (by decide) ?_
        rw [hQ]
        exact z_zret C hrt (by omega) dX5_allows_35 (⟨rfl, rfl, _, rfl, by omega⟩) (by omega) (by omega)
      · skip
        refine z_iloadn C 1 dX5_allows_22 rfl rfl ?_
        refine z_aloadn C 0 dX5_allows_23 rfl rfl ?_
        refine z_callV C (cx_X5_leastParts l q hT (by omega)) mv_5_32 (z_atY 5 hT rfl rfl) pd_X5_leastParts ⟨by omega, by omega⟩ ⟨by omega, by omega⟩ rfl (Nat.le_of_ble_eq_true rfl) dX5_allows_24 ?_
        rintro _ _ _ ⟨rfl, rfl, z23, rfl, hz23⟩
        refine z_icmp_lt (t := 34) C dX5_allows_27 (by decide) (by omega) (by omega) (fun c24 => ?_) (fun c24 => ?_)
        · skip
          refine z_iconst C dX5_allows_34 ?_
          rw [hQ]
          exact z_zret C hrt (by omega) dX5_allows_35 (⟨rfl, rfl, _, rfl, by omega⟩) (by omega) (by omega)
        · skip
          refine z_iconst C dX5_allows_30 ?_
          refine z_goto (t := 35) C dX5_allows_31 (by decide) ?_
          rw [hQ]
          exact z_zret C hrt (by omega) dX5_allows_35 (⟨rfl, rfl, _, rfl, by omega⟩) (by omega) (by omega)
set_option maxRecDepth 20000 in
theorem cx_X6_allow_15 (l : Launch) {D : va_G} {A : Nat → Prop} {ad : Nat → Nat} {ks : z_Ks} {s_edgeCount s_moveCount s_isNeeded s_timesDone s_size s_isGoing s_allTime s_stepCount s_gapCount : Int} {g_edges g_moves g_limits : Nat → Option Nat} {a_sfacts a_sbounds a_facts a_zone a_most a_places a_amounts a_nextPlaces a_nextAmounts a_earliest a_visited a_lastSet a_gapFrom a_gapTo a_gapLeast a_askedPlaces a_askedAmounts : Nat → Int} {Y : Nat → Option va_E} {t : Nat} {n0 o0 : Int} {T : Nat → Int} (q : Nat) (Ha_amounts : (∀ j, 0 ≤ a_amounts j ∧ a_amounts j ≤ 1000000)) (hq : z_TX ks Y q t n0 T o0) : z_Met l yX6_allow cX6_allow 3 (some .boolean) 2 41 0 0 D A 27 ad ks [.ref q, .ref (ad 15)] (z_zc ad ks s_edgeCount s_moveCount s_isNeeded s_timesDone s_size s_isGoing s_allTime s_stepCount s_gapCount g_edges g_moves g_limits a_sfacts a_sbounds a_facts a_zone a_most a_places a_amounts a_nextPlaces a_nextAmounts a_earliest a_visited a_lastSet a_gapFrom a_gapTo a_gapLeast a_askedPlaces a_askedAmounts) Y (fun r S' Y' => S' = (z_zc ad ks s_edgeCount s_moveCount s_isNeeded s_timesDone s_size s_isGoing s_allTime s_stepCount s_gapCount g_edges g_moves g_limits a_sfacts a_sbounds a_facts a_zone a_most a_places a_amounts a_nextPlaces a_nextAmounts a_earliest a_visited a_lastSet a_gapFrom a_gapTo a_gapLeast a_askedPlaces a_askedAmounts) ∧ Y = Y' ∧ ∃ z : Int, r = some (z_v z) ∧ (z = 1 ∧ (z_alw n0 T o0 a_amounts) ∨ z = 0 ∧ ¬ (z_alw n0 T o0 a_amounts))) := by
  refine z_start2 (by decide) (Nat.le_of_ble_eq_true rfl) ?_
  intro p e R s m args below meth c Q C hRf hRc hRs hRl hQ hrt hnm
  refine z_loc (L' := [(0, .ref q), (1, .ref (ad 15))]) [0, 1] rfl ?_
  refine z_iconst C dX6_allow_0 ?_
  refine z_istoren (L' := [(2, z_v 0), (0, .ref q), (1, .ref (ad 15))]) C dX6_allow_1 rfl (by decide) rfl ?_
  have L2 : ∀ (n : Nat), ∀ (i2 : Int), (∀ j : Int, 0 ≤ j → j < i2 → z_pass (a_amounts (T (o0 + 3 * j).toNat).toNat) (T (o0 + 3 * j + 1).toNat) (T (o0 + 3 * j + 2).toNat)) → (0 ≤ i2 ∧ i2 ≤ 2) → ((2 : Int) - i2).toNat < n → z_V p l e R s m args below meth c Q D A 27 ad 3 (z_zc ad ks s_edgeCount s_moveCount s_isNeeded s_timesDone s_size s_isGoing s_allTime s_stepCount s_gapCount g_edges g_moves g_limits a_sfacts a_sbounds a_facts a_zone a_most a_places a_amounts a_nextPlaces a_nextAmounts a_earliest a_visited a_lastSet a_gapFrom a_gapTo a_gapLeast a_askedPlaces a_askedAmounts) Y 0 0 2 [(0, .ref q), (1, .ref (ad 15)), (2, z_v i2)] [] := by
    intro n
    induction n with
    | zero => intro i2 FA I2 hm; exact absurd hm (Nat.not_lt_zero _)
    | succ n ih2 =>
      intro i2 FA I2 hm
      refine z_iloadn C 2 dX6_allow_2 rfl rfl ?_
      refine z_aloadn C 0 dX6_allow_3 rfl rfl ?_
      obtain ⟨yd1, ad1, gd1, wd1, bd1⟩ := id hq
      refine z_getY C yd1 rfl z_it6 1 (by decide) rfl fl_6_17 rfl dX6_allow_4 ?_
      refine z_icmp_ge (t := 41) C dX6_allow_7 (by decide) (by omega) (by omega) (fun c2 => ?_) (fun c2 => ?_)
      · skip
        refine z_iconst C dX6_allow_41 ?_
        rw [hQ]
        exact z_zret C hrt (by omega) dX6_allow_42 (⟨rfl, rfl, _, rfl, Or.inl ⟨rfl, fun j h0 h1 => FA j h0 (by omega)⟩⟩) (by omega) (by omega)
      · skip
        refine z_aloadn C 0 dX6_allow_10 rfl rfl ?_
        refine z_getY C yd1 rfl z_it6 0 (by decide) rfl fl_6_11 rfl dX6_allow_11 ?_
        refine z_iloadn C 2 dX6_allow_14 rfl rfl ?_
        obtain ⟨q3, cq3, sq3, nq3, eq3, yq3, ⟨ecq3, esq3, enq3⟩, rq3⟩ := bd1 i2 (by omega) (by omega)
        refine z_aaldT C 4 wd1 rfl (by decide) (by omega) (by omega) eq3 dX6_allow_15 ?_
        refine z_aloadn C 1 dX6_allow_16 rfl rfl ?_
        refine z_aloadn C 0 dX6_allow_17 rfl rfl ?_
        refine z_getY C yd1 rfl z_it6 0 (by decide) rfl fl_6_11 rfl dX6_allow_18 ?_
        refine z_iloadn C 2 dX6_allow_21 rfl rfl ?_
        refine z_aaldT C 4 wd1 rfl (by decide) (by omega) (by omega) eq3 dX6_allow_22 ?_
        refine z_getY C yq3 rfl z_it5 0 (by decide) rfl fl_6_21 rfl dX6_allow_23 ?_
        refine z_iald C 15 (by decide) rfl (by decide) (by omega) (by omega) dX6_allow_26 ?_
        have rx5 := Ha_amounts (cq3 : Int).toNat
        generalize ex5 : a_amounts (cq3 : Int).toNat = x5 at rx5 ⊢
        refine z_callV C (cx_X5_allows l x5 q3 yq3 (by omega) (by omega)) mv_6_24 (z_atY 5 yq3 rfl rfl) pd_X5_allows ⟨by omega, by omega⟩ ⟨by omega, by omega⟩ rfl (Nat.le_of_ble_eq_true rfl) dX6_allow_27 ?_
        rintro _ _ _ ⟨rfl, rfl, z8, rfl, hz8⟩
        refine z_if_ne (t := 35) C dX6_allow_30 (by decide) (by omega) (fun c9 => ?_) (fun c9 => ?_)
        · skip
          refine z_iinc (L' := [(2, z_v (i2 + 1)), (0, .ref q), (1, .ref (ad 15))]) C 2 dX6_allow_35 rfl (by decide) rfl ?_
          refine z_goto (t := 2) C dX6_allow_38 (by decide) ?_
          refine z_loc (L' := [(0, .ref q), (1, .ref (ad 15)), (2, z_v (i2 + 1))]) [1, 2, 0] rfl ?_
          exact ih2 (i2 + 1) (by subst_vars; exact z_snoc FA (by omega)) (by omega) (by omega)
        · skip
          refine z_iconst C dX6_allow_33 ?_
          rw [hQ]
          exact z_zret C hrt (by omega) dX6_allow_34 (⟨rfl, rfl, _, rfl, by subst_vars; exact Or.inr ⟨rfl, fun h => absurd (h i2 (by omega) (by omega)) (by omega)⟩⟩) (by omega) (by omega)
  refine z_loc (L' := [(0, .ref q), (1, .ref (ad 15)), (2, z_v 0)]) [1, 2, 0] rfl ?_
  exact (L2 (((2 : Int) - 0).toNat + 1)) 0 (z_vac) (by omega) (Nat.lt_succ_self _)
set_option maxRecDepth 20000 in
theorem cx_X6_allow_17 (l : Launch) {D : va_G} {A : Nat → Prop} {ad : Nat → Nat} {ks : z_Ks} {s_edgeCount s_moveCount s_isNeeded s_timesDone s_size s_isGoing s_allTime s_stepCount s_gapCount : Int} {g_edges g_moves g_limits : Nat → Option Nat} {a_sfacts a_sbounds a_facts a_zone a_most a_places a_amounts a_nextPlaces a_nextAmounts a_earliest a_visited a_lastSet a_gapFrom a_gapTo a_gapLeast a_askedPlaces a_askedAmounts : Nat → Int} {Y : Nat → Option va_E} {t : Nat} {n0 o0 : Int} {T : Nat → Int} (q : Nat) (Ha_nextAmounts : (∀ j, 0 ≤ a_nextAmounts j ∧ a_nextAmounts j ≤ 1064000)) (hq : z_TX ks Y q t n0 T o0) : z_Met l yX6_allow cX6_allow 3 (some .boolean) 2 41 0 0 D A 27 ad ks [.ref q, .ref (ad 17)] (z_zc ad ks s_edgeCount s_moveCount s_isNeeded s_timesDone s_size s_isGoing s_allTime s_stepCount s_gapCount g_edges g_moves g_limits a_sfacts a_sbounds a_facts a_zone a_most a_places a_amounts a_nextPlaces a_nextAmounts a_earliest a_visited a_lastSet a_gapFrom a_gapTo a_gapLeast a_askedPlaces a_askedAmounts) Y (fun r S' Y' => S' = (z_zc ad ks s_edgeCount s_moveCount s_isNeeded s_timesDone s_size s_isGoing s_allTime s_stepCount s_gapCount g_edges g_moves g_limits a_sfacts a_sbounds a_facts a_zone a_most a_places a_amounts a_nextPlaces a_nextAmounts a_earliest a_visited a_lastSet a_gapFrom a_gapTo a_gapLeast a_askedPlaces a_askedAmounts) ∧ Y = Y' ∧ ∃ z : Int, r = some (z_v z) ∧ (z = 1 ∧ (z_alw n0 T o0 a_nextAmounts) ∨ z = 0 ∧ ¬ (z_alw n0 T o0 a_nextAmounts))) := by
  refine z_start2 (by decide) (Nat.le_of_ble_eq_true rfl) ?_
  intro p e R s m args below meth c Q C hRf hRc hRs hRl hQ hrt hnm
  refine z_loc (L' := [(0, .ref q), (1, .ref (ad 17))]) [0, 1] rfl ?_
  refine z_iconst C dX6_allow_0 ?_
  refine z_istoren (L' := [(2, z_v 0), (0, .ref q), (1, .ref (ad 17))]) C dX6_allow_1 rfl (by decide) rfl ?_
  have L2 : ∀ (n : Nat), ∀ (i2 : Int), (∀ j : Int, 0 ≤ j → j < i2 → z_pass (a_nextAmounts (T (o0 + 3 * j).toNat).toNat) (T (o0 + 3 * j + 1).toNat) (T (o0 + 3 * j + 2).toNat)) → (0 ≤ i2 ∧ i2 ≤ 2) → ((2 : Int) - i2).toNat < n → z_V p l e R s m args below meth c Q D A 27 ad 3 (z_zc ad ks s_edgeCount s_moveCount s_isNeeded s_timesDone s_size s_isGoing s_allTime s_stepCount s_gapCount g_edges g_moves g_limits a_sfacts a_sbounds a_facts a_zone a_most a_places a_amounts a_nextPlaces a_nextAmounts a_earliest a_visited a_lastSet a_gapFrom a_gapTo a_gapLeast a_askedPlaces a_askedAmounts) Y 0 0 2 [(0, .ref q), (1, .ref (ad 17)), (2, z_v i2)] [] := by
    intro n
    induction n with
    | zero => intro i2 FA I2 hm; exact absurd hm (Nat.not_lt_zero _)
    | succ n ih2 =>
      intro i2 FA I2 hm
      refine z_iloadn C 2 dX6_allow_2 rfl rfl ?_
      refine z_aloadn C 0 dX6_allow_3 rfl rfl ?_
      obtain ⟨yd1, ad1, gd1, wd1, bd1⟩ := id hq
      refine z_getY C yd1 rfl z_it6 1 (by decide) rfl fl_6_17 rfl dX6_allow_4 ?_
      refine z_icmp_ge (t := 41) C dX6_allow_7 (by decide) (by omega) (by omega) (fun c2 => ?_) (fun c2 => ?_)
      · skip
        refine z_iconst C dX6_allow_41 ?_
        rw [hQ]
        exact z_zret C hrt (by omega) dX6_allow_42 (⟨rfl, rfl, _, rfl, Or.inl ⟨rfl, fun j h0 h1 => FA j h0 (by omega)⟩⟩) (by omega) (by omega)
      · skip
        refine z_aloadn C 0 dX6_allow_10 rfl rfl ?_
        refine z_getY C yd1 rfl z_it6 0 (by decide) rfl fl_6_11 rfl dX6_allow_11 ?_
        refine z_iloadn C 2 dX6_allow_14 rfl rfl ?_
        obtain ⟨q3, cq3, sq3, nq3, eq3, yq3, ⟨ecq3, esq3, enq3⟩, rq3⟩ := bd1 i2 (by omega) (by omega)
        refine z_aaldT C 4 wd1 rfl (by decide) (by omega) (by omega) eq3 dX6_allow_15 ?_
        refine z_aloadn C 1 dX6_allow_16 rfl rfl ?_
        refine z_aloadn C 0 dX6_allow_17 rfl rfl ?_
        refine z_getY C yd1 rfl z_it6 0 (by decide) rfl fl_6_11 rfl dX6_allow_18 ?_
        refine z_iloadn C 2 dX6_allow_21 rfl rfl ?_
        refine z_aaldT C 4 wd1 rfl (by decide) (by omega) (by omega) eq3 dX6_allow_22 ?_
        refine z_getY C yq3 rfl z_it5 0 (by decide) rfl fl_6_21 rfl dX6_allow_23 ?_
        refine z_iald C 17 (by decide) rfl (by decide) (by omega) (by omega) dX6_allow_26 ?_
        have rx5 := Ha_nextAmounts (cq3 : Int).toNat
        generalize ex5 : a_nextAmounts (cq3 : Int).toNat = x5 at rx5 ⊢
        refine z_callV C (cx_X5_allows l x5 q3 yq3 (by omega) (by omega)) mv_6_24 (z_atY 5 yq3 rfl rfl) pd_X5_allows ⟨by omega, by omega⟩ ⟨by omega, by omega⟩ rfl (Nat.le_of_ble_eq_true rfl) dX6_allow_27 ?_
        rintro _ _ _ ⟨rfl, rfl, z8, rfl, hz8⟩
        refine z_if_ne (t := 35) C dX6_allow_30 (by decide) (by omega) (fun c9 => ?_) (fun c9 => ?_)
        · skip
          refine z_iinc (L' := [(2, z_v (i2 + 1)), (0, .ref q), (1, .ref (ad 17))]) C 2 dX6_allow_35 rfl (by decide) rfl ?_
          refine z_goto (t := 2) C dX6_allow_38 (by decide) ?_
          refine z_loc (L' := [(0, .ref q), (1, .ref (ad 17)), (2, z_v (i2 + 1))]) [1, 2, 0] rfl ?_
          exact ih2 (i2 + 1) (by subst_vars; exact z_snoc FA (by omega)) (by omega) (by omega)
        · skip
          refine z_iconst C dX6_allow_33 ?_
          rw [hQ]
          exact z_zret C hrt (by omega) dX6_allow_34 (⟨rfl, rfl, _, rfl, by subst_vars; exact Or.inr ⟨rfl, fun h => absurd (h i2 (by omega) (by omega)) (by omega)⟩⟩) (by omega) (by omega)
  refine z_loc (L' := [(0, .ref q), (1, .ref (ad 17)), (2, z_v 0)]) [1, 2, 0] rfl ?_
  exact (L2 (((2 : Int) - 0).toNat + 1)) 0 (z_vac) (by omega) (Nat.lt_succ_self _)
set_option maxRecDepth 20000 in
theorem cx_X6_greatestNumber (l : Launch) {D : va_G} {A : Nat → Prop} {ad : Nat → Nat} {ks : z_Ks} {N : Nat} {S : Nat → va_E} {Y : Nat → Option va_E} {t : Nat} {n0 o0 : Int} {T : Nat → Int} (x : Int) (q : Nat) (hq : z_TX ks Y q t n0 T o0) (hx : z_rg x) : z_Met l yX6_greatestNumber cX6_greatestNumber 4 (some .int) 1 21 0 0 D A N ad ks [.ref q, z_v x] S Y (fun r S' Y' => S' = S ∧ Y = Y' ∧ ∃ z : Int, r = some (z_v z) ∧ (0 ≤ z ∧ z ≤ 1000 ∧ z_isMax (z_tn n0 T o0 x) z)) := by
  refine z_start2 (by decide) (Nat.le_of_ble_eq_true rfl) ?_
  intro p e R s m args below meth c Q C hRf hRc hRs hRl hQ hrt hnm
  refine z_loc (L' := [(0, .ref q), (1, z_v x)]) [0, 1] rfl ?_
  refine z_iconst C dX6_greatestNumber_0 ?_
  refine z_istoren (L' := [(2, z_v 0), (0, .ref q), (1, z_v x)]) C dX6_greatestNumber_1 rfl (by decide) rfl ?_
  refine z_iconst C dX6_greatestNumber_2 ?_
  refine z_istoren (L' := [(3, z_v 0), (2, z_v 0), (0, .ref q), (1, z_v x)]) C dX6_greatestNumber_3 rfl (by decide) rfl ?_
  have L4 : ∀ (n : Nat), ∀ (i2 : Int) (i3 : Int), (i3 ≤ n0 ∨ i3 = 0) → (z_isMax (fun v => False ∨ z_tn i3 T o0 x v) i2) → (0 ≤ i3 ∧ i3 ≤ 2) → (0 ≤ i2 ∧ i2 ≤ 1000) → ((2 : Int) - i3).toNat < n → z_V p l e R s m args below meth c Q D A N ad 4 S Y 0 0 4 [(0, .ref q), (1, z_v x), (2, z_v i2), (3, z_v i3)] [] := by
    intro n
    induction n with
    | zero => intro i2 i3 J3 MX I3 I2 hm; exact absurd hm (Nat.not_lt_zero _)
    | succ n ih4 =>
      intro i2 i3 J3 MX I3 I2 hm
      refine z_iloadn C 3 dX6_greatestNumber_4 rfl rfl ?_
      refine z_aloadn C 0 dX6_greatestNumber_5 rfl rfl ?_
      obtain ⟨yd1, ad1, gd1, wd1, bd1⟩ := id hq
      refine z_getY C yd1 rfl z_it6 1 (by decide) rfl fl_6_17 rfl dX6_greatestNumber_6 ?_
      refine z_icmp_ge (t := 45) C dX6_greatestNumber_9 (by decide) (by omega) (by omega) (fun c2 => ?_) (fun c2 => ?_)
      · skip
        obtain ⟨_, hn02, _⟩ := id hq
        refine z_iloadn C 2 dX6_greatestNumber_45 rfl rfl ?_
        rw [hQ]
        exact z_iret C hrt dX6_greatestNumber_46 (⟨rfl, rfl, _, rfl, ⟨by omega, by omega, MX.iff (fun v => by rw [show i3 = n0 by omega]; exact ⟨fun h => h.elim False.elim id, Or.inr⟩)⟩⟩) (by omega) (by omega)
      · skip
        refine z_aloadn C 0 dX6_greatestNumber_12 rfl rfl ?_
        refine z_getY C yd1 rfl z_it6 0 (by decide) rfl fl_6_11 rfl dX6_greatestNumber_13 ?_
        refine z_iloadn C 3 dX6_greatestNumber_16 rfl rfl ?_
        obtain ⟨q3, cq3, sq3, nq3, eq3, yq3, ⟨ecq3, esq3, enq3⟩, rq3⟩ := bd1 i3 (by omega) (by omega)
        refine z_aaldT C 4 wd1 rfl (by decide) (by omega) (by omega) eq3 dX6_greatestNumber_17 ?_
        refine z_getY C yq3 rfl z_it5 0 (by decide) rfl fl_6_21 rfl dX6_greatestNumber_18 ?_
        refine z_iloadn C 1 dX6_greatestNumber_21 rfl rfl ?_
        refine z_icmp_ne (t := 39) C dX6_greatestNumber_22 (by decide) (by omega) (by omega) (fun c4 => ?_) (fun c4 => ?_)
        · skip
          refine z_iinc (L' := [(3, z_v (i3 + 1)), (0, .ref q), (1, z_v x), (2, z_v i2)]) C 3 dX6_greatestNumber_39 rfl (by decide) rfl ?_
          refine z_goto (t := 4) C dX6_greatestNumber_42 (by decide) ?_
          refine z_loc (L' := [(0, .ref q), (1, z_v x), (2, z_v i2), (3, z_v (i3 + 1))]) [1, 2, 3, 0] rfl ?_
          exact ih4 i2 (i3 + 1) (by omega) (by subst_vars; first | exact z_mx_no MX (by omega) (fun h => by omega) | exact z_mx_mx MX (by omega) rfl rfl (by omega)) (by omega) (by omega) (by omega)
        · skip
          refine z_iloadn C 2 dX6_greatestNumber_25 rfl rfl ?_
          refine z_aloadn C 0 dX6_greatestNumber_26 rfl rfl ?_
          refine z_getY C yd1 rfl z_it6 0 (by decide) rfl fl_6_11 rfl dX6_greatestNumber_27 ?_
          refine z_iloadn C 3 dX6_greatestNumber_30 rfl rfl ?_
          refine z_aaldT C 4 wd1 rfl (by decide) (by omega) (by omega) eq3 dX6_greatestNumber_31 ?_
          refine z_getY C yq3 rfl z_it5 2 (by decide) rfl fl_6_48 rfl dX6_greatestNumber_32 ?_
          refine z_max C mm_6_51 (by omega) (by omega) (by omega) (by rw [hRl]; exact Nat.le_of_ble_eq_true rfl) (by omega) (by omega) dX6_greatestNumber_35 ?_
          obtain ⟨x6, ex6⟩ : ∃ z : Int, z = (if i2 < nq3 then nq3 else i2) := ⟨_, rfl⟩
          rw [← ex6]
          have rx6 : (x6 = i2 ∨ x6 = nq3) ∧ i2 ≤ x6 ∧ nq3 ≤ x6 := by split at ex6 <;> omega
          refine z_istoren (L' := [(2, z_v x6), (0, .ref q), (1, z_v x), (3, z_v i3)]) C dX6_greatestNumber_38 rfl (by decide) rfl ?_
          refine z_iinc (L' := [(3, z_v (i3 + 1)), (2, z_v x6), (0, .ref q), (1, z_v x)]) C 3 dX6_greatestNumber_39 rfl (by decide) rfl ?_
          refine z_goto (t := 4) C dX6_greatestNumber_42 (by decide) ?_
          refine z_loc (L' := [(0, .ref q), (1, z_v x), (2, z_v x6), (3, z_v (i3 + 1))]) [2, 3, 1, 0] rfl ?_
          exact ih4 x6 (i3 + 1) (by omega) (by subst_vars; first | exact z_mx_no MX (by omega) (fun h => by omega) | exact z_mx_mx MX (by omega) rfl rfl (by omega)) (by omega) (by omega) (by omega)
  refine z_loc (L' := [(0, .ref q), (1, z_v x), (2, z_v 0), (3, z_v 0)]) [2, 3, 1, 0] rfl ?_
  exact (L4 (((2 : Int) - 0).toNat + 1)) 0 0 (by omega) (z_isMax.emp (fun v h => h.elim id z_tn_0)) (by omega) (by omega) (Nat.lt_succ_self _)
set_option maxRecDepth 20000 in
theorem cx_X2_greatestOf (l : Launch) {D : va_G} {A : Nat → Prop} {ad : Nat → Nat} {ks : z_Ks} {s_edgeCount s_moveCount s_isNeeded s_timesDone s_size s_isGoing s_allTime s_stepCount s_gapCount : Int} {g_edges g_moves g_limits : Nat → Option Nat} {a_sfacts a_sbounds a_facts a_zone a_most a_places a_amounts a_nextPlaces a_nextAmounts a_earliest a_visited a_lastSet a_gapFrom a_gapTo a_gapLeast a_askedPlaces a_askedAmounts : Nat → Int} {Y : Nat → Option va_E} {em ef et ec er gn gt ln lt : Nat → Int} {qe ql qt : Nat → Nat} (x : Int) (Hs_edgeCount : (0 ≤ s_edgeCount ∧ s_edgeCount ≤ 20)) (hx : z_rg x) (HN : z_N ks Y g_edges g_limits s_edgeCount em ef et ec er gn gt ln lt qe ql qt) : z_Met l yX2_greatestOf cX2_greatestOf 4 (some .int) 2 44 0 0 D A 27 ad ks [.ref (ad 1), z_v x] (z_zc ad ks s_edgeCount s_moveCount s_isNeeded s_timesDone s_size s_isGoing s_allTime s_stepCount s_gapCount g_edges g_moves g_limits a_sfacts a_sbounds a_facts a_zone a_most a_places a_amounts a_nextPlaces a_nextAmounts a_earliest a_visited a_lastSet a_gapFrom a_gapTo a_gapLeast a_askedPlaces a_askedAmounts) Y (fun r S' Y' => S' = (z_zc ad ks s_edgeCount s_moveCount s_isNeeded s_timesDone s_size s_isGoing s_allTime s_stepCount s_gapCount g_edges g_moves g_limits a_sfacts a_sbounds a_facts a_zone a_most a_places a_amounts a_nextPlaces a_nextAmounts a_earliest a_visited a_lastSet a_gapFrom a_gapTo a_gapLeast a_askedPlaces a_askedAmounts) ∧ Y = Y' ∧ ∃ z : Int, r = some (z_v z) ∧ (0 ≤ z ∧ z ≤ 1000 ∧ z_gr x s_edgeCount gn gt ln lt z)) := by
  refine z_start2 (by decide) (Nat.le_of_ble_eq_true rfl) ?_
  intro p e R s m args below meth c Q C hRf hRc hRs hRl hQ hrt hnm
  refine z_loc (L' := [(0, .ref (ad 1)), (1, z_v x)]) [0, 1] rfl ?_
  refine z_iconst C dX2_greatestOf_0 ?_
  refine z_istoren (L' := [(2, z_v 0), (0, .ref (ad 1)), (1, z_v x)]) C dX2_greatestOf_1 rfl (by decide) rfl ?_
  refine z_iconst C dX2_greatestOf_2 ?_
  refine z_istoren (L' := [(3, z_v 0), (2, z_v 0), (0, .ref (ad 1)), (1, z_v x)]) C dX2_greatestOf_3 rfl (by decide) rfl ?_
  have L4 : ∀ (n : Nat), ∀ (i2 : Int) (i3 : Int), (z_isMax (z_ge i3 gn gt x) i2) → (0 ≤ i3 ∧ i3 ≤ s_edgeCount) → (0 ≤ i2 ∧ i2 ≤ 1000) → ((s_edgeCount : Int) - i3).toNat < n → z_V p l e R s m args below meth c Q D A 27 ad 4 (z_zc ad ks s_edgeCount s_moveCount s_isNeeded s_timesDone s_size s_isGoing s_allTime s_stepCount s_gapCount g_edges g_moves g_limits a_sfacts a_sbounds a_facts a_zone a_most a_places a_amounts a_nextPlaces a_nextAmounts a_earliest a_visited a_lastSet a_gapFrom a_gapTo a_gapLeast a_askedPlaces a_askedAmounts) Y 0 0 4 [(0, .ref (ad 1)), (1, z_v x), (2, z_v i2), (3, z_v i3)] [] := by
    intro n
    induction n with
    | zero => intro i2 i3 MX I3 I2 hm; exact absurd hm (Nat.not_lt_zero _)
    | succ n ih4 =>
      intro i2 i3 MX I3 I2 hm
      refine z_iloadn C 3 dX2_greatestOf_4 rfl rfl ?_
      refine z_aloadn C 0 dX2_greatestOf_5 rfl rfl ?_
      refine z_get C 1 (by decide) rfl rfl z_it2 1 (by decide) rfl fl_2_30 rfl dX2_greatestOf_6 ?_
      refine z_icmp_ge (t := 36) C dX2_greatestOf_9 (by decide) (by omega) (by omega) (fun c1 => ?_) (fun c1 => ?_)
      · skip
        refine z_iconst C dX2_greatestOf_36 ?_
        refine z_istoren (L' := [(3, z_v 0), (0, .ref (ad 1)), (1, z_v x), (2, z_v i2)]) C dX2_greatestOf_37 rfl (by decide) rfl ?_
        have L38 : ∀ (n : Nat), ∀ (i2 : Int) (i3 : Int), (z_isMax (fun v => z_ge s_edgeCount gn gt x v ∨ z_ge i3 ln lt x v) i2) → (0 ≤ i3 ∧ i3 ≤ 18) → (0 ≤ i2 ∧ i2 ≤ 1000) → ((18 : Int) - i3).toNat < n → z_V p l e R s m args below meth c Q D A 27 ad 4 (z_zc ad ks s_edgeCount s_moveCount s_isNeeded s_timesDone s_size s_isGoing s_allTime s_stepCount s_gapCount g_edges g_moves g_limits a_sfacts a_sbounds a_facts a_zone a_most a_places a_amounts a_nextPlaces a_nextAmounts a_earliest a_visited a_lastSet a_gapFrom a_gapTo a_gapLeast a_askedPlaces a_askedAmounts) Y 0 0 38 [(0, .ref (ad 1)), (1, z_v x), (2, z_v i2), (3, z_v i3)] [] := by
          intro n
          induction n with
          | zero => intro i2 i3 MX I3 I2 hm; exact absurd hm (Nat.not_lt_zero _)
          | succ n ih38 =>
            intro i2 i3 MX I3 I2 hm
            refine z_iloadn C 3 dX2_greatestOf_38 rfl rfl ?_
            refine z_bipush C dX2_greatestOf_39 (by decide) ?_
            refine z_icmp_ge (t := 65) C dX2_greatestOf_41 (by decide) (by omega) (by omega) (fun c2 => ?_) (fun c2 => ?_)
            · skip
              refine z_iloadn C 2 dX2_greatestOf_65 rfl rfl ?_
              rw [hQ]
              exact z_iret C hrt dX2_greatestOf_66 (⟨rfl, rfl, _, rfl, ⟨by omega, by omega, z_mx_f MX (by omega)⟩⟩) (by omega) (by omega)
            · skip
              refine z_iloadn C 2 dX2_greatestOf_44 rfl rfl ?_
              refine z_aloadn C 0 dX2_greatestOf_45 rfl rfl ?_
              refine z_get C 1 (by decide) rfl rfl z_it2 4 (by decide) rfl fl_2_25 rfl dX2_greatestOf_46 ?_
              refine z_iloadn C 3 dX2_greatestOf_49 rfl rfl ?_
              obtain ⟨eq3, tq3⟩ := HN.2.1 i3 (by omega) (by omega)
              refine z_aaldS C 4 3 (by decide) rfl rfl (by decide) (by omega) (by omega) eq3 dX2_greatestOf_50 ?_
              refine z_iloadn C 1 dX2_greatestOf_51 rfl rfl ?_
              obtain ⟨yd4, ad4, gd4, wd4, bd4⟩ := id tq3
              refine z_callV C (cx_X6_greatestNumber l x (ql (20 + (i3 : Int).toNat)) tq3 (by omega)) mv_2_80 (z_atY 6 yd4 rfl rfl) pd_X6_greatestNumber ⟨by omega, by omega⟩ ⟨by omega, by omega⟩ rfl (Nat.le_of_ble_eq_true rfl) dX2_greatestOf_52 ?_
              rintro _ _ _ ⟨rfl, rfl, z7, rfl, hz7⟩
              have hgn := hz7.2.2
              refine z_max C mm_2_84 (by omega) (by omega) (by omega) (by rw [hRl]; exact Nat.le_of_ble_eq_true rfl) (by omega) (by omega) dX2_greatestOf_55 ?_
              obtain ⟨x8, ex8⟩ : ∃ z : Int, z = (if i2 < z7 then z7 else i2) := ⟨_, rfl⟩
              rw [← ex8]
              have rx8 : (x8 = i2 ∨ x8 = z7) ∧ i2 ≤ x8 ∧ z7 ≤ x8 := by split at ex8 <;> omega
              refine z_istoren (L' := [(2, z_v x8), (0, .ref (ad 1)), (1, z_v x), (3, z_v i3)]) C dX2_greatestOf_58 rfl (by decide) rfl ?_
              refine z_iinc (L' := [(3, z_v (i3 + 1)), (2, z_v x8), (0, .ref (ad 1)), (1, z_v x)]) C 3 dX2_greatestOf_59 rfl (by decide) rfl ?_
              refine z_goto (t := 38) C dX2_greatestOf_62 (by decide) ?_
              refine z_loc (L' := [(0, .ref (ad 1)), (1, z_v x), (2, z_v x8), (3, z_v (i3 + 1))]) [2, 3, 1, 0] rfl ?_
              exact ih38 x8 (i3 + 1) ((z_isMax.or MX hgn (by omega)).iff (fun v => by rw [z_ge_succ (by omega), or_assoc])) (by omega) (by omega) (by omega)
        refine z_loc (L' := [(0, .ref (ad 1)), (1, z_v x), (2, z_v i2), (3, z_v 0)]) [1, 2, 3, 0] rfl ?_
        exact (L38 (((18 : Int) - 0).toNat + 1)) i2 0 (z_mx_g MX (by omega)) (by omega) (by omega) (Nat.lt_succ_self _)
      · skip
        refine z_iloadn C 2 dX2_greatestOf_12 rfl rfl ?_
        refine z_aloadn C 0 dX2_greatestOf_13 rfl rfl ?_
        refine z_get C 1 (by decide) rfl rfl z_it2 0 (by decide) rfl fl_2_11 rfl dX2_greatestOf_14 ?_
        refine z_iloadn C 3 dX2_greatestOf_17 rfl rfl ?_
        obtain ⟨eq9, yq9, rq9, tq9⟩ := HN.1 i3 (by omega) (by omega)
        refine z_aaldS C 2 1 (by decide) rfl rfl (by decide) (by omega) (by omega) eq9 dX2_greatestOf_18 ?_
        refine z_getY C yq9 rfl z_it0 5 (by decide) rfl fl_2_76 rfl dX2_greatestOf_19 ?_
        refine z_iloadn C 1 dX2_greatestOf_22 rfl rfl ?_
        obtain ⟨yd10, ad10, gd10, wd10, bd10⟩ := id tq9
        refine z_callV C (cx_X6_greatestNumber l x (ql (i3 : Int).toNat) tq9 (by omega)) mv_2_80 (z_atY 6 yd10 rfl rfl) pd_X6_greatestNumber ⟨by omega, by omega⟩ ⟨by omega, by omega⟩ rfl (Nat.le_of_ble_eq_true rfl) dX2_greatestOf_23 ?_
        rintro _ _ _ ⟨rfl, rfl, z13, rfl, hz13⟩
        have hgn := hz13.2.2
        refine z_max C mm_2_84 (by omega) (by omega) (by omega) (by rw [hRl]; exact Nat.le_of_ble_eq_true rfl) (by omega) (by omega) dX2_greatestOf_26 ?_
        obtain ⟨x14, ex14⟩ : ∃ z : Int, z = (if i2 < z13 then z13 else i2) := ⟨_, rfl⟩
        rw [← ex14]
        have rx14 : (x14 = i2 ∨ x14 = z13) ∧ i2 ≤ x14 ∧ z13 ≤ x14 := by split at ex14 <;> omega
        refine z_istoren (L' := [(2, z_v x14), (0, .ref (ad 1)), (1, z_v x), (3, z_v i3)]) C dX2_greatestOf_29 rfl (by decide) rfl ?_
        refine z_iinc (L' := [(3, z_v (i3 + 1)), (2, z_v x14), (0, .ref (ad 1)), (1, z_v x)]) C 3 dX2_greatestOf_30 rfl (by decide) rfl ?_
        refine z_goto (t := 4) C dX2_greatestOf_33 (by decide) ?_
        refine z_loc (L' := [(0, .ref (ad 1)), (1, z_v x), (2, z_v x14), (3, z_v (i3 + 1))]) [2, 3, 1, 0] rfl ?_
        exact ih4 x14 (i3 + 1) (by first | exact (z_isMax.or MX hgn (by omega)).iff (fun v => (z_ge_succ (by omega)).symm)) (by omega) (by omega) (by omega)
  refine z_loc (L' := [(0, .ref (ad 1)), (1, z_v x), (2, z_v 0), (3, z_v 0)]) [2, 3, 1, 0] rfl ?_
  exact (L4 (((s_edgeCount : Int) - 0).toNat + 1)) 0 0 (z_isMax.emp (fun v => z_ge_0)) (by omega) (by omega) (Nat.lt_succ_self _)
set_option maxRecDepth 20000 in
theorem cx_X10_greatest (l : Launch) {D : va_G} {A : Nat → Prop} {ad : Nat → Nat} {ks : z_Ks} {s_edgeCount s_moveCount s_isNeeded s_timesDone s_size s_isGoing s_allTime s_stepCount s_gapCount : Int} {g_edges g_moves g_limits : Nat → Option Nat} {a_sfacts a_sbounds a_facts a_zone a_most a_places a_amounts a_nextPlaces a_nextAmounts a_earliest a_visited a_lastSet a_gapFrom a_gapTo a_gapLeast a_askedPlaces a_askedAmounts : Nat → Int} {Y : Nat → Option va_E} {em ef et ec er gn gt ln lt : Nat → Int} {qe ql qt : Nat → Nat} (x : Int) (Hs_edgeCount : (0 ≤ s_edgeCount ∧ s_edgeCount ≤ 20)) (hx : z_rg x) (HN : z_N ks Y g_edges g_limits s_edgeCount em ef et ec er gn gt ln lt qe ql qt) : z_Met l yX10_greatest cX10_greatest 2 (some .int) 3 67 0 0 D A 27 ad ks [.ref (ad 0), z_v x] (z_zc ad ks s_edgeCount s_moveCount s_isNeeded s_timesDone s_size s_isGoing s_allTime s_stepCount s_gapCount g_edges g_moves g_limits a_sfacts a_sbounds a_facts a_zone a_most a_places a_amounts a_nextPlaces a_nextAmounts a_earliest a_visited a_lastSet a_gapFrom a_gapTo a_gapLeast a_askedPlaces a_askedAmounts) Y (fun r S' Y' => S' = (z_zc ad ks s_edgeCount s_moveCount s_isNeeded s_timesDone s_size s_isGoing s_allTime s_stepCount s_gapCount g_edges g_moves g_limits a_sfacts a_sbounds a_facts a_zone a_most a_places a_amounts a_nextPlaces a_nextAmounts a_earliest a_visited a_lastSet a_gapFrom a_gapTo a_gapLeast a_askedPlaces a_askedAmounts) ∧ Y = Y' ∧ ∃ z : Int, r = some (z_v z) ∧ ((1 ≤ x ∧ x ≤ 3) ∧ z_gr x s_edgeCount gn gt ln lt z ∨ ¬ (1 ≤ x ∧ x ≤ 3) ∧ z = -101)) := by
  refine z_start2 (by decide) (Nat.le_of_ble_eq_true rfl) ?_
  intro p e R s m args below meth c Q C hRf hRc hRs hRl hQ hrt hnm
  refine z_loc (L' := [(0, .ref (ad 0)), (1, z_v x)]) [0, 1] rfl ?_
  refine z_iloadn C 1 dX10_greatest_0 rfl rfl ?_
  refine z_callS C (cm_X10_isClock l x (by omega)) mv_10_70 pd_X10_isClock ⟨by omega, by omega⟩ ⟨by omega, by omega⟩ rfl (Nat.le_of_ble_eq_true rfl) dX10_greatest_1 ?_
  rintro _ _ _ ⟨rfl, rfl, z3, rfl, hz3⟩
  refine z_if_eq (t := 18) C dX10_greatest_4 (by decide) (by omega) (fun c4 => ?_) (fun c4 => ?_)
  · skip
    refine z_bipush C dX10_greatest_18 (by decide) ?_
    rw [hQ]
    exact z_iret C hrt dX10_greatest_20 (⟨rfl, rfl, _, rfl, by first | exact Or.inl ⟨by omega, hgr⟩ | exact Or.inr ⟨by omega, rfl⟩⟩) (by omega) (by omega)
  · skip
    refine z_aloadn C 0 dX10_greatest_7 rfl rfl ?_
    refine z_get C 0 (by decide) rfl rfl z_it10 0 (by decide) rfl fl_10_12 rfl dX10_greatest_8 ?_
    refine z_iloadn C 1 dX10_greatest_11 rfl rfl ?_
    refine z_callV C (cx_X2_greatestOf l x (by omega) (by omega) HN) mv_10_156 (z_atS 1 2 (by decide) rfl rfl rfl) pd_X2_greatestOf ⟨by omega, by omega⟩ ⟨by omega, by omega⟩ rfl (Nat.le_of_ble_eq_true rfl) dX10_greatest_12 ?_
    rintro _ _ _ ⟨rfl, rfl, z7, rfl, hz7⟩
    have hgr := hz7.2.2
    refine z_goto (t := 20) C dX10_greatest_15 (by decide) ?_
    rw [hQ]
    exact z_iret C hrt dX10_greatest_20 (⟨rfl, rfl, _, rfl, by first | exact Or.inl ⟨by omega, hgr⟩ | exact Or.inr ⟨by omega, rfl⟩⟩) (by omega) (by omega)
set_option maxRecDepth 20000 in
theorem cx_X2_limitsAllow_14_15 (l : Launch) {D : va_G} {A : Nat → Prop} {ad : Nat → Nat} {ks : z_Ks} {s_edgeCount s_moveCount s_isNeeded s_timesDone s_size s_isGoing s_allTime s_stepCount s_gapCount : Int} {g_edges g_moves g_limits : Nat → Option Nat} {a_sfacts a_sbounds a_facts a_zone a_most a_places a_amounts a_nextPlaces a_nextAmounts a_earliest a_visited a_lastSet a_gapFrom a_gapTo a_gapLeast a_askedPlaces a_askedAmounts : Nat → Int} {Y : Nat → Option va_E} {em ef et ec er gn gt ln lt : Nat → Int} {qe ql qt : Nat → Nat} (Ha_places : (∀ j, 0 ≤ a_places j ∧ a_places j ≤ 5)) (Ha_amounts : (∀ j, 0 ≤ a_amounts j ∧ a_amounts j ≤ 1000000)) (HN : z_N ks Y g_edges g_limits s_edgeCount em ef et ec er gn gt ln lt qe ql qt) : z_Met l yX2_limitsAllow cX2_limitsAllow 4 (some .boolean) 3 63 0 0 D A 27 ad ks [.ref (ad 1), .ref (ad 14), .ref (ad 15)] (z_zc ad ks s_edgeCount s_moveCount s_isNeeded s_timesDone s_size s_isGoing s_allTime s_stepCount s_gapCount g_edges g_moves g_limits a_sfacts a_sbounds a_facts a_zone a_most a_places a_amounts a_nextPlaces a_nextAmounts a_earliest a_visited a_lastSet a_gapFrom a_gapTo a_gapLeast a_askedPlaces a_askedAmounts) Y (fun r S' Y' => S' = (z_zc ad ks s_edgeCount s_moveCount s_isNeeded s_timesDone s_size s_isGoing s_allTime s_stepCount s_gapCount g_edges g_moves g_limits a_sfacts a_sbounds a_facts a_zone a_most a_places a_amounts a_nextPlaces a_nextAmounts a_earliest a_visited a_lastSet a_gapFrom a_gapTo a_gapLeast a_askedPlaces a_askedAmounts) ∧ Y = Y' ∧ ∃ z : Int, r = some (z_v z) ∧ (z = 1 ∧ (z_lim ln lt a_places a_amounts) ∨ z = 0 ∧ ¬ (z_lim ln lt a_places a_amounts))) := by
  refine z_start2 (by decide) (Nat.le_of_ble_eq_true rfl) ?_
  intro p e R s m args below meth c Q C hRf hRc hRs hRl hQ hrt hnm
  refine z_loc (L' := [(0, .ref (ad 1)), (1, .ref (ad 14)), (2, .ref (ad 15))]) [0, 1, 2] rfl ?_
  refine z_iconst C dX2_limitsAllow_0 ?_
  refine z_istoren (L' := [(3, z_v 0), (0, .ref (ad 1)), (1, .ref (ad 14)), (2, .ref (ad 15))]) C dX2_limitsAllow_1 rfl (by decide) rfl ?_
  have L2 : ∀ (n : Nat), ∀ (i3 : Int), (∀ m : Int, 0 ≤ m → m < i3 → z_alw (ln (6 * m + a_places m.toNat).toNat) lt (6 * (6 * m + a_places m.toNat)) a_amounts) → (0 ≤ i3 ∧ i3 ≤ 3) → ((3 : Int) - i3).toNat < n → z_V p l e R s m args below meth c Q D A 27 ad 4 (z_zc ad ks s_edgeCount s_moveCount s_isNeeded s_timesDone s_size s_isGoing s_allTime s_stepCount s_gapCount g_edges g_moves g_limits a_sfacts a_sbounds a_facts a_zone a_most a_places a_amounts a_nextPlaces a_nextAmounts a_earliest a_visited a_lastSet a_gapFrom a_gapTo a_gapLeast a_askedPlaces a_askedAmounts) Y 0 0 2 [(0, .ref (ad 1)), (1, .ref (ad 14)), (2, .ref (ad 15)), (3, z_v i3)] [] := by
    intro n
    induction n with
    | zero => intro i3 FM I3 hm; exact absurd hm (Nat.not_lt_zero _)
    | succ n ih2 =>
      intro i3 FM I3 hm
      refine z_iloadn C 3 dX2_limitsAllow_2 rfl rfl ?_
      refine z_iconst C dX2_limitsAllow_3 ?_
      refine z_icmp_ge (t := 30) C dX2_limitsAllow_4 (by decide) (by omega) (by omega) (fun c1 => ?_) (fun c1 => ?_)
      · skip
        refine z_iconst C dX2_limitsAllow_30 ?_
        rw [hQ]
        exact z_zret C hrt (by omega) dX2_limitsAllow_31 (⟨rfl, rfl, _, rfl, Or.inl ⟨rfl, fun m h0 h1 => FM m h0 (by omega)⟩⟩) (by omega) (by omega)
      · skip
        refine z_aloadn C 0 dX2_limitsAllow_7 rfl rfl ?_
        refine z_iloadn C 3 dX2_limitsAllow_8 rfl rfl ?_
        refine z_aloadn C 1 dX2_limitsAllow_9 rfl rfl ?_
        refine z_iloadn C 3 dX2_limitsAllow_10 rfl rfl ?_
        refine z_iald C 14 (by decide) rfl (by decide) (by omega) (by omega) dX2_limitsAllow_11 ?_
        have rx2 := Ha_places (i3 : Int).toNat
        generalize ex2 : a_places (i3 : Int).toNat = x2 at rx2 ⊢
        refine z_callV C (cx_X2_limitsOf l i3 x2 (by omega) (by omega) HN) mv_2_64 (z_atS 1 2 (by decide) rfl rfl rfl) pd_X2_limitsOf ⟨by omega, by omega⟩ ⟨by omega, by omega⟩ rfl (Nat.le_of_ble_eq_true rfl) dX2_limitsAllow_12 ?_
        rintro _ _ _ ⟨rfl, rfl, rfl⟩
        have t3 := (HN.2.1 (6 * i3 + x2) (by omega) (by omega)).2
        refine z_aloadn C 2 dX2_limitsAllow_15 rfl rfl ?_
        obtain ⟨yd4, ad4, gd4, wd4, bd4⟩ := id t3
        refine z_callV C (cx_X6_allow_15 l (ql (20 + (6 * i3 + x2 : Int).toNat)) Ha_amounts t3) mv_2_68 (z_atY 6 yd4 rfl rfl) pd_X6_allow ⟨by omega, by omega⟩ ⟨by omega, by omega⟩ rfl (Nat.le_of_ble_eq_true rfl) dX2_limitsAllow_16 ?_
        rintro _ _ _ ⟨rfl, rfl, z7, rfl, hz7⟩
        have hal := hz7
        refine z_if_ne (t := 24) C dX2_limitsAllow_19 (by decide) (by omega) (fun c8 => ?_) (fun c8 => ?_)
        · skip
          refine z_iinc (L' := [(3, z_v (i3 + 1)), (0, .ref (ad 1)), (1, .ref (ad 14)), (2, .ref (ad 15))]) C 3 dX2_limitsAllow_24 rfl (by decide) rfl ?_
          refine z_goto (t := 2) C dX2_limitsAllow_27 (by decide) ?_
          refine z_loc (L' := [(0, .ref (ad 1)), (1, .ref (ad 14)), (2, .ref (ad 15)), (3, z_v (i3 + 1))]) [1, 2, 3, 0] rfl ?_
          exact ih2 (i3 + 1) (by subst_vars; exact z_snoc FM (z_isz1 hal (by omega))) (by omega) (by omega)
        · skip
          refine z_iconst C dX2_limitsAllow_22 ?_
          rw [hQ]
          exact z_zret C hrt (by omega) dX2_limitsAllow_23 (⟨rfl, rfl, _, rfl, by subst_vars; exact Or.inr ⟨rfl, fun h => z_isz0 hal (by omega) (h i3 (by omega) (by omega))⟩⟩) (by omega) (by omega)
  refine z_loc (L' := [(0, .ref (ad 1)), (1, .ref (ad 14)), (2, .ref (ad 15)), (3, z_v 0)]) [1, 2, 3, 0] rfl ?_
  exact (L2 (((3 : Int) - 0).toNat + 1)) 0 (z_vac) (by omega) (Nat.lt_succ_self _)
set_option maxRecDepth 20000 in
theorem cx_X2_limitsAllow_14_17 (l : Launch) {D : va_G} {A : Nat → Prop} {ad : Nat → Nat} {ks : z_Ks} {s_edgeCount s_moveCount s_isNeeded s_timesDone s_size s_isGoing s_allTime s_stepCount s_gapCount : Int} {g_edges g_moves g_limits : Nat → Option Nat} {a_sfacts a_sbounds a_facts a_zone a_most a_places a_amounts a_nextPlaces a_nextAmounts a_earliest a_visited a_lastSet a_gapFrom a_gapTo a_gapLeast a_askedPlaces a_askedAmounts : Nat → Int} {Y : Nat → Option va_E} {em ef et ec er gn gt ln lt : Nat → Int} {qe ql qt : Nat → Nat} (Ha_places : (∀ j, 0 ≤ a_places j ∧ a_places j ≤ 5)) (Ha_nextAmounts : (∀ j, 0 ≤ a_nextAmounts j ∧ a_nextAmounts j ≤ 1064000)) (HN : z_N ks Y g_edges g_limits s_edgeCount em ef et ec er gn gt ln lt qe ql qt) : z_Met l yX2_limitsAllow cX2_limitsAllow 4 (some .boolean) 3 63 0 0 D A 27 ad ks [.ref (ad 1), .ref (ad 14), .ref (ad 17)] (z_zc ad ks s_edgeCount s_moveCount s_isNeeded s_timesDone s_size s_isGoing s_allTime s_stepCount s_gapCount g_edges g_moves g_limits a_sfacts a_sbounds a_facts a_zone a_most a_places a_amounts a_nextPlaces a_nextAmounts a_earliest a_visited a_lastSet a_gapFrom a_gapTo a_gapLeast a_askedPlaces a_askedAmounts) Y (fun r S' Y' => S' = (z_zc ad ks s_edgeCount s_moveCount s_isNeeded s_timesDone s_size s_isGoing s_allTime s_stepCount s_gapCount g_edges g_moves g_limits a_sfacts a_sbounds a_facts a_zone a_most a_places a_amounts a_nextPlaces a_nextAmounts a_earliest a_visited a_lastSet a_gapFrom a_gapTo a_gapLeast a_askedPlaces a_askedAmounts) ∧ Y = Y' ∧ ∃ z : Int, r = some (z_v z) ∧ (z = 1 ∧ (z_lim ln lt a_places a_nextAmounts) ∨ z = 0 ∧ ¬ (z_lim ln lt a_places a_nextAmounts))) := by
  refine z_start2 (by decide) (Nat.le_of_ble_eq_true rfl) ?_
  intro p e R s m args below meth c Q C hRf hRc hRs hRl hQ hrt hnm
  refine z_loc (L' := [(0, .ref (ad 1)), (1, .ref (ad 14)), (2, .ref (ad 17))]) [0, 1, 2] rfl ?_
  refine z_iconst C dX2_limitsAllow_0 ?_
  refine z_istoren (L' := [(3, z_v 0), (0, .ref (ad 1)), (1, .ref (ad 14)), (2, .ref (ad 17))]) C dX2_limitsAllow_1 rfl (by decide) rfl ?_
  have L2 : ∀ (n : Nat), ∀ (i3 : Int), (∀ m : Int, 0 ≤ m → m < i3 → z_alw (ln (6 * m + a_places m.toNat).toNat) lt (6 * (6 * m + a_places m.toNat)) a_nextAmounts) → (0 ≤ i3 ∧ i3 ≤ 3) → ((3 : Int) - i3).toNat < n → z_V p l e R s m args below meth c Q D A 27 ad 4 (z_zc ad ks s_edgeCount s_moveCount s_isNeeded s_timesDone s_size s_isGoing s_allTime s_stepCount s_gapCount g_edges g_moves g_limits a_sfacts a_sbounds a_facts a_zone a_most a_places a_amounts a_nextPlaces a_nextAmounts a_earliest a_visited a_lastSet a_gapFrom a_gapTo a_gapLeast a_askedPlaces a_askedAmounts) Y 0 0 2 [(0, .ref (ad 1)), (1, .ref (ad 14)), (2, .ref (ad 17)), (3, z_v i3)] [] := by
    intro n
    induction n with
    | zero => intro i3 FM I3 hm; exact absurd hm (Nat.not_lt_zero _)
    | succ n ih2 =>
      intro i3 FM I3 hm
      refine z_iloadn C 3 dX2_limitsAllow_2 rfl rfl ?_
      refine z_iconst C dX2_limitsAllow_3 ?_
      refine z_icmp_ge (t := 30) C dX2_limitsAllow_4 (by decide) (by omega) (by omega) (fun c1 => ?_) (fun c1 => ?_)
      · skip
        refine z_iconst C dX2_limitsAllow_30 ?_
        rw [hQ]
        exact z_zret C hrt (by omega) dX2_limitsAllow_31 (⟨rfl, rfl, _, rfl, Or.inl ⟨rfl, fun m h0 h1 => FM m h0 (by omega)⟩⟩) (by omega) (by omega)
      · skip
        refine z_aloadn C 0 dX2_limitsAllow_7 rfl rfl ?_
        refine z_iloadn C 3 dX2_limitsAllow_8 rfl rfl ?_
        refine z_aloadn C 1 dX2_limitsAllow_9 rfl rfl ?_
        refine z_iloadn C 3 dX2_limitsAllow_10 rfl rfl ?_
        refine z_iald C 14 (by decide) rfl (by decide) (by omega) (by omega) dX2_limitsAllow_11 ?_
        have rx2 := Ha_places (i3 : Int).toNat
        generalize ex2 : a_places (i3 : Int).toNat = x2 at rx2 ⊢
        refine z_callV C (cx_X2_limitsOf l i3 x2 (by omega) (by omega) HN) mv_2_64 (z_atS 1 2 (by decide) rfl rfl rfl) pd_X2_limitsOf ⟨by omega, by omega⟩ ⟨by omega, by omega⟩ rfl (Nat.le_of_ble_eq_true rfl) dX2_limitsAllow_12 ?_
        rintro _ _ _ ⟨rfl, rfl, rfl⟩
        have t3 := (HN.2.1 (6 * i3 + x2) (by omega) (by omega)).2
        refine z_aloadn C 2 dX2_limitsAllow_15 rfl rfl ?_
        obtain ⟨yd4, ad4, gd4, wd4, bd4⟩ := id t3
        refine z_callV C (cx_X6_allow_17 l (ql (20 + (6 * i3 + x2 : Int).toNat)) Ha_nextAmounts t3) mv_2_68 (z_atY 6 yd4 rfl rfl) pd_X6_allow ⟨by omega, by omega⟩ ⟨by omega, by omega⟩ rfl (Nat.le_of_ble_eq_true rfl) dX2_limitsAllow_16 ?_
        rintro _ _ _ ⟨rfl, rfl, z7, rfl, hz7⟩
        have hal := hz7
        refine z_if_ne (t := 24) C dX2_limitsAllow_19 (by decide) (by omega) (fun c8 => ?_) (fun c8 => ?_)
        · skip
          refine z_iinc (L' := [(3, z_v (i3 + 1)), (0, .ref (ad 1)), (1, .ref (ad 14)), (2, .ref (ad 17))]) C 3 dX2_limitsAllow_24 rfl (by decide) rfl ?_
          refine z_goto (t := 2) C dX2_limitsAllow_27 (by decide) ?_
          refine z_loc (L' := [(0, .ref (ad 1)), (1, .ref (ad 14)), (2, .ref (ad 17)), (3, z_v (i3 + 1))]) [1, 2, 3, 0] rfl ?_
          exact ih2 (i3 + 1) (by subst_vars; exact z_snoc FM (z_isz1 hal (by omega))) (by omega) (by omega)
        · skip
          refine z_iconst C dX2_limitsAllow_22 ?_
          rw [hQ]
          exact z_zret C hrt (by omega) dX2_limitsAllow_23 (⟨rfl, rfl, _, rfl, by subst_vars; exact Or.inr ⟨rfl, fun h => z_isz0 hal (by omega) (h i3 (by omega) (by omega))⟩⟩) (by omega) (by omega)
  refine z_loc (L' := [(0, .ref (ad 1)), (1, .ref (ad 14)), (2, .ref (ad 17)), (3, z_v 0)]) [1, 2, 3, 0] rfl ?_
  exact (L2 (((3 : Int) - 0).toNat + 1)) 0 (z_vac) (by omega) (Nat.lt_succ_self _)
set_option maxRecDepth 20000 in
theorem cx_X2_limitsAllow_16_17 (l : Launch) {D : va_G} {A : Nat → Prop} {ad : Nat → Nat} {ks : z_Ks} {s_edgeCount s_moveCount s_isNeeded s_timesDone s_size s_isGoing s_allTime s_stepCount s_gapCount : Int} {g_edges g_moves g_limits : Nat → Option Nat} {a_sfacts a_sbounds a_facts a_zone a_most a_places a_amounts a_nextPlaces a_nextAmounts a_earliest a_visited a_lastSet a_gapFrom a_gapTo a_gapLeast a_askedPlaces a_askedAmounts : Nat → Int} {Y : Nat → Option va_E} {em ef et ec er gn gt ln lt : Nat → Int} {qe ql qt : Nat → Nat} (Ha_nextPlaces : (∀ j, 0 ≤ a_nextPlaces j ∧ a_nextPlaces j ≤ 5)) (Ha_nextAmounts : (∀ j, 0 ≤ a_nextAmounts j ∧ a_nextAmounts j ≤ 1064000)) (HN : z_N ks Y g_edges g_limits s_edgeCount em ef et ec er gn gt ln lt qe ql qt) : z_Met l yX2_limitsAllow cX2_limitsAllow 4 (some .boolean) 3 63 0 0 D A 27 ad ks [.ref (ad 1), .ref (ad 16), .ref (ad 17)] (z_zc ad ks s_edgeCount s_moveCount s_isNeeded s_timesDone s_size s_isGoing s_allTime s_stepCount s_gapCount g_edges g_moves g_limits a_sfacts a_sbounds a_facts a_zone a_most a_places a_amounts a_nextPlaces a_nextAmounts a_earliest a_visited a_lastSet a_gapFrom a_gapTo a_gapLeast a_askedPlaces a_askedAmounts) Y (fun r S' Y' => S' = (z_zc ad ks s_edgeCount s_moveCount s_isNeeded s_timesDone s_size s_isGoing s_allTime s_stepCount s_gapCount g_edges g_moves g_limits a_sfacts a_sbounds a_facts a_zone a_most a_places a_amounts a_nextPlaces a_nextAmounts a_earliest a_visited a_lastSet a_gapFrom a_gapTo a_gapLeast a_askedPlaces a_askedAmounts) ∧ Y = Y' ∧ ∃ z : Int, r = some (z_v z) ∧ (z = 1 ∧ (z_lim ln lt a_nextPlaces a_nextAmounts) ∨ z = 0 ∧ ¬ (z_lim ln lt a_nextPlaces a_nextAmounts))) := by
  refine z_start2 (by decide) (Nat.le_of_ble_eq_true rfl) ?_
  intro p e R s m args below meth c Q C hRf hRc hRs hRl hQ hrt hnm
  refine z_loc (L' := [(0, .ref (ad 1)), (1, .ref (ad 16)), (2, .ref (ad 17))]) [0, 1, 2] rfl ?_
  refine z_iconst C dX2_limitsAllow_0 ?_
  refine z_istoren (L' := [(3, z_v 0), (0, .ref (ad 1)), (1, .ref (ad 16)), (2, .ref (ad 17))]) C dX2_limitsAllow_1 rfl (by decide) rfl ?_
  have L2 : ∀ (n : Nat), ∀ (i3 : Int), (∀ m : Int, 0 ≤ m → m < i3 → z_alw (ln (6 * m + a_nextPlaces m.toNat).toNat) lt (6 * (6 * m + a_nextPlaces m.toNat)) a_nextAmounts) → (0 ≤ i3 ∧ i3 ≤ 3) → ((3 : Int) - i3).toNat < n → z_V p l e R s m args below meth c Q D A 27 ad 4 (z_zc ad ks s_edgeCount s_moveCount s_isNeeded s_timesDone s_size s_isGoing s_allTime s_stepCount s_gapCount g_edges g_moves g_limits a_sfacts a_sbounds a_facts a_zone a_most a_places a_amounts a_nextPlaces a_nextAmounts a_earliest a_visited a_lastSet a_gapFrom a_gapTo a_gapLeast a_askedPlaces a_askedAmounts) Y 0 0 2 [(0, .ref (ad 1)), (1, .ref (ad 16)), (2, .ref (ad 17)), (3, z_v i3)] [] := by
    intro n
    induction n with
    | zero => intro i3 FM I3 hm; exact absurd hm (Nat.not_lt_zero _)
    | succ n ih2 =>
      intro i3 FM I3 hm
      refine z_iloadn C 3 dX2_limitsAllow_2 rfl rfl ?_
      refine z_iconst C dX2_limitsAllow_3 ?_
      refine z_icmp_ge (t := 30) C dX2_limitsAllow_4 (by decide) (by omega) (by omega) (fun c1 => ?_) (fun c1 => ?_)
      · skip
        refine z_iconst C dX2_limitsAllow_30 ?_
        rw [hQ]
        exact z_zret C hrt (by omega) dX2_limitsAllow_31 (⟨rfl, rfl, _, rfl, Or.inl ⟨rfl, fun m h0 h1 => FM m h0 (by omega)⟩⟩) (by omega) (by omega)
      · skip
        refine z_aloadn C 0 dX2_limitsAllow_7 rfl rfl ?_
        refine z_iloadn C 3 dX2_limitsAllow_8 rfl rfl ?_
        refine z_aloadn C 1 dX2_limitsAllow_9 rfl rfl ?_
        refine z_iloadn C 3 dX2_limitsAllow_10 rfl rfl ?_
        refine z_iald C 16 (by decide) rfl (by decide) (by omega) (by omega) dX2_limitsAllow_11 ?_
        have rx2 := Ha_nextPlaces (i3 : Int).toNat
        generalize ex2 : a_nextPlaces (i3 : Int).toNat = x2 at rx2 ⊢
        refine z_callV C (cx_X2_limitsOf l i3 x2 (by omega) (by omega) HN) mv_2_64 (z_atS 1 2 (by decide) rfl rfl rfl) pd_X2_limitsOf ⟨by omega, by omega⟩ ⟨by omega, by omega⟩ rfl (Nat.le_of_ble_eq_true rfl) dX2_limitsAllow_12 ?_
        rintro _ _ _ ⟨rfl, rfl, rfl⟩
        have t3 := (HN.2.1 (6 * i3 + x2) (by omega) (by omega)).2
        refine z_aloadn C 2 dX2_limitsAllow_15 rfl rfl ?_
        obtain ⟨yd4, ad4, gd4, wd4, bd4⟩ := id t3
        refine z_callV C (cx_X6_allow_17 l (ql (20 + (6 * i3 + x2 : Int).toNat)) Ha_nextAmounts t3) mv_2_68 (z_atY 6 yd4 rfl rfl) pd_X6_allow ⟨by omega, by omega⟩ ⟨by omega, by omega⟩ rfl (Nat.le_of_ble_eq_true rfl) dX2_limitsAllow_16 ?_
        rintro _ _ _ ⟨rfl, rfl, z7, rfl, hz7⟩
        have hal := hz7
        refine z_if_ne (t := 24) C dX2_limitsAllow_19 (by decide) (by omega) (fun c8 => ?_) (fun c8 => ?_)
        · skip
          refine z_iinc (L' := [(3, z_v (i3 + 1)), (0, .ref (ad 1)), (1, .ref (ad 16)), (2, .ref (ad 17))]) C 3 dX2_limitsAllow_24 rfl (by decide) rfl ?_
          refine z_goto (t := 2) C dX2_limitsAllow_27 (by decide) ?_
          refine z_loc (L' := [(0, .ref (ad 1)), (1, .ref (ad 16)), (2, .ref (ad 17)), (3, z_v (i3 + 1))]) [1, 2, 3, 0] rfl ?_
          exact ih2 (i3 + 1) (by subst_vars; exact z_snoc FM (z_isz1 hal (by omega))) (by omega) (by omega)
        · skip
          refine z_iconst C dX2_limitsAllow_22 ?_
          rw [hQ]
          exact z_zret C hrt (by omega) dX2_limitsAllow_23 (⟨rfl, rfl, _, rfl, by subst_vars; exact Or.inr ⟨rfl, fun h => z_isz0 hal (by omega) (h i3 (by omega) (by omega))⟩⟩) (by omega) (by omega)
  refine z_loc (L' := [(0, .ref (ad 1)), (1, .ref (ad 16)), (2, .ref (ad 17)), (3, z_v 0)]) [1, 2, 3, 0] rfl ?_
  exact (L2 (((3 : Int) - 0).toNat + 1)) 0 (z_vac) (by omega) (Nat.lt_succ_self _)
set_option maxRecDepth 20000 in
theorem cx_X1_startsAt_14 (l : Launch) {D : va_G} {A : Nat → Prop} {ad : Nat → Nat} {ks : z_Ks} {s_edgeCount s_moveCount s_isNeeded s_timesDone s_size s_isGoing s_allTime s_stepCount s_gapCount : Int} {g_edges g_moves g_limits : Nat → Option Nat} {a_sfacts a_sbounds a_facts a_zone a_most a_places a_amounts a_nextPlaces a_nextAmounts a_earliest a_visited a_lastSet a_gapFrom a_gapTo a_gapLeast a_askedPlaces a_askedAmounts : Nat → Int} {Y : Nat → Option va_E} {em ef et ec er gn gt ln lt : Nat → Int} {qe ql qt : Nat → Nat} {f0 s0 : Int} (q : Nat) (Ha_places : (∀ j, 0 ≤ a_places j ∧ a_places j ≤ 5)) (Hs_edgeCount : 0 ≤ s_edgeCount ∧ s_edgeCount ≤ 20) (hq : z_MX Y q f0 s0 s_edgeCount qe er) (HN : z_N ks Y g_edges g_limits s_edgeCount em ef et ec er gn gt ln lt qe ql qt) : z_Met l yX1_startsAt cX1_startsAt 2 (some .boolean) 0 0 0 0 D A 27 ad ks [.ref q, .ref (ad 14)] (z_zc ad ks s_edgeCount s_moveCount s_isNeeded s_timesDone s_size s_isGoing s_allTime s_stepCount s_gapCount g_edges g_moves g_limits a_sfacts a_sbounds a_facts a_zone a_most a_places a_amounts a_nextPlaces a_nextAmounts a_earliest a_visited a_lastSet a_gapFrom a_gapTo a_gapLeast a_askedPlaces a_askedAmounts) Y (fun r S' Y' => S' = (z_zc ad ks s_edgeCount s_moveCount s_isNeeded s_timesDone s_size s_isGoing s_allTime s_stepCount s_gapCount g_edges g_moves g_limits a_sfacts a_sbounds a_facts a_zone a_most a_places a_amounts a_nextPlaces a_nextAmounts a_earliest a_visited a_lastSet a_gapFrom a_gapTo a_gapLeast a_askedPlaces a_askedAmounts) ∧ Y = Y' ∧ ∃ z : Int, r = some (z_v z) ∧ (z = 1 ∧ (a_places (em f0.toNat).toNat = ef f0.toNat ∧ (s0 = -1 ∨ s0 ≠ -1 ∧ a_places (em s0.toNat).toNat = ef s0.toNat)) ∨ z = 0 ∧ ¬ (a_places (em f0.toNat).toNat = ef f0.toNat ∧ (s0 = -1 ∨ s0 ≠ -1 ∧ a_places (em s0.toNat).toNat = ef s0.toNat)))) := by
  refine z_start2 (by decide) (Nat.le_of_ble_eq_true rfl) ?_
  intro p e R s m args below meth c Q C hRf hRc hRs hRl hQ hrt hnm
  refine z_loc (L' := [(0, .ref q), (1, .ref (ad 14))]) [0, 1] rfl ?_
  obtain ⟨rq, yq, aq, bq, cq⟩ := id hq
  obtain ⟨_, ye, re, te⟩ := HN.1 f0 (by omega) (by omega)
  by_cases hs : s0 = -1
  · rw [if_pos hs] at yq
    refine z_aloadn C 1 dX1_startsAt_0 rfl rfl ?_
    refine z_aloadn C 0 dX1_startsAt_1 rfl rfl ?_
    refine z_getY C yq rfl z_it1 2 (by decide) rfl fl_1_16 rfl dX1_startsAt_2 ?_
    refine z_getY C ye rfl z_it0 0 (by decide) rfl fl_1_29 rfl dX1_startsAt_5 ?_
    refine z_iald C 14 (by decide) rfl (by decide) (by omega) (by omega) dX1_startsAt_8 ?_
    have rx1 := Ha_places ((em f0.toNat) : Int).toNat
    generalize ex1 : a_places ((em f0.toNat) : Int).toNat = x1 at rx1 ⊢
    refine z_aloadn C 0 dX1_startsAt_9 rfl rfl ?_
    refine z_getY C yq rfl z_it1 2 (by decide) rfl fl_1_16 rfl dX1_startsAt_10 ?_
    refine z_getY C ye rfl z_it0 1 (by decide) rfl fl_1_32 rfl dX1_startsAt_13 ?_
    refine z_icmp_ne (t := 49) C dX1_startsAt_16 (by decide) (by omega) (by omega) (fun c2 => ?_) (fun c2 => ?_)
    · skip
      refine z_iconst C dX1_startsAt_49 ?_
      rw [hQ]
      exact z_zret C hrt (by omega) dX1_startsAt_50 (⟨rfl, rfl, _, rfl, by omega⟩) (by omega) (by omega)
    · skip
      refine z_aloadn C 0 dX1_startsAt_19 rfl rfl ?_
      refine z_getY C yq rfl z_it1 3 (by decide) rfl fl_1_20 rfl dX1_startsAt_20 ?_
      refine z_ifnullN (t := 45) C dX1_startsAt_23 (by decide) ?_
      refine z_iconst C dX1_startsAt_45 ?_
      refine z_goto (t := 50) C dX1_startsAt_46 (by decide) ?_
      rw [hQ]
      exact z_zret C hrt (by omega) dX1_startsAt_50 (⟨rfl, rfl, _, rfl, by omega⟩) (by omega) (by omega)
  · rw [if_neg hs] at yq
    obtain ⟨_, yf, rf, tf⟩ := HN.1 s0 (by omega) (by omega)
    refine z_aloadn C 1 dX1_startsAt_0 rfl rfl ?_
    refine z_aloadn C 0 dX1_startsAt_1 rfl rfl ?_
    refine z_getY C yq rfl z_it1 2 (by decide) rfl fl_1_16 rfl dX1_startsAt_2 ?_
    refine z_getY C ye rfl z_it0 0 (by decide) rfl fl_1_29 rfl dX1_startsAt_5 ?_
    refine z_iald C 14 (by decide) rfl (by decide) (by omega) (by omega) dX1_startsAt_8 ?_
    have rx3 := Ha_places ((em f0.toNat) : Int).toNat
    generalize ex3 : a_places ((em f0.toNat) : Int).toNat = x3 at rx3 ⊢
    refine z_aloadn C 0 dX1_startsAt_9 rfl rfl ?_
    refine z_getY C yq rfl z_it1 2 (by decide) rfl fl_1_16 rfl dX1_startsAt_10 ?_
    refine z_getY C ye rfl z_it0 1 (by decide) rfl fl_1_32 rfl dX1_startsAt_13 ?_
    refine z_icmp_ne (t := 49) C dX1_startsAt_16 (by decide) (by omega) (by omega) (fun c4 => ?_) (fun c4 => ?_)
    · skip
      refine z_iconst C dX1_startsAt_49 ?_
      rw [hQ]
      exact z_zret C hrt (by omega) dX1_startsAt_50 (⟨rfl, rfl, _, rfl, by omega⟩) (by omega) (by omega)
    · skip
      refine z_aloadn C 0 dX1_startsAt_19 rfl rfl ?_
      refine z_getY C yq rfl z_it1 3 (by decide) rfl fl_1_20 rfl dX1_startsAt_20 ?_
      refine z_ifnull C dX1_startsAt_23 ?_
      refine z_aloadn C 1 dX1_startsAt_26 rfl rfl ?_
      refine z_aloadn C 0 dX1_startsAt_27 rfl rfl ?_
      refine z_getY C yq rfl z_it1 3 (by decide) rfl fl_1_20 rfl dX1_startsAt_28 ?_
      refine z_getY C yf rfl z_it0 0 (by decide) rfl fl_1_29 rfl dX1_startsAt_31 ?_
      refine z_iald C 14 (by decide) rfl (by decide) (by omega) (by omega) dX1_startsAt_34 ?_
      have rx5 := Ha_places ((em s0.toNat) : Int).toNat
      generalize ex5 : a_places ((em s0.toNat) : Int).toNat = x5 at rx5 ⊢
      refine z_aloadn C 0 dX1_startsAt_35 rfl rfl ?_
      refine z_getY C yq rfl z_it1 3 (by decide) rfl fl_1_20 rfl dX1_startsAt_36 ?_
      refine z_getY C yf rfl z_it0 1 (by decide) rfl fl_1_32 rfl dX1_startsAt_39 ?_
      refine z_icmp_ne (t := 49) C dX1_startsAt_42 (by decide) (by omega) (by omega) (fun c6 => ?_) (fun c6 => ?_)
      · skip
        refine z_iconst C dX1_startsAt_49 ?_
        rw [hQ]
        exact z_zret C hrt (by omega) dX1_startsAt_50 (⟨rfl, rfl, _, rfl, by omega⟩) (by omega) (by omega)
      · skip
        refine z_iconst C dX1_startsAt_45 ?_
        refine z_goto (t := 50) C dX1_startsAt_46 (by decide) ?_
        rw [hQ]
        exact z_zret C hrt (by omega) dX1_startsAt_50 (⟨rfl, rfl, _, rfl, by omega⟩) (by omega) (by omega)
set_option maxRecDepth 20000 in
theorem cx_X1_carry_16 (l : Launch) {D : va_G} {A : Nat → Prop} {ad : Nat → Nat} {ks : z_Ks} {s_edgeCount s_moveCount s_isNeeded s_timesDone s_size s_isGoing s_allTime s_stepCount s_gapCount : Int} {g_edges g_moves g_limits : Nat → Option Nat} {a_sfacts a_sbounds a_facts a_zone a_most a_places a_amounts a_nextPlaces a_nextAmounts a_earliest a_visited a_lastSet a_gapFrom a_gapTo a_gapLeast a_askedPlaces a_askedAmounts : Nat → Int} {Y : Nat → Option va_E} {em ef et ec er gn gt ln lt : Nat → Int} {qe ql qt : Nat → Nat} {f0 s0 : Int} (q : Nat) (Ha_nextPlaces : (∀ j, 0 ≤ a_nextPlaces j ∧ a_nextPlaces j ≤ 5)) (Hs_edgeCount : 0 ≤ s_edgeCount ∧ s_edgeCount ≤ 20) (hq : z_MX Y q f0 s0 s_edgeCount qe er) (HN : z_N ks Y g_edges g_limits s_edgeCount em ef et ec er gn gt ln lt qe ql qt) : z_Met l yX1_carry cX1_carry 2 none 0 0 0 0 D A 27 ad ks [.ref q, .ref (ad 16)] (z_zc ad ks s_edgeCount s_moveCount s_isNeeded s_timesDone s_size s_isGoing s_allTime s_stepCount s_gapCount g_edges g_moves g_limits a_sfacts a_sbounds a_facts a_zone a_most a_places a_amounts a_nextPlaces a_nextAmounts a_earliest a_visited a_lastSet a_gapFrom a_gapTo a_gapLeast a_askedPlaces a_askedAmounts) Y (fun r S' Y' => ∃ na_nextPlaces : Nat → Int, S' = (z_zc ad ks s_edgeCount s_moveCount s_isNeeded s_timesDone s_size s_isGoing s_allTime s_stepCount s_gapCount g_edges g_moves g_limits a_sfacts a_sbounds a_facts a_zone a_most a_places a_amounts na_nextPlaces a_nextAmounts a_earliest a_visited a_lastSet a_gapFrom a_gapTo a_gapLeast a_askedPlaces a_askedAmounts) ∧ Y = Y' ∧ (∀ j, 0 ≤ na_nextPlaces j ∧ na_nextPlaces j ≤ 5) ∧ na_nextPlaces = z_goA a_nextPlaces em et f0 s0 ∧ r = none) := by
  refine z_start2 (by decide) (Nat.le_of_ble_eq_true rfl) ?_
  intro p e R s m args below meth c Q C hRf hRc hRs hRl hQ hrt hnm
  refine z_loc (L' := [(0, .ref q), (1, .ref (ad 16))]) [0, 1] rfl ?_
  obtain ⟨rq, yq, aq, bq, cq⟩ := id hq
  obtain ⟨_, ye, re, te⟩ := HN.1 f0 (by omega) (by omega)
  by_cases hs : s0 = -1
  · rw [if_pos hs] at yq
    refine z_aloadn C 1 dX1_carry_0 rfl rfl ?_
    refine z_aloadn C 0 dX1_carry_1 rfl rfl ?_
    refine z_getY C yq rfl z_it1 2 (by decide) rfl fl_1_16 rfl dX1_carry_2 ?_
    refine z_getY C ye rfl z_it0 0 (by decide) rfl fl_1_29 rfl dX1_carry_5 ?_
    refine z_aloadn C 0 dX1_carry_8 rfl rfl ?_
    refine z_getY C yq rfl z_it1 2 (by decide) rfl fl_1_16 rfl dX1_carry_9 ?_
    refine z_getY C ye rfl z_it0 2 (by decide) rfl fl_1_35 rfl dX1_carry_12 ?_
    refine z_iast C 16 (by decide) rfl (by decide) (by omega) (by omega) dX1_carry_15 ?_
    refine z_ext (S' := (z_zc ad ks s_edgeCount s_moveCount s_isNeeded s_timesDone s_size s_isGoing s_allTime s_stepCount s_gapCount g_edges g_moves g_limits a_sfacts a_sbounds a_facts a_zone a_most a_places a_amounts (va_up a_nextPlaces ((em f0.toNat) : Int).toNat (et f0.toNat)) a_nextAmounts a_earliest a_visited a_lastSet a_gapFrom a_gapTo a_gapLeast a_askedPlaces a_askedAmounts)) upC_a_nextPlaces ?_
    have h1 : ∀ j, 0 ≤ (va_up a_nextPlaces ((em f0.toNat) : Int).toNat (et f0.toNat)) j ∧ (va_up a_nextPlaces ((em f0.toNat) : Int).toNat (et f0.toNat)) j ≤ 5 := z_upP (P := fun j v => 0 ≤ v ∧ v ≤ 5) Ha_nextPlaces (by omega)
    refine z_aloadn C 0 dX1_carry_16 rfl rfl ?_
    refine z_getY C yq rfl z_it1 3 (by decide) rfl fl_1_20 rfl dX1_carry_17 ?_
    refine z_ifnullN (t := 39) C dX1_carry_20 (by decide) ?_
    rw [hQ]
    exact z_vret C hrt dX1_carry_39 (⟨(va_up a_nextPlaces ((em f0.toNat) : Int).toNat (et f0.toNat)), rfl, rfl, h1, by first | exact (z_goA1 hs).symm | exact (z_goA2 hs).symm, rfl⟩) (by omega) (by omega)
  · rw [if_neg hs] at yq
    obtain ⟨_, yf, rf, tf⟩ := HN.1 s0 (by omega) (by omega)
    refine z_aloadn C 1 dX1_carry_0 rfl rfl ?_
    refine z_aloadn C 0 dX1_carry_1 rfl rfl ?_
    refine z_getY C yq rfl z_it1 2 (by decide) rfl fl_1_16 rfl dX1_carry_2 ?_
    refine z_getY C ye rfl z_it0 0 (by decide) rfl fl_1_29 rfl dX1_carry_5 ?_
    refine z_aloadn C 0 dX1_carry_8 rfl rfl ?_
    refine z_getY C yq rfl z_it1 2 (by decide) rfl fl_1_16 rfl dX1_carry_9 ?_
    refine z_getY C ye rfl z_it0 2 (by decide) rfl fl_1_35 rfl dX1_carry_12 ?_
    refine z_iast C 16 (by decide) rfl (by decide) (by omega) (by omega) dX1_carry_15 ?_
    refine z_ext (S' := (z_zc ad ks s_edgeCount s_moveCount s_isNeeded s_timesDone s_size s_isGoing s_allTime s_stepCount s_gapCount g_edges g_moves g_limits a_sfacts a_sbounds a_facts a_zone a_most a_places a_amounts (va_up a_nextPlaces ((em f0.toNat) : Int).toNat (et f0.toNat)) a_nextAmounts a_earliest a_visited a_lastSet a_gapFrom a_gapTo a_gapLeast a_askedPlaces a_askedAmounts)) upC_a_nextPlaces ?_
    have h2 : ∀ j, 0 ≤ (va_up a_nextPlaces ((em f0.toNat) : Int).toNat (et f0.toNat)) j ∧ (va_up a_nextPlaces ((em f0.toNat) : Int).toNat (et f0.toNat)) j ≤ 5 := z_upP (P := fun j v => 0 ≤ v ∧ v ≤ 5) Ha_nextPlaces (by omega)
    refine z_aloadn C 0 dX1_carry_16 rfl rfl ?_
    refine z_getY C yq rfl z_it1 3 (by decide) rfl fl_1_20 rfl dX1_carry_17 ?_
    refine z_ifnull C dX1_carry_20 ?_
    refine z_aloadn C 1 dX1_carry_23 rfl rfl ?_
    refine z_aloadn C 0 dX1_carry_24 rfl rfl ?_
    refine z_getY C yq rfl z_it1 3 (by decide) rfl fl_1_20 rfl dX1_carry_25 ?_
    refine z_getY C yf rfl z_it0 0 (by decide) rfl fl_1_29 rfl dX1_carry_28 ?_
    refine z_aloadn C 0 dX1_carry_31 rfl rfl ?_
    refine z_getY C yq rfl z_it1 3 (by decide) rfl fl_1_20 rfl dX1_carry_32 ?_
    refine z_getY C yf rfl z_it0 2 (by decide) rfl fl_1_35 rfl dX1_carry_35 ?_
    refine z_iast C 16 (by decide) rfl (by decide) (by omega) (by omega) dX1_carry_38 ?_
    refine z_ext (S' := (z_zc ad ks s_edgeCount s_moveCount s_isNeeded s_timesDone s_size s_isGoing s_allTime s_stepCount s_gapCount g_edges g_moves g_limits a_sfacts a_sbounds a_facts a_zone a_most a_places a_amounts (va_up (va_up a_nextPlaces ((em f0.toNat) : Int).toNat (et f0.toNat)) ((em s0.toNat) : Int).toNat (et s0.toNat)) a_nextAmounts a_earliest a_visited a_lastSet a_gapFrom a_gapTo a_gapLeast a_askedPlaces a_askedAmounts)) upC_a_nextPlaces ?_
    have h3 : ∀ j, 0 ≤ (va_up (va_up a_nextPlaces ((em f0.toNat) : Int).toNat (et f0.toNat)) ((em s0.toNat) : Int).toNat (et s0.toNat)) j ∧ (va_up (va_up a_nextPlaces ((em f0.toNat) : Int).toNat (et f0.toNat)) ((em s0.toNat) : Int).toNat (et s0.toNat)) j ≤ 5 := z_upP (P := fun j v => 0 ≤ v ∧ v ≤ 5) h2 (by omega)
    rw [hQ]
    exact z_vret C hrt dX1_carry_39 (⟨(va_up (va_up a_nextPlaces ((em f0.toNat) : Int).toNat (et f0.toNat)) ((em s0.toNat) : Int).toNat (et s0.toNat)), rfl, rfl, h3, by first | exact (z_goA1 hs).symm | exact (z_goA2 hs).symm, rfl⟩) (by omega) (by omega)
set_option maxRecDepth 20000 in
theorem cx_X1_sets (l : Launch) {D : va_G} {A : Nat → Prop} {ad : Nat → Nat} {ks : z_Ks} {N : Nat} {S : Nat → va_E} {Y : Nat → Option va_E} {f0 s0 n0 : Int} {er : Nat → Int} {qe : Nat → Nat} (x : Int) (q : Nat) (hq : z_MX Y q f0 s0 n0 qe er) (hx : z_rg x) : z_Met l yX1_sets cX1_sets 2 (some .boolean) 0 0 0 0 D A N ad ks [.ref q, z_v x] S Y (fun r S' Y' => S' = S ∧ Y = Y' ∧ ∃ z : Int, r = some (z_v z) ∧ (z = 1 ∧ (z_btv (z_or er f0 s0) x ≠ 0) ∨ z = 0 ∧ ¬ (z_btv (z_or er f0 s0) x ≠ 0))) := by
  refine z_start2 (by decide) (Nat.le_of_ble_eq_true rfl) ?_
  intro p e R s m args below meth c Q C hRf hRc hRs hRl hQ hrt hnm
  refine z_loc (L' := [(0, .ref q), (1, z_v x)]) [0, 1] rfl ?_
  obtain ⟨rq, yq, aq, bq, cq⟩ := id hq
  refine z_aloadn C 0 dX1_sets_0 rfl rfl ?_
  refine z_getY C yq rfl z_it1 4 (by decide) rfl fl_1_28 rfl dX1_sets_1 ?_
  refine z_iloadn C 1 dX1_sets_4 rfl rfl ?_
  obtain ⟨b1, hb1, rb1⟩ := z_bits (z_i rq >>> (z_i x &&& 31))
  refine z_ishr C hb1 dX1_sets_5 ?_
  have qb1 := z_bitsE hb1 rb1
  refine z_iconst C dX1_sets_6 ?_
  obtain ⟨b2, hb2, rb2⟩ := z_bits (z_i b1 &&& z_i 1)
  refine z_iand C hb2 dX1_sets_7 ?_
  have qb2 := z_bitsE hb2 rb2
  have hb : z_btv (z_or er f0 s0) x = b2 := by subst_vars; rfl
  refine z_if_eq (t := 15) C dX1_sets_8 (by decide) (by omega) (fun c3 => ?_) (fun c3 => ?_)
  · skip
    refine z_iconst C dX1_sets_15 ?_
    rw [hQ]
    exact z_zret C hrt (by omega) dX1_sets_16 (⟨rfl, rfl, _, rfl, by omega⟩) (by omega) (by omega)
  · skip
    refine z_iconst C dX1_sets_11 ?_
    refine z_goto (t := 16) C dX1_sets_12 (by decide) ?_
    rw [hQ]
    exact z_zret C hrt (by omega) dX1_sets_16 (⟨rfl, rfl, _, rfl, by omega⟩) (by omega) (by omega)
set_option maxRecDepth 20000 in
theorem cx_X1_guardsAllow_15 (l : Launch) {D : va_G} {A : Nat → Prop} {ad : Nat → Nat} {ks : z_Ks} {s_edgeCount s_moveCount s_isNeeded s_timesDone s_size s_isGoing s_allTime s_stepCount s_gapCount : Int} {g_edges g_moves g_limits : Nat → Option Nat} {a_sfacts a_sbounds a_facts a_zone a_most a_places a_amounts a_nextPlaces a_nextAmounts a_earliest a_visited a_lastSet a_gapFrom a_gapTo a_gapLeast a_askedPlaces a_askedAmounts : Nat → Int} {Y : Nat → Option va_E} {em ef et ec er gn gt ln lt : Nat → Int} {qe ql qt : Nat → Nat} {f0 s0 : Int} (q : Nat) (Ha_amounts : (∀ j, 0 ≤ a_amounts j ∧ a_amounts j ≤ 1000000)) (Hs_edgeCount : 0 ≤ s_edgeCount ∧ s_edgeCount ≤ 20) (hq : z_MX Y q f0 s0 s_edgeCount qe er) (HN : z_N ks Y g_edges g_limits s_edgeCount em ef et ec er gn gt ln lt qe ql qt) : z_Met l yX1_guardsAllow cX1_guardsAllow 2 (some .boolean) 3 63 0 0 D A 27 ad ks [.ref q, .ref (ad 15)] (z_zc ad ks s_edgeCount s_moveCount s_isNeeded s_timesDone s_size s_isGoing s_allTime s_stepCount s_gapCount g_edges g_moves g_limits a_sfacts a_sbounds a_facts a_zone a_most a_places a_amounts a_nextPlaces a_nextAmounts a_earliest a_visited a_lastSet a_gapFrom a_gapTo a_gapLeast a_askedPlaces a_askedAmounts) Y (fun r S' Y' => S' = (z_zc ad ks s_edgeCount s_moveCount s_isNeeded s_timesDone s_size s_isGoing s_allTime s_stepCount s_gapCount g_edges g_moves g_limits a_sfacts a_sbounds a_facts a_zone a_most a_places a_amounts a_nextPlaces a_nextAmounts a_earliest a_visited a_lastSet a_gapFrom a_gapTo a_gapLeast a_askedPlaces a_askedAmounts) ∧ Y = Y' ∧ ∃ z : Int, r = some (z_v z) ∧ (z = 1 ∧ (z_alw (gn f0.toNat) gt (6 * f0) a_amounts ∧ (s0 = -1 ∨ s0 ≠ -1 ∧ z_alw (gn s0.toNat) gt (6 * s0) a_amounts)) ∨ z = 0 ∧ ¬ (z_alw (gn f0.toNat) gt (6 * f0) a_amounts ∧ (s0 = -1 ∨ s0 ≠ -1 ∧ z_alw (gn s0.toNat) gt (6 * s0) a_amounts)))) := by
  refine z_start2 (by decide) (Nat.le_of_ble_eq_true rfl) ?_
  intro p e R s m args below meth c Q C hRf hRc hRs hRl hQ hrt hnm
  refine z_loc (L' := [(0, .ref q), (1, .ref (ad 15))]) [0, 1] rfl ?_
  obtain ⟨rq, yq, aq, bq, cq⟩ := id hq
  obtain ⟨_, ye, re, te⟩ := HN.1 f0 (by omega) (by omega)
  by_cases hs : s0 = -1
  · rw [if_pos hs] at yq
    refine z_aloadn C 0 dX1_guardsAllow_0 rfl rfl ?_
    refine z_getY C yq rfl z_it1 2 (by decide) rfl fl_1_16 rfl dX1_guardsAllow_1 ?_
    refine z_getY C ye rfl z_it0 5 (by decide) rfl fl_1_38 rfl dX1_guardsAllow_4 ?_
    refine z_aloadn C 1 dX1_guardsAllow_7 rfl rfl ?_
    obtain ⟨yd1, ad1, gd1, wd1, bd1⟩ := id te
    refine z_callV C (cx_X6_allow_15 l (ql f0.toNat) Ha_amounts te) mv_1_42 (z_atY 6 yd1 rfl rfl) pd_X6_allow ⟨by omega, by omega⟩ ⟨by omega, by omega⟩ rfl (Nat.le_of_ble_eq_true rfl) dX1_guardsAllow_8 ?_
    rintro _ _ _ ⟨rfl, rfl, z4, rfl, hz4⟩
    have hg8 := hz4
    refine z_if_eq (t := 39) C dX1_guardsAllow_11 (by decide) (by omega) (fun c5 => ?_) (fun c5 => ?_)
    · skip
      refine z_iconst C dX1_guardsAllow_39 ?_
      rw [hQ]
      exact z_zret C hrt (by omega) dX1_guardsAllow_40 (⟨rfl, rfl, _, rfl, by first | exact Or.inl ⟨rfl, z_isz1 hg8 (by omega), Or.inl hs⟩ | exact Or.inl ⟨rfl, z_isz1 hg8 (by omega), Or.inr ⟨hs, z_isz1 hg29 (by omega)⟩⟩ | exact Or.inr ⟨rfl, fun h => z_isz0 hg8 (by omega) h.1⟩ | exact Or.inr ⟨rfl, fun h => h.2.elim hs (fun q => z_isz0 hg29 (by omega) q.2)⟩⟩) (by omega) (by omega)
    · skip
      refine z_aloadn C 0 dX1_guardsAllow_14 rfl rfl ?_
      refine z_getY C yq rfl z_it1 3 (by decide) rfl fl_1_20 rfl dX1_guardsAllow_15 ?_
      refine z_ifnullN (t := 35) C dX1_guardsAllow_18 (by decide) ?_
      refine z_iconst C dX1_guardsAllow_35 ?_
      refine z_goto (t := 40) C dX1_guardsAllow_36 (by decide) ?_
      rw [hQ]
      exact z_zret C hrt (by omega) dX1_guardsAllow_40 (⟨rfl, rfl, _, rfl, by first | exact Or.inl ⟨rfl, z_isz1 hg8 (by omega), Or.inl hs⟩ | exact Or.inl ⟨rfl, z_isz1 hg8 (by omega), Or.inr ⟨hs, z_isz1 hg29 (by omega)⟩⟩ | exact Or.inr ⟨rfl, fun h => z_isz0 hg8 (by omega) h.1⟩ | exact Or.inr ⟨rfl, fun h => h.2.elim hs (fun q => z_isz0 hg29 (by omega) q.2)⟩⟩) (by omega) (by omega)
  · rw [if_neg hs] at yq
    obtain ⟨_, yf, rf, tf⟩ := HN.1 s0 (by omega) (by omega)
    refine z_aloadn C 0 dX1_guardsAllow_0 rfl rfl ?_
    refine z_getY C yq rfl z_it1 2 (by decide) rfl fl_1_16 rfl dX1_guardsAllow_1 ?_
    refine z_getY C ye rfl z_it0 5 (by decide) rfl fl_1_38 rfl dX1_guardsAllow_4 ?_
    refine z_aloadn C 1 dX1_guardsAllow_7 rfl rfl ?_
    obtain ⟨yd6, ad6, gd6, wd6, bd6⟩ := id te
    refine z_callV C (cx_X6_allow_15 l (ql f0.toNat) Ha_amounts te) mv_1_42 (z_atY 6 yd6 rfl rfl) pd_X6_allow ⟨by omega, by omega⟩ ⟨by omega, by omega⟩ rfl (Nat.le_of_ble_eq_true rfl) dX1_guardsAllow_8 ?_
    rintro _ _ _ ⟨rfl, rfl, z9, rfl, hz9⟩
    have hg8 := hz9
    refine z_if_eq (t := 39) C dX1_guardsAllow_11 (by decide) (by omega) (fun c10 => ?_) (fun c10 => ?_)
    · skip
      refine z_iconst C dX1_guardsAllow_39 ?_
      rw [hQ]
      exact z_zret C hrt (by omega) dX1_guardsAllow_40 (⟨rfl, rfl, _, rfl, by first | exact Or.inl ⟨rfl, z_isz1 hg8 (by omega), Or.inl hs⟩ | exact Or.inl ⟨rfl, z_isz1 hg8 (by omega), Or.inr ⟨hs, z_isz1 hg29 (by omega)⟩⟩ | exact Or.inr ⟨rfl, fun h => z_isz0 hg8 (by omega) h.1⟩ | exact Or.inr ⟨rfl, fun h => h.2.elim hs (fun q => z_isz0 hg29 (by omega) q.2)⟩⟩) (by omega) (by omega)
    · skip
      refine z_aloadn C 0 dX1_guardsAllow_14 rfl rfl ?_
      refine z_getY C yq rfl z_it1 3 (by decide) rfl fl_1_20 rfl dX1_guardsAllow_15 ?_
      refine z_ifnull C dX1_guardsAllow_18 ?_
      refine z_aloadn C 0 dX1_guardsAllow_21 rfl rfl ?_
      refine z_getY C yq rfl z_it1 3 (by decide) rfl fl_1_20 rfl dX1_guardsAllow_22 ?_
      refine z_getY C yf rfl z_it0 5 (by decide) rfl fl_1_38 rfl dX1_guardsAllow_25 ?_
      refine z_aloadn C 1 dX1_guardsAllow_28 rfl rfl ?_
      obtain ⟨yd11, ad11, gd11, wd11, bd11⟩ := id tf
      refine z_callV C (cx_X6_allow_15 l (ql s0.toNat) Ha_amounts tf) mv_1_42 (z_atY 6 yd11 rfl rfl) pd_X6_allow ⟨by omega, by omega⟩ ⟨by omega, by omega⟩ rfl (Nat.le_of_ble_eq_true rfl) dX1_guardsAllow_29 ?_
      rintro _ _ _ ⟨rfl, rfl, z14, rfl, hz14⟩
      have hg29 := hz14
      refine z_if_eq (t := 39) C dX1_guardsAllow_32 (by decide) (by omega) (fun c15 => ?_) (fun c15 => ?_)
      · skip
        refine z_iconst C dX1_guardsAllow_39 ?_
        rw [hQ]
        exact z_zret C hrt (by omega) dX1_guardsAllow_40 (⟨rfl, rfl, _, rfl, by first | exact Or.inl ⟨rfl, z_isz1 hg8 (by omega), Or.inl hs⟩ | exact Or.inl ⟨rfl, z_isz1 hg8 (by omega), Or.inr ⟨hs, z_isz1 hg29 (by omega)⟩⟩ | exact Or.inr ⟨rfl, fun h => z_isz0 hg8 (by omega) h.1⟩ | exact Or.inr ⟨rfl, fun h => h.2.elim hs (fun q => z_isz0 hg29 (by omega) q.2)⟩⟩) (by omega) (by omega)
      · skip
        refine z_iconst C dX1_guardsAllow_35 ?_
        refine z_goto (t := 40) C dX1_guardsAllow_36 (by decide) ?_
        rw [hQ]
        exact z_zret C hrt (by omega) dX1_guardsAllow_40 (⟨rfl, rfl, _, rfl, by first | exact Or.inl ⟨rfl, z_isz1 hg8 (by omega), Or.inl hs⟩ | exact Or.inl ⟨rfl, z_isz1 hg8 (by omega), Or.inr ⟨hs, z_isz1 hg29 (by omega)⟩⟩ | exact Or.inr ⟨rfl, fun h => z_isz0 hg8 (by omega) h.1⟩ | exact Or.inr ⟨rfl, fun h => h.2.elim hs (fun q => z_isz0 hg29 (by omega) q.2)⟩⟩) (by omega) (by omega)
set_option maxRecDepth 20000 in
theorem cx_X2_find (l : Launch) {D : va_G} {A : Nat → Prop} {ad : Nat → Nat} {ks : z_Ks} {s_edgeCount s_moveCount s_isNeeded s_timesDone s_size s_isGoing s_allTime s_stepCount s_gapCount : Int} {g_edges g_moves g_limits : Nat → Option Nat} {a_sfacts a_sbounds a_facts a_zone a_most a_places a_amounts a_nextPlaces a_nextAmounts a_earliest a_visited a_lastSet a_gapFrom a_gapTo a_gapLeast a_askedPlaces a_askedAmounts : Nat → Int} {Y : Nat → Option va_E} {mf ms er : Nat → Int} {qe : Nat → Nat} (f0 s0 : Int) (hf : z_rg f0) (hs : z_rg s0) (Hs_moveCount : 0 ≤ s_moveCount ∧ s_moveCount ≤ 400) (hn : s_edgeCount ≤ 20) (HMo : z_Mo Y g_moves s_moveCount mf ms s_edgeCount qe er) : z_Met l yX2_find cX2_find 4 (some (.object "ClockZones$Move")) 0 0 0 0 D A 27 ad ks [.ref (ad 1), z_v f0, z_v s0] (z_zc ad ks s_edgeCount s_moveCount s_isNeeded s_timesDone s_size s_isGoing s_allTime s_stepCount s_gapCount g_edges g_moves g_limits a_sfacts a_sbounds a_facts a_zone a_most a_places a_amounts a_nextPlaces a_nextAmounts a_earliest a_visited a_lastSet a_gapFrom a_gapTo a_gapLeast a_askedPlaces a_askedAmounts) Y (fun r S' Y' => S' = (z_zc ad ks s_edgeCount s_moveCount s_isNeeded s_timesDone s_size s_isGoing s_allTime s_stepCount s_gapCount g_edges g_moves g_limits a_sfacts a_sbounds a_facts a_zone a_most a_places a_amounts a_nextPlaces a_nextAmounts a_earliest a_visited a_lastSet a_gapFrom a_gapTo a_gapLeast a_askedPlaces a_askedAmounts) ∧ Y = Y' ∧ ((r = some .null ∧ ¬ z_mem s_moveCount mf ms f0 s0) ∨ ∃ q : Nat, r = some (.ref q) ∧ z_MX Y q f0 s0 s_edgeCount qe er ∧ z_mem s_moveCount mf ms f0 s0)) := by
  refine z_start2 (by decide) (Nat.le_of_ble_eq_true rfl) ?_
  intro p e R s m args below meth c Q C hRf hRc hRs hRl hQ hrt hnm
  refine z_loc (L' := [(0, .ref (ad 1)), (1, z_v f0), (2, z_v s0)]) [0, 1, 2] rfl ?_
  refine z_iconst C dX2_find_0 ?_
  refine z_istoren (L' := [(3, z_v 0), (0, .ref (ad 1)), (1, z_v f0), (2, z_v s0)]) C dX2_find_1 rfl (by decide) rfl ?_
  have L2 : ∀ (n : Nat), ∀ (i3 : Int), (0 ≤ i3 ∧ i3 ≤ s_moveCount) → (∀ k : Int, 0 ≤ k → k < i3 → ¬ (mf k.toNat = f0 ∧ ms k.toNat = s0)) → (s_moveCount - (i3 : Int)).toNat < n → z_V p l e R s m args below meth c Q D A 27 ad 4 (z_zc ad ks s_edgeCount s_moveCount s_isNeeded s_timesDone s_size s_isGoing s_allTime s_stepCount s_gapCount g_edges g_moves g_limits a_sfacts a_sbounds a_facts a_zone a_most a_places a_amounts a_nextPlaces a_nextAmounts a_earliest a_visited a_lastSet a_gapFrom a_gapTo a_gapLeast a_askedPlaces a_askedAmounts) Y 0 0 2 [(0, .ref (ad 1)), (1, z_v f0), (2, z_v s0), (3, z_v i3)] [] := by
    intro n
    induction n with
    | zero => intro i3 I3 NF hm; exact absurd hm (Nat.not_lt_zero _)
    | succ n ih2 =>
      intro i3 I3 NF hm
      refine z_iloadn C 3 dX2_find_2 rfl rfl ?_
      refine z_aloadn C 0 dX2_find_3 rfl rfl ?_
      refine z_get C 1 (by decide) rfl rfl z_it2 3 (by decide) rfl fl_2_48 rfl dX2_find_4 ?_
      refine z_icmp_ge (t := 49) C dX2_find_7 (by decide) (by omega) (by omega) (fun c1 => ?_) (fun c1 => ?_)
      · skip
        refine z_null C dX2_find_49 ?_
        rw [hQ]
        exact z_aret C hrt (Or.inl rfl) dX2_find_50 (⟨rfl, rfl, Or.inl ⟨rfl, fun ⟨k, h0, h1, h2⟩ => NF k h0 (by omega) h2⟩⟩) (by omega) (by omega)
      · skip
        refine z_aloadn C 0 dX2_find_10 rfl rfl ?_
        refine z_get C 1 (by decide) rfl rfl z_it2 2 (by decide) rfl fl_2_19 rfl dX2_find_11 ?_
        refine z_iloadn C 3 dX2_find_14 rfl rfl ?_
        obtain ⟨q2, eq2, mq2⟩ := HMo i3 (by omega) (by omega)
        refine z_aaldS C 3 2 (by decide) rfl rfl (by decide) (by omega) (by omega) eq2 dX2_find_15 ?_
        obtain ⟨rd3, yd3, ad3, bd3, cd3⟩ := id mq2
        refine z_getY C yd3 rfl z_it1 0 (by decide) rfl fl_2_55 rfl dX2_find_16 ?_
        refine z_iloadn C 1 dX2_find_19 rfl rfl ?_
        refine z_icmp_ne (t := 43) C dX2_find_20 (by decide) (by omega) (by omega) (fun c4 => ?_) (fun c4 => ?_)
        · skip
          refine z_iinc (L' := [(3, z_v (i3 + 1)), (0, .ref (ad 1)), (1, z_v f0), (2, z_v s0)]) C 3 dX2_find_43 rfl (by decide) rfl ?_
          refine z_goto (t := 2) C dX2_find_46 (by decide) ?_
          refine z_loc (L' := [(0, .ref (ad 1)), (1, z_v f0), (2, z_v s0), (3, z_v (i3 + 1))]) [1, 2, 3, 0] rfl ?_
          exact ih2 (i3 + 1) (by omega) (z_snoc NF (by omega)) (by omega)
        · skip
          refine z_aloadn C 0 dX2_find_23 rfl rfl ?_
          refine z_get C 1 (by decide) rfl rfl z_it2 2 (by decide) rfl fl_2_19 rfl dX2_find_24 ?_
          refine z_iloadn C 3 dX2_find_27 rfl rfl ?_
          obtain ⟨q5, eq5, mq5⟩ := HMo i3 (by omega) (by omega)
          refine z_aaldS C 3 2 (by decide) rfl rfl (by decide) (by omega) (by omega) eq5 dX2_find_28 ?_
          obtain ⟨rd6, yd6, ad6, bd6, cd6⟩ := id mq5
          refine z_getY C yd6 rfl z_it1 1 (by decide) rfl fl_2_58 rfl dX2_find_29 ?_
          refine z_iloadn C 2 dX2_find_32 rfl rfl ?_
          refine z_icmp_ne (t := 43) C dX2_find_33 (by decide) (by omega) (by omega) (fun c7 => ?_) (fun c7 => ?_)
          · skip
            refine z_iinc (L' := [(3, z_v (i3 + 1)), (0, .ref (ad 1)), (1, z_v f0), (2, z_v s0)]) C 3 dX2_find_43 rfl (by decide) rfl ?_
            refine z_goto (t := 2) C dX2_find_46 (by decide) ?_
            refine z_loc (L' := [(0, .ref (ad 1)), (1, z_v f0), (2, z_v s0), (3, z_v (i3 + 1))]) [1, 2, 3, 0] rfl ?_
            exact ih2 (i3 + 1) (by omega) (z_snoc NF (by omega)) (by omega)
          · skip
            refine z_aloadn C 0 dX2_find_36 rfl rfl ?_
            refine z_get C 1 (by decide) rfl rfl z_it2 2 (by decide) rfl fl_2_19 rfl dX2_find_37 ?_
            refine z_iloadn C 3 dX2_find_40 rfl rfl ?_
            obtain ⟨q8, eq8, mq8⟩ := HMo i3 (by omega) (by omega)
            refine z_aaldS C 3 2 (by decide) rfl rfl (by decide) (by omega) (by omega) eq8 dX2_find_41 ?_
            rw [hQ]
            exact z_aret C hrt (Or.inr ⟨_, rfl⟩) dX2_find_42 (⟨rfl, rfl, Or.inr ⟨_, rfl, by rw [show f0 = mf (i3 : Int).toNat by omega, show s0 = ms (i3 : Int).toNat by omega]; exact mq8, ⟨i3, by omega, by omega, by omega, by omega⟩⟩⟩) (by omega) (by omega)
  refine z_loc (L' := [(0, .ref (ad 1)), (1, z_v f0), (2, z_v s0), (3, z_v 0)]) [1, 2, 3, 0] rfl ?_
  exact (L2 ((s_moveCount - (0 : Int)).toNat + 1)) 0 (by omega) (z_vac) (Nat.lt_succ_self _)
set_option maxRecDepth 20000 in
theorem cx_X8_start (l : Launch) {D : va_G} {A : Nat → Prop} {ad : Nat → Nat} {ks : z_Ks} {s_edgeCount s_moveCount s_isNeeded s_timesDone s_size s_isGoing s_allTime s_stepCount s_gapCount : Int} {g_edges g_moves g_limits : Nat → Option Nat} {a_sfacts a_sbounds a_facts a_zone a_most a_places a_amounts a_nextPlaces a_nextAmounts a_earliest a_visited a_lastSet a_gapFrom a_gapTo a_gapLeast a_askedPlaces a_askedAmounts : Nat → Int} {Y : Nat → Option va_E} {em ef et ec er gn gt ln lt : Nat → Int} {qe ql qt : Nat → Nat} (Ha_places : (∀ j, 0 ≤ a_places j ∧ a_places j ≤ 5)) (Ha_amounts : (∀ j, 0 ≤ a_amounts j ∧ a_amounts j ≤ 1000000)) (Hs_isGoing : (s_isGoing = 0 ∨ s_isGoing = 1)) (HN : z_N ks Y g_edges g_limits s_edgeCount em ef et ec er gn gt ln lt qe ql qt) : z_Met l yX8_start cX8_start 2 (some .boolean) 4 86 0 0 D A 27 ad ks [.ref (ad 13), .ref (ad 1)] (z_zc ad ks s_edgeCount s_moveCount s_isNeeded s_timesDone s_size s_isGoing s_allTime s_stepCount s_gapCount g_edges g_moves g_limits a_sfacts a_sbounds a_facts a_zone a_most a_places a_amounts a_nextPlaces a_nextAmounts a_earliest a_visited a_lastSet a_gapFrom a_gapTo a_gapLeast a_askedPlaces a_askedAmounts) Y (fun r S' Y' => ∃ na_places : Nat → Int, ∃ na_amounts : Nat → Int, ∃ ns_isGoing : Int, S' = (z_zc ad ks s_edgeCount s_moveCount s_isNeeded s_timesDone s_size ns_isGoing 0 0 s_gapCount g_edges g_moves g_limits a_sfacts a_sbounds a_facts a_zone a_most na_places na_amounts a_nextPlaces a_nextAmounts a_earliest a_visited a_lastSet a_gapFrom a_gapTo a_gapLeast a_askedPlaces a_askedAmounts) ∧ Y = Y' ∧ (∀ j, 0 ≤ na_places j ∧ na_places j ≤ 5) ∧ (∀ j, 0 ≤ na_amounts j ∧ na_amounts j ≤ 1000000) ∧ (ns_isGoing = 0 ∨ ns_isGoing = 1) ∧ (∀ j : Nat, j < 3 → na_places j = 0) ∧ (∀ j : Nat, j < 4 → na_amounts j = 0) ∧ (ns_isGoing = 1 ∧ (z_lim ln lt (fun _ => 0) (fun _ => 0)) ∨ ns_isGoing = 0 ∧ ¬ (z_lim ln lt (fun _ => 0) (fun _ => 0))) ∧ ∃ z : Int, r = some (z_v z) ∧ (z = ns_isGoing)) := by
  refine z_start2 (by decide) (Nat.le_of_ble_eq_true rfl) ?_
  intro p e R s m args below meth c Q C hRf hRc hRs hRl hQ hrt hnm
  refine z_loc (L' := [(0, .ref (ad 13)), (1, .ref (ad 1))]) [0, 1] rfl ?_
  refine z_aloadn C 0 dX8_start_0 rfl rfl ?_
  refine z_get C 13 (by decide) rfl rfl z_it8 1 (by decide) rfl fl_8_9 rfl dX8_start_1 ?_
  refine z_iconst C dX8_start_4 ?_
  refine z_callS C (cm_J7_fill_53178_14 l 0 Ha_places rfl) mv_8_24 pd_J7_fill_53178 ⟨by omega, by omega⟩ ⟨by omega, by omega⟩ rfl (Nat.le_of_ble_eq_true rfl) dX8_start_5 ?_
  rintro _ _ _ ⟨n1, rfl, rfl, h4, q5_0, rfl⟩
  refine z_aloadn C 0 dX8_start_8 rfl rfl ?_
  refine z_get C 13 (by decide) rfl rfl z_it8 2 (by decide) rfl fl_8_15 rfl dX8_start_9 ?_
  refine z_iconst C dX8_start_12 ?_
  refine z_callS C (cm_J7_fill_53178_15 l 0 Ha_amounts rfl) mv_8_24 pd_J7_fill_53178 ⟨by omega, by omega⟩ ⟨by omega, by omega⟩ rfl (Nat.le_of_ble_eq_true rfl) dX8_start_13 ?_
  rintro _ _ _ ⟨n5, rfl, rfl, h8, q13_0, rfl⟩
  refine z_aloadn C 0 dX8_start_16 rfl rfl ?_
  refine z_iconst C dX8_start_17 ?_
  refine z_put C 13 (by decide) rfl rfl z_it8 tyX8 tyX8_ok nmX8 3 (by decide) rfl (Or.inl rfl) fl_8_30 z_pfI rfl rfl (Nat.le_of_ble_eq_true rfl) dX8_start_18 ?_
  refine z_ext (S' := (z_zc ad ks s_edgeCount s_moveCount s_isNeeded s_timesDone s_size s_isGoing 0 s_stepCount s_gapCount g_edges g_moves g_limits a_sfacts a_sbounds a_facts a_zone a_most n1 n5 a_nextPlaces a_nextAmounts a_earliest a_visited a_lastSet a_gapFrom a_gapTo a_gapLeast a_askedPlaces a_askedAmounts)) upC_s_allTime ?_
  refine z_aloadn C 0 dX8_start_21 rfl rfl ?_
  refine z_iconst C dX8_start_22 ?_
  refine z_put C 13 (by decide) rfl rfl z_it8 tyX8 tyX8_ok nmX8 4 (by decide) rfl (Or.inl rfl) fl_8_34 z_pfI rfl rfl (Nat.le_of_ble_eq_true rfl) dX8_start_23 ?_
  refine z_ext (S' := (z_zc ad ks s_edgeCount s_moveCount s_isNeeded s_timesDone s_size s_isGoing 0 0 s_gapCount g_edges g_moves g_limits a_sfacts a_sbounds a_facts a_zone a_most n1 n5 a_nextPlaces a_nextAmounts a_earliest a_visited a_lastSet a_gapFrom a_gapTo a_gapLeast a_askedPlaces a_askedAmounts)) upC_s_stepCount ?_
  refine z_aloadn C 0 dX8_start_26 rfl rfl ?_
  refine z_aloadn C 1 dX8_start_27 rfl rfl ?_
  refine z_aloadn C 0 dX8_start_28 rfl rfl ?_
  refine z_get C 13 (by decide) rfl rfl z_it8 1 (by decide) rfl fl_8_9 rfl dX8_start_29 ?_
  refine z_aloadn C 0 dX8_start_32 rfl rfl ?_
  refine z_get C 13 (by decide) rfl rfl z_it8 2 (by decide) rfl fl_8_15 rfl dX8_start_33 ?_
  refine z_callV C (cx_X2_limitsAllow_14_15 l h4 h8 HN) mv_8_37 (z_atS 1 2 (by decide) rfl rfl rfl) pd_X2_limitsAllow ⟨by omega, by omega⟩ ⟨by omega, by omega⟩ rfl (Nat.le_of_ble_eq_true rfl) dX8_start_36 ?_
  rintro _ _ _ ⟨rfl, rfl, z11, rfl, hz11⟩
  have hKp := z_isz_iff hz11 (z_lim.iff HN.ckL (fun j hj => by rw [q5_0 j hj]; omega) q5_0 q13_0)
  refine z_put C 13 (by decide) rfl rfl z_it8 tyX8 tyX8_ok nmX8 0 (by decide) rfl (Or.inl rfl) fl_8_43 z_pfZ (z_nbZ (by omega)).1 (z_nbZ (by omega)).2 (Nat.le_of_ble_eq_true rfl) dX8_start_39 ?_
  refine z_ext (S' := (z_zc ad ks s_edgeCount s_moveCount s_isNeeded s_timesDone s_size z11 0 0 s_gapCount g_edges g_moves g_limits a_sfacts a_sbounds a_facts a_zone a_most n1 n5 a_nextPlaces a_nextAmounts a_earliest a_visited a_lastSet a_gapFrom a_gapTo a_gapLeast a_askedPlaces a_askedAmounts)) upC_s_isGoing ?_
  refine z_aloadn C 0 dX8_start_42 rfl rfl ?_
  refine z_get C 13 (by decide) rfl rfl z_it8 0 (by decide) rfl fl_8_43 rfl dX8_start_43 ?_
  rw [hQ]
  exact z_zret C hrt (by omega) dX8_start_46 (⟨n1, n5, z11, rfl, rfl, h4, h8, by omega, q5_0, q13_0, hKp, _, rfl, by omega⟩) (by omega) (by omega)
set_option maxRecDepth 20000 in
theorem cx_X8_greatestAmount (l : Launch) {D : va_G} {A : Nat → Prop} {ad : Nat → Nat} {ks : z_Ks} {s_edgeCount s_moveCount s_isNeeded s_timesDone s_size s_isGoing s_allTime s_stepCount s_gapCount : Int} {g_edges g_moves g_limits : Nat → Option Nat} {a_sfacts a_sbounds a_facts a_zone a_most a_places a_amounts a_nextPlaces a_nextAmounts a_earliest a_visited a_lastSet a_gapFrom a_gapTo a_gapLeast a_askedPlaces a_askedAmounts : Nat → Int} {Y : Nat → Option va_E} (Ha_amounts : (∀ j, 0 ≤ a_amounts j ∧ a_amounts j ≤ 1000000)) : z_Met l yX8_greatestAmount cX8_greatestAmount 1 (some .int) 1 21 0 0 D A 27 ad ks [.ref (ad 13)] (z_zc ad ks s_edgeCount s_moveCount s_isNeeded s_timesDone s_size s_isGoing s_allTime s_stepCount s_gapCount g_edges g_moves g_limits a_sfacts a_sbounds a_facts a_zone a_most a_places a_amounts a_nextPlaces a_nextAmounts a_earliest a_visited a_lastSet a_gapFrom a_gapTo a_gapLeast a_askedPlaces a_askedAmounts) Y (fun r S' Y' => S' = (z_zc ad ks s_edgeCount s_moveCount s_isNeeded s_timesDone s_size s_isGoing s_allTime s_stepCount s_gapCount g_edges g_moves g_limits a_sfacts a_sbounds a_facts a_zone a_most a_places a_amounts a_nextPlaces a_nextAmounts a_earliest a_visited a_lastSet a_gapFrom a_gapTo a_gapLeast a_askedPlaces a_askedAmounts) ∧ Y = Y' ∧ ∃ z : Int, r = some (z_v z) ∧ ((z = a_amounts 1 ∨ z = a_amounts 2 ∨ z = a_amounts 3) ∧ a_amounts 1 ≤ z ∧ a_amounts 2 ≤ z ∧ a_amounts 3 ≤ z)) := by
  refine z_start2 (by decide) (Nat.le_of_ble_eq_true rfl) ?_
  intro p e R s m args below meth c Q C hRf hRc hRs hRl hQ hrt hnm
  refine z_loc (L' := [(0, .ref (ad 13))]) [0] rfl ?_
  refine z_aloadn C 0 dX8_greatestAmount_0 rfl rfl ?_
  refine z_get C 13 (by decide) rfl rfl z_it8 2 (by decide) rfl fl_8_15 rfl dX8_greatestAmount_1 ?_
  refine z_iconst C dX8_greatestAmount_4 ?_
  refine z_iald C 15 (by decide) rfl (by decide) (by omega) (by omega) dX8_greatestAmount_5 ?_
  have rx1 := Ha_amounts (1 : Int).toNat
  generalize ex1 : a_amounts (1 : Int).toNat = x1 at rx1 ⊢
  refine z_aloadn C 0 dX8_greatestAmount_6 rfl rfl ?_
  refine z_get C 13 (by decide) rfl rfl z_it8 2 (by decide) rfl fl_8_15 rfl dX8_greatestAmount_7 ?_
  refine z_iconst C dX8_greatestAmount_10 ?_
  refine z_iald C 15 (by decide) rfl (by decide) (by omega) (by omega) dX8_greatestAmount_11 ?_
  have rx2 := Ha_amounts (2 : Int).toNat
  generalize ex2 : a_amounts (2 : Int).toNat = x2 at rx2 ⊢
  refine z_aloadn C 0 dX8_greatestAmount_12 rfl rfl ?_
  refine z_get C 13 (by decide) rfl rfl z_it8 2 (by decide) rfl fl_8_15 rfl dX8_greatestAmount_13 ?_
  refine z_iconst C dX8_greatestAmount_16 ?_
  refine z_iald C 15 (by decide) rfl (by decide) (by omega) (by omega) dX8_greatestAmount_17 ?_
  have rx3 := Ha_amounts (3 : Int).toNat
  generalize ex3 : a_amounts (3 : Int).toNat = x3 at rx3 ⊢
  refine z_max C mm_8_47 (by omega) (by omega) (by omega) (by rw [hRl]; exact Nat.le_of_ble_eq_true rfl) (by omega) (by omega) dX8_greatestAmount_18 ?_
  obtain ⟨x4, ex4⟩ : ∃ z : Int, z = (if x2 < x3 then x3 else x2) := ⟨_, rfl⟩
  rw [← ex4]
  have rx4 : (x4 = x2 ∨ x4 = x3) ∧ x2 ≤ x4 ∧ x3 ≤ x4 := by split at ex4 <;> omega
  refine z_max C mm_8_47 (by omega) (by omega) (by omega) (by rw [hRl]; exact Nat.le_of_ble_eq_true rfl) (by omega) (by omega) dX8_greatestAmount_21 ?_
  obtain ⟨x5, ex5⟩ : ∃ z : Int, z = (if x1 < x4 then x4 else x1) := ⟨_, rfl⟩
  rw [← ex5]
  have rx5 : (x5 = x1 ∨ x5 = x4) ∧ x1 ≤ x5 ∧ x4 ≤ x5 := by split at ex5 <;> omega
  have i1 : a_amounts (1 : Int).toNat = a_amounts 1 := rfl
  have i2 : a_amounts (2 : Int).toNat = a_amounts 2 := rfl
  have i3 : a_amounts (3 : Int).toNat = a_amounts 3 := rfl
  rw [hQ]
  exact z_iret C hrt dX8_greatestAmount_24 (⟨rfl, rfl, _, rfl, by omega⟩) (by omega) (by omega)
set_option maxRecDepth 20000 in
theorem cx_X8_linger (l : Launch) {D : va_G} {A : Nat → Prop} {ad : Nat → Nat} {ks : z_Ks} {s_edgeCount s_moveCount s_isNeeded s_timesDone s_size s_isGoing s_allTime s_stepCount s_gapCount : Int} {g_edges g_moves g_limits : Nat → Option Nat} {a_sfacts a_sbounds a_facts a_zone a_most a_places a_amounts a_nextPlaces a_nextAmounts a_earliest a_visited a_lastSet a_gapFrom a_gapTo a_gapLeast a_askedPlaces a_askedAmounts : Nat → Int} {Y : Nat → Option va_E} {em ef et ec er gn gt ln lt : Nat → Int} {qe ql qt : Nat → Nat} (n0 : Int) (Ha_places : (∀ j, 0 ≤ a_places j ∧ a_places j ≤ 5)) (Ha_amounts : (∀ j, 0 ≤ a_amounts j ∧ a_amounts j ≤ 1000000)) (Ha_nextAmounts : (∀ j, 0 ≤ a_nextAmounts j ∧ a_nextAmounts j ≤ 1064000)) (hn : 1 ≤ n0 ∧ n0 ≤ 64000) (hz0 : a_amounts 0 = 0) (hz1 : a_nextAmounts 0 = 0) (hnf : ¬ z_far a_amounts n0) (HN : z_N ks Y g_edges g_limits s_edgeCount em ef et ec er gn gt ln lt qe ql qt) : z_Met l yX8_linger cX8_linger 4 (some .boolean) 4 86 0 0 D A 27 ad ks [.ref (ad 13), .ref (ad 1), z_v n0] (z_zc ad ks s_edgeCount s_moveCount s_isNeeded s_timesDone s_size s_isGoing s_allTime s_stepCount s_gapCount g_edges g_moves g_limits a_sfacts a_sbounds a_facts a_zone a_most a_places a_amounts a_nextPlaces a_nextAmounts a_earliest a_visited a_lastSet a_gapFrom a_gapTo a_gapLeast a_askedPlaces a_askedAmounts) Y (fun r S' Y' => ∃ na_amounts : Nat → Int, ∃ na_nextAmounts : Nat → Int, ∃ ns_allTime : Int, S' = (z_zc ad ks s_edgeCount s_moveCount s_isNeeded s_timesDone s_size s_isGoing ns_allTime s_stepCount s_gapCount g_edges g_moves g_limits a_sfacts a_sbounds a_facts a_zone a_most a_places na_amounts a_nextPlaces na_nextAmounts a_earliest a_visited a_lastSet a_gapFrom a_gapTo a_gapLeast a_askedPlaces a_askedAmounts) ∧ Y = Y' ∧ (∀ j, 0 ≤ na_amounts j ∧ na_amounts j ≤ 1000000) ∧ (∀ j, 0 ≤ na_nextAmounts j ∧ na_nextAmounts j ≤ 1064000) ∧ na_nextAmounts 0 = 0 ∧ ∃ z : Int, r = some (z_v z) ∧ ((z = 1 ∧ (z_lim ln lt a_places (z_sh a_amounts n0)) ∨ z = 0 ∧ ¬ (z_lim ln lt a_places (z_sh a_amounts n0))) ∧ (z = 1 → (∀ j : Nat, j < 4 → na_amounts j = z_sh a_amounts n0 j) ∧ ns_allTime = s_allTime + n0) ∧ (z ≠ 1 → na_amounts = a_amounts ∧ ns_allTime = s_allTime))) := by
  refine z_start2 (by decide) (Nat.le_of_ble_eq_true rfl) ?_
  intro p e R s m args below meth c Q C hRf hRc hRs hRl hQ hrt hnm
  refine z_loc (L' := [(0, .ref (ad 13)), (1, .ref (ad 1)), (2, z_v n0)]) [0, 1, 2] rfl ?_
  refine z_iconst C dX8_linger_0 ?_
  refine z_istoren (L' := [(3, z_v 1), (0, .ref (ad 13)), (1, .ref (ad 1)), (2, z_v n0)]) C dX8_linger_1 rfl (by decide) rfl ?_
  have L2 : ∀ (n : Nat), ∀ (i3 : Int) (fa_nextAmounts : Nat → Int), ((∀ j, 0 ≤ fa_nextAmounts j ∧ fa_nextAmounts j ≤ 1064000)) → (∀ j : Nat, 1 ≤ j → (j : Int) < i3 → fa_nextAmounts j = a_amounts j + n0) → (fa_nextAmounts 0 = 0) → (1 ≤ i3 ∧ i3 ≤ 4) → ((4 : Int) - i3).toNat < n → z_V p l e R s m args below meth c Q D A 27 ad 4 (z_zc ad ks s_edgeCount s_moveCount s_isNeeded s_timesDone s_size s_isGoing s_allTime s_stepCount s_gapCount g_edges g_moves g_limits a_sfacts a_sbounds a_facts a_zone a_most a_places a_amounts a_nextPlaces fa_nextAmounts a_earliest a_visited a_lastSet a_gapFrom a_gapTo a_gapLeast a_askedPlaces a_askedAmounts) Y 0 0 2 [(0, .ref (ad 13)), (1, .ref (ad 1)), (2, z_v n0), (3, z_v i3)] [] := by
    intro n
    induction n with
    | zero => intro i3 fa_nextAmounts Hfa_nextAmounts FB F0 I3 hm; exact absurd hm (Nat.not_lt_zero _)
    | succ n ih2 =>
      intro i3 fa_nextAmounts Hfa_nextAmounts FB F0 I3 hm
      refine z_iloadn C 3 dX8_linger_2 rfl rfl ?_
      refine z_iconst C dX8_linger_3 ?_
      refine z_icmp_ge (t := 27) C dX8_linger_4 (by decide) (by omega) (by omega) (fun c1 => ?_) (fun c1 => ?_)
      · skip
        refine z_aloadn C 1 dX8_linger_27 rfl rfl ?_
        refine z_aloadn C 0 dX8_linger_28 rfl rfl ?_
        refine z_get C 13 (by decide) rfl rfl z_it8 1 (by decide) rfl fl_8_9 rfl dX8_linger_29 ?_
        refine z_aloadn C 0 dX8_linger_32 rfl rfl ?_
        refine z_get C 13 (by decide) rfl rfl z_it8 6 (by decide) rfl fl_8_21 rfl dX8_linger_33 ?_
        have hsh : ∀ j, j < 4 → fa_nextAmounts j = z_sh a_amounts n0 j := fun j hj => by unfold z_sh; split; (subst_vars; rw [F0, hz0]); exact FB j (by omega) (by omega)
        have hsr := z_sh_rg (fun j hj => Ha_amounts j) (by omega) hnf
        refine z_callV C (cx_X2_limitsAllow_14_17 l Ha_places Hfa_nextAmounts HN) mv_8_37 (z_atS 1 2 (by decide) rfl rfl rfl) pd_X2_limitsAllow ⟨by omega, by omega⟩ ⟨by omega, by omega⟩ rfl (Nat.le_of_ble_eq_true rfl) dX8_linger_36 ?_
        rintro _ _ _ ⟨rfl, rfl, z4, rfl, hz4⟩
        have hKp := z_isz_iff hz4 (z_lim.iff HN.ckL (fun j _ => Ha_places j) (fun j _ => rfl) hsh)
        refine z_if_ne (t := 44) C dX8_linger_39 (by decide) (by omega) (fun c5 => ?_) (fun c5 => ?_)
        · skip
          refine z_aloadn C 0 dX8_linger_44 rfl rfl ?_
          refine z_get C 13 (by decide) rfl rfl z_it8 6 (by decide) rfl fl_8_21 rfl dX8_linger_45 ?_
          refine z_iconst C dX8_linger_48 ?_
          refine z_aloadn C 0 dX8_linger_49 rfl rfl ?_
          refine z_get C 13 (by decide) rfl rfl z_it8 2 (by decide) rfl fl_8_15 rfl dX8_linger_50 ?_
          refine z_iconst C dX8_linger_53 ?_
          refine z_iconst C dX8_linger_54 ?_
          refine z_copy C 17 15 (by decide) (by decide) rfl rfl mc_8_53 (by omega) (by omega) (by omega) (by omega) (by omega) (by decide) (by decide) (by omega) (by rw [hRl]; exact Nat.le_of_ble_eq_true rfl) dX8_linger_55 ?_
          refine z_ext (S' := (z_zc ad ks s_edgeCount s_moveCount s_isNeeded s_timesDone s_size s_isGoing s_allTime s_stepCount s_gapCount g_edges g_moves g_limits a_sfacts a_sbounds a_facts a_zone a_most a_places (va_cpy fa_nextAmounts a_amounts (0 : Int).toNat (0 : Int).toNat (4 : Int).toNat) a_nextPlaces fa_nextAmounts a_earliest a_visited a_lastSet a_gapFrom a_gapTo a_gapLeast a_askedPlaces a_askedAmounts)) upC_a_amounts ?_
          have h6 : ∀ j, 0 ≤ (va_cpy fa_nextAmounts a_amounts (0 : Int).toNat (0 : Int).toNat (4 : Int).toNat) j ∧ (va_cpy fa_nextAmounts a_amounts (0 : Int).toNat (0 : Int).toNat (4 : Int).toNat) j ≤ 1000000 := z_cpyR hsh hsr Ha_amounts
          refine z_aloadn C 0 dX8_linger_58 rfl rfl ?_
          refine z_dup C dX8_linger_59 rfl ?_
          refine z_get C 13 (by decide) rfl rfl z_it8 3 (by decide) rfl fl_8_30 rfl dX8_linger_60 ?_
          refine z_iloadn C 2 dX8_linger_63 rfl rfl ?_
          refine z_iadd C dX8_linger_64 ?_
          refine z_put C 13 (by decide) rfl rfl z_it8 tyX8 tyX8_ok nmX8 3 (by decide) rfl (Or.inl rfl) fl_8_30 z_pfI rfl rfl (Nat.le_of_ble_eq_true rfl) dX8_linger_65 ?_
          refine z_ext (S' := (z_zc ad ks s_edgeCount s_moveCount s_isNeeded s_timesDone s_size s_isGoing (s_allTime + n0) s_stepCount s_gapCount g_edges g_moves g_limits a_sfacts a_sbounds a_facts a_zone a_most a_places (va_cpy fa_nextAmounts a_amounts (0 : Int).toNat (0 : Int).toNat (4 : Int).toNat) a_nextPlaces fa_nextAmounts a_earliest a_visited a_lastSet a_gapFrom a_gapTo a_gapLeast a_askedPlaces a_askedAmounts)) upC_s_allTime ?_
          refine z_iconst C dX8_linger_68 ?_
          rw [hQ]
          exact z_zret C hrt (by omega) dX8_linger_69 (⟨(va_cpy fa_nextAmounts a_amounts (0 : Int).toNat (0 : Int).toNat (4 : Int).toNat), fa_nextAmounts, (s_allTime + n0), rfl, rfl, h6, Hfa_nextAmounts, F0, _, rfl, ⟨Or.inl ⟨rfl, z_isz1 hKp (by omega)⟩, fun _ => ⟨fun j hj => (z_cpy0 hj).trans (hsh j hj), rfl⟩, fun h => absurd rfl h⟩⟩) (by omega) (by omega)
        · skip
          refine z_iconst C dX8_linger_42 ?_
          rw [hQ]
          exact z_zret C hrt (by omega) dX8_linger_43 (⟨a_amounts, fa_nextAmounts, s_allTime, rfl, rfl, Ha_amounts, Hfa_nextAmounts, F0, _, rfl, ⟨Or.inr ⟨rfl, z_isz0 hKp (by omega)⟩, fun h => absurd h (by decide), fun _ => ⟨rfl, rfl⟩⟩⟩) (by omega) (by omega)
      · skip
        refine z_aloadn C 0 dX8_linger_7 rfl rfl ?_
        refine z_get C 13 (by decide) rfl rfl z_it8 6 (by decide) rfl fl_8_21 rfl dX8_linger_8 ?_
        refine z_iloadn C 3 dX8_linger_11 rfl rfl ?_
        refine z_aloadn C 0 dX8_linger_12 rfl rfl ?_
        refine z_get C 13 (by decide) rfl rfl z_it8 2 (by decide) rfl fl_8_15 rfl dX8_linger_13 ?_
        refine z_iloadn C 3 dX8_linger_16 rfl rfl ?_
        refine z_iald C 15 (by decide) rfl (by decide) (by omega) (by omega) dX8_linger_17 ?_
        have rx7 := Ha_amounts (i3 : Int).toNat
        generalize ex7 : a_amounts (i3 : Int).toNat = x7 at rx7 ⊢
        refine z_iloadn C 2 dX8_linger_18 rfl rfl ?_
        refine z_iadd C dX8_linger_19 ?_
        refine z_iast C 17 (by decide) rfl (by decide) (by omega) (by omega) dX8_linger_20 ?_
        refine z_ext (S' := (z_zc ad ks s_edgeCount s_moveCount s_isNeeded s_timesDone s_size s_isGoing s_allTime s_stepCount s_gapCount g_edges g_moves g_limits a_sfacts a_sbounds a_facts a_zone a_most a_places a_amounts a_nextPlaces (va_up fa_nextAmounts (i3 : Int).toNat (x7 + n0)) a_earliest a_visited a_lastSet a_gapFrom a_gapTo a_gapLeast a_askedPlaces a_askedAmounts)) upC_a_nextAmounts ?_
        have h8 : ∀ j, 0 ≤ (va_up fa_nextAmounts (i3 : Int).toNat (x7 + n0)) j ∧ (va_up fa_nextAmounts (i3 : Int).toNat (x7 + n0)) j ≤ 1064000 := z_upP (P := fun j v => 0 ≤ v ∧ v ≤ 1064000) Hfa_nextAmounts (by omega)
        refine z_iinc (L' := [(3, z_v (i3 + 1)), (0, .ref (ad 13)), (1, .ref (ad 1)), (2, z_v n0)]) C 3 dX8_linger_21 rfl (by decide) rfl ?_
        refine z_goto (t := 2) C dX8_linger_24 (by decide) ?_
        refine z_loc (L' := [(0, .ref (ad 13)), (1, .ref (ad 1)), (2, z_v n0), (3, z_v (i3 + 1))]) [1, 2, 3, 0] rfl ?_
        exact ih2 (i3 + 1) (va_up fa_nextAmounts (i3 : Int).toNat (x7 + n0)) h8 (z_psB FB (by omega) (by omega)) ((if_neg (by omega)).trans F0) (by omega) (by omega)
  refine z_loc (L' := [(0, .ref (ad 13)), (1, .ref (ad 1)), (2, z_v n0), (3, z_v 1)]) [1, 2, 3, 0] rfl ?_
  exact (L2 (((4 : Int) - 1).toNat + 1)) 1 a_nextAmounts Ha_nextAmounts (fun j h1 h2 => absurd h2 (by omega)) (hz1) (by omega) (Nat.lt_succ_self _)
set_option maxRecDepth 20000 in
theorem cx_X8_take (l : Launch) {D : va_G} {A : Nat → Prop} {ad : Nat → Nat} {ks : z_Ks} {s_edgeCount s_moveCount s_isNeeded s_timesDone s_size s_isGoing s_allTime s_stepCount s_gapCount : Int} {g_edges g_moves g_limits : Nat → Option Nat} {a_sfacts a_sbounds a_facts a_zone a_most a_places a_amounts a_nextPlaces a_nextAmounts a_earliest a_visited a_lastSet a_gapFrom a_gapTo a_gapLeast a_askedPlaces a_askedAmounts : Nat → Int} {Y : Nat → Option va_E} {em ef et ec er gn gt ln lt : Nat → Int} {qe ql qt : Nat → Nat} {f0 s0 : Int} (q : Nat) (Ha_places : (∀ j, 0 ≤ a_places j ∧ a_places j ≤ 5)) (Ha_amounts : (∀ j, 0 ≤ a_amounts j ∧ a_amounts j ≤ 1000000)) (Ha_nextPlaces : (∀ j, 0 ≤ a_nextPlaces j ∧ a_nextPlaces j ≤ 5)) (Ha_nextAmounts : (∀ j, 0 ≤ a_nextAmounts j ∧ a_nextAmounts j ≤ 1064000)) (Hs_edgeCount : 0 ≤ s_edgeCount ∧ s_edgeCount ≤ 20) (hq : z_MX Y q f0 s0 s_edgeCount qe er) (HN : z_N ks Y g_edges g_limits s_edgeCount em ef et ec er gn gt ln lt qe ql qt) (hz0 : a_amounts 0 = 0) (hz1 : a_nextAmounts 0 = 0) : z_Met l yX8_take cX8_take 4 (some .boolean) 4 86 0 0 D A 27 ad ks [.ref (ad 13), .ref (ad 1), .ref q] (z_zc ad ks s_edgeCount s_moveCount s_isNeeded s_timesDone s_size s_isGoing s_allTime s_stepCount s_gapCount g_edges g_moves g_limits a_sfacts a_sbounds a_facts a_zone a_most a_places a_amounts a_nextPlaces a_nextAmounts a_earliest a_visited a_lastSet a_gapFrom a_gapTo a_gapLeast a_askedPlaces a_askedAmounts) Y (fun r S' Y' => ∃ na_places : Nat → Int, ∃ na_amounts : Nat → Int, ∃ na_nextPlaces : Nat → Int, ∃ na_nextAmounts : Nat → Int, ∃ ns_stepCount : Int, S' = (z_zc ad ks s_edgeCount s_moveCount s_isNeeded s_timesDone s_size s_isGoing s_allTime ns_stepCount s_gapCount g_edges g_moves g_limits a_sfacts a_sbounds a_facts a_zone a_most na_places na_amounts na_nextPlaces na_nextAmounts a_earliest a_visited a_lastSet a_gapFrom a_gapTo a_gapLeast a_askedPlaces a_askedAmounts) ∧ Y = Y' ∧ (∀ j, 0 ≤ na_places j ∧ na_places j ≤ 5) ∧ (∀ j, 0 ≤ na_amounts j ∧ na_amounts j ≤ 1000000) ∧ (∀ j, 0 ≤ na_nextPlaces j ∧ na_nextPlaces j ≤ 5) ∧ (∀ j, 0 ≤ na_nextAmounts j ∧ na_nextAmounts j ≤ 1064000) ∧ na_nextAmounts 0 = 0 ∧ ∃ z : Int, r = some (z_v z) ∧ ((z = 1 ∧ (z_op2 f0 s0 em ef gn gt a_places a_amounts ∧ z_lim ln lt (z_goA a_places em et f0 s0) (z_goC a_amounts er f0 s0)) ∨ z = 0 ∧ ¬ (z_op2 f0 s0 em ef gn gt a_places a_amounts ∧ z_lim ln lt (z_goA a_places em et f0 s0) (z_goC a_amounts er f0 s0))) ∧ (z = 1 → (∀ j : Nat, j < 3 → na_places j = z_goA a_places em et f0 s0 j) ∧ (∀ j : Nat, j < 4 → na_amounts j = z_goC a_amounts er f0 s0 j) ∧ ns_stepCount = s_stepCount + 1) ∧ (z ≠ 1 → na_places = a_places ∧ na_amounts = a_amounts ∧ ns_stepCount = s_stepCount))) := by
  refine z_start2 (by decide) (Nat.le_of_ble_eq_true rfl) ?_
  intro p e R s m args below meth c Q C hRf hRc hRs hRl hQ hrt hnm
  refine z_loc (L' := [(0, .ref (ad 13)), (1, .ref (ad 1)), (2, .ref q)]) [0, 1, 2] rfl ?_
  refine z_aloadn C 2 dX8_take_0 rfl rfl ?_
  refine z_aloadn C 0 dX8_take_1 rfl rfl ?_
  refine z_get C 13 (by decide) rfl rfl z_it8 1 (by decide) rfl fl_8_9 rfl dX8_take_2 ?_
  obtain ⟨rd1, yd1, ad1, bd1, cd1⟩ := id hq
  refine z_callV C (cx_X1_startsAt_14 l q Ha_places (by omega) hq HN) mv_8_59 (z_atY 1 yd1 rfl rfl) pd_X1_startsAt ⟨by omega, by omega⟩ ⟨by omega, by omega⟩ rfl (Nat.le_of_ble_eq_true rfl) dX8_take_5 ?_
  rintro _ _ _ ⟨rfl, rfl, z4, rfl, hz4⟩
  have hst := hz4
  refine z_if_eq (t := 22) C dX8_take_8 (by decide) (by omega) (fun c5 => ?_) (fun c5 => ?_)
  · skip
    refine z_iconst C dX8_take_22 ?_
    rw [hQ]
    exact z_zret C hrt (by omega) dX8_take_23 (⟨a_places, a_amounts, a_nextPlaces, a_nextAmounts, s_stepCount, rfl, rfl, Ha_places, Ha_amounts, Ha_nextPlaces, Ha_nextAmounts, by first | exact F0 | exact hz1, _, rfl, ⟨Or.inr ⟨rfl, fun h => by first | exact z_tk_no (b := 0) hst (Or.inl (by omega)) h.1 | exact z_tk_no hst (Or.inr ⟨hgu, by omega⟩) h.1⟩, fun h => absurd h (by decide), fun _ => ⟨rfl, rfl, rfl⟩⟩⟩) (by omega) (by omega)
  · skip
    refine z_aloadn C 2 dX8_take_11 rfl rfl ?_
    refine z_aloadn C 0 dX8_take_12 rfl rfl ?_
    refine z_get C 13 (by decide) rfl rfl z_it8 2 (by decide) rfl fl_8_15 rfl dX8_take_13 ?_
    refine z_callV C (cx_X1_guardsAllow_15 l q Ha_amounts (by omega) hq HN) mv_8_65 (z_atY 1 yd1 rfl rfl) pd_X1_guardsAllow ⟨by omega, by omega⟩ ⟨by omega, by omega⟩ rfl (Nat.le_of_ble_eq_true rfl) dX8_take_16 ?_
    rintro _ _ _ ⟨rfl, rfl, z8, rfl, hz8⟩
    have hgu := hz8
    refine z_if_ne (t := 24) C dX8_take_19 (by decide) (by omega) (fun c9 => ?_) (fun c9 => ?_)
    · skip
      refine z_aloadn C 0 dX8_take_24 rfl rfl ?_
      refine z_get C 13 (by decide) rfl rfl z_it8 1 (by decide) rfl fl_8_9 rfl dX8_take_25 ?_
      refine z_iconst C dX8_take_28 ?_
      refine z_aloadn C 0 dX8_take_29 rfl rfl ?_
      refine z_get C 13 (by decide) rfl rfl z_it8 5 (by decide) rfl fl_8_18 rfl dX8_take_30 ?_
      refine z_iconst C dX8_take_33 ?_
      refine z_iconst C dX8_take_34 ?_
      refine z_copy C 14 16 (by decide) (by decide) rfl rfl mc_8_53 (by omega) (by omega) (by omega) (by omega) (by omega) (by decide) (by decide) (by omega) (by rw [hRl]; exact Nat.le_of_ble_eq_true rfl) dX8_take_35 ?_
      refine z_ext (S' := (z_zc ad ks s_edgeCount s_moveCount s_isNeeded s_timesDone s_size s_isGoing s_allTime s_stepCount s_gapCount g_edges g_moves g_limits a_sfacts a_sbounds a_facts a_zone a_most a_places a_amounts (va_cpy a_places a_nextPlaces (0 : Int).toNat (0 : Int).toNat (3 : Int).toNat) a_nextAmounts a_earliest a_visited a_lastSet a_gapFrom a_gapTo a_gapLeast a_askedPlaces a_askedAmounts)) upC_a_nextPlaces ?_
      have hp0 : ∀ j, j < 3 → (va_cpy a_places a_nextPlaces (0 : Int).toNat (0 : Int).toNat (3 : Int).toNat) j = a_places j := fun j hj => z_cpy0 hj
      have h10 : ∀ j, 0 ≤ (va_cpy a_places a_nextPlaces (0 : Int).toNat (0 : Int).toNat (3 : Int).toNat) j ∧ (va_cpy a_places a_nextPlaces (0 : Int).toNat (0 : Int).toNat (3 : Int).toNat) j ≤ 5 := z_cpyP (P := fun v => 0 ≤ v ∧ v ≤ 5) Ha_places Ha_nextPlaces
      refine z_aloadn C 2 dX8_take_38 rfl rfl ?_
      refine z_aloadn C 0 dX8_take_39 rfl rfl ?_
      refine z_get C 13 (by decide) rfl rfl z_it8 5 (by decide) rfl fl_8_18 rfl dX8_take_40 ?_
      refine z_callV C (cx_X1_carry_16 l q h10 (by omega) hq HN) mv_8_68 (z_atY 1 yd1 rfl rfl) pd_X1_carry ⟨by omega, by omega⟩ ⟨by omega, by omega⟩ rfl (Nat.le_of_ble_eq_true rfl) dX8_take_43 ?_
      rintro _ _ _ ⟨n11, rfl, rfl, h14, q43_0, rfl⟩
      refine z_iconst C dX8_take_46 ?_
      refine z_istoren (L' := [(3, z_v 1), (0, .ref (ad 13)), (1, .ref (ad 1)), (2, .ref q)]) C dX8_take_47 rfl (by decide) rfl ?_
      have L48 : ∀ (n : Nat), ∀ (i3 : Int) (fa_nextAmounts : Nat → Int), ((∀ j, 0 ≤ fa_nextAmounts j ∧ fa_nextAmounts j ≤ 1064000)) → (∀ j : Nat, 1 ≤ j → (j : Int) < i3 → fa_nextAmounts j = z_goC a_amounts er f0 s0 j) → (fa_nextAmounts 0 = 0) → (1 ≤ i3 ∧ i3 ≤ 4) → ((4 : Int) - i3).toNat < n → z_V p l e R s m args below meth c Q D A 27 ad 4 (z_zc ad ks s_edgeCount s_moveCount s_isNeeded s_timesDone s_size s_isGoing s_allTime s_stepCount s_gapCount g_edges g_moves g_limits a_sfacts a_sbounds a_facts a_zone a_most a_places a_amounts n11 fa_nextAmounts a_earliest a_visited a_lastSet a_gapFrom a_gapTo a_gapLeast a_askedPlaces a_askedAmounts) Y 0 0 48 [(0, .ref (ad 13)), (1, .ref (ad 1)), (2, .ref q), (3, z_v i3)] [] := by
        intro n
        induction n with
        | zero => intro i3 fa_nextAmounts Hfa_nextAmounts FG F0 I3 hm; exact absurd hm (Nat.not_lt_zero _)
        | succ n ih48 =>
          intro i3 fa_nextAmounts Hfa_nextAmounts FG F0 I3 hm
          refine z_iloadn C 3 dX8_take_48 rfl rfl ?_
          refine z_iconst C dX8_take_49 ?_
          refine z_icmp_ge (t := 83) C dX8_take_50 (by decide) (by omega) (by omega) (fun c15 => ?_) (fun c15 => ?_)
          · skip
            refine z_aloadn C 1 dX8_take_83 rfl rfl ?_
            refine z_aloadn C 0 dX8_take_84 rfl rfl ?_
            refine z_get C 13 (by decide) rfl rfl z_it8 5 (by decide) rfl fl_8_18 rfl dX8_take_85 ?_
            refine z_aloadn C 0 dX8_take_88 rfl rfl ?_
            refine z_get C 13 (by decide) rfl rfl z_it8 6 (by decide) rfl fl_8_21 rfl dX8_take_89 ?_
            have hA : ∀ j, j < 3 → n11 j = z_goA a_places em et f0 s0 j := by rw [q43_0]; exact z_goA_pt hp0
            have hB : ∀ j, j < 4 → fa_nextAmounts j = z_goC a_amounts er f0 s0 j := z_tkF FG F0 hz0 (by omega)
            have hBr := z_goC_rg (er := er) (e := f0) (f := s0) (fun j hj => Ha_amounts j)
            have hOO : z_op2 f0 s0 em ef gn gt a_places a_amounts := z_tk_op hst hgu (by omega) (by omega)
            refine z_callV C (cx_X2_limitsAllow_16_17 l h14 Hfa_nextAmounts HN) mv_8_37 (z_atS 1 2 (by decide) rfl rfl rfl) pd_X2_limitsAllow ⟨by omega, by omega⟩ ⟨by omega, by omega⟩ rfl (Nat.le_of_ble_eq_true rfl) dX8_take_92 ?_
            rintro _ _ _ ⟨rfl, rfl, z18, rfl, hz18⟩
            have hKp := z_isz_iff hz18 (z_lim.iff HN.ckL (fun j hj => h14 j) hA hB)
            refine z_if_ne (t := 100) C dX8_take_95 (by decide) (by omega) (fun c19 => ?_) (fun c19 => ?_)
            · skip
              refine z_aloadn C 0 dX8_take_100 rfl rfl ?_
              refine z_get C 13 (by decide) rfl rfl z_it8 5 (by decide) rfl fl_8_18 rfl dX8_take_101 ?_
              refine z_iconst C dX8_take_104 ?_
              refine z_aloadn C 0 dX8_take_105 rfl rfl ?_
              refine z_get C 13 (by decide) rfl rfl z_it8 1 (by decide) rfl fl_8_9 rfl dX8_take_106 ?_
              refine z_iconst C dX8_take_109 ?_
              refine z_iconst C dX8_take_110 ?_
              refine z_copy C 16 14 (by decide) (by decide) rfl rfl mc_8_53 (by omega) (by omega) (by omega) (by omega) (by omega) (by decide) (by decide) (by omega) (by rw [hRl]; exact Nat.le_of_ble_eq_true rfl) dX8_take_111 ?_
              refine z_ext (S' := (z_zc ad ks s_edgeCount s_moveCount s_isNeeded s_timesDone s_size s_isGoing s_allTime s_stepCount s_gapCount g_edges g_moves g_limits a_sfacts a_sbounds a_facts a_zone a_most (va_cpy n11 a_places (0 : Int).toNat (0 : Int).toNat (3 : Int).toNat) a_amounts n11 fa_nextAmounts a_earliest a_visited a_lastSet a_gapFrom a_gapTo a_gapLeast a_askedPlaces a_askedAmounts)) upC_a_places ?_
              have h20 : ∀ j, 0 ≤ (va_cpy n11 a_places (0 : Int).toNat (0 : Int).toNat (3 : Int).toNat) j ∧ (va_cpy n11 a_places (0 : Int).toNat (0 : Int).toNat (3 : Int).toNat) j ≤ 5 := z_cpyP (P := fun v => 0 ≤ v ∧ v ≤ 5) h14 Ha_places
              refine z_aloadn C 0 dX8_take_114 rfl rfl ?_
              refine z_get C 13 (by decide) rfl rfl z_it8 6 (by decide) rfl fl_8_21 rfl dX8_take_115 ?_
              refine z_iconst C dX8_take_118 ?_
              refine z_aloadn C 0 dX8_take_119 rfl rfl ?_
              refine z_get C 13 (by decide) rfl rfl z_it8 2 (by decide) rfl fl_8_15 rfl dX8_take_120 ?_
              refine z_iconst C dX8_take_123 ?_
              refine z_iconst C dX8_take_124 ?_
              refine z_copy C 17 15 (by decide) (by decide) rfl rfl mc_8_53 (by omega) (by omega) (by omega) (by omega) (by omega) (by decide) (by decide) (by omega) (by rw [hRl]; exact Nat.le_of_ble_eq_true rfl) dX8_take_125 ?_
              refine z_ext (S' := (z_zc ad ks s_edgeCount s_moveCount s_isNeeded s_timesDone s_size s_isGoing s_allTime s_stepCount s_gapCount g_edges g_moves g_limits a_sfacts a_sbounds a_facts a_zone a_most (va_cpy n11 a_places (0 : Int).toNat (0 : Int).toNat (3 : Int).toNat) (va_cpy fa_nextAmounts a_amounts (0 : Int).toNat (0 : Int).toNat (4 : Int).toNat) n11 fa_nextAmounts a_earliest a_visited a_lastSet a_gapFrom a_gapTo a_gapLeast a_askedPlaces a_askedAmounts)) upC_a_amounts ?_
              have h21 : ∀ j, 0 ≤ (va_cpy fa_nextAmounts a_amounts (0 : Int).toNat (0 : Int).toNat (4 : Int).toNat) j ∧ (va_cpy fa_nextAmounts a_amounts (0 : Int).toNat (0 : Int).toNat (4 : Int).toNat) j ≤ 1000000 := z_cpyR hB hBr Ha_amounts
              refine z_aloadn C 0 dX8_take_128 rfl rfl ?_
              refine z_dup C dX8_take_129 rfl ?_
              refine z_get C 13 (by decide) rfl rfl z_it8 4 (by decide) rfl fl_8_34 rfl dX8_take_130 ?_
              refine z_iconst C dX8_take_133 ?_
              refine z_iadd C dX8_take_134 ?_
              refine z_put C 13 (by decide) rfl rfl z_it8 tyX8 tyX8_ok nmX8 4 (by decide) rfl (Or.inl rfl) fl_8_34 z_pfI rfl rfl (Nat.le_of_ble_eq_true rfl) dX8_take_135 ?_
              refine z_ext (S' := (z_zc ad ks s_edgeCount s_moveCount s_isNeeded s_timesDone s_size s_isGoing s_allTime (s_stepCount + 1) s_gapCount g_edges g_moves g_limits a_sfacts a_sbounds a_facts a_zone a_most (va_cpy n11 a_places (0 : Int).toNat (0 : Int).toNat (3 : Int).toNat) (va_cpy fa_nextAmounts a_amounts (0 : Int).toNat (0 : Int).toNat (4 : Int).toNat) n11 fa_nextAmounts a_earliest a_visited a_lastSet a_gapFrom a_gapTo a_gapLeast a_askedPlaces a_askedAmounts)) upC_s_stepCount ?_
              refine z_iconst C dX8_take_138 ?_
              rw [hQ]
              exact z_zret C hrt (by omega) dX8_take_139 (⟨(va_cpy n11 a_places (0 : Int).toNat (0 : Int).toNat (3 : Int).toNat), (va_cpy fa_nextAmounts a_amounts (0 : Int).toNat (0 : Int).toNat (4 : Int).toNat), n11, fa_nextAmounts, (s_stepCount + 1), rfl, rfl, h20, h21, h14, Hfa_nextAmounts, by first | exact F0 | exact hz1, _, rfl, ⟨Or.inl ⟨rfl, hOO, z_isz1 hKp (by omega)⟩, fun _ => ⟨fun j hj => (z_cpy0 hj).trans (hA j hj), fun j hj => (z_cpy0 hj).trans (hB j hj), rfl⟩, fun h => absurd rfl h⟩⟩) (by omega) (by omega)
            · skip
              refine z_iconst C dX8_take_98 ?_
              rw [hQ]
              exact z_zret C hrt (by omega) dX8_take_99 (⟨a_places, a_amounts, n11, fa_nextAmounts, s_stepCount, rfl, rfl, Ha_places, Ha_amounts, h14, Hfa_nextAmounts, by first | exact F0 | exact hz1, _, rfl, ⟨Or.inr ⟨rfl, fun h => z_isz0 hKp (by omega) h.2⟩, fun h => absurd h (by decide), fun _ => ⟨rfl, rfl, rfl⟩⟩⟩) (by omega) (by omega)
          · skip
            refine z_aloadn C 0 dX8_take_53 rfl rfl ?_
            refine z_get C 13 (by decide) rfl rfl z_it8 6 (by decide) rfl fl_8_21 rfl dX8_take_54 ?_
            refine z_iloadn C 3 dX8_take_57 rfl rfl ?_
            refine z_aloadn C 2 dX8_take_58 rfl rfl ?_
            refine z_iloadn C 3 dX8_take_59 rfl rfl ?_
            refine z_callV C (cx_X1_sets l i3 q hq (by omega)) mv_8_72 (z_atY 1 yd1 rfl rfl) pd_X1_sets ⟨by omega, by omega⟩ ⟨by omega, by omega⟩ rfl (Nat.le_of_ble_eq_true rfl) dX8_take_60 ?_
            rintro _ _ _ ⟨rfl, rfl, z24, rfl, hz24⟩
            refine z_if_eq (t := 70) C dX8_take_63 (by decide) (by omega) (fun c25 => ?_) (fun c25 => ?_)
            · skip
              refine z_aloadn C 0 dX8_take_70 rfl rfl ?_
              refine z_get C 13 (by decide) rfl rfl z_it8 2 (by decide) rfl fl_8_15 rfl dX8_take_71 ?_
              refine z_iloadn C 3 dX8_take_74 rfl rfl ?_
              refine z_iald C 15 (by decide) rfl (by decide) (by omega) (by omega) dX8_take_75 ?_
              have rx26 := Ha_amounts (i3 : Int).toNat
              generalize ex26 : a_amounts (i3 : Int).toNat = x26 at rx26 ⊢
              refine z_iast C 17 (by decide) rfl (by decide) (by omega) (by omega) dX8_take_76 ?_
              refine z_ext (S' := (z_zc ad ks s_edgeCount s_moveCount s_isNeeded s_timesDone s_size s_isGoing s_allTime s_stepCount s_gapCount g_edges g_moves g_limits a_sfacts a_sbounds a_facts a_zone a_most a_places a_amounts n11 (va_up fa_nextAmounts (i3 : Int).toNat x26) a_earliest a_visited a_lastSet a_gapFrom a_gapTo a_gapLeast a_askedPlaces a_askedAmounts)) upC_a_nextAmounts ?_
              have h27 : ∀ j, 0 ≤ (va_up fa_nextAmounts (i3 : Int).toNat x26) j ∧ (va_up fa_nextAmounts (i3 : Int).toNat x26) j ≤ 1064000 := z_upP (P := fun j v => 0 ≤ v ∧ v ≤ 1064000) Hfa_nextAmounts (by omega)
              refine z_iinc (L' := [(3, z_v (i3 + 1)), (0, .ref (ad 13)), (1, .ref (ad 1)), (2, .ref q)]) C 3 dX8_take_77 rfl (by decide) rfl ?_
              refine z_goto (t := 48) C dX8_take_80 (by decide) ?_
              refine z_loc (L' := [(0, .ref (ad 13)), (1, .ref (ad 1)), (2, .ref q), (3, z_v (i3 + 1))]) [1, 2, 3, 0] rfl ?_
              exact ih48 (i3 + 1) (va_up fa_nextAmounts (i3 : Int).toNat x26) h27 (by first | exact z_tkB1 FG (by omega) (by omega) | exact z_tkB0 FG (by omega) (by omega) (by assumption)) ((if_neg (by omega)).trans F0) (by omega) (by omega)
            · skip
              refine z_iconst C dX8_take_66 ?_
              refine z_goto (t := 76) C dX8_take_67 (by decide) ?_
              refine z_iast C 17 (by decide) rfl (by decide) (by omega) (by omega) dX8_take_76 ?_
              refine z_ext (S' := (z_zc ad ks s_edgeCount s_moveCount s_isNeeded s_timesDone s_size s_isGoing s_allTime s_stepCount s_gapCount g_edges g_moves g_limits a_sfacts a_sbounds a_facts a_zone a_most a_places a_amounts n11 (va_up fa_nextAmounts (i3 : Int).toNat 0) a_earliest a_visited a_lastSet a_gapFrom a_gapTo a_gapLeast a_askedPlaces a_askedAmounts)) upC_a_nextAmounts ?_
              have h28 : ∀ j, 0 ≤ (va_up fa_nextAmounts (i3 : Int).toNat 0) j ∧ (va_up fa_nextAmounts (i3 : Int).toNat 0) j ≤ 1064000 := z_upP (P := fun j v => 0 ≤ v ∧ v ≤ 1064000) Hfa_nextAmounts (by omega)
              refine z_iinc (L' := [(3, z_v (i3 + 1)), (0, .ref (ad 13)), (1, .ref (ad 1)), (2, .ref q)]) C 3 dX8_take_77 rfl (by decide) rfl ?_
              refine z_goto (t := 48) C dX8_take_80 (by decide) ?_
              refine z_loc (L' := [(0, .ref (ad 13)), (1, .ref (ad 1)), (2, .ref q), (3, z_v (i3 + 1))]) [1, 2, 3, 0] rfl ?_
              exact ih48 (i3 + 1) (va_up fa_nextAmounts (i3 : Int).toNat 0) h28 (by first | exact z_tkB1 FG (by omega) (by omega) | exact z_tkB0 FG (by omega) (by omega) (by assumption)) ((if_neg (by omega)).trans F0) (by omega) (by omega)
      refine z_loc (L' := [(0, .ref (ad 13)), (1, .ref (ad 1)), (2, .ref q), (3, z_v 1)]) [1, 2, 3, 0] rfl ?_
      exact (L48 (((4 : Int) - 1).toNat + 1)) 1 a_nextAmounts Ha_nextAmounts (fun j h1 h2 => absurd h2 (by omega)) (hz1) (by omega) (Nat.lt_succ_self _)
    · skip
      refine z_iconst C dX8_take_22 ?_
      rw [hQ]
      exact z_zret C hrt (by omega) dX8_take_23 (⟨a_places, a_amounts, a_nextPlaces, a_nextAmounts, s_stepCount, rfl, rfl, Ha_places, Ha_amounts, Ha_nextPlaces, Ha_nextAmounts, by first | exact F0 | exact hz1, _, rfl, ⟨Or.inr ⟨rfl, fun h => by first | exact z_tk_no (b := 0) hst (Or.inl (by omega)) h.1 | exact z_tk_no hst (Or.inr ⟨hgu, by omega⟩) h.1⟩, fun h => absurd h (by decide), fun _ => ⟨rfl, rfl, rfl⟩⟩⟩) (by omega) (by omega)
set_option maxRecDepth 20000 in
theorem cx_X10_begin (l : Launch) {D : va_G} {A : Nat → Prop} {ad : Nat → Nat} {ks : z_Ks} {s_edgeCount s_moveCount s_isNeeded s_timesDone s_size s_isGoing s_allTime s_stepCount s_gapCount : Int} {g_edges g_moves g_limits : Nat → Option Nat} {a_sfacts a_sbounds a_facts a_zone a_most a_places a_amounts a_nextPlaces a_nextAmounts a_earliest a_visited a_lastSet a_gapFrom a_gapTo a_gapLeast a_askedPlaces a_askedAmounts : Nat → Int} {Y : Nat → Option va_E} {em ef et ec er gn gt ln lt : Nat → Int} {qe ql qt : Nat → Nat} (Ha_places : (∀ j, 0 ≤ a_places j ∧ a_places j ≤ 5)) (Ha_amounts : (∀ j, 0 ≤ a_amounts j ∧ a_amounts j ≤ 1000000)) (Hs_isGoing : (s_isGoing = 0 ∨ s_isGoing = 1)) (HN : z_N ks Y g_edges g_limits s_edgeCount em ef et ec er gn gt ln lt qe ql qt) : z_Met l yX10_begin cX10_begin 1 (some .int) 5 107 0 0 D A 27 ad ks [.ref (ad 0)] (z_zc ad ks s_edgeCount s_moveCount s_isNeeded s_timesDone s_size s_isGoing s_allTime s_stepCount s_gapCount g_edges g_moves g_limits a_sfacts a_sbounds a_facts a_zone a_most a_places a_amounts a_nextPlaces a_nextAmounts a_earliest a_visited a_lastSet a_gapFrom a_gapTo a_gapLeast a_askedPlaces a_askedAmounts) Y (fun r S' Y' => ∃ na_places : Nat → Int, ∃ na_amounts : Nat → Int, ∃ ns_isGoing : Int, S' = (z_zc ad ks s_edgeCount s_moveCount s_isNeeded s_timesDone s_size ns_isGoing 0 0 s_gapCount g_edges g_moves g_limits a_sfacts a_sbounds a_facts a_zone a_most na_places na_amounts a_nextPlaces a_nextAmounts a_earliest a_visited a_lastSet a_gapFrom a_gapTo a_gapLeast a_askedPlaces a_askedAmounts) ∧ Y = Y' ∧ (∀ j, 0 ≤ na_places j ∧ na_places j ≤ 5) ∧ (∀ j, 0 ≤ na_amounts j ∧ na_amounts j ≤ 1000000) ∧ (ns_isGoing = 0 ∨ ns_isGoing = 1) ∧ (∀ j : Nat, j < 3 → na_places j = 0) ∧ (∀ j : Nat, j < 4 → na_amounts j = 0) ∧ (ns_isGoing = 1 ∧ (z_lim ln lt (fun _ => 0) (fun _ => 0)) ∨ ns_isGoing = 0 ∧ ¬ (z_lim ln lt (fun _ => 0) (fun _ => 0))) ∧ ∃ z : Int, r = some (z_v z) ∧ (z = ns_isGoing)) := by
  refine z_start2 (by decide) (Nat.le_of_ble_eq_true rfl) ?_
  intro p e R s m args below meth c Q C hRf hRc hRs hRl hQ hrt hnm
  refine z_loc (L' := [(0, .ref (ad 0))]) [0] rfl ?_
  refine z_aloadn C 0 dX10_begin_0 rfl rfl ?_
  refine z_get C 0 (by decide) rfl rfl z_it10 2 (by decide) rfl fl_10_26 rfl dX10_begin_1 ?_
  refine z_aloadn C 0 dX10_begin_4 rfl rfl ?_
  refine z_get C 0 (by decide) rfl rfl z_it10 0 (by decide) rfl fl_10_12 rfl dX10_begin_5 ?_
  refine z_callV C (cx_X8_start l Ha_places Ha_amounts (by omega) HN) mv_10_160 (z_atS 13 8 (by decide) rfl rfl rfl) pd_X8_start ⟨by omega, by omega⟩ ⟨by omega, by omega⟩ rfl (Nat.le_of_ble_eq_true rfl) dX10_begin_8 ?_
  rintro _ _ _ ⟨n1, n2, n3, rfl, rfl, h6, h7, h8, q8_0, q8_1, q8_2, z9, rfl, hz9⟩
  refine z_if_eq (t := 18) C dX10_begin_11 (by decide) (by omega) (fun c10 => ?_) (fun c10 => ?_)
  · skip
    refine z_iconst C dX10_begin_18 ?_
    rw [hQ]
    exact z_iret C hrt dX10_begin_19 (⟨n1, n2, n3, rfl, rfl, h6, h7, by omega, q8_0, q8_1, q8_2, _, rfl, by omega⟩) (by omega) (by omega)
  · skip
    refine z_iconst C dX10_begin_14 ?_
    refine z_goto (t := 19) C dX10_begin_15 (by decide) ?_
    rw [hQ]
    exact z_iret C hrt dX10_begin_19 (⟨n1, n2, n3, rfl, rfl, h6, h7, by omega, q8_0, q8_1, q8_2, _, rfl, by omega⟩) (by omega) (by omega)
set_option maxRecDepth 20000 in
theorem cx_X10_pass (l : Launch) {D : va_G} {A : Nat → Prop} {ad : Nat → Nat} {ks : z_Ks} {s_edgeCount s_moveCount s_isNeeded s_timesDone s_size s_isGoing s_allTime s_stepCount s_gapCount : Int} {g_edges g_moves g_limits : Nat → Option Nat} {a_sfacts a_sbounds a_facts a_zone a_most a_places a_amounts a_nextPlaces a_nextAmounts a_earliest a_visited a_lastSet a_gapFrom a_gapTo a_gapLeast a_askedPlaces a_askedAmounts : Nat → Int} {Y : Nat → Option va_E} {em ef et ec er gn gt ln lt : Nat → Int} {qe ql qt : Nat → Nat} (n0 : Int) (Ha_places : (∀ j, 0 ≤ a_places j ∧ a_places j ≤ 5)) (Ha_amounts : (∀ j, 0 ≤ a_amounts j ∧ a_amounts j ≤ 1000000)) (Ha_nextAmounts : (∀ j, 0 ≤ a_nextAmounts j ∧ a_nextAmounts j ≤ 1064000)) (Hs_isGoing : (s_isGoing = 0 ∨ s_isGoing = 1)) (hn0 : z_rg n0) (hz0 : a_amounts 0 = 0) (hz1 : a_nextAmounts 0 = 0) (HN : z_N ks Y g_edges g_limits s_edgeCount em ef et ec er gn gt ln lt qe ql qt) : z_Met l yX10_pass cX10_pass 2 (some .int) 5 109 0 0 D A 27 ad ks [.ref (ad 0), z_v n0] (z_zc ad ks s_edgeCount s_moveCount s_isNeeded s_timesDone s_size s_isGoing s_allTime s_stepCount s_gapCount g_edges g_moves g_limits a_sfacts a_sbounds a_facts a_zone a_most a_places a_amounts a_nextPlaces a_nextAmounts a_earliest a_visited a_lastSet a_gapFrom a_gapTo a_gapLeast a_askedPlaces a_askedAmounts) Y (fun r S' Y' => ∃ na_amounts : Nat → Int, ∃ na_nextAmounts : Nat → Int, ∃ ns_allTime : Int, S' = (z_zc ad ks s_edgeCount s_moveCount s_isNeeded s_timesDone s_size s_isGoing ns_allTime s_stepCount s_gapCount g_edges g_moves g_limits a_sfacts a_sbounds a_facts a_zone a_most a_places na_amounts a_nextPlaces na_nextAmounts a_earliest a_visited a_lastSet a_gapFrom a_gapTo a_gapLeast a_askedPlaces a_askedAmounts) ∧ Y = Y' ∧ (∀ j, 0 ≤ na_amounts j ∧ na_amounts j ≤ 1000000) ∧ (∀ j, 0 ≤ na_nextAmounts j ∧ na_nextAmounts j ≤ 1064000) ∧ na_nextAmounts 0 = 0 ∧ ∃ z : Int, r = some (z_v z) ∧ (z_psR n0 s_isGoing z (z_far a_amounts n0) (z_lim ln lt a_places (z_sh a_amounts n0)) ∧ (z = 1 → (∀ j : Nat, j < 4 → na_amounts j = z_sh a_amounts n0 j) ∧ ns_allTime = s_allTime + n0) ∧ (z ≠ 1 → na_amounts = a_amounts ∧ ns_allTime = s_allTime))) := by
  refine z_start2 (by decide) (Nat.le_of_ble_eq_true rfl) ?_
  intro p e R s m args below meth c Q C hRf hRc hRs hRl hQ hrt hnm
  refine z_loc (L' := [(0, .ref (ad 0)), (1, z_v n0)]) [0, 1] rfl ?_
  refine z_iloadn C 1 dX10_pass_0 rfl rfl ?_
  refine z_iconst C dX10_pass_1 ?_
  refine z_icmp_lt (t := 11) C dX10_pass_2 (by decide) (by omega) (by omega) (fun c1 => ?_) (fun c1 => ?_)
  · skip
    refine z_bipush C dX10_pass_11 (by decide) ?_
    rw [hQ]
    exact z_iret C hrt dX10_pass_13 (⟨a_amounts, a_nextAmounts, s_allTime, rfl, rfl, Ha_amounts, Ha_nextAmounts, by first | exact hz1 | exact q50_0, _, rfl, ⟨Or.inl ⟨by omega, rfl⟩, fun h => absurd h (by decide), fun _ => ⟨rfl, rfl⟩⟩⟩) (by omega) (by omega)
  · skip
    refine z_iloadn C 1 dX10_pass_5 rfl rfl ?_
    refine z_ldc (n := 64000) C kc_10_164 (by decide) dX10_pass_6 ?_
    refine z_icmp_le (t := 14) C dX10_pass_8 (by decide) (by omega) (by omega) (fun c2 => ?_) (fun c2 => ?_)
    · skip
      refine z_aloadn C 0 dX10_pass_14 rfl rfl ?_
      refine z_get C 0 (by decide) rfl rfl z_it10 2 (by decide) rfl fl_10_26 rfl dX10_pass_15 ?_
      refine z_get C 13 (by decide) rfl rfl z_it8 0 (by decide) rfl fl_10_165 rfl dX10_pass_18 ?_
      refine z_if_eq (t := 38) C dX10_pass_21 (by decide) (by omega) (fun c3 => ?_) (fun c3 => ?_)
      · skip
        refine z_bipush C dX10_pass_38 (by decide) ?_
        rw [hQ]
        exact z_iret C hrt dX10_pass_40 (⟨a_amounts, a_nextAmounts, s_allTime, rfl, rfl, Ha_amounts, Ha_nextAmounts, by first | exact hz1 | exact q50_0, _, rfl, ⟨Or.inr (Or.inl ⟨by omega, by omega, rfl⟩), fun h => absurd h (by decide), fun _ => ⟨rfl, rfl⟩⟩⟩) (by omega) (by omega)
      · skip
        refine z_aloadn C 0 dX10_pass_24 rfl rfl ?_
        refine z_get C 0 (by decide) rfl rfl z_it10 2 (by decide) rfl fl_10_26 rfl dX10_pass_25 ?_
        have hp1 := Ha_amounts 1
        have hp2 := Ha_amounts 2
        have hp3 := Ha_amounts 3
        refine z_callV C (cx_X8_greatestAmount l Ha_amounts) mv_10_168 (z_atS 13 8 (by decide) rfl rfl rfl) pd_X8_greatestAmount ⟨by omega, by omega⟩ ⟨by omega, by omega⟩ rfl (Nat.le_of_ble_eq_true rfl) dX10_pass_28 ?_
        rintro _ _ _ ⟨rfl, rfl, z6, rfl, hz6⟩
        refine z_iloadn C 1 dX10_pass_31 rfl rfl ?_
        refine z_iadd C dX10_pass_32 ?_
        refine z_ldc (n := 1000000) C kc_10_172 (by decide) dX10_pass_33 ?_
        refine z_icmp_le (t := 41) C dX10_pass_35 (by decide) (by omega) (by omega) (fun c7 => ?_) (fun c7 => ?_)
        · skip
          refine z_aloadn C 0 dX10_pass_41 rfl rfl ?_
          refine z_get C 0 (by decide) rfl rfl z_it10 2 (by decide) rfl fl_10_26 rfl dX10_pass_42 ?_
          refine z_aloadn C 0 dX10_pass_45 rfl rfl ?_
          refine z_get C 0 (by decide) rfl rfl z_it10 0 (by decide) rfl fl_10_12 rfl dX10_pass_46 ?_
          refine z_iloadn C 1 dX10_pass_49 rfl rfl ?_
          refine z_callV C (cx_X8_linger l n0 Ha_places Ha_amounts Ha_nextAmounts (by omega) hz0 hz1 (by omega) HN) mv_10_173 (z_atS 13 8 (by decide) rfl rfl rfl) pd_X8_linger ⟨by omega, by omega⟩ ⟨by omega, by omega⟩ rfl (Nat.le_of_ble_eq_true rfl) dX10_pass_50 ?_
          rintro _ _ _ ⟨n8, n9, n10, rfl, rfl, h13, h14, q50_0, z15, rfl, hz15⟩
          have hli := hz15
          refine z_if_eq (t := 60) C dX10_pass_53 (by decide) (by omega) (fun c16 => ?_) (fun c16 => ?_)
          · skip
            refine z_iconst C dX10_pass_60 ?_
            rw [hQ]
            exact z_iret C hrt dX10_pass_61 (⟨n8, n9, n10, rfl, rfl, h13, h14, by first | exact hz1 | exact q50_0, _, rfl, by first | exact ⟨Or.inr (Or.inr (Or.inl ⟨by omega, by omega, by omega, z_isz1 hli.1 (by omega), rfl⟩)), fun _ => hli.2.1 (by omega), fun h => absurd rfl h⟩ | exact ⟨Or.inr (Or.inr (Or.inr ⟨by omega, by omega, by omega, z_isz0 hli.1 (by omega), rfl⟩)), fun h => absurd h (by decide), fun _ => hli.2.2 (by omega)⟩⟩) (by omega) (by omega)
          · skip
            refine z_iconst C dX10_pass_56 ?_
            refine z_goto (t := 61) C dX10_pass_57 (by decide) ?_
            rw [hQ]
            exact z_iret C hrt dX10_pass_61 (⟨n8, n9, n10, rfl, rfl, h13, h14, by first | exact hz1 | exact q50_0, _, rfl, by first | exact ⟨Or.inr (Or.inr (Or.inl ⟨by omega, by omega, by omega, z_isz1 hli.1 (by omega), rfl⟩)), fun _ => hli.2.1 (by omega), fun h => absurd rfl h⟩ | exact ⟨Or.inr (Or.inr (Or.inr ⟨by omega, by omega, by omega, z_isz0 hli.1 (by omega), rfl⟩)), fun h => absurd h (by decide), fun _ => hli.2.2 (by omega)⟩⟩) (by omega) (by omega)
        · skip
          refine z_bipush C dX10_pass_38 (by decide) ?_
          rw [hQ]
          exact z_iret C hrt dX10_pass_40 (⟨a_amounts, a_nextAmounts, s_allTime, rfl, rfl, Ha_amounts, Ha_nextAmounts, by first | exact hz1 | exact q50_0, _, rfl, ⟨Or.inr (Or.inl ⟨by omega, by omega, rfl⟩), fun h => absurd h (by decide), fun _ => ⟨rfl, rfl⟩⟩⟩) (by omega) (by omega)
    · skip
      refine z_bipush C dX10_pass_11 (by decide) ?_
      rw [hQ]
      exact z_iret C hrt dX10_pass_13 (⟨a_amounts, a_nextAmounts, s_allTime, rfl, rfl, Ha_amounts, Ha_nextAmounts, by first | exact hz1 | exact q50_0, _, rfl, ⟨Or.inl ⟨by omega, rfl⟩, fun h => absurd h (by decide), fun _ => ⟨rfl, rfl⟩⟩⟩) (by omega) (by omega)
set_option maxRecDepth 20000 in
theorem cx_X10_move (l : Launch) {D : va_G} {A : Nat → Prop} {ad : Nat → Nat} {ks : z_Ks} {s_edgeCount s_moveCount s_isNeeded s_timesDone s_size s_isGoing s_allTime s_stepCount s_gapCount : Int} {g_edges g_moves g_limits : Nat → Option Nat} {a_sfacts a_sbounds a_facts a_zone a_most a_places a_amounts a_nextPlaces a_nextAmounts a_earliest a_visited a_lastSet a_gapFrom a_gapTo a_gapLeast a_askedPlaces a_askedAmounts : Nat → Int} {Y : Nat → Option va_E} {em ef et ec er gn gt ln lt mf ms : Nat → Int} {qe ql qt : Nat → Nat} (e0 f0 : Int) (Hs_edgeCount : (0 ≤ s_edgeCount ∧ s_edgeCount ≤ 20)) (Hs_moveCount : (0 ≤ s_moveCount ∧ s_moveCount ≤ 400)) (Hs_isGoing : (s_isGoing = 0 ∨ s_isGoing = 1)) (Ha_places : (∀ j, 0 ≤ a_places j ∧ a_places j ≤ 5)) (Ha_amounts : (∀ j, 0 ≤ a_amounts j ∧ a_amounts j ≤ 1000000)) (Ha_nextPlaces : (∀ j, 0 ≤ a_nextPlaces j ∧ a_nextPlaces j ≤ 5)) (Ha_nextAmounts : (∀ j, 0 ≤ a_nextAmounts j ∧ a_nextAmounts j ≤ 1064000)) (he0 : z_rg e0) (hf0 : z_rg f0) (hz0 : a_amounts 0 = 0) (hz1 : a_nextAmounts 0 = 0) (HN : z_N ks Y g_edges g_limits s_edgeCount em ef et ec er gn gt ln lt qe ql qt) (HMo : z_Mo Y g_moves s_moveCount mf ms s_edgeCount qe er) (HML : z_ml s_edgeCount s_moveCount mf ms em ec) : z_Met l yX10_move cX10_move 4 (some .int) 5 109 0 0 D A 27 ad ks [.ref (ad 0), z_v e0, z_v f0] (z_zc ad ks s_edgeCount s_moveCount s_isNeeded s_timesDone s_size s_isGoing s_allTime s_stepCount s_gapCount g_edges g_moves g_limits a_sfacts a_sbounds a_facts a_zone a_most a_places a_amounts a_nextPlaces a_nextAmounts a_earliest a_visited a_lastSet a_gapFrom a_gapTo a_gapLeast a_askedPlaces a_askedAmounts) Y (fun r S' Y' => ∃ na_places : Nat → Int, ∃ na_amounts : Nat → Int, ∃ na_nextPlaces : Nat → Int, ∃ na_nextAmounts : Nat → Int, ∃ ns_stepCount : Int, S' = (z_zc ad ks s_edgeCount s_moveCount s_isNeeded s_timesDone s_size s_isGoing s_allTime ns_stepCount s_gapCount g_edges g_moves g_limits a_sfacts a_sbounds a_facts a_zone a_most na_places na_amounts na_nextPlaces na_nextAmounts a_earliest a_visited a_lastSet a_gapFrom a_gapTo a_gapLeast a_askedPlaces a_askedAmounts) ∧ Y = Y' ∧ (∀ j, 0 ≤ na_places j ∧ na_places j ≤ 5) ∧ (∀ j, 0 ≤ na_amounts j ∧ na_amounts j ≤ 1000000) ∧ (∀ j, 0 ≤ na_nextPlaces j ∧ na_nextPlaces j ≤ 5) ∧ (∀ j, 0 ≤ na_nextAmounts j ∧ na_nextAmounts j ≤ 1064000) ∧ na_nextAmounts 0 = 0 ∧ ∃ z : Int, r = some (z_v z) ∧ (z_mvR e0 f0 s_edgeCount s_isGoing z (z_isM e0 f0 em ec) (z_op2 e0 f0 em ef gn gt a_places a_amounts) (z_lim ln lt (z_goA a_places em et e0 f0) (z_goC a_amounts er e0 f0)) ∧ (z = 1 → (∀ j : Nat, j < 3 → na_places j = z_goA a_places em et e0 f0 j) ∧ (∀ j : Nat, j < 4 → na_amounts j = z_goC a_amounts er e0 f0 j) ∧ ns_stepCount = s_stepCount + 1) ∧ (z ≠ 1 → na_places = a_places ∧ na_amounts = a_amounts ∧ ns_stepCount = s_stepCount))) := by
  refine z_start2 (by decide) (Nat.le_of_ble_eq_true rfl) ?_
  intro p e R s m args below meth c Q C hRf hRc hRs hRl hQ hrt hnm
  refine z_loc (L' := [(0, .ref (ad 0)), (1, z_v e0), (2, z_v f0)]) [0, 1, 2] rfl ?_
  refine z_aloadn C 0 dX10_move_0 rfl rfl ?_
  refine z_get C 0 (by decide) rfl rfl z_it10 0 (by decide) rfl fl_10_12 rfl dX10_move_1 ?_
  refine z_iloadn C 1 dX10_move_4 rfl rfl ?_
  refine z_callV C (cm_X2_isEdge l e0 (by omega) (by omega)) mv_10_67 (z_atS 1 2 (by decide) rfl rfl rfl) pd_X2_isEdge ⟨by omega, by omega⟩ ⟨by omega, by omega⟩ rfl (Nat.le_of_ble_eq_true rfl) dX10_move_5 ?_
  rintro _ _ _ ⟨rfl, rfl, z3, rfl, hz3⟩
  refine z_if_eq (t := 27) C dX10_move_8 (by decide) (by omega) (fun c4 => ?_) (fun c4 => ?_)
  · skip
    refine z_bipush C dX10_move_27 (by decide) ?_
    rw [hQ]
    exact z_iret C hrt dX10_move_29 (⟨a_places, a_amounts, a_nextPlaces, a_nextAmounts, s_stepCount, rfl, rfl, Ha_places, Ha_amounts, Ha_nextPlaces, Ha_nextAmounts, by first | exact q69_0 | exact hz1, _, rfl, ⟨Or.inl ⟨by omega, rfl⟩, fun h => absurd h (by decide), fun _ => ⟨rfl, rfl, rfl⟩⟩⟩) (by omega) (by omega)
  · skip
    refine z_iloadn C 2 dX10_move_11 rfl rfl ?_
    refine z_iconst C dX10_move_12 ?_
    refine z_icmp_eq (t := 30) C dX10_move_13 (by decide) (by omega) (by omega) (fun c5 => ?_) (fun c5 => ?_)
    · skip
      refine z_aloadn C 0 dX10_move_30 rfl rfl ?_
      refine z_get C 0 (by decide) rfl rfl z_it10 0 (by decide) rfl fl_10_12 rfl dX10_move_31 ?_
      refine z_iloadn C 1 dX10_move_34 rfl rfl ?_
      refine z_iloadn C 2 dX10_move_35 rfl rfl ?_
      refine z_callV C (cx_X2_find l e0 f0 (by omega) (by omega) (by omega) (by omega) HMo) mv_10_177 (z_atS 1 2 (by decide) rfl rfl rfl) pd_X2_find ⟨by omega, by omega⟩ ⟨by omega, by omega⟩ rfl (Nat.le_of_ble_eq_true rfl) dX10_move_36 ?_
      rintro _ _ _ ⟨rfl, rfl, ⟨rfl, hnm⟩ | ⟨q6, rfl, hq6, hmm⟩⟩
      · skip
        refine z_astorenN (L' := [(3, .null), (0, .ref (ad 0)), (1, z_v e0), (2, z_v f0)]) C dX10_move_39 rfl (by decide) rfl ?_
        refine z_aloadnN C 0 dX10_move_40 rfl rfl ?_
        refine z_ifnonnullN C dX10_move_41 ?_
        refine z_bipush C dX10_move_44 (by decide) ?_
        rw [hQ]
        exact z_iret C hrt dX10_move_46 (⟨a_places, a_amounts, a_nextPlaces, a_nextAmounts, s_stepCount, rfl, rfl, Ha_places, Ha_amounts, Ha_nextPlaces, Ha_nextAmounts, by first | exact q69_0 | exact hz1, _, rfl, ⟨Or.inr (Or.inl ⟨by omega, fun q => hnm ((HML.2 e0 f0).mpr ⟨by omega, q⟩), rfl⟩), fun h => absurd h (by decide), fun _ => ⟨rfl, rfl, rfl⟩⟩⟩) (by omega) (by omega)
      · skip
        refine z_astoren (L' := [(3, .ref q6), (0, .ref (ad 0)), (1, z_v e0), (2, z_v f0)]) C dX10_move_39 rfl (by decide) rfl ?_
        refine z_aloadn C 0 dX10_move_40 rfl rfl ?_
        refine z_ifnonnull (t := 47) C dX10_move_41 (by decide) ?_
        refine z_aloadn C 1 dX10_move_47 rfl rfl ?_
        refine z_get C 0 (by decide) rfl rfl z_it10 2 (by decide) rfl fl_10_26 rfl dX10_move_48 ?_
        refine z_get C 13 (by decide) rfl rfl z_it8 0 (by decide) rfl fl_10_165 rfl dX10_move_51 ?_
        refine z_if_ne (t := 60) C dX10_move_54 (by decide) (by omega) (fun c7 => ?_) (fun c7 => ?_)
        · skip
          refine z_aloadn C 1 dX10_move_60 rfl rfl ?_
          refine z_get C 0 (by decide) rfl rfl z_it10 2 (by decide) rfl fl_10_26 rfl dX10_move_61 ?_
          refine z_aloadn C 1 dX10_move_64 rfl rfl ?_
          refine z_get C 0 (by decide) rfl rfl z_it10 0 (by decide) rfl fl_10_12 rfl dX10_move_65 ?_
          refine z_aloadn C 0 dX10_move_68 rfl rfl ?_
          refine z_callV C (cx_X8_take l q6 Ha_places Ha_amounts Ha_nextPlaces Ha_nextAmounts (by omega) hq6 HN hz0 hz1) mv_10_181 (z_atS 13 8 (by decide) rfl rfl rfl) pd_X8_take ⟨by omega, by omega⟩ ⟨by omega, by omega⟩ rfl (Nat.le_of_ble_eq_true rfl) dX10_move_69 ?_
          rintro _ _ _ ⟨n8, n9, n10, n11, n12, rfl, rfl, h15, h16, h17, h18, q69_0, z19, rfl, hz19⟩
          have htk := hz19
          refine z_if_eq (t := 79) C dX10_move_72 (by decide) (by omega) (fun c20 => ?_) (fun c20 => ?_)
          · skip
            refine z_iconst C dX10_move_79 ?_
            rw [hQ]
            exact z_iret C hrt dX10_move_80 (⟨n8, n9, n10, n11, n12, rfl, rfl, h15, h16, h17, h18, by first | exact q69_0 | exact hz1, _, rfl, by first | exact ⟨Or.inr (Or.inr (Or.inr (Or.inr ⟨by omega, ((HML.2 e0 f0).mp hmm).2, by omega, (z_isz1 htk.1 (by omega)).1, (z_isz1 htk.1 (by omega)).2, rfl⟩))), fun _ => htk.2.1 (by omega), fun h => absurd rfl h⟩ | exact ⟨Or.inr (Or.inr (Or.inr (Or.inl ⟨by omega, ((HML.2 e0 f0).mp hmm).2, by omega, z_isz0 htk.1 (by omega), rfl⟩))), fun h => absurd h (by decide), fun _ => htk.2.2 (by omega)⟩⟩) (by omega) (by omega)
          · skip
            refine z_iconst C dX10_move_75 ?_
            refine z_goto (t := 80) C dX10_move_76 (by decide) ?_
            rw [hQ]
            exact z_iret C hrt dX10_move_80 (⟨n8, n9, n10, n11, n12, rfl, rfl, h15, h16, h17, h18, by first | exact q69_0 | exact hz1, _, rfl, by first | exact ⟨Or.inr (Or.inr (Or.inr (Or.inr ⟨by omega, ((HML.2 e0 f0).mp hmm).2, by omega, (z_isz1 htk.1 (by omega)).1, (z_isz1 htk.1 (by omega)).2, rfl⟩))), fun _ => htk.2.1 (by omega), fun h => absurd rfl h⟩ | exact ⟨Or.inr (Or.inr (Or.inr (Or.inl ⟨by omega, ((HML.2 e0 f0).mp hmm).2, by omega, z_isz0 htk.1 (by omega), rfl⟩))), fun h => absurd h (by decide), fun _ => htk.2.2 (by omega)⟩⟩) (by omega) (by omega)
        · skip
          refine z_bipush C dX10_move_57 (by decide) ?_
          rw [hQ]
          exact z_iret C hrt dX10_move_59 (⟨a_places, a_amounts, a_nextPlaces, a_nextAmounts, s_stepCount, rfl, rfl, Ha_places, Ha_amounts, Ha_nextPlaces, Ha_nextAmounts, by first | exact q69_0 | exact hz1, _, rfl, ⟨Or.inr (Or.inr (Or.inl ⟨by omega, ((HML.2 e0 f0).mp hmm).2, by omega, rfl⟩)), fun h => absurd h (by decide), fun _ => ⟨rfl, rfl, rfl⟩⟩⟩) (by omega) (by omega)
    · skip
      refine z_aloadn C 0 dX10_move_16 rfl rfl ?_
      refine z_get C 0 (by decide) rfl rfl z_it10 0 (by decide) rfl fl_10_12 rfl dX10_move_17 ?_
      refine z_iloadn C 2 dX10_move_20 rfl rfl ?_
      refine z_callV C (cm_X2_isEdge l f0 (by omega) (by omega)) mv_10_67 (z_atS 1 2 (by decide) rfl rfl rfl) pd_X2_isEdge ⟨by omega, by omega⟩ ⟨by omega, by omega⟩ rfl (Nat.le_of_ble_eq_true rfl) dX10_move_21 ?_
      rintro _ _ _ ⟨rfl, rfl, z23, rfl, hz23⟩
      refine z_if_ne (t := 30) C dX10_move_24 (by decide) (by omega) (fun c24 => ?_) (fun c24 => ?_)
      · skip
        refine z_aloadn C 0 dX10_move_30 rfl rfl ?_
        refine z_get C 0 (by decide) rfl rfl z_it10 0 (by decide) rfl fl_10_12 rfl dX10_move_31 ?_
        refine z_iloadn C 1 dX10_move_34 rfl rfl ?_
        refine z_iloadn C 2 dX10_move_35 rfl rfl ?_
        refine z_callV C (cx_X2_find l e0 f0 (by omega) (by omega) (by omega) (by omega) HMo) mv_10_177 (z_atS 1 2 (by decide) rfl rfl rfl) pd_X2_find ⟨by omega, by omega⟩ ⟨by omega, by omega⟩ rfl (Nat.le_of_ble_eq_true rfl) dX10_move_36 ?_
        rintro _ _ _ ⟨rfl, rfl, ⟨rfl, hnm⟩ | ⟨q25, rfl, hq25, hmm⟩⟩
        · skip
          refine z_astorenN (L' := [(3, .null), (0, .ref (ad 0)), (1, z_v e0), (2, z_v f0)]) C dX10_move_39 rfl (by decide) rfl ?_
          refine z_aloadnN C 0 dX10_move_40 rfl rfl ?_
          refine z_ifnonnullN C dX10_move_41 ?_
          refine z_bipush C dX10_move_44 (by decide) ?_
          rw [hQ]
          exact z_iret C hrt dX10_move_46 (⟨a_places, a_amounts, a_nextPlaces, a_nextAmounts, s_stepCount, rfl, rfl, Ha_places, Ha_amounts, Ha_nextPlaces, Ha_nextAmounts, by first | exact q69_0 | exact hz1, _, rfl, ⟨Or.inr (Or.inl ⟨by omega, fun q => hnm ((HML.2 e0 f0).mpr ⟨by omega, q⟩), rfl⟩), fun h => absurd h (by decide), fun _ => ⟨rfl, rfl, rfl⟩⟩⟩) (by omega) (by omega)
        · skip
          refine z_astoren (L' := [(3, .ref q25), (0, .ref (ad 0)), (1, z_v e0), (2, z_v f0)]) C dX10_move_39 rfl (by decide) rfl ?_
          refine z_aloadn C 0 dX10_move_40 rfl rfl ?_
          refine z_ifnonnull (t := 47) C dX10_move_41 (by decide) ?_
          refine z_aloadn C 1 dX10_move_47 rfl rfl ?_
          refine z_get C 0 (by decide) rfl rfl z_it10 2 (by decide) rfl fl_10_26 rfl dX10_move_48 ?_
          refine z_get C 13 (by decide) rfl rfl z_it8 0 (by decide) rfl fl_10_165 rfl dX10_move_51 ?_
          refine z_if_ne (t := 60) C dX10_move_54 (by decide) (by omega) (fun c26 => ?_) (fun c26 => ?_)
          · skip
            refine z_aloadn C 1 dX10_move_60 rfl rfl ?_
            refine z_get C 0 (by decide) rfl rfl z_it10 2 (by decide) rfl fl_10_26 rfl dX10_move_61 ?_
            refine z_aloadn C 1 dX10_move_64 rfl rfl ?_
            refine z_get C 0 (by decide) rfl rfl z_it10 0 (by decide) rfl fl_10_12 rfl dX10_move_65 ?_
            refine z_aloadn C 0 dX10_move_68 rfl rfl ?_
            refine z_callV C (cx_X8_take l q25 Ha_places Ha_amounts Ha_nextPlaces Ha_nextAmounts (by omega) hq25 HN hz0 hz1) mv_10_181 (z_atS 13 8 (by decide) rfl rfl rfl) pd_X8_take ⟨by omega, by omega⟩ ⟨by omega, by omega⟩ rfl (Nat.le_of_ble_eq_true rfl) dX10_move_69 ?_
            rintro _ _ _ ⟨n27, n28, n29, n30, n31, rfl, rfl, h34, h35, h36, h37, q69_0, z38, rfl, hz38⟩
            have htk := hz38
            refine z_if_eq (t := 79) C dX10_move_72 (by decide) (by omega) (fun c39 => ?_) (fun c39 => ?_)
            · skip
              refine z_iconst C dX10_move_79 ?_
              rw [hQ]
              exact z_iret C hrt dX10_move_80 (⟨n27, n28, n29, n30, n31, rfl, rfl, h34, h35, h36, h37, by first | exact q69_0 | exact hz1, _, rfl, by first | exact ⟨Or.inr (Or.inr (Or.inr (Or.inr ⟨by omega, ((HML.2 e0 f0).mp hmm).2, by omega, (z_isz1 htk.1 (by omega)).1, (z_isz1 htk.1 (by omega)).2, rfl⟩))), fun _ => htk.2.1 (by omega), fun h => absurd rfl h⟩ | exact ⟨Or.inr (Or.inr (Or.inr (Or.inl ⟨by omega, ((HML.2 e0 f0).mp hmm).2, by omega, z_isz0 htk.1 (by omega), rfl⟩))), fun h => absurd h (by decide), fun _ => htk.2.2 (by omega)⟩⟩) (by omega) (by omega)
            · skip
              refine z_iconst C dX10_move_75 ?_
              refine z_goto (t := 80) C dX10_move_76 (by decide) ?_
              rw [hQ]
              exact z_iret C hrt dX10_move_80 (⟨n27, n28, n29, n30, n31, rfl, rfl, h34, h35, h36, h37, by first | exact q69_0 | exact hz1, _, rfl, by first | exact ⟨Or.inr (Or.inr (Or.inr (Or.inr ⟨by omega, ((HML.2 e0 f0).mp hmm).2, by omega, (z_isz1 htk.1 (by omega)).1, (z_isz1 htk.1 (by omega)).2, rfl⟩))), fun _ => htk.2.1 (by omega), fun h => absurd rfl h⟩ | exact ⟨Or.inr (Or.inr (Or.inr (Or.inl ⟨by omega, ((HML.2 e0 f0).mp hmm).2, by omega, z_isz0 htk.1 (by omega), rfl⟩))), fun h => absurd h (by decide), fun _ => htk.2.2 (by omega)⟩⟩) (by omega) (by omega)
          · skip
            refine z_bipush C dX10_move_57 (by decide) ?_
            rw [hQ]
            exact z_iret C hrt dX10_move_59 (⟨a_places, a_amounts, a_nextPlaces, a_nextAmounts, s_stepCount, rfl, rfl, Ha_places, Ha_amounts, Ha_nextPlaces, Ha_nextAmounts, by first | exact q69_0 | exact hz1, _, rfl, ⟨Or.inr (Or.inr (Or.inl ⟨by omega, ((HML.2 e0 f0).mp hmm).2, by omega, rfl⟩)), fun h => absurd h (by decide), fun _ => ⟨rfl, rfl, rfl⟩⟩⟩) (by omega) (by omega)
      · skip
        refine z_bipush C dX10_move_27 (by decide) ?_
        rw [hQ]
        exact z_iret C hrt dX10_move_29 (⟨a_places, a_amounts, a_nextPlaces, a_nextAmounts, s_stepCount, rfl, rfl, Ha_places, Ha_amounts, Ha_nextPlaces, Ha_nextAmounts, by first | exact q69_0 | exact hz1, _, rfl, ⟨Or.inl ⟨by omega, rfl⟩, fun h => absurd h (by decide), fun _ => ⟨rfl, rfl, rfl⟩⟩⟩) (by omega) (by omega)
set_option maxRecDepth 20000 in
theorem cx_X10_run (l : Launch) {D : va_G} {A : Nat → Prop} {ad : Nat → Nat} {ks : z_Ks} {s_edgeCount s_moveCount s_isNeeded s_timesDone s_size s_isGoing s_allTime s_stepCount s_gapCount : Int} {g_edges g_moves g_limits : Nat → Option Nat} {a_sfacts a_sbounds a_facts a_zone a_most a_places a_amounts a_nextPlaces a_nextAmounts a_earliest a_visited a_lastSet a_gapFrom a_gapTo a_gapLeast a_askedPlaces a_askedAmounts : Nat → Int} {Y : Nat → Option va_E} (wh : Int) (Hs_isGoing : (s_isGoing = 0 ∨ s_isGoing = 1)) (hwh : z_rg wh) : z_Met l yX10_run cX10_run 2 (some .int) 0 0 0 0 D A 27 ad ks [.ref (ad 0), z_v wh] (z_zc ad ks s_edgeCount s_moveCount s_isNeeded s_timesDone s_size s_isGoing s_allTime s_stepCount s_gapCount g_edges g_moves g_limits a_sfacts a_sbounds a_facts a_zone a_most a_places a_amounts a_nextPlaces a_nextAmounts a_earliest a_visited a_lastSet a_gapFrom a_gapTo a_gapLeast a_askedPlaces a_askedAmounts) Y (fun r S' Y' => S' = (z_zc ad ks s_edgeCount s_moveCount s_isNeeded s_timesDone s_size s_isGoing s_allTime s_stepCount s_gapCount g_edges g_moves g_limits a_sfacts a_sbounds a_facts a_zone a_most a_places a_amounts a_nextPlaces a_nextAmounts a_earliest a_visited a_lastSet a_gapFrom a_gapTo a_gapLeast a_askedPlaces a_askedAmounts) ∧ Y = Y' ∧ ∃ z : Int, r = some (z_v z) ∧ (z = z_runR wh s_isGoing a_places a_amounts s_allTime s_stepCount)) := by
  refine z_start2 (by decide) (Nat.le_of_ble_eq_true rfl) ?_
  intro p e R s m args below meth c Q C hRf hRc hRs hRl hQ hrt hnm
  refine z_loc (L' := [(0, .ref (ad 0)), (1, z_v wh)]) [0, 1] rfl ?_
  refine z_aloadn C 0 dX10_run_0 rfl rfl ?_
  refine z_get C 0 (by decide) rfl rfl z_it10 2 (by decide) rfl fl_10_26 rfl dX10_run_1 ?_
  refine z_get C 13 (by decide) rfl rfl z_it8 0 (by decide) rfl fl_10_165 rfl dX10_run_4 ?_
  refine z_if_ne (t := 13) C dX10_run_7 (by decide) (by omega) (fun c1 => ?_) (fun c1 => ?_)
  · skip
    refine z_iloadn C 1 dX10_run_13 rfl rfl ?_
    refine z_if_lt (t := 32) C dX10_run_14 (by decide) (by omega) (fun c2 => ?_) (fun c2 => ?_)
    · skip
      refine z_iloadn C 1 dX10_run_32 rfl rfl ?_
      refine z_iconst C dX10_run_33 ?_
      refine z_icmp_le (t := 55) C dX10_run_34 (by decide) (by omega) (by omega) (fun c3 => ?_) (fun c3 => ?_)
      · skip
        refine z_iloadn C 1 dX10_run_55 rfl rfl ?_
        rcases (show (wh ≠ 7 ∧ wh ≠ 8) ∨ wh = 7 ∨ wh = 8 by omega) with w4 | w4 | w4
        · refine z_look (o := 44) (t := 100) C dX10_run_56 (by decide) (by omega) (by simp [Op.lookupswitch.offset, w4]; omega) (by decide) ?_
          refine z_bipush C dX10_run_100 (by decide) ?_
          rw [hQ]
          exact z_iret C hrt dX10_run_102 (⟨rfl, rfl, _, rfl, by unfold z_runR; split <;> (try split) <;> (try split) <;> (try split) <;> (try split) <;> (try split) <;> (try split) <;> omega⟩) (by omega) (by omega)
        · refine z_look (o := 28) (t := 84) C dX10_run_56 (by decide) (by omega) (by rw [w4]; rfl) (by decide) ?_
          refine z_aloadn C 0 dX10_run_84 rfl rfl ?_
          refine z_get C 0 (by decide) rfl rfl z_it10 2 (by decide) rfl fl_10_26 rfl dX10_run_85 ?_
          refine z_get C 13 (by decide) rfl rfl z_it8 3 (by decide) rfl fl_10_191 rfl dX10_run_88 ?_
          rw [hQ]
          exact z_iret C hrt dX10_run_91 (⟨rfl, rfl, _, rfl, by unfold z_runR; split <;> (try split) <;> (try split) <;> (try split) <;> (try split) <;> (try split) <;> (try split) <;> omega⟩) (by omega) (by omega)
        · refine z_look (o := 36) (t := 92) C dX10_run_56 (by decide) (by omega) (by rw [w4]; rfl) (by decide) ?_
          refine z_aloadn C 0 dX10_run_92 rfl rfl ?_
          refine z_get C 0 (by decide) rfl rfl z_it10 2 (by decide) rfl fl_10_26 rfl dX10_run_93 ?_
          refine z_get C 13 (by decide) rfl rfl z_it8 4 (by decide) rfl fl_10_194 rfl dX10_run_96 ?_
          rw [hQ]
          exact z_iret C hrt dX10_run_99 (⟨rfl, rfl, _, rfl, by unfold z_runR; split <;> (try split) <;> (try split) <;> (try split) <;> (try split) <;> (try split) <;> (try split) <;> omega⟩) (by omega) (by omega)
      · skip
        refine z_iloadn C 1 dX10_run_37 rfl rfl ?_
        refine z_bipush C dX10_run_38 (by decide) ?_
        refine z_icmp_ge (t := 55) C dX10_run_40 (by decide) (by omega) (by omega) (fun c5 => ?_) (fun c5 => ?_)
        · skip
          refine z_iloadn C 1 dX10_run_55 rfl rfl ?_
          rcases (show (wh ≠ 7 ∧ wh ≠ 8) ∨ wh = 7 ∨ wh = 8 by omega) with w6 | w6 | w6
          · refine z_look (o := 44) (t := 100) C dX10_run_56 (by decide) (by omega) (by simp [Op.lookupswitch.offset, w6]; omega) (by decide) ?_
            refine z_bipush C dX10_run_100 (by decide) ?_
            rw [hQ]
            exact z_iret C hrt dX10_run_102 (⟨rfl, rfl, _, rfl, by unfold z_runR; split <;> (try split) <;> (try split) <;> (try split) <;> (try split) <;> (try split) <;> (try split) <;> omega⟩) (by omega) (by omega)
          · refine z_look (o := 28) (t := 84) C dX10_run_56 (by decide) (by omega) (by rw [w6]; rfl) (by decide) ?_
            refine z_aloadn C 0 dX10_run_84 rfl rfl ?_
            refine z_get C 0 (by decide) rfl rfl z_it10 2 (by decide) rfl fl_10_26 rfl dX10_run_85 ?_
            refine z_get C 13 (by decide) rfl rfl z_it8 3 (by decide) rfl fl_10_191 rfl dX10_run_88 ?_
            rw [hQ]
            exact z_iret C hrt dX10_run_91 (⟨rfl, rfl, _, rfl, by unfold z_runR; split <;> (try split) <;> (try split) <;> (try split) <;> (try split) <;> (try split) <;> (try split) <;> omega⟩) (by omega) (by omega)
          · refine z_look (o := 36) (t := 92) C dX10_run_56 (by decide) (by omega) (by rw [w6]; rfl) (by decide) ?_
            refine z_aloadn C 0 dX10_run_92 rfl rfl ?_
            refine z_get C 0 (by decide) rfl rfl z_it10 2 (by decide) rfl fl_10_26 rfl dX10_run_93 ?_
            refine z_get C 13 (by decide) rfl rfl z_it8 4 (by decide) rfl fl_10_194 rfl dX10_run_96 ?_
            rw [hQ]
            exact z_iret C hrt dX10_run_99 (⟨rfl, rfl, _, rfl, by unfold z_runR; split <;> (try split) <;> (try split) <;> (try split) <;> (try split) <;> (try split) <;> (try split) <;> omega⟩) (by omega) (by omega)
        · skip
          refine z_aloadn C 0 dX10_run_43 rfl rfl ?_
          refine z_get C 0 (by decide) rfl rfl z_it10 2 (by decide) rfl fl_10_26 rfl dX10_run_44 ?_
          refine z_get C 13 (by decide) rfl rfl z_it8 2 (by decide) rfl fl_10_188 rfl dX10_run_47 ?_
          refine z_iloadn C 1 dX10_run_50 rfl rfl ?_
          refine z_iconst C dX10_run_51 ?_
          refine z_isub C dX10_run_52 ?_
          refine z_iald C 15 (by decide) rfl (by decide) (by omega) (by omega) dX10_run_53 ?_
          rw [hQ]
          exact z_iret C hrt dX10_run_54 (⟨rfl, rfl, _, rfl, by unfold z_runR; split <;> (try split) <;> (try split) <;> (try split) <;> (try split) <;> (try split) <;> (try split) <;> omega⟩) (by omega) (by omega)
    · skip
      refine z_iloadn C 1 dX10_run_17 rfl rfl ?_
      refine z_iconst C dX10_run_18 ?_
      refine z_icmp_ge (t := 32) C dX10_run_19 (by decide) (by omega) (by omega) (fun c7 => ?_) (fun c7 => ?_)
      · skip
        refine z_iloadn C 1 dX10_run_32 rfl rfl ?_
        refine z_iconst C dX10_run_33 ?_
        refine z_icmp_le (t := 55) C dX10_run_34 (by decide) (by omega) (by omega) (fun c8 => ?_) (fun c8 => ?_)
        · skip
          refine z_iloadn C 1 dX10_run_55 rfl rfl ?_
          rcases (show (wh ≠ 7 ∧ wh ≠ 8) ∨ wh = 7 ∨ wh = 8 by omega) with w9 | w9 | w9
          · refine z_look (o := 44) (t := 100) C dX10_run_56 (by decide) (by omega) (by simp [Op.lookupswitch.offset, w9]; omega) (by decide) ?_
            refine z_bipush C dX10_run_100 (by decide) ?_
            rw [hQ]
            exact z_iret C hrt dX10_run_102 (⟨rfl, rfl, _, rfl, by unfold z_runR; split <;> (try split) <;> (try split) <;> (try split) <;> (try split) <;> (try split) <;> (try split) <;> omega⟩) (by omega) (by omega)
          · refine z_look (o := 28) (t := 84) C dX10_run_56 (by decide) (by omega) (by rw [w9]; rfl) (by decide) ?_
            refine z_aloadn C 0 dX10_run_84 rfl rfl ?_
            refine z_get C 0 (by decide) rfl rfl z_it10 2 (by decide) rfl fl_10_26 rfl dX10_run_85 ?_
            refine z_get C 13 (by decide) rfl rfl z_it8 3 (by decide) rfl fl_10_191 rfl dX10_run_88 ?_
            rw [hQ]
            exact z_iret C hrt dX10_run_91 (⟨rfl, rfl, _, rfl, by unfold z_runR; split <;> (try split) <;> (try split) <;> (try split) <;> (try split) <;> (try split) <;> (try split) <;> omega⟩) (by omega) (by omega)
          · refine z_look (o := 36) (t := 92) C dX10_run_56 (by decide) (by omega) (by rw [w9]; rfl) (by decide) ?_
            refine z_aloadn C 0 dX10_run_92 rfl rfl ?_
            refine z_get C 0 (by decide) rfl rfl z_it10 2 (by decide) rfl fl_10_26 rfl dX10_run_93 ?_
            refine z_get C 13 (by decide) rfl rfl z_it8 4 (by decide) rfl fl_10_194 rfl dX10_run_96 ?_
            rw [hQ]
            exact z_iret C hrt dX10_run_99 (⟨rfl, rfl, _, rfl, by unfold z_runR; split <;> (try split) <;> (try split) <;> (try split) <;> (try split) <;> (try split) <;> (try split) <;> omega⟩) (by omega) (by omega)
        · skip
          refine z_iloadn C 1 dX10_run_37 rfl rfl ?_
          refine z_bipush C dX10_run_38 (by decide) ?_
          refine z_icmp_ge (t := 55) C dX10_run_40 (by decide) (by omega) (by omega) (fun c10 => ?_) (fun c10 => ?_)
          · skip
            refine z_iloadn C 1 dX10_run_55 rfl rfl ?_
            rcases (show (wh ≠ 7 ∧ wh ≠ 8) ∨ wh = 7 ∨ wh = 8 by omega) with w11 | w11 | w11
            · refine z_look (o := 44) (t := 100) C dX10_run_56 (by decide) (by omega) (by simp [Op.lookupswitch.offset, w11]; omega) (by decide) ?_
              refine z_bipush C dX10_run_100 (by decide) ?_
              rw [hQ]
              exact z_iret C hrt dX10_run_102 (⟨rfl, rfl, _, rfl, by unfold z_runR; split <;> (try split) <;> (try split) <;> (try split) <;> (try split) <;> (try split) <;> (try split) <;> omega⟩) (by omega) (by omega)
            · refine z_look (o := 28) (t := 84) C dX10_run_56 (by decide) (by omega) (by rw [w11]; rfl) (by decide) ?_
              refine z_aloadn C 0 dX10_run_84 rfl rfl ?_
              refine z_get C 0 (by decide) rfl rfl z_it10 2 (by decide) rfl fl_10_26 rfl dX10_run_85 ?_
              refine z_get C 13 (by decide) rfl rfl z_it8 3 (by decide) rfl fl_10_191 rfl dX10_run_88 ?_
              rw [hQ]
              exact z_iret C hrt dX10_run_91 (⟨rfl, rfl, _, rfl, by unfold z_runR; split <;> (try split) <;> (try split) <;> (try split) <;> (try split) <;> (try split) <;> (try split) <;> omega⟩) (by omega) (by omega)
            · refine z_look (o := 36) (t := 92) C dX10_run_56 (by decide) (by omega) (by rw [w11]; rfl) (by decide) ?_
              refine z_aloadn C 0 dX10_run_92 rfl rfl ?_
              refine z_get C 0 (by decide) rfl rfl z_it10 2 (by decide) rfl fl_10_26 rfl dX10_run_93 ?_
              refine z_get C 13 (by decide) rfl rfl z_it8 4 (by decide) rfl fl_10_194 rfl dX10_run_96 ?_
              rw [hQ]
              exact z_iret C hrt dX10_run_99 (⟨rfl, rfl, _, rfl, by unfold z_runR; split <;> (try split) <;> (try split) <;> (try split) <;> (try split) <;> (try split) <;> (try split) <;> omega⟩) (by omega) (by omega)
          · skip
            refine z_aloadn C 0 dX10_run_43 rfl rfl ?_
            refine z_get C 0 (by decide) rfl rfl z_it10 2 (by decide) rfl fl_10_26 rfl dX10_run_44 ?_
            refine z_get C 13 (by decide) rfl rfl z_it8 2 (by decide) rfl fl_10_188 rfl dX10_run_47 ?_
            refine z_iloadn C 1 dX10_run_50 rfl rfl ?_
            refine z_iconst C dX10_run_51 ?_
            refine z_isub C dX10_run_52 ?_
            refine z_iald C 15 (by decide) rfl (by decide) (by omega) (by omega) dX10_run_53 ?_
            rw [hQ]
            exact z_iret C hrt dX10_run_54 (⟨rfl, rfl, _, rfl, by unfold z_runR; split <;> (try split) <;> (try split) <;> (try split) <;> (try split) <;> (try split) <;> (try split) <;> omega⟩) (by omega) (by omega)
      · skip
        refine z_aloadn C 0 dX10_run_22 rfl rfl ?_
        refine z_get C 0 (by decide) rfl rfl z_it10 2 (by decide) rfl fl_10_26 rfl dX10_run_23 ?_
        refine z_get C 13 (by decide) rfl rfl z_it8 1 (by decide) rfl fl_10_185 rfl dX10_run_26 ?_
        refine z_iloadn C 1 dX10_run_29 rfl rfl ?_
        refine z_iald C 14 (by decide) rfl (by decide) (by omega) (by omega) dX10_run_30 ?_
        rw [hQ]
        exact z_iret C hrt dX10_run_31 (⟨rfl, rfl, _, rfl, by unfold z_runR; split <;> (try split) <;> (try split) <;> (try split) <;> (try split) <;> (try split) <;> (try split) <;> omega⟩) (by omega) (by omega)
  · skip
    refine z_bipush C dX10_run_10 (by decide) ?_
    rw [hQ]
    exact z_iret C hrt dX10_run_12 (⟨rfl, rfl, _, rfl, by unfold z_runR; split <;> (try split) <;> (try split) <;> (try split) <;> (try split) <;> (try split) <;> (try split) <;> omega⟩) (by omega) (by omega)
