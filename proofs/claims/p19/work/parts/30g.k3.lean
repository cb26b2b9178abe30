set_option maxRecDepth 20000 in
theorem cx_X2_init (l : Launch) {D : va_G} {A : Nat → Prop} {ad : Nat → Nat} {ks : z_Ks} {N : Nat} {S : Nat → va_E} {Y : Nat → Option va_E} (q : Nat) (hY : Y q = some (z_ob 2 [.null, z_v 0, .null, z_v 0, .null])) : z_Met l yX2_init cX2_init 2 none 2 40 39 510 D A N ad ks [.ref q] S Y (fun r S' Y' => ∃ u1 u2 u3 : Nat, ∃ (g : Nat → Option Nat) (ql qt : Nat → Nat), S = S' ∧ (∀ x y, Y x = some y → x ≠ q → Y' x = some y) ∧ Y' q = some (z_ob 2 [.ref u1, z_v 0, .ref u2, z_v 0, .ref u3]) ∧ Y' u1 = some (z_rr ks.2.1 20 (fun _ => none)) ∧ Y' u2 = some (z_rr ks.2.2.1 400 (fun _ => none)) ∧ Y' u3 = some (z_rr ks.2.2.2.1 18 g) ∧ z_NL ks Y' g 18 ql qt ∧ (∀ x y, Y x = some y → x < u1) ∧ u1 < u2 ∧ u2 < u3 ∧ r = none) := by
  refine z_start2 (by decide) (Nat.le_of_ble_eq_true rfl) ?_
  intro p e R s m args below meth c Q C hRf hRc hRs hRl hQ hrt hnm
  refine z_loc (L' := [(0, .ref q)]) [0] rfl ?_
  refine z_aloadn C 0 dX2_init_0 rfl rfl ?_
  refine z_obj C mo_2_3 (by omega) (by rw [hRl]; exact Nat.le_of_ble_eq_true rfl) dX2_init_1 ?_
  refine z_aloadn C 0 dX2_init_4 rfl rfl ?_
  refine z_bipush C dX2_init_5 (by decide) ?_
  refine z_newA3 C 1 rfl C.2.2.2.2.2.2.1.1.1 na_2_9 (by omega) (by omega) (by omega) (by show _ + 20 ≤ _; omega) dX2_init_7 (fun q1 Y2 w3 hs4 hf5 => ?_)
  have y6 := hs4 _ _ hY
  have fst7 : ∀ x y, Y x = some y → x < q1 := fun x y h => by
    by_cases n : x = q
    · rw [n]; exact hf5 _ _ hY
    · exact hf5 x y ((fun x y h _ => h) x y h n)
  have kp8 : ∀ x y, Y x = some y → x ≠ q → Y2 x = some y := fun x y h n => hs4 x y ((fun x y h _ => h) x y h n)
  have l9 : z_yl ks Y Y2 := z_yl_sub hs4
  have le10 : z_yl ks Y Y2 := l9
  refine z_wide (k := 1) (n := 20) (Nat.le_refl _) (Nat.le_refl _) ?_
  refine z_put3 (fs' := [.ref q1, z_v 0, .null, z_v 0, .null]) C y6 rfl z_it2 tyX2 tyX2_ok nmX2 0 (by decide) rfl (Or.inr ⟨rfl, hnm, rfl⟩) fl_2_11 (tyX2_ok 0 (by decide)) rfl rfl (Nat.le_of_ble_eq_true rfl) dX2_init_10 rfl (fun Y11 y12 hk13 => ?_)
  have w14 := hk13 _ _ w3 (z_ne w3 y6 (fun z => by first | cases z | simp at z))
  have kp15 : ∀ x y, Y x = some y → x ≠ q → Y11 x = some y := fun x y h n => hk13 x y (kp8 x y h n) n
  have l16 : z_yl ks Y2 Y11 := z_yl_oth y6 (by decide) hk13
  have le17 : z_yl ks Y Y11 := le10.tr l16
  refine z_aloadn C 0 dX2_init_13 rfl rfl ?_
  refine z_sipush C dX2_init_14 (by decide) ?_
  refine z_newA3 C 2 rfl C.2.2.2.2.2.2.1.1.2.1 na_2_17 (by omega) (by omega) (by omega) (by show _ + 400 ≤ _; omega) dX2_init_17 (fun q18 Y19 w20 hs21 hf22 => ?_)
  have y23 := hs21 _ _ y12
  have w24 := hs21 _ _ w14
  have lt25 : q1 < q18 := hf22 _ _ w14
  have kp26 : ∀ x y, Y x = some y → x ≠ q → Y19 x = some y := fun x y h n => hs21 x y (kp15 x y h n)
  have l27 : z_yl ks Y11 Y19 := z_yl_sub hs21
  have le28 : z_yl ks Y Y19 := le17.tr l27
  refine z_wide (k := 2) (n := 420) (Nat.le_refl _) (Nat.le_refl _) ?_
  refine z_put3 (fs' := [.ref q1, z_v 0, .ref q18, z_v 0, .null]) C y23 rfl z_it2 tyX2 tyX2_ok nmX2 2 (by decide) rfl (Or.inr ⟨rfl, hnm, rfl⟩) fl_2_19 (tyX2_ok 2 (by decide)) rfl rfl (Nat.le_of_ble_eq_true rfl) dX2_init_20 rfl (fun Y29 y30 hk31 => ?_)
  have w32 := hk31 _ _ w24 (z_ne w24 y23 (fun z => by first | cases z | simp at z))
  have w33 := hk31 _ _ w20 (z_ne w20 y23 (fun z => by first | cases z | simp at z))
  have kp34 : ∀ x y, Y x = some y → x ≠ q → Y29 x = some y := fun x y h n => hk31 x y (kp26 x y h n) n
  have l35 : z_yl ks Y19 Y29 := z_yl_oth y23 (by decide) hk31
  have le36 : z_yl ks Y Y29 := le28.tr l35
  refine z_aloadn C 0 dX2_init_23 rfl rfl ?_
  refine z_bipush C dX2_init_24 (by decide) ?_
  refine z_newA3 C 3 rfl C.2.2.2.2.2.2.1.1.2.2.1 na_2_23 (by omega) (by omega) (by omega) (by show _ + 18 ≤ _; omega) dX2_init_26 (fun q37 Y38 w39 hs40 hf41 => ?_)
  have y42 := hs40 _ _ y30
  have w43 := hs40 _ _ w32
  have w44 := hs40 _ _ w33
  have lt45 : q18 < q37 := hf41 _ _ w33
  have kp46 : ∀ x y, Y x = some y → x ≠ q → Y38 x = some y := fun x y h n => hs40 x y (kp34 x y h n)
  have l47 : z_yl ks Y29 Y38 := z_yl_sub hs40
  have le48 : z_yl ks Y Y38 := le36.tr l47
  refine z_wide (k := 3) (n := 438) (Nat.le_refl _) (Nat.le_refl _) ?_
  refine z_put3 (fs' := [.ref q1, z_v 0, .ref q18, z_v 0, .ref q37]) C y42 rfl z_it2 tyX2 tyX2_ok nmX2 4 (by decide) rfl (Or.inr ⟨rfl, hnm, rfl⟩) fl_2_25 (tyX2_ok 4 (by decide)) rfl rfl (Nat.le_of_ble_eq_true rfl) dX2_init_29 rfl (fun Y49 y50 hk51 => ?_)
  have w52 := hk51 _ _ w43 (z_ne w43 y42 (fun z => by first | cases z | simp at z))
  have w53 := hk51 _ _ w44 (z_ne w44 y42 (fun z => by first | cases z | simp at z))
  have w54 := hk51 _ _ w39 (z_ne w39 y42 (fun z => by first | cases z | simp at z))
  have kp55 : ∀ x y, Y x = some y → x ≠ q → Y49 x = some y := fun x y h n => hk51 x y (kp46 x y h n) n
  have l56 : z_yl ks Y38 Y49 := z_yl_oth y42 (by decide) hk51
  have le57 : z_yl ks Y Y49 := le48.tr l56
  refine z_iconst C dX2_init_32 ?_
  refine z_istoren (L' := [(1, z_v 0), (0, .ref q)]) C dX2_init_33 rfl (by decide) rfl ?_
  have L34 : ∀ (n : Nat), ∀ (i1 : Int) (fql : Nat → Nat) (fqt : Nat → Nat) (FY : Nat → Option va_E) (fg : Nat → Option Nat), (0 ≤ i1 ∧ i1 ≤ 18) → (∀ x y, Y x = some y → x ≠ q → FY x = some y) → (z_yl ks Y FY) → (FY q = some (z_ob 2 [.ref q1, z_v 0, .ref q18, z_v 0, .ref q37])) → (FY q1 = some (z_rr ks.2.1 20 (fun _ => none))) → (FY q18 = some (z_rr ks.2.2.1 400 (fun _ => none))) → (FY q37 = some (z_rr ks.2.2.2.1 18 fg)) → (z_NL ks FY fg i1 fql fqt) → ((18 : Int) - i1).toNat < n → z_V p l e R s m args below meth c Q D A N ad 2 S FY (3 + 2 * (i1 : Int).toNat) (438 + 4 * (i1 : Int).toNat) 34 [(0, .ref q), (1, z_v i1)] [] := by
    intro n
    induction n with
    | zero => intro i1 fql fqt FY fg I1 KP LE D0 D1 D2 D3 HLi hm; exact absurd hm (Nat.not_lt_zero _)
    | succ n ih34 =>
      intro i1 fql fqt FY fg I1 KP LE D0 D1 D2 D3 HLi hm
      refine z_iloadn C 1 dX2_init_34 rfl rfl ?_
      refine z_bipush C dX2_init_35 (by decide) ?_
      refine z_icmp_ge (t := 59) C dX2_init_37 (by decide) (by omega) (by omega) (fun c58 => ?_) (fun c58 => ?_)
      · skip
        rw [hQ]
        exact z_vret C hrt dX2_init_59 (⟨q1, q18, q37, _, _, _, rfl, KP, D0, D1, D2, D3, (show i1 = 18 by omega) ▸ HLi, fst7, lt25, lt45, rfl⟩) (by omega) (by omega)
      · skip
        refine z_aloadn C 0 dX2_init_40 rfl rfl ?_
        refine z_getY C D0 rfl z_it2 4 (by decide) rfl fl_2_25 rfl dX2_init_41 ?_
        refine z_iloadn C 1 dX2_init_44 rfl rfl ?_
        refine z_new3 (r := (RX6, TX6, 2)) (ci := 6) (fs := [.null, z_v 0]) C rfl z_it6 tyX6 tyX6_ok nw_2_23 (fun j hj => match j, hj with | 0, _ => rfl | 1, _ => rfl | n + 2, h => absurd h (by show ¬ (n + 2 < 2); omega)) (by omega) (by show _ + 2 ≤ _; omega) dX2_init_45 (fun q59 Y60 y61 hs62 hf63 => ?_)
        have y64 := hs62 _ _ D0
        have w65 := hs62 _ _ D1
        have w66 := hs62 _ _ D2
        have w67 := hs62 _ _ D3
        have lt68 : q37 < q59 := hf63 _ _ D3
        have kp69 : ∀ x y, Y x = some y → x ≠ q → Y60 x = some y := fun x y h n => hs62 x y (KP x y h n)
        have l70 : z_yl ks FY Y60 := z_yl_sub hs62
        have le71 : z_yl ks Y Y60 := LE.tr l70
        refine z_wide (k := ((3 + 2 * (i1 : Int).toNat) + 1)) (n := ((438 + 4 * (i1 : Int).toNat) + 2)) (Nat.le_refl _) (Nat.le_refl _) ?_
        refine z_dup C dX2_init_48 rfl ?_
        refine z_callN C (cm_X6_init l q59 y61) C.2.2.2.2.2.2.1.2.1 mv_2_29 rfl pd_X6_init ⟨by omega, by omega⟩ ⟨by omega, by omega⟩ rfl (Nat.le_of_ble_eq_true rfl) dX2_init_49 ?_
        rintro _ _ Y72 ⟨tt, rfl, hk73, y74, ww, hlt, rfl⟩
        have y75 := hk73 _ _ y64 (z_ne y64 y61 (fun z => by first | cases z | simp at z))
        have w76 := hk73 _ _ w65 (z_ne w65 y61 (fun z => by first | cases z | simp at z))
        have w77 := hk73 _ _ w66 (z_ne w66 y61 (fun z => by first | cases z | simp at z))
        have w78 := hk73 _ _ w67 (z_ne w67 y61 (fun z => by first | cases z | simp at z))
        have kp79 : ∀ x y, Y x = some y → x ≠ q → Y72 x = some y := fun x y h n => hk73 x y (kp69 x y h n) (Nat.ne_of_lt (hf63 x y (KP x y h n)))
        have l80 : z_yl ks Y60 Y72 := z_yl_raw y61 (Or.inr (Or.inl rfl)) hk73
        have le81 : z_yl ks Y Y72 := le71.tr l80
        refine z_wide (k := (((3 + 2 * (i1 : Int).toNat) + 1) + 1)) (n := (((438 + 4 * (i1 : Int).toNat) + 2) + 2)) (Nat.le_refl _) (Nat.le_refl _) ?_
        have p82 : z_TL ks Y72 q59 := ⟨_, _, _, y74, ww, by omega, fun j hj => absurd hj (by omega)⟩
        refine z_aast3 C 3 w78 rfl y74 rfl (by decide) (by omega) (by omega) dX2_init_52 (fun Y83 w84 hk85 => ?_)
        have y86 := hk85 _ _ y75 (z_ne y75 w78 (fun z => by first | cases z | simp at z))
        have y87 := hk85 _ _ y74 (z_ne y74 w78 (fun z => by first | cases z | simp at z))
        have w88 := hk85 _ _ w76 (z_ne w76 w78 (fun z => by first | cases z | simp at z))
        have w89 := hk85 _ _ w77 (z_ne w77 w78 (fun z => by first | cases z | simp at z))
        have w90 := hk85 _ _ ww (z_ne ww w78 (fun z => by first | cases z | simp at z))
        have kp91 : ∀ x y, Y x = some y → x ≠ q → Y83 x = some y := fun x y h n => hk85 x y (kp79 x y h n) (by have hx := fst7 x y h; omega)
        have lz : z_yl ks Y72 Y83 := z_yl_rr w78 (by decide) hk85
        have le92 : z_yl ks Y Y83 := le81.tr lz
        have p93 := lz.2.1 _ p82
        refine z_iinc (L' := [(1, z_v (i1 + 1)), (0, .ref q)]) C 1 dX2_init_53 rfl (by decide) rfl ?_
        refine z_goto (t := 34) C dX2_init_56 (by decide) ?_
        refine z_wide (k := (3 + 2 * ((i1 + 1) : Int).toNat)) (n := (438 + 4 * ((i1 + 1) : Int).toNat)) (by omega) (by omega) ?_
        refine z_loc (L' := [(0, .ref q), (1, z_v (i1 + 1))]) [1, 0] rfl ?_
        exact ih34 (i1 + 1) (va_up fql (i1 : Int).toNat q59) (va_up fqt (i1 : Int).toNat tt) Y83 (va_up fg (i1 : Int).toNat (some q59)) (by omega) (kp91) (le92) (y86) (w88) (w89) (w84) (HLi.add (by omega) hs62 hf63 y61 hk73 y74 ww hlt w78 (by decide) hk85) (by omega)
  refine z_wide (k := (3 + 2 * (0 : Int).toNat)) (n := (438 + 4 * (0 : Int).toNat)) (by omega) (by omega) ?_
  refine z_loc (L' := [(0, .ref q), (1, z_v 0)]) [1, 0] rfl ?_
  exact (L34 (((18 : Int) - 0).toNat + 1)) 0 (fun _ => 0) (fun _ => 0) Y49 (fun _ => none) (by omega) (kp55) (le57) (y50) (w52) (w53) (w54) (z_NL.zero) (Nat.lt_succ_self _)
set_option maxRecDepth 20000 in
theorem cx_X10_init (l : Launch) {D : va_G} {A : Nat → Prop} {ad : Nat → Nat} {ks : z_Ks} {N : Nat} {S : Nat → va_E} {Y : Nat → Option va_E} (q : Nat) (hY : Y q = some (z_ob 10 [.null, .null, .null, .null, .null, .null])) : z_Met l yX10_init cX10_init 1 none 3 61 62 5278 D A N ad ks [.ref q] S Y (fun r S' Y' => ∃ u1 u2 u3 u4 u5 u6 u7 u8 u9 u10 u11 u12 u13 u14 u15 u16 u17 u18 u19 u20 u21 u22 u23 u24 u25 u26 : Nat, ∃ (g : Nat → Option Nat) (ql qt : Nat → Nat), S = S' ∧ (∀ x y, Y x = some y → x ≠ q → Y' x = some y) ∧ Y' q = some (z_ob 10 [.ref u1, .ref u5, .ref u13, .ref u18, .ref u25, .ref u26]) ∧ Y' u1 = some (z_ob 2 [.ref u2, z_v 0, .ref u3, z_v 0, .ref u4]) ∧ Y' u2 = some (z_rr ks.2.1 20 (fun _ => none)) ∧ Y' u3 = some (z_rr ks.2.2.1 400 (fun _ => none)) ∧ Y' u4 = some (z_rr ks.2.2.2.1 18 g) ∧ Y' u5 = some (z_ob 3 [.ref u6, z_v 1, z_v 0, .ref u9, .ref u10, .ref u12]) ∧ Y' u6 = some (z_ob 4 [z_v 0, .ref u7, .ref u8]) ∧ Y' u7 = some (z_ar ks.1 840 (fun _ => 0)) ∧ Y' u8 = some (z_ar ks.1 1920 (fun _ => 0)) ∧ Y' u9 = some (z_ar ks.1 7 (fun _ => 0)) ∧ Y' u10 = some (z_ob 9 [.ref u11]) ∧ Y' u11 = some (z_ar ks.1 16 (fun _ => 0)) ∧ Y' u12 = some (z_ar ks.1 4 (fun _ => 0)) ∧ Y' u13 = some (z_ob 8 [z_v 0, .ref u14, .ref u15, z_v 0, z_v 0, .ref u16, .ref u17]) ∧ Y' u14 = some (z_ar ks.1 3 (fun _ => 0)) ∧ Y' u15 = some (z_ar ks.1 4 (fun _ => 0)) ∧ Y' u16 = some (z_ar ks.1 3 (fun _ => 0)) ∧ Y' u17 = some (z_ar ks.1 4 (fun _ => 0)) ∧ Y' u18 = some (z_ob 7 [.ref u19, .ref u20, .ref u21, .ref u22, .ref u23, .ref u24, z_v 0]) ∧ Y' u19 = some (z_ar ks.1 41 (fun _ => 0)) ∧ Y' u20 = some (z_ar ks.1 41 (fun _ => 0)) ∧ Y' u21 = some (z_ar ks.1 4 (fun _ => 0)) ∧ Y' u22 = some (z_ar ks.1 615 (fun _ => 0)) ∧ Y' u23 = some (z_ar ks.1 615 (fun _ => 0)) ∧ Y' u24 = some (z_ar ks.1 615 (fun _ => 0)) ∧ Y' u25 = some (z_ar ks.1 3 (fun _ => 0)) ∧ Y' u26 = some (z_ar ks.1 4 (fun _ => 0)) ∧ z_NL ks Y' g 18 ql qt ∧ (∀ x y, Y x = some y → x < u1) ∧ u1 < u2 ∧ u2 < u3 ∧ u3 < u4 ∧ u4 < u5 ∧ u5 < u6 ∧ u6 < u7 ∧ u7 < u8 ∧ u8 < u9 ∧ u9 < u10 ∧ u10 < u11 ∧ u11 < u12 ∧ u12 < u13 ∧ u13 < u14 ∧ u14 < u15 ∧ u15 < u16 ∧ u16 < u17 ∧ u17 < u18 ∧ u18 < u19 ∧ u19 < u20 ∧ u20 < u21 ∧ u21 < u22 ∧ u22 < u23 ∧ u23 < u24 ∧ u24 < u25 ∧ u25 < u26 ∧ r = none) := by
  refine z_start2 (by decide) (Nat.le_of_ble_eq_true rfl) ?_
  intro p e R s m args below meth c Q C hRf hRc hRs hRl hQ hrt hnm
  refine z_loc (L' := [(0, .ref q)]) [0] rfl ?_
  refine z_aloadn C 0 dX10_init_0 rfl rfl ?_
  refine z_obj C mo_10_3 (by omega) (by rw [hRl]; exact Nat.le_of_ble_eq_true rfl) dX10_init_1 ?_
  refine z_aloadn C 0 dX10_init_4 rfl rfl ?_
  refine z_new3 (r := (RX2, TX2, 5)) (ci := 2) (fs := [.null, z_v 0, .null, z_v 0, .null]) C rfl z_it2 tyX2 tyX2_ok nw_10_9 (fun j hj => match j, hj with | 0, _ => rfl | 1, _ => rfl | 2, _ => rfl | 3, _ => rfl | 4, _ => rfl | n + 5, h => absurd h (by show ¬ (n + 5 < 5); omega)) (by omega) (by show _ + 5 ≤ _; omega) dX10_init_5 (fun q1 Y2 y3 hs4 hf5 => ?_)
  have y6 := hs4 _ _ hY
  have fst7 : ∀ x y, Y x = some y → x < q1 := fun x y h => by
    by_cases n : x = q
    · rw [n]; exact hf5 _ _ hY
    · exact hf5 x y ((fun x y h _ => h) x y h n)
  have kp8 : ∀ x y, Y x = some y → x ≠ q → Y2 x = some y := fun x y h n => hs4 x y ((fun x y h _ => h) x y h n)
  have l9 : z_yl ks Y Y2 := z_yl_sub hs4
  have le10 : z_yl ks Y Y2 := l9
  refine z_wide (k := 1) (n := 5) (Nat.le_refl _) (Nat.le_refl _) ?_
  refine z_dup C dX10_init_8 rfl ?_
  refine z_callI C (cx_X2_init l q1 y3) mv_10_11 rfl pd_X2_init ⟨by omega, by omega⟩ ⟨by omega, by omega⟩ rfl (Nat.le_of_ble_eq_true rfl) dX10_init_9 ?_
  rintro _ _ Y11 ⟨v14, v15, v16, gL, qlL, qtL, rfl, hk12, y13, w17, w18, w19, HL0, fs20, lt21, lt22, rfl⟩
  have y23 := hk12 _ _ y6 (z_ne y6 y3 (fun z => by first | cases z | simp at z))
  have kp24 : ∀ x y, Y x = some y → x ≠ q → Y11 x = some y := fun x y h n => hk12 x y (kp8 x y h n) (Nat.ne_of_lt (hf5 x y ((fun x y h _ => h) x y h n)))
  have l25 : z_yl ks Y2 Y11 := z_yl_oth y3 (by decide) hk12
  have le26 : z_yl ks Y Y11 := le10.tr l25
  have lt27 : q1 < v14 := fs20 _ _ y3
  refine z_wide (k := 40) (n := 515) (Nat.le_refl _) (Nat.le_refl _) ?_
  refine z_put3 (fs' := [.ref q1, .null, .null, .null, .null, .null]) C y23 rfl z_it10 tyX10 tyX10_ok nmX10 0 (by decide) rfl (Or.inr ⟨rfl, hnm, rfl⟩) fl_10_12 (tyX10_ok 0 (by decide)) rfl rfl (Nat.le_of_ble_eq_true rfl) dX10_init_12 rfl (fun Y28 y29 hk30 => ?_)
  have y31 := hk30 _ _ y13 (z_ne y13 y23 (fun z => by first | cases z | simp at z))
  have w32 := hk30 _ _ w17 (z_ne w17 y23 (fun z => by first | cases z | simp at z))
  have w33 := hk30 _ _ w18 (z_ne w18 y23 (fun z => by first | cases z | simp at z))
  have w34 := hk30 _ _ w19 (z_ne w19 y23 (fun z => by first | cases z | simp at z))
  have kp35 : ∀ x y, Y x = some y → x ≠ q → Y28 x = some y := fun x y h n => hk30 x y (kp24 x y h n) n
  have NL36 := HL0.oth y23 (by decide) hk30
  have l37 : z_yl ks Y11 Y28 := z_yl_oth y23 (by decide) hk30
  have le38 : z_yl ks Y Y28 := le26.tr l37
  refine z_aloadn C 0 dX10_init_15 rfl rfl ?_
  refine z_new3 (r := (RX3, TX3, 6)) (ci := 3) (fs := [.null, z_v 0, z_v 0, .null, .null, .null]) C rfl z_it3 tyX3 tyX3_ok nw_10_16 (fun j hj => match j, hj with | 0, _ => rfl | 1, _ => rfl | 2, _ => rfl | 3, _ => rfl | 4, _ => rfl | 5, _ => rfl | n + 6, h => absurd h (by show ¬ (n + 6 < 6); omega)) (by omega) (by show _ + 6 ≤ _; omega) dX10_init_16 (fun q39 Y40 y41 hs42 hf43 => ?_)
  have y44 := hs42 _ _ y31
  have y45 := hs42 _ _ y29
  have w46 := hs42 _ _ w32
  have w47 := hs42 _ _ w33
  have w48 := hs42 _ _ w34
  have lt49 : v16 < q39 := hf43 _ _ w34
  have kp50 : ∀ x y, Y x = some y → x ≠ q → Y40 x = some y := fun x y h n => hs42 x y (kp35 x y h n)
  have NL51 := NL36.sub hs42
  have l52 : z_yl ks Y28 Y40 := z_yl_sub hs42
  have le53 : z_yl ks Y Y40 := le38.tr l52
  refine z_wide (k := 41) (n := 521) (Nat.le_refl _) (Nat.le_refl _) ?_
  refine z_dup C dX10_init_19 rfl ?_
  refine z_callN C (cm_X3_init l q39 y41) C.2.2.2.2.2.2.1.2.2.1 mv_10_18 rfl pd_X3_init ⟨by omega, by omega⟩ ⟨by omega, by omega⟩ rfl (Nat.le_of_ble_eq_true rfl) dX10_init_20 ?_
  rintro _ _ Y54 ⟨v57, v58, v59, v60, v61, v62, v63, rfl, hk55, y56, w64, w65, w66, w67, w68, w69, w70, fs71, lt72, lt73, lt74, lt75, lt76, lt77, rfl⟩
  have y78 := hk55 _ _ y44 (z_ne y44 y41 (fun z => by first | cases z | simp at z))
  have y79 := hk55 _ _ y45 (z_ne y45 y41 (fun z => by first | cases z | simp at z))
  have w80 := hk55 _ _ w46 (z_ne w46 y41 (fun z => by first | cases z | simp at z))
  have w81 := hk55 _ _ w47 (z_ne w47 y41 (fun z => by first | cases z | simp at z))
  have w82 := hk55 _ _ w48 (z_ne w48 y41 (fun z => by first | cases z | simp at z))
  have kp83 : ∀ x y, Y x = some y → x ≠ q → Y54 x = some y := fun x y h n => hk55 x y (kp50 x y h n) (Nat.ne_of_lt (hf43 x y (kp35 x y h n)))
  have NL84 := NL51.oth y41 (by decide) hk55
  have l85 : z_yl ks Y40 Y54 := z_yl_oth y41 (by decide) hk55
  have le86 : z_yl ks Y Y54 := le53.tr l85
  have lt87 : q39 < v57 := fs71 _ _ y41
  refine z_wide (k := 48) (n := 3312) (Nat.le_refl _) (Nat.le_refl _) ?_
  refine z_put3 (fs' := [.ref q1, .ref q39, .null, .null, .null, .null]) C y79 rfl z_it10 tyX10 tyX10_ok nmX10 1 (by decide) rfl (Or.inr ⟨rfl, hnm, rfl⟩) fl_10_19 (tyX10_ok 1 (by decide)) rfl rfl (Nat.le_of_ble_eq_true rfl) dX10_init_23 rfl (fun Y88 y89 hk90 => ?_)
  have y91 := hk90 _ _ y78 (z_ne y78 y79 (fun z => by first | cases z | simp at z))
  have y92 := hk90 _ _ y56 (z_ne y56 y79 (fun z => by first | cases z | simp at z))
  have y93 := hk90 _ _ w64 (z_ne w64 y79 (fun z => by first | cases z | simp at z))
  have y94 := hk90 _ _ w68 (z_ne w68 y79 (fun z => by first | cases z | simp at z))
  have w95 := hk90 _ _ w80 (z_ne w80 y79 (fun z => by first | cases z | simp at z))
  have w96 := hk90 _ _ w81 (z_ne w81 y79 (fun z => by first | cases z | simp at z))
  have w97 := hk90 _ _ w82 (z_ne w82 y79 (fun z => by first | cases z | simp at z))
  have w98 := hk90 _ _ w65 (z_ne w65 y79 (fun z => by first | cases z | simp at z))
  have w99 := hk90 _ _ w66 (z_ne w66 y79 (fun z => by first | cases z | simp at z))
  have w100 := hk90 _ _ w67 (z_ne w67 y79 (fun z => by first | cases z | simp at z))
  have w101 := hk90 _ _ w69 (z_ne w69 y79 (fun z => by first | cases z | simp at z))
  have w102 := hk90 _ _ w70 (z_ne w70 y79 (fun z => by first | cases z | simp at z))
  have kp103 : ∀ x y, Y x = some y → x ≠ q → Y88 x = some y := fun x y h n => hk90 x y (kp83 x y h n) n
  have NL104 := NL84.oth y79 (by decide) hk90
  have l105 : z_yl ks Y54 Y88 := z_yl_oth y79 (by decide) hk90
  have le106 : z_yl ks Y Y88 := le86.tr l105
  refine z_aloadn C 0 dX10_init_26 rfl rfl ?_
  refine z_new3 (r := (RX8, TX8, 7)) (ci := 8) (fs := [z_v 0, .null, .null, z_v 0, z_v 0, .null, .null]) C rfl z_it8 tyX8 tyX8_ok nw_10_23 (fun j hj => match j, hj with | 0, _ => rfl | 1, _ => rfl | 2, _ => rfl | 3, _ => rfl | 4, _ => rfl | 5, _ => rfl | 6, _ => rfl | n + 7, h => absurd h (by show ¬ (n + 7 < 7); omega)) (by omega) (by show _ + 7 ≤ _; omega) dX10_init_27 (fun q107 Y108 y109 hs110 hf111 => ?_)
  have y112 := hs110 _ _ y91
  have y113 := hs110 _ _ y92
  have y114 := hs110 _ _ y93
  have y115 := hs110 _ _ y94
  have y116 := hs110 _ _ y89
  have w117 := hs110 _ _ w95
  have w118 := hs110 _ _ w96
  have w119 := hs110 _ _ w97
  have w120 := hs110 _ _ w98
  have w121 := hs110 _ _ w99
  have w122 := hs110 _ _ w100
  have w123 := hs110 _ _ w101
  have w124 := hs110 _ _ w102
  have lt125 : v63 < q107 := hf111 _ _ w102
  have kp126 : ∀ x y, Y x = some y → x ≠ q → Y108 x = some y := fun x y h n => hs110 x y (kp103 x y h n)
  have NL127 := NL104.sub hs110
  have l128 : z_yl ks Y88 Y108 := z_yl_sub hs110
  have le129 : z_yl ks Y Y108 := le106.tr l128
  refine z_wide (k := 49) (n := 3319) (Nat.le_refl _) (Nat.le_refl _) ?_
  refine z_dup C dX10_init_30 rfl ?_
  refine z_callN C (cm_X8_init l q107 y109) C.2.2.2.2.2.2.1.2.2.2.2.2.1 mv_10_25 rfl pd_X8_init ⟨by omega, by omega⟩ ⟨by omega, by omega⟩ rfl (Nat.le_of_ble_eq_true rfl) dX10_init_31 ?_
  rintro _ _ Y130 ⟨v133, v134, v135, v136, rfl, hk131, y132, w137, w138, w139, w140, fs141, lt142, lt143, lt144, rfl⟩
  have y145 := hk131 _ _ y112 (z_ne y112 y109 (fun z => by first | cases z | simp at z))
  have y146 := hk131 _ _ y113 (z_ne y113 y109 (fun z => by first | cases z | simp at z))
  have y147 := hk131 _ _ y114 (z_ne y114 y109 (fun z => by first | cases z | simp at z))
  have y148 := hk131 _ _ y115 (z_ne y115 y109 (fun z => by first | cases z | simp at z))
  have y149 := hk131 _ _ y116 (z_ne y116 y109 (fun z => by first | cases z | simp at z))
  have w150 := hk131 _ _ w117 (z_ne w117 y109 (fun z => by first | cases z | simp at z))
  have w151 := hk131 _ _ w118 (z_ne w118 y109 (fun z => by first | cases z | simp at z))
  have w152 := hk131 _ _ w119 (z_ne w119 y109 (fun z => by first | cases z | simp at z))
  have w153 := hk131 _ _ w120 (z_ne w120 y109 (fun z => by first | cases z | simp at z))
  have w154 := hk131 _ _ w121 (z_ne w121 y109 (fun z => by first | cases z | simp at z))
  have w155 := hk131 _ _ w122 (z_ne w122 y109 (fun z => by first | cases z | simp at z))
  have w156 := hk131 _ _ w123 (z_ne w123 y109 (fun z => by first | cases z | simp at z))
  have w157 := hk131 _ _ w124 (z_ne w124 y109 (fun z => by first | cases z | simp at z))
  have kp158 : ∀ x y, Y x = some y → x ≠ q → Y130 x = some y := fun x y h n => hk131 x y (kp126 x y h n) (Nat.ne_of_lt (hf111 x y (kp103 x y h n)))
  have NL159 := NL127.oth y109 (by decide) hk131
  have l160 : z_yl ks Y108 Y130 := z_yl_oth y109 (by decide) hk131
  have le161 : z_yl ks Y Y130 := le129.tr l160
  have lt162 : q107 < v133 := fs141 _ _ y109
  refine z_wide (k := 53) (n := 3333) (Nat.le_refl _) (Nat.le_refl _) ?_
  refine z_put3 (fs' := [.ref q1, .ref q39, .ref q107, .null, .null, .null]) C y149 rfl z_it10 tyX10 tyX10_ok nmX10 2 (by decide) rfl (Or.inr ⟨rfl, hnm, rfl⟩) fl_10_26 (tyX10_ok 2 (by decide)) rfl rfl (Nat.le_of_ble_eq_true rfl) dX10_init_34 rfl (fun Y163 y164 hk165 => ?_)
  have y166 := hk165 _ _ y145 (z_ne y145 y149 (fun z => by first | cases z | simp at z))
  have y167 := hk165 _ _ y146 (z_ne y146 y149 (fun z => by first | cases z | simp at z))
  have y168 := hk165 _ _ y147 (z_ne y147 y149 (fun z => by first | cases z | simp at z))
  have y169 := hk165 _ _ y148 (z_ne y148 y149 (fun z => by first | cases z | simp at z))
  have y170 := hk165 _ _ y132 (z_ne y132 y149 (fun z => by first | cases z | simp at z))
  have w171 := hk165 _ _ w150 (z_ne w150 y149 (fun z => by first | cases z | simp at z))
  have w172 := hk165 _ _ w151 (z_ne w151 y149 (fun z => by first | cases z | simp at z))
  have w173 := hk165 _ _ w152 (z_ne w152 y149 (fun z => by first | cases z | simp at z))
  have w174 := hk165 _ _ w153 (z_ne w153 y149 (fun z => by first | cases z | simp at z))
  have w175 := hk165 _ _ w154 (z_ne w154 y149 (fun z => by first | cases z | simp at z))
  have w176 := hk165 _ _ w155 (z_ne w155 y149 (fun z => by first | cases z | simp at z))
  have w177 := hk165 _ _ w156 (z_ne w156 y149 (fun z => by first | cases z | simp at z))
  have w178 := hk165 _ _ w157 (z_ne w157 y149 (fun z => by first | cases z | simp at z))
  have w179 := hk165 _ _ w137 (z_ne w137 y149 (fun z => by first | cases z | simp at z))
  have w180 := hk165 _ _ w138 (z_ne w138 y149 (fun z => by first | cases z | simp at z))
  have w181 := hk165 _ _ w139 (z_ne w139 y149 (fun z => by first | cases z | simp at z))
  have w182 := hk165 _ _ w140 (z_ne w140 y149 (fun z => by first | cases z | simp at z))
  have kp183 : ∀ x y, Y x = some y → x ≠ q → Y163 x = some y := fun x y h n => hk165 x y (kp158 x y h n) n
  have NL184 := NL159.oth y149 (by decide) hk165
  have l185 : z_yl ks Y130 Y163 := z_yl_oth y149 (by decide) hk165
  have le186 : z_yl ks Y Y163 := le161.tr l185
  refine z_aloadn C 0 dX10_init_37 rfl rfl ?_
  refine z_new3 (r := (RX7, TX7, 7)) (ci := 7) (fs := [.null, .null, .null, .null, .null, .null, z_v 0]) C rfl z_it7 tyX7 tyX7_ok nw_10_30 (fun j hj => match j, hj with | 0, _ => rfl | 1, _ => rfl | 2, _ => rfl | 3, _ => rfl | 4, _ => rfl | 5, _ => rfl | 6, _ => rfl | n + 7, h => absurd h (by show ¬ (n + 7 < 7); omega)) (by omega) (by show _ + 7 ≤ _; omega) dX10_init_38 (fun q187 Y188 y189 hs190 hf191 => ?_)
  have y192 := hs190 _ _ y166
  have y193 := hs190 _ _ y167
  have y194 := hs190 _ _ y168
  have y195 := hs190 _ _ y169
  have y196 := hs190 _ _ y170
  have y197 := hs190 _ _ y164
  have w198 := hs190 _ _ w171
  have w199 := hs190 _ _ w172
  have w200 := hs190 _ _ w173
  have w201 := hs190 _ _ w174
  have w202 := hs190 _ _ w175
  have w203 := hs190 _ _ w176
  have w204 := hs190 _ _ w177
  have w205 := hs190 _ _ w178
  have w206 := hs190 _ _ w179
  have w207 := hs190 _ _ w180
  have w208 := hs190 _ _ w181
  have w209 := hs190 _ _ w182
  have lt210 : v136 < q187 := hf191 _ _ w182
  have kp211 : ∀ x y, Y x = some y → x ≠ q → Y188 x = some y := fun x y h n => hs190 x y (kp183 x y h n)
  have NL212 := NL184.sub hs190
  have l213 : z_yl ks Y163 Y188 := z_yl_sub hs190
  have le214 : z_yl ks Y Y188 := le186.tr l213
  refine z_wide (k := 54) (n := 3340) (Nat.le_refl _) (Nat.le_refl _) ?_
  refine z_dup C dX10_init_41 rfl ?_
  refine z_callN C (cm_X7_init l q187 y189) C.2.2.2.2.2.2.1.2.2.2.2.2.2.1 mv_10_32 rfl pd_X7_init ⟨by omega, by omega⟩ ⟨by omega, by omega⟩ rfl (Nat.le_of_ble_eq_true rfl) dX10_init_42 ?_
  rintro _ _ Y215 ⟨v218, v219, v220, v221, v222, v223, rfl, hk216, y217, w224, w225, w226, w227, w228, w229, fs230, lt231, lt232, lt233, lt234, lt235, rfl⟩
  have y236 := hk216 _ _ y192 (z_ne y192 y189 (fun z => by first | cases z | simp at z))
  have y237 := hk216 _ _ y193 (z_ne y193 y189 (fun z => by first | cases z | simp at z))
  have y238 := hk216 _ _ y194 (z_ne y194 y189 (fun z => by first | cases z | simp at z))
  have y239 := hk216 _ _ y195 (z_ne y195 y189 (fun z => by first | cases z | simp at z))
  have y240 := hk216 _ _ y196 (z_ne y196 y189 (fun z => by first | cases z | simp at z))
  have y241 := hk216 _ _ y197 (z_ne y197 y189 (fun z => by first | cases z | simp at z))
  have w242 := hk216 _ _ w198 (z_ne w198 y189 (fun z => by first | cases z | simp at z))
  have w243 := hk216 _ _ w199 (z_ne w199 y189 (fun z => by first | cases z | simp at z))
  have w244 := hk216 _ _ w200 (z_ne w200 y189 (fun z => by first | cases z | simp at z))
  have w245 := hk216 _ _ w201 (z_ne w201 y189 (fun z => by first | cases z | simp at z))
  have w246 := hk216 _ _ w202 (z_ne w202 y189 (fun z => by first | cases z | simp at z))
  have w247 := hk216 _ _ w203 (z_ne w203 y189 (fun z => by first | cases z | simp at z))
  have w248 := hk216 _ _ w204 (z_ne w204 y189 (fun z => by first | cases z | simp at z))
  have w249 := hk216 _ _ w205 (z_ne w205 y189 (fun z => by first | cases z | simp at z))
  have w250 := hk216 _ _ w206 (z_ne w206 y189 (fun z => by first | cases z | simp at z))
  have w251 := hk216 _ _ w207 (z_ne w207 y189 (fun z => by first | cases z | simp at z))
  have w252 := hk216 _ _ w208 (z_ne w208 y189 (fun z => by first | cases z | simp at z))
  have w253 := hk216 _ _ w209 (z_ne w209 y189 (fun z => by first | cases z | simp at z))
  have kp254 : ∀ x y, Y x = some y → x ≠ q → Y215 x = some y := fun x y h n => hk216 x y (kp211 x y h n) (Nat.ne_of_lt (hf191 x y (kp183 x y h n)))
  have NL255 := NL212.oth y189 (by decide) hk216
  have l256 : z_yl ks Y188 Y215 := z_yl_oth y189 (by decide) hk216
  have le257 : z_yl ks Y Y215 := le214.tr l256
  have lt258 : q187 < v218 := fs230 _ _ y189
  refine z_wide (k := 60) (n := 5271) (Nat.le_refl _) (Nat.le_refl _) ?_
  refine z_put3 (fs' := [.ref q1, .ref q39, .ref q107, .ref q187, .null, .null]) C y241 rfl z_it10 tyX10 tyX10_ok nmX10 3 (by decide) rfl (Or.inr ⟨rfl, hnm, rfl⟩) fl_10_33 (tyX10_ok 3 (by decide)) rfl rfl (Nat.le_of_ble_eq_true rfl) dX10_init_45 rfl (fun Y259 y260 hk261 => ?_)
  have y262 := hk261 _ _ y236 (z_ne y236 y241 (fun z => by first | cases z | simp at z))
  have y263 := hk261 _ _ y237 (z_ne y237 y241 (fun z => by first | cases z | simp at z))
  have y264 := hk261 _ _ y238 (z_ne y238 y241 (fun z => by first | cases z | simp at z))
  have y265 := hk261 _ _ y239 (z_ne y239 y241 (fun z => by first | cases z | simp at z))
  have y266 := hk261 _ _ y240 (z_ne y240 y241 (fun z => by first | cases z | simp at z))
  have y267 := hk261 _ _ y217 (z_ne y217 y241 (fun z => by first | cases z | simp at z))
  have w268 := hk261 _ _ w242 (z_ne w242 y241 (fun z => by first | cases z | simp at z))
  have w269 := hk261 _ _ w243 (z_ne w243 y241 (fun z => by first | cases z | simp at z))
  have w270 := hk261 _ _ w244 (z_ne w244 y241 (fun z => by first | cases z | simp at z))
  have w271 := hk261 _ _ w245 (z_ne w245 y241 (fun z => by first | cases z | simp at z))
  have w272 := hk261 _ _ w246 (z_ne w246 y241 (fun z => by first | cases z | simp at z))
  have w273 := hk261 _ _ w247 (z_ne w247 y241 (fun z => by first | cases z | simp at z))
  have w274 := hk261 _ _ w248 (z_ne w248 y241 (fun z => by first | cases z | simp at z))
  have w275 := hk261 _ _ w249 (z_ne w249 y241 (fun z => by first | cases z | simp at z))
  have w276 := hk261 _ _ w250 (z_ne w250 y241 (fun z => by first | cases z | simp at z))
  have w277 := hk261 _ _ w251 (z_ne w251 y241 (fun z => by first | cases z | simp at z))
  have w278 := hk261 _ _ w252 (z_ne w252 y241 (fun z => by first | cases z | simp at z))
  have w279 := hk261 _ _ w253 (z_ne w253 y241 (fun z => by first | cases z | simp at z))
  have w280 := hk261 _ _ w224 (z_ne w224 y241 (fun z => by first | cases z | simp at z))
  have w281 := hk261 _ _ w225 (z_ne w225 y241 (fun z => by first | cases z | simp at z))
  have w282 := hk261 _ _ w226 (z_ne w226 y241 (fun z => by first | cases z | simp at z))
  have w283 := hk261 _ _ w227 (z_ne w227 y241 (fun z => by first | cases z | simp at z))
  have w284 := hk261 _ _ w228 (z_ne w228 y241 (fun z => by first | cases z | simp at z))
  have w285 := hk261 _ _ w229 (z_ne w229 y241 (fun z => by first | cases z | simp at z))
  have kp286 : ∀ x y, Y x = some y → x ≠ q → Y259 x = some y := fun x y h n => hk261 x y (kp254 x y h n) n
  have NL287 := NL255.oth y241 (by decide) hk261
  have l288 : z_yl ks Y215 Y259 := z_yl_oth y241 (by decide) hk261
  have le289 : z_yl ks Y Y259 := le257.tr l288
  refine z_aloadn C 0 dX10_init_48 rfl rfl ?_
  refine z_iconst C dX10_init_49 ?_
  refine z_newI3 C (by omega) (by omega) (by omega) (by show _ + 3 ≤ _; omega) dX10_init_50 (fun q290 Y291 w292 hs293 hf294 => ?_)
  have y295 := hs293 _ _ y262
  have y296 := hs293 _ _ y263
  have y297 := hs293 _ _ y264
  have y298 := hs293 _ _ y265
  have y299 := hs293 _ _ y266
  have y300 := hs293 _ _ y267
  have y301 := hs293 _ _ y260
  have w302 := hs293 _ _ w268
  have w303 := hs293 _ _ w269
  have w304 := hs293 _ _ w270
  have w305 := hs293 _ _ w271
  have w306 := hs293 _ _ w272
  have w307 := hs293 _ _ w273
  have w308 := hs293 _ _ w274
  have w309 := hs293 _ _ w275
  have w310 := hs293 _ _ w276
  have w311 := hs293 _ _ w277
  have w312 := hs293 _ _ w278
  have w313 := hs293 _ _ w279
  have w314 := hs293 _ _ w280
  have w315 := hs293 _ _ w281
  have w316 := hs293 _ _ w282
  have w317 := hs293 _ _ w283
  have w318 := hs293 _ _ w284
  have w319 := hs293 _ _ w285
  have lt320 : v223 < q290 := hf294 _ _ w285
  have kp321 : ∀ x y, Y x = some y → x ≠ q → Y291 x = some y := fun x y h n => hs293 x y (kp286 x y h n)
  have NL322 := NL287.sub hs293
  have l323 : z_yl ks Y259 Y291 := z_yl_sub hs293
  have le324 : z_yl ks Y Y291 := le289.tr l323
  refine z_wide (k := 61) (n := 5274) (Nat.le_refl _) (Nat.le_refl _) ?_
  refine z_put3 (fs' := [.ref q1, .ref q39, .ref q107, .ref q187, .ref q290, .null]) C y301 rfl z_it10 tyX10 tyX10_ok nmX10 4 (by decide) rfl (Or.inr ⟨rfl, hnm, rfl⟩) fl_10_37 (tyX10_ok 4 (by decide)) rfl rfl (Nat.le_of_ble_eq_true rfl) dX10_init_52 rfl (fun Y325 y326 hk327 => ?_)
  have y328 := hk327 _ _ y295 (z_ne y295 y301 (fun z => by first | cases z | simp at z))
  have y329 := hk327 _ _ y296 (z_ne y296 y301 (fun z => by first | cases z | simp at z))
  have y330 := hk327 _ _ y297 (z_ne y297 y301 (fun z => by first | cases z | simp at z))
  have y331 := hk327 _ _ y298 (z_ne y298 y301 (fun z => by first | cases z | simp at z))
  have y332 := hk327 _ _ y299 (z_ne y299 y301 (fun z => by first | cases z | simp at z))
  have y333 := hk327 _ _ y300 (z_ne y300 y301 (fun z => by first | cases z | simp at z))
  have w334 := hk327 _ _ w302 (z_ne w302 y301 (fun z => by first | cases z | simp at z))
  have w335 := hk327 _ _ w303 (z_ne w303 y301 (fun z => by first | cases z | simp at z))
  have w336 := hk327 _ _ w304 (z_ne w304 y301 (fun z => by first | cases z | simp at z))
  have w337 := hk327 _ _ w305 (z_ne w305 y301 (fun z => by first | cases z | simp at z))
  have w338 := hk327 _ _ w306 (z_ne w306 y301 (fun z => by first | cases z | simp at z))
  have w339 := hk327 _ _ w307 (z_ne w307 y301 (fun z => by first | cases z | simp at z))
  have w340 := hk327 _ _ w308 (z_ne w308 y301 (fun z => by first | cases z | simp at z))
  have w341 := hk327 _ _ w309 (z_ne w309 y301 (fun z => by first | cases z | simp at z))
  have w342 := hk327 _ _ w310 (z_ne w310 y301 (fun z => by first | cases z | simp at z))
  have w343 := hk327 _ _ w311 (z_ne w311 y301 (fun z => by first | cases z | simp at z))
  have w344 := hk327 _ _ w312 (z_ne w312 y301 (fun z => by first | cases z | simp at z))
  have w345 := hk327 _ _ w313 (z_ne w313 y301 (fun z => by first | cases z | simp at z))
  have w346 := hk327 _ _ w314 (z_ne w314 y301 (fun z => by first | cases z | simp at z))
  have w347 := hk327 _ _ w315 (z_ne w315 y301 (fun z => by first | cases z | simp at z))
  have w348 := hk327 _ _ w316 (z_ne w316 y301 (fun z => by first | cases z | simp at z))
  have w349 := hk327 _ _ w317 (z_ne w317 y301 (fun z => by first | cases z | simp at z))
  have w350 := hk327 _ _ w318 (z_ne w318 y301 (fun z => by first | cases z | simp at z))
  have w351 := hk327 _ _ w319 (z_ne w319 y301 (fun z => by first | cases z | simp at z))
  have w352 := hk327 _ _ w292 (z_ne w292 y301 (fun z => by first | cases z | simp at z))
  have kp353 : ∀ x y, Y x = some y → x ≠ q → Y325 x = some y := fun x y h n => hk327 x y (kp321 x y h n) n
  have NL354 := NL322.oth y301 (by decide) hk327
  have l355 : z_yl ks Y291 Y325 := z_yl_oth y301 (by decide) hk327
  have le356 : z_yl ks Y Y325 := le324.tr l355
  refine z_aloadn C 0 dX10_init_55 rfl rfl ?_
  refine z_iconst C dX10_init_56 ?_
  refine z_newI3 C (by omega) (by omega) (by omega) (by show _ + 4 ≤ _; omega) dX10_init_57 (fun q357 Y358 w359 hs360 hf361 => ?_)
  have y362 := hs360 _ _ y328
  have y363 := hs360 _ _ y329
  have y364 := hs360 _ _ y330
  have y365 := hs360 _ _ y331
  have y366 := hs360 _ _ y332
  have y367 := hs360 _ _ y333
  have y368 := hs360 _ _ y326
  have w369 := hs360 _ _ w334
  have w370 := hs360 _ _ w335
  have w371 := hs360 _ _ w336
  have w372 := hs360 _ _ w337
  have w373 := hs360 _ _ w338
  have w374 := hs360 _ _ w339
  have w375 := hs360 _ _ w340
  have w376 := hs360 _ _ w341
  have w377 := hs360 _ _ w342
  have w378 := hs360 _ _ w343
  have w379 := hs360 _ _ w344
  have w380 := hs360 _ _ w345
  have w381 := hs360 _ _ w346
  have w382 := hs360 _ _ w347
  have w383 := hs360 _ _ w348
  have w384 := hs360 _ _ w349
  have w385 := hs360 _ _ w350
  have w386 := hs360 _ _ w351
  have w387 := hs360 _ _ w352
  have lt388 : q290 < q357 := hf361 _ _ w352
  have kp389 : ∀ x y, Y x = some y → x ≠ q → Y358 x = some y := fun x y h n => hs360 x y (kp353 x y h n)
  have NL390 := NL354.sub hs360
  have l391 : z_yl ks Y325 Y358 := z_yl_sub hs360
  have le392 : z_yl ks Y Y358 := le356.tr l391
  refine z_wide (k := 62) (n := 5278) (Nat.le_refl _) (Nat.le_refl _) ?_
  refine z_put3 (fs' := [.ref q1, .ref q39, .ref q107, .ref q187, .ref q290, .ref q357]) C y368 rfl z_it10 tyX10 tyX10_ok nmX10 5 (by decide) rfl (Or.inr ⟨rfl, hnm, rfl⟩) fl_10_41 (tyX10_ok 5 (by decide)) rfl rfl (Nat.le_of_ble_eq_true rfl) dX10_init_59 rfl (fun Y393 y394 hk395 => ?_)
  have y396 := hk395 _ _ y362 (z_ne y362 y368 (fun z => by first | cases z | simp at z))
  have y397 := hk395 _ _ y363 (z_ne y363 y368 (fun z => by first | cases z | simp at z))
  have y398 := hk395 _ _ y364 (z_ne y364 y368 (fun z => by first | cases z | simp at z))
  have y399 := hk395 _ _ y365 (z_ne y365 y368 (fun z => by first | cases z | simp at z))
  have y400 := hk395 _ _ y366 (z_ne y366 y368 (fun z => by first | cases z | simp at z))
  have y401 := hk395 _ _ y367 (z_ne y367 y368 (fun z => by first | cases z | simp at z))
  have w402 := hk395 _ _ w369 (z_ne w369 y368 (fun z => by first | cases z | simp at z))
  have w403 := hk395 _ _ w370 (z_ne w370 y368 (fun z => by first | cases z | simp at z))
  have w404 := hk395 _ _ w371 (z_ne w371 y368 (fun z => by first | cases z | simp at z))
  have w405 := hk395 _ _ w372 (z_ne w372 y368 (fun z => by first | cases z | simp at z))
  have w406 := hk395 _ _ w373 (z_ne w373 y368 (fun z => by first | cases z | simp at z))
  have w407 := hk395 _ _ w374 (z_ne w374 y368 (fun z => by first | cases z | simp at z))
  have w408 := hk395 _ _ w375 (z_ne w375 y368 (fun z => by first | cases z | simp at z))
  have w409 := hk395 _ _ w376 (z_ne w376 y368 (fun z => by first | cases z | simp at z))
  have w410 := hk395 _ _ w377 (z_ne w377 y368 (fun z => by first | cases z | simp at z))
  have w411 := hk395 _ _ w378 (z_ne w378 y368 (fun z => by first | cases z | simp at z))
  have w412 := hk395 _ _ w379 (z_ne w379 y368 (fun z => by first | cases z | simp at z))
  have w413 := hk395 _ _ w380 (z_ne w380 y368 (fun z => by first | cases z | simp at z))
  have w414 := hk395 _ _ w381 (z_ne w381 y368 (fun z => by first | cases z | simp at z))
  have w415 := hk395 _ _ w382 (z_ne w382 y368 (fun z => by first | cases z | simp at z))
  have w416 := hk395 _ _ w383 (z_ne w383 y368 (fun z => by first | cases z | simp at z))
  have w417 := hk395 _ _ w384 (z_ne w384 y368 (fun z => by first | cases z | simp at z))
  have w418 := hk395 _ _ w385 (z_ne w385 y368 (fun z => by first | cases z | simp at z))
  have w419 := hk395 _ _ w386 (z_ne w386 y368 (fun z => by first | cases z | simp at z))
  have w420 := hk395 _ _ w387 (z_ne w387 y368 (fun z => by first | cases z | simp at z))
  have w421 := hk395 _ _ w359 (z_ne w359 y368 (fun z => by first | cases z | simp at z))
  have kp422 : ∀ x y, Y x = some y → x ≠ q → Y393 x = some y := fun x y h n => hk395 x y (kp389 x y h n) n
  have NL423 := NL390.oth y368 (by decide) hk395
  have l424 : z_yl ks Y358 Y393 := z_yl_oth y368 (by decide) hk395
  have le425 : z_yl ks Y Y393 := le392.tr l424
  rw [hQ]
  exact z_vret C hrt dX10_init_62 (⟨q1, v14, v15, v16, q39, v57, v58, v59, v60, v61, v62, v63, q107, v133, v134, v135, v136, q187, v218, v219, v220, v221, v222, v223, q290, q357, _, _, _, rfl, kp422, y394, y396, w402, w403, w404, y397, y398, w405, w406, w407, y399, w408, w409, y400, w410, w411, w412, w413, y401, w414, w415, w416, w417, w418, w419, w420, w421, NL423, fst7, lt27, lt21, lt22, lt49, lt87, lt72, lt73, lt74, lt75, lt76, lt77, lt125, lt162, lt142, lt143, lt144, lt210, lt258, lt231, lt232, lt233, lt234, lt235, lt320, lt388, rfl⟩) (by omega) (by omega)
