section ZYL
variable {ks : z_Ks} {Y Y' : Nat → Option va_E}
/-- a test put into a list's array -/
theorem z_yl_arr {t b : Nat} {g : Nat → Option Nat} {i : Nat} (h : Y t = some (z_rr ks.2.2.2.2 2 g)) (h' : Y' t = some (z_rr ks.2.2.2.2 2 (va_up g i (some b)))) (hb : z_T Y b) (hk : ∀ x y, Y x = some y → x ≠ t → Y' x = some y) : z_yl ks Y Y' := by
  have ne : ∀ x c fs, Y x = some (.inr (c, fs)) → x ≠ t := fun x c fs hx => z_ne hx h (fun z => by cases z)
  have hT : ∀ q, z_T Y q → z_T Y' q := fun q ⟨c, s, n, hq, hr⟩ => ⟨c, s, n, hk q _ hq (ne q _ _ hq), hr⟩
  have hTL : ∀ q, z_TL ks Y q → z_TL ks Y' q := by
    rintro q ⟨t2, n, g2, hq, ht, hr, hg⟩
    by_cases he : t2 = t
    · subst he
      have eg : g2 = g := by
        have e := Option.some.inj (ht.symm.trans h)
        simpa using e
      subst eg
      refine ⟨t2, n, _, hk q _ hq (ne q _ _ hq), h', hr, fun j hj => ?_⟩
      by_cases hj2 : j = i
      · subst hj2
        exact ⟨b, by simp [va_up], hT b hb⟩
      · obtain ⟨b2, hb2, hb3⟩ := hg j hj
        exact ⟨b2, by simp [va_up, hj2, hb2], hT b2 hb3⟩
    · exact ⟨t2, n, g2, hk q _ hq (ne q _ _ hq), hk t2 _ ht he, hr, fun j hj => let ⟨b2, h2, h3⟩ := hg j hj; ⟨b2, h2, hT b2 h3⟩⟩
  have hE : ∀ q, z_E ks Y q → z_E ks Y' q := fun q ⟨m, f, t2, k, r, g2, hq, hr, hg⟩ => ⟨m, f, t2, k, r, g2, hk q _ hq (ne q _ _ hq), hr, hTL g2 hg⟩
  exact ⟨hT, hTL, hE, fun q ⟨f, s, a, b2, r, hq, hr, ha, hb2⟩ => ⟨f, s, a, b2, r, hk q _ hq (ne q _ _ hq), hr, hE a ha, fun x hx => hE x (hb2 x hx)⟩⟩
/-- a list's size put: its first places hold tests -/
theorem z_yl_size {q t : Nat} {n n2 : Int} {g : Nat → Option Nat} (h : Y q = some (z_ob 6 [.ref t, z_v n])) (h' : Y' q = some (z_ob 6 [.ref t, z_v n2])) (hk : ∀ x y, Y x = some y → x ≠ q → Y' x = some y) (ht : Y t = some (z_rr ks.2.2.2.2 2 g)) (hr : 0 ≤ n2 ∧ n2 ≤ 2) (hg : ∀ j : Nat, (j : Int) < n2 → ∃ b, g j = some b ∧ z_T Y b) : z_yl ks Y Y' := by
  have hT : ∀ x, z_T Y x → z_T Y' x := fun x ⟨c, s, k, hx, hc⟩ => ⟨c, s, k, hk x _ hx (z_ne hx h (fun z => by cases z)), hc⟩
  have hTL : ∀ x, z_TL ks Y x → z_TL ks Y' x := by
    rintro x ⟨t2, k, g2, hx, hx2, hc, hg2⟩
    by_cases he : x = q
    · subst he
      exact ⟨t, n2, g, h', hk t _ ht (z_ne ht h (fun z => by cases z)), hr, fun j hj => let ⟨b2, h2, h3⟩ := hg j hj; ⟨b2, h2, hT b2 h3⟩⟩
    · exact ⟨t2, k, g2, hk x _ hx he, hk t2 _ hx2 (z_ne hx2 h (fun z => by cases z)), hc, fun j hj => let ⟨b2, h2, h3⟩ := hg2 j hj; ⟨b2, h2, hT b2 h3⟩⟩
  have hE : ∀ x, z_E ks Y x → z_E ks Y' x := fun x ⟨m, f, t2, k, r, g2, hx, hc, hg2⟩ => ⟨m, f, t2, k, r, g2, hk x _ hx (z_ne hx h (fun z => by cases z)), hc, hTL g2 hg2⟩
  exact ⟨hT, hTL, hE, fun x ⟨f, s, a, b2, r, hx, hc, ha, hb2⟩ => ⟨f, s, a, b2, r, hk x _ hx (z_ne hx h (fun z => by cases z)), hc, hE a ha, fun y hy => hE y (hb2 y hy)⟩⟩
theorem z_tl_up {g : Nat → Option Nat} {n : Int} {b : Nat} (h0 : 0 ≤ n) (hg : ∀ j : Nat, (j : Int) < n → ∃ b, g j = some b ∧ z_T Y b) (hb : z_T Y b) : ∀ j : Nat, (j : Int) < n + 1 → ∃ x, va_up g n.toNat (some b) j = some x ∧ z_T Y x := by
  intro j hj
  by_cases he : j = n.toNat
  · subst he
    exact ⟨b, by simp [va_up], hb⟩
  · obtain ⟨x, h1, h2⟩ := hg j (by omega)
    exact ⟨x, by simp [va_up, he, h1], h2⟩
end ZYL
set_option maxRecDepth 20000 in
theorem cm_X6_add (l : Launch) {D : va_G} {A : Nat → Prop} {ad : Nat → Nat} {ks : z_Ks} {N : Nat} {S : Nat → va_E} {Y : Nat → Option va_E} (q b : Nat) (hq : z_TL ks Y q) (hb : z_T Y b) : z_Met l yX6_add cX6_add 2 none 0 0 0 0 D A N ad ks [.ref q, .ref b] S Y (fun r S' Y' => S' = S ∧ z_yl ks Y Y' ∧ r = none) := by
  refine z_start2 (by decide) (Nat.le_of_ble_eq_true rfl) ?_
  intro p e R s m args below meth c Q C hRf hRc hRs hRl hQ hrt hnm
  refine z_loc (L' := [(0, .ref q), (1, .ref b)]) [0, 1] rfl ?_
  refine z_aloadn C 0 dX6_add_0 rfl rfl ?_
  obtain ⟨td1, nd1, gd1, yd1, wd1, ad1, bd1⟩ := id hq
  refine z_getY C yd1 rfl z_it6 1 (by decide) rfl fl_6_17 rfl dX6_add_1 ?_
  refine z_iconst C dX6_add_4 ?_
  refine z_icmp_ge (t := 28) C dX6_add_5 (by decide) (by omega) (by omega) (fun c2 => ?_) (fun c2 => ?_)
  · skip
    rw [hQ]
    exact z_vret C hrt dX6_add_28 (⟨rfl, z_yl.rf, rfl⟩) (by omega) (by omega)
  · skip
    refine z_aloadn C 0 dX6_add_8 rfl rfl ?_
    refine z_getY C yd1 rfl z_it6 0 (by decide) rfl fl_6_11 rfl dX6_add_9 ?_
    refine z_aloadn C 0 dX6_add_12 rfl rfl ?_
    refine z_getY C yd1 rfl z_it6 1 (by decide) rfl fl_6_17 rfl dX6_add_13 ?_
    refine z_aloadn C 1 dX6_add_16 rfl rfl ?_
    obtain ⟨cd3, sd3, nd3, yd3, ad3⟩ := id hb
    refine z_aast3 C 4 wd1 rfl yd3 rfl (by decide) (by omega) (by omega) dX6_add_17 (fun Y4 w5 hk6 => ?_)
    have y7 := hk6 _ _ yd1 (z_ne yd1 wd1 (fun z => by cases z))
    have y8 := hk6 _ _ yd3 (z_ne yd3 wd1 (fun z => by cases z))
    have lx : z_yl ks Y Y4 := z_yl_arr wd1 w5 hb hk6
    have le9 : z_yl ks Y Y4 := lx
    have p10 := lx.2.1 _ hq
    have p11 := lx.1 _ hb
    refine z_aloadn C 0 dX6_add_18 rfl rfl ?_
    refine z_dup C dX6_add_19 rfl ?_
    refine z_getY C y7 rfl z_it6 1 (by decide) rfl fl_6_17 rfl dX6_add_20 ?_
    refine z_iconst C dX6_add_23 ?_
    refine z_iadd C dX6_add_24 ?_
    refine z_put3 (fs' := [.ref td1, z_v (nd1 + 1)]) C y7 rfl z_it6 tyX6 tyX6_ok nmX6 1 (by decide) rfl (Or.inl rfl) fl_6_17 z_pfI rfl rfl (Nat.le_of_ble_eq_true rfl) dX6_add_25 rfl (fun Y12 y13 hk14 => ?_)
    have y15 := hk14 _ _ y8 (z_ne y8 y7 (fun z => by cases z))
    have w16 := hk14 _ _ w5 (z_ne w5 y7 (fun z => by cases z))
    have lz : z_yl ks Y4 Y12 := z_yl_size y7 y13 hk14 WTT (by omega) (GTT)
    have le17 : z_yl ks Y Y12 := le9.tr lz
    have p18 := lz.2.1 _ p10
    have p19 := lz.1 _ p11
    rw [hQ]
    exact z_vret C hrt dX6_add_28 (⟨rfl, le17, rfl⟩) (by omega) (by omega)
