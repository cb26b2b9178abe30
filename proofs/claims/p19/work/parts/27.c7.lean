section ZYL
variable {ks : z_Ks} {Y Y' : Nat → Option va_E}
/-- a test put into a list's array -/
theorem z_yl_arr {t b : Nat} {g : Nat → Option Nat} {i : Nat} (h : Y t = some (z_rr ks.2.2.2.2 2 g)) (h' : Y' t = some (z_rr ks.2.2.2.2 2 (va_up g i (some b)))) (hb : z_T Y b) (hk : ∀ x y, Y x = some y → x ≠ t → Y' x = some y) : z_yl ks Y Y' := by
  have ne : ∀ x c fs, Y x = some (.inr (c, fs)) → x ≠ t := fun x c fs hx => z_ne hx h (fun z => by cases z)
  have hT : ∀ q, z_T Y q → z_T Y' q := fun q ⟨c, s, n, hq, hr⟩ => ⟨c, s, n, hk q _ hq (ne q _ _ hq), hr⟩
  have hTL : ∀ q, z_TL ks Y q → z_TL ks Y' q := by
    rintro q ⟨t2, n, g2, hq, ht, hr, hg⟩
    by_cases he : t2 = t
    · subst he
      have eg : g2 = g := by
        have e := Option.some.inj (ht.symm.trans h)
        simpa using e
      subst eg
      refine ⟨t2, n, _, hk q _ hq (ne q _ _ hq), h', hr, fun j hj => ?_⟩
      by_cases hj2 : j = i
      · subst hj2
        exact ⟨b, by simp [va_up], hT b hb⟩
      · obtain ⟨b2, hb2, hb3⟩ := hg j hj
        exact ⟨b2, by simp [va_up, hj2, hb2], hT b2 hb3⟩
    · exact ⟨t2, n, g2, hk q _ hq (ne q _ _ hq), hk t2 _ ht he, hr, fun j hj => let ⟨b2, h2, h3⟩ := hg j hj; ⟨b2, h2, hT b2 h3⟩⟩
  have hE : ∀ q, z_E ks Y q → z_E ks Y' q := fun q ⟨m, f, t2, k, r, g2, hq, hr, hg⟩ => ⟨m, f, t2, k, r, g2, hk q _ hq (ne q _ _ hq), hr, hTL g2 hg⟩
  exact ⟨hT, hTL, hE, fun q ⟨f, s, a, b2, r, hq, hr, ha, hb2⟩ => ⟨f, s, a, b2, r, hk q _ hq (ne q _ _ hq), hr, hE a ha, fun x hx => hE x (hb2 x hx)⟩⟩
/-- a list's size put: its first places hold tests -/
theorem z_yl_size {q t : Nat} {n n2 : Int} {g : Nat → Option Nat} (h : Y q = some (z_ob 6 [.ref t, z_v n])) (h' : Y' q = some (z_ob 6 [.ref t, z_v n2])) (hk : ∀ x y, Y x = some y → x ≠ q → Y' x = some y) (ht : Y t = some (z_rr ks.2.2.2.2 2 g)) (hr : 0 ≤ n2 ∧ n2 ≤ 2) (hg : ∀ j : Nat, (j : Int) < n2 → ∃ b, g j = some b ∧ z_T Y b) : z_yl ks Y Y' := by
  have hT : ∀ x, z_T Y x → z_T Y' x := fun x ⟨c, s, k, hx, hc⟩ => ⟨c, s, k, hk x _ hx (z_ne hx h (fun z => by cases z)), hc⟩
  have hTL : ∀ x, z_TL ks Y x → z_TL ks Y' x := by
    rintro x ⟨t2, k, g2, hx, hx2, hc, hg2⟩
    by_cases he : x = q
    · subst he
      exact ⟨t, n2, g, h', hk t _ ht (z_ne ht h (fun z => by cases z)), hr, fun j hj => let ⟨b2, h2, h3⟩ := hg j hj; ⟨b2, h2, hT b2 h3⟩⟩
    · exact ⟨t2, k, g2, hk x _ hx he, hk t2 _ hx2 (z_ne hx2 h (fun z => by cases z)), hc, fun j hj => let ⟨b2, h2, h3⟩ := hg2 j hj; ⟨b2, h2, hT b2 h3⟩⟩
  have hE : ∀ x, z_E ks Y x → z_E ks Y' x := fun x ⟨m, f, t2, k, r, g2, hx, hc, hg2⟩ => ⟨m, f, t2, k, r, g2, hk x _ hx (z_ne hx h (fun z => by cases z)), hc, hTL g2 hg2⟩
  exact ⟨hT, hTL, hE, fun x ⟨f, s, a, b2, r, hx, hc, ha, hb2⟩ => ⟨f, s, a, b2, r, hk x _ hx (z_ne hx h (fun z => by cases z)), hc, hE a ha, fun y hy => hE y (hb2 y hy)⟩⟩
theorem z_tl_up {g : Nat → Option Nat} {n : Int} {b : Nat} (h0 : 0 ≤ n) (hg : ∀ j : Nat, (j : Int) < n → ∃ b, g j = some b ∧ z_T Y b) (hb : z_T Y b) : ∀ j : Nat, (j : Int) < n + 1 → ∃ x, va_up g n.toNat (some b) j = some x ∧ z_T Y x := by
  intro j hj
  by_cases he : j = n.toNat
  · subst he
    exact ⟨b, by simp [va_up], hb⟩
  · obtain ⟨x, h1, h2⟩ := hg j (by omega)
    exact ⟨x, by simp [va_up, he, h1], h2⟩
theorem z_shift {P : Nat → Prop} {g : Nat → Option Nat} {i n : Int} {q : Nat} (h : ∀ j : Nat, (j : Int) ≤ n → (j : Int) ≠ i → ∃ x, g j = some x ∧ P x) (h0 : 0 < i) (hq : P q) : ∀ j : Nat, (j : Int) ≤ n → (j : Int) ≠ i + (-1) → ∃ x, va_up g i.toNat (some q) j = some x ∧ P x := by
  intro j h1 h2
  by_cases he : j = i.toNat
  · subst he
    exact ⟨q, by simp [va_up], hq⟩
  · obtain ⟨x, a, b⟩ := h j h1 (by omega)
    exact ⟨x, by simp [va_up, he, a], b⟩
theorem z_ins {P : Nat → Prop} {g : Nat → Option Nat} {i n : Int} {q : Nat} (h : ∀ j : Nat, (j : Int) ≤ n → (j : Int) ≠ i → ∃ x, g j = some x ∧ P x) (hq : P q) (h0 : 0 ≤ i) : ∀ j : Nat, (j : Int) < n + 1 → ∃ x, va_up g i.toNat (some q) j = some x ∧ P x := by
  intro j h1
  by_cases he : j = i.toNat
  · subst he
    exact ⟨q, by simp [va_up], hq⟩
  · obtain ⟨x, a, b⟩ := h j (by omega) (by omega)
    exact ⟨x, by simp [va_up, he, a], b⟩
end ZYL