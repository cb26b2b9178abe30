theorem z_way_add {n M : Int} {mv wy : Nat → Int} {i s : Int} (h : ∀ k : Nat, i < k → (k : Int) ≤ M → 0 ≤ wy k ∧ wy k < n ∧ mv (wy k).toNat = k) (h1 : 0 ≤ s) (h2 : s < n) (h3 : mv s.toNat = i) (h0 : 0 ≤ i) : ∀ k : Nat, i + (-1) < k → (k : Int) ≤ M → 0 ≤ va_up wy i.toNat s k ∧ va_up wy i.toNat s k < n ∧ mv (va_up wy i.toNat s k).toNat = k := by
  intro k hk hM
  by_cases he : k = i.toNat
  · subst he
    simp only [va_up, if_true]
    exact ⟨h1, h2, by omega⟩
  · simp only [va_up, if_neg he]
    exact h k (by omega) hM