theorem z_addE {P : Nat → Prop} {g : Nat → Option Nat} {n : Int} {q : Nat} (h : ∀ j : Nat, (j : Int) < n → ∃ x, g j = some x ∧ P x) (hq : P q) (h0 : 0 ≤ n) : ∀ j : Nat, (j : Int) < n + 1 → ∃ x, va_up g n.toNat (some q) j = some x ∧ P x := by
  intro j h1
  by_cases he : j = n.toNat
  · subst he
    exact ⟨q, by simp [va_up], hq⟩
  · obtain ⟨x, a, b⟩ := h j (by omega)
    exact ⟨x, by simp [va_up, he, a], b⟩