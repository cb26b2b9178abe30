/-! the limits' lists as the constructor makes them -/
def z_NL (ks : z_Ks) (Y : Nat → Option va_E) (g : Nat → Option Nat) (i : Int) (ql qt : Nat → Nat) : Prop :=
  (∀ j : Nat, (j : Int) < i → g j = some (ql j) ∧ Y (ql j) = some (z_ob 6 [.ref (qt j), z_v 0]) ∧ Y (qt j) = some (z_rr ks.2.2.2.2 2 (fun _ => none))) ∧ (∀ a b : Nat, (a : Int) < i → (b : Int) < i → ql a = ql b → a = b) ∧ ∀ a b : Nat, (a : Int) < i → (b : Int) < i → qt a = qt b → a = b
section ZNL
variable {ks : z_Ks} {Y Y' : Nat → Option va_E} {g : Nat → Option Nat} {i : Int} {ql qt : Nat → Nat}
theorem z_NL.zero : z_NL ks Y g 0 ql qt := ⟨fun j hj => absurd hj (by omega), fun a b h => absurd h (by omega), fun a b h => absurd h (by omega)⟩
theorem z_NL.sub (h : z_NL ks Y g i ql qt) (hk : ∀ x y, Y x = some y → Y' x = some y) : z_NL ks Y' g i ql qt := ⟨fun j hj => let ⟨a, b, c⟩ := h.1 j hj; ⟨a, hk _ _ b, hk _ _ c⟩, h.2⟩
theorem z_NL.oth (h : z_NL ks Y g i ql qt) {q c : Nat} {fs : List Value} (hq : Y q = some (.inr (c, fs))) (hc : c ≠ 0 ∧ c ≠ 1 ∧ c ≠ 5 ∧ c ≠ 6) (hk : ∀ x y, Y x = some y → x ≠ q → Y' x = some y) : z_NL ks Y' g i ql qt := by
  refine ⟨fun j hj => ?_, h.2⟩
  obtain ⟨a, b, c2⟩ := h.1 j hj
  refine ⟨a, hk _ _ b (z_ne b hq (fun z => ?_)), hk _ _ c2 (z_ne c2 hq (fun z => by cases z))⟩
  simp at z
  exact hc.2.2.2 z.1.symm
theorem z_NL.add (h : z_NL ks Y g i ql qt) (h0 : 0 ≤ i) {Y1 Y2 Y3 : Nat → Option va_E} {q t u n : Nat} {cA : ClassId} {gg : Nat → Option Nat} {raw : va_E} (hs : ∀ x y, Y x = some y → Y1 x = some y) (hf : ∀ x y, Y x = some y → x < q) (yq : Y1 q = some raw) (hk : ∀ x y, Y1 x = some y → x ≠ q → Y2 x = some y) (y2 : Y2 q = some (z_ob 6 [.ref t, z_v 0])) (w2 : Y2 t = some (z_rr ks.2.2.2.2 2 (fun _ => none))) (hlt : ∀ x y, Y1 x = some y → x < t) (hu : Y2 u = some (z_rr cA n gg)) (hn : n ≠ 2) (hk3 : ∀ x y, Y2 x = some y → x ≠ u → Y3 x = some y) : z_NL ks Y3 (va_up g i.toNat (some q)) (i + 1) (va_up ql i.toNat q) (va_up qt i.toNat t) := by
  have nu : ∀ x gx, Y2 x = some (z_rr ks.2.2.2.2 2 gx) → x ≠ u := fun x gx hx => z_ne hx hu (fun z => by simp at z; exact hn z.2.1.symm)
  have nv : ∀ x fs, Y2 x = some (z_ob 6 fs) → x ≠ u := fun x fs hx => z_ne hx hu (fun z => by cases z)
  have old : ∀ j : Nat, (j : Int) < i → ql j < q ∧ qt j < t ∧ Y2 (ql j) = some (z_ob 6 [.ref (qt j), z_v 0]) ∧ Y2 (qt j) = some (z_rr ks.2.2.2.2 2 (fun _ => none)) := by
    intro j hj
    obtain ⟨a, b, c⟩ := h.1 j hj
    exact ⟨hf _ _ b, hlt _ _ (hs _ _ c), hk _ _ (hs _ _ b) (Nat.ne_of_lt (hf _ _ b)), hk _ _ (hs _ _ c) (Nat.ne_of_lt (hf _ _ c))⟩
  refine ⟨fun j hj => ?_, fun a b ha hb hab => ?_, fun a b ha hb hab => ?_⟩
  · by_cases he : j = i.toNat
    · subst he
      simp only [va_up, if_true]
      exact ⟨trivial, hk3 _ _ y2 (nv _ _ y2), hk3 _ _ w2 (nu _ _ w2)⟩
    · simp only [va_up, if_neg he]
      obtain ⟨_, _, c, d⟩ := old j (by omega)
      exact ⟨(h.1 j (by omega)).1, hk3 _ _ c (nv _ _ c), hk3 _ _ d (nu _ _ d)⟩
  · by_cases e1 : a = i.toNat <;> by_cases e2 : b = i.toNat
    · omega
    · simp only [va_up, if_neg e2, e1, if_true] at hab
      have := (old b (by omega)).1
      omega
    · simp only [va_up, if_neg e1, e2, if_true] at hab
      have := (old a (by omega)).1
      omega
    · simp only [va_up, if_neg e1, if_neg e2] at hab
      exact h.2.1 a b (by omega) (by omega) hab
  · by_cases e1 : a = i.toNat <;> by_cases e2 : b = i.toNat
    · omega
    · simp only [va_up, if_neg e2, e1, if_true] at hab
      have := (old b (by omega)).2.1
      omega
    · simp only [va_up, if_neg e1, e2, if_true] at hab
      have := (old a (by omega)).2.1
      omega
    · simp only [va_up, if_neg e1, if_neg e2] at hab
      exact h.2.2 a b (by omega) (by omega) hab
theorem z_NL.N (h : z_NL ks Y g 18 ql qt) {ge : Nat → Option Nat} {em ef et ec er gn gt lt : Nat → Int} {qe : Nat → Nat} : z_N ks Y ge g 0 em ef et ec er gn gt (fun _ => 0) lt qe (fun k => ql (k - 20)) (fun k => qt (k - 20)) := by
  refine ⟨fun j h0 h1 => absurd h1 (by omega), fun j h0 h1 => ?_, fun a b ha hb hab => ?_, fun a b ha hb hab => ?_, by omega, by omega⟩
  · obtain ⟨a, b, c⟩ := h.1 j.toNat (by omega)
    dsimp only
    rw [show 20 + j.toNat - 20 = j.toNat by omega]
    exact ⟨a, b, by omega, _, c, fun k k0 k1 => absurd k1 (by omega)⟩
  · rcases ha with ha | ha
    · omega
    · rcases hb with hb | hb
      · omega
      · have := h.2.1 (a - 20) (b - 20) (by omega) (by omega) hab
        omega
  · rcases ha with ha | ha
    · omega
    · rcases hb with hb | hb
      · omega
      · have := h.2.2 (a - 20) (b - 20) (by omega) (by omega) hab
        omega
end ZNL
