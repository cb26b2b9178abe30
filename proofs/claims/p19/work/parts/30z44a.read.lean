/-! what is read of the states -/
def z_stA (i w nd N v : Int) : Int := if nd ≠ 0 then -103 else if 0 ≤ i ∧ i < N then (if 0 ≤ w ∧ w ≤ 6 then v else -102) else -101
def z_tl (i w : Int) (pl pa me mf mv : Nat → Int) : Int := if w < 3 then pl (3 * i + w).toNat else if w = 3 then pa i.toNat else if w = 4 then me i.toNat else if w = 5 then mf i.toNat else mv i.toNat
def z_bdA (i x y nd N v : Int) : Int := if nd ≠ 0 then 100001 else if (0 ≤ i ∧ i < N) ∧ (0 ≤ x ∧ x ≤ 3) ∧ 0 ≤ y ∧ y ≤ 3 then v else 100002
/-- the least one, else -1 -/
def z_fst (P : Int → Prop) (N z : Int) : Prop := (z = -1 ∧ ∀ i, 0 ≤ i → i < N → ¬ P i) ∨ ((0 ≤ z ∧ z < N) ∧ P z ∧ ∀ i, 0 ≤ i → i < z → ¬ P i)
theorem z_fst.eq {P Q : Int → Prop} {N a b : Int} (h : z_fst P N a) (h' : z_fst Q N b) (e : ∀ i, 0 ≤ i → i < N → (P i ↔ Q i)) : a = b := by
  rcases h with ⟨h1, h2⟩ | ⟨h1, h2, h3⟩ <;> rcases h' with ⟨k1, k2⟩ | ⟨k1, k2, k3⟩
  · omega
  · exact absurd ((e b k1.1 k1.2).mpr k2) (h2 b k1.1 k1.2)
  · exact absurd ((e a h1.1 h1.2).mp h2) (k2 a h1.1 h1.2)
  · rcases Int.lt_trichotomy a b with q | q | q
    · exact absurd ((e a h1.1 h1.2).mp h2) (k3 a h1.1 q)
    · exact q
    · exact absurd ((e b k1.1 k1.2).mpr k2) (h3 b k1.1 q)
def z_rcA (a b c nd N : Int) (P : Int → Prop) (z : Int) : Prop := (nd ≠ 0 ∧ z = -103) ∨ (nd = 0 ∧ ¬ ((-1 ≤ a ∧ a ≤ 5) ∧ (-1 ≤ b ∧ b ≤ 5) ∧ -1 ≤ c ∧ c ≤ 5) ∧ z = -102) ∨ (nd = 0 ∧ ((-1 ≤ a ∧ a ≤ 5) ∧ (-1 ≤ b ∧ b ≤ 5) ∧ -1 ≤ c ∧ c ≤ 5) ∧ z_fst P N z)
/-- amounts in a zone -/
abbrev z_hb (d b : Int) : Prop := b = 100000 ∨ d ≤ 64 * (b / 2) - 1 + b % 2
def z_ho (zn : Nat → Int) (i : Int) (am : Nat → Int) : Prop := ∀ x y : Int, 0 ≤ x → x < 4 → 0 ≤ y → y < 4 → z_hb (am x.toNat - am y.toNat) (zn (16 * i + 4 * x + y).toNat)
theorem z_ho.iff {zn zn' am am' : Nat → Int} {i : Int} (h0 : 0 ≤ i) (ez : ∀ k, k < 16 → zn (16 * i.toNat + k) = zn' (16 * i.toNat + k)) (ea : ∀ x, x < 4 → am x = am' x) : z_ho zn i am ↔ z_ho zn' i am' := by
  have key : ∀ x y : Int, 0 ≤ x → x < 4 → 0 ≤ y → y < 4 → (am x.toNat = am' x.toNat ∧ am y.toNat = am' y.toNat ∧ zn (16 * i + 4 * x + y).toNat = zn' (16 * i + 4 * x + y).toNat) := by
    intro x y x0 x1 y0 y1
    refine ⟨ea _ (by omega), ea _ (by omega), ?_⟩
    have := ez (4 * x + y).toNat (by omega)
    rw [show 16 * i.toNat + (4 * x + y).toNat = (16 * i + 4 * x + y).toNat by omega] at this
    exact this
  constructor
  · intro h x y x0 x1 y0 y1
    obtain ⟨k1, k2, k3⟩ := key x y x0 x1 y0 y1
    rw [← k1, ← k2, ← k3]
    exact h x y x0 x1 y0 y1
  · intro h x y x0 x1 y0 y1
    obtain ⟨k1, k2, k3⟩ := key x y x0 x1 y0 y1
    rw [k1, k2, k3]
    exact h x y x0 x1 y0 y1
def z_hsA (i a b c nd N : Int) (P : Prop) (z : Int) : Prop := (nd ≠ 0 ∧ z = -103) ∨ (nd = 0 ∧ ¬ (0 ≤ i ∧ i < N) ∧ z = -101) ∨ ((nd = 0 ∧ 0 ≤ i ∧ i < N) ∧ ¬ ((0 ≤ a ∧ a ≤ 1000000) ∧ (0 ≤ b ∧ b ≤ 1000000) ∧ 0 ≤ c ∧ c ≤ 1000000) ∧ z = -102) ∨ ((nd = 0 ∧ 0 ≤ i ∧ i < N) ∧ ((0 ≤ a ∧ a ≤ 1000000) ∧ (0 ≤ b ∧ b ≤ 1000000) ∧ 0 ≤ c ∧ c ≤ 1000000) ∧ (z = 1 ∧ P ∨ z = 0 ∧ ¬ P))
/-- sums -/
def z_su (f : Nat → Int) : Nat → Int
  | 0 => 0
  | n + 1 => z_su f n + f n
theorem z_su_I {f : Nat → Int} {i a v : Int} (h : a = z_su f i.toNat) (h0 : 0 ≤ i) (hv : f i.toNat = v) : a + v = z_su f (i + 1).toNat := by
  rw [show (i + 1).toNat = i.toNat + 1 by omega, h, ← hv]
  rfl
theorem z_su_rg {f : Nat → Int} (h : ∀ j, 0 ≤ f j ∧ f j ≤ 2) (n : Nat) : 0 ≤ z_su f n ∧ z_su f n ≤ 2 * n := by
  induction n with
  | zero => exact ⟨Int.le_refl _, Int.le_refl _⟩
  | succ n ih =>
    have := h n
    show 0 ≤ z_su f n + f n ∧ z_su f n + f n ≤ _
    omega
def z_ctA (w n l g s m nd x : Int) : Int := if w = 0 then n else if w = 1 then l else if w = 2 then g else if w = 3 then s else if w = 4 then m else if w = 5 then nd else if w = 6 then x else -102
/-- the state that a state was met from, so many times -/
def z_up (pa : Nat → Int) : Nat → Int → Int
  | 0, i => i
  | t + 1, i => pa (z_up pa t i).toNat
