/-! closing: bounds through 0, 1, 2, 3 in turn -/
def zo_f1 (k x y : Nat) (z : Nat → Int) : Nat → Int := va_up z (4 * x + y) (min (zo_sum (z (4 * x + k)) (z (4 * k + y))) (z (4 * x + y)))
def zo_fw : Nat → (Nat → Int) → (Nat → Int)
  | 0, z => z
  | t + 1, z => zo_f1 (t / 16) (t / 4 % 4) (t % 4) (zo_fw t z)
theorem zo_fw_s (t : Nat) (z : Nat → Int) : zo_fw (t + 1) z = zo_f1 (t / 16) (t / 4 % 4) (t % 4) (zo_fw t z) := rfl
theorem zo_fw_succ {k x y : Nat} {z : Nat → Int} (hx : x < 4) (hy : y < 4) : zo_fw (16 * k + 4 * x + y + 1) z = zo_f1 k x y (zo_fw (16 * k + 4 * x + y) z) := by
  rw [zo_fw_s, show (16 * k + 4 * x + y) / 16 = k by omega, show (16 * k + 4 * x + y) / 4 % 4 = x by omega, show (16 * k + 4 * x + y) % 4 = y by omega]
theorem zo_f1_le {k x y : Nat} {z : Nat → Int} (j : Nat) : zo_f1 k x y z j ≤ z j := by
  unfold zo_f1 va_up
  split
  · rename_i h
    subst h
    omega
  · exact Int.le_refl _
theorem zo_fw_le (t : Nat) (z : Nat → Int) (j : Nat) : zo_fw t z j ≤ z j := by
  induction t with
  | zero => exact Int.le_refl _
  | succ t ih => exact Int.le_trans (zo_f1_le j) ih
theorem zo_fw_le2 (t d : Nat) (z : Nat → Int) (j : Nat) : zo_fw (t + d) z j ≤ zo_fw t z j := by
  induction d with
  | zero => exact Int.le_refl _
  | succ d ih => exact Int.le_trans (zo_f1_le j) ih
def zo_top (z : Nat → Int) : Prop := ∀ k, k < 16 → z k ≤ 100000
theorem zo_top.fw {z : Nat → Int} (h : zo_top z) (t : Nat) : zo_top (zo_fw t z) := fun k hk => Int.le_trans (zo_fw_le t z k) (h k hk)
/-- closed ones below stay below -/
theorem zo_f1_ge {k x y : Nat} {z w : Nat → Int} (hk : k < 4) (hx : x < 4) (hy : y < 4) (ht : zo_top z) (hw : zo_C w) (h : zo_le w z) : zo_le w (zo_f1 k x y z) := by
  intro j hj
  unfold zo_f1 va_up
  split
  · rename_i e
    subst e
    have h1 := h.at hx hy
    have h2 : w (4 * x + y) ≤ zo_sum (z (4 * x + k)) (z (4 * k + y)) := by
      have t1 := ht (4 * x + k) (by omega)
      have t2 := ht (4 * k + y) (by omega)
      unfold zo_sum
      split
      · exact hw.top hx hy
      · have a1 := h.at hx hk
        have a2 := h.at hk hy
        exact Int.le_trans (hw.2.2 x k y hx hk hy (by omega) (by omega)) (zo_fs_mono a1 a2)
    omega
  · exact h j hj
theorem zo_fw_ge {z w : Nat → Int} (ht : zo_top z) (hw : zo_C w) (h : zo_le w z) (t : Nat) (h64 : t ≤ 64) : zo_le w (zo_fw t z) := by
  induction t with
  | zero => exact h
  | succ t ih => exact zo_f1_ge (by omega) (by omega) (by omega) (ht.fw t) hw (ih (by omega))
/-- one round, if the diagonal's entry is 'at most 0' -/
def zo_dn (k : Nat) (D : Nat → Int) : Nat → Int := fun j => min (zo_sum (D (4 * (j / 4) + k)) (D (4 * k + j % 4))) (D j)
theorem zo_sum_one {a : Int} : zo_sum a 1 = a := by
  unfold zo_sum
  split
  · omega
  · exact zo_fs_one a
theorem zo_one_sum {a : Int} : zo_sum 1 a = a := by
  unfold zo_sum
  split
  · omega
  · exact zo_one_fs a
theorem zo_fw_st {k : Nat} {z : Nat → Int} (hk : k < 4) (hd : zo_fw (16 * k) z (4 * k + k) = 1) : ∀ s, s ≤ 16 → ∀ j, j < 16 → zo_fw (16 * k + s) z j = if j < s then zo_dn k (zo_fw (16 * k) z) j else zo_fw (16 * k) z j := by
  generalize hD : zo_fw (16 * k) z = D at hd
  have hc : ∀ x, x < 4 → zo_dn k D (4 * x + k) = D (4 * x + k) := fun x hx => by
    unfold zo_dn
    rw [show (4 * x + k) / 4 = x by omega, show (4 * x + k) % 4 = k by omega, hd, zo_sum_one]
    omega
  have hr : ∀ y, y < 4 → zo_dn k D (4 * k + y) = D (4 * k + y) := fun y hy => by
    unfold zo_dn
    rw [show (4 * k + y) / 4 = k by omega, show (4 * k + y) % 4 = y by omega, hd, zo_one_sum]
    omega
  intro s
  induction s with
  | zero =>
    intro _ j hj
    rw [if_neg (by omega), Nat.add_zero, hD]
  | succ s ih =>
    intro hs j hj
    have ih' := ih (by omega)
    have e : zo_fw (16 * k + (s + 1)) z = zo_f1 k (s / 4) (s % 4) (zo_fw (16 * k + s) z) := by
      rw [show 16 * k + (s + 1) = 16 * k + s + 1 by omega, zo_fw_s, show (16 * k + s) / 16 = k by omega, show (16 * k + s) / 4 % 4 = s / 4 by omega, show (16 * k + s) % 4 = s % 4 by omega]
    rw [e]
    have c1 : zo_fw (16 * k + s) z (4 * (s / 4) + k) = D (4 * (s / 4) + k) := by
      rw [ih' _ (by omega)]
      split
      · exact hc _ (by omega)
      · rfl
    have c2 : zo_fw (16 * k + s) z (4 * k + s % 4) = D (4 * k + s % 4) := by
      rw [ih' _ (by omega)]
      split
      · exact hr _ (by omega)
      · rfl
    have c3 : zo_fw (16 * k + s) z s = D s := by
      rw [ih' _ (by omega), if_neg (by omega)]
    unfold zo_f1
    rw [c1, c2, show 4 * (s / 4) + s % 4 = s by omega, c3]
    by_cases hjs : j = s
    · subst hjs
      rw [z_upS, if_pos (by omega)]
      rfl
    · simp only [va_up]
      rw [if_neg hjs, ih' j hj]
      by_cases h2 : j < s
      · rw [if_pos h2, if_pos (by omega)]
      · rw [if_neg h2, if_neg (by omega)]
theorem zo_fw_rd {k : Nat} {z : Nat → Int} (hk : k < 4) (hd : zo_fw (16 * k) z (4 * k + k) = 1) : ∀ j, j < 16 → zo_fw (16 * (k + 1)) z j = zo_dn k (zo_fw (16 * k) z) j := fun j hj => by
  have h := zo_fw_st hk hd 16 (Nat.le_refl _) j hj
  rw [if_pos hj] at h
  exact h
/-- the triangles through the first k, and that no sum is lost -/
def zo_T (k : Nat) (D : Nat → Int) : Prop := ∀ x y m, x < 4 → y < 4 → m < k → D (4 * x + m) < 100000 → D (4 * m + y) < 100000 → D (4 * x + y) < 100000 ∧ D (4 * x + y) ≤ zo_fs (D (4 * x + m)) (D (4 * m + y))
def zo_BD (k : Nat) (D : Nat → Int) : Prop := ∀ x y, x < 4 → y < 4 → D (4 * x + k) < 100000 → D (4 * k + y) < 100000 → D (4 * x + y) < 100000 ∨ zo_fs (D (4 * x + k)) (D (4 * k + y)) < 100000
theorem zo_dn_at {k x y : Nat} {D : Nat → Int} (hy : y < 4) : zo_dn k D (4 * x + y) = min (zo_sum (D (4 * x + k)) (D (4 * k + y))) (D (4 * x + y)) := by
  unfold zo_dn
  rw [show (4 * x + y) / 4 = x by omega, show (4 * x + y) % 4 = y by omega]
theorem zo_T.step {k : Nat} {D E : Nat → Int} (hk : k < 4) (h : zo_T k D) (ht : zo_top D) (hd : D (4 * k + k) = 1) (hb : zo_BD k D) (hE : ∀ j, j < 16 → E j = zo_dn k D j) : zo_T (k + 1) E := by
  have le : ∀ x y, x < 4 → y < 4 → E (4 * x + y) ≤ D (4 * x + y) := fun x y hx hy => by
    rw [hE _ (by omega), zo_dn_at hy]; omega
  have le2 : ∀ x y, x < 4 → y < 4 → D (4 * x + k) < 100000 → D (4 * k + y) < 100000 → E (4 * x + y) ≤ zo_fs (D (4 * x + k)) (D (4 * k + y)) ∧ E (4 * x + y) < 100000 := fun x y hx hy h1 h2 => by
    have e : E (4 * x + y) = min (zo_fs (D (4 * x + k)) (D (4 * k + y))) (D (4 * x + y)) := by rw [hE _ (by omega), zo_dn_at hy, zo_sum_f h1 h2]
    have b := hb x y hx hy h1 h2
    omega
  have orr : ∀ x y, x < 4 → y < 4 → E (4 * x + y) < 100000 → (D (4 * x + y) < 100000 ∧ E (4 * x + y) = D (4 * x + y)) ∨ (D (4 * x + k) < 100000 ∧ D (4 * k + y) < 100000 ∧ E (4 * x + y) = zo_fs (D (4 * x + k)) (D (4 * k + y))) := fun x y hx hy hf => by
    have e : E (4 * x + y) = min (zo_sum (D (4 * x + k)) (D (4 * k + y))) (D (4 * x + y)) := by rw [hE _ (by omega), zo_dn_at hy]
    have t0 := ht (4 * x + y) (by omega)
    have t1 := ht (4 * x + k) (by omega)
    have t2 := ht (4 * k + y) (by omega)
    by_cases q : D (4 * x + k) = 100000 ∨ D (4 * k + y) = 100000
    · unfold zo_sum at e
      rw [if_pos q] at e
      exact Or.inl ⟨by omega, by omega⟩
    · rw [zo_sum_f (by omega) (by omega)] at e
      rcases Int.le_total (zo_fs (D (4 * x + k)) (D (4 * k + y))) (D (4 * x + y)) with r | r
      · exact Or.inr ⟨by omega, by omega, by omega⟩
      · exact Or.inl ⟨by omega, by omega⟩
  have hc : ∀ x, x < 4 → E (4 * x + k) = D (4 * x + k) := fun x hx => by
    rw [hE _ (by omega), zo_dn_at hk, hd, zo_sum_one]; omega
  have hr : ∀ y, y < 4 → E (4 * k + y) = D (4 * k + y) := fun y hy => by
    rw [hE _ (by omega), zo_dn_at hy, hd, zo_one_sum]; omega
  intro x y m hx hy hm h1 h2
  by_cases hmk : m = k
  · subst hmk
    rw [hc x hx] at h1 ⊢
    rw [hr y hy] at h2 ⊢
    have q := le2 x y hx hy h1 h2
    exact ⟨q.2, q.1⟩
  · have hmk' : m < k := by omega
    rcases orr x m hx (by omega) h1 with ⟨a1, a2⟩ | ⟨a1, a2, a3⟩ <;> rcases orr m y (by omega) hy h2 with ⟨b1, b2⟩ | ⟨b1, b2, b3⟩
    · rw [a2, b2]
      have q := h x y m hx hy hmk' a1 b1
      have l := le x y hx hy
      exact ⟨by omega, by omega⟩
    · rw [a2, b3]
      have q := h x k m hx hk hmk' a1 b1
      have l := le2 x y hx hy q.1 b2
      refine ⟨l.2, Int.le_trans l.1 ?_⟩
      rw [← zo_fs_assoc]
      exact zo_fs_mono q.2 (Int.le_refl _)
    · rw [a3, b2]
      have q := h k y m hk hy hmk' a2 b1
      have l := le2 x y hx hy a1 q.1
      refine ⟨l.2, Int.le_trans l.1 ?_⟩
      rw [zo_fs_assoc]
      exact zo_fs_mono (Int.le_refl _) q.2
    · rw [a3, b3]
      have q := h k k m hk hk hmk' a2 b1
      rw [hd] at q
      have l := le2 x y hx hy a1 b2
      refine ⟨l.2, Int.le_trans l.1 ?_⟩
      have e : zo_fs (zo_fs (D (4 * x + k)) (D (4 * k + m))) (zo_fs (D (4 * m + k)) (D (4 * k + y))) = zo_fs (D (4 * x + k)) (zo_fs (zo_fs (D (4 * k + m)) (D (4 * m + k))) (D (4 * k + y))) := by simp only [zo_fs_assoc]
      rw [e]
      refine zo_fs_mono (Int.le_refl _) ?_
      have g := zo_fs_mono q.2 (Int.le_refl (D (4 * k + y)))
      rw [zo_one_fs] at g
      exact g
/-- the diagonal stays, if it is there in the end -/
theorem zo_fw_dg {z : Nat → Int} (h0 : ∀ x, x < 4 → z (4 * x + x) = 1) (h : ∀ x, x < 4 → zo_fw 64 z (4 * x + x) = 1) (t : Nat) (ht : t ≤ 64) : ∀ x, x < 4 → zo_fw t z (4 * x + x) = 1 := by
  intro x hx
  have h1 := zo_fw_le t z (4 * x + x)
  have h2 := zo_fw_le2 t (64 - t) z (4 * x + x)
  rw [show t + (64 - t) = 64 by omega, h x hx] at h2
  rw [h0 x hx] at h1
  omega
theorem zo_fw_C {z : Nat → Int} (ht : zo_top z) (h0 : ∀ x, x < 4 → z (4 * x + x) = 1) (h : ∀ x, x < 4 → zo_fw 64 z (4 * x + x) = 1) (hb : ∀ k, k < 4 → zo_BD k (zo_fw (16 * k) z)) : zo_C (zo_fw 64 z) := by
  have dg := fun k (hk : k < 4) => zo_fw_dg h0 h (16 * k) (by omega) k hk
  have T0 : zo_T 0 (zo_fw (16 * 0) z) := fun x y m hx hy hm => absurd hm (by omega)
  have T1 := T0.step (by omega) (ht.fw _) (dg 0 (by omega)) (hb 0 (by omega)) (zo_fw_rd (by omega) (dg 0 (by omega)))
  have T2 := T1.step (by omega) (ht.fw _) (dg 1 (by omega)) (hb 1 (by omega)) (zo_fw_rd (by omega) (dg 1 (by omega)))
  have T3 := T2.step (by omega) (ht.fw _) (dg 2 (by omega)) (hb 2 (by omega)) (zo_fw_rd (by omega) (dg 2 (by omega)))
  have T4 := T3.step (by omega) (ht.fw _) (dg 3 (by omega)) (hb 3 (by omega)) (zo_fw_rd (by omega) (dg 3 (by omega)))
  exact ⟨h, ht.fw 64, fun x y v hx hy hv h1 h2 => (T4 x v y hx hv hy h1 h2).2⟩
/-- what closing answers -/
theorem zo_fw_GC {z : Nat → Int} (ht : zo_top z) (h0 : ∀ x, x < 4 → z (4 * x + x) = 1) (hb : (∀ x, x < 4 → zo_fw 64 z (4 * x + x) = 1) → ∀ k, k < 4 → zo_BD k (zo_fw (16 * k) z)) : (∀ x, x < 4 → zo_fw 64 z (4 * x + x) = 1) → zo_GC (fun w => zo_le w z) (zo_fw 64 z) :=
  fun h => ⟨zo_fw_C ht h0 h (hb h), fun k _ => zo_fw_le 64 z k, fun w hw hz => zo_fw_ge ht hw hz 64 (Nat.le_refl _)⟩
theorem zo_fw_no {z : Nat → Int} (ht : zo_top z) (h0 : ∀ x, x < 4 → z (4 * x + x) = 1) (h : ¬ ∀ x, x < 4 → zo_fw 64 z (4 * x + x) = 1) : zo_none (fun w => zo_le w z) := by
  intro w hw hz
  apply h
  intro x hx
  have h1 := zo_fw_ge ht hw hz 64 (Nat.le_refl _) (4 * x + x) (by omega)
  have h2 := zo_fw_le 64 z (4 * x + x)
  rw [h0 x hx] at h2
  rw [hw.1 x hx] at h1
  omega
/-! how far down closing goes, also where nothing is left -/
theorem zo_fw_s1 {k : Nat} {z : Nat → Int} {L : Int} (hk : k < 4) (hL : 1 ≤ L) (h : ∀ j, j < 16 → -L ≤ zo_fw (16 * k) z j) : ∀ s, s ≤ 16 → (∀ j, j < 16 → -(7 * L + 10) ≤ zo_fw (16 * k + s) z j) ∧ (∀ j, j < 16 → s ≤ j → -L ≤ zo_fw (16 * k + s) z j) ∧ (∀ j, j < 4 → -(3 * L + 5) ≤ zo_fw (16 * k + s) z (4 * k + j) ∧ -(3 * L + 5) ≤ zo_fw (16 * k + s) z (4 * j + k)) ∧ -(2 * L + 1) ≤ zo_fw (16 * k + s) z (4 * k + k) := by
  intro s
  induction s with
  | zero =>
    intro _
    refine ⟨fun j hj => ?_, fun j hj _ => h j hj, fun j hj => ⟨?_, ?_⟩, ?_⟩
    · have := h j hj
      simp only [Nat.add_zero]
      omega
    · have := h (4 * k + j) (by omega)
      simp only [Nat.add_zero]
      omega
    · have := h (4 * j + k) (by omega)
      simp only [Nat.add_zero]
      omega
    · have := h (4 * k + k) (by omega)
      simp only [Nat.add_zero]
      omega
  | succ s ih =>
    intro hs
    obtain ⟨i1, i2, i3, i4⟩ := ih (by omega)
    have e : zo_fw (16 * k + (s + 1)) z = zo_f1 k (s / 4) (s % 4) (zo_fw (16 * k + s) z) := by
      rw [show 16 * k + (s + 1) = 16 * k + s + 1 by omega, zo_fw_s, show (16 * k + s) / 16 = k by omega, show (16 * k + s) / 4 % 4 = s / 4 by omega, show (16 * k + s) % 4 = s % 4 by omega]
    generalize zo_fw (16 * k + s) z = D at *
    have hs2 : 4 * (s / 4) + s % 4 = s := by omega
    have hv : ∀ j, zo_fw (16 * k + (s + 1)) z j = if j = s then min (zo_sum (D (4 * (s / 4) + k)) (D (4 * k + s % 4))) (D s) else D j := by
      intro j
      rw [e]
      unfold zo_f1 va_up
      rw [hs2]
    have sg : ∀ a b : Int, a + b - 1 ≤ zo_sum a b ∨ zo_sum a b = 100000 := by
      intro a b
      unfold zo_sum
      split
      · exact Or.inr rfl
      · exact Or.inl (zo_fs_ge a b)
    have g := sg (D (4 * (s / 4) + k)) (D (4 * k + s % 4))
    have d0 := i2 s (by omega) (by omega)
    have r1 := i3 (s % 4) (by omega)
    have r2 := i3 (s / 4) (by omega)
    have n1 : -(7 * L + 10) ≤ min (zo_sum (D (4 * (s / 4) + k)) (D (4 * k + s % 4))) (D s) := by omega
    have n2 : s % 4 = k → s / 4 = k → -(2 * L + 1) ≤ min (zo_sum (D (4 * (s / 4) + k)) (D (4 * k + s % 4))) (D s) := by
      intro q1 q2
      rw [show 4 * (s / 4) + k = s by omega, show 4 * k + s % 4 = s by omega] at g ⊢
      omega
    have n3 : s / 4 = k → -(3 * L + 5) ≤ min (zo_sum (D (4 * (s / 4) + k)) (D (4 * k + s % 4))) (D s) := by
      intro q
      rw [show 4 * (s / 4) + k = 4 * k + k by omega, show 4 * k + s % 4 = s by omega] at g ⊢
      omega
    have n4 : s % 4 = k → -(3 * L + 5) ≤ min (zo_sum (D (4 * (s / 4) + k)) (D (4 * k + s % 4))) (D s) := by
      intro q
      rw [show 4 * (s / 4) + k = s by omega, show 4 * k + s % 4 = 4 * k + k by omega] at g ⊢
      omega
    refine ⟨fun j hj => ?_, fun j hj hsj => ?_, fun j hj => ⟨?_, ?_⟩, ?_⟩
    · rw [hv]
      split
      · exact n1
      · exact i1 j hj
    · rw [hv, if_neg (by omega)]
      exact i2 j hj (by omega)
    · rw [hv]
      split
      · rename_i q
        exact n3 (by omega)
      · exact (i3 j hj).1
    · rw [hv]
      split
      · rename_i q
        exact n4 (by omega)
      · exact (i3 j hj).2
    · rw [hv]
      split
      · rename_i q
        exact n2 (by omega) (by omega)
      · exact i4
theorem zo_fw_low {z : Nat → Int} (h : ∀ j, j < 16 → -90000 ≤ z j) (t : Nat) (ht : t ≤ 64) : ∀ j, j < 16 → -250000000 ≤ zo_fw t z j := by
  have s0 : ∀ j, j < 16 → -90000 ≤ zo_fw (16 * 0) z j := h
  have s1 := fun s hs => zo_fw_s1 (k := 0) (by omega) (by omega) s0 s hs
  have s2 := fun s hs => zo_fw_s1 (k := 1) (by omega) (by omega) (s1 16 (by omega)).1 s hs
  have s3 := fun s hs => zo_fw_s1 (k := 2) (by omega) (by omega) (s2 16 (by omega)).1 s hs
  have s4 := fun s hs => zo_fw_s1 (k := 3) (by omega) (by omega) (s3 16 (by omega)).1 s hs
  intro j hj
  rcases (show t < 16 ∨ (16 ≤ t ∧ t < 32) ∨ (32 ≤ t ∧ t < 48) ∨ 48 ≤ t by omega) with q | q | q | q
  · have r := (s1 t (by omega)).1 j hj
    rw [show 16 * 0 + t = t by omega] at r
    omega
  · have r := (s2 (t - 16) (by omega)).1 j hj
    rw [show 16 * 1 + (t - 16) = t by omega] at r
    omega
  · have r := (s3 (t - 32) (by omega)).1 j hj
    rw [show 16 * 2 + (t - 32) = t by omega] at r
    omega
  · have r := (s4 (t - 48) (by omega)).1 j hj
    rw [show 16 * 3 + (t - 48) = t by omega] at r
    omega
