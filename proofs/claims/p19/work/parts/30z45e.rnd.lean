/-! times in parts of one G-th, rounded to 64ths: what they keep they keep -/
def zr_cn (f : Nat → Int) (c : Int) : Nat → Int
  | 0 => 0
  | n + 1 => zr_cn f c n + (if f n < c then 1 else 0)
section ZCN
variable {f : Nat → Int} {c c' : Int}
theorem zr_cn_rg (N : Nat) : 0 ≤ zr_cn f c N ∧ zr_cn f c N ≤ N := by
  induction N with
  | zero => exact ⟨Int.le_refl _, Int.le_refl _⟩
  | succ N ih =>
    unfold zr_cn
    split <;> omega
theorem zr_cn_mono (h : c ≤ c') (N : Nat) : zr_cn f c N ≤ zr_cn f c' N := by
  induction N with
  | zero => exact Int.le_refl _
  | succ N ih =>
    unfold zr_cn
    by_cases a : f N < c
    · rw [if_pos a, if_pos (by omega)]
      omega
    · rw [if_neg a]
      split <;> omega
theorem zr_cn_lt (h : c ≤ c') {i : Nat} (h1 : c ≤ f i) (h2 : f i < c') (N : Nat) : i < N → zr_cn f c N + 1 ≤ zr_cn f c' N := by
  induction N with
  | zero => intro q; omega
  | succ N ih =>
    intro q
    unfold zr_cn
    by_cases e : i = N
    · subst e
      rw [if_neg (by omega), if_pos h2]
      have := zr_cn_mono (f := f) h i
      omega
    · have := ih (by omega)
      by_cases a : f N < c
      · rw [if_pos a, if_pos (by omega)]
        omega
      · rw [if_neg a]
        split <;> omega
theorem zr_cn_self {i : Nat} (N : Nat) : i < N → zr_cn f (f i) N + 1 ≤ N := by
  induction N with
  | zero => intro q; omega
  | succ N ih =>
    intro q
    unfold zr_cn
    by_cases e : i = N
    · subst e
      rw [if_neg (by omega)]
      have := (zr_cn_rg (f := f) (c := f i) i).2
      omega
    · have := ih (by omega)
      split <;> omega
theorem zr_cn_0 (h : ∀ i, 0 ≤ f i) (N : Nat) : zr_cn f 0 N = 0 := by
  induction N with
  | zero => rfl
  | succ N ih =>
    unfold zr_cn
    rw [ih, if_neg (by have := h N; omega)]
    rfl
end ZCN
theorem zr_rd {G : Int} {t : Nat → Int} {n : Nat} (hG : 0 < G) (hn : n ≤ 40) : ∃ q : Nat → Int, (∀ (a b : Nat) (c s : Int), a ≤ n → b ≤ n → (s = 0 ∨ s = 1) → G * c + s ≤ t a - t b → 64 * c + s ≤ q a - q b) ∧ (t 0 = 0 → q 0 = 0) := by
  refine ⟨fun j => 64 * (t j / G) + zr_cn (fun i => t i % G) (t j % G) (n + 1), fun a b c s ha hb hs h => ?_, fun h => ?_⟩
  · have ea := Int.mul_ediv_add_emod (t a) G
    have eb := Int.mul_ediv_add_emod (t b) G
    have a0 := Int.emod_nonneg (t a) (show G ≠ 0 by omega)
    have a1 := Int.emod_lt_of_pos (t a) hG
    have b0 := Int.emod_nonneg (t b) (show G ≠ 0 by omega)
    have b1 := Int.emod_lt_of_pos (t b) hG
    have ra := zr_cn_self (f := fun i => t i % G) (i := a) (n + 1) (by omega)
    have rb := zr_cn_self (f := fun i => t i % G) (i := b) (n + 1) (by omega)
    have ra0 := (zr_cn_rg (f := fun i => t i % G) (c := t a % G) (n + 1)).1
    have rb0 := (zr_cn_rg (f := fun i => t i % G) (c := t b % G) (n + 1)).1
    dsimp only at ra rb ⊢
    rcases Int.lt_trichotomy (t a / G) (t b / G + c) with k | k | k
    · exfalso
      have m := zq_mul1 (G := G) (by omega) k
      rw [Int.mul_add] at m
      omega
    · have m : G * (t a / G) = G * (t b / G) + G * c := by rw [k, Int.mul_add]
      rcases hs with rfl | rfl
      · have r := zr_cn_mono (f := fun i => t i % G) (show t b % G ≤ t a % G by omega) (n + 1)
        omega
      · have r := zr_cn_lt (f := fun i => t i % G) (c := t b % G) (c' := t a % G) (i := b) (by omega) (Int.le_refl _) (by omega) (n + 1) (by omega)
        omega
    · omega
  · dsimp only
    rw [h, Int.zero_ediv, Int.zero_emod, zr_cn_0 (fun i => Int.emod_nonneg _ (by omega))]
    rfl
section ZRD
variable {G : Int} {er gn gt ln lt E F t q : Nat → Int} {A : Nat → Nat → Int} {n : Nat}
theorem zr_ts.rd {nn o : Int} {T : Nat → Int} {k j : Nat} (hq : ∀ (a b : Nat) (c s : Int), a ≤ n → b ≤ n → (s = 0 ∨ s = 1) → G * c + s ≤ t a - t b → 64 * c + s ≤ q a - q b) (hk : k ≤ n) (hj : j ≤ n) (h : zr_ts G 1 nn T o (zr_u er E F t k j)) : zr_ts 64 1 nn T o (zr_u er E F q k j) := fun i i0 i1 => by
  have r := h i i0 i1
  have l := zr_ls_le er E F (T (o + 3 * i).toNat).toNat k
  unfold zr_t zr_u at r ⊢
  generalize zr_ls er E F (T (o + 3 * i).toNat).toNat k = p at r l ⊢
  generalize T (o + 3 * i + 1).toNat = sk at r ⊢
  generalize T (o + 3 * i + 2).toNat = m at r ⊢
  refine ⟨fun a => ⟨?_, fun b => ?_⟩, fun a => ⟨?_, fun b => ?_⟩⟩
  · have := hq p j (-m) 0 (by omega) hj (Or.inl rfl) (by rw [Int.mul_neg]; have := (r.1 a).1; omega)
    omega
  · have := hq p j (-m) 1 (by omega) hj (Or.inr rfl) (by rw [Int.mul_neg]; have := (r.1 a).2 b; omega)
    omega
  · have := hq j p m 0 hj (by omega) (Or.inl rfl) (by have := (r.2 a).1; omega)
    omega
  · have := hq j p m 1 hj (by omega) (Or.inr rfl) (by have := (r.2 a).2 b; omega)
    omega
theorem zr_F.rd (hG : 0 < G) (hn : n ≤ 40) (h : zr_F G 1 er gn gt ln lt E F A n t) (h0 : t 0 = 0) : ∃ q : Nat → Int, zr_F 64 1 er gn gt ln lt E F A n q ∧ q 0 = 0 := by
  obtain ⟨q, hq, q0⟩ := zr_rd (t := t) hG hn
  refine ⟨q, fun j hj => ?_, q0 h0⟩
  obtain ⟨h1, h2, h3, h4⟩ := h j hj
  refine ⟨?_, ⟨h2.1.rd hq (by omega) (by omega), fun x => (h2.2 x).rd hq (by omega) (by omega)⟩, fun m m0 m1 => (h3 m m0 m1).rd hq (by omega) (by omega), fun m m0 m1 => (h4 m m0 m1).rd hq (by omega) (by omega)⟩
  have := hq (j + 1) j 0 0 (by omega) (by omega) (Or.inl rfl) (by rw [Int.mul_zero]; omega)
  omega
end ZRD
