/-! points of zones, in parts of one G-th; what is strict is so by s at least -/
def zq (G s d b : Int) : Prop := b < 100000 → (b % 2 = 1 → d ≤ G * (b / 2)) ∧ (b % 2 = 0 → d + s ≤ G * (b / 2))
section ZQ
variable {G s s' d b b' b1 b2 : Int}
theorem zq_mul {a b : Int} (hG : 0 ≤ G) (h : a ≤ b) : G * a ≤ G * b := Int.mul_le_mul_of_nonneg_left h hG
theorem zq_mul1 {a b : Int} (hG : 0 ≤ G) (h : a < b) : G * a + G ≤ G * b := by
  have := zq_mul hG (show a + 1 ≤ b by omega)
  rw [Int.mul_add, Int.mul_one] at this
  exact this
theorem zq.weak (h : zq G s d b) (hs : s' ≤ s) : zq G s' d b := fun q => ⟨(h q).1, fun r => by have := (h q).2 r; omega⟩
theorem zq.up (h : zq G s d b) (hb : b ≤ b') (hs : 0 ≤ s ∧ s ≤ G) : zq G s d b' := by
  intro q
  have h1 := h (by omega)
  by_cases c : b / 2 = b' / 2
  · rw [← c]
    exact ⟨fun r => by
      by_cases e : b % 2 = 1
      · exact h1.1 e
      · have := h1.2 (by omega)
        omega, fun r => h1.2 (by omega)⟩
  · have k := zq_mul1 (G := G) (by omega) (show b / 2 < b' / 2 by omega)
    by_cases e : b % 2 = 1
    · have := h1.1 e
      exact ⟨fun _ => by omega, fun _ => by omega⟩
    · have := h1.2 (by omega)
      exact ⟨fun _ => by omega, fun _ => by omega⟩
theorem zq.tri (h : zq G s d b) (hb : b ≤ zo_fs b1 b2) (hf : b < 100000) (hs : 0 ≤ s ∧ s ≤ G) : d ≤ G * (b1 / 2) + G * (b2 / 2) ∧ (b1 % 2 = 0 ∨ b2 % 2 = 0 → d + s ≤ G * (b1 / 2) + G * (b2 / 2)) := by
  have h1 := h hf
  unfold zo_fs at hb
  rw [← Int.mul_add]
  by_cases c : b / 2 = b1 / 2 + b2 / 2
  · rw [← c]
    by_cases e : b % 2 = 1
    · have := h1.1 e
      exact ⟨this, fun r => by omega⟩
    · have := h1.2 (by omega)
      exact ⟨by omega, fun r => by omega⟩
  · have k := zq_mul1 (G := G) (by omega) (show b / 2 < b1 / 2 + b2 / 2 by omega)
    by_cases e : b % 2 = 1
    · have := h1.1 e
      exact ⟨by omega, fun r => by omega⟩
    · have := h1.2 (by omega)
      exact ⟨by omega, fun r => by omega⟩
end ZQ
theorem zq_max {f : Nat → Int} {P : Nat → Prop} : ∀ N, (∃ k, k < N ∧ P k) → ∃ k, k < N ∧ P k ∧ ∀ j, j < N → P j → f j ≤ f k := by
  intro N
  induction N with
  | zero => rintro ⟨k, h, _⟩; omega
  | succ N ih =>
    intro h
    by_cases q : ∃ k, k < N ∧ P k
    · obtain ⟨k, h1, h2, h3⟩ := ih q
      by_cases r : P N ∧ f k < f N
      · refine ⟨N, by omega, r.1, fun j hj hp => ?_⟩
        by_cases e : j = N
        · subst e; exact Int.le_refl _
        · have := h3 j (by omega) hp
          omega
      · refine ⟨k, by omega, h2, fun j hj hp => ?_⟩
        by_cases e : j = N
        · subst e
          by_cases c : f k < f j
          · exact absurd ⟨hp, c⟩ r
          · omega
        · exact h3 j (by omega) hp
    · obtain ⟨k, h1, h2⟩ := h
      have e : k = N := by
        by_cases e : k = N
        · exact e
        · exact absurd ⟨k, by omega, h2⟩ q
      subst e
      refine ⟨k, by omega, h2, fun j hj hp => ?_⟩
      by_cases e : j = k
      · subst e; exact Int.le_refl _
      · exact absurd ⟨j, by omega, hp⟩ q
def zq_in (G s : Int) (S : Nat → Prop) (v z : Nat → Int) : Prop := ∀ i j, i < 4 → j < 4 → S i → S j → zq G s (v i - v j) (z (4 * i + j))
/-- finite bounds are not too great -/
def zq_U (z : Nat → Int) : Prop := ∀ k, k < 16 → z k < 100000 → z k ≤ 45000
section ZQX
variable {G s s' : Int} {z v : Nat → Int} {S : Nat → Prop} {x : Nat}
theorem zq_in.weak (h : zq_in G s S v z) (hs : s' ≤ s) : zq_in G s' S v z := fun i j hi hj a b => (h i j hi hj a b).weak hs
theorem zq_in.up {z' : Nat → Int} (h : zq_in G s S v z) (hz : zo_le z z') (hs : 0 ≤ s ∧ s ≤ G) : zq_in G s S v z' := fun i j hi hj a b => (h i j hi hj a b).up (hz _ (by omega)) hs
/-- one clock more -/
theorem zq_ext {Q : Nat → Prop} {ep : Nat → Int} (hC : zo_C z) (hU : zq_U z) (hs : 0 < s' ∧ 2 * s' ≤ s ∧ s ≤ G) (hv : zq_in G s S v z) (hx : x < 4) (hne : (∃ k, k < 4 ∧ S k ∧ z (4 * k + x) < 100000) ∨ ∃ y, y < 4 ∧ Q y) (he : ∀ y, y < 4 → Q y → ∀ k, k < 4 → S k → zq G s' (ep y - v k) (z (4 * x + k))) : ∃ a, (∀ k, k < 4 → S k → zq G s' (a - v k) (z (4 * x + k)) ∧ zq G s' (v k - a) (z (4 * k + x))) ∧ ∀ y, y < 4 → Q y → ep y ≤ a := by
  obtain ⟨f, ef, eg⟩ : ∃ f : Nat → Int, (∀ k, k < 4 → f k = v k - G * (z (4 * k + x) / 2) + (if z (4 * k + x) % 2 = 0 then s' else 0)) ∧ ∀ y, f (y + 4) = ep y :=
    ⟨fun k => if k < 4 then v k - G * (z (4 * k + x) / 2) + (if z (4 * k + x) % 2 = 0 then s' else 0) else ep (k - 4), fun k hk => if_pos hk, fun y => by
      dsimp only
      rw [if_neg (by omega), Nat.add_sub_cancel]⟩
  obtain ⟨k, k1, k2, k3⟩ := zq_max (f := f) (P := fun k => (k < 4 ∧ S k ∧ z (4 * k + x) < 100000) ∨ (∃ y, k = y + 4 ∧ y < 4 ∧ Q y)) 8 (by
    rcases hne with ⟨k, h1, h2, h3⟩ | ⟨y, h1, h2⟩
    · exact ⟨k, by omega, Or.inl ⟨h1, h2, h3⟩⟩
    · exact ⟨y + 4, by omega, Or.inr ⟨y, rfl, h1, h2⟩⟩)
  refine ⟨f k, fun j hj sj => ⟨?_, ?_⟩, fun y hy qy => ?_⟩
  rotate_left
  · intro hf
    have q := k3 j (by omega) (Or.inl ⟨hj, sj, hf⟩)
    rw [ef j hj] at q
    constructor
    · intro r
      rw [if_neg (show ¬ z (4 * j + x) % 2 = 0 by omega)] at q
      omega
    · intro r
      rw [if_pos r] at q
      omega
  · have q := k3 (y + 4) (by omega) (Or.inr ⟨y, rfl, hy, qy⟩)
    rw [eg] at q
    exact q
  · rcases k2 with ⟨h1, h2, h3⟩ | ⟨y, rfl, hy, h2⟩
    · rw [ef k h1]
      intro hf
      have c := hC.2.2 k x j h1 hx hj h3 hf
      have b1 := hU (4 * k + x) (by omega) h3
      have b2 := hU (4 * x + j) (by omega) hf
      have b3 := zo_fs_le (z (4 * k + x)) (z (4 * x + j))
      have t := (hv k j h1 hj h2 sj).tri c (by omega) (by omega)
      constructor
      · intro r
        by_cases e : z (4 * k + x) % 2 = 0
        · rw [if_pos e]
          have := t.2 (Or.inl e)
          omega
        · rw [if_neg e]
          have := t.1
          omega
      · intro r
        have := t.2 (Or.inr r)
        by_cases e : z (4 * k + x) % 2 = 0
        · rw [if_pos e]
          omega
        · rw [if_neg e]
          omega
    · rw [eg]
      exact he y hy h2 j hj sj
theorem zq_add {a : Int} (h : zq_in G s S v z) (hn : ¬ S x) (hd : z (4 * x + x) = 1) (hx : x < 4) (q : ∀ k, k < 4 → S k → zq G s (a - v k) (z (4 * x + k)) ∧ zq G s (v k - a) (z (4 * k + x))) : zq_in G s (fun i => S i ∨ i = x) (va_up v x a) z := by
  intro i j hi hj si sj
  unfold va_up
  by_cases ci : i = x <;> by_cases cj : j = x
  · subst ci cj
    rw [if_pos rfl, hd]
    intro _
    exact ⟨fun _ => by omega, fun r => absurd r (by decide)⟩
  · subst ci
    rw [if_pos rfl, if_neg cj]
    exact (q j hj (sj.elim id (fun e => absurd e cj))).1
  · subst cj
    rw [if_neg ci, if_pos rfl]
    exact (q i hi (si.elim id (fun e => absurd e ci))).2
  · rw [if_neg ci, if_neg cj]
    exact h i j hi hj (si.elim id (fun e => absurd e ci)) (sj.elim id (fun e => absurd e cj))
abbrev zq_all : Nat → Prop := fun _ => True
theorem zq_in.sub {S' : Nat → Prop} (h : zq_in G s S v z) (e : ∀ i, i < 4 → S' i → S i) : zq_in G s S' v z := fun i j hi hj a b => h i j hi hj (e i hi a) (e j hj b)
/-- before a clock was set -/
theorem zq_rs (hC : zo_C z) (hU : zq_U z) (hL : ∀ j, j < 4 → z j ≤ 1) (hs : 0 < s' ∧ 2 * s' ≤ s ∧ s ≤ G) (hx : 1 ≤ x ∧ x < 4) (h : zq_in G s zq_all v (zo_rs z x)) : ∃ a, zq_in G s' zq_all (va_up v x a) z := by
  have hv : zq_in G s (fun i => i ≠ x) v z := fun i j hi hj a b => by
    have q := h i j hi hj trivial trivial
    rw [zo_rs_at hj] at q
    unfold zo_sg at q
    rw [if_neg a, if_neg b] at q
    exact q
  obtain ⟨a, h1, _⟩ := zq_ext (Q := fun _ => False) (ep := fun _ => 0) hC hU hs hv hx.2 (Or.inl ⟨0, by omega, by omega, by have := hL x hx.2; rw [Nat.mul_zero, Nat.zero_add]; omega⟩) (fun y _ q => q.elim)
  exact ⟨a, (zq_add (hv.weak (by omega)) (fun q => q rfl) (hC.1 x hx.2) hx.2 h1).sub (fun i _ _ => by by_cases e : i = x; exact Or.inr e; exact Or.inl e)⟩
theorem zq_rs0 (h : zq_in G s zq_all v (zo_rs z x)) (h0 : v 0 = 0) (hd : z 0 = 1) (hx : 1 ≤ x ∧ x < 4) : v x = 0 := by
  have q1 := h x 0 hx.2 (by omega) trivial trivial
  have q2 := h 0 x (by omega) hx.2 trivial trivial
  rw [zo_rs_at (by omega)] at q1
  rw [zo_rs_at hx.2] at q2
  unfold zo_sg at q1 q2
  rw [if_pos rfl, if_neg (show ¬ (0 : Nat) = x by omega), Nat.mul_zero, Nat.add_zero, hd] at q1
  rw [if_pos rfl, if_neg (show ¬ (0 : Nat) = x by omega), Nat.mul_zero, Nat.add_zero, hd] at q2
  have a1 := (q1 (by omega)).1 (by decide)
  have a2 := (q2 (by omega)).1 (by decide)
  rw [show (1 : Int) / 2 = 0 by decide, Int.mul_zero] at a1 a2
  omega
/-- before time went by -/
theorem zq_tm (hC : zo_C z) (hU : zq_U z) (hs : 0 < s' ∧ 2 * s' ≤ s ∧ s ≤ G) (h0 : v 0 = 0) (h : zq_in G s zq_all v (zo_tm z)) : ∃ a, 0 ≤ a ∧ zq_in G s' zq_all (fun i => if i = 0 then 0 else v i - a) z := by
  have hv : zq_in G s (fun i => i ≠ 0) v z := fun i j hi hj a b => by
    have q := h i j hi hj trivial trivial
    unfold zo_tm at q
    rw [if_neg (by omega)] at q
    exact q
  obtain ⟨a, h1, h2⟩ := zq_ext (Q := fun y => y = 0) (ep := fun _ => 0) hC hU hs hv (show 0 < 4 by omega) (Or.inr ⟨0, by omega, rfl⟩) (fun y _ q k hk sk => by
    have q := h 0 k (by omega) hk trivial trivial
    unfold zo_tm at q
    rw [if_neg (by omega), h0] at q
    exact q.weak (by omega))
  refine ⟨a, h2 0 (by omega) rfl, fun i j hi hj _ _ => ?_⟩
  have k := zq_add (hv.weak (show s' ≤ s by omega)) (fun q => q rfl) (hC.1 0 (by omega)) (by omega) h1 i j hi hj (by omega) (by omega)
  unfold va_up at k
  have e : (if i = 0 then 0 else v i - a) - (if j = 0 then 0 else v j - a) = (if i = 0 then a else v i) - (if j = 0 then a else v j) := by
    by_cases ci : i = 0 <;> by_cases cj : j = 0 <;> simp only [ci, cj, if_true, if_false] <;> omega
  rw [e]
  exact k
end ZQX
